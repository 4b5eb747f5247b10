set_option maxRecDepth 20000 in
theorem in_X11_shown_X11 : ∀ w ∈ u_ws RX11 TX11 11, w ∈ wsX11_shown := by decide +kernel
set_option maxRecDepth 20000 in
theorem in_X11_shown_X7 : ∀ w ∈ u_ws RX7 TX7 11, w ∈ wsX11_shown := by decide +kernel
def f_X11_shown (n_now_seen_answers : Nat) (v_now_seen_length : Int32) (v_now_seen_side : Int32) (v_now_seen_round : Int32) (v_now_seen_answers : Nat → Int32) (v_now_seen_stack : Nat → Int32) (v_now_seen_steps : Nat → Int32) (v_now_wall_rows : Int32) (v_now_wall_columns : Int32) (v_now_wall_air : Nat → Int32) : Option (Int32 × (Nat → Int32) × (Nat → Int32)) :=
  kb3 (f_X10_shownBy n_now_seen_answers v_now_wall_rows v_now_wall_columns v_now_wall_air v_now_seen_length v_now_seen_side v_now_seen_round v_now_seen_answers v_now_seen_stack v_now_seen_steps) fun r_2 w_3 w_4 =>
  some (r_2, w_3, w_4)

abbrev rm_X11_shown : Room := { frames := 4, cells := 0, slots := 0, locals := 98 }
set_option maxHeartbeats 4000000 in
set_option maxRecDepth 100000 in
theorem c_X11_shown (l : Launch) (D : va_G) (c : Nat → ClassId) (q_this q_now q_kept q_kinds q_voice q_thought q_further q_errors q_sheetBits q_sheetLength q_numbers q_now_wall q_now_kind q_now_m q_now_tape q_now_moved q_now_seen q_now_told q_now_seen_names q_now_seen_steps q_now_seen_stack q_now_seen_answers q_now_seen_draft q_now_seen_held q_now_wall_air q_now_wall_paste q_now_wall_open q_now_wall_met q_now_wall_line : Nat) (n_now_seen_answers : Nat) (v_images : Int32) (v_now_tools : Int32) (v_now_tapeLength : Int32) (v_now_z : Int32) (v_now_waiting : Int32) (v_now_seen_length : Int32) (v_now_seen_side : Int32) (v_now_seen_round : Int32) (v_now_seen_drafted : Int32) (v_now_seen_holding : Int32) (v_now_seen_open : Int32) (v_now_seen_digits : Int32) (v_now_seen_wantsOperand : Int32) (v_now_seen_answers : Nat → Int32) (v_now_seen_stack : Nat → Int32) (v_now_seen_steps : Nat → Int32) (v_now_wall_rows : Int32) (v_now_wall_columns : Int32) (v_now_wall_holes : Int32) (v_now_wall_out : Int32) (v_now_wall_night : Int32) (v_now_wall_inLine : Int32) (v_now_wall_air : Nat → Int32) (o_r : Int32) (o_v_now_seen_answers : Nat → Int32) (o_v_now_seen_stack : Nat → Int32) (h : f_X11_shown n_now_seen_answers v_now_seen_length v_now_seen_side v_now_seen_round v_now_seen_answers v_now_seen_stack v_now_seen_steps v_now_wall_rows v_now_wall_columns v_now_wall_air = some (o_r, o_v_now_seen_answers, o_v_now_seen_stack)) : gMI l yX11_shown wsX11_shown rm_X11_shown D c [.ref q_this] [(q_this, .inr (11, [.ref q_now, .ref q_kept, .int v_images, .ref q_kinds, .ref q_voice, .ref q_thought, .ref q_further, .ref q_errors, .ref q_sheetBits, .ref q_sheetLength, .ref q_numbers])), (q_now, .inr (7, [.ref q_now_wall, .int v_now_tools, .ref q_now_kind, .ref q_now_m, .ref q_now_tape, .int v_now_tapeLength, .ref q_now_moved, .ref q_now_seen, .int v_now_z, .ref q_now_told, .int v_now_waiting])), (q_now_seen, .inr (3, [.ref q_now_seen_names, .ref q_now_seen_steps, .int v_now_seen_length, .ref q_now_seen_stack, .ref q_now_seen_answers, .int v_now_seen_side, .int v_now_seen_round, .ref q_now_seen_draft, .int v_now_seen_drafted, .ref q_now_seen_held, .int v_now_seen_holding, .int v_now_seen_open, .int v_now_seen_digits, .int v_now_seen_wantsOperand])), (q_now_seen_answers, .inl (c 0, n_now_seen_answers, .inl v_now_seen_answers)), (q_now_seen_stack, .inl (c 0, 50, .inl v_now_seen_stack)), (q_now_seen_steps, .inl (c 0, 50, .inl v_now_seen_steps)), (q_now_wall, .inr (10, [.int v_now_wall_rows, .int v_now_wall_columns, .ref q_now_wall_air, .ref q_now_wall_paste, .ref q_now_wall_open, .int v_now_wall_holes, .int v_now_wall_out, .int v_now_wall_night, .ref q_now_wall_met, .ref q_now_wall_line, .int v_now_wall_inLine])), (q_now_wall_air, .inl (c 0, 25, .inl v_now_wall_air))] [(q_this, .inr (11, [.ref q_now, .ref q_kept, .int v_images, .ref q_kinds, .ref q_voice, .ref q_thought, .ref q_further, .ref q_errors, .ref q_sheetBits, .ref q_sheetLength, .ref q_numbers])), (q_now, .inr (7, [.ref q_now_wall, .int v_now_tools, .ref q_now_kind, .ref q_now_m, .ref q_now_tape, .int v_now_tapeLength, .ref q_now_moved, .ref q_now_seen, .int v_now_z, .ref q_now_told, .int v_now_waiting])), (q_now_seen, .inr (3, [.ref q_now_seen_names, .ref q_now_seen_steps, .int v_now_seen_length, .ref q_now_seen_stack, .ref q_now_seen_answers, .int v_now_seen_side, .int v_now_seen_round, .ref q_now_seen_draft, .int v_now_seen_drafted, .ref q_now_seen_held, .int v_now_seen_holding, .int v_now_seen_open, .int v_now_seen_digits, .int v_now_seen_wantsOperand])), (q_now_seen_answers, .inl (c 0, n_now_seen_answers, .inl o_v_now_seen_answers)), (q_now_seen_stack, .inl (c 0, 50, .inl o_v_now_seen_stack)), (q_now_seen_steps, .inl (c 0, 50, .inl v_now_seen_steps)), (q_now_wall, .inr (10, [.int v_now_wall_rows, .int v_now_wall_columns, .ref q_now_wall_air, .ref q_now_wall_paste, .ref q_now_wall_open, .int v_now_wall_holes, .int v_now_wall_out, .int v_now_wall_night, .ref q_now_wall_met, .ref q_now_wall_line, .int v_now_wall_inLine])), (q_now_wall_air, .inl (c 0, 25, .inl v_now_wall_air))] o_r := by
  refine gMI_of (cc := cX11_shown) (maxL := 1) (rt := (some .int)) (by decide +kernel) rfl (Nat.le_of_ble_eq_true rfl) ?_
  intro p e s m below meth co A hF hK hX hP hD hA hS ls hl
  obtain ⟨hx, hb, hr, hts, hown, hlocks, hml⟩ := id hF
  have hl : lv_has ls 1 [(0, .ref q_this)] := hl
  unfold f_X11_shown at h
  refine lv_aload_n hx hb dX11_shown_0 rfl (lv_at hl 0 rfl) ?_
  refine va_get (D := D) (ci := 11) (v := .ref q_now) (C := RX11) (T := TX11) (N := 11) hx hb hts in_X11_shown_X11 hown hK.1 hP 0 rfl rfl 0 (by decide) (hts (.fieldLink RX11 14 "PaperBubbles" "now" "LPaperBubbles$State;") (List.mem_of_getElem? (i := 1) rfl)) (fun _ h9 => h9) rfl dX11_shown_1 ?_
  refine va_getN (D := D) (ci := 7) (v := .ref q_now_wall) (C := RX7) (T := TX7) (N := 11) hx hb hts in_X11_shown_X7 hown hK.1 hP 1 rfl rfl 0 (by decide) (va_Nw.use rfl (hK.2 (.fieldLinkNest "PaperBubbles" 86 "PaperBubbles$State" "wall" "LPaperBubbles$Wall;" "PaperBubbles") (List.mem_of_getElem? (i := 18) rfl))) (fun _ h9 => h9) rfl dX11_shown_4 ?_
  refine lv_aload_n hx hb dX11_shown_7 rfl (lv_at hl 0 rfl) ?_
  refine va_get (D := D) (ci := 11) (v := .ref q_now) (C := RX11) (T := TX11) (N := 11) hx hb hts in_X11_shown_X11 hown hK.1 hP 0 rfl rfl 0 (by decide) (hts (.fieldLink RX11 14 "PaperBubbles" "now" "LPaperBubbles$State;") (List.mem_of_getElem? (i := 1) rfl)) (fun _ h9 => h9) rfl dX11_shown_8 ?_
  refine va_getN (D := D) (ci := 7) (v := .ref q_now_seen) (C := RX7) (T := TX7) (N := 11) hx hb hts in_X11_shown_X7 hown hK.1 hP 1 rfl rfl 7 (by decide) (va_Nw.use rfl (hK.2 (.fieldLinkNest "PaperBubbles" 107 "PaperBubbles$State" "seen" "LPaperBubbles$Law;" "PaperBubbles") (List.mem_of_getElem? (i := 2) rfl))) (fun _ h9 => h9) rfl dX11_shown_11 ?_
  obtain ⟨r_2, w_3, w_4, hc_1, h⟩ := kb3_ok h
  refine gCallI (isC := [6, 7, 2, 3, 4, 5]) (wc := [(q_now_wall, .inr (10, [.int v_now_wall_rows, .int v_now_wall_columns, .ref q_now_wall_air, .ref q_now_wall_paste, .ref q_now_wall_open, .int v_now_wall_holes, .int v_now_wall_out, .int v_now_wall_night, .ref q_now_wall_met, .ref q_now_wall_line, .int v_now_wall_inLine])), (q_now_wall_air, .inl (c 0, 25, .inl v_now_wall_air)), (q_now_seen, .inr (3, [.ref q_now_seen_names, .ref q_now_seen_steps, .int v_now_seen_length, .ref q_now_seen_stack, .ref q_now_seen_answers, .int v_now_seen_side, .int v_now_seen_round, .ref q_now_seen_draft, .int v_now_seen_drafted, .ref q_now_seen_held, .int v_now_seen_holding, .int v_now_seen_open, .int v_now_seen_digits, .int v_now_seen_wantsOperand])), (q_now_seen_answers, .inl (c 0, n_now_seen_answers, .inl v_now_seen_answers)), (q_now_seen_stack, .inl (c 0, 50, .inl v_now_seen_stack)), (q_now_seen_steps, .inl (c 0, 50, .inl v_now_seen_steps))]) (w1 := [(q_now_wall, .inr (10, [.int v_now_wall_rows, .int v_now_wall_columns, .ref q_now_wall_air, .ref q_now_wall_paste, .ref q_now_wall_open, .int v_now_wall_holes, .int v_now_wall_out, .int v_now_wall_night, .ref q_now_wall_met, .ref q_now_wall_line, .int v_now_wall_inLine])), (q_now_wall_air, .inl (c 0, 25, .inl v_now_wall_air)), (q_now_seen, .inr (3, [.ref q_now_seen_names, .ref q_now_seen_steps, .int v_now_seen_length, .ref q_now_seen_stack, .ref q_now_seen_answers, .int v_now_seen_side, .int v_now_seen_round, .ref q_now_seen_draft, .int v_now_seen_drafted, .ref q_now_seen_held, .int v_now_seen_holding, .int v_now_seen_open, .int v_now_seen_digits, .int v_now_seen_wantsOperand])), (q_now_seen_answers, .inl (c 0, n_now_seen_answers, .inl w_3)), (q_now_seen_stack, .inl (c 0, 50, .inl w_4)), (q_now_seen_steps, .inl (c 0, 50, .inl v_now_seen_steps))]) hP hD hS hA rfl rfl (va_runV (rm := rm_X10_shownBy) (ws := wsX10_shownBy) (As := [.ref q_now_seen]) (rest := []) (gFix hF) (c_X10_shownBy l D c q_now_wall q_now_seen q_now_wall_air q_now_wall_paste q_now_wall_open q_now_wall_met q_now_wall_line q_now_seen_names q_now_seen_steps q_now_seen_stack q_now_seen_answers q_now_seen_draft q_now_seen_held n_now_seen_answers v_now_wall_rows v_now_wall_columns v_now_wall_holes v_now_wall_out v_now_wall_night v_now_wall_inLine v_now_wall_air v_now_seen_length v_now_seen_side v_now_seen_round v_now_seen_drafted v_now_seen_holding v_now_seen_open v_now_seen_digits v_now_seen_wantsOperand v_now_seen_answers v_now_seen_stack v_now_seen_steps r_2 w_3 w_4 hc_1 s.heap.size) (cwV 1 hts gX11_shown_X10_shownBy rfl rfl rfl (by decide +kernel) ⟨Nat.le_of_ble_eq_true rfl, Nat.le_of_ble_eq_true rfl⟩) (gPreV (wc := [(q_now_wall, .inr (10, [.int v_now_wall_rows, .int v_now_wall_columns, .ref q_now_wall_air, .ref q_now_wall_paste, .ref q_now_wall_open, .int v_now_wall_holes, .int v_now_wall_out, .int v_now_wall_night, .ref q_now_wall_met, .ref q_now_wall_line, .int v_now_wall_inLine])), (q_now_wall_air, .inl (c 0, 25, .inl v_now_wall_air)), (q_now_seen, .inr (3, [.ref q_now_seen_names, .ref q_now_seen_steps, .int v_now_seen_length, .ref q_now_seen_stack, .ref q_now_seen_answers, .int v_now_seen_side, .int v_now_seen_round, .ref q_now_seen_draft, .int v_now_seen_drafted, .ref q_now_seen_held, .int v_now_seen_holding, .int v_now_seen_open, .int v_now_seen_digits, .int v_now_seen_wantsOperand])), (q_now_seen_answers, .inl (c 0, n_now_seen_answers, .inl v_now_seen_answers)), (q_now_seen_stack, .inl (c 0, 50, .inl v_now_seen_stack)), (q_now_seen_steps, .inl (c 0, 50, .inl v_now_seen_steps))]) (q := (RX10, TX10, 11)) (ci := 10) (q0 := 6) (isC := [6, 7, 2, 3, 4, 5]) hK hX hS hA hP hD rfl (by decide) rfl rfl) rfl rfl hl.1 rfl (lv_room (Nat.le_of_ble_eq_true rfl)) dX11_shown_14 ⟨Nat.le_of_ble_eq_true rfl, Nat.le_of_ble_eq_true rfl⟩) (fun H locs hP hD hS => ?_)
  have hP : va_P D gcl [(q_this, .inr (11, [.ref q_now, .ref q_kept, .int v_images, .ref q_kinds, .ref q_voice, .ref q_thought, .ref q_further, .ref q_errors, .ref q_sheetBits, .ref q_sheetLength, .ref q_numbers])), (q_now, .inr (7, [.ref q_now_wall, .int v_now_tools, .ref q_now_kind, .ref q_now_m, .ref q_now_tape, .int v_now_tapeLength, .ref q_now_moved, .ref q_now_seen, .int v_now_z, .ref q_now_told, .int v_now_waiting])), (q_now_seen, .inr (3, [.ref q_now_seen_names, .ref q_now_seen_steps, .int v_now_seen_length, .ref q_now_seen_stack, .ref q_now_seen_answers, .int v_now_seen_side, .int v_now_seen_round, .ref q_now_seen_draft, .int v_now_seen_drafted, .ref q_now_seen_held, .int v_now_seen_holding, .int v_now_seen_open, .int v_now_seen_digits, .int v_now_seen_wantsOperand])), (q_now_seen_answers, .inl (c 0, n_now_seen_answers, .inl w_3)), (q_now_seen_stack, .inl (c 0, 50, .inl w_4)), (q_now_seen_steps, .inl (c 0, 50, .inl v_now_seen_steps)), (q_now_wall, .inr (10, [.int v_now_wall_rows, .int v_now_wall_columns, .ref q_now_wall_air, .ref q_now_wall_paste, .ref q_now_wall_open, .int v_now_wall_holes, .int v_now_wall_out, .int v_now_wall_night, .ref q_now_wall_met, .ref q_now_wall_line, .int v_now_wall_inLine])), (q_now_wall_air, .inl (c 0, 25, .inl v_now_wall_air))] H := hP
  have hD : va_D A [(q_this, .inr (11, [.ref q_now, .ref q_kept, .int v_images, .ref q_kinds, .ref q_voice, .ref q_thought, .ref q_further, .ref q_errors, .ref q_sheetBits, .ref q_sheetLength, .ref q_numbers])), (q_now, .inr (7, [.ref q_now_wall, .int v_now_tools, .ref q_now_kind, .ref q_now_m, .ref q_now_tape, .int v_now_tapeLength, .ref q_now_moved, .ref q_now_seen, .int v_now_z, .ref q_now_told, .int v_now_waiting])), (q_now_seen, .inr (3, [.ref q_now_seen_names, .ref q_now_seen_steps, .int v_now_seen_length, .ref q_now_seen_stack, .ref q_now_seen_answers, .int v_now_seen_side, .int v_now_seen_round, .ref q_now_seen_draft, .int v_now_seen_drafted, .ref q_now_seen_held, .int v_now_seen_holding, .int v_now_seen_open, .int v_now_seen_digits, .int v_now_seen_wantsOperand])), (q_now_seen_answers, .inl (c 0, n_now_seen_answers, .inl w_3)), (q_now_seen_stack, .inl (c 0, 50, .inl w_4)), (q_now_seen_steps, .inl (c 0, 50, .inl v_now_seen_steps)), (q_now_wall, .inr (10, [.int v_now_wall_rows, .int v_now_wall_columns, .ref q_now_wall_air, .ref q_now_wall_paste, .ref q_now_wall_open, .int v_now_wall_holes, .int v_now_wall_out, .int v_now_wall_night, .ref q_now_wall_met, .ref q_now_wall_line, .int v_now_wall_inLine])), (q_now_wall_air, .inl (c 0, 25, .inl v_now_wall_air))] := hD
  cases h
  exact gIret hF hP hD hS rfl dX11_shown_17
set_option maxRecDepth 20000 in
theorem in_X11_stroke_X10 : ∀ w ∈ u_ws RX10 TX10 11, w ∈ wsX11_stroke := by decide +kernel
set_option maxRecDepth 20000 in
theorem in_X11_stroke_X11 : ∀ w ∈ u_ws RX11 TX11 11, w ∈ wsX11_stroke := by decide +kernel
set_option maxRecDepth 20000 in
theorem in_X11_stroke_X7 : ∀ w ∈ u_ws RX7 TX7 11, w ∈ wsX11_stroke := by decide +kernel
def f_X11_stroke_L23 (v_errors : Nat → Int32) (v_now_moved_answers : Nat → Int32) (v_now_moved_stack : Nat → Int32) (v_now_wall_holes : Int32) (v_now_wall_out : Int32) (v_now_wall_air : Nat → Int32) : Option (Int32 × (Nat → Int32) × (Nat → Int32) × (Nat → Int32) × Int32 × Int32 × (Nat → Int32)) :=
  kb2 (f_X11_error 1 v_errors) fun r_22 w_23 =>
  some (r_22, w_23, v_now_moved_answers, v_now_moved_stack, v_now_wall_holes, v_now_wall_out, v_now_wall_air)

def f_X11_stroke (a_1 : Int32) (a_2 : Int32) (a_3 : Int32) (n_now_moved_answers : Nat) (v_errors : Nat → Int32) (v_now_tools : Int32) (v_now_kind : Nat → Int32) (v_now_m : Nat → Int32) (v_now_moved_length : Int32) (v_now_moved_side : Int32) (v_now_moved_round : Int32) (v_now_moved_answers : Nat → Int32) (v_now_moved_stack : Nat → Int32) (v_now_moved_steps : Nat → Int32) (v_now_wall_rows : Int32) (v_now_wall_columns : Int32) (v_now_wall_holes : Int32) (v_now_wall_out : Int32) (v_now_wall_air : Nat → Int32) (v_now_wall_open : Nat → Int32) (v_now_wall_paste : Nat → Int32) : Option (Int32 × (Nat → Int32) × (Nat → Int32) × (Nat → Int32) × Int32 × Int32 × (Nat → Int32)) :=
  kb (f_X11_isTool a_1 v_now_tools) fun r_2 =>
  if r_2 = 0 then
    f_X11_stroke_L23 v_errors v_now_moved_answers v_now_moved_stack v_now_wall_holes v_now_wall_out v_now_wall_air
  else
    kb (f_X11_isCell a_2 v_now_wall_rows v_now_wall_columns) fun r_5 =>
    if r_5 = 0 then
      f_X11_stroke_L23 v_errors v_now_moved_answers v_now_moved_stack v_now_wall_holes v_now_wall_out v_now_wall_air
    else
      kb (f_X11_isWay a_3) fun r_8 =>
      if r_8 = 0 then
        f_X11_stroke_L23 v_errors v_now_moved_answers v_now_moved_stack v_now_wall_holes v_now_wall_out v_now_wall_air
      else
        kb (f_X11_kindOf a_1 v_now_tools v_now_kind) fun r_11 =>
        chi a_1 6 <|
        nm (v_now_m a_1.toNatClampNeg) fun t_13 =>
        kb5 (f_X10_strike t_13 a_2 a_3 r_11 n_now_moved_answers v_now_wall_rows v_now_wall_columns v_now_wall_holes v_now_wall_out v_now_wall_air v_now_wall_open v_now_wall_paste v_now_moved_length v_now_moved_side v_now_moved_round v_now_moved_answers v_now_moved_stack v_now_moved_steps) fun w_15 w_16 w_17 w_18 w_19 =>
        chi a_2 25 <|
        some (w_17 a_2.toNatClampNeg, v_errors, w_18, w_19, w_15, w_16, w_17)

abbrev rm_X11_stroke : Room := { frames := 5, cells := 0, slots := 0, locals := 130 }
set_option maxHeartbeats 4000000 in
set_option maxRecDepth 100000 in
theorem c_X11_stroke (l : Launch) (D : va_G) (c : Nat → ClassId) (q_this q_now q_kept q_kinds q_voice q_thought q_further q_errors q_sheetBits q_sheetLength q_numbers q_now_wall q_now_kind q_now_m q_now_tape q_now_moved q_now_seen q_now_told q_now_moved_names q_now_moved_steps q_now_moved_stack q_now_moved_answers q_now_moved_draft q_now_moved_held q_now_wall_air q_now_wall_paste q_now_wall_open q_now_wall_met q_now_wall_line : Nat) (ta : Nat → Nat) (n_now_moved_answers : Nat) (a_1 : Int32) (a_2 : Int32) (a_3 : Int32) (v_images : Int32) (v_errors : Nat → Int32) (v_now_tools : Int32) (v_now_tapeLength : Int32) (v_now_z : Int32) (v_now_waiting : Int32) (v_now_kind : Nat → Int32) (v_now_m : Nat → Int32) (v_now_moved_length : Int32) (v_now_moved_side : Int32) (v_now_moved_round : Int32) (v_now_moved_drafted : Int32) (v_now_moved_holding : Int32) (v_now_moved_open : Int32) (v_now_moved_digits : Int32) (v_now_moved_wantsOperand : Int32) (v_now_moved_answers : Nat → Int32) (v_now_moved_stack : Nat → Int32) (v_now_moved_steps : Nat → Int32) (v_now_wall_rows : Int32) (v_now_wall_columns : Int32) (v_now_wall_holes : Int32) (v_now_wall_out : Int32) (v_now_wall_night : Int32) (v_now_wall_inLine : Int32) (v_now_wall_air : Nat → Int32) (v_now_wall_open : Nat → Int32) (v_now_wall_paste : Nat → Int32) (o_r : Int32) (o_v_errors : Nat → Int32) (o_v_now_moved_answers : Nat → Int32) (o_v_now_moved_stack : Nat → Int32) (o_v_now_wall_holes : Int32) (o_v_now_wall_out : Int32) (o_v_now_wall_air : Nat → Int32) (h : f_X11_stroke a_1 a_2 a_3 n_now_moved_answers v_errors v_now_tools v_now_kind v_now_m v_now_moved_length v_now_moved_side v_now_moved_round v_now_moved_answers v_now_moved_stack v_now_moved_steps v_now_wall_rows v_now_wall_columns v_now_wall_holes v_now_wall_out v_now_wall_air v_now_wall_open v_now_wall_paste = some (o_r, o_v_errors, o_v_now_moved_answers, o_v_now_moved_stack, o_v_now_wall_holes, o_v_now_wall_out, o_v_now_wall_air)) : gMI l yX11_stroke wsX11_stroke rm_X11_stroke D c [.ref q_this, .int a_1, .int a_2, .int a_3] [(q_this, .inr (11, [.ref q_now, .ref q_kept, .int v_images, .ref q_kinds, .ref q_voice, .ref q_thought, .ref q_further, .ref q_errors, .ref q_sheetBits, .ref q_sheetLength, .ref q_numbers])), (q_errors, .inl (c 0, 6, .inl v_errors)), (q_kinds, .inl (c 1, 7, .inr (.inr (.inr (.inr (fun j => some (ta j))))))), (q_now, .inr (7, [.ref q_now_wall, .int v_now_tools, .ref q_now_kind, .ref q_now_m, .ref q_now_tape, .int v_now_tapeLength, .ref q_now_moved, .ref q_now_seen, .int v_now_z, .ref q_now_told, .int v_now_waiting])), (q_now_kind, .inl (c 0, 6, .inl v_now_kind)), (q_now_m, .inl (c 0, 6, .inl v_now_m)), (q_now_moved, .inr (3, [.ref q_now_moved_names, .ref q_now_moved_steps, .int v_now_moved_length, .ref q_now_moved_stack, .ref q_now_moved_answers, .int v_now_moved_side, .int v_now_moved_round, .ref q_now_moved_draft, .int v_now_moved_drafted, .ref q_now_moved_held, .int v_now_moved_holding, .int v_now_moved_open, .int v_now_moved_digits, .int v_now_moved_wantsOperand])), (q_now_moved_answers, .inl (c 0, n_now_moved_answers, .inl v_now_moved_answers)), (q_now_moved_stack, .inl (c 0, 50, .inl v_now_moved_stack)), (q_now_moved_steps, .inl (c 0, 50, .inl v_now_moved_steps)), (q_now_wall, .inr (10, [.int v_now_wall_rows, .int v_now_wall_columns, .ref q_now_wall_air, .ref q_now_wall_paste, .ref q_now_wall_open, .int v_now_wall_holes, .int v_now_wall_out, .int v_now_wall_night, .ref q_now_wall_met, .ref q_now_wall_line, .int v_now_wall_inLine])), (q_now_wall_air, .inl (c 0, 25, .inl v_now_wall_air)), (q_now_wall_open, .inl (c 0, 4, .inl v_now_wall_open)), (q_now_wall_paste, .inl (c 0, 25, .inl v_now_wall_paste)), (ta 0, .inr (8, [])), (ta 1, .inr (0, [])), (ta 2, .inr (4, [])), (ta 3, .inr (5, [])), (ta 4, .inr (6, [])), (ta 5, .inr (2, [])), (ta 6, .inr (1, []))] [(q_this, .inr (11, [.ref q_now, .ref q_kept, .int v_images, .ref q_kinds, .ref q_voice, .ref q_thought, .ref q_further, .ref q_errors, .ref q_sheetBits, .ref q_sheetLength, .ref q_numbers])), (q_errors, .inl (c 0, 6, .inl o_v_errors)), (q_kinds, .inl (c 1, 7, .inr (.inr (.inr (.inr (fun j => some (ta j))))))), (q_now, .inr (7, [.ref q_now_wall, .int v_now_tools, .ref q_now_kind, .ref q_now_m, .ref q_now_tape, .int v_now_tapeLength, .ref q_now_moved, .ref q_now_seen, .int v_now_z, .ref q_now_told, .int v_now_waiting])), (q_now_kind, .inl (c 0, 6, .inl v_now_kind)), (q_now_m, .inl (c 0, 6, .inl v_now_m)), (q_now_moved, .inr (3, [.ref q_now_moved_names, .ref q_now_moved_steps, .int v_now_moved_length, .ref q_now_moved_stack, .ref q_now_moved_answers, .int v_now_moved_side, .int v_now_moved_round, .ref q_now_moved_draft, .int v_now_moved_drafted, .ref q_now_moved_held, .int v_now_moved_holding, .int v_now_moved_open, .int v_now_moved_digits, .int v_now_moved_wantsOperand])), (q_now_moved_answers, .inl (c 0, n_now_moved_answers, .inl o_v_now_moved_answers)), (q_now_moved_stack, .inl (c 0, 50, .inl o_v_now_moved_stack)), (q_now_moved_steps, .inl (c 0, 50, .inl v_now_moved_steps)), (q_now_wall, .inr (10, [.int v_now_wall_rows, .int v_now_wall_columns, .ref q_now_wall_air, .ref q_now_wall_paste, .ref q_now_wall_open, .int o_v_now_wall_holes, .int o_v_now_wall_out, .int v_now_wall_night, .ref q_now_wall_met, .ref q_now_wall_line, .int v_now_wall_inLine])), (q_now_wall_air, .inl (c 0, 25, .inl o_v_now_wall_air)), (q_now_wall_open, .inl (c 0, 4, .inl v_now_wall_open)), (q_now_wall_paste, .inl (c 0, 25, .inl v_now_wall_paste)), (ta 0, .inr (8, [])), (ta 1, .inr (0, [])), (ta 2, .inr (4, [])), (ta 3, .inr (5, [])), (ta 4, .inr (6, [])), (ta 5, .inr (2, [])), (ta 6, .inr (1, []))] o_r := by
  refine gMI_of (cc := cX11_stroke) (maxL := 4) (rt := (some .int)) (by decide +kernel) rfl (Nat.le_of_ble_eq_true rfl) ?_
  intro p e s m below meth co A hF hK hX hP hD hA hS ls hl
  obtain ⟨hx, hb, hr, hts, hown, hlocks, hml⟩ := id hF
  have hl : lv_has ls 4 [(0, .ref q_this), (1, .int a_1), (2, .int a_2), (3, .int a_3)] := hl
  have t_L23 : ∀ (v_errors : Nat → Int32) (v_now_moved_answers : Nat → Int32) (v_now_moved_stack : Nat → Int32) (v_now_wall_holes : Int32) (v_now_wall_out : Int32) (v_now_wall_air : Nat → Int32) (H : Heap) (locs : List Loc), va_P D gcl [(q_this, .inr (11, [.ref q_now, .ref q_kept, .int v_images, .ref q_kinds, .ref q_voice, .ref q_thought, .ref q_further, .ref q_errors, .ref q_sheetBits, .ref q_sheetLength, .ref q_numbers])), (q_errors, .inl (c 0, 6, .inl v_errors)), (q_kinds, .inl (c 1, 7, .inr (.inr (.inr (.inr (fun j => some (ta j))))))), (q_now, .inr (7, [.ref q_now_wall, .int v_now_tools, .ref q_now_kind, .ref q_now_m, .ref q_now_tape, .int v_now_tapeLength, .ref q_now_moved, .ref q_now_seen, .int v_now_z, .ref q_now_told, .int v_now_waiting])), (q_now_kind, .inl (c 0, 6, .inl v_now_kind)), (q_now_m, .inl (c 0, 6, .inl v_now_m)), (q_now_moved, .inr (3, [.ref q_now_moved_names, .ref q_now_moved_steps, .int v_now_moved_length, .ref q_now_moved_stack, .ref q_now_moved_answers, .int v_now_moved_side, .int v_now_moved_round, .ref q_now_moved_draft, .int v_now_moved_drafted, .ref q_now_moved_held, .int v_now_moved_holding, .int v_now_moved_open, .int v_now_moved_digits, .int v_now_moved_wantsOperand])), (q_now_moved_answers, .inl (c 0, n_now_moved_answers, .inl v_now_moved_answers)), (q_now_moved_stack, .inl (c 0, 50, .inl v_now_moved_stack)), (q_now_moved_steps, .inl (c 0, 50, .inl v_now_moved_steps)), (q_now_wall, .inr (10, [.int v_now_wall_rows, .int v_now_wall_columns, .ref q_now_wall_air, .ref q_now_wall_paste, .ref q_now_wall_open, .int v_now_wall_holes, .int v_now_wall_out, .int v_now_wall_night, .ref q_now_wall_met, .ref q_now_wall_line, .int v_now_wall_inLine])), (q_now_wall_air, .inl (c 0, 25, .inl v_now_wall_air)), (q_now_wall_open, .inl (c 0, 4, .inl v_now_wall_open)), (q_now_wall_paste, .inl (c 0, 25, .inl v_now_wall_paste)), (ta 0, .inr (8, [])), (ta 1, .inr (0, [])), (ta 2, .inr (4, [])), (ta 3, .inr (5, [])), (ta 4, .inr (6, [])), (ta 5, .inr (2, [])), (ta 6, .inr (1, []))] H → va_D A [(q_this, .inr (11, [.ref q_now, .ref q_kept, .int v_images, .ref q_kinds, .ref q_voice, .ref q_thought, .ref q_further, .ref q_errors, .ref q_sheetBits, .ref q_sheetLength, .ref q_numbers])), (q_errors, .inl (c 0, 6, .inl v_errors)), (q_kinds, .inl (c 1, 7, .inr (.inr (.inr (.inr (fun j => some (ta j))))))), (q_now, .inr (7, [.ref q_now_wall, .int v_now_tools, .ref q_now_kind, .ref q_now_m, .ref q_now_tape, .int v_now_tapeLength, .ref q_now_moved, .ref q_now_seen, .int v_now_z, .ref q_now_told, .int v_now_waiting])), (q_now_kind, .inl (c 0, 6, .inl v_now_kind)), (q_now_m, .inl (c 0, 6, .inl v_now_m)), (q_now_moved, .inr (3, [.ref q_now_moved_names, .ref q_now_moved_steps, .int v_now_moved_length, .ref q_now_moved_stack, .ref q_now_moved_answers, .int v_now_moved_side, .int v_now_moved_round, .ref q_now_moved_draft, .int v_now_moved_drafted, .ref q_now_moved_held, .int v_now_moved_holding, .int v_now_moved_open, .int v_now_moved_digits, .int v_now_moved_wantsOperand])), (q_now_moved_answers, .inl (c 0, n_now_moved_answers, .inl v_now_moved_answers)), (q_now_moved_stack, .inl (c 0, 50, .inl v_now_moved_stack)), (q_now_moved_steps, .inl (c 0, 50, .inl v_now_moved_steps)), (q_now_wall, .inr (10, [.int v_now_wall_rows, .int v_now_wall_columns, .ref q_now_wall_air, .ref q_now_wall_paste, .ref q_now_wall_open, .int v_now_wall_holes, .int v_now_wall_out, .int v_now_wall_night, .ref q_now_wall_met, .ref q_now_wall_line, .int v_now_wall_inLine])), (q_now_wall_air, .inl (c 0, 25, .inl v_now_wall_air)), (q_now_wall_open, .inl (c 0, 4, .inl v_now_wall_open)), (q_now_wall_paste, .inl (c 0, 25, .inl v_now_wall_paste)), (ta 0, .inr (8, [])), (ta 1, .inr (0, [])), (ta 2, .inr (4, [])), (ta 3, .inr (5, [])), (ta 4, .inr (6, [])), (ta 5, .inr (2, [])), (ta 6, .inr (1, []))] → va_S A s.heap H locs → ∀ ls, lv_has ls 4 [(0, .ref q_this)] → f_X11_stroke_L23 v_errors v_now_moved_answers v_now_moved_stack v_now_wall_holes v_now_wall_out v_now_wall_air = some (o_r, o_v_errors, o_v_now_moved_answers, o_v_now_moved_stack, o_v_now_wall_holes, o_v_now_wall_out, o_v_now_wall_air) → W p l e (headSpec wsX11_stroke rm_X11_stroke).room s m [.ref q_this, .int a_1, .int a_2, .int a_3].toArray below meth co H locs 0 0 (gQI D [(q_this, .inr (11, [.ref q_now, .ref q_kept, .int v_images, .ref q_kinds, .ref q_voice, .ref q_thought, .ref q_further, .ref q_errors, .ref q_sheetBits, .ref q_sheetLength, .ref q_numbers])), (q_errors, .inl (c 0, 6, .inl o_v_errors)), (q_kinds, .inl (c 1, 7, .inr (.inr (.inr (.inr (fun j => some (ta j))))))), (q_now, .inr (7, [.ref q_now_wall, .int v_now_tools, .ref q_now_kind, .ref q_now_m, .ref q_now_tape, .int v_now_tapeLength, .ref q_now_moved, .ref q_now_seen, .int v_now_z, .ref q_now_told, .int v_now_waiting])), (q_now_kind, .inl (c 0, 6, .inl v_now_kind)), (q_now_m, .inl (c 0, 6, .inl v_now_m)), (q_now_moved, .inr (3, [.ref q_now_moved_names, .ref q_now_moved_steps, .int v_now_moved_length, .ref q_now_moved_stack, .ref q_now_moved_answers, .int v_now_moved_side, .int v_now_moved_round, .ref q_now_moved_draft, .int v_now_moved_drafted, .ref q_now_moved_held, .int v_now_moved_holding, .int v_now_moved_open, .int v_now_moved_digits, .int v_now_moved_wantsOperand])), (q_now_moved_answers, .inl (c 0, n_now_moved_answers, .inl o_v_now_moved_answers)), (q_now_moved_stack, .inl (c 0, 50, .inl o_v_now_moved_stack)), (q_now_moved_steps, .inl (c 0, 50, .inl v_now_moved_steps)), (q_now_wall, .inr (10, [.int v_now_wall_rows, .int v_now_wall_columns, .ref q_now_wall_air, .ref q_now_wall_paste, .ref q_now_wall_open, .int o_v_now_wall_holes, .int o_v_now_wall_out, .int v_now_wall_night, .ref q_now_wall_met, .ref q_now_wall_line, .int v_now_wall_inLine])), (q_now_wall_air, .inl (c 0, 25, .inl o_v_now_wall_air)), (q_now_wall_open, .inl (c 0, 4, .inl v_now_wall_open)), (q_now_wall_paste, .inl (c 0, 25, .inl v_now_wall_paste)), (ta 0, .inr (8, [])), (ta 1, .inr (0, [])), (ta 2, .inr (4, [])), (ta 3, .inr (5, [])), (ta 4, .inr (6, [])), (ta 5, .inr (2, [])), (ta 6, .inr (1, []))] o_r A below [.ref q_this, .int a_1, .int a_2, .int a_3] s) (F0 m 23 ls []) := by
    intro  v_errors v_now_moved_answers v_now_moved_stack v_now_wall_holes v_now_wall_out v_now_wall_air H locs hP hD hS ls hl h
    unfold f_X11_stroke_L23 at h
    refine lv_aload_n hx hb dX11_stroke_23 rfl (lv_at hl 0 rfl) ?_
    refine lv_iconst (v := 1) hx hb dX11_stroke_24 (by decide) ?_
    obtain ⟨r_22, w_23, hc_21, h⟩ := kb2_ok h
    refine gCallI (isC := [0, 1]) (wc := [(q_this, .inr (11, [.ref q_now, .ref q_kept, .int v_images, .ref q_kinds, .ref q_voice, .ref q_thought, .ref q_further, .ref q_errors, .ref q_sheetBits, .ref q_sheetLength, .ref q_numbers])), (q_errors, .inl (c 0, 6, .inl v_errors))]) (w1 := [(q_this, .inr (11, [.ref q_now, .ref q_kept, .int v_images, .ref q_kinds, .ref q_voice, .ref q_thought, .ref q_further, .ref q_errors, .ref q_sheetBits, .ref q_sheetLength, .ref q_numbers])), (q_errors, .inl (c 0, 6, .inl w_23))]) hP hD hS hA rfl rfl (va_runV (rm := rm_X11_error) (ws := wsX11_error) (As := [.int 1]) (rest := []) (gFix hF) (c_X11_error l D c q_this q_now q_kept q_kinds q_voice q_thought q_further q_errors q_sheetBits q_sheetLength q_numbers 1 v_images v_errors r_22 w_23 hc_21 H.size) (cwV 1 hts gX11_stroke_X11_error rfl rfl rfl (by decide +kernel) ⟨Nat.le_of_ble_eq_true rfl, Nat.le_of_ble_eq_true rfl⟩) (gPreV (wc := [(q_this, .inr (11, [.ref q_now, .ref q_kept, .int v_images, .ref q_kinds, .ref q_voice, .ref q_thought, .ref q_further, .ref q_errors, .ref q_sheetBits, .ref q_sheetLength, .ref q_numbers])), (q_errors, .inl (c 0, 6, .inl v_errors))]) (q := (RX11, TX11, 11)) (ci := 11) (q0 := 0) (isC := [0, 1]) hK hX hS hA hP hD rfl (by decide) rfl rfl) rfl rfl hl.1 rfl (lv_room (Nat.le_of_ble_eq_true rfl)) dX11_stroke_25 ⟨Nat.le_of_ble_eq_true rfl, Nat.le_of_ble_eq_true rfl⟩) (fun H locs hP hD hS => ?_)
    have hP : va_P D gcl [(q_this, .inr (11, [.ref q_now, .ref q_kept, .int v_images, .ref q_kinds, .ref q_voice, .ref q_thought, .ref q_further, .ref q_errors, .ref q_sheetBits, .ref q_sheetLength, .ref q_numbers])), (q_errors, .inl (c 0, 6, .inl w_23)), (q_kinds, .inl (c 1, 7, .inr (.inr (.inr (.inr (fun j => some (ta j))))))), (q_now, .inr (7, [.ref q_now_wall, .int v_now_tools, .ref q_now_kind, .ref q_now_m, .ref q_now_tape, .int v_now_tapeLength, .ref q_now_moved, .ref q_now_seen, .int v_now_z, .ref q_now_told, .int v_now_waiting])), (q_now_kind, .inl (c 0, 6, .inl v_now_kind)), (q_now_m, .inl (c 0, 6, .inl v_now_m)), (q_now_moved, .inr (3, [.ref q_now_moved_names, .ref q_now_moved_steps, .int v_now_moved_length, .ref q_now_moved_stack, .ref q_now_moved_answers, .int v_now_moved_side, .int v_now_moved_round, .ref q_now_moved_draft, .int v_now_moved_drafted, .ref q_now_moved_held, .int v_now_moved_holding, .int v_now_moved_open, .int v_now_moved_digits, .int v_now_moved_wantsOperand])), (q_now_moved_answers, .inl (c 0, n_now_moved_answers, .inl v_now_moved_answers)), (q_now_moved_stack, .inl (c 0, 50, .inl v_now_moved_stack)), (q_now_moved_steps, .inl (c 0, 50, .inl v_now_moved_steps)), (q_now_wall, .inr (10, [.int v_now_wall_rows, .int v_now_wall_columns, .ref q_now_wall_air, .ref q_now_wall_paste, .ref q_now_wall_open, .int v_now_wall_holes, .int v_now_wall_out, .int v_now_wall_night, .ref q_now_wall_met, .ref q_now_wall_line, .int v_now_wall_inLine])), (q_now_wall_air, .inl (c 0, 25, .inl v_now_wall_air)), (q_now_wall_open, .inl (c 0, 4, .inl v_now_wall_open)), (q_now_wall_paste, .inl (c 0, 25, .inl v_now_wall_paste)), (ta 0, .inr (8, [])), (ta 1, .inr (0, [])), (ta 2, .inr (4, [])), (ta 3, .inr (5, [])), (ta 4, .inr (6, [])), (ta 5, .inr (2, [])), (ta 6, .inr (1, []))] H := hP
    have hD : va_D A [(q_this, .inr (11, [.ref q_now, .ref q_kept, .int v_images, .ref q_kinds, .ref q_voice, .ref q_thought, .ref q_further, .ref q_errors, .ref q_sheetBits, .ref q_sheetLength, .ref q_numbers])), (q_errors, .inl (c 0, 6, .inl w_23)), (q_kinds, .inl (c 1, 7, .inr (.inr (.inr (.inr (fun j => some (ta j))))))), (q_now, .inr (7, [.ref q_now_wall, .int v_now_tools, .ref q_now_kind, .ref q_now_m, .ref q_now_tape, .int v_now_tapeLength, .ref q_now_moved, .ref q_now_seen, .int v_now_z, .ref q_now_told, .int v_now_waiting])), (q_now_kind, .inl (c 0, 6, .inl v_now_kind)), (q_now_m, .inl (c 0, 6, .inl v_now_m)), (q_now_moved, .inr (3, [.ref q_now_moved_names, .ref q_now_moved_steps, .int v_now_moved_length, .ref q_now_moved_stack, .ref q_now_moved_answers, .int v_now_moved_side, .int v_now_moved_round, .ref q_now_moved_draft, .int v_now_moved_drafted, .ref q_now_moved_held, .int v_now_moved_holding, .int v_now_moved_open, .int v_now_moved_digits, .int v_now_moved_wantsOperand])), (q_now_moved_answers, .inl (c 0, n_now_moved_answers, .inl v_now_moved_answers)), (q_now_moved_stack, .inl (c 0, 50, .inl v_now_moved_stack)), (q_now_moved_steps, .inl (c 0, 50, .inl v_now_moved_steps)), (q_now_wall, .inr (10, [.int v_now_wall_rows, .int v_now_wall_columns, .ref q_now_wall_air, .ref q_now_wall_paste, .ref q_now_wall_open, .int v_now_wall_holes, .int v_now_wall_out, .int v_now_wall_night, .ref q_now_wall_met, .ref q_now_wall_line, .int v_now_wall_inLine])), (q_now_wall_air, .inl (c 0, 25, .inl v_now_wall_air)), (q_now_wall_open, .inl (c 0, 4, .inl v_now_wall_open)), (q_now_wall_paste, .inl (c 0, 25, .inl v_now_wall_paste)), (ta 0, .inr (8, [])), (ta 1, .inr (0, [])), (ta 2, .inr (4, [])), (ta 3, .inr (5, [])), (ta 4, .inr (6, [])), (ta 5, .inr (2, [])), (ta 6, .inr (1, []))] := hD
    cases h
    exact gIret hF hP hD hS rfl dX11_stroke_28
  unfold f_X11_stroke at h
  refine lv_aload_n hx hb dX11_stroke_0 rfl (lv_at hl 0 rfl) ?_
  refine lv_iload_n hx hb dX11_stroke_1 rfl (lv_at hl 1 rfl) ?_
  obtain ⟨r_2, hc_1, h⟩ := kb_ok h
  refine gCallI (isC := [0, 3]) (wc := [(q_this, .inr (11, [.ref q_now, .ref q_kept, .int v_images, .ref q_kinds, .ref q_voice, .ref q_thought, .ref q_further, .ref q_errors, .ref q_sheetBits, .ref q_sheetLength, .ref q_numbers])), (q_now, .inr (7, [.ref q_now_wall, .int v_now_tools, .ref q_now_kind, .ref q_now_m, .ref q_now_tape, .int v_now_tapeLength, .ref q_now_moved, .ref q_now_seen, .int v_now_z, .ref q_now_told, .int v_now_waiting]))]) (w1 := [(q_this, .inr (11, [.ref q_now, .ref q_kept, .int v_images, .ref q_kinds, .ref q_voice, .ref q_thought, .ref q_further, .ref q_errors, .ref q_sheetBits, .ref q_sheetLength, .ref q_numbers])), (q_now, .inr (7, [.ref q_now_wall, .int v_now_tools, .ref q_now_kind, .ref q_now_m, .ref q_now_tape, .int v_now_tapeLength, .ref q_now_moved, .ref q_now_seen, .int v_now_z, .ref q_now_told, .int v_now_waiting]))]) hP hD hS hA rfl rfl (va_runV (rm := rm_X11_isTool) (ws := wsX11_isTool) (As := [.int a_1]) (rest := []) (gFix hF) (c_X11_isTool l D c q_this q_now q_kept q_kinds q_voice q_thought q_further q_errors q_sheetBits q_sheetLength q_numbers q_now_wall q_now_kind q_now_m q_now_tape q_now_moved q_now_seen q_now_told a_1 v_images v_now_tools v_now_tapeLength v_now_z v_now_waiting r_2 hc_1 s.heap.size) (cwV 1 hts gX11_stroke_X11_isTool rfl rfl rfl (by decide +kernel) ⟨Nat.le_of_ble_eq_true rfl, Nat.le_of_ble_eq_true rfl⟩) (gPreV (wc := [(q_this, .inr (11, [.ref q_now, .ref q_kept, .int v_images, .ref q_kinds, .ref q_voice, .ref q_thought, .ref q_further, .ref q_errors, .ref q_sheetBits, .ref q_sheetLength, .ref q_numbers])), (q_now, .inr (7, [.ref q_now_wall, .int v_now_tools, .ref q_now_kind, .ref q_now_m, .ref q_now_tape, .int v_now_tapeLength, .ref q_now_moved, .ref q_now_seen, .int v_now_z, .ref q_now_told, .int v_now_waiting]))]) (q := (RX11, TX11, 11)) (ci := 11) (q0 := 0) (isC := [0, 3]) hK hX hS hA hP hD rfl (by decide) rfl rfl) rfl rfl hl.1 rfl (lv_room (Nat.le_of_ble_eq_true rfl)) dX11_stroke_2 ⟨Nat.le_of_ble_eq_true rfl, Nat.le_of_ble_eq_true rfl⟩) (fun H locs hP hD hS => ?_)
  have hP : va_P D gcl [(q_this, .inr (11, [.ref q_now, .ref q_kept, .int v_images, .ref q_kinds, .ref q_voice, .ref q_thought, .ref q_further, .ref q_errors, .ref q_sheetBits, .ref q_sheetLength, .ref q_numbers])), (q_errors, .inl (c 0, 6, .inl v_errors)), (q_kinds, .inl (c 1, 7, .inr (.inr (.inr (.inr (fun j => some (ta j))))))), (q_now, .inr (7, [.ref q_now_wall, .int v_now_tools, .ref q_now_kind, .ref q_now_m, .ref q_now_tape, .int v_now_tapeLength, .ref q_now_moved, .ref q_now_seen, .int v_now_z, .ref q_now_told, .int v_now_waiting])), (q_now_kind, .inl (c 0, 6, .inl v_now_kind)), (q_now_m, .inl (c 0, 6, .inl v_now_m)), (q_now_moved, .inr (3, [.ref q_now_moved_names, .ref q_now_moved_steps, .int v_now_moved_length, .ref q_now_moved_stack, .ref q_now_moved_answers, .int v_now_moved_side, .int v_now_moved_round, .ref q_now_moved_draft, .int v_now_moved_drafted, .ref q_now_moved_held, .int v_now_moved_holding, .int v_now_moved_open, .int v_now_moved_digits, .int v_now_moved_wantsOperand])), (q_now_moved_answers, .inl (c 0, n_now_moved_answers, .inl v_now_moved_answers)), (q_now_moved_stack, .inl (c 0, 50, .inl v_now_moved_stack)), (q_now_moved_steps, .inl (c 0, 50, .inl v_now_moved_steps)), (q_now_wall, .inr (10, [.int v_now_wall_rows, .int v_now_wall_columns, .ref q_now_wall_air, .ref q_now_wall_paste, .ref q_now_wall_open, .int v_now_wall_holes, .int v_now_wall_out, .int v_now_wall_night, .ref q_now_wall_met, .ref q_now_wall_line, .int v_now_wall_inLine])), (q_now_wall_air, .inl (c 0, 25, .inl v_now_wall_air)), (q_now_wall_open, .inl (c 0, 4, .inl v_now_wall_open)), (q_now_wall_paste, .inl (c 0, 25, .inl v_now_wall_paste)), (ta 0, .inr (8, [])), (ta 1, .inr (0, [])), (ta 2, .inr (4, [])), (ta 3, .inr (5, [])), (ta 4, .inr (6, [])), (ta 5, .inr (2, [])), (ta 6, .inr (1, []))] H := hP
  have hD : va_D A [(q_this, .inr (11, [.ref q_now, .ref q_kept, .int v_images, .ref q_kinds, .ref q_voice, .ref q_thought, .ref q_further, .ref q_errors, .ref q_sheetBits, .ref q_sheetLength, .ref q_numbers])), (q_errors, .inl (c 0, 6, .inl v_errors)), (q_kinds, .inl (c 1, 7, .inr (.inr (.inr (.inr (fun j => some (ta j))))))), (q_now, .inr (7, [.ref q_now_wall, .int v_now_tools, .ref q_now_kind, .ref q_now_m, .ref q_now_tape, .int v_now_tapeLength, .ref q_now_moved, .ref q_now_seen, .int v_now_z, .ref q_now_told, .int v_now_waiting])), (q_now_kind, .inl (c 0, 6, .inl v_now_kind)), (q_now_m, .inl (c 0, 6, .inl v_now_m)), (q_now_moved, .inr (3, [.ref q_now_moved_names, .ref q_now_moved_steps, .int v_now_moved_length, .ref q_now_moved_stack, .ref q_now_moved_answers, .int v_now_moved_side, .int v_now_moved_round, .ref q_now_moved_draft, .int v_now_moved_drafted, .ref q_now_moved_held, .int v_now_moved_holding, .int v_now_moved_open, .int v_now_moved_digits, .int v_now_moved_wantsOperand])), (q_now_moved_answers, .inl (c 0, n_now_moved_answers, .inl v_now_moved_answers)), (q_now_moved_stack, .inl (c 0, 50, .inl v_now_moved_stack)), (q_now_moved_steps, .inl (c 0, 50, .inl v_now_moved_steps)), (q_now_wall, .inr (10, [.int v_now_wall_rows, .int v_now_wall_columns, .ref q_now_wall_air, .ref q_now_wall_paste, .ref q_now_wall_open, .int v_now_wall_holes, .int v_now_wall_out, .int v_now_wall_night, .ref q_now_wall_met, .ref q_now_wall_line, .int v_now_wall_inLine])), (q_now_wall_air, .inl (c 0, 25, .inl v_now_wall_air)), (q_now_wall_open, .inl (c 0, 4, .inl v_now_wall_open)), (q_now_wall_paste, .inl (c 0, 25, .inl v_now_wall_paste)), (ta 0, .inr (8, [])), (ta 1, .inr (0, [])), (ta 2, .inr (4, [])), (ta 3, .inr (5, [])), (ta 4, .inr (6, [])), (ta 5, .inr (2, [])), (ta 6, .inr (1, []))] := hD
  refine lv_if_eq (tgt := 23) hx hb dX11_stroke_5 (by decide) (fun c_3 => ?_) (fun c_3 => ?_)
  · have h := it_t c_3 h
    exact t_L23 v_errors v_now_moved_answers v_now_moved_stack v_now_wall_holes v_now_wall_out v_now_wall_air H locs hP hD hS ls (lv_sub hl [0] rfl) h
  · have h := it_f c_3 h
    refine lv_aload_n hx hb dX11_stroke_8 rfl (lv_at hl 0 rfl) ?_
    refine lv_iload_n hx hb dX11_stroke_9 rfl (lv_at hl 2 rfl) ?_
    obtain ⟨r_5, hc_4, h⟩ := kb_ok h
    refine gCallI (isC := [0, 3, 10]) (wc := [(q_this, .inr (11, [.ref q_now, .ref q_kept, .int v_images, .ref q_kinds, .ref q_voice, .ref q_thought, .ref q_further, .ref q_errors, .ref q_sheetBits, .ref q_sheetLength, .ref q_numbers])), (q_now, .inr (7, [.ref q_now_wall, .int v_now_tools, .ref q_now_kind, .ref q_now_m, .ref q_now_tape, .int v_now_tapeLength, .ref q_now_moved, .ref q_now_seen, .int v_now_z, .ref q_now_told, .int v_now_waiting])), (q_now_wall, .inr (10, [.int v_now_wall_rows, .int v_now_wall_columns, .ref q_now_wall_air, .ref q_now_wall_paste, .ref q_now_wall_open, .int v_now_wall_holes, .int v_now_wall_out, .int v_now_wall_night, .ref q_now_wall_met, .ref q_now_wall_line, .int v_now_wall_inLine]))]) (w1 := [(q_this, .inr (11, [.ref q_now, .ref q_kept, .int v_images, .ref q_kinds, .ref q_voice, .ref q_thought, .ref q_further, .ref q_errors, .ref q_sheetBits, .ref q_sheetLength, .ref q_numbers])), (q_now, .inr (7, [.ref q_now_wall, .int v_now_tools, .ref q_now_kind, .ref q_now_m, .ref q_now_tape, .int v_now_tapeLength, .ref q_now_moved, .ref q_now_seen, .int v_now_z, .ref q_now_told, .int v_now_waiting])), (q_now_wall, .inr (10, [.int v_now_wall_rows, .int v_now_wall_columns, .ref q_now_wall_air, .ref q_now_wall_paste, .ref q_now_wall_open, .int v_now_wall_holes, .int v_now_wall_out, .int v_now_wall_night, .ref q_now_wall_met, .ref q_now_wall_line, .int v_now_wall_inLine]))]) hP hD hS hA rfl rfl (va_runV (rm := rm_X11_isCell) (ws := wsX11_isCell) (As := [.int a_2]) (rest := []) (gFix hF) (c_X11_isCell l D c q_this q_now q_kept q_kinds q_voice q_thought q_further q_errors q_sheetBits q_sheetLength q_numbers q_now_wall q_now_kind q_now_m q_now_tape q_now_moved q_now_seen q_now_told q_now_wall_air q_now_wall_paste q_now_wall_open q_now_wall_met q_now_wall_line a_2 v_images v_now_tools v_now_tapeLength v_now_z v_now_waiting v_now_wall_rows v_now_wall_columns v_now_wall_holes v_now_wall_out v_now_wall_night v_now_wall_inLine r_5 hc_4 H.size) (cwV 1 hts gX11_stroke_X11_isCell rfl rfl rfl (by decide +kernel) ⟨Nat.le_of_ble_eq_true rfl, Nat.le_of_ble_eq_true rfl⟩) (gPreV (wc := [(q_this, .inr (11, [.ref q_now, .ref q_kept, .int v_images, .ref q_kinds, .ref q_voice, .ref q_thought, .ref q_further, .ref q_errors, .ref q_sheetBits, .ref q_sheetLength, .ref q_numbers])), (q_now, .inr (7, [.ref q_now_wall, .int v_now_tools, .ref q_now_kind, .ref q_now_m, .ref q_now_tape, .int v_now_tapeLength, .ref q_now_moved, .ref q_now_seen, .int v_now_z, .ref q_now_told, .int v_now_waiting])), (q_now_wall, .inr (10, [.int v_now_wall_rows, .int v_now_wall_columns, .ref q_now_wall_air, .ref q_now_wall_paste, .ref q_now_wall_open, .int v_now_wall_holes, .int v_now_wall_out, .int v_now_wall_night, .ref q_now_wall_met, .ref q_now_wall_line, .int v_now_wall_inLine]))]) (q := (RX11, TX11, 11)) (ci := 11) (q0 := 0) (isC := [0, 3, 10]) hK hX hS hA hP hD rfl (by decide) rfl rfl) rfl rfl hl.1 rfl (lv_room (Nat.le_of_ble_eq_true rfl)) dX11_stroke_10 ⟨Nat.le_of_ble_eq_true rfl, Nat.le_of_ble_eq_true rfl⟩) (fun H locs hP hD hS => ?_)
    have hP : va_P D gcl [(q_this, .inr (11, [.ref q_now, .ref q_kept, .int v_images, .ref q_kinds, .ref q_voice, .ref q_thought, .ref q_further, .ref q_errors, .ref q_sheetBits, .ref q_sheetLength, .ref q_numbers])), (q_errors, .inl (c 0, 6, .inl v_errors)), (q_kinds, .inl (c 1, 7, .inr (.inr (.inr (.inr (fun j => some (ta j))))))), (q_now, .inr (7, [.ref q_now_wall, .int v_now_tools, .ref q_now_kind, .ref q_now_m, .ref q_now_tape, .int v_now_tapeLength, .ref q_now_moved, .ref q_now_seen, .int v_now_z, .ref q_now_told, .int v_now_waiting])), (q_now_kind, .inl (c 0, 6, .inl v_now_kind)), (q_now_m, .inl (c 0, 6, .inl v_now_m)), (q_now_moved, .inr (3, [.ref q_now_moved_names, .ref q_now_moved_steps, .int v_now_moved_length, .ref q_now_moved_stack, .ref q_now_moved_answers, .int v_now_moved_side, .int v_now_moved_round, .ref q_now_moved_draft, .int v_now_moved_drafted, .ref q_now_moved_held, .int v_now_moved_holding, .int v_now_moved_open, .int v_now_moved_digits, .int v_now_moved_wantsOperand])), (q_now_moved_answers, .inl (c 0, n_now_moved_answers, .inl v_now_moved_answers)), (q_now_moved_stack, .inl (c 0, 50, .inl v_now_moved_stack)), (q_now_moved_steps, .inl (c 0, 50, .inl v_now_moved_steps)), (q_now_wall, .inr (10, [.int v_now_wall_rows, .int v_now_wall_columns, .ref q_now_wall_air, .ref q_now_wall_paste, .ref q_now_wall_open, .int v_now_wall_holes, .int v_now_wall_out, .int v_now_wall_night, .ref q_now_wall_met, .ref q_now_wall_line, .int v_now_wall_inLine])), (q_now_wall_air, .inl (c 0, 25, .inl v_now_wall_air)), (q_now_wall_open, .inl (c 0, 4, .inl v_now_wall_open)), (q_now_wall_paste, .inl (c 0, 25, .inl v_now_wall_paste)), (ta 0, .inr (8, [])), (ta 1, .inr (0, [])), (ta 2, .inr (4, [])), (ta 3, .inr (5, [])), (ta 4, .inr (6, [])), (ta 5, .inr (2, [])), (ta 6, .inr (1, []))] H := hP
    have hD : va_D A [(q_this, .inr (11, [.ref q_now, .ref q_kept, .int v_images, .ref q_kinds, .ref q_voice, .ref q_thought, .ref q_further, .ref q_errors, .ref q_sheetBits, .ref q_sheetLength, .ref q_numbers])), (q_errors, .inl (c 0, 6, .inl v_errors)), (q_kinds, .inl (c 1, 7, .inr (.inr (.inr (.inr (fun j => some (ta j))))))), (q_now, .inr (7, [.ref q_now_wall, .int v_now_tools, .ref q_now_kind, .ref q_now_m, .ref q_now_tape, .int v_now_tapeLength, .ref q_now_moved, .ref q_now_seen, .int v_now_z, .ref q_now_told, .int v_now_waiting])), (q_now_kind, .inl (c 0, 6, .inl v_now_kind)), (q_now_m, .inl (c 0, 6, .inl v_now_m)), (q_now_moved, .inr (3, [.ref q_now_moved_names, .ref q_now_moved_steps, .int v_now_moved_length, .ref q_now_moved_stack, .ref q_now_moved_answers, .int v_now_moved_side, .int v_now_moved_round, .ref q_now_moved_draft, .int v_now_moved_drafted, .ref q_now_moved_held, .int v_now_moved_holding, .int v_now_moved_open, .int v_now_moved_digits, .int v_now_moved_wantsOperand])), (q_now_moved_answers, .inl (c 0, n_now_moved_answers, .inl v_now_moved_answers)), (q_now_moved_stack, .inl (c 0, 50, .inl v_now_moved_stack)), (q_now_moved_steps, .inl (c 0, 50, .inl v_now_moved_steps)), (q_now_wall, .inr (10, [.int v_now_wall_rows, .int v_now_wall_columns, .ref q_now_wall_air, .ref q_now_wall_paste, .ref q_now_wall_open, .int v_now_wall_holes, .int v_now_wall_out, .int v_now_wall_night, .ref q_now_wall_met, .ref q_now_wall_line, .int v_now_wall_inLine])), (q_now_wall_air, .inl (c 0, 25, .inl v_now_wall_air)), (q_now_wall_open, .inl (c 0, 4, .inl v_now_wall_open)), (q_now_wall_paste, .inl (c 0, 25, .inl v_now_wall_paste)), (ta 0, .inr (8, [])), (ta 1, .inr (0, [])), (ta 2, .inr (4, [])), (ta 3, .inr (5, [])), (ta 4, .inr (6, [])), (ta 5, .inr (2, [])), (ta 6, .inr (1, []))] := hD
    refine lv_if_eq (tgt := 23) hx hb dX11_stroke_13 (by decide) (fun c_6 => ?_) (fun c_6 => ?_)
    · have h := it_t c_6 h
      exact t_L23 v_errors v_now_moved_answers v_now_moved_stack v_now_wall_holes v_now_wall_out v_now_wall_air H locs hP hD hS ls (lv_sub hl [0] rfl) h
    · have h := it_f c_6 h
      refine lv_iload_n hx hb dX11_stroke_16 rfl (lv_at hl 3 rfl) ?_
      obtain ⟨r_8, hc_7, h⟩ := kb_ok h
      refine gCallI (isC := []) (wc := []) (w1 := []) hP hD hS hA rfl rfl (va_runS (rm := rm_X11_isWay) (ws := wsX11_isWay) (As := [.int a_3]) (rest := []) (gFix hF) (c_X11_isWay l D c a_3 r_8 hc_7 H.size) (va_cwS 1 hts gX11_stroke_X11_isWay rfl rfl rfl (by decide +kernel) ⟨Nat.le_of_ble_eq_true rfl, Nat.le_of_ble_eq_true rfl⟩) (gPreS (wc := []) (isC := []) hK hX hS hA hP hD rfl (by decide)) rfl rfl hl.1 rfl (lv_room (Nat.le_of_ble_eq_true rfl)) dX11_stroke_17 ⟨Nat.le_of_ble_eq_true rfl, Nat.le_of_ble_eq_true rfl⟩) (fun H locs hP hD hS => ?_)
      have hP : va_P D gcl [(q_this, .inr (11, [.ref q_now, .ref q_kept, .int v_images, .ref q_kinds, .ref q_voice, .ref q_thought, .ref q_further, .ref q_errors, .ref q_sheetBits, .ref q_sheetLength, .ref q_numbers])), (q_errors, .inl (c 0, 6, .inl v_errors)), (q_kinds, .inl (c 1, 7, .inr (.inr (.inr (.inr (fun j => some (ta j))))))), (q_now, .inr (7, [.ref q_now_wall, .int v_now_tools, .ref q_now_kind, .ref q_now_m, .ref q_now_tape, .int v_now_tapeLength, .ref q_now_moved, .ref q_now_seen, .int v_now_z, .ref q_now_told, .int v_now_waiting])), (q_now_kind, .inl (c 0, 6, .inl v_now_kind)), (q_now_m, .inl (c 0, 6, .inl v_now_m)), (q_now_moved, .inr (3, [.ref q_now_moved_names, .ref q_now_moved_steps, .int v_now_moved_length, .ref q_now_moved_stack, .ref q_now_moved_answers, .int v_now_moved_side, .int v_now_moved_round, .ref q_now_moved_draft, .int v_now_moved_drafted, .ref q_now_moved_held, .int v_now_moved_holding, .int v_now_moved_open, .int v_now_moved_digits, .int v_now_moved_wantsOperand])), (q_now_moved_answers, .inl (c 0, n_now_moved_answers, .inl v_now_moved_answers)), (q_now_moved_stack, .inl (c 0, 50, .inl v_now_moved_stack)), (q_now_moved_steps, .inl (c 0, 50, .inl v_now_moved_steps)), (q_now_wall, .inr (10, [.int v_now_wall_rows, .int v_now_wall_columns, .ref q_now_wall_air, .ref q_now_wall_paste, .ref q_now_wall_open, .int v_now_wall_holes, .int v_now_wall_out, .int v_now_wall_night, .ref q_now_wall_met, .ref q_now_wall_line, .int v_now_wall_inLine])), (q_now_wall_air, .inl (c 0, 25, .inl v_now_wall_air)), (q_now_wall_open, .inl (c 0, 4, .inl v_now_wall_open)), (q_now_wall_paste, .inl (c 0, 25, .inl v_now_wall_paste)), (ta 0, .inr (8, [])), (ta 1, .inr (0, [])), (ta 2, .inr (4, [])), (ta 3, .inr (5, [])), (ta 4, .inr (6, [])), (ta 5, .inr (2, [])), (ta 6, .inr (1, []))] H := hP
      have hD : va_D A [(q_this, .inr (11, [.ref q_now, .ref q_kept, .int v_images, .ref q_kinds, .ref q_voice, .ref q_thought, .ref q_further, .ref q_errors, .ref q_sheetBits, .ref q_sheetLength, .ref q_numbers])), (q_errors, .inl (c 0, 6, .inl v_errors)), (q_kinds, .inl (c 1, 7, .inr (.inr (.inr (.inr (fun j => some (ta j))))))), (q_now, .inr (7, [.ref q_now_wall, .int v_now_tools, .ref q_now_kind, .ref q_now_m, .ref q_now_tape, .int v_now_tapeLength, .ref q_now_moved, .ref q_now_seen, .int v_now_z, .ref q_now_told, .int v_now_waiting])), (q_now_kind, .inl (c 0, 6, .inl v_now_kind)), (q_now_m, .inl (c 0, 6, .inl v_now_m)), (q_now_moved, .inr (3, [.ref q_now_moved_names, .ref q_now_moved_steps, .int v_now_moved_length, .ref q_now_moved_stack, .ref q_now_moved_answers, .int v_now_moved_side, .int v_now_moved_round, .ref q_now_moved_draft, .int v_now_moved_drafted, .ref q_now_moved_held, .int v_now_moved_holding, .int v_now_moved_open, .int v_now_moved_digits, .int v_now_moved_wantsOperand])), (q_now_moved_answers, .inl (c 0, n_now_moved_answers, .inl v_now_moved_answers)), (q_now_moved_stack, .inl (c 0, 50, .inl v_now_moved_stack)), (q_now_moved_steps, .inl (c 0, 50, .inl v_now_moved_steps)), (q_now_wall, .inr (10, [.int v_now_wall_rows, .int v_now_wall_columns, .ref q_now_wall_air, .ref q_now_wall_paste, .ref q_now_wall_open, .int v_now_wall_holes, .int v_now_wall_out, .int v_now_wall_night, .ref q_now_wall_met, .ref q_now_wall_line, .int v_now_wall_inLine])), (q_now_wall_air, .inl (c 0, 25, .inl v_now_wall_air)), (q_now_wall_open, .inl (c 0, 4, .inl v_now_wall_open)), (q_now_wall_paste, .inl (c 0, 25, .inl v_now_wall_paste)), (ta 0, .inr (8, [])), (ta 1, .inr (0, [])), (ta 2, .inr (4, [])), (ta 3, .inr (5, [])), (ta 4, .inr (6, [])), (ta 5, .inr (2, [])), (ta 6, .inr (1, []))] := hD
      refine lv_if_ne (tgt := 29) hx hb dX11_stroke_20 (by decide) (fun c_9 => ?_) (fun c_9 => ?_)
      · have h := it_f c_9 h
        refine lv_aload_n hx hb dX11_stroke_29 rfl (lv_at hl 0 rfl) ?_
        refine va_get (D := D) (ci := 11) (v := .ref q_now) (C := RX11) (T := TX11) (N := 11) hx hb hts in_X11_stroke_X11 hown hK.1 hP 0 rfl rfl 0 (by decide) (hts (.fieldLink RX11 14 "PaperBubbles" "now" "LPaperBubbles$State;") (List.mem_of_getElem? (i := 1) rfl)) (fun _ h9 => h9) rfl dX11_stroke_30 ?_
        refine va_getN (D := D) (ci := 7) (v := .ref q_now_wall) (C := RX7) (T := TX7) (N := 11) hx hb hts in_X11_stroke_X7 hown hK.1 hP 3 rfl rfl 0 (by decide) (va_Nw.use rfl (hK.2 (.fieldLinkNest "PaperBubbles" 86 "PaperBubbles$State" "wall" "LPaperBubbles$Wall;" "PaperBubbles") (List.mem_of_getElem? (i := 18) rfl))) (fun _ h9 => h9) rfl dX11_stroke_33 ?_
        refine lv_aload_n hx hb dX11_stroke_36 rfl (lv_at hl 0 rfl) ?_
        refine lv_iload_n hx hb dX11_stroke_37 rfl (lv_at hl 1 rfl) ?_
        obtain ⟨r_11, hc_10, h⟩ := kb_ok h
        refine gCallR (isC := [0, 2, 3, 4, 14, 15, 16, 17, 18, 19, 20]) (wc := [(q_this, .inr (11, [.ref q_now, .ref q_kept, .int v_images, .ref q_kinds, .ref q_voice, .ref q_thought, .ref q_further, .ref q_errors, .ref q_sheetBits, .ref q_sheetLength, .ref q_numbers])), (q_kinds, .inl (c 1, 7, .inr (.inr (.inr (.inr (fun j => some (ta j))))))), (q_now, .inr (7, [.ref q_now_wall, .int v_now_tools, .ref q_now_kind, .ref q_now_m, .ref q_now_tape, .int v_now_tapeLength, .ref q_now_moved, .ref q_now_seen, .int v_now_z, .ref q_now_told, .int v_now_waiting])), (q_now_kind, .inl (c 0, 6, .inl v_now_kind)), (ta 0, .inr (8, [])), (ta 1, .inr (0, [])), (ta 2, .inr (4, [])), (ta 3, .inr (5, [])), (ta 4, .inr (6, [])), (ta 5, .inr (2, [])), (ta 6, .inr (1, []))]) (w1 := [(q_this, .inr (11, [.ref q_now, .ref q_kept, .int v_images, .ref q_kinds, .ref q_voice, .ref q_thought, .ref q_further, .ref q_errors, .ref q_sheetBits, .ref q_sheetLength, .ref q_numbers])), (q_kinds, .inl (c 1, 7, .inr (.inr (.inr (.inr (fun j => some (ta j))))))), (q_now, .inr (7, [.ref q_now_wall, .int v_now_tools, .ref q_now_kind, .ref q_now_m, .ref q_now_tape, .int v_now_tapeLength, .ref q_now_moved, .ref q_now_seen, .int v_now_z, .ref q_now_told, .int v_now_waiting])), (q_now_kind, .inl (c 0, 6, .inl v_now_kind)), (ta 0, .inr (8, [])), (ta 1, .inr (0, [])), (ta 2, .inr (4, [])), (ta 3, .inr (5, [])), (ta 4, .inr (6, [])), (ta 5, .inr (2, [])), (ta 6, .inr (1, []))]) hP hD hS hA rfl rfl (va_runV (rm := rm_X11_kindOf) (ws := wsX11_kindOf) (As := [.int a_1]) (rest := [.ref q_now_wall]) (gFix hF) (c_X11_kindOf l D c q_this q_now q_kept q_kinds q_voice q_thought q_further q_errors q_sheetBits q_sheetLength q_numbers q_now_wall q_now_kind q_now_m q_now_tape q_now_moved q_now_seen q_now_told ta a_1 v_images v_now_tools v_now_tapeLength v_now_z v_now_waiting v_now_kind r_11 hc_10 H.size) (cwV 1 hts gX11_stroke_X11_kindOf rfl rfl rfl (by decide +kernel) ⟨Nat.le_of_ble_eq_true rfl, Nat.le_of_ble_eq_true rfl⟩) (gPreV (wc := [(q_this, .inr (11, [.ref q_now, .ref q_kept, .int v_images, .ref q_kinds, .ref q_voice, .ref q_thought, .ref q_further, .ref q_errors, .ref q_sheetBits, .ref q_sheetLength, .ref q_numbers])), (q_kinds, .inl (c 1, 7, .inr (.inr (.inr (.inr (fun j => some (ta j))))))), (q_now, .inr (7, [.ref q_now_wall, .int v_now_tools, .ref q_now_kind, .ref q_now_m, .ref q_now_tape, .int v_now_tapeLength, .ref q_now_moved, .ref q_now_seen, .int v_now_z, .ref q_now_told, .int v_now_waiting])), (q_now_kind, .inl (c 0, 6, .inl v_now_kind)), (ta 0, .inr (8, [])), (ta 1, .inr (0, [])), (ta 2, .inr (4, [])), (ta 3, .inr (5, [])), (ta 4, .inr (6, [])), (ta 5, .inr (2, [])), (ta 6, .inr (1, []))]) (q := (RX11, TX11, 11)) (ci := 11) (q0 := 0) (isC := [0, 2, 3, 4, 14, 15, 16, 17, 18, 19, 20]) hK hX hS hA hP hD rfl (by decide) rfl rfl) rfl rfl hl.1 rfl (lv_room (Nat.le_of_ble_eq_true rfl)) dX11_stroke_38 ⟨Nat.le_of_ble_eq_true rfl, Nat.le_of_ble_eq_true rfl⟩) (fun H locs hP hD hS => ?_)
        have hP : va_P D gcl [(q_this, .inr (11, [.ref q_now, .ref q_kept, .int v_images, .ref q_kinds, .ref q_voice, .ref q_thought, .ref q_further, .ref q_errors, .ref q_sheetBits, .ref q_sheetLength, .ref q_numbers])), (q_errors, .inl (c 0, 6, .inl v_errors)), (q_kinds, .inl (c 1, 7, .inr (.inr (.inr (.inr (fun j => some (ta j))))))), (q_now, .inr (7, [.ref q_now_wall, .int v_now_tools, .ref q_now_kind, .ref q_now_m, .ref q_now_tape, .int v_now_tapeLength, .ref q_now_moved, .ref q_now_seen, .int v_now_z, .ref q_now_told, .int v_now_waiting])), (q_now_kind, .inl (c 0, 6, .inl v_now_kind)), (q_now_m, .inl (c 0, 6, .inl v_now_m)), (q_now_moved, .inr (3, [.ref q_now_moved_names, .ref q_now_moved_steps, .int v_now_moved_length, .ref q_now_moved_stack, .ref q_now_moved_answers, .int v_now_moved_side, .int v_now_moved_round, .ref q_now_moved_draft, .int v_now_moved_drafted, .ref q_now_moved_held, .int v_now_moved_holding, .int v_now_moved_open, .int v_now_moved_digits, .int v_now_moved_wantsOperand])), (q_now_moved_answers, .inl (c 0, n_now_moved_answers, .inl v_now_moved_answers)), (q_now_moved_stack, .inl (c 0, 50, .inl v_now_moved_stack)), (q_now_moved_steps, .inl (c 0, 50, .inl v_now_moved_steps)), (q_now_wall, .inr (10, [.int v_now_wall_rows, .int v_now_wall_columns, .ref q_now_wall_air, .ref q_now_wall_paste, .ref q_now_wall_open, .int v_now_wall_holes, .int v_now_wall_out, .int v_now_wall_night, .ref q_now_wall_met, .ref q_now_wall_line, .int v_now_wall_inLine])), (q_now_wall_air, .inl (c 0, 25, .inl v_now_wall_air)), (q_now_wall_open, .inl (c 0, 4, .inl v_now_wall_open)), (q_now_wall_paste, .inl (c 0, 25, .inl v_now_wall_paste)), (ta 0, .inr (8, [])), (ta 1, .inr (0, [])), (ta 2, .inr (4, [])), (ta 3, .inr (5, [])), (ta 4, .inr (6, [])), (ta 5, .inr (2, [])), (ta 6, .inr (1, []))] H := hP
        have hD : va_D A [(q_this, .inr (11, [.ref q_now, .ref q_kept, .int v_images, .ref q_kinds, .ref q_voice, .ref q_thought, .ref q_further, .ref q_errors, .ref q_sheetBits, .ref q_sheetLength, .ref q_numbers])), (q_errors, .inl (c 0, 6, .inl v_errors)), (q_kinds, .inl (c 1, 7, .inr (.inr (.inr (.inr (fun j => some (ta j))))))), (q_now, .inr (7, [.ref q_now_wall, .int v_now_tools, .ref q_now_kind, .ref q_now_m, .ref q_now_tape, .int v_now_tapeLength, .ref q_now_moved, .ref q_now_seen, .int v_now_z, .ref q_now_told, .int v_now_waiting])), (q_now_kind, .inl (c 0, 6, .inl v_now_kind)), (q_now_m, .inl (c 0, 6, .inl v_now_m)), (q_now_moved, .inr (3, [.ref q_now_moved_names, .ref q_now_moved_steps, .int v_now_moved_length, .ref q_now_moved_stack, .ref q_now_moved_answers, .int v_now_moved_side, .int v_now_moved_round, .ref q_now_moved_draft, .int v_now_moved_drafted, .ref q_now_moved_held, .int v_now_moved_holding, .int v_now_moved_open, .int v_now_moved_digits, .int v_now_moved_wantsOperand])), (q_now_moved_answers, .inl (c 0, n_now_moved_answers, .inl v_now_moved_answers)), (q_now_moved_stack, .inl (c 0, 50, .inl v_now_moved_stack)), (q_now_moved_steps, .inl (c 0, 50, .inl v_now_moved_steps)), (q_now_wall, .inr (10, [.int v_now_wall_rows, .int v_now_wall_columns, .ref q_now_wall_air, .ref q_now_wall_paste, .ref q_now_wall_open, .int v_now_wall_holes, .int v_now_wall_out, .int v_now_wall_night, .ref q_now_wall_met, .ref q_now_wall_line, .int v_now_wall_inLine])), (q_now_wall_air, .inl (c 0, 25, .inl v_now_wall_air)), (q_now_wall_open, .inl (c 0, 4, .inl v_now_wall_open)), (q_now_wall_paste, .inl (c 0, 25, .inl v_now_wall_paste)), (ta 0, .inr (8, [])), (ta 1, .inr (0, [])), (ta 2, .inr (4, [])), (ta 3, .inr (5, [])), (ta 4, .inr (6, [])), (ta 5, .inr (2, [])), (ta 6, .inr (1, []))] := hD
        refine lv_aload_n hx hb dX11_stroke_41 rfl (lv_at hl 0 rfl) ?_
        refine va_get (D := D) (ci := 11) (v := .ref q_now) (C := RX11) (T := TX11) (N := 11) hx hb hts in_X11_stroke_X11 hown hK.1 hP 0 rfl rfl 0 (by decide) (hts (.fieldLink RX11 14 "PaperBubbles" "now" "LPaperBubbles$State;") (List.mem_of_getElem? (i := 1) rfl)) (fun _ h9 => h9) rfl dX11_stroke_42 ?_
        refine va_getN (D := D) (ci := 7) (v := .ref q_now_m) (C := RX7) (T := TX7) (N := 11) hx hb hts in_X11_stroke_X7 hown hK.1 hP 3 rfl rfl 3 (by decide) (va_Nw.use rfl (hK.2 (.fieldLinkNest "PaperBubbles" 139 "PaperBubbles$State" "m" "[I" "PaperBubbles") (List.mem_of_getElem? (i := 6) rfl))) (fun _ h9 => h9) rfl dX11_stroke_45 ?_
        refine lv_iload_n hx hb dX11_stroke_48 rfl (lv_at hl 1 rfl) ?_
        obtain ⟨hi_12, h⟩ := chi_ok h
        refine va_iald hx hb hK.1 hP 5 0 rfl rfl hi_12 dX11_stroke_49 ?_
        obtain ⟨t_13, et_13, h⟩ := nm_ok h
        refine gTop et_13 ?_
        refine lv_aload_n hx hb dX11_stroke_50 rfl (lv_at hl 0 rfl) ?_
        refine va_get (D := D) (ci := 11) (v := .ref q_now) (C := RX11) (T := TX11) (N := 11) hx hb hts in_X11_stroke_X11 hown hK.1 hP 0 rfl rfl 0 (by decide) (hts (.fieldLink RX11 14 "PaperBubbles" "now" "LPaperBubbles$State;") (List.mem_of_getElem? (i := 1) rfl)) (fun _ h9 => h9) rfl dX11_stroke_51 ?_
        refine va_getN (D := D) (ci := 7) (v := .ref q_now_moved) (C := RX7) (T := TX7) (N := 11) hx hb hts in_X11_stroke_X7 hown hK.1 hP 3 rfl rfl 6 (by decide) (va_Nw.use rfl (hK.2 (.fieldLinkNest "PaperBubbles" 152 "PaperBubbles$State" "moved" "LPaperBubbles$Law;" "PaperBubbles") (List.mem_of_getElem? (i := 7) rfl))) (fun _ h9 => h9) rfl dX11_stroke_54 ?_
        refine lv_iload_n hx hb dX11_stroke_57 rfl (lv_at hl 2 rfl) ?_
        refine lv_iload_n hx hb dX11_stroke_58 rfl (lv_at hl 3 rfl) ?_
        obtain ⟨w_15, w_16, w_17, w_18, w_19, hc_14, h⟩ := kb5_ok h
        refine gCallV (isC := [10, 11, 12, 13, 6, 7, 8, 9, 14, 15, 16, 17, 18, 19, 20]) (wc := [(q_now_wall, .inr (10, [.int v_now_wall_rows, .int v_now_wall_columns, .ref q_now_wall_air, .ref q_now_wall_paste, .ref q_now_wall_open, .int v_now_wall_holes, .int v_now_wall_out, .int v_now_wall_night, .ref q_now_wall_met, .ref q_now_wall_line, .int v_now_wall_inLine])), (q_now_wall_air, .inl (c 0, 25, .inl v_now_wall_air)), (q_now_wall_open, .inl (c 0, 4, .inl v_now_wall_open)), (q_now_wall_paste, .inl (c 0, 25, .inl v_now_wall_paste)), (q_now_moved, .inr (3, [.ref q_now_moved_names, .ref q_now_moved_steps, .int v_now_moved_length, .ref q_now_moved_stack, .ref q_now_moved_answers, .int v_now_moved_side, .int v_now_moved_round, .ref q_now_moved_draft, .int v_now_moved_drafted, .ref q_now_moved_held, .int v_now_moved_holding, .int v_now_moved_open, .int v_now_moved_digits, .int v_now_moved_wantsOperand])), (q_now_moved_answers, .inl (c 0, n_now_moved_answers, .inl v_now_moved_answers)), (q_now_moved_stack, .inl (c 0, 50, .inl v_now_moved_stack)), (q_now_moved_steps, .inl (c 0, 50, .inl v_now_moved_steps)), (ta 0, .inr (8, [])), (ta 1, .inr (0, [])), (ta 2, .inr (4, [])), (ta 3, .inr (5, [])), (ta 4, .inr (6, [])), (ta 5, .inr (2, [])), (ta 6, .inr (1, []))]) (w1 := [(q_now_wall, .inr (10, [.int v_now_wall_rows, .int v_now_wall_columns, .ref q_now_wall_air, .ref q_now_wall_paste, .ref q_now_wall_open, .int w_15, .int w_16, .int v_now_wall_night, .ref q_now_wall_met, .ref q_now_wall_line, .int v_now_wall_inLine])), (q_now_wall_air, .inl (c 0, 25, .inl w_17)), (q_now_wall_open, .inl (c 0, 4, .inl v_now_wall_open)), (q_now_wall_paste, .inl (c 0, 25, .inl v_now_wall_paste)), (q_now_moved, .inr (3, [.ref q_now_moved_names, .ref q_now_moved_steps, .int v_now_moved_length, .ref q_now_moved_stack, .ref q_now_moved_answers, .int v_now_moved_side, .int v_now_moved_round, .ref q_now_moved_draft, .int v_now_moved_drafted, .ref q_now_moved_held, .int v_now_moved_holding, .int v_now_moved_open, .int v_now_moved_digits, .int v_now_moved_wantsOperand])), (q_now_moved_answers, .inl (c 0, n_now_moved_answers, .inl w_18)), (q_now_moved_stack, .inl (c 0, 50, .inl w_19)), (q_now_moved_steps, .inl (c 0, 50, .inl v_now_moved_steps)), (ta 0, .inr (8, [])), (ta 1, .inr (0, [])), (ta 2, .inr (4, [])), (ta 3, .inr (5, [])), (ta 4, .inr (6, [])), (ta 5, .inr (2, [])), (ta 6, .inr (1, []))]) hP hD hS hA rfl rfl (va_runV (rm := rm_X10_strike) (ws := wsX10_strike) (As := [.ref (ta r_11.toNatClampNeg), .int t_13, .ref q_now_moved, .int a_2, .int a_3]) (rest := []) (gFix hF) (c_X10_strike l D c q_now_wall q_now_moved q_now_wall_air q_now_wall_paste q_now_wall_open q_now_wall_met q_now_wall_line q_now_moved_names q_now_moved_steps q_now_moved_stack q_now_moved_answers q_now_moved_draft q_now_moved_held ta n_now_moved_answers t_13 a_2 a_3 r_11 v_now_wall_rows v_now_wall_columns v_now_wall_holes v_now_wall_out v_now_wall_night v_now_wall_inLine v_now_wall_air v_now_wall_open v_now_wall_paste v_now_moved_length v_now_moved_side v_now_moved_round v_now_moved_drafted v_now_moved_holding v_now_moved_open v_now_moved_digits v_now_moved_wantsOperand v_now_moved_answers v_now_moved_stack v_now_moved_steps w_15 w_16 w_17 w_18 w_19 hc_14 H.size) (cwV 5 hts gX11_stroke_X10_strike rfl rfl rfl (by decide +kernel) ⟨Nat.le_of_ble_eq_true rfl, Nat.le_of_ble_eq_true rfl⟩) (gPreV (wc := [(q_now_wall, .inr (10, [.int v_now_wall_rows, .int v_now_wall_columns, .ref q_now_wall_air, .ref q_now_wall_paste, .ref q_now_wall_open, .int v_now_wall_holes, .int v_now_wall_out, .int v_now_wall_night, .ref q_now_wall_met, .ref q_now_wall_line, .int v_now_wall_inLine])), (q_now_wall_air, .inl (c 0, 25, .inl v_now_wall_air)), (q_now_wall_open, .inl (c 0, 4, .inl v_now_wall_open)), (q_now_wall_paste, .inl (c 0, 25, .inl v_now_wall_paste)), (q_now_moved, .inr (3, [.ref q_now_moved_names, .ref q_now_moved_steps, .int v_now_moved_length, .ref q_now_moved_stack, .ref q_now_moved_answers, .int v_now_moved_side, .int v_now_moved_round, .ref q_now_moved_draft, .int v_now_moved_drafted, .ref q_now_moved_held, .int v_now_moved_holding, .int v_now_moved_open, .int v_now_moved_digits, .int v_now_moved_wantsOperand])), (q_now_moved_answers, .inl (c 0, n_now_moved_answers, .inl v_now_moved_answers)), (q_now_moved_stack, .inl (c 0, 50, .inl v_now_moved_stack)), (q_now_moved_steps, .inl (c 0, 50, .inl v_now_moved_steps)), (ta 0, .inr (8, [])), (ta 1, .inr (0, [])), (ta 2, .inr (4, [])), (ta 3, .inr (5, [])), (ta 4, .inr (6, [])), (ta 5, .inr (2, [])), (ta 6, .inr (1, []))]) (q := (RX10, TX10, 11)) (ci := 10) (q0 := 10) (isC := [10, 11, 12, 13, 6, 7, 8, 9, 14, 15, 16, 17, 18, 19, 20]) hK hX hS hA hP hD rfl (by decide) rfl rfl) rfl rfl hl.1 rfl (lv_room (Nat.le_of_ble_eq_true rfl)) dX11_stroke_59 ⟨Nat.le_of_ble_eq_true rfl, Nat.le_of_ble_eq_true rfl⟩) (fun H locs hP hD hS => ?_)
        have hP : va_P D gcl [(q_this, .inr (11, [.ref q_now, .ref q_kept, .int v_images, .ref q_kinds, .ref q_voice, .ref q_thought, .ref q_further, .ref q_errors, .ref q_sheetBits, .ref q_sheetLength, .ref q_numbers])), (q_errors, .inl (c 0, 6, .inl v_errors)), (q_kinds, .inl (c 1, 7, .inr (.inr (.inr (.inr (fun j => some (ta j))))))), (q_now, .inr (7, [.ref q_now_wall, .int v_now_tools, .ref q_now_kind, .ref q_now_m, .ref q_now_tape, .int v_now_tapeLength, .ref q_now_moved, .ref q_now_seen, .int v_now_z, .ref q_now_told, .int v_now_waiting])), (q_now_kind, .inl (c 0, 6, .inl v_now_kind)), (q_now_m, .inl (c 0, 6, .inl v_now_m)), (q_now_moved, .inr (3, [.ref q_now_moved_names, .ref q_now_moved_steps, .int v_now_moved_length, .ref q_now_moved_stack, .ref q_now_moved_answers, .int v_now_moved_side, .int v_now_moved_round, .ref q_now_moved_draft, .int v_now_moved_drafted, .ref q_now_moved_held, .int v_now_moved_holding, .int v_now_moved_open, .int v_now_moved_digits, .int v_now_moved_wantsOperand])), (q_now_moved_answers, .inl (c 0, n_now_moved_answers, .inl w_18)), (q_now_moved_stack, .inl (c 0, 50, .inl w_19)), (q_now_moved_steps, .inl (c 0, 50, .inl v_now_moved_steps)), (q_now_wall, .inr (10, [.int v_now_wall_rows, .int v_now_wall_columns, .ref q_now_wall_air, .ref q_now_wall_paste, .ref q_now_wall_open, .int w_15, .int w_16, .int v_now_wall_night, .ref q_now_wall_met, .ref q_now_wall_line, .int v_now_wall_inLine])), (q_now_wall_air, .inl (c 0, 25, .inl w_17)), (q_now_wall_open, .inl (c 0, 4, .inl v_now_wall_open)), (q_now_wall_paste, .inl (c 0, 25, .inl v_now_wall_paste)), (ta 0, .inr (8, [])), (ta 1, .inr (0, [])), (ta 2, .inr (4, [])), (ta 3, .inr (5, [])), (ta 4, .inr (6, [])), (ta 5, .inr (2, [])), (ta 6, .inr (1, []))] H := hP
        have hD : va_D A [(q_this, .inr (11, [.ref q_now, .ref q_kept, .int v_images, .ref q_kinds, .ref q_voice, .ref q_thought, .ref q_further, .ref q_errors, .ref q_sheetBits, .ref q_sheetLength, .ref q_numbers])), (q_errors, .inl (c 0, 6, .inl v_errors)), (q_kinds, .inl (c 1, 7, .inr (.inr (.inr (.inr (fun j => some (ta j))))))), (q_now, .inr (7, [.ref q_now_wall, .int v_now_tools, .ref q_now_kind, .ref q_now_m, .ref q_now_tape, .int v_now_tapeLength, .ref q_now_moved, .ref q_now_seen, .int v_now_z, .ref q_now_told, .int v_now_waiting])), (q_now_kind, .inl (c 0, 6, .inl v_now_kind)), (q_now_m, .inl (c 0, 6, .inl v_now_m)), (q_now_moved, .inr (3, [.ref q_now_moved_names, .ref q_now_moved_steps, .int v_now_moved_length, .ref q_now_moved_stack, .ref q_now_moved_answers, .int v_now_moved_side, .int v_now_moved_round, .ref q_now_moved_draft, .int v_now_moved_drafted, .ref q_now_moved_held, .int v_now_moved_holding, .int v_now_moved_open, .int v_now_moved_digits, .int v_now_moved_wantsOperand])), (q_now_moved_answers, .inl (c 0, n_now_moved_answers, .inl w_18)), (q_now_moved_stack, .inl (c 0, 50, .inl w_19)), (q_now_moved_steps, .inl (c 0, 50, .inl v_now_moved_steps)), (q_now_wall, .inr (10, [.int v_now_wall_rows, .int v_now_wall_columns, .ref q_now_wall_air, .ref q_now_wall_paste, .ref q_now_wall_open, .int w_15, .int w_16, .int v_now_wall_night, .ref q_now_wall_met, .ref q_now_wall_line, .int v_now_wall_inLine])), (q_now_wall_air, .inl (c 0, 25, .inl w_17)), (q_now_wall_open, .inl (c 0, 4, .inl v_now_wall_open)), (q_now_wall_paste, .inl (c 0, 25, .inl v_now_wall_paste)), (ta 0, .inr (8, [])), (ta 1, .inr (0, [])), (ta 2, .inr (4, [])), (ta 3, .inr (5, [])), (ta 4, .inr (6, [])), (ta 5, .inr (2, [])), (ta 6, .inr (1, []))] := hD
        refine lv_aload_n hx hb dX11_stroke_62 rfl (lv_at hl 0 rfl) ?_
        refine va_get (D := D) (ci := 11) (v := .ref q_now) (C := RX11) (T := TX11) (N := 11) hx hb hts in_X11_stroke_X11 hown hK.1 hP 0 rfl rfl 0 (by decide) (hts (.fieldLink RX11 14 "PaperBubbles" "now" "LPaperBubbles$State;") (List.mem_of_getElem? (i := 1) rfl)) (fun _ h9 => h9) rfl dX11_stroke_63 ?_
        refine va_getN (D := D) (ci := 7) (v := .ref q_now_wall) (C := RX7) (T := TX7) (N := 11) hx hb hts in_X11_stroke_X7 hown hK.1 hP 3 rfl rfl 0 (by decide) (va_Nw.use rfl (hK.2 (.fieldLinkNest "PaperBubbles" 86 "PaperBubbles$State" "wall" "LPaperBubbles$Wall;" "PaperBubbles") (List.mem_of_getElem? (i := 18) rfl))) (fun _ h9 => h9) rfl dX11_stroke_66 ?_
        refine va_getN (D := D) (ci := 10) (v := .ref q_now_wall_air) (C := RX10) (T := TX10) (N := 11) hx hb hts in_X11_stroke_X10 hown hK.1 hP 10 rfl rfl 2 (by decide) (va_Nw.use rfl (hK.2 (.fieldLinkNest "PaperBubbles" 101 "PaperBubbles$Wall" "air" "[I" "PaperBubbles") (List.mem_of_getElem? (i := 0) rfl))) (fun _ h9 => h9) rfl dX11_stroke_69 ?_
        refine lv_iload_n hx hb dX11_stroke_72 rfl (lv_at hl 2 rfl) ?_
        obtain ⟨hi_20, h⟩ := chi_ok h
        refine va_iald hx hb hK.1 hP 11 0 rfl rfl hi_20 dX11_stroke_73 ?_
        cases h
        exact gIret hF hP hD hS rfl dX11_stroke_74
      · have h := it_t c_9 h
        exact t_L23 v_errors v_now_moved_answers v_now_moved_stack v_now_wall_holes v_now_wall_out v_now_wall_air H locs hP hD hS ls (lv_sub hl [0] rfl) h
set_option maxRecDepth 20000 in
theorem in_X11_tell_X11 : ∀ w ∈ u_ws RX11 TX11 11, w ∈ wsX11_tell := by decide +kernel
set_option maxRecDepth 20000 in
theorem in_X11_tell_X7 : ∀ w ∈ u_ws RX7 TX7 11, w ∈ wsX11_tell := by decide +kernel
def f_X11_tell (a_1 : Int32) (v_errors : Nat → Int32) (v_now_waiting : Int32) (v_now_told : Nat → Int32) : Option (Int32 × (Nat → Int32) × Int32 × (Nat → Int32)) :=
  kb (f_X11_within v_now_waiting 0 19) fun r_2 =>
  if r_2 = 0 then
    kb2 (f_X11_error 4 v_errors) fun r_8 w_9 =>
    some (r_8, w_9, v_now_waiting, v_now_told)
  else
    chi v_now_waiting 20 <|
    nm (upd v_now_told v_now_waiting.toNatClampNeg a_1) fun w_5 =>
    nm (v_now_waiting + 1) fun t_6 =>
    some (t_6, v_errors, t_6, w_5)

abbrev rm_X11_tell : Room := { frames := 2, cells := 0, slots := 0, locals := 43 }
set_option maxHeartbeats 4000000 in
set_option maxRecDepth 100000 in
theorem c_X11_tell (l : Launch) (D : va_G) (c : Nat → ClassId) (q_this q_now q_kept q_kinds q_voice q_thought q_further q_errors q_sheetBits q_sheetLength q_numbers q_now_wall q_now_kind q_now_m q_now_tape q_now_moved q_now_seen q_now_told : Nat) (a_1 : Int32) (v_images : Int32) (v_errors : Nat → Int32) (v_now_tools : Int32) (v_now_tapeLength : Int32) (v_now_z : Int32) (v_now_waiting : Int32) (v_now_told : Nat → Int32) (o_r : Int32) (o_v_errors : Nat → Int32) (o_v_now_waiting : Int32) (o_v_now_told : Nat → Int32) (h : f_X11_tell a_1 v_errors v_now_waiting v_now_told = some (o_r, o_v_errors, o_v_now_waiting, o_v_now_told)) : gMI l yX11_tell wsX11_tell rm_X11_tell D c [.ref q_this, .int a_1] [(q_this, .inr (11, [.ref q_now, .ref q_kept, .int v_images, .ref q_kinds, .ref q_voice, .ref q_thought, .ref q_further, .ref q_errors, .ref q_sheetBits, .ref q_sheetLength, .ref q_numbers])), (q_errors, .inl (c 0, 6, .inl v_errors)), (q_now, .inr (7, [.ref q_now_wall, .int v_now_tools, .ref q_now_kind, .ref q_now_m, .ref q_now_tape, .int v_now_tapeLength, .ref q_now_moved, .ref q_now_seen, .int v_now_z, .ref q_now_told, .int v_now_waiting])), (q_now_told, .inl (c 0, 20, .inl v_now_told))] [(q_this, .inr (11, [.ref q_now, .ref q_kept, .int v_images, .ref q_kinds, .ref q_voice, .ref q_thought, .ref q_further, .ref q_errors, .ref q_sheetBits, .ref q_sheetLength, .ref q_numbers])), (q_errors, .inl (c 0, 6, .inl o_v_errors)), (q_now, .inr (7, [.ref q_now_wall, .int v_now_tools, .ref q_now_kind, .ref q_now_m, .ref q_now_tape, .int v_now_tapeLength, .ref q_now_moved, .ref q_now_seen, .int v_now_z, .ref q_now_told, .int o_v_now_waiting])), (q_now_told, .inl (c 0, 20, .inl o_v_now_told))] o_r := by
  refine gMI_of (cc := cX11_tell) (maxL := 2) (rt := (some .int)) (by decide +kernel) rfl (Nat.le_of_ble_eq_true rfl) ?_
  intro p e s m below meth co A hF hK hX hP hD hA hS ls hl
  obtain ⟨hx, hb, hr, hts, hown, hlocks, hml⟩ := id hF
  have hl : lv_has ls 2 [(0, .ref q_this), (1, .int a_1)] := hl
  unfold f_X11_tell at h
  refine lv_aload_n hx hb dX11_tell_0 rfl (lv_at hl 0 rfl) ?_
  refine va_get (D := D) (ci := 11) (v := .ref q_now) (C := RX11) (T := TX11) (N := 11) hx hb hts in_X11_tell_X11 hown hK.1 hP 0 rfl rfl 0 (by decide) (hts (.fieldLink RX11 14 "PaperBubbles" "now" "LPaperBubbles$State;") (List.mem_of_getElem? (i := 1) rfl)) (fun _ h9 => h9) rfl dX11_tell_1 ?_
  refine va_getN (D := D) (ci := 7) (v := .int v_now_waiting) (C := RX7) (T := TX7) (N := 11) hx hb hts in_X11_tell_X7 hown hK.1 hP 2 rfl rfl 10 (by decide) (va_Nw.use rfl (hK.2 (.fieldLinkNest "PaperBubbles" 306 "PaperBubbles$State" "waiting" "I" "PaperBubbles") (List.mem_of_getElem? (i := 14) rfl))) (fun _ h9 => h9) rfl dX11_tell_4 ?_
  refine lv_iconst (v := 0) hx hb dX11_tell_7 (by decide) ?_
  refine lv_bipush (v := 19) hx hb dX11_tell_8 (by decide) ?_
  obtain ⟨r_2, hc_1, h⟩ := kb_ok h
  refine gCallI (isC := []) (wc := []) (w1 := []) hP hD hS hA rfl rfl (va_runS (rm := rm_X11_within) (ws := wsX11_within) (As := [.int v_now_waiting, .int 0, .int 19]) (rest := []) (gFix hF) (c_X11_within l D c v_now_waiting 0 19 r_2 hc_1 s.heap.size) (va_cwS 3 hts gX11_tell_X11_within rfl rfl rfl (by decide +kernel) ⟨Nat.le_of_ble_eq_true rfl, Nat.le_of_ble_eq_true rfl⟩) (gPreS (wc := []) (isC := []) hK hX hS hA hP hD rfl (by decide)) rfl rfl hl.1 rfl (lv_room (Nat.le_of_ble_eq_true rfl)) dX11_tell_10 ⟨Nat.le_of_ble_eq_true rfl, Nat.le_of_ble_eq_true rfl⟩) (fun H locs hP hD hS => ?_)
  have hP : va_P D gcl [(q_this, .inr (11, [.ref q_now, .ref q_kept, .int v_images, .ref q_kinds, .ref q_voice, .ref q_thought, .ref q_further, .ref q_errors, .ref q_sheetBits, .ref q_sheetLength, .ref q_numbers])), (q_errors, .inl (c 0, 6, .inl v_errors)), (q_now, .inr (7, [.ref q_now_wall, .int v_now_tools, .ref q_now_kind, .ref q_now_m, .ref q_now_tape, .int v_now_tapeLength, .ref q_now_moved, .ref q_now_seen, .int v_now_z, .ref q_now_told, .int v_now_waiting])), (q_now_told, .inl (c 0, 20, .inl v_now_told))] H := hP
  have hD : va_D A [(q_this, .inr (11, [.ref q_now, .ref q_kept, .int v_images, .ref q_kinds, .ref q_voice, .ref q_thought, .ref q_further, .ref q_errors, .ref q_sheetBits, .ref q_sheetLength, .ref q_numbers])), (q_errors, .inl (c 0, 6, .inl v_errors)), (q_now, .inr (7, [.ref q_now_wall, .int v_now_tools, .ref q_now_kind, .ref q_now_m, .ref q_now_tape, .int v_now_tapeLength, .ref q_now_moved, .ref q_now_seen, .int v_now_z, .ref q_now_told, .int v_now_waiting])), (q_now_told, .inl (c 0, 20, .inl v_now_told))] := hD
  refine lv_if_ne (tgt := 22) hx hb dX11_tell_13 (by decide) (fun c_3 => ?_) (fun c_3 => ?_)
  · have h := it_f c_3 h
    refine lv_aload_n hx hb dX11_tell_22 rfl (lv_at hl 0 rfl) ?_
    refine va_get (D := D) (ci := 11) (v := .ref q_now) (C := RX11) (T := TX11) (N := 11) hx hb hts in_X11_tell_X11 hown hK.1 hP 0 rfl rfl 0 (by decide) (hts (.fieldLink RX11 14 "PaperBubbles" "now" "LPaperBubbles$State;") (List.mem_of_getElem? (i := 1) rfl)) (fun _ h9 => h9) rfl dX11_tell_23 ?_
    refine va_getN (D := D) (ci := 7) (v := .ref q_now_told) (C := RX7) (T := TX7) (N := 11) hx hb hts in_X11_tell_X7 hown hK.1 hP 2 rfl rfl 9 (by decide) (va_Nw.use rfl (hK.2 (.fieldLinkNest "PaperBubbles" 309 "PaperBubbles$State" "told" "[I" "PaperBubbles") (List.mem_of_getElem? (i := 15) rfl))) (fun _ h9 => h9) rfl dX11_tell_26 ?_
    refine lv_aload_n hx hb dX11_tell_29 rfl (lv_at hl 0 rfl) ?_
    refine va_get (D := D) (ci := 11) (v := .ref q_now) (C := RX11) (T := TX11) (N := 11) hx hb hts in_X11_tell_X11 hown hK.1 hP 0 rfl rfl 0 (by decide) (hts (.fieldLink RX11 14 "PaperBubbles" "now" "LPaperBubbles$State;") (List.mem_of_getElem? (i := 1) rfl)) (fun _ h9 => h9) rfl dX11_tell_30 ?_
    refine va_getN (D := D) (ci := 7) (v := .int v_now_waiting) (C := RX7) (T := TX7) (N := 11) hx hb hts in_X11_tell_X7 hown hK.1 hP 2 rfl rfl 10 (by decide) (va_Nw.use rfl (hK.2 (.fieldLinkNest "PaperBubbles" 306 "PaperBubbles$State" "waiting" "I" "PaperBubbles") (List.mem_of_getElem? (i := 14) rfl))) (fun _ h9 => h9) rfl dX11_tell_33 ?_
    refine lv_iload_n hx hb dX11_tell_36 rfl (lv_at hl 1 rfl) ?_
    obtain ⟨hi_4, h⟩ := chi_ok h
    obtain ⟨w_5, ew_5, h⟩ := nm_ok h
    refine va_iast hx hb hK.1 hP hD hS 3 0 rfl rfl hi_4 dX11_tell_37 (fun H locs hP hD hS => ?_)
    have hP : va_P D gcl [(q_this, .inr (11, [.ref q_now, .ref q_kept, .int v_images, .ref q_kinds, .ref q_voice, .ref q_thought, .ref q_further, .ref q_errors, .ref q_sheetBits, .ref q_sheetLength, .ref q_numbers])), (q_errors, .inl (c 0, 6, .inl v_errors)), (q_now, .inr (7, [.ref q_now_wall, .int v_now_tools, .ref q_now_kind, .ref q_now_m, .ref q_now_tape, .int v_now_tapeLength, .ref q_now_moved, .ref q_now_seen, .int v_now_z, .ref q_now_told, .int v_now_waiting])), (q_now_told, .inl (c 0, 20, .inl w_5))] H := by subst ew_5; exact hP
    have hD : va_D A [(q_this, .inr (11, [.ref q_now, .ref q_kept, .int v_images, .ref q_kinds, .ref q_voice, .ref q_thought, .ref q_further, .ref q_errors, .ref q_sheetBits, .ref q_sheetLength, .ref q_numbers])), (q_errors, .inl (c 0, 6, .inl v_errors)), (q_now, .inr (7, [.ref q_now_wall, .int v_now_tools, .ref q_now_kind, .ref q_now_m, .ref q_now_tape, .int v_now_tapeLength, .ref q_now_moved, .ref q_now_seen, .int v_now_z, .ref q_now_told, .int v_now_waiting])), (q_now_told, .inl (c 0, 20, .inl w_5))] := by subst ew_5; exact hD
    refine lv_aload_n hx hb dX11_tell_38 rfl (lv_at hl 0 rfl) ?_
    refine va_get (D := D) (ci := 11) (v := .ref q_now) (C := RX11) (T := TX11) (N := 11) hx hb hts in_X11_tell_X11 hown hK.1 hP 0 rfl rfl 0 (by decide) (hts (.fieldLink RX11 14 "PaperBubbles" "now" "LPaperBubbles$State;") (List.mem_of_getElem? (i := 1) rfl)) (fun _ h9 => h9) rfl dX11_tell_39 ?_
    refine lv_dup hx hb dX11_tell_42 rfl ?_
    refine va_getN (D := D) (ci := 7) (v := .int v_now_waiting) (C := RX7) (T := TX7) (N := 11) hx hb hts in_X11_tell_X7 hown hK.1 hP 2 rfl rfl 10 (by decide) (va_Nw.use rfl (hK.2 (.fieldLinkNest "PaperBubbles" 306 "PaperBubbles$State" "waiting" "I" "PaperBubbles") (List.mem_of_getElem? (i := 14) rfl))) (fun _ h9 => h9) rfl dX11_tell_43 ?_
    refine lv_iconst (v := 1) hx hb dX11_tell_46 (by decide) ?_
    refine lv_iadd hx hb dX11_tell_47 ?_
    obtain ⟨t_6, et_6, h⟩ := nm_ok h
    refine gTop et_6 ?_
    refine va_putN (D := D) (ci := 7) (v := .int t_6) (ty := .int) (C := RX7) (T := TX7) (N := 11) hx hb hts in_X11_tell_X7 tyX7 tyX7_ok nmX7 hown hK.1 hP hD hS 2 rfl rfl 10 (by decide) (va_Nw.use rfl (hK.2 (.fieldLinkNest "PaperBubbles" 306 "PaperBubbles$State" "waiting" "I" "PaperBubbles") (List.mem_of_getElem? (i := 14) rfl))) (fun _ h9 => h9) rfl (by decide +kernel) rfl rfl (Nat.le_of_ble_eq_true rfl) dX11_tell_48 (fun H locs hP hD hS => ?_)
    have hP : va_P D gcl [(q_this, .inr (11, [.ref q_now, .ref q_kept, .int v_images, .ref q_kinds, .ref q_voice, .ref q_thought, .ref q_further, .ref q_errors, .ref q_sheetBits, .ref q_sheetLength, .ref q_numbers])), (q_errors, .inl (c 0, 6, .inl v_errors)), (q_now, .inr (7, [.ref q_now_wall, .int v_now_tools, .ref q_now_kind, .ref q_now_m, .ref q_now_tape, .int v_now_tapeLength, .ref q_now_moved, .ref q_now_seen, .int v_now_z, .ref q_now_told, .int t_6])), (q_now_told, .inl (c 0, 20, .inl w_5))] H := hP
    have hD : va_D A [(q_this, .inr (11, [.ref q_now, .ref q_kept, .int v_images, .ref q_kinds, .ref q_voice, .ref q_thought, .ref q_further, .ref q_errors, .ref q_sheetBits, .ref q_sheetLength, .ref q_numbers])), (q_errors, .inl (c 0, 6, .inl v_errors)), (q_now, .inr (7, [.ref q_now_wall, .int v_now_tools, .ref q_now_kind, .ref q_now_m, .ref q_now_tape, .int v_now_tapeLength, .ref q_now_moved, .ref q_now_seen, .int v_now_z, .ref q_now_told, .int t_6])), (q_now_told, .inl (c 0, 20, .inl w_5))] := hD
    refine lv_aload_n hx hb dX11_tell_51 rfl (lv_at hl 0 rfl) ?_
    refine va_get (D := D) (ci := 11) (v := .ref q_now) (C := RX11) (T := TX11) (N := 11) hx hb hts in_X11_tell_X11 hown hK.1 hP 0 rfl rfl 0 (by decide) (hts (.fieldLink RX11 14 "PaperBubbles" "now" "LPaperBubbles$State;") (List.mem_of_getElem? (i := 1) rfl)) (fun _ h9 => h9) rfl dX11_tell_52 ?_
    refine va_getN (D := D) (ci := 7) (v := .int t_6) (C := RX7) (T := TX7) (N := 11) hx hb hts in_X11_tell_X7 hown hK.1 hP 2 rfl rfl 10 (by decide) (va_Nw.use rfl (hK.2 (.fieldLinkNest "PaperBubbles" 306 "PaperBubbles$State" "waiting" "I" "PaperBubbles") (List.mem_of_getElem? (i := 14) rfl))) (fun _ h9 => h9) rfl dX11_tell_55 ?_
    cases h
    exact gIret hF hP hD hS rfl dX11_tell_58
  · have h := it_t c_3 h
    refine lv_aload_n hx hb dX11_tell_16 rfl (lv_at hl 0 rfl) ?_
    refine lv_iconst (v := 4) hx hb dX11_tell_17 (by decide) ?_
    obtain ⟨r_8, w_9, hc_7, h⟩ := kb2_ok h
    refine gCallI (isC := [0, 1]) (wc := [(q_this, .inr (11, [.ref q_now, .ref q_kept, .int v_images, .ref q_kinds, .ref q_voice, .ref q_thought, .ref q_further, .ref q_errors, .ref q_sheetBits, .ref q_sheetLength, .ref q_numbers])), (q_errors, .inl (c 0, 6, .inl v_errors))]) (w1 := [(q_this, .inr (11, [.ref q_now, .ref q_kept, .int v_images, .ref q_kinds, .ref q_voice, .ref q_thought, .ref q_further, .ref q_errors, .ref q_sheetBits, .ref q_sheetLength, .ref q_numbers])), (q_errors, .inl (c 0, 6, .inl w_9))]) hP hD hS hA rfl rfl (va_runV (rm := rm_X11_error) (ws := wsX11_error) (As := [.int 4]) (rest := []) (gFix hF) (c_X11_error l D c q_this q_now q_kept q_kinds q_voice q_thought q_further q_errors q_sheetBits q_sheetLength q_numbers 4 v_images v_errors r_8 w_9 hc_7 H.size) (cwV 1 hts gX11_tell_X11_error rfl rfl rfl (by decide +kernel) ⟨Nat.le_of_ble_eq_true rfl, Nat.le_of_ble_eq_true rfl⟩) (gPreV (wc := [(q_this, .inr (11, [.ref q_now, .ref q_kept, .int v_images, .ref q_kinds, .ref q_voice, .ref q_thought, .ref q_further, .ref q_errors, .ref q_sheetBits, .ref q_sheetLength, .ref q_numbers])), (q_errors, .inl (c 0, 6, .inl v_errors))]) (q := (RX11, TX11, 11)) (ci := 11) (q0 := 0) (isC := [0, 1]) hK hX hS hA hP hD rfl (by decide) rfl rfl) rfl rfl hl.1 rfl (lv_room (Nat.le_of_ble_eq_true rfl)) dX11_tell_18 ⟨Nat.le_of_ble_eq_true rfl, Nat.le_of_ble_eq_true rfl⟩) (fun H locs hP hD hS => ?_)
    have hP : va_P D gcl [(q_this, .inr (11, [.ref q_now, .ref q_kept, .int v_images, .ref q_kinds, .ref q_voice, .ref q_thought, .ref q_further, .ref q_errors, .ref q_sheetBits, .ref q_sheetLength, .ref q_numbers])), (q_errors, .inl (c 0, 6, .inl w_9)), (q_now, .inr (7, [.ref q_now_wall, .int v_now_tools, .ref q_now_kind, .ref q_now_m, .ref q_now_tape, .int v_now_tapeLength, .ref q_now_moved, .ref q_now_seen, .int v_now_z, .ref q_now_told, .int v_now_waiting])), (q_now_told, .inl (c 0, 20, .inl v_now_told))] H := hP
    have hD : va_D A [(q_this, .inr (11, [.ref q_now, .ref q_kept, .int v_images, .ref q_kinds, .ref q_voice, .ref q_thought, .ref q_further, .ref q_errors, .ref q_sheetBits, .ref q_sheetLength, .ref q_numbers])), (q_errors, .inl (c 0, 6, .inl w_9)), (q_now, .inr (7, [.ref q_now_wall, .int v_now_tools, .ref q_now_kind, .ref q_now_m, .ref q_now_tape, .int v_now_tapeLength, .ref q_now_moved, .ref q_now_seen, .int v_now_z, .ref q_now_told, .int v_now_waiting])), (q_now_told, .inl (c 0, 20, .inl v_now_told))] := hD
    cases h
    exact gIret hF hP hD hS rfl dX11_tell_21
set_option maxRecDepth 20000 in
theorem in_X3_hold_X3 : ∀ w ∈ u_ws RX3 TX3 14, w ∈ wsX3_hold := by decide +kernel
def f_X3_hold (a_1 : Int32) (v_holding : Int32) (v_held : Nat → Int32) : Option (Int32 × (Nat → Int32)) :=
  if v_holding < 0 then
    some (v_holding, v_held)
  else
    if 50 ≤ v_holding then
      some (v_holding, v_held)
    else
      chi v_holding 50 <|
      nm (upd v_held v_holding.toNatClampNeg a_1) fun w_4 =>
      nm (v_holding + 1) fun t_5 =>
      some (t_5, w_4)

abbrev rm_X3_hold : Room := { frames := 0, cells := 0, slots := 0, locals := 0 }
set_option maxHeartbeats 4000000 in
set_option maxRecDepth 100000 in
theorem c_X3_hold (l : Launch) (D : va_G) (c : Nat → ClassId) (q_this q_names q_steps q_stack q_answers q_draft q_held : Nat) (a_1 : Int32) (v_length : Int32) (v_side : Int32) (v_round : Int32) (v_drafted : Int32) (v_holding : Int32) (v_open : Int32) (v_digits : Int32) (v_wantsOperand : Int32) (v_held : Nat → Int32) (o_v_holding : Int32) (o_v_held : Nat → Int32) (h : f_X3_hold a_1 v_holding v_held = some (o_v_holding, o_v_held)) : gMV l yX3_hold wsX3_hold rm_X3_hold D c [.ref q_this, .int a_1] [(q_this, .inr (3, [.ref q_names, .ref q_steps, .int v_length, .ref q_stack, .ref q_answers, .int v_side, .int v_round, .ref q_draft, .int v_drafted, .ref q_held, .int v_holding, .int v_open, .int v_digits, .int v_wantsOperand])), (q_held, .inl (c 0, 50, .inl v_held))] [(q_this, .inr (3, [.ref q_names, .ref q_steps, .int v_length, .ref q_stack, .ref q_answers, .int v_side, .int v_round, .ref q_draft, .int v_drafted, .ref q_held, .int o_v_holding, .int v_open, .int v_digits, .int v_wantsOperand])), (q_held, .inl (c 0, 50, .inl o_v_held))] := by
  refine gMV_of (cc := cX3_hold) (maxL := 2) (rt := none) (by decide +kernel) rfl (Nat.le_of_ble_eq_true rfl) ?_
  intro p e s m below meth co A hF hK hX hP hD hA hS ls hl
  obtain ⟨hx, hb, hr, hts, hown, hlocks, hml⟩ := id hF
  have hl : lv_has ls 2 [(0, .ref q_this), (1, .int a_1)] := hl
  unfold f_X3_hold at h
  refine lv_aload_n hx hb dX3_hold_0 rfl (lv_at hl 0 rfl) ?_
  refine va_get (D := D) (ci := 3) (v := .int v_holding) (C := RX3) (T := TX3) (N := 14) hx hb hts in_X3_hold_X3 hown hK.1 hP 0 rfl rfl 10 (by decide) (hts (.fieldLink RX3 81 "PaperBubbles$Law" "holding" "I") (List.mem_of_getElem? (i := 1) rfl)) (fun _ h9 => h9) rfl dX3_hold_1 ?_
  refine lv_if_lt (tgt := 36) hx hb dX3_hold_4 (by decide) (fun c_1 => ?_) (fun c_1 => ?_)
  · have h := it_t c_1 h
    cases h
    exact gVret hF hP hD hS dX3_hold_36
  · have h := it_f c_1 h
    refine lv_aload_n hx hb dX3_hold_7 rfl (lv_at hl 0 rfl) ?_
    refine va_get (D := D) (ci := 3) (v := .int v_holding) (C := RX3) (T := TX3) (N := 14) hx hb hts in_X3_hold_X3 hown hK.1 hP 0 rfl rfl 10 (by decide) (hts (.fieldLink RX3 81 "PaperBubbles$Law" "holding" "I") (List.mem_of_getElem? (i := 1) rfl)) (fun _ h9 => h9) rfl dX3_hold_8 ?_
    refine lv_bipush (v := 50) hx hb dX3_hold_11 (by decide) ?_
    refine lv_icmp_ge (tgt := 36) hx hb dX3_hold_13 (by decide) (fun c_2 => ?_) (fun c_2 => ?_)
    · have h := it_t c_2 h
      cases h
      exact gVret hF hP hD hS dX3_hold_36
    · have h := it_f c_2 h
      refine lv_aload_n hx hb dX3_hold_16 rfl (lv_at hl 0 rfl) ?_
      refine va_get (D := D) (ci := 3) (v := .ref q_held) (C := RX3) (T := TX3) (N := 14) hx hb hts in_X3_hold_X3 hown hK.1 hP 0 rfl rfl 9 (by decide) (hts (.fieldLink RX3 25 "PaperBubbles$Law" "held" "[I") (List.mem_of_getElem? (i := 2) rfl)) (fun _ h9 => h9) rfl dX3_hold_17 ?_
      refine lv_aload_n hx hb dX3_hold_20 rfl (lv_at hl 0 rfl) ?_
      refine va_get (D := D) (ci := 3) (v := .int v_holding) (C := RX3) (T := TX3) (N := 14) hx hb hts in_X3_hold_X3 hown hK.1 hP 0 rfl rfl 10 (by decide) (hts (.fieldLink RX3 81 "PaperBubbles$Law" "holding" "I") (List.mem_of_getElem? (i := 1) rfl)) (fun _ h9 => h9) rfl dX3_hold_21 ?_
      refine lv_iload_n hx hb dX3_hold_24 rfl (lv_at hl 1 rfl) ?_
      obtain ⟨hi_3, h⟩ := chi_ok h
      obtain ⟨w_4, ew_4, h⟩ := nm_ok h
      refine va_iast hx hb hK.1 hP hD hS 1 0 rfl rfl hi_3 dX3_hold_25 (fun H locs hP hD hS => ?_)
      have hP : va_P D gcl [(q_this, .inr (3, [.ref q_names, .ref q_steps, .int v_length, .ref q_stack, .ref q_answers, .int v_side, .int v_round, .ref q_draft, .int v_drafted, .ref q_held, .int v_holding, .int v_open, .int v_digits, .int v_wantsOperand])), (q_held, .inl (c 0, 50, .inl w_4))] H := by subst ew_4; exact hP
      have hD : va_D A [(q_this, .inr (3, [.ref q_names, .ref q_steps, .int v_length, .ref q_stack, .ref q_answers, .int v_side, .int v_round, .ref q_draft, .int v_drafted, .ref q_held, .int v_holding, .int v_open, .int v_digits, .int v_wantsOperand])), (q_held, .inl (c 0, 50, .inl w_4))] := by subst ew_4; exact hD
      refine lv_aload_n hx hb dX3_hold_26 rfl (lv_at hl 0 rfl) ?_
      refine lv_dup hx hb dX3_hold_27 rfl ?_
      refine va_get (D := D) (ci := 3) (v := .int v_holding) (C := RX3) (T := TX3) (N := 14) hx hb hts in_X3_hold_X3 hown hK.1 hP 0 rfl rfl 10 (by decide) (hts (.fieldLink RX3 81 "PaperBubbles$Law" "holding" "I") (List.mem_of_getElem? (i := 1) rfl)) (fun _ h9 => h9) rfl dX3_hold_28 ?_
      refine lv_iconst (v := 1) hx hb dX3_hold_31 (by decide) ?_
      refine lv_iadd hx hb dX3_hold_32 ?_
      obtain ⟨t_5, et_5, h⟩ := nm_ok h
      refine gTop et_5 ?_
      refine va_put (D := D) (ci := 3) (v := .int t_5) (ty := .int) (C := RX3) (T := TX3) (N := 14) hx hb hts in_X3_hold_X3 tyX3 tyX3_ok nmX3 hown hK.1 hP hD hS 0 rfl rfl 10 (by decide) (hts (.fieldLink RX3 81 "PaperBubbles$Law" "holding" "I") (List.mem_of_getElem? (i := 1) rfl)) (fun _ h9 => h9) rfl (by decide +kernel) rfl rfl (Nat.le_of_ble_eq_true rfl) dX3_hold_33 (fun H locs hP hD hS => ?_)
      have hP : va_P D gcl [(q_this, .inr (3, [.ref q_names, .ref q_steps, .int v_length, .ref q_stack, .ref q_answers, .int v_side, .int v_round, .ref q_draft, .int v_drafted, .ref q_held, .int t_5, .int v_open, .int v_digits, .int v_wantsOperand])), (q_held, .inl (c 0, 50, .inl w_4))] H := hP
      have hD : va_D A [(q_this, .inr (3, [.ref q_names, .ref q_steps, .int v_length, .ref q_stack, .ref q_answers, .int v_side, .int v_round, .ref q_draft, .int v_drafted, .ref q_held, .int t_5, .int v_open, .int v_digits, .int v_wantsOperand])), (q_held, .inl (c 0, 50, .inl w_4))] := hD
      cases h
      exact gVret hF hP hD hS dX3_hold_36
def f_X3_isDigit (a_0 : Int32) : Option (Int32) :=
  kb (f_X11_within a_0 48 57) fun r_2 =>
  chb r_2 <|
  some r_2

abbrev rm_X3_isDigit : Room := { frames := 1, cells := 0, slots := 0, locals := 22 }
set_option maxHeartbeats 4000000 in
set_option maxRecDepth 100000 in
theorem c_X3_isDigit (l : Launch) (D : va_G) (c : Nat → ClassId) (a_0 : Int32) (o_r : Int32) (h : f_X3_isDigit a_0 = some o_r) : gMI l yX3_isDigit wsX3_isDigit rm_X3_isDigit D c [.int a_0] [] [] o_r := by
  refine gMI_of (cc := cX3_isDigit) (maxL := 1) (rt := (some .boolean)) (by decide +kernel) rfl (Nat.le_of_ble_eq_true rfl) ?_
  intro p e s m below meth co A hF hK hX hP hD hA hS ls hl
  obtain ⟨hx, hb, hr, hts, hown, hlocks, hml⟩ := id hF
  have hl : lv_has ls 1 [(0, .int a_0)] := hl
  unfold f_X3_isDigit at h
  refine lv_iload_n hx hb dX3_isDigit_0 rfl (lv_at hl 0 rfl) ?_
  refine lv_bipush (v := 48) hx hb dX3_isDigit_1 (by decide) ?_
  refine lv_bipush (v := 57) hx hb dX3_isDigit_3 (by decide) ?_
  obtain ⟨r_2, hc_1, h⟩ := kb_ok h
  refine gCallI (isC := []) (wc := []) (w1 := []) hP hD hS hA rfl rfl (va_runSN (rm := rm_X11_within) (ws := wsX11_within) (As := [.int a_0, .int 48, .int 57]) (rest := []) (gFix hF) (c_X11_within l D c a_0 48 57 r_2 hc_1 s.heap.size) ⟨(va_cnB 3 hts gX3_isDigit_X11_within_n58 rfl rfl rfl (hK.2 (.methodLinkNest "PaperBubbles$Law" 58 ⟨"PaperBubbles", "within", "(III)Z"⟩ "PaperBubbles") (List.mem_of_getElem? (i := 33) rfl)) (hts (.initialized RX11) (List.mem_of_getElem? (i := 2) rfl)) (by decide +kernel) ⟨Nat.le_of_ble_eq_true rfl, Nat.le_of_ble_eq_true rfl⟩), (hts (.static yX11_within) (List.mem_of_getElem? (i := 1) rfl)), trivial⟩ (gPreS (wc := []) (isC := []) hK hX hS hA hP hD rfl (by decide)) rfl rfl hl.1 rfl (lv_room (Nat.le_of_ble_eq_true rfl)) dX3_isDigit_5 ⟨Nat.le_of_ble_eq_true rfl, Nat.le_of_ble_eq_true rfl⟩) (fun H locs hP hD hS => ?_)
  have hP : va_P D gcl [] H := hP
  have hD : va_D A [] := hD
  obtain ⟨hz_3, h⟩ := chb_ok h
  cases h
  exact gIret hF hP hD hS (chb_n hz_3) dX3_isDigit_8
set_option maxRecDepth 20000 in
theorem in_X3_write_X3 : ∀ w ∈ u_ws RX3 TX3 14, w ∈ wsX3_write := by decide +kernel
def f_X3_write (a_1 : Int32) (v_drafted : Int32) (v_draft : Nat → Int32) : Option (Int32 × (Nat → Int32)) :=
  if v_drafted < 0 then
    some (v_drafted, v_draft)
  else
    if 50 ≤ v_drafted then
      some (v_drafted, v_draft)
    else
      chi v_drafted 50 <|
      nm (upd v_draft v_drafted.toNatClampNeg a_1) fun w_4 =>
      nm (v_drafted + 1) fun t_5 =>
      some (t_5, w_4)

abbrev rm_X3_write : Room := { frames := 0, cells := 0, slots := 0, locals := 0 }
set_option maxHeartbeats 4000000 in
set_option maxRecDepth 100000 in
theorem c_X3_write (l : Launch) (D : va_G) (c : Nat → ClassId) (q_this q_names q_steps q_stack q_answers q_draft q_held : Nat) (a_1 : Int32) (v_length : Int32) (v_side : Int32) (v_round : Int32) (v_drafted : Int32) (v_holding : Int32) (v_open : Int32) (v_digits : Int32) (v_wantsOperand : Int32) (v_draft : Nat → Int32) (o_v_drafted : Int32) (o_v_draft : Nat → Int32) (h : f_X3_write a_1 v_drafted v_draft = some (o_v_drafted, o_v_draft)) : gMV l yX3_write wsX3_write rm_X3_write D c [.ref q_this, .int a_1] [(q_this, .inr (3, [.ref q_names, .ref q_steps, .int v_length, .ref q_stack, .ref q_answers, .int v_side, .int v_round, .ref q_draft, .int v_drafted, .ref q_held, .int v_holding, .int v_open, .int v_digits, .int v_wantsOperand])), (q_draft, .inl (c 0, 50, .inl v_draft))] [(q_this, .inr (3, [.ref q_names, .ref q_steps, .int v_length, .ref q_stack, .ref q_answers, .int v_side, .int v_round, .ref q_draft, .int o_v_drafted, .ref q_held, .int v_holding, .int v_open, .int v_digits, .int v_wantsOperand])), (q_draft, .inl (c 0, 50, .inl o_v_draft))] := by
  refine gMV_of (cc := cX3_write) (maxL := 2) (rt := none) (by decide +kernel) rfl (Nat.le_of_ble_eq_true rfl) ?_
  intro p e s m below meth co A hF hK hX hP hD hA hS ls hl
  obtain ⟨hx, hb, hr, hts, hown, hlocks, hml⟩ := id hF
  have hl : lv_has ls 2 [(0, .ref q_this), (1, .int a_1)] := hl
  unfold f_X3_write at h
  refine lv_aload_n hx hb dX3_write_0 rfl (lv_at hl 0 rfl) ?_
  refine va_get (D := D) (ci := 3) (v := .int v_drafted) (C := RX3) (T := TX3) (N := 14) hx hb hts in_X3_write_X3 hown hK.1 hP 0 rfl rfl 8 (by decide) (hts (.fieldLink RX3 78 "PaperBubbles$Law" "drafted" "I") (List.mem_of_getElem? (i := 1) rfl)) (fun _ h9 => h9) rfl dX3_write_1 ?_
  refine lv_if_lt (tgt := 36) hx hb dX3_write_4 (by decide) (fun c_1 => ?_) (fun c_1 => ?_)
  · have h := it_t c_1 h
    cases h
    exact gVret hF hP hD hS dX3_write_36
  · have h := it_f c_1 h
    refine lv_aload_n hx hb dX3_write_7 rfl (lv_at hl 0 rfl) ?_
    refine va_get (D := D) (ci := 3) (v := .int v_drafted) (C := RX3) (T := TX3) (N := 14) hx hb hts in_X3_write_X3 hown hK.1 hP 0 rfl rfl 8 (by decide) (hts (.fieldLink RX3 78 "PaperBubbles$Law" "drafted" "I") (List.mem_of_getElem? (i := 1) rfl)) (fun _ h9 => h9) rfl dX3_write_8 ?_
    refine lv_bipush (v := 50) hx hb dX3_write_11 (by decide) ?_
    refine lv_icmp_ge (tgt := 36) hx hb dX3_write_13 (by decide) (fun c_2 => ?_) (fun c_2 => ?_)
    · have h := it_t c_2 h
      cases h
      exact gVret hF hP hD hS dX3_write_36
    · have h := it_f c_2 h
      refine lv_aload_n hx hb dX3_write_16 rfl (lv_at hl 0 rfl) ?_
      refine va_get (D := D) (ci := 3) (v := .ref q_draft) (C := RX3) (T := TX3) (N := 14) hx hb hts in_X3_write_X3 hown hK.1 hP 0 rfl rfl 7 (by decide) (hts (.fieldLink RX3 22 "PaperBubbles$Law" "draft" "[I") (List.mem_of_getElem? (i := 2) rfl)) (fun _ h9 => h9) rfl dX3_write_17 ?_
      refine lv_aload_n hx hb dX3_write_20 rfl (lv_at hl 0 rfl) ?_
      refine va_get (D := D) (ci := 3) (v := .int v_drafted) (C := RX3) (T := TX3) (N := 14) hx hb hts in_X3_write_X3 hown hK.1 hP 0 rfl rfl 8 (by decide) (hts (.fieldLink RX3 78 "PaperBubbles$Law" "drafted" "I") (List.mem_of_getElem? (i := 1) rfl)) (fun _ h9 => h9) rfl dX3_write_21 ?_
      refine lv_iload_n hx hb dX3_write_24 rfl (lv_at hl 1 rfl) ?_
      obtain ⟨hi_3, h⟩ := chi_ok h
      obtain ⟨w_4, ew_4, h⟩ := nm_ok h
      refine va_iast hx hb hK.1 hP hD hS 1 0 rfl rfl hi_3 dX3_write_25 (fun H locs hP hD hS => ?_)
      have hP : va_P D gcl [(q_this, .inr (3, [.ref q_names, .ref q_steps, .int v_length, .ref q_stack, .ref q_answers, .int v_side, .int v_round, .ref q_draft, .int v_drafted, .ref q_held, .int v_holding, .int v_open, .int v_digits, .int v_wantsOperand])), (q_draft, .inl (c 0, 50, .inl w_4))] H := by subst ew_4; exact hP
      have hD : va_D A [(q_this, .inr (3, [.ref q_names, .ref q_steps, .int v_length, .ref q_stack, .ref q_answers, .int v_side, .int v_round, .ref q_draft, .int v_drafted, .ref q_held, .int v_holding, .int v_open, .int v_digits, .int v_wantsOperand])), (q_draft, .inl (c 0, 50, .inl w_4))] := by subst ew_4; exact hD
      refine lv_aload_n hx hb dX3_write_26 rfl (lv_at hl 0 rfl) ?_
      refine lv_dup hx hb dX3_write_27 rfl ?_
      refine va_get (D := D) (ci := 3) (v := .int v_drafted) (C := RX3) (T := TX3) (N := 14) hx hb hts in_X3_write_X3 hown hK.1 hP 0 rfl rfl 8 (by decide) (hts (.fieldLink RX3 78 "PaperBubbles$Law" "drafted" "I") (List.mem_of_getElem? (i := 1) rfl)) (fun _ h9 => h9) rfl dX3_write_28 ?_
      refine lv_iconst (v := 1) hx hb dX3_write_31 (by decide) ?_
      refine lv_iadd hx hb dX3_write_32 ?_
      obtain ⟨t_5, et_5, h⟩ := nm_ok h
      refine gTop et_5 ?_
      refine va_put (D := D) (ci := 3) (v := .int t_5) (ty := .int) (C := RX3) (T := TX3) (N := 14) hx hb hts in_X3_write_X3 tyX3 tyX3_ok nmX3 hown hK.1 hP hD hS 0 rfl rfl 8 (by decide) (hts (.fieldLink RX3 78 "PaperBubbles$Law" "drafted" "I") (List.mem_of_getElem? (i := 1) rfl)) (fun _ h9 => h9) rfl (by decide +kernel) rfl rfl (Nat.le_of_ble_eq_true rfl) dX3_write_33 (fun H locs hP hD hS => ?_)
      have hP : va_P D gcl [(q_this, .inr (3, [.ref q_names, .ref q_steps, .int v_length, .ref q_stack, .ref q_answers, .int v_side, .int v_round, .ref q_draft, .int t_5, .ref q_held, .int v_holding, .int v_open, .int v_digits, .int v_wantsOperand])), (q_draft, .inl (c 0, 50, .inl w_4))] H := hP
      have hD : va_D A [(q_this, .inr (3, [.ref q_names, .ref q_steps, .int v_length, .ref q_stack, .ref q_answers, .int v_side, .int v_round, .ref q_draft, .int t_5, .ref q_held, .int v_holding, .int v_open, .int v_digits, .int v_wantsOperand])), (q_draft, .inl (c 0, 50, .inl w_4))] := hD
      cases h
      exact gVret hF hP hD hS dX3_write_36
set_option maxRecDepth 20000 in
theorem in_X3_lastHeld_X3 : ∀ w ∈ u_ws RX3 TX3 14, w ∈ wsX3_lastHeld := by decide +kernel
def f_X3_lastHeld (v_holding : Int32) (v_held : Nat → Int32) : Option (Int32) :=
  if v_holding ≤ 0 then
    some 0
  else
    if 50 < v_holding then
      some 0
    else
      nm (v_holding - 1) fun t_3 =>
      chi t_3 50 <|
      nm (v_held t_3.toNatClampNeg) fun t_5 =>
      some t_5

abbrev rm_X3_lastHeld : Room := { frames := 0, cells := 0, slots := 0, locals := 0 }
set_option maxHeartbeats 4000000 in
set_option maxRecDepth 100000 in
theorem c_X3_lastHeld (l : Launch) (D : va_G) (c : Nat → ClassId) (q_this q_names q_steps q_stack q_answers q_draft q_held : Nat) (v_length : Int32) (v_side : Int32) (v_round : Int32) (v_drafted : Int32) (v_holding : Int32) (v_open : Int32) (v_digits : Int32) (v_wantsOperand : Int32) (v_held : Nat → Int32) (o_r : Int32) (h : f_X3_lastHeld v_holding v_held = some o_r) : gMI l yX3_lastHeld wsX3_lastHeld rm_X3_lastHeld D c [.ref q_this] [(q_this, .inr (3, [.ref q_names, .ref q_steps, .int v_length, .ref q_stack, .ref q_answers, .int v_side, .int v_round, .ref q_draft, .int v_drafted, .ref q_held, .int v_holding, .int v_open, .int v_digits, .int v_wantsOperand])), (q_held, .inl (c 0, 50, .inl v_held))] [(q_this, .inr (3, [.ref q_names, .ref q_steps, .int v_length, .ref q_stack, .ref q_answers, .int v_side, .int v_round, .ref q_draft, .int v_drafted, .ref q_held, .int v_holding, .int v_open, .int v_digits, .int v_wantsOperand])), (q_held, .inl (c 0, 50, .inl v_held))] o_r := by
  refine gMI_of (cc := cX3_lastHeld) (maxL := 1) (rt := (some .int)) (by decide +kernel) rfl (Nat.le_of_ble_eq_true rfl) ?_
  intro p e s m below meth co A hF hK hX hP hD hA hS ls hl
  obtain ⟨hx, hb, hr, hts, hown, hlocks, hml⟩ := id hF
  have hl : lv_has ls 1 [(0, .ref q_this)] := hl
  unfold f_X3_lastHeld at h
  refine lv_aload_n hx hb dX3_lastHeld_0 rfl (lv_at hl 0 rfl) ?_
  refine va_get (D := D) (ci := 3) (v := .int v_holding) (C := RX3) (T := TX3) (N := 14) hx hb hts in_X3_lastHeld_X3 hown hK.1 hP 0 rfl rfl 10 (by decide) (hts (.fieldLink RX3 81 "PaperBubbles$Law" "holding" "I") (List.mem_of_getElem? (i := 1) rfl)) (fun _ h9 => h9) rfl dX3_lastHeld_1 ?_
  refine lv_if_le (tgt := 30) hx hb dX3_lastHeld_4 (by decide) (fun c_1 => ?_) (fun c_1 => ?_)
  · have h := it_t c_1 h
    refine lv_iconst (v := 0) hx hb dX3_lastHeld_30 (by decide) ?_
    cases h
    exact gIret hF hP hD hS rfl dX3_lastHeld_31
  · have h := it_f c_1 h
    refine lv_aload_n hx hb dX3_lastHeld_7 rfl (lv_at hl 0 rfl) ?_
    refine va_get (D := D) (ci := 3) (v := .int v_holding) (C := RX3) (T := TX3) (N := 14) hx hb hts in_X3_lastHeld_X3 hown hK.1 hP 0 rfl rfl 10 (by decide) (hts (.fieldLink RX3 81 "PaperBubbles$Law" "holding" "I") (List.mem_of_getElem? (i := 1) rfl)) (fun _ h9 => h9) rfl dX3_lastHeld_8 ?_
    refine lv_bipush (v := 50) hx hb dX3_lastHeld_11 (by decide) ?_
    refine lv_icmp_gt (tgt := 30) hx hb dX3_lastHeld_13 (by decide) (fun c_2 => ?_) (fun c_2 => ?_)
    · have h := it_t c_2 h
      refine lv_iconst (v := 0) hx hb dX3_lastHeld_30 (by decide) ?_
      cases h
      exact gIret hF hP hD hS rfl dX3_lastHeld_31
    · have h := it_f c_2 h
      refine lv_aload_n hx hb dX3_lastHeld_16 rfl (lv_at hl 0 rfl) ?_
      refine va_get (D := D) (ci := 3) (v := .ref q_held) (C := RX3) (T := TX3) (N := 14) hx hb hts in_X3_lastHeld_X3 hown hK.1 hP 0 rfl rfl 9 (by decide) (hts (.fieldLink RX3 25 "PaperBubbles$Law" "held" "[I") (List.mem_of_getElem? (i := 2) rfl)) (fun _ h9 => h9) rfl dX3_lastHeld_17 ?_
      refine lv_aload_n hx hb dX3_lastHeld_20 rfl (lv_at hl 0 rfl) ?_
      refine va_get (D := D) (ci := 3) (v := .int v_holding) (C := RX3) (T := TX3) (N := 14) hx hb hts in_X3_lastHeld_X3 hown hK.1 hP 0 rfl rfl 10 (by decide) (hts (.fieldLink RX3 81 "PaperBubbles$Law" "holding" "I") (List.mem_of_getElem? (i := 1) rfl)) (fun _ h9 => h9) rfl dX3_lastHeld_21 ?_
      refine lv_iconst (v := 1) hx hb dX3_lastHeld_24 (by decide) ?_
      refine lv_isub hx hb dX3_lastHeld_25 ?_
      obtain ⟨t_3, et_3, h⟩ := nm_ok h
      refine gTop et_3 ?_
      obtain ⟨hi_4, h⟩ := chi_ok h
      refine va_iald hx hb hK.1 hP 1 0 rfl rfl hi_4 dX3_lastHeld_26 ?_
      obtain ⟨t_5, et_5, h⟩ := nm_ok h
      refine gTop et_5 ?_
      refine lv_goto (tgt := 31) hx hb dX3_lastHeld_27 (by decide) ?_
      cases h
      exact gIret hF hP hD hS rfl dX3_lastHeld_31
def f_X3_rankOf (a_0 : Int32) : Option (Int32) :=
  if a_0 = 37 then
    some 5
  else
    if a_0 = 38 then
      some 2
    else
      if a_0 = 42 then
        some 5
      else
        if a_0 = 43 then
          some 4
        else
          if a_0 = 45 then
            some 4
          else
            if a_0 = 47 then
              some 5
            else
              if a_0 = 60 then
                some 3
              else
                if a_0 = 61 then
                  some 3
                else
                  if a_0 = 62 then
                    some 3
                  else
                    if a_0 = 124 then
                      some 1
                    else
                      some 0

abbrev rm_X3_rankOf : Room := { frames := 0, cells := 0, slots := 0, locals := 0 }
set_option maxHeartbeats 4000000 in
set_option maxRecDepth 100000 in
theorem c_X3_rankOf (l : Launch) (D : va_G) (c : Nat → ClassId) (a_0 : Int32) (o_r : Int32) (h : f_X3_rankOf a_0 = some o_r) : gMI l yX3_rankOf wsX3_rankOf rm_X3_rankOf D c [.int a_0] [] [] o_r := by
  refine gMI_of (cc := cX3_rankOf) (maxL := 1) (rt := (some .int)) (by decide +kernel) rfl (Nat.le_of_ble_eq_true rfl) ?_
  intro p e s m below meth co A hF hK hX hP hD hA hS ls hl
  obtain ⟨hx, hb, hr, hts, hown, hlocks, hml⟩ := id hF
  have hl : lv_has ls 1 [(0, .int a_0)] := hl
  unfold f_X3_rankOf at h
  refine lv_iload_n hx hb dX3_rankOf_0 rfl (lv_at hl 0 rfl) ?_
  by_cases c_1 : a_0 = 37
  · have h := it_t c_1 h
    refine lv_lookup (x := a_0) (off := 99) (tgt := 100) hx hb dX3_rankOf_1 (by decide +kernel) (by rw [c_1]; rfl) (by decide) ?_
    refine lv_iconst (v := 5) hx hb dX3_rankOf_100 (by decide) ?_
    cases h
    exact gIret hF hP hD hS rfl dX3_rankOf_101
  · have h := it_f c_1 h
    by_cases c_2 : a_0 = 38
    · have h := it_t c_2 h
      refine lv_lookup (x := a_0) (off := 93) (tgt := 94) hx hb dX3_rankOf_1 (by decide +kernel) (by rw [c_2]; rfl) (by decide) ?_
      refine lv_iconst (v := 2) hx hb dX3_rankOf_94 (by decide) ?_
      cases h
      exact gIret hF hP hD hS rfl dX3_rankOf_95
    · have h := it_f c_2 h
      by_cases c_3 : a_0 = 42
      · have h := it_t c_3 h
        refine lv_lookup (x := a_0) (off := 99) (tgt := 100) hx hb dX3_rankOf_1 (by decide +kernel) (by rw [c_3]; rfl) (by decide) ?_
        refine lv_iconst (v := 5) hx hb dX3_rankOf_100 (by decide) ?_
        cases h
        exact gIret hF hP hD hS rfl dX3_rankOf_101
      · have h := it_f c_3 h
        by_cases c_4 : a_0 = 43
        · have h := it_t c_4 h
          refine lv_lookup (x := a_0) (off := 97) (tgt := 98) hx hb dX3_rankOf_1 (by decide +kernel) (by rw [c_4]; rfl) (by decide) ?_
          refine lv_iconst (v := 4) hx hb dX3_rankOf_98 (by decide) ?_
          cases h
          exact gIret hF hP hD hS rfl dX3_rankOf_99
        · have h := it_f c_4 h
          by_cases c_5 : a_0 = 45
          · have h := it_t c_5 h
            refine lv_lookup (x := a_0) (off := 97) (tgt := 98) hx hb dX3_rankOf_1 (by decide +kernel) (by rw [c_5]; rfl) (by decide) ?_
            refine lv_iconst (v := 4) hx hb dX3_rankOf_98 (by decide) ?_
            cases h
            exact gIret hF hP hD hS rfl dX3_rankOf_99
          · have h := it_f c_5 h
            by_cases c_6 : a_0 = 47
            · have h := it_t c_6 h
              refine lv_lookup (x := a_0) (off := 99) (tgt := 100) hx hb dX3_rankOf_1 (by decide +kernel) (by rw [c_6]; rfl) (by decide) ?_
              refine lv_iconst (v := 5) hx hb dX3_rankOf_100 (by decide) ?_
              cases h
              exact gIret hF hP hD hS rfl dX3_rankOf_101
            · have h := it_f c_6 h
              by_cases c_7 : a_0 = 60
              · have h := it_t c_7 h
                refine lv_lookup (x := a_0) (off := 95) (tgt := 96) hx hb dX3_rankOf_1 (by decide +kernel) (by rw [c_7]; rfl) (by decide) ?_
                refine lv_iconst (v := 3) hx hb dX3_rankOf_96 (by decide) ?_
                cases h
                exact gIret hF hP hD hS rfl dX3_rankOf_97
              · have h := it_f c_7 h
                by_cases c_8 : a_0 = 61
                · have h := it_t c_8 h
                  refine lv_lookup (x := a_0) (off := 95) (tgt := 96) hx hb dX3_rankOf_1 (by decide +kernel) (by rw [c_8]; rfl) (by decide) ?_
                  refine lv_iconst (v := 3) hx hb dX3_rankOf_96 (by decide) ?_
                  cases h
                  exact gIret hF hP hD hS rfl dX3_rankOf_97
                · have h := it_f c_8 h
                  by_cases c_9 : a_0 = 62
                  · have h := it_t c_9 h
                    refine lv_lookup (x := a_0) (off := 95) (tgt := 96) hx hb dX3_rankOf_1 (by decide +kernel) (by rw [c_9]; rfl) (by decide) ?_
                    refine lv_iconst (v := 3) hx hb dX3_rankOf_96 (by decide) ?_
                    cases h
                    exact gIret hF hP hD hS rfl dX3_rankOf_97
                  · have h := it_f c_9 h
                    by_cases c_10 : a_0 = 124
                    · have h := it_t c_10 h
                      refine lv_lookup (x := a_0) (off := 91) (tgt := 92) hx hb dX3_rankOf_1 (by decide +kernel) (by rw [c_10]; rfl) (by decide) ?_
                      refine lv_iconst (v := 1) hx hb dX3_rankOf_92 (by decide) ?_
                      cases h
                      exact gIret hF hP hD hS rfl dX3_rankOf_93
                    · have h := it_f c_10 h
                      refine lv_lookup (x := a_0) (off := 101) (tgt := 102) hx hb dX3_rankOf_1 (by decide +kernel) (by have q0 := gNe (z := 37) (by decide) c_1; have q1 := gNe (z := 38) (by decide) c_2; have q2 := gNe (z := 42) (by decide) c_3; have q3 := gNe (z := 43) (by decide) c_4; have q4 := gNe (z := 45) (by decide) c_5; have q5 := gNe (z := 47) (by decide) c_6; have q6 := gNe (z := 60) (by decide) c_7; have q7 := gNe (z := 61) (by decide) c_8; have q8 := gNe (z := 62) (by decide) c_9; have q9 := gNe (z := 124) (by decide) c_10; simp [Op.lookupswitch.offset, Ne.symm q0, Ne.symm q1, Ne.symm q2, Ne.symm q3, Ne.symm q4, Ne.symm q5, Ne.symm q6, Ne.symm q7, Ne.symm q8, Ne.symm q9]) (by decide) ?_
                      refine lv_iconst (v := 0) hx hb dX3_rankOf_102 (by decide) ?_
                      cases h
                      exact gIret hF hP hD hS rfl dX3_rankOf_103
set_option maxRecDepth 20000 in
theorem in_X3_writeLastHeld_X3 : ∀ w ∈ u_ws RX3 TX3 14, w ∈ wsX3_writeLastHeld := by decide +kernel
def f_X3_writeLastHeld (v_drafted : Int32) (v_holding : Int32) (v_draft : Nat → Int32) (v_held : Nat → Int32) : Option (Int32 × Int32 × (Nat → Int32)) :=
  kb (f_X3_lastHeld v_holding v_held) fun r_2 =>
  nm (-r_2) fun t_3 =>
  kb2 (f_X3_write t_3 v_drafted v_draft) fun w_5 w_6 =>
  nm (v_holding - 1) fun t_7 =>
  some (w_5, t_7, w_6)

abbrev rm_X3_writeLastHeld : Room := { frames := 1, cells := 0, slots := 0, locals := 21 }
set_option maxHeartbeats 4000000 in
set_option maxRecDepth 100000 in
theorem c_X3_writeLastHeld (l : Launch) (D : va_G) (c : Nat → ClassId) (q_this q_names q_steps q_stack q_answers q_draft q_held : Nat) (v_length : Int32) (v_side : Int32) (v_round : Int32) (v_drafted : Int32) (v_holding : Int32) (v_open : Int32) (v_digits : Int32) (v_wantsOperand : Int32) (v_draft : Nat → Int32) (v_held : Nat → Int32) (o_v_drafted : Int32) (o_v_holding : Int32) (o_v_draft : Nat → Int32) (h : f_X3_writeLastHeld v_drafted v_holding v_draft v_held = some (o_v_drafted, o_v_holding, o_v_draft)) : gMV l yX3_writeLastHeld wsX3_writeLastHeld rm_X3_writeLastHeld D c [.ref q_this] [(q_this, .inr (3, [.ref q_names, .ref q_steps, .int v_length, .ref q_stack, .ref q_answers, .int v_side, .int v_round, .ref q_draft, .int v_drafted, .ref q_held, .int v_holding, .int v_open, .int v_digits, .int v_wantsOperand])), (q_draft, .inl (c 0, 50, .inl v_draft)), (q_held, .inl (c 0, 50, .inl v_held))] [(q_this, .inr (3, [.ref q_names, .ref q_steps, .int v_length, .ref q_stack, .ref q_answers, .int v_side, .int v_round, .ref q_draft, .int o_v_drafted, .ref q_held, .int o_v_holding, .int v_open, .int v_digits, .int v_wantsOperand])), (q_draft, .inl (c 0, 50, .inl o_v_draft)), (q_held, .inl (c 0, 50, .inl v_held))] := by
  refine gMV_of (cc := cX3_writeLastHeld) (maxL := 1) (rt := none) (by decide +kernel) rfl (Nat.le_of_ble_eq_true rfl) ?_
  intro p e s m below meth co A hF hK hX hP hD hA hS ls hl
  obtain ⟨hx, hb, hr, hts, hown, hlocks, hml⟩ := id hF
  have hl : lv_has ls 1 [(0, .ref q_this)] := hl
  unfold f_X3_writeLastHeld at h
  refine lv_aload_n hx hb dX3_writeLastHeld_0 rfl (lv_at hl 0 rfl) ?_
  refine lv_aload_n hx hb dX3_writeLastHeld_1 rfl (lv_at hl 0 rfl) ?_
  obtain ⟨r_2, hc_1, h⟩ := kb_ok h
  refine gCallI (isC := [0, 2]) (wc := [(q_this, .inr (3, [.ref q_names, .ref q_steps, .int v_length, .ref q_stack, .ref q_answers, .int v_side, .int v_round, .ref q_draft, .int v_drafted, .ref q_held, .int v_holding, .int v_open, .int v_digits, .int v_wantsOperand])), (q_held, .inl (c 0, 50, .inl v_held))]) (w1 := [(q_this, .inr (3, [.ref q_names, .ref q_steps, .int v_length, .ref q_stack, .ref q_answers, .int v_side, .int v_round, .ref q_draft, .int v_drafted, .ref q_held, .int v_holding, .int v_open, .int v_digits, .int v_wantsOperand])), (q_held, .inl (c 0, 50, .inl v_held))]) hP hD hS hA rfl rfl (va_runV (rm := rm_X3_lastHeld) (ws := wsX3_lastHeld) (As := []) (rest := [.ref q_this]) (gFix hF) (c_X3_lastHeld l D c q_this q_names q_steps q_stack q_answers q_draft q_held v_length v_side v_round v_drafted v_holding v_open v_digits v_wantsOperand v_held r_2 hc_1 s.heap.size) (cwV 0 hts gX3_writeLastHeld_X3_lastHeld rfl rfl rfl (by decide +kernel) ⟨Nat.le_of_ble_eq_true rfl, Nat.le_of_ble_eq_true rfl⟩) (gPreV (wc := [(q_this, .inr (3, [.ref q_names, .ref q_steps, .int v_length, .ref q_stack, .ref q_answers, .int v_side, .int v_round, .ref q_draft, .int v_drafted, .ref q_held, .int v_holding, .int v_open, .int v_digits, .int v_wantsOperand])), (q_held, .inl (c 0, 50, .inl v_held))]) (q := (RX3, TX3, 14)) (ci := 3) (q0 := 0) (isC := [0, 2]) hK hX hS hA hP hD rfl (by decide) rfl rfl) rfl rfl hl.1 rfl (lv_room (Nat.le_of_ble_eq_true rfl)) dX3_writeLastHeld_2 ⟨Nat.le_of_ble_eq_true rfl, Nat.le_of_ble_eq_true rfl⟩) (fun H locs hP hD hS => ?_)
  have hP : va_P D gcl [(q_this, .inr (3, [.ref q_names, .ref q_steps, .int v_length, .ref q_stack, .ref q_answers, .int v_side, .int v_round, .ref q_draft, .int v_drafted, .ref q_held, .int v_holding, .int v_open, .int v_digits, .int v_wantsOperand])), (q_draft, .inl (c 0, 50, .inl v_draft)), (q_held, .inl (c 0, 50, .inl v_held))] H := hP
  have hD : va_D A [(q_this, .inr (3, [.ref q_names, .ref q_steps, .int v_length, .ref q_stack, .ref q_answers, .int v_side, .int v_round, .ref q_draft, .int v_drafted, .ref q_held, .int v_holding, .int v_open, .int v_digits, .int v_wantsOperand])), (q_draft, .inl (c 0, 50, .inl v_draft)), (q_held, .inl (c 0, 50, .inl v_held))] := hD
  refine lv_ineg hx hb dX3_writeLastHeld_5 ?_
  obtain ⟨t_3, et_3, h⟩ := nm_ok h
  refine gTop et_3 ?_
  obtain ⟨w_5, w_6, hc_4, h⟩ := kb2_ok h
  refine gCallV (isC := [0, 1]) (wc := [(q_this, .inr (3, [.ref q_names, .ref q_steps, .int v_length, .ref q_stack, .ref q_answers, .int v_side, .int v_round, .ref q_draft, .int v_drafted, .ref q_held, .int v_holding, .int v_open, .int v_digits, .int v_wantsOperand])), (q_draft, .inl (c 0, 50, .inl v_draft))]) (w1 := [(q_this, .inr (3, [.ref q_names, .ref q_steps, .int v_length, .ref q_stack, .ref q_answers, .int v_side, .int v_round, .ref q_draft, .int w_5, .ref q_held, .int v_holding, .int v_open, .int v_digits, .int v_wantsOperand])), (q_draft, .inl (c 0, 50, .inl w_6))]) hP hD hS hA rfl rfl (va_runV (rm := rm_X3_write) (ws := wsX3_write) (As := [.int t_3]) (rest := []) (gFix hF) (c_X3_write l D c q_this q_names q_steps q_stack q_answers q_draft q_held t_3 v_length v_side v_round v_drafted v_holding v_open v_digits v_wantsOperand v_draft w_5 w_6 hc_4 H.size) (cwV 1 hts gX3_writeLastHeld_X3_write rfl rfl rfl (by decide +kernel) ⟨Nat.le_of_ble_eq_true rfl, Nat.le_of_ble_eq_true rfl⟩) (gPreV (wc := [(q_this, .inr (3, [.ref q_names, .ref q_steps, .int v_length, .ref q_stack, .ref q_answers, .int v_side, .int v_round, .ref q_draft, .int v_drafted, .ref q_held, .int v_holding, .int v_open, .int v_digits, .int v_wantsOperand])), (q_draft, .inl (c 0, 50, .inl v_draft))]) (q := (RX3, TX3, 14)) (ci := 3) (q0 := 0) (isC := [0, 1]) hK hX hS hA hP hD rfl (by decide) rfl rfl) rfl rfl hl.1 rfl (lv_room (Nat.le_of_ble_eq_true rfl)) dX3_writeLastHeld_6 ⟨Nat.le_of_ble_eq_true rfl, Nat.le_of_ble_eq_true rfl⟩) (fun H locs hP hD hS => ?_)
  have hP : va_P D gcl [(q_this, .inr (3, [.ref q_names, .ref q_steps, .int v_length, .ref q_stack, .ref q_answers, .int v_side, .int v_round, .ref q_draft, .int w_5, .ref q_held, .int v_holding, .int v_open, .int v_digits, .int v_wantsOperand])), (q_draft, .inl (c 0, 50, .inl w_6)), (q_held, .inl (c 0, 50, .inl v_held))] H := hP
  have hD : va_D A [(q_this, .inr (3, [.ref q_names, .ref q_steps, .int v_length, .ref q_stack, .ref q_answers, .int v_side, .int v_round, .ref q_draft, .int w_5, .ref q_held, .int v_holding, .int v_open, .int v_digits, .int v_wantsOperand])), (q_draft, .inl (c 0, 50, .inl w_6)), (q_held, .inl (c 0, 50, .inl v_held))] := hD
  refine lv_aload_n hx hb dX3_writeLastHeld_9 rfl (lv_at hl 0 rfl) ?_
  refine lv_dup hx hb dX3_writeLastHeld_10 rfl ?_
  refine va_get (D := D) (ci := 3) (v := .int v_holding) (C := RX3) (T := TX3) (N := 14) hx hb hts in_X3_writeLastHeld_X3 hown hK.1 hP 0 rfl rfl 10 (by decide) (hts (.fieldLink RX3 81 "PaperBubbles$Law" "holding" "I") (List.mem_of_getElem? (i := 1) rfl)) (fun _ h9 => h9) rfl dX3_writeLastHeld_11 ?_
  refine lv_iconst (v := 1) hx hb dX3_writeLastHeld_14 (by decide) ?_
  refine lv_isub hx hb dX3_writeLastHeld_15 ?_
  obtain ⟨t_7, et_7, h⟩ := nm_ok h
  refine gTop et_7 ?_
  refine va_put (D := D) (ci := 3) (v := .int t_7) (ty := .int) (C := RX3) (T := TX3) (N := 14) hx hb hts in_X3_writeLastHeld_X3 tyX3 tyX3_ok nmX3 hown hK.1 hP hD hS 0 rfl rfl 10 (by decide) (hts (.fieldLink RX3 81 "PaperBubbles$Law" "holding" "I") (List.mem_of_getElem? (i := 1) rfl)) (fun _ h9 => h9) rfl (by decide +kernel) rfl rfl (Nat.le_of_ble_eq_true rfl) dX3_writeLastHeld_16 (fun H locs hP hD hS => ?_)
  have hP : va_P D gcl [(q_this, .inr (3, [.ref q_names, .ref q_steps, .int v_length, .ref q_stack, .ref q_answers, .int v_side, .int v_round, .ref q_draft, .int w_5, .ref q_held, .int t_7, .int v_open, .int v_digits, .int v_wantsOperand])), (q_draft, .inl (c 0, 50, .inl w_6)), (q_held, .inl (c 0, 50, .inl v_held))] H := hP
  have hD : va_D A [(q_this, .inr (3, [.ref q_names, .ref q_steps, .int v_length, .ref q_stack, .ref q_answers, .int v_side, .int v_round, .ref q_draft, .int w_5, .ref q_held, .int t_7, .int v_open, .int v_digits, .int v_wantsOperand])), (q_draft, .inl (c 0, 50, .inl w_6)), (q_held, .inl (c 0, 50, .inl v_held))] := hD
  cases h
  exact gVret hF hP hD hS dX3_writeLastHeld_19
def f_X3_closeFrom_L2 (a_1 : Int32) (v_held : Nat → Int32) : Nat → Int32 → Int32 → Int32 → (Nat → Int32) → Option (Int32 × Int32 × (Nat → Int32))
  | 0, _, _, _, _ => none
  | n + 1, x2, v_drafted, v_holding, v_draft =>
    if 50 ≤ x2 then
      some (v_drafted, v_holding, v_draft)
    else
      kb (f_X3_lastHeld v_holding v_held) fun r_3 =>
      kb (f_X3_rankOf r_3) fun r_5 =>
      if r_5 < a_1 then
        some (v_drafted, v_holding, v_draft)
      else
        kb3 (f_X3_writeLastHeld v_drafted v_holding v_draft v_held) fun w_8 w_9 w_10 =>
        nm (x2 + 1) fun t_11 =>
        f_X3_closeFrom_L2 a_1 v_held n t_11 w_8 w_9 w_10

def f_X3_closeFrom (a_1 : Int32) (v_drafted : Int32) (v_holding : Int32) (v_draft : Nat → Int32) (v_held : Nat → Int32) : Option (Int32 × Int32 × (Nat → Int32)) :=
  f_X3_closeFrom_L2 a_1 v_held gFuel 0 v_drafted v_holding v_draft

abbrev rm_X3_closeFrom : Room := { frames := 2, cells := 0, slots := 0, locals := 41 }
set_option maxHeartbeats 4000000 in
set_option maxRecDepth 100000 in
theorem c_X3_closeFrom (l : Launch) (D : va_G) (c : Nat → ClassId) (q_this q_names q_steps q_stack q_answers q_draft q_held : Nat) (a_1 : Int32) (v_length : Int32) (v_side : Int32) (v_round : Int32) (v_drafted : Int32) (v_holding : Int32) (v_open : Int32) (v_digits : Int32) (v_wantsOperand : Int32) (v_draft : Nat → Int32) (v_held : Nat → Int32) (o_v_drafted : Int32) (o_v_holding : Int32) (o_v_draft : Nat → Int32) (h : f_X3_closeFrom a_1 v_drafted v_holding v_draft v_held = some (o_v_drafted, o_v_holding, o_v_draft)) : gMV l yX3_closeFrom wsX3_closeFrom rm_X3_closeFrom D c [.ref q_this, .int a_1] [(q_this, .inr (3, [.ref q_names, .ref q_steps, .int v_length, .ref q_stack, .ref q_answers, .int v_side, .int v_round, .ref q_draft, .int v_drafted, .ref q_held, .int v_holding, .int v_open, .int v_digits, .int v_wantsOperand])), (q_draft, .inl (c 0, 50, .inl v_draft)), (q_held, .inl (c 0, 50, .inl v_held))] [(q_this, .inr (3, [.ref q_names, .ref q_steps, .int v_length, .ref q_stack, .ref q_answers, .int v_side, .int v_round, .ref q_draft, .int o_v_drafted, .ref q_held, .int o_v_holding, .int v_open, .int v_digits, .int v_wantsOperand])), (q_draft, .inl (c 0, 50, .inl o_v_draft)), (q_held, .inl (c 0, 50, .inl v_held))] := by
  refine gMV_of (cc := cX3_closeFrom) (maxL := 3) (rt := none) (by decide +kernel) rfl (Nat.le_of_ble_eq_true rfl) ?_
  intro p e s m below meth co A hF hK hX hP hD hA hS ls hl
  obtain ⟨hx, hb, hr, hts, hown, hlocks, hml⟩ := id hF
  have hl : lv_has ls 3 [(0, .ref q_this), (1, .int a_1)] := hl
  have t_L2 : ∀ (n : Nat), ∀ (x2 : Int32) (v_drafted : Int32) (v_holding : Int32) (v_draft : Nat → Int32) (H : Heap) (locs : List Loc), va_P D gcl [(q_this, .inr (3, [.ref q_names, .ref q_steps, .int v_length, .ref q_stack, .ref q_answers, .int v_side, .int v_round, .ref q_draft, .int v_drafted, .ref q_held, .int v_holding, .int v_open, .int v_digits, .int v_wantsOperand])), (q_draft, .inl (c 0, 50, .inl v_draft)), (q_held, .inl (c 0, 50, .inl v_held))] H → va_D A [(q_this, .inr (3, [.ref q_names, .ref q_steps, .int v_length, .ref q_stack, .ref q_answers, .int v_side, .int v_round, .ref q_draft, .int v_drafted, .ref q_held, .int v_holding, .int v_open, .int v_digits, .int v_wantsOperand])), (q_draft, .inl (c 0, 50, .inl v_draft)), (q_held, .inl (c 0, 50, .inl v_held))] → va_S A s.heap H locs → ∀ ls, lv_has ls 3 [(0, .ref q_this), (1, .int a_1), (2, .int x2)] → f_X3_closeFrom_L2 a_1 v_held n x2 v_drafted v_holding v_draft = some (o_v_drafted, o_v_holding, o_v_draft) → W p l e (headSpec wsX3_closeFrom rm_X3_closeFrom).room s m [.ref q_this, .int a_1].toArray below meth co H locs 0 0 (gQV D [(q_this, .inr (3, [.ref q_names, .ref q_steps, .int v_length, .ref q_stack, .ref q_answers, .int v_side, .int v_round, .ref q_draft, .int o_v_drafted, .ref q_held, .int o_v_holding, .int v_open, .int v_digits, .int v_wantsOperand])), (q_draft, .inl (c 0, 50, .inl o_v_draft)), (q_held, .inl (c 0, 50, .inl v_held))] A below [.ref q_this, .int a_1] s) (F0 m 2 ls []) := by
    intro n
    induction n with
    | zero => intro x2 v_drafted v_holding v_draft H locs hP hD hS ls hl h; exact no_ok h
    | succ n ih =>
      intro x2 v_drafted v_holding v_draft H locs hP hD hS ls hl h
      rw [f_X3_closeFrom_L2] at h
      refine lv_iload_n hx hb dX3_closeFrom_2 rfl (lv_at hl 2 rfl) ?_
      refine lv_bipush (v := 50) hx hb dX3_closeFrom_3 (by decide) ?_
      refine lv_icmp_ge (tgt := 29) hx hb dX3_closeFrom_5 (by decide) (fun c_1 => ?_) (fun c_1 => ?_)
      · have h := it_t c_1 h
        cases h
        exact gVret hF hP hD hS dX3_closeFrom_29
      · have h := it_f c_1 h
        refine lv_aload_n hx hb dX3_closeFrom_8 rfl (lv_at hl 0 rfl) ?_
        obtain ⟨r_3, hc_2, h⟩ := kb_ok h
        refine gCallI (isC := [0, 2]) (wc := [(q_this, .inr (3, [.ref q_names, .ref q_steps, .int v_length, .ref q_stack, .ref q_answers, .int v_side, .int v_round, .ref q_draft, .int v_drafted, .ref q_held, .int v_holding, .int v_open, .int v_digits, .int v_wantsOperand])), (q_held, .inl (c 0, 50, .inl v_held))]) (w1 := [(q_this, .inr (3, [.ref q_names, .ref q_steps, .int v_length, .ref q_stack, .ref q_answers, .int v_side, .int v_round, .ref q_draft, .int v_drafted, .ref q_held, .int v_holding, .int v_open, .int v_digits, .int v_wantsOperand])), (q_held, .inl (c 0, 50, .inl v_held))]) hP hD hS hA rfl rfl (va_runV (rm := rm_X3_lastHeld) (ws := wsX3_lastHeld) (As := []) (rest := []) (gFix hF) (c_X3_lastHeld l D c q_this q_names q_steps q_stack q_answers q_draft q_held v_length v_side v_round v_drafted v_holding v_open v_digits v_wantsOperand v_held r_3 hc_2 H.size) (cwV 0 hts gX3_closeFrom_X3_lastHeld rfl rfl rfl (by decide +kernel) ⟨Nat.le_of_ble_eq_true rfl, Nat.le_of_ble_eq_true rfl⟩) (gPreV (wc := [(q_this, .inr (3, [.ref q_names, .ref q_steps, .int v_length, .ref q_stack, .ref q_answers, .int v_side, .int v_round, .ref q_draft, .int v_drafted, .ref q_held, .int v_holding, .int v_open, .int v_digits, .int v_wantsOperand])), (q_held, .inl (c 0, 50, .inl v_held))]) (q := (RX3, TX3, 14)) (ci := 3) (q0 := 0) (isC := [0, 2]) hK hX hS hA hP hD rfl (by decide) rfl rfl) rfl rfl hl.1 rfl (lv_room (Nat.le_of_ble_eq_true rfl)) dX3_closeFrom_9 ⟨Nat.le_of_ble_eq_true rfl, Nat.le_of_ble_eq_true rfl⟩) (fun H locs hP hD hS => ?_)
        have hP : va_P D gcl [(q_this, .inr (3, [.ref q_names, .ref q_steps, .int v_length, .ref q_stack, .ref q_answers, .int v_side, .int v_round, .ref q_draft, .int v_drafted, .ref q_held, .int v_holding, .int v_open, .int v_digits, .int v_wantsOperand])), (q_draft, .inl (c 0, 50, .inl v_draft)), (q_held, .inl (c 0, 50, .inl v_held))] H := hP
        have hD : va_D A [(q_this, .inr (3, [.ref q_names, .ref q_steps, .int v_length, .ref q_stack, .ref q_answers, .int v_side, .int v_round, .ref q_draft, .int v_drafted, .ref q_held, .int v_holding, .int v_open, .int v_digits, .int v_wantsOperand])), (q_draft, .inl (c 0, 50, .inl v_draft)), (q_held, .inl (c 0, 50, .inl v_held))] := hD
        obtain ⟨r_5, hc_4, h⟩ := kb_ok h
        refine gCallI (isC := []) (wc := []) (w1 := []) hP hD hS hA rfl rfl (va_runS (rm := rm_X3_rankOf) (ws := wsX3_rankOf) (As := [.int r_3]) (rest := []) (gFix hF) (c_X3_rankOf l D c r_3 r_5 hc_4 H.size) (va_cwS 1 hts gX3_closeFrom_X3_rankOf rfl rfl rfl (by decide +kernel) ⟨Nat.le_of_ble_eq_true rfl, Nat.le_of_ble_eq_true rfl⟩) (gPreS (wc := []) (isC := []) hK hX hS hA hP hD rfl (by decide)) rfl rfl hl.1 rfl (lv_room (Nat.le_of_ble_eq_true rfl)) dX3_closeFrom_12 ⟨Nat.le_of_ble_eq_true rfl, Nat.le_of_ble_eq_true rfl⟩) (fun H locs hP hD hS => ?_)
        have hP : va_P D gcl [(q_this, .inr (3, [.ref q_names, .ref q_steps, .int v_length, .ref q_stack, .ref q_answers, .int v_side, .int v_round, .ref q_draft, .int v_drafted, .ref q_held, .int v_holding, .int v_open, .int v_digits, .int v_wantsOperand])), (q_draft, .inl (c 0, 50, .inl v_draft)), (q_held, .inl (c 0, 50, .inl v_held))] H := hP
        have hD : va_D A [(q_this, .inr (3, [.ref q_names, .ref q_steps, .int v_length, .ref q_stack, .ref q_answers, .int v_side, .int v_round, .ref q_draft, .int v_drafted, .ref q_held, .int v_holding, .int v_open, .int v_digits, .int v_wantsOperand])), (q_draft, .inl (c 0, 50, .inl v_draft)), (q_held, .inl (c 0, 50, .inl v_held))] := hD
        refine lv_iload_n hx hb dX3_closeFrom_15 rfl (lv_at hl 1 rfl) ?_
        refine lv_icmp_lt (tgt := 29) hx hb dX3_closeFrom_16 (by decide) (fun c_6 => ?_) (fun c_6 => ?_)
        · have h := it_t c_6 h
          cases h
          exact gVret hF hP hD hS dX3_closeFrom_29
        · have h := it_f c_6 h
          refine lv_aload_n hx hb dX3_closeFrom_19 rfl (lv_at hl 0 rfl) ?_
          obtain ⟨w_8, w_9, w_10, hc_7, h⟩ := kb3_ok h
          refine gCallV (isC := [0, 1, 2]) (wc := [(q_this, .inr (3, [.ref q_names, .ref q_steps, .int v_length, .ref q_stack, .ref q_answers, .int v_side, .int v_round, .ref q_draft, .int v_drafted, .ref q_held, .int v_holding, .int v_open, .int v_digits, .int v_wantsOperand])), (q_draft, .inl (c 0, 50, .inl v_draft)), (q_held, .inl (c 0, 50, .inl v_held))]) (w1 := [(q_this, .inr (3, [.ref q_names, .ref q_steps, .int v_length, .ref q_stack, .ref q_answers, .int v_side, .int v_round, .ref q_draft, .int w_8, .ref q_held, .int w_9, .int v_open, .int v_digits, .int v_wantsOperand])), (q_draft, .inl (c 0, 50, .inl w_10)), (q_held, .inl (c 0, 50, .inl v_held))]) hP hD hS hA rfl rfl (va_runV (rm := rm_X3_writeLastHeld) (ws := wsX3_writeLastHeld) (As := []) (rest := []) (gFix hF) (c_X3_writeLastHeld l D c q_this q_names q_steps q_stack q_answers q_draft q_held v_length v_side v_round v_drafted v_holding v_open v_digits v_wantsOperand v_draft v_held w_8 w_9 w_10 hc_7 H.size) (cwV 0 hts gX3_closeFrom_X3_writeLastHeld rfl rfl rfl (by decide +kernel) ⟨Nat.le_of_ble_eq_true rfl, Nat.le_of_ble_eq_true rfl⟩) (gPreV (wc := [(q_this, .inr (3, [.ref q_names, .ref q_steps, .int v_length, .ref q_stack, .ref q_answers, .int v_side, .int v_round, .ref q_draft, .int v_drafted, .ref q_held, .int v_holding, .int v_open, .int v_digits, .int v_wantsOperand])), (q_draft, .inl (c 0, 50, .inl v_draft)), (q_held, .inl (c 0, 50, .inl v_held))]) (q := (RX3, TX3, 14)) (ci := 3) (q0 := 0) (isC := [0, 1, 2]) hK hX hS hA hP hD rfl (by decide) rfl rfl) rfl rfl hl.1 rfl (lv_room (Nat.le_of_ble_eq_true rfl)) dX3_closeFrom_20 ⟨Nat.le_of_ble_eq_true rfl, Nat.le_of_ble_eq_true rfl⟩) (fun H locs hP hD hS => ?_)
          have hP : va_P D gcl [(q_this, .inr (3, [.ref q_names, .ref q_steps, .int v_length, .ref q_stack, .ref q_answers, .int v_side, .int v_round, .ref q_draft, .int w_8, .ref q_held, .int w_9, .int v_open, .int v_digits, .int v_wantsOperand])), (q_draft, .inl (c 0, 50, .inl w_10)), (q_held, .inl (c 0, 50, .inl v_held))] H := hP
          have hD : va_D A [(q_this, .inr (3, [.ref q_names, .ref q_steps, .int v_length, .ref q_stack, .ref q_answers, .int v_side, .int v_round, .ref q_draft, .int w_8, .ref q_held, .int w_9, .int v_open, .int v_digits, .int v_wantsOperand])), (q_draft, .inl (c 0, 50, .inl w_10)), (q_held, .inl (c 0, 50, .inl v_held))] := hD
          obtain ⟨t_11, et_11, h⟩ := nm_ok h
          refine lv_iinc (v := t_11) (lv' := [(2, .int t_11), (0, .ref q_this), (1, .int a_1)]) hx hb dX3_closeFrom_23 hl (k := 2) rfl (by rw [et_11]; rfl) (by decide) rfl (fun ls hl => ?_)
          refine lv_goto (tgt := 2) hx hb dX3_closeFrom_26 (by decide) ?_
          exact ih t_11 w_8 w_9 w_10 H locs hP hD hS ls (lv_sub hl [1, 2, 0] rfl) h
  unfold f_X3_closeFrom at h
  refine lv_iconst (v := 0) hx hb dX3_closeFrom_0 (by decide) ?_
  refine lv_istore_n (lv' := [(2, .int 0), (0, .ref q_this), (1, .int a_1)]) hx hb dX3_closeFrom_1 rfl hl (by decide) rfl (fun ls hl => ?_)
  exact t_L2 gFuel 0 v_drafted v_holding v_draft s.heap [] hP hD hS ls (lv_sub hl [1, 2, 0] rfl) h
set_option maxRecDepth 20000 in
theorem in_X3_closeNots_X3 : ∀ w ∈ u_ws RX3 TX3 14, w ∈ wsX3_closeNots := by decide +kernel
def f_X3_closeNots_L2 (v_held : Nat → Int32) : Nat → Int32 → Int32 → Int32 → Int32 → (Nat → Int32) → Option (Int32 × Int32 × Int32 × (Nat → Int32))
  | 0, _, _, _, _, _ => none
  | n + 1, x1, v_drafted, v_holding, v_open, v_draft =>
    if 50 ≤ x1 then
      some (v_drafted, v_holding, v_open, v_draft)
    else
      kb (f_X3_lastHeld v_holding v_held) fun r_3 =>
      if r_3 = 33 then
        kb3 (f_X3_writeLastHeld v_drafted v_holding v_draft v_held) fun w_6 w_7 w_8 =>
        nm (v_open - 1) fun t_9 =>
        nm (x1 + 1) fun t_10 =>
        f_X3_closeNots_L2 v_held n t_10 w_6 w_7 t_9 w_8
      else
        some (v_drafted, v_holding, v_open, v_draft)

def f_X3_closeNots (v_drafted : Int32) (v_holding : Int32) (v_open : Int32) (v_draft : Nat → Int32) (v_held : Nat → Int32) : Option (Int32 × Int32 × Int32 × (Nat → Int32)) :=
  f_X3_closeNots_L2 v_held gFuel 0 v_drafted v_holding v_open v_draft

abbrev rm_X3_closeNots : Room := { frames := 2, cells := 0, slots := 0, locals := 41 }
set_option maxHeartbeats 4000000 in
set_option maxRecDepth 100000 in
theorem c_X3_closeNots (l : Launch) (D : va_G) (c : Nat → ClassId) (q_this q_names q_steps q_stack q_answers q_draft q_held : Nat) (v_length : Int32) (v_side : Int32) (v_round : Int32) (v_drafted : Int32) (v_holding : Int32) (v_open : Int32) (v_digits : Int32) (v_wantsOperand : Int32) (v_draft : Nat → Int32) (v_held : Nat → Int32) (o_v_drafted : Int32) (o_v_holding : Int32) (o_v_open : Int32) (o_v_draft : Nat → Int32) (h : f_X3_closeNots v_drafted v_holding v_open v_draft v_held = some (o_v_drafted, o_v_holding, o_v_open, o_v_draft)) : gMV l yX3_closeNots wsX3_closeNots rm_X3_closeNots D c [.ref q_this] [(q_this, .inr (3, [.ref q_names, .ref q_steps, .int v_length, .ref q_stack, .ref q_answers, .int v_side, .int v_round, .ref q_draft, .int v_drafted, .ref q_held, .int v_holding, .int v_open, .int v_digits, .int v_wantsOperand])), (q_draft, .inl (c 0, 50, .inl v_draft)), (q_held, .inl (c 0, 50, .inl v_held))] [(q_this, .inr (3, [.ref q_names, .ref q_steps, .int v_length, .ref q_stack, .ref q_answers, .int v_side, .int v_round, .ref q_draft, .int o_v_drafted, .ref q_held, .int o_v_holding, .int o_v_open, .int v_digits, .int v_wantsOperand])), (q_draft, .inl (c 0, 50, .inl o_v_draft)), (q_held, .inl (c 0, 50, .inl v_held))] := by
  refine gMV_of (cc := cX3_closeNots) (maxL := 2) (rt := none) (by decide +kernel) rfl (Nat.le_of_ble_eq_true rfl) ?_
  intro p e s m below meth co A hF hK hX hP hD hA hS ls hl
  obtain ⟨hx, hb, hr, hts, hown, hlocks, hml⟩ := id hF
  have hl : lv_has ls 2 [(0, .ref q_this)] := hl
  have t_L2 : ∀ (n : Nat), ∀ (x1 : Int32) (v_drafted : Int32) (v_holding : Int32) (v_open : Int32) (v_draft : Nat → Int32) (H : Heap) (locs : List Loc), va_P D gcl [(q_this, .inr (3, [.ref q_names, .ref q_steps, .int v_length, .ref q_stack, .ref q_answers, .int v_side, .int v_round, .ref q_draft, .int v_drafted, .ref q_held, .int v_holding, .int v_open, .int v_digits, .int v_wantsOperand])), (q_draft, .inl (c 0, 50, .inl v_draft)), (q_held, .inl (c 0, 50, .inl v_held))] H → va_D A [(q_this, .inr (3, [.ref q_names, .ref q_steps, .int v_length, .ref q_stack, .ref q_answers, .int v_side, .int v_round, .ref q_draft, .int v_drafted, .ref q_held, .int v_holding, .int v_open, .int v_digits, .int v_wantsOperand])), (q_draft, .inl (c 0, 50, .inl v_draft)), (q_held, .inl (c 0, 50, .inl v_held))] → va_S A s.heap H locs → ∀ ls, lv_has ls 2 [(0, .ref q_this), (1, .int x1)] → f_X3_closeNots_L2 v_held n x1 v_drafted v_holding v_open v_draft = some (o_v_drafted, o_v_holding, o_v_open, o_v_draft) → W p l e (headSpec wsX3_closeNots rm_X3_closeNots).room s m [.ref q_this].toArray below meth co H locs 0 0 (gQV D [(q_this, .inr (3, [.ref q_names, .ref q_steps, .int v_length, .ref q_stack, .ref q_answers, .int v_side, .int v_round, .ref q_draft, .int o_v_drafted, .ref q_held, .int o_v_holding, .int o_v_open, .int v_digits, .int v_wantsOperand])), (q_draft, .inl (c 0, 50, .inl o_v_draft)), (q_held, .inl (c 0, 50, .inl v_held))] A below [.ref q_this] s) (F0 m 2 ls []) := by
    intro n
    induction n with
    | zero => intro x1 v_drafted v_holding v_open v_draft H locs hP hD hS ls hl h; exact no_ok h
    | succ n ih =>
      intro x1 v_drafted v_holding v_open v_draft H locs hP hD hS ls hl h
      rw [f_X3_closeNots_L2] at h
      refine lv_iload_n hx hb dX3_closeNots_2 rfl (lv_at hl 1 rfl) ?_
      refine lv_bipush (v := 50) hx hb dX3_closeNots_3 (by decide) ?_
      refine lv_icmp_ge (tgt := 37) hx hb dX3_closeNots_5 (by decide) (fun c_1 => ?_) (fun c_1 => ?_)
      · have h := it_t c_1 h
        cases h
        exact gVret hF hP hD hS dX3_closeNots_37
      · have h := it_f c_1 h
        refine lv_aload_n hx hb dX3_closeNots_8 rfl (lv_at hl 0 rfl) ?_
        obtain ⟨r_3, hc_2, h⟩ := kb_ok h
        refine gCallI (isC := [0, 2]) (wc := [(q_this, .inr (3, [.ref q_names, .ref q_steps, .int v_length, .ref q_stack, .ref q_answers, .int v_side, .int v_round, .ref q_draft, .int v_drafted, .ref q_held, .int v_holding, .int v_open, .int v_digits, .int v_wantsOperand])), (q_held, .inl (c 0, 50, .inl v_held))]) (w1 := [(q_this, .inr (3, [.ref q_names, .ref q_steps, .int v_length, .ref q_stack, .ref q_answers, .int v_side, .int v_round, .ref q_draft, .int v_drafted, .ref q_held, .int v_holding, .int v_open, .int v_digits, .int v_wantsOperand])), (q_held, .inl (c 0, 50, .inl v_held))]) hP hD hS hA rfl rfl (va_runV (rm := rm_X3_lastHeld) (ws := wsX3_lastHeld) (As := []) (rest := []) (gFix hF) (c_X3_lastHeld l D c q_this q_names q_steps q_stack q_answers q_draft q_held v_length v_side v_round v_drafted v_holding v_open v_digits v_wantsOperand v_held r_3 hc_2 H.size) (cwV 0 hts gX3_closeNots_X3_lastHeld rfl rfl rfl (by decide +kernel) ⟨Nat.le_of_ble_eq_true rfl, Nat.le_of_ble_eq_true rfl⟩) (gPreV (wc := [(q_this, .inr (3, [.ref q_names, .ref q_steps, .int v_length, .ref q_stack, .ref q_answers, .int v_side, .int v_round, .ref q_draft, .int v_drafted, .ref q_held, .int v_holding, .int v_open, .int v_digits, .int v_wantsOperand])), (q_held, .inl (c 0, 50, .inl v_held))]) (q := (RX3, TX3, 14)) (ci := 3) (q0 := 0) (isC := [0, 2]) hK hX hS hA hP hD rfl (by decide) rfl rfl) rfl rfl hl.1 rfl (lv_room (Nat.le_of_ble_eq_true rfl)) dX3_closeNots_9 ⟨Nat.le_of_ble_eq_true rfl, Nat.le_of_ble_eq_true rfl⟩) (fun H locs hP hD hS => ?_)
        have hP : va_P D gcl [(q_this, .inr (3, [.ref q_names, .ref q_steps, .int v_length, .ref q_stack, .ref q_answers, .int v_side, .int v_round, .ref q_draft, .int v_drafted, .ref q_held, .int v_holding, .int v_open, .int v_digits, .int v_wantsOperand])), (q_draft, .inl (c 0, 50, .inl v_draft)), (q_held, .inl (c 0, 50, .inl v_held))] H := hP
        have hD : va_D A [(q_this, .inr (3, [.ref q_names, .ref q_steps, .int v_length, .ref q_stack, .ref q_answers, .int v_side, .int v_round, .ref q_draft, .int v_drafted, .ref q_held, .int v_holding, .int v_open, .int v_digits, .int v_wantsOperand])), (q_draft, .inl (c 0, 50, .inl v_draft)), (q_held, .inl (c 0, 50, .inl v_held))] := hD
        refine lv_bipush (v := 33) hx hb dX3_closeNots_12 (by decide) ?_
        refine lv_icmp_ne (tgt := 37) hx hb dX3_closeNots_14 (by decide) (fun c_4 => ?_) (fun c_4 => ?_)
        · have h := it_f c_4 h
          cases h
          exact gVret hF hP hD hS dX3_closeNots_37
        · have h := it_t c_4 h
          refine lv_aload_n hx hb dX3_closeNots_17 rfl (lv_at hl 0 rfl) ?_
          obtain ⟨w_6, w_7, w_8, hc_5, h⟩ := kb3_ok h
          refine gCallV (isC := [0, 1, 2]) (wc := [(q_this, .inr (3, [.ref q_names, .ref q_steps, .int v_length, .ref q_stack, .ref q_answers, .int v_side, .int v_round, .ref q_draft, .int v_drafted, .ref q_held, .int v_holding, .int v_open, .int v_digits, .int v_wantsOperand])), (q_draft, .inl (c 0, 50, .inl v_draft)), (q_held, .inl (c 0, 50, .inl v_held))]) (w1 := [(q_this, .inr (3, [.ref q_names, .ref q_steps, .int v_length, .ref q_stack, .ref q_answers, .int v_side, .int v_round, .ref q_draft, .int w_6, .ref q_held, .int w_7, .int v_open, .int v_digits, .int v_wantsOperand])), (q_draft, .inl (c 0, 50, .inl w_8)), (q_held, .inl (c 0, 50, .inl v_held))]) hP hD hS hA rfl rfl (va_runV (rm := rm_X3_writeLastHeld) (ws := wsX3_writeLastHeld) (As := []) (rest := []) (gFix hF) (c_X3_writeLastHeld l D c q_this q_names q_steps q_stack q_answers q_draft q_held v_length v_side v_round v_drafted v_holding v_open v_digits v_wantsOperand v_draft v_held w_6 w_7 w_8 hc_5 H.size) (cwV 0 hts gX3_closeNots_X3_writeLastHeld rfl rfl rfl (by decide +kernel) ⟨Nat.le_of_ble_eq_true rfl, Nat.le_of_ble_eq_true rfl⟩) (gPreV (wc := [(q_this, .inr (3, [.ref q_names, .ref q_steps, .int v_length, .ref q_stack, .ref q_answers, .int v_side, .int v_round, .ref q_draft, .int v_drafted, .ref q_held, .int v_holding, .int v_open, .int v_digits, .int v_wantsOperand])), (q_draft, .inl (c 0, 50, .inl v_draft)), (q_held, .inl (c 0, 50, .inl v_held))]) (q := (RX3, TX3, 14)) (ci := 3) (q0 := 0) (isC := [0, 1, 2]) hK hX hS hA hP hD rfl (by decide) rfl rfl) rfl rfl hl.1 rfl (lv_room (Nat.le_of_ble_eq_true rfl)) dX3_closeNots_18 ⟨Nat.le_of_ble_eq_true rfl, Nat.le_of_ble_eq_true rfl⟩) (fun H locs hP hD hS => ?_)
          have hP : va_P D gcl [(q_this, .inr (3, [.ref q_names, .ref q_steps, .int v_length, .ref q_stack, .ref q_answers, .int v_side, .int v_round, .ref q_draft, .int w_6, .ref q_held, .int w_7, .int v_open, .int v_digits, .int v_wantsOperand])), (q_draft, .inl (c 0, 50, .inl w_8)), (q_held, .inl (c 0, 50, .inl v_held))] H := hP
          have hD : va_D A [(q_this, .inr (3, [.ref q_names, .ref q_steps, .int v_length, .ref q_stack, .ref q_answers, .int v_side, .int v_round, .ref q_draft, .int w_6, .ref q_held, .int w_7, .int v_open, .int v_digits, .int v_wantsOperand])), (q_draft, .inl (c 0, 50, .inl w_8)), (q_held, .inl (c 0, 50, .inl v_held))] := hD
          refine lv_aload_n hx hb dX3_closeNots_21 rfl (lv_at hl 0 rfl) ?_
          refine lv_dup hx hb dX3_closeNots_22 rfl ?_
          refine va_get (D := D) (ci := 3) (v := .int v_open) (C := RX3) (T := TX3) (N := 14) hx hb hts in_X3_closeNots_X3 hown hK.1 hP 0 rfl rfl 11 (by decide) (hts (.fieldLink RX3 84 "PaperBubbles$Law" "open" "I") (List.mem_of_getElem? (i := 1) rfl)) (fun _ h9 => h9) rfl dX3_closeNots_23 ?_
          refine lv_iconst (v := 1) hx hb dX3_closeNots_26 (by decide) ?_
          refine lv_isub hx hb dX3_closeNots_27 ?_
          obtain ⟨t_9, et_9, h⟩ := nm_ok h
          refine gTop et_9 ?_
          refine va_put (D := D) (ci := 3) (v := .int t_9) (ty := .int) (C := RX3) (T := TX3) (N := 14) hx hb hts in_X3_closeNots_X3 tyX3 tyX3_ok nmX3 hown hK.1 hP hD hS 0 rfl rfl 11 (by decide) (hts (.fieldLink RX3 84 "PaperBubbles$Law" "open" "I") (List.mem_of_getElem? (i := 1) rfl)) (fun _ h9 => h9) rfl (by decide +kernel) rfl rfl (Nat.le_of_ble_eq_true rfl) dX3_closeNots_28 (fun H locs hP hD hS => ?_)
          have hP : va_P D gcl [(q_this, .inr (3, [.ref q_names, .ref q_steps, .int v_length, .ref q_stack, .ref q_answers, .int v_side, .int v_round, .ref q_draft, .int w_6, .ref q_held, .int w_7, .int t_9, .int v_digits, .int v_wantsOperand])), (q_draft, .inl (c 0, 50, .inl w_8)), (q_held, .inl (c 0, 50, .inl v_held))] H := hP
          have hD : va_D A [(q_this, .inr (3, [.ref q_names, .ref q_steps, .int v_length, .ref q_stack, .ref q_answers, .int v_side, .int v_round, .ref q_draft, .int w_6, .ref q_held, .int w_7, .int t_9, .int v_digits, .int v_wantsOperand])), (q_draft, .inl (c 0, 50, .inl w_8)), (q_held, .inl (c 0, 50, .inl v_held))] := hD
          obtain ⟨t_10, et_10, h⟩ := nm_ok h
          refine lv_iinc (v := t_10) (lv' := [(1, .int t_10), (0, .ref q_this)]) hx hb dX3_closeNots_31 hl (k := 1) rfl (by rw [et_10]; rfl) (by decide) rfl (fun ls hl => ?_)
          refine lv_goto (tgt := 2) hx hb dX3_closeNots_34 (by decide) ?_
          exact ih t_10 w_6 w_7 t_9 w_8 H locs hP hD hS ls (lv_sub hl [1, 0] rfl) h
  unfold f_X3_closeNots at h
  refine lv_iconst (v := 0) hx hb dX3_closeNots_0 (by decide) ?_
  refine lv_istore_n (lv' := [(1, .int 0), (0, .ref q_this)]) hx hb dX3_closeNots_1 rfl hl (by decide) rfl (fun ls hl => ?_)
  exact t_L2 gFuel 0 v_drafted v_holding v_open v_draft s.heap [] hP hD hS ls (lv_sub hl [1, 0] rfl) h
set_option maxRecDepth 20000 in
theorem in_X3_addDigit_X3 : ∀ w ∈ u_ws RX3 TX3 14, w ∈ wsX3_addDigit := by decide +kernel
def f_X3_addDigit (a_1 : Int32) (v_drafted : Int32) (v_digits : Int32) (v_draft : Nat → Int32) : Option (Int32 × Int32 × (Nat → Int32)) :=
  if v_digits = 0 then
    some (0, v_digits, v_draft)
  else
    if 4 ≤ v_digits then
      some (0, v_digits, v_draft)
    else
      kb (f_X11_within v_drafted 1 50) fun r_4 =>
      if r_4 = 0 then
        some (0, v_digits, v_draft)
      else
        nm (v_drafted - 1) fun t_6 =>
        nm (v_drafted - 1) fun t_7 =>
        chi t_7 50 <|
        nm (v_draft t_7.toNatClampNeg) fun t_9 =>
        nm (t_9 * 10) fun t_10 =>
        nm (t_10 + a_1) fun t_11 =>
        chi t_6 50 <|
        nm (upd v_draft t_6.toNatClampNeg t_11) fun w_13 =>
        nm (v_digits + 1) fun t_14 =>
        some (1, t_14, w_13)

abbrev rm_X3_addDigit : Room := { frames := 1, cells := 0, slots := 0, locals := 22 }
set_option maxHeartbeats 4000000 in
set_option maxRecDepth 100000 in
theorem c_X3_addDigit (l : Launch) (D : va_G) (c : Nat → ClassId) (q_this q_names q_steps q_stack q_answers q_draft q_held : Nat) (a_1 : Int32) (v_length : Int32) (v_side : Int32) (v_round : Int32) (v_drafted : Int32) (v_holding : Int32) (v_open : Int32) (v_digits : Int32) (v_wantsOperand : Int32) (v_draft : Nat → Int32) (o_r : Int32) (o_v_digits : Int32) (o_v_draft : Nat → Int32) (h : f_X3_addDigit a_1 v_drafted v_digits v_draft = some (o_r, o_v_digits, o_v_draft)) : gMI l yX3_addDigit wsX3_addDigit rm_X3_addDigit D c [.ref q_this, .int a_1] [(q_this, .inr (3, [.ref q_names, .ref q_steps, .int v_length, .ref q_stack, .ref q_answers, .int v_side, .int v_round, .ref q_draft, .int v_drafted, .ref q_held, .int v_holding, .int v_open, .int v_digits, .int v_wantsOperand])), (q_draft, .inl (c 0, 50, .inl v_draft))] [(q_this, .inr (3, [.ref q_names, .ref q_steps, .int v_length, .ref q_stack, .ref q_answers, .int v_side, .int v_round, .ref q_draft, .int v_drafted, .ref q_held, .int v_holding, .int v_open, .int o_v_digits, .int v_wantsOperand])), (q_draft, .inl (c 0, 50, .inl o_v_draft))] o_r := by
  refine gMI_of (cc := cX3_addDigit) (maxL := 2) (rt := (some .boolean)) (by decide +kernel) rfl (Nat.le_of_ble_eq_true rfl) ?_
  intro p e s m below meth co A hF hK hX hP hD hA hS ls hl
  obtain ⟨hx, hb, hr, hts, hown, hlocks, hml⟩ := id hF
  have hl : lv_has ls 2 [(0, .ref q_this), (1, .int a_1)] := hl
  unfold f_X3_addDigit at h
  refine lv_aload_n hx hb dX3_addDigit_0 rfl (lv_at hl 0 rfl) ?_
  refine va_get (D := D) (ci := 3) (v := .int v_digits) (C := RX3) (T := TX3) (N := 14) hx hb hts in_X3_addDigit_X3 hown hK.1 hP 0 rfl rfl 12 (by decide) (hts (.fieldLink RX3 87 "PaperBubbles$Law" "digits" "I") (List.mem_of_getElem? (i := 1) rfl)) (fun _ h9 => h9) rfl dX3_addDigit_1 ?_
  refine lv_if_eq (tgt := 28) hx hb dX3_addDigit_4 (by decide) (fun c_1 => ?_) (fun c_1 => ?_)
  · have h := it_t c_1 h
    refine lv_iconst (v := 0) hx hb dX3_addDigit_28 (by decide) ?_
    cases h
    exact gIret hF hP hD hS rfl dX3_addDigit_29
  · have h := it_f c_1 h
    refine lv_aload_n hx hb dX3_addDigit_7 rfl (lv_at hl 0 rfl) ?_
    refine va_get (D := D) (ci := 3) (v := .int v_digits) (C := RX3) (T := TX3) (N := 14) hx hb hts in_X3_addDigit_X3 hown hK.1 hP 0 rfl rfl 12 (by decide) (hts (.fieldLink RX3 87 "PaperBubbles$Law" "digits" "I") (List.mem_of_getElem? (i := 1) rfl)) (fun _ h9 => h9) rfl dX3_addDigit_8 ?_
    refine lv_iconst (v := 4) hx hb dX3_addDigit_11 (by decide) ?_
    refine lv_icmp_ge (tgt := 28) hx hb dX3_addDigit_12 (by decide) (fun c_2 => ?_) (fun c_2 => ?_)
    · have h := it_t c_2 h
      refine lv_iconst (v := 0) hx hb dX3_addDigit_28 (by decide) ?_
      cases h
      exact gIret hF hP hD hS rfl dX3_addDigit_29
    · have h := it_f c_2 h
      refine lv_aload_n hx hb dX3_addDigit_15 rfl (lv_at hl 0 rfl) ?_
      refine va_get (D := D) (ci := 3) (v := .int v_drafted) (C := RX3) (T := TX3) (N := 14) hx hb hts in_X3_addDigit_X3 hown hK.1 hP 0 rfl rfl 8 (by decide) (hts (.fieldLink RX3 78 "PaperBubbles$Law" "drafted" "I") (List.mem_of_getElem? (i := 2) rfl)) (fun _ h9 => h9) rfl dX3_addDigit_16 ?_
      refine lv_iconst (v := 1) hx hb dX3_addDigit_19 (by decide) ?_
      refine lv_bipush (v := 50) hx hb dX3_addDigit_20 (by decide) ?_
      obtain ⟨r_4, hc_3, h⟩ := kb_ok h
      refine gCallI (isC := []) (wc := []) (w1 := []) hP hD hS hA rfl rfl (va_runSN (rm := rm_X11_within) (ws := wsX11_within) (As := [.int v_drafted, .int 1, .int 50]) (rest := []) (gFix hF) (c_X11_within l D c v_drafted 1 50 r_4 hc_3 s.heap.size) ⟨(va_cnB 3 hts gX3_addDigit_X11_within_n58 rfl rfl rfl (hK.2 (.methodLinkNest "PaperBubbles$Law" 58 ⟨"PaperBubbles", "within", "(III)Z"⟩ "PaperBubbles") (List.mem_of_getElem? (i := 33) rfl)) (hts (.initialized RX11) (List.mem_of_getElem? (i := 5) rfl)) (by decide +kernel) ⟨Nat.le_of_ble_eq_true rfl, Nat.le_of_ble_eq_true rfl⟩), (hts (.static yX11_within) (List.mem_of_getElem? (i := 4) rfl)), trivial⟩ (gPreS (wc := []) (isC := []) hK hX hS hA hP hD rfl (by decide)) rfl rfl hl.1 rfl (lv_room (Nat.le_of_ble_eq_true rfl)) dX3_addDigit_22 ⟨Nat.le_of_ble_eq_true rfl, Nat.le_of_ble_eq_true rfl⟩) (fun H locs hP hD hS => ?_)
      have hP : va_P D gcl [(q_this, .inr (3, [.ref q_names, .ref q_steps, .int v_length, .ref q_stack, .ref q_answers, .int v_side, .int v_round, .ref q_draft, .int v_drafted, .ref q_held, .int v_holding, .int v_open, .int v_digits, .int v_wantsOperand])), (q_draft, .inl (c 0, 50, .inl v_draft))] H := hP
      have hD : va_D A [(q_this, .inr (3, [.ref q_names, .ref q_steps, .int v_length, .ref q_stack, .ref q_answers, .int v_side, .int v_round, .ref q_draft, .int v_drafted, .ref q_held, .int v_holding, .int v_open, .int v_digits, .int v_wantsOperand])), (q_draft, .inl (c 0, 50, .inl v_draft))] := hD
      refine lv_if_ne (tgt := 30) hx hb dX3_addDigit_25 (by decide) (fun c_5 => ?_) (fun c_5 => ?_)
      · have h := it_f c_5 h
        refine lv_aload_n hx hb dX3_addDigit_30 rfl (lv_at hl 0 rfl) ?_
        refine va_get (D := D) (ci := 3) (v := .ref q_draft) (C := RX3) (T := TX3) (N := 14) hx hb hts in_X3_addDigit_X3 hown hK.1 hP 0 rfl rfl 7 (by decide) (hts (.fieldLink RX3 22 "PaperBubbles$Law" "draft" "[I") (List.mem_of_getElem? (i := 3) rfl)) (fun _ h9 => h9) rfl dX3_addDigit_31 ?_
        refine lv_aload_n hx hb dX3_addDigit_34 rfl (lv_at hl 0 rfl) ?_
        refine va_get (D := D) (ci := 3) (v := .int v_drafted) (C := RX3) (T := TX3) (N := 14) hx hb hts in_X3_addDigit_X3 hown hK.1 hP 0 rfl rfl 8 (by decide) (hts (.fieldLink RX3 78 "PaperBubbles$Law" "drafted" "I") (List.mem_of_getElem? (i := 2) rfl)) (fun _ h9 => h9) rfl dX3_addDigit_35 ?_
        refine lv_iconst (v := 1) hx hb dX3_addDigit_38 (by decide) ?_
        refine lv_isub hx hb dX3_addDigit_39 ?_
        obtain ⟨t_6, et_6, h⟩ := nm_ok h
        refine gTop et_6 ?_
        refine lv_aload_n hx hb dX3_addDigit_40 rfl (lv_at hl 0 rfl) ?_
        refine va_get (D := D) (ci := 3) (v := .ref q_draft) (C := RX3) (T := TX3) (N := 14) hx hb hts in_X3_addDigit_X3 hown hK.1 hP 0 rfl rfl 7 (by decide) (hts (.fieldLink RX3 22 "PaperBubbles$Law" "draft" "[I") (List.mem_of_getElem? (i := 3) rfl)) (fun _ h9 => h9) rfl dX3_addDigit_41 ?_
        refine lv_aload_n hx hb dX3_addDigit_44 rfl (lv_at hl 0 rfl) ?_
        refine va_get (D := D) (ci := 3) (v := .int v_drafted) (C := RX3) (T := TX3) (N := 14) hx hb hts in_X3_addDigit_X3 hown hK.1 hP 0 rfl rfl 8 (by decide) (hts (.fieldLink RX3 78 "PaperBubbles$Law" "drafted" "I") (List.mem_of_getElem? (i := 2) rfl)) (fun _ h9 => h9) rfl dX3_addDigit_45 ?_
        refine lv_iconst (v := 1) hx hb dX3_addDigit_48 (by decide) ?_
        refine lv_isub hx hb dX3_addDigit_49 ?_
        obtain ⟨t_7, et_7, h⟩ := nm_ok h
        refine gTop et_7 ?_
        obtain ⟨hi_8, h⟩ := chi_ok h
        refine va_iald hx hb hK.1 hP 1 0 rfl rfl hi_8 dX3_addDigit_50 ?_
        obtain ⟨t_9, et_9, h⟩ := nm_ok h
        refine gTop et_9 ?_
        refine lv_bipush (v := 10) hx hb dX3_addDigit_51 (by decide) ?_
        refine lv_imul hx hb dX3_addDigit_53 ?_
        obtain ⟨t_10, et_10, h⟩ := nm_ok h
        refine gTop et_10 ?_
        refine lv_iload_n hx hb dX3_addDigit_54 rfl (lv_at hl 1 rfl) ?_
        refine lv_iadd hx hb dX3_addDigit_55 ?_
        obtain ⟨t_11, et_11, h⟩ := nm_ok h
        refine gTop et_11 ?_
        obtain ⟨hi_12, h⟩ := chi_ok h
        obtain ⟨w_13, ew_13, h⟩ := nm_ok h
        refine va_iast hx hb hK.1 hP hD hS 1 0 rfl rfl hi_12 dX3_addDigit_56 (fun H locs hP hD hS => ?_)
        have hP : va_P D gcl [(q_this, .inr (3, [.ref q_names, .ref q_steps, .int v_length, .ref q_stack, .ref q_answers, .int v_side, .int v_round, .ref q_draft, .int v_drafted, .ref q_held, .int v_holding, .int v_open, .int v_digits, .int v_wantsOperand])), (q_draft, .inl (c 0, 50, .inl w_13))] H := by subst ew_13; exact hP
        have hD : va_D A [(q_this, .inr (3, [.ref q_names, .ref q_steps, .int v_length, .ref q_stack, .ref q_answers, .int v_side, .int v_round, .ref q_draft, .int v_drafted, .ref q_held, .int v_holding, .int v_open, .int v_digits, .int v_wantsOperand])), (q_draft, .inl (c 0, 50, .inl w_13))] := by subst ew_13; exact hD
        refine lv_aload_n hx hb dX3_addDigit_57 rfl (lv_at hl 0 rfl) ?_
        refine lv_dup hx hb dX3_addDigit_58 rfl ?_
        refine va_get (D := D) (ci := 3) (v := .int v_digits) (C := RX3) (T := TX3) (N := 14) hx hb hts in_X3_addDigit_X3 hown hK.1 hP 0 rfl rfl 12 (by decide) (hts (.fieldLink RX3 87 "PaperBubbles$Law" "digits" "I") (List.mem_of_getElem? (i := 1) rfl)) (fun _ h9 => h9) rfl dX3_addDigit_59 ?_
        refine lv_iconst (v := 1) hx hb dX3_addDigit_62 (by decide) ?_
        refine lv_iadd hx hb dX3_addDigit_63 ?_
        obtain ⟨t_14, et_14, h⟩ := nm_ok h
        refine gTop et_14 ?_
        refine va_put (D := D) (ci := 3) (v := .int t_14) (ty := .int) (C := RX3) (T := TX3) (N := 14) hx hb hts in_X3_addDigit_X3 tyX3 tyX3_ok nmX3 hown hK.1 hP hD hS 0 rfl rfl 12 (by decide) (hts (.fieldLink RX3 87 "PaperBubbles$Law" "digits" "I") (List.mem_of_getElem? (i := 1) rfl)) (fun _ h9 => h9) rfl (by decide +kernel) rfl rfl (Nat.le_of_ble_eq_true rfl) dX3_addDigit_64 (fun H locs hP hD hS => ?_)
        have hP : va_P D gcl [(q_this, .inr (3, [.ref q_names, .ref q_steps, .int v_length, .ref q_stack, .ref q_answers, .int v_side, .int v_round, .ref q_draft, .int v_drafted, .ref q_held, .int v_holding, .int v_open, .int t_14, .int v_wantsOperand])), (q_draft, .inl (c 0, 50, .inl w_13))] H := hP
        have hD : va_D A [(q_this, .inr (3, [.ref q_names, .ref q_steps, .int v_length, .ref q_stack, .ref q_answers, .int v_side, .int v_round, .ref q_draft, .int v_drafted, .ref q_held, .int v_holding, .int v_open, .int t_14, .int v_wantsOperand])), (q_draft, .inl (c 0, 50, .inl w_13))] := hD
        refine lv_iconst (v := 1) hx hb dX3_addDigit_67 (by decide) ?_
        cases h
        exact gIret hF hP hD hS rfl dX3_addDigit_68
      · have h := it_t c_5 h
        refine lv_iconst (v := 0) hx hb dX3_addDigit_28 (by decide) ?_
        cases h
        exact gIret hF hP hD hS rfl dX3_addDigit_29
set_option maxRecDepth 20000 in
theorem in_X3_closeParenthesis_X3 : ∀ w ∈ u_ws RX3 TX3 14, w ∈ wsX3_closeParenthesis := by decide +kernel
def f_X3_closeParenthesis (v_drafted : Int32) (v_holding : Int32) (v_open : Int32) (v_draft : Nat → Int32) (v_held : Nat → Int32) : Option (Int32 × Int32 × Int32 × Int32 × (Nat → Int32)) :=
  kb3 (f_X3_closeFrom 1 v_drafted v_holding v_draft v_held) fun w_2 w_3 w_4 =>
  kb (f_X3_lastHeld w_3 v_held) fun r_6 =>
  if r_6 = 40 then
    nm (w_3 - 1) fun t_8 =>
    nm (v_open - 1) fun t_9 =>
    some (1, w_2, t_8, t_9, w_4)
  else
    some (0, w_2, w_3, v_open, w_4)

abbrev rm_X3_closeParenthesis : Room := { frames := 3, cells := 0, slots := 0, locals := 63 }
set_option maxHeartbeats 4000000 in
set_option maxRecDepth 100000 in
theorem c_X3_closeParenthesis (l : Launch) (D : va_G) (c : Nat → ClassId) (q_this q_names q_steps q_stack q_answers q_draft q_held : Nat) (v_length : Int32) (v_side : Int32) (v_round : Int32) (v_drafted : Int32) (v_holding : Int32) (v_open : Int32) (v_digits : Int32) (v_wantsOperand : Int32) (v_draft : Nat → Int32) (v_held : Nat → Int32) (o_r : Int32) (o_v_drafted : Int32) (o_v_holding : Int32) (o_v_open : Int32) (o_v_draft : Nat → Int32) (h : f_X3_closeParenthesis v_drafted v_holding v_open v_draft v_held = some (o_r, o_v_drafted, o_v_holding, o_v_open, o_v_draft)) : gMI l yX3_closeParenthesis wsX3_closeParenthesis rm_X3_closeParenthesis D c [.ref q_this] [(q_this, .inr (3, [.ref q_names, .ref q_steps, .int v_length, .ref q_stack, .ref q_answers, .int v_side, .int v_round, .ref q_draft, .int v_drafted, .ref q_held, .int v_holding, .int v_open, .int v_digits, .int v_wantsOperand])), (q_draft, .inl (c 0, 50, .inl v_draft)), (q_held, .inl (c 0, 50, .inl v_held))] [(q_this, .inr (3, [.ref q_names, .ref q_steps, .int v_length, .ref q_stack, .ref q_answers, .int v_side, .int v_round, .ref q_draft, .int o_v_drafted, .ref q_held, .int o_v_holding, .int o_v_open, .int v_digits, .int v_wantsOperand])), (q_draft, .inl (c 0, 50, .inl o_v_draft)), (q_held, .inl (c 0, 50, .inl v_held))] o_r := by
  refine gMI_of (cc := cX3_closeParenthesis) (maxL := 1) (rt := (some .boolean)) (by decide +kernel) rfl (Nat.le_of_ble_eq_true rfl) ?_
  intro p e s m below meth co A hF hK hX hP hD hA hS ls hl
  obtain ⟨hx, hb, hr, hts, hown, hlocks, hml⟩ := id hF
  have hl : lv_has ls 1 [(0, .ref q_this)] := hl
  unfold f_X3_closeParenthesis at h
  refine lv_aload_n hx hb dX3_closeParenthesis_0 rfl (lv_at hl 0 rfl) ?_
  refine lv_iconst (v := 1) hx hb dX3_closeParenthesis_1 (by decide) ?_
  obtain ⟨w_2, w_3, w_4, hc_1, h⟩ := kb3_ok h
  refine gCallV (isC := [0, 1, 2]) (wc := [(q_this, .inr (3, [.ref q_names, .ref q_steps, .int v_length, .ref q_stack, .ref q_answers, .int v_side, .int v_round, .ref q_draft, .int v_drafted, .ref q_held, .int v_holding, .int v_open, .int v_digits, .int v_wantsOperand])), (q_draft, .inl (c 0, 50, .inl v_draft)), (q_held, .inl (c 0, 50, .inl v_held))]) (w1 := [(q_this, .inr (3, [.ref q_names, .ref q_steps, .int v_length, .ref q_stack, .ref q_answers, .int v_side, .int v_round, .ref q_draft, .int w_2, .ref q_held, .int w_3, .int v_open, .int v_digits, .int v_wantsOperand])), (q_draft, .inl (c 0, 50, .inl w_4)), (q_held, .inl (c 0, 50, .inl v_held))]) hP hD hS hA rfl rfl (va_runV (rm := rm_X3_closeFrom) (ws := wsX3_closeFrom) (As := [.int 1]) (rest := []) (gFix hF) (c_X3_closeFrom l D c q_this q_names q_steps q_stack q_answers q_draft q_held 1 v_length v_side v_round v_drafted v_holding v_open v_digits v_wantsOperand v_draft v_held w_2 w_3 w_4 hc_1 s.heap.size) (cwV 1 hts gX3_closeParenthesis_X3_closeFrom rfl rfl rfl (by decide +kernel) ⟨Nat.le_of_ble_eq_true rfl, Nat.le_of_ble_eq_true rfl⟩) (gPreV (wc := [(q_this, .inr (3, [.ref q_names, .ref q_steps, .int v_length, .ref q_stack, .ref q_answers, .int v_side, .int v_round, .ref q_draft, .int v_drafted, .ref q_held, .int v_holding, .int v_open, .int v_digits, .int v_wantsOperand])), (q_draft, .inl (c 0, 50, .inl v_draft)), (q_held, .inl (c 0, 50, .inl v_held))]) (q := (RX3, TX3, 14)) (ci := 3) (q0 := 0) (isC := [0, 1, 2]) hK hX hS hA hP hD rfl (by decide) rfl rfl) rfl rfl hl.1 rfl (lv_room (Nat.le_of_ble_eq_true rfl)) dX3_closeParenthesis_2 ⟨Nat.le_of_ble_eq_true rfl, Nat.le_of_ble_eq_true rfl⟩) (fun H locs hP hD hS => ?_)
  have hP : va_P D gcl [(q_this, .inr (3, [.ref q_names, .ref q_steps, .int v_length, .ref q_stack, .ref q_answers, .int v_side, .int v_round, .ref q_draft, .int w_2, .ref q_held, .int w_3, .int v_open, .int v_digits, .int v_wantsOperand])), (q_draft, .inl (c 0, 50, .inl w_4)), (q_held, .inl (c 0, 50, .inl v_held))] H := hP
  have hD : va_D A [(q_this, .inr (3, [.ref q_names, .ref q_steps, .int v_length, .ref q_stack, .ref q_answers, .int v_side, .int v_round, .ref q_draft, .int w_2, .ref q_held, .int w_3, .int v_open, .int v_digits, .int v_wantsOperand])), (q_draft, .inl (c 0, 50, .inl w_4)), (q_held, .inl (c 0, 50, .inl v_held))] := hD
  refine lv_aload_n hx hb dX3_closeParenthesis_5 rfl (lv_at hl 0 rfl) ?_
  obtain ⟨r_6, hc_5, h⟩ := kb_ok h
  refine gCallI (isC := [0, 2]) (wc := [(q_this, .inr (3, [.ref q_names, .ref q_steps, .int v_length, .ref q_stack, .ref q_answers, .int v_side, .int v_round, .ref q_draft, .int w_2, .ref q_held, .int w_3, .int v_open, .int v_digits, .int v_wantsOperand])), (q_held, .inl (c 0, 50, .inl v_held))]) (w1 := [(q_this, .inr (3, [.ref q_names, .ref q_steps, .int v_length, .ref q_stack, .ref q_answers, .int v_side, .int v_round, .ref q_draft, .int w_2, .ref q_held, .int w_3, .int v_open, .int v_digits, .int v_wantsOperand])), (q_held, .inl (c 0, 50, .inl v_held))]) hP hD hS hA rfl rfl (va_runV (rm := rm_X3_lastHeld) (ws := wsX3_lastHeld) (As := []) (rest := []) (gFix hF) (c_X3_lastHeld l D c q_this q_names q_steps q_stack q_answers q_draft q_held v_length v_side v_round w_2 w_3 v_open v_digits v_wantsOperand v_held r_6 hc_5 H.size) (cwV 0 hts gX3_closeParenthesis_X3_lastHeld rfl rfl rfl (by decide +kernel) ⟨Nat.le_of_ble_eq_true rfl, Nat.le_of_ble_eq_true rfl⟩) (gPreV (wc := [(q_this, .inr (3, [.ref q_names, .ref q_steps, .int v_length, .ref q_stack, .ref q_answers, .int v_side, .int v_round, .ref q_draft, .int w_2, .ref q_held, .int w_3, .int v_open, .int v_digits, .int v_wantsOperand])), (q_held, .inl (c 0, 50, .inl v_held))]) (q := (RX3, TX3, 14)) (ci := 3) (q0 := 0) (isC := [0, 2]) hK hX hS hA hP hD rfl (by decide) rfl rfl) rfl rfl hl.1 rfl (lv_room (Nat.le_of_ble_eq_true rfl)) dX3_closeParenthesis_6 ⟨Nat.le_of_ble_eq_true rfl, Nat.le_of_ble_eq_true rfl⟩) (fun H locs hP hD hS => ?_)
  have hP : va_P D gcl [(q_this, .inr (3, [.ref q_names, .ref q_steps, .int v_length, .ref q_stack, .ref q_answers, .int v_side, .int v_round, .ref q_draft, .int w_2, .ref q_held, .int w_3, .int v_open, .int v_digits, .int v_wantsOperand])), (q_draft, .inl (c 0, 50, .inl w_4)), (q_held, .inl (c 0, 50, .inl v_held))] H := hP
  have hD : va_D A [(q_this, .inr (3, [.ref q_names, .ref q_steps, .int v_length, .ref q_stack, .ref q_answers, .int v_side, .int v_round, .ref q_draft, .int w_2, .ref q_held, .int w_3, .int v_open, .int v_digits, .int v_wantsOperand])), (q_draft, .inl (c 0, 50, .inl w_4)), (q_held, .inl (c 0, 50, .inl v_held))] := hD
  refine lv_bipush (v := 40) hx hb dX3_closeParenthesis_9 (by decide) ?_
  refine lv_icmp_eq (tgt := 16) hx hb dX3_closeParenthesis_11 (by decide) (fun c_7 => ?_) (fun c_7 => ?_)
  · have h := it_t c_7 h
    refine lv_aload_n hx hb dX3_closeParenthesis_16 rfl (lv_at hl 0 rfl) ?_
    refine lv_dup hx hb dX3_closeParenthesis_17 rfl ?_
    refine va_get (D := D) (ci := 3) (v := .int w_3) (C := RX3) (T := TX3) (N := 14) hx hb hts in_X3_closeParenthesis_X3 hown hK.1 hP 0 rfl rfl 10 (by decide) (hts (.fieldLink RX3 81 "PaperBubbles$Law" "holding" "I") (List.mem_of_getElem? (i := 1) rfl)) (fun _ h9 => h9) rfl dX3_closeParenthesis_18 ?_
    refine lv_iconst (v := 1) hx hb dX3_closeParenthesis_21 (by decide) ?_
    refine lv_isub hx hb dX3_closeParenthesis_22 ?_
    obtain ⟨t_8, et_8, h⟩ := nm_ok h
    refine gTop et_8 ?_
    refine va_put (D := D) (ci := 3) (v := .int t_8) (ty := .int) (C := RX3) (T := TX3) (N := 14) hx hb hts in_X3_closeParenthesis_X3 tyX3 tyX3_ok nmX3 hown hK.1 hP hD hS 0 rfl rfl 10 (by decide) (hts (.fieldLink RX3 81 "PaperBubbles$Law" "holding" "I") (List.mem_of_getElem? (i := 1) rfl)) (fun _ h9 => h9) rfl (by decide +kernel) rfl rfl (Nat.le_of_ble_eq_true rfl) dX3_closeParenthesis_23 (fun H locs hP hD hS => ?_)
    have hP : va_P D gcl [(q_this, .inr (3, [.ref q_names, .ref q_steps, .int v_length, .ref q_stack, .ref q_answers, .int v_side, .int v_round, .ref q_draft, .int w_2, .ref q_held, .int t_8, .int v_open, .int v_digits, .int v_wantsOperand])), (q_draft, .inl (c 0, 50, .inl w_4)), (q_held, .inl (c 0, 50, .inl v_held))] H := hP
    have hD : va_D A [(q_this, .inr (3, [.ref q_names, .ref q_steps, .int v_length, .ref q_stack, .ref q_answers, .int v_side, .int v_round, .ref q_draft, .int w_2, .ref q_held, .int t_8, .int v_open, .int v_digits, .int v_wantsOperand])), (q_draft, .inl (c 0, 50, .inl w_4)), (q_held, .inl (c 0, 50, .inl v_held))] := hD
    refine lv_aload_n hx hb dX3_closeParenthesis_26 rfl (lv_at hl 0 rfl) ?_
    refine lv_dup hx hb dX3_closeParenthesis_27 rfl ?_
    refine va_get (D := D) (ci := 3) (v := .int v_open) (C := RX3) (T := TX3) (N := 14) hx hb hts in_X3_closeParenthesis_X3 hown hK.1 hP 0 rfl rfl 11 (by decide) (hts (.fieldLink RX3 84 "PaperBubbles$Law" "open" "I") (List.mem_of_getElem? (i := 2) rfl)) (fun _ h9 => h9) rfl dX3_closeParenthesis_28 ?_
    refine lv_iconst (v := 1) hx hb dX3_closeParenthesis_31 (by decide) ?_
    refine lv_isub hx hb dX3_closeParenthesis_32 ?_
    obtain ⟨t_9, et_9, h⟩ := nm_ok h
    refine gTop et_9 ?_
    refine va_put (D := D) (ci := 3) (v := .int t_9) (ty := .int) (C := RX3) (T := TX3) (N := 14) hx hb hts in_X3_closeParenthesis_X3 tyX3 tyX3_ok nmX3 hown hK.1 hP hD hS 0 rfl rfl 11 (by decide) (hts (.fieldLink RX3 84 "PaperBubbles$Law" "open" "I") (List.mem_of_getElem? (i := 2) rfl)) (fun _ h9 => h9) rfl (by decide +kernel) rfl rfl (Nat.le_of_ble_eq_true rfl) dX3_closeParenthesis_33 (fun H locs hP hD hS => ?_)
    have hP : va_P D gcl [(q_this, .inr (3, [.ref q_names, .ref q_steps, .int v_length, .ref q_stack, .ref q_answers, .int v_side, .int v_round, .ref q_draft, .int w_2, .ref q_held, .int t_8, .int t_9, .int v_digits, .int v_wantsOperand])), (q_draft, .inl (c 0, 50, .inl w_4)), (q_held, .inl (c 0, 50, .inl v_held))] H := hP
    have hD : va_D A [(q_this, .inr (3, [.ref q_names, .ref q_steps, .int v_length, .ref q_stack, .ref q_answers, .int v_side, .int v_round, .ref q_draft, .int w_2, .ref q_held, .int t_8, .int t_9, .int v_digits, .int v_wantsOperand])), (q_draft, .inl (c 0, 50, .inl w_4)), (q_held, .inl (c 0, 50, .inl v_held))] := hD
    refine lv_iconst (v := 1) hx hb dX3_closeParenthesis_36 (by decide) ?_
    cases h
    exact gIret hF hP hD hS rfl dX3_closeParenthesis_37
  · have h := it_f c_7 h
    refine lv_iconst (v := 0) hx hb dX3_closeParenthesis_14 (by decide) ?_
    cases h
    exact gIret hF hP hD hS rfl dX3_closeParenthesis_15
set_option maxRecDepth 20000 in
theorem in_X3_follows_X3 : ∀ w ∈ u_ws RX3 TX3 14, w ∈ wsX3_follows := by decide +kernel
def f_X3_follows_L81 (a_1 : Int32) (v_drafted : Int32) (v_holding : Int32) (v_open : Int32) (v_digits : Int32) (v_draft : Nat → Int32) (v_held : Nat → Int32) : Option (Int32 × Int32 × Int32 × Int32 × Int32 × Int32 × (Nat → Int32) × (Nat → Int32)) :=
  kb2 (f_X3_hold a_1 v_holding v_held) fun w_39 w_40 =>
  some (1, v_drafted, w_39, v_open, v_digits, 1, v_draft, w_40)

def f_X3_follows_L60 (a_1 : Int32) (x2 : Int32) (y1 : Int32) (v_drafted : Int32) (v_holding : Int32) (v_open : Int32) (v_digits : Int32) (v_wantsOperand : Int32) (v_draft : Nat → Int32) (v_held : Nat → Int32) : Option (Int32 × Int32 × Int32 × Int32 × Int32 × Int32 × (Nat → Int32) × (Nat → Int32)) :=
  kb3 (f_X3_closeFrom y1 v_drafted v_holding v_draft v_held) fun w_29 w_30 w_31 =>
  if x2 = 3 then
    kb (f_X3_lastHeld w_30 v_held) fun r_34 =>
    kb (f_X3_rankOf r_34) fun r_36 =>
    if r_36 = 3 then
      some (0, w_29, w_30, v_open, v_digits, v_wantsOperand, w_31, v_held)
    else
      f_X3_follows_L81 a_1 w_29 w_30 v_open v_digits w_31 v_held
  else
    f_X3_follows_L81 a_1 w_29 w_30 v_open v_digits w_31 v_held

def f_X3_follows (a_1 : Int32) (v_drafted : Int32) (v_holding : Int32) (v_open : Int32) (v_digits : Int32) (v_wantsOperand : Int32) (v_draft : Nat → Int32) (v_held : Nat → Int32) : Option (Int32 × Int32 × Int32 × Int32 × Int32 × Int32 × (Nat → Int32) × (Nat → Int32)) :=
  kb (f_X3_isDigit a_1) fun r_2 =>
  if r_2 = 0 then
    kb4 (f_X3_closeNots v_drafted v_holding v_open v_draft v_held) fun w_5 w_6 w_7 w_8 =>
    if a_1 = 41 then
      kb5 (f_X3_closeParenthesis w_5 w_6 w_7 w_8 v_held) fun r_16 w_17 w_18 w_19 w_20 =>
      chb r_16 <|
      some (r_16, w_17, w_18, w_19, 0, v_wantsOperand, w_20, v_held)
    else
      kb (f_X3_rankOf a_1) fun r_11 =>
      if r_11 = 0 then
        some (0, w_5, w_6, w_7, 0, v_wantsOperand, w_8, v_held)
      else
        if r_11 = 3 then
          nm (r_11 + 1) fun t_14 =>
          f_X3_follows_L60 a_1 r_11 t_14 w_5 w_6 w_7 0 v_wantsOperand w_8 v_held
        else
          f_X3_follows_L60 a_1 r_11 r_11 w_5 w_6 w_7 0 v_wantsOperand w_8 v_held
  else
    nm (a_1 - 48) fun t_22 =>
    kb3 (f_X3_addDigit t_22 v_drafted v_digits v_draft) fun r_24 w_25 w_26 =>
    chb r_24 <|
    some (r_24, v_drafted, v_holding, v_open, w_25, v_wantsOperand, w_26, v_held)

abbrev rm_X3_follows : Room := { frames := 4, cells := 0, slots := 0, locals := 83 }
set_option maxHeartbeats 4000000 in
set_option maxRecDepth 100000 in
theorem c_X3_follows (l : Launch) (D : va_G) (c : Nat → ClassId) (q_this q_names q_steps q_stack q_answers q_draft q_held : Nat) (a_1 : Int32) (v_length : Int32) (v_side : Int32) (v_round : Int32) (v_drafted : Int32) (v_holding : Int32) (v_open : Int32) (v_digits : Int32) (v_wantsOperand : Int32) (v_draft : Nat → Int32) (v_held : Nat → Int32) (o_r : Int32) (o_v_drafted : Int32) (o_v_holding : Int32) (o_v_open : Int32) (o_v_digits : Int32) (o_v_wantsOperand : Int32) (o_v_draft : Nat → Int32) (o_v_held : Nat → Int32) (h : f_X3_follows a_1 v_drafted v_holding v_open v_digits v_wantsOperand v_draft v_held = some (o_r, o_v_drafted, o_v_holding, o_v_open, o_v_digits, o_v_wantsOperand, o_v_draft, o_v_held)) : gMI l yX3_follows wsX3_follows rm_X3_follows D c [.ref q_this, .int a_1] [(q_this, .inr (3, [.ref q_names, .ref q_steps, .int v_length, .ref q_stack, .ref q_answers, .int v_side, .int v_round, .ref q_draft, .int v_drafted, .ref q_held, .int v_holding, .int v_open, .int v_digits, .int v_wantsOperand])), (q_draft, .inl (c 0, 50, .inl v_draft)), (q_held, .inl (c 0, 50, .inl v_held))] [(q_this, .inr (3, [.ref q_names, .ref q_steps, .int v_length, .ref q_stack, .ref q_answers, .int v_side, .int v_round, .ref q_draft, .int o_v_drafted, .ref q_held, .int o_v_holding, .int o_v_open, .int o_v_digits, .int o_v_wantsOperand])), (q_draft, .inl (c 0, 50, .inl o_v_draft)), (q_held, .inl (c 0, 50, .inl o_v_held))] o_r := by
  refine gMI_of (cc := cX3_follows) (maxL := 3) (rt := (some .boolean)) (by decide +kernel) rfl (Nat.le_of_ble_eq_true rfl) ?_
  intro p e s m below meth co A hF hK hX hP hD hA hS ls hl
  obtain ⟨hx, hb, hr, hts, hown, hlocks, hml⟩ := id hF
  have hl : lv_has ls 3 [(0, .ref q_this), (1, .int a_1)] := hl
  have t_L81 : ∀ (v_drafted : Int32) (v_holding : Int32) (v_open : Int32) (v_digits : Int32) (v_wantsOperand : Int32) (v_draft : Nat → Int32) (v_held : Nat → Int32) (H : Heap) (locs : List Loc), va_P D gcl [(q_this, .inr (3, [.ref q_names, .ref q_steps, .int v_length, .ref q_stack, .ref q_answers, .int v_side, .int v_round, .ref q_draft, .int v_drafted, .ref q_held, .int v_holding, .int v_open, .int v_digits, .int v_wantsOperand])), (q_draft, .inl (c 0, 50, .inl v_draft)), (q_held, .inl (c 0, 50, .inl v_held))] H → va_D A [(q_this, .inr (3, [.ref q_names, .ref q_steps, .int v_length, .ref q_stack, .ref q_answers, .int v_side, .int v_round, .ref q_draft, .int v_drafted, .ref q_held, .int v_holding, .int v_open, .int v_digits, .int v_wantsOperand])), (q_draft, .inl (c 0, 50, .inl v_draft)), (q_held, .inl (c 0, 50, .inl v_held))] → va_S A s.heap H locs → ∀ ls, lv_has ls 3 [(0, .ref q_this), (1, .int a_1)] → f_X3_follows_L81 a_1 v_drafted v_holding v_open v_digits v_draft v_held = some (o_r, o_v_drafted, o_v_holding, o_v_open, o_v_digits, o_v_wantsOperand, o_v_draft, o_v_held) → W p l e (headSpec wsX3_follows rm_X3_follows).room s m [.ref q_this, .int a_1].toArray below meth co H locs 0 0 (gQI D [(q_this, .inr (3, [.ref q_names, .ref q_steps, .int v_length, .ref q_stack, .ref q_answers, .int v_side, .int v_round, .ref q_draft, .int o_v_drafted, .ref q_held, .int o_v_holding, .int o_v_open, .int o_v_digits, .int o_v_wantsOperand])), (q_draft, .inl (c 0, 50, .inl o_v_draft)), (q_held, .inl (c 0, 50, .inl o_v_held))] o_r A below [.ref q_this, .int a_1] s) (F0 m 81 ls []) := by
    intro  v_drafted v_holding v_open v_digits v_wantsOperand v_draft v_held H locs hP hD hS ls hl h
    unfold f_X3_follows_L81 at h
    refine lv_aload_n hx hb dX3_follows_81 rfl (lv_at hl 0 rfl) ?_
    refine lv_iload_n hx hb dX3_follows_82 rfl (lv_at hl 1 rfl) ?_
    obtain ⟨w_39, w_40, hc_38, h⟩ := kb2_ok h
    refine gCallV (isC := [0, 2]) (wc := [(q_this, .inr (3, [.ref q_names, .ref q_steps, .int v_length, .ref q_stack, .ref q_answers, .int v_side, .int v_round, .ref q_draft, .int v_drafted, .ref q_held, .int v_holding, .int v_open, .int v_digits, .int v_wantsOperand])), (q_held, .inl (c 0, 50, .inl v_held))]) (w1 := [(q_this, .inr (3, [.ref q_names, .ref q_steps, .int v_length, .ref q_stack, .ref q_answers, .int v_side, .int v_round, .ref q_draft, .int v_drafted, .ref q_held, .int w_39, .int v_open, .int v_digits, .int v_wantsOperand])), (q_held, .inl (c 0, 50, .inl w_40))]) hP hD hS hA rfl rfl (va_runV (rm := rm_X3_hold) (ws := wsX3_hold) (As := [.int a_1]) (rest := []) (gFix hF) (c_X3_hold l D c q_this q_names q_steps q_stack q_answers q_draft q_held a_1 v_length v_side v_round v_drafted v_holding v_open v_digits v_wantsOperand v_held w_39 w_40 hc_38 H.size) (cwV 1 hts gX3_follows_X3_hold rfl rfl rfl (by decide +kernel) ⟨Nat.le_of_ble_eq_true rfl, Nat.le_of_ble_eq_true rfl⟩) (gPreV (wc := [(q_this, .inr (3, [.ref q_names, .ref q_steps, .int v_length, .ref q_stack, .ref q_answers, .int v_side, .int v_round, .ref q_draft, .int v_drafted, .ref q_held, .int v_holding, .int v_open, .int v_digits, .int v_wantsOperand])), (q_held, .inl (c 0, 50, .inl v_held))]) (q := (RX3, TX3, 14)) (ci := 3) (q0 := 0) (isC := [0, 2]) hK hX hS hA hP hD rfl (by decide) rfl rfl) rfl rfl hl.1 rfl (lv_room (Nat.le_of_ble_eq_true rfl)) dX3_follows_83 ⟨Nat.le_of_ble_eq_true rfl, Nat.le_of_ble_eq_true rfl⟩) (fun H locs hP hD hS => ?_)
    have hP : va_P D gcl [(q_this, .inr (3, [.ref q_names, .ref q_steps, .int v_length, .ref q_stack, .ref q_answers, .int v_side, .int v_round, .ref q_draft, .int v_drafted, .ref q_held, .int w_39, .int v_open, .int v_digits, .int v_wantsOperand])), (q_draft, .inl (c 0, 50, .inl v_draft)), (q_held, .inl (c 0, 50, .inl w_40))] H := hP
    have hD : va_D A [(q_this, .inr (3, [.ref q_names, .ref q_steps, .int v_length, .ref q_stack, .ref q_answers, .int v_side, .int v_round, .ref q_draft, .int v_drafted, .ref q_held, .int w_39, .int v_open, .int v_digits, .int v_wantsOperand])), (q_draft, .inl (c 0, 50, .inl v_draft)), (q_held, .inl (c 0, 50, .inl w_40))] := hD
    refine lv_aload_n hx hb dX3_follows_86 rfl (lv_at hl 0 rfl) ?_
    refine lv_iconst (v := 1) hx hb dX3_follows_87 (by decide) ?_
    refine va_put (D := D) (ci := 3) (v := .int 1) (ty := .boolean) (C := RX3) (T := TX3) (N := 14) hx hb hts in_X3_follows_X3 tyX3 tyX3_ok nmX3 hown hK.1 hP hD hS 0 rfl rfl 13 (by decide) (hts (.fieldLink RX3 90 "PaperBubbles$Law" "wantsOperand" "Z") (List.mem_of_getElem? (i := 2) rfl)) (fun _ h9 => h9) rfl (by decide +kernel) rfl rfl (Nat.le_of_ble_eq_true rfl) dX3_follows_88 (fun H locs hP hD hS => ?_)
    have hP : va_P D gcl [(q_this, .inr (3, [.ref q_names, .ref q_steps, .int v_length, .ref q_stack, .ref q_answers, .int v_side, .int v_round, .ref q_draft, .int v_drafted, .ref q_held, .int w_39, .int v_open, .int v_digits, .int 1])), (q_draft, .inl (c 0, 50, .inl v_draft)), (q_held, .inl (c 0, 50, .inl w_40))] H := hP
    have hD : va_D A [(q_this, .inr (3, [.ref q_names, .ref q_steps, .int v_length, .ref q_stack, .ref q_answers, .int v_side, .int v_round, .ref q_draft, .int v_drafted, .ref q_held, .int w_39, .int v_open, .int v_digits, .int 1])), (q_draft, .inl (c 0, 50, .inl v_draft)), (q_held, .inl (c 0, 50, .inl w_40))] := hD
    refine lv_iconst (v := 1) hx hb dX3_follows_91 (by decide) ?_
    cases h
    exact gIret hF hP hD hS rfl dX3_follows_92
  have t_L60 : ∀ (x2 : Int32) (y1 : Int32) (v_drafted : Int32) (v_holding : Int32) (v_open : Int32) (v_digits : Int32) (v_wantsOperand : Int32) (v_draft : Nat → Int32) (v_held : Nat → Int32) (H : Heap) (locs : List Loc), va_P D gcl [(q_this, .inr (3, [.ref q_names, .ref q_steps, .int v_length, .ref q_stack, .ref q_answers, .int v_side, .int v_round, .ref q_draft, .int v_drafted, .ref q_held, .int v_holding, .int v_open, .int v_digits, .int v_wantsOperand])), (q_draft, .inl (c 0, 50, .inl v_draft)), (q_held, .inl (c 0, 50, .inl v_held))] H → va_D A [(q_this, .inr (3, [.ref q_names, .ref q_steps, .int v_length, .ref q_stack, .ref q_answers, .int v_side, .int v_round, .ref q_draft, .int v_drafted, .ref q_held, .int v_holding, .int v_open, .int v_digits, .int v_wantsOperand])), (q_draft, .inl (c 0, 50, .inl v_draft)), (q_held, .inl (c 0, 50, .inl v_held))] → va_S A s.heap H locs → ∀ ls, lv_has ls 3 [(0, .ref q_this), (1, .int a_1), (2, .int x2)] → f_X3_follows_L60 a_1 x2 y1 v_drafted v_holding v_open v_digits v_wantsOperand v_draft v_held = some (o_r, o_v_drafted, o_v_holding, o_v_open, o_v_digits, o_v_wantsOperand, o_v_draft, o_v_held) → W p l e (headSpec wsX3_follows rm_X3_follows).room s m [.ref q_this, .int a_1].toArray below meth co H locs 0 0 (gQI D [(q_this, .inr (3, [.ref q_names, .ref q_steps, .int v_length, .ref q_stack, .ref q_answers, .int v_side, .int v_round, .ref q_draft, .int o_v_drafted, .ref q_held, .int o_v_holding, .int o_v_open, .int o_v_digits, .int o_v_wantsOperand])), (q_draft, .inl (c 0, 50, .inl o_v_draft)), (q_held, .inl (c 0, 50, .inl o_v_held))] o_r A below [.ref q_this, .int a_1] s) (F0 m 60 ls [.int y1, .ref q_this]) := by
    intro  x2 y1 v_drafted v_holding v_open v_digits v_wantsOperand v_draft v_held H locs hP hD hS ls hl h
    unfold f_X3_follows_L60 at h
    obtain ⟨w_29, w_30, w_31, hc_28, h⟩ := kb3_ok h
    refine gCallV (isC := [0, 1, 2]) (wc := [(q_this, .inr (3, [.ref q_names, .ref q_steps, .int v_length, .ref q_stack, .ref q_answers, .int v_side, .int v_round, .ref q_draft, .int v_drafted, .ref q_held, .int v_holding, .int v_open, .int v_digits, .int v_wantsOperand])), (q_draft, .inl (c 0, 50, .inl v_draft)), (q_held, .inl (c 0, 50, .inl v_held))]) (w1 := [(q_this, .inr (3, [.ref q_names, .ref q_steps, .int v_length, .ref q_stack, .ref q_answers, .int v_side, .int v_round, .ref q_draft, .int w_29, .ref q_held, .int w_30, .int v_open, .int v_digits, .int v_wantsOperand])), (q_draft, .inl (c 0, 50, .inl w_31)), (q_held, .inl (c 0, 50, .inl v_held))]) hP hD hS hA rfl rfl (va_runV (rm := rm_X3_closeFrom) (ws := wsX3_closeFrom) (As := [.int y1]) (rest := []) (gFix hF) (c_X3_closeFrom l D c q_this q_names q_steps q_stack q_answers q_draft q_held y1 v_length v_side v_round v_drafted v_holding v_open v_digits v_wantsOperand v_draft v_held w_29 w_30 w_31 hc_28 H.size) (cwV 1 hts gX3_follows_X3_closeFrom rfl rfl rfl (by decide +kernel) ⟨Nat.le_of_ble_eq_true rfl, Nat.le_of_ble_eq_true rfl⟩) (gPreV (wc := [(q_this, .inr (3, [.ref q_names, .ref q_steps, .int v_length, .ref q_stack, .ref q_answers, .int v_side, .int v_round, .ref q_draft, .int v_drafted, .ref q_held, .int v_holding, .int v_open, .int v_digits, .int v_wantsOperand])), (q_draft, .inl (c 0, 50, .inl v_draft)), (q_held, .inl (c 0, 50, .inl v_held))]) (q := (RX3, TX3, 14)) (ci := 3) (q0 := 0) (isC := [0, 1, 2]) hK hX hS hA hP hD rfl (by decide) rfl rfl) rfl rfl hl.1 rfl (lv_room (Nat.le_of_ble_eq_true rfl)) dX3_follows_60 ⟨Nat.le_of_ble_eq_true rfl, Nat.le_of_ble_eq_true rfl⟩) (fun H locs hP hD hS => ?_)
    have hP : va_P D gcl [(q_this, .inr (3, [.ref q_names, .ref q_steps, .int v_length, .ref q_stack, .ref q_answers, .int v_side, .int v_round, .ref q_draft, .int w_29, .ref q_held, .int w_30, .int v_open, .int v_digits, .int v_wantsOperand])), (q_draft, .inl (c 0, 50, .inl w_31)), (q_held, .inl (c 0, 50, .inl v_held))] H := hP
    have hD : va_D A [(q_this, .inr (3, [.ref q_names, .ref q_steps, .int v_length, .ref q_stack, .ref q_answers, .int v_side, .int v_round, .ref q_draft, .int w_29, .ref q_held, .int w_30, .int v_open, .int v_digits, .int v_wantsOperand])), (q_draft, .inl (c 0, 50, .inl w_31)), (q_held, .inl (c 0, 50, .inl v_held))] := hD
    refine lv_iload_n hx hb dX3_follows_63 rfl (lv_at hl 2 rfl) ?_
    refine lv_iconst (v := 3) hx hb dX3_follows_64 (by decide) ?_
    refine lv_icmp_ne (tgt := 81) hx hb dX3_follows_65 (by decide) (fun c_32 => ?_) (fun c_32 => ?_)
    · have h := it_f c_32 h
      exact t_L81 w_29 w_30 v_open v_digits v_wantsOperand w_31 v_held H locs hP hD hS ls (lv_sub hl [0, 1] rfl) h
    · have h := it_t c_32 h
      refine lv_aload_n hx hb dX3_follows_68 rfl (lv_at hl 0 rfl) ?_
      obtain ⟨r_34, hc_33, h⟩ := kb_ok h
      refine gCallI (isC := [0, 2]) (wc := [(q_this, .inr (3, [.ref q_names, .ref q_steps, .int v_length, .ref q_stack, .ref q_answers, .int v_side, .int v_round, .ref q_draft, .int w_29, .ref q_held, .int w_30, .int v_open, .int v_digits, .int v_wantsOperand])), (q_held, .inl (c 0, 50, .inl v_held))]) (w1 := [(q_this, .inr (3, [.ref q_names, .ref q_steps, .int v_length, .ref q_stack, .ref q_answers, .int v_side, .int v_round, .ref q_draft, .int w_29, .ref q_held, .int w_30, .int v_open, .int v_digits, .int v_wantsOperand])), (q_held, .inl (c 0, 50, .inl v_held))]) hP hD hS hA rfl rfl (va_runV (rm := rm_X3_lastHeld) (ws := wsX3_lastHeld) (As := []) (rest := []) (gFix hF) (c_X3_lastHeld l D c q_this q_names q_steps q_stack q_answers q_draft q_held v_length v_side v_round w_29 w_30 v_open v_digits v_wantsOperand v_held r_34 hc_33 H.size) (cwV 0 hts gX3_follows_X3_lastHeld rfl rfl rfl (by decide +kernel) ⟨Nat.le_of_ble_eq_true rfl, Nat.le_of_ble_eq_true rfl⟩) (gPreV (wc := [(q_this, .inr (3, [.ref q_names, .ref q_steps, .int v_length, .ref q_stack, .ref q_answers, .int v_side, .int v_round, .ref q_draft, .int w_29, .ref q_held, .int w_30, .int v_open, .int v_digits, .int v_wantsOperand])), (q_held, .inl (c 0, 50, .inl v_held))]) (q := (RX3, TX3, 14)) (ci := 3) (q0 := 0) (isC := [0, 2]) hK hX hS hA hP hD rfl (by decide) rfl rfl) rfl rfl hl.1 rfl (lv_room (Nat.le_of_ble_eq_true rfl)) dX3_follows_69 ⟨Nat.le_of_ble_eq_true rfl, Nat.le_of_ble_eq_true rfl⟩) (fun H locs hP hD hS => ?_)
      have hP : va_P D gcl [(q_this, .inr (3, [.ref q_names, .ref q_steps, .int v_length, .ref q_stack, .ref q_answers, .int v_side, .int v_round, .ref q_draft, .int w_29, .ref q_held, .int w_30, .int v_open, .int v_digits, .int v_wantsOperand])), (q_draft, .inl (c 0, 50, .inl w_31)), (q_held, .inl (c 0, 50, .inl v_held))] H := hP
      have hD : va_D A [(q_this, .inr (3, [.ref q_names, .ref q_steps, .int v_length, .ref q_stack, .ref q_answers, .int v_side, .int v_round, .ref q_draft, .int w_29, .ref q_held, .int w_30, .int v_open, .int v_digits, .int v_wantsOperand])), (q_draft, .inl (c 0, 50, .inl w_31)), (q_held, .inl (c 0, 50, .inl v_held))] := hD
      obtain ⟨r_36, hc_35, h⟩ := kb_ok h
      refine gCallI (isC := []) (wc := []) (w1 := []) hP hD hS hA rfl rfl (va_runS (rm := rm_X3_rankOf) (ws := wsX3_rankOf) (As := [.int r_34]) (rest := []) (gFix hF) (c_X3_rankOf l D c r_34 r_36 hc_35 H.size) (va_cwS 1 hts gX3_follows_X3_rankOf rfl rfl rfl (by decide +kernel) ⟨Nat.le_of_ble_eq_true rfl, Nat.le_of_ble_eq_true rfl⟩) (gPreS (wc := []) (isC := []) hK hX hS hA hP hD rfl (by decide)) rfl rfl hl.1 rfl (lv_room (Nat.le_of_ble_eq_true rfl)) dX3_follows_72 ⟨Nat.le_of_ble_eq_true rfl, Nat.le_of_ble_eq_true rfl⟩) (fun H locs hP hD hS => ?_)
      have hP : va_P D gcl [(q_this, .inr (3, [.ref q_names, .ref q_steps, .int v_length, .ref q_stack, .ref q_answers, .int v_side, .int v_round, .ref q_draft, .int w_29, .ref q_held, .int w_30, .int v_open, .int v_digits, .int v_wantsOperand])), (q_draft, .inl (c 0, 50, .inl w_31)), (q_held, .inl (c 0, 50, .inl v_held))] H := hP
      have hD : va_D A [(q_this, .inr (3, [.ref q_names, .ref q_steps, .int v_length, .ref q_stack, .ref q_answers, .int v_side, .int v_round, .ref q_draft, .int w_29, .ref q_held, .int w_30, .int v_open, .int v_digits, .int v_wantsOperand])), (q_draft, .inl (c 0, 50, .inl w_31)), (q_held, .inl (c 0, 50, .inl v_held))] := hD
      refine lv_iconst (v := 3) hx hb dX3_follows_75 (by decide) ?_
      refine lv_icmp_ne (tgt := 81) hx hb dX3_follows_76 (by decide) (fun c_37 => ?_) (fun c_37 => ?_)
      · have h := it_f c_37 h
        exact t_L81 w_29 w_30 v_open v_digits v_wantsOperand w_31 v_held H locs hP hD hS ls (lv_sub hl [0, 1] rfl) h
      · have h := it_t c_37 h
        refine lv_iconst (v := 0) hx hb dX3_follows_79 (by decide) ?_
        cases h
        exact gIret hF hP hD hS rfl dX3_follows_80
  unfold f_X3_follows at h
  refine lv_iload_n hx hb dX3_follows_0 rfl (lv_at hl 1 rfl) ?_
  obtain ⟨r_2, hc_1, h⟩ := kb_ok h
  refine gCallI (isC := []) (wc := []) (w1 := []) hP hD hS hA rfl rfl (va_runS (rm := rm_X3_isDigit) (ws := wsX3_isDigit) (As := [.int a_1]) (rest := []) (gFix hF) (c_X3_isDigit l D c a_1 r_2 hc_1 s.heap.size) (va_cwS 1 hts gX3_follows_X3_isDigit rfl rfl rfl (by decide +kernel) ⟨Nat.le_of_ble_eq_true rfl, Nat.le_of_ble_eq_true rfl⟩) (gPreS (wc := []) (isC := []) hK hX hS hA hP hD rfl (by decide)) rfl rfl hl.1 rfl (lv_room (Nat.le_of_ble_eq_true rfl)) dX3_follows_1 ⟨Nat.le_of_ble_eq_true rfl, Nat.le_of_ble_eq_true rfl⟩) (fun H locs hP hD hS => ?_)
  have hP : va_P D gcl [(q_this, .inr (3, [.ref q_names, .ref q_steps, .int v_length, .ref q_stack, .ref q_answers, .int v_side, .int v_round, .ref q_draft, .int v_drafted, .ref q_held, .int v_holding, .int v_open, .int v_digits, .int v_wantsOperand])), (q_draft, .inl (c 0, 50, .inl v_draft)), (q_held, .inl (c 0, 50, .inl v_held))] H := hP
  have hD : va_D A [(q_this, .inr (3, [.ref q_names, .ref q_steps, .int v_length, .ref q_stack, .ref q_answers, .int v_side, .int v_round, .ref q_draft, .int v_drafted, .ref q_held, .int v_holding, .int v_open, .int v_digits, .int v_wantsOperand])), (q_draft, .inl (c 0, 50, .inl v_draft)), (q_held, .inl (c 0, 50, .inl v_held))] := hD
  refine lv_if_eq (tgt := 16) hx hb dX3_follows_4 (by decide) (fun c_3 => ?_) (fun c_3 => ?_)
  · have h := it_t c_3 h
    refine lv_aload_n hx hb dX3_follows_16 rfl (lv_at hl 0 rfl) ?_
    refine lv_iconst (v := 0) hx hb dX3_follows_17 (by decide) ?_
    refine va_put (D := D) (ci := 3) (v := .int 0) (ty := .int) (C := RX3) (T := TX3) (N := 14) hx hb hts in_X3_follows_X3 tyX3 tyX3_ok nmX3 hown hK.1 hP hD hS 0 rfl rfl 12 (by decide) (hts (.fieldLink RX3 87 "PaperBubbles$Law" "digits" "I") (List.mem_of_getElem? (i := 1) rfl)) (fun _ h9 => h9) rfl (by decide +kernel) rfl rfl (Nat.le_of_ble_eq_true rfl) dX3_follows_18 (fun H locs hP hD hS => ?_)
    have hP : va_P D gcl [(q_this, .inr (3, [.ref q_names, .ref q_steps, .int v_length, .ref q_stack, .ref q_answers, .int v_side, .int v_round, .ref q_draft, .int v_drafted, .ref q_held, .int v_holding, .int v_open, .int 0, .int v_wantsOperand])), (q_draft, .inl (c 0, 50, .inl v_draft)), (q_held, .inl (c 0, 50, .inl v_held))] H := hP
    have hD : va_D A [(q_this, .inr (3, [.ref q_names, .ref q_steps, .int v_length, .ref q_stack, .ref q_answers, .int v_side, .int v_round, .ref q_draft, .int v_drafted, .ref q_held, .int v_holding, .int v_open, .int 0, .int v_wantsOperand])), (q_draft, .inl (c 0, 50, .inl v_draft)), (q_held, .inl (c 0, 50, .inl v_held))] := hD
    refine lv_aload_n hx hb dX3_follows_21 rfl (lv_at hl 0 rfl) ?_
    obtain ⟨w_5, w_6, w_7, w_8, hc_4, h⟩ := kb4_ok h
    refine gCallV (isC := [0, 1, 2]) (wc := [(q_this, .inr (3, [.ref q_names, .ref q_steps, .int v_length, .ref q_stack, .ref q_answers, .int v_side, .int v_round, .ref q_draft, .int v_drafted, .ref q_held, .int v_holding, .int v_open, .int 0, .int v_wantsOperand])), (q_draft, .inl (c 0, 50, .inl v_draft)), (q_held, .inl (c 0, 50, .inl v_held))]) (w1 := [(q_this, .inr (3, [.ref q_names, .ref q_steps, .int v_length, .ref q_stack, .ref q_answers, .int v_side, .int v_round, .ref q_draft, .int w_5, .ref q_held, .int w_6, .int w_7, .int 0, .int v_wantsOperand])), (q_draft, .inl (c 0, 50, .inl w_8)), (q_held, .inl (c 0, 50, .inl v_held))]) hP hD hS hA rfl rfl (va_runV (rm := rm_X3_closeNots) (ws := wsX3_closeNots) (As := []) (rest := []) (gFix hF) (c_X3_closeNots l D c q_this q_names q_steps q_stack q_answers q_draft q_held v_length v_side v_round v_drafted v_holding v_open 0 v_wantsOperand v_draft v_held w_5 w_6 w_7 w_8 hc_4 H.size) (cwV 0 hts gX3_follows_X3_closeNots rfl rfl rfl (by decide +kernel) ⟨Nat.le_of_ble_eq_true rfl, Nat.le_of_ble_eq_true rfl⟩) (gPreV (wc := [(q_this, .inr (3, [.ref q_names, .ref q_steps, .int v_length, .ref q_stack, .ref q_answers, .int v_side, .int v_round, .ref q_draft, .int v_drafted, .ref q_held, .int v_holding, .int v_open, .int 0, .int v_wantsOperand])), (q_draft, .inl (c 0, 50, .inl v_draft)), (q_held, .inl (c 0, 50, .inl v_held))]) (q := (RX3, TX3, 14)) (ci := 3) (q0 := 0) (isC := [0, 1, 2]) hK hX hS hA hP hD rfl (by decide) rfl rfl) rfl rfl hl.1 rfl (lv_room (Nat.le_of_ble_eq_true rfl)) dX3_follows_22 ⟨Nat.le_of_ble_eq_true rfl, Nat.le_of_ble_eq_true rfl⟩) (fun H locs hP hD hS => ?_)
    have hP : va_P D gcl [(q_this, .inr (3, [.ref q_names, .ref q_steps, .int v_length, .ref q_stack, .ref q_answers, .int v_side, .int v_round, .ref q_draft, .int w_5, .ref q_held, .int w_6, .int w_7, .int 0, .int v_wantsOperand])), (q_draft, .inl (c 0, 50, .inl w_8)), (q_held, .inl (c 0, 50, .inl v_held))] H := hP
    have hD : va_D A [(q_this, .inr (3, [.ref q_names, .ref q_steps, .int v_length, .ref q_stack, .ref q_answers, .int v_side, .int v_round, .ref q_draft, .int w_5, .ref q_held, .int w_6, .int w_7, .int 0, .int v_wantsOperand])), (q_draft, .inl (c 0, 50, .inl w_8)), (q_held, .inl (c 0, 50, .inl v_held))] := hD
    refine lv_iload_n hx hb dX3_follows_25 rfl (lv_at hl 1 rfl) ?_
    refine lv_bipush (v := 41) hx hb dX3_follows_26 (by decide) ?_
    refine lv_icmp_ne (tgt := 36) hx hb dX3_follows_28 (by decide) (fun c_9 => ?_) (fun c_9 => ?_)
    · have h := it_f c_9 h
      refine lv_iload_n hx hb dX3_follows_36 rfl (lv_at hl 1 rfl) ?_
      obtain ⟨r_11, hc_10, h⟩ := kb_ok h
      refine gCallI (isC := []) (wc := []) (w1 := []) hP hD hS hA rfl rfl (va_runS (rm := rm_X3_rankOf) (ws := wsX3_rankOf) (As := [.int a_1]) (rest := []) (gFix hF) (c_X3_rankOf l D c a_1 r_11 hc_10 H.size) (va_cwS 1 hts gX3_follows_X3_rankOf rfl rfl rfl (by decide +kernel) ⟨Nat.le_of_ble_eq_true rfl, Nat.le_of_ble_eq_true rfl⟩) (gPreS (wc := []) (isC := []) hK hX hS hA hP hD rfl (by decide)) rfl rfl hl.1 rfl (lv_room (Nat.le_of_ble_eq_true rfl)) dX3_follows_37 ⟨Nat.le_of_ble_eq_true rfl, Nat.le_of_ble_eq_true rfl⟩) (fun H locs hP hD hS => ?_)
      have hP : va_P D gcl [(q_this, .inr (3, [.ref q_names, .ref q_steps, .int v_length, .ref q_stack, .ref q_answers, .int v_side, .int v_round, .ref q_draft, .int w_5, .ref q_held, .int w_6, .int w_7, .int 0, .int v_wantsOperand])), (q_draft, .inl (c 0, 50, .inl w_8)), (q_held, .inl (c 0, 50, .inl v_held))] H := hP
      have hD : va_D A [(q_this, .inr (3, [.ref q_names, .ref q_steps, .int v_length, .ref q_stack, .ref q_answers, .int v_side, .int v_round, .ref q_draft, .int w_5, .ref q_held, .int w_6, .int w_7, .int 0, .int v_wantsOperand])), (q_draft, .inl (c 0, 50, .inl w_8)), (q_held, .inl (c 0, 50, .inl v_held))] := hD
      refine lv_istore_n (lv' := [(2, .int r_11), (0, .ref q_this), (1, .int a_1)]) hx hb dX3_follows_40 rfl hl (by decide) rfl (fun ls hl => ?_)
      refine lv_iload_n hx hb dX3_follows_41 rfl (lv_at hl 0 rfl) ?_
      refine lv_if_ne (tgt := 47) hx hb dX3_follows_42 (by decide) (fun c_12 => ?_) (fun c_12 => ?_)
      · have h := it_f c_12 h
        refine lv_aload_n hx hb dX3_follows_47 rfl (lv_at hl 1 rfl) ?_
        refine lv_iload_n hx hb dX3_follows_48 rfl (lv_at hl 0 rfl) ?_
        refine lv_iconst (v := 3) hx hb dX3_follows_49 (by decide) ?_
        refine lv_icmp_ne (tgt := 59) hx hb dX3_follows_50 (by decide) (fun c_13 => ?_) (fun c_13 => ?_)
        · have h := it_f c_13 h
          refine lv_iload_n hx hb dX3_follows_59 rfl (lv_at hl 0 rfl) ?_
          exact t_L60 r_11 r_11 w_5 w_6 w_7 0 v_wantsOperand w_8 v_held H locs hP hD hS ls (lv_sub hl [1, 2, 0] rfl) h
        · have h := it_t c_13 h
          refine lv_iload_n hx hb dX3_follows_53 rfl (lv_at hl 0 rfl) ?_
          refine lv_iconst (v := 1) hx hb dX3_follows_54 (by decide) ?_
          refine lv_iadd hx hb dX3_follows_55 ?_
          obtain ⟨t_14, et_14, h⟩ := nm_ok h
          refine gTop et_14 ?_
          refine lv_goto (tgt := 60) hx hb dX3_follows_56 (by decide) ?_
          exact t_L60 r_11 t_14 w_5 w_6 w_7 0 v_wantsOperand w_8 v_held H locs hP hD hS ls (lv_sub hl [1, 2, 0] rfl) h
      · have h := it_t c_12 h
        refine lv_iconst (v := 0) hx hb dX3_follows_45 (by decide) ?_
        cases h
        exact gIret hF hP hD hS rfl dX3_follows_46
    · have h := it_t c_9 h
      refine lv_aload_n hx hb dX3_follows_31 rfl (lv_at hl 0 rfl) ?_
      obtain ⟨r_16, w_17, w_18, w_19, w_20, hc_15, h⟩ := kb5_ok h
      refine gCallI (isC := [0, 1, 2]) (wc := [(q_this, .inr (3, [.ref q_names, .ref q_steps, .int v_length, .ref q_stack, .ref q_answers, .int v_side, .int v_round, .ref q_draft, .int w_5, .ref q_held, .int w_6, .int w_7, .int 0, .int v_wantsOperand])), (q_draft, .inl (c 0, 50, .inl w_8)), (q_held, .inl (c 0, 50, .inl v_held))]) (w1 := [(q_this, .inr (3, [.ref q_names, .ref q_steps, .int v_length, .ref q_stack, .ref q_answers, .int v_side, .int v_round, .ref q_draft, .int w_17, .ref q_held, .int w_18, .int w_19, .int 0, .int v_wantsOperand])), (q_draft, .inl (c 0, 50, .inl w_20)), (q_held, .inl (c 0, 50, .inl v_held))]) hP hD hS hA rfl rfl (va_runV (rm := rm_X3_closeParenthesis) (ws := wsX3_closeParenthesis) (As := []) (rest := []) (gFix hF) (c_X3_closeParenthesis l D c q_this q_names q_steps q_stack q_answers q_draft q_held v_length v_side v_round w_5 w_6 w_7 0 v_wantsOperand w_8 v_held r_16 w_17 w_18 w_19 w_20 hc_15 H.size) (cwV 0 hts gX3_follows_X3_closeParenthesis rfl rfl rfl (by decide +kernel) ⟨Nat.le_of_ble_eq_true rfl, Nat.le_of_ble_eq_true rfl⟩) (gPreV (wc := [(q_this, .inr (3, [.ref q_names, .ref q_steps, .int v_length, .ref q_stack, .ref q_answers, .int v_side, .int v_round, .ref q_draft, .int w_5, .ref q_held, .int w_6, .int w_7, .int 0, .int v_wantsOperand])), (q_draft, .inl (c 0, 50, .inl w_8)), (q_held, .inl (c 0, 50, .inl v_held))]) (q := (RX3, TX3, 14)) (ci := 3) (q0 := 0) (isC := [0, 1, 2]) hK hX hS hA hP hD rfl (by decide) rfl rfl) rfl rfl hl.1 rfl (lv_room (Nat.le_of_ble_eq_true rfl)) dX3_follows_32 ⟨Nat.le_of_ble_eq_true rfl, Nat.le_of_ble_eq_true rfl⟩) (fun H locs hP hD hS => ?_)
      have hP : va_P D gcl [(q_this, .inr (3, [.ref q_names, .ref q_steps, .int v_length, .ref q_stack, .ref q_answers, .int v_side, .int v_round, .ref q_draft, .int w_17, .ref q_held, .int w_18, .int w_19, .int 0, .int v_wantsOperand])), (q_draft, .inl (c 0, 50, .inl w_20)), (q_held, .inl (c 0, 50, .inl v_held))] H := hP
      have hD : va_D A [(q_this, .inr (3, [.ref q_names, .ref q_steps, .int v_length, .ref q_stack, .ref q_answers, .int v_side, .int v_round, .ref q_draft, .int w_17, .ref q_held, .int w_18, .int w_19, .int 0, .int v_wantsOperand])), (q_draft, .inl (c 0, 50, .inl w_20)), (q_held, .inl (c 0, 50, .inl v_held))] := hD
      obtain ⟨hz_21, h⟩ := chb_ok h
      cases h
      exact gIret hF hP hD hS (chb_n hz_21) dX3_follows_35
  · have h := it_f c_3 h
    refine lv_aload_n hx hb dX3_follows_7 rfl (lv_at hl 0 rfl) ?_
    refine lv_iload_n hx hb dX3_follows_8 rfl (lv_at hl 1 rfl) ?_
    refine lv_bipush (v := 48) hx hb dX3_follows_9 (by decide) ?_
    refine lv_isub hx hb dX3_follows_11 ?_
    obtain ⟨t_22, et_22, h⟩ := nm_ok h
    refine gTop et_22 ?_
    obtain ⟨r_24, w_25, w_26, hc_23, h⟩ := kb3_ok h
    refine gCallI (isC := [0, 1]) (wc := [(q_this, .inr (3, [.ref q_names, .ref q_steps, .int v_length, .ref q_stack, .ref q_answers, .int v_side, .int v_round, .ref q_draft, .int v_drafted, .ref q_held, .int v_holding, .int v_open, .int v_digits, .int v_wantsOperand])), (q_draft, .inl (c 0, 50, .inl v_draft))]) (w1 := [(q_this, .inr (3, [.ref q_names, .ref q_steps, .int v_length, .ref q_stack, .ref q_answers, .int v_side, .int v_round, .ref q_draft, .int v_drafted, .ref q_held, .int v_holding, .int v_open, .int w_25, .int v_wantsOperand])), (q_draft, .inl (c 0, 50, .inl w_26))]) hP hD hS hA rfl rfl (va_runV (rm := rm_X3_addDigit) (ws := wsX3_addDigit) (As := [.int t_22]) (rest := []) (gFix hF) (c_X3_addDigit l D c q_this q_names q_steps q_stack q_answers q_draft q_held t_22 v_length v_side v_round v_drafted v_holding v_open v_digits v_wantsOperand v_draft r_24 w_25 w_26 hc_23 H.size) (cwV 1 hts gX3_follows_X3_addDigit rfl rfl rfl (by decide +kernel) ⟨Nat.le_of_ble_eq_true rfl, Nat.le_of_ble_eq_true rfl⟩) (gPreV (wc := [(q_this, .inr (3, [.ref q_names, .ref q_steps, .int v_length, .ref q_stack, .ref q_answers, .int v_side, .int v_round, .ref q_draft, .int v_drafted, .ref q_held, .int v_holding, .int v_open, .int v_digits, .int v_wantsOperand])), (q_draft, .inl (c 0, 50, .inl v_draft))]) (q := (RX3, TX3, 14)) (ci := 3) (q0 := 0) (isC := [0, 1]) hK hX hS hA hP hD rfl (by decide) rfl rfl) rfl rfl hl.1 rfl (lv_room (Nat.le_of_ble_eq_true rfl)) dX3_follows_12 ⟨Nat.le_of_ble_eq_true rfl, Nat.le_of_ble_eq_true rfl⟩) (fun H locs hP hD hS => ?_)
    have hP : va_P D gcl [(q_this, .inr (3, [.ref q_names, .ref q_steps, .int v_length, .ref q_stack, .ref q_answers, .int v_side, .int v_round, .ref q_draft, .int v_drafted, .ref q_held, .int v_holding, .int v_open, .int w_25, .int v_wantsOperand])), (q_draft, .inl (c 0, 50, .inl w_26)), (q_held, .inl (c 0, 50, .inl v_held))] H := hP
    have hD : va_D A [(q_this, .inr (3, [.ref q_names, .ref q_steps, .int v_length, .ref q_stack, .ref q_answers, .int v_side, .int v_round, .ref q_draft, .int v_drafted, .ref q_held, .int v_holding, .int v_open, .int w_25, .int v_wantsOperand])), (q_draft, .inl (c 0, 50, .inl w_26)), (q_held, .inl (c 0, 50, .inl v_held))] := hD
    obtain ⟨hz_27, h⟩ := chb_ok h
    cases h
    exact gIret hF hP hD hS (chb_n hz_27) dX3_follows_15
