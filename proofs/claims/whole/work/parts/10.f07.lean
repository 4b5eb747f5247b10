set_option maxRecDepth 20000 in
theorem in_X11_check_X11 : ∀ w ∈ u_ws RX11 TX11 11, w ∈ wsX11_check := by decide +kernel
set_option maxRecDepth 20000 in
theorem in_X11_check_X7 : ∀ w ∈ u_ws RX7 TX7 11, w ∈ wsX11_check := by decide +kernel
def f_X11_check_L32 (v_now_told : Nat → Int32) : Nat → Int32 → Int32 → Int32 → Int32 → Int32 → Int32 → Int32 → Int32 → (Nat → Int32) → (Nat → Int32) → (Nat → Int32) → Option (Int32 × Int32 × Int32 × Int32 × Int32 × Int32 × Int32 × (Nat → Int32) × (Nat → Int32) × (Nat → Int32))
  | 0, _, _, _, _, _, _, _, _, _, _, _ => none
  | n + 1, x1, x2, v_now_waiting, v_thought_rows, v_thought_columns, v_thought_holes, v_thought_out, v_thought_night, v_thought_air, v_thought_open, v_thought_paste =>
    if x1 ≤ x2 then
      some (0, v_now_waiting, v_thought_rows, v_thought_columns, v_thought_holes, v_thought_out, v_thought_night, v_thought_air, v_thought_open, v_thought_paste)
    else
      if 20 ≤ x2 then
        some (0, v_now_waiting, v_thought_rows, v_thought_columns, v_thought_holes, v_thought_out, v_thought_night, v_thought_air, v_thought_open, v_thought_paste)
      else
        kb3 (f_X10_passNight v_thought_rows v_thought_columns v_thought_night v_thought_air v_thought_paste) fun w_13 w_14 w_15 =>
        chi x2 20 <|
        nm (v_now_told x2.toNatClampNeg : Int32) fun t_17 =>
        kb (f_X10_allAir v_thought_rows v_thought_columns w_14) fun r_19 =>
        if t_17 = r_19 then
          nm (x2 + 1 : Int32) fun t_21 =>
          f_X11_check_L32 v_now_told n x1 t_21 v_now_waiting v_thought_rows v_thought_columns v_thought_holes v_thought_out w_13 w_14 v_thought_open w_15
        else
          some (1 + x2, v_now_waiting, v_thought_rows, v_thought_columns, v_thought_holes, v_thought_out, w_13, w_14, v_thought_open, w_15)

def f_X11_check (v_now_waiting : Int32) (v_now_told : Nat → Int32) (v_now_wall_rows : Int32) (v_now_wall_columns : Int32) (v_now_wall_holes : Int32) (v_now_wall_out : Int32) (v_now_wall_night : Int32) (v_now_wall_air : Nat → Int32) (v_now_wall_open : Nat → Int32) (v_now_wall_paste : Nat → Int32) (v_thought_rows : Int32) (v_thought_columns : Int32) (v_thought_holes : Int32) (v_thought_out : Int32) (v_thought_night : Int32) (v_thought_air : Nat → Int32) (v_thought_open : Nat → Int32) (v_thought_paste : Nat → Int32) : Option (Int32 × Int32 × Int32 × Int32 × Int32 × Int32 × Int32 × (Nat → Int32) × (Nat → Int32) × (Nat → Int32)) :=
  kb8 (f_X10_copy v_thought_rows v_thought_columns v_thought_holes v_thought_out v_thought_night v_thought_air v_thought_open v_thought_paste v_now_wall_rows v_now_wall_columns v_now_wall_holes v_now_wall_out v_now_wall_night v_now_wall_air v_now_wall_open v_now_wall_paste) fun w_2 w_3 w_4 w_5 w_6 w_7 w_8 w_9 =>
  f_X11_check_L32 v_now_told gFuel v_now_waiting 0 0 w_2 w_3 w_4 w_5 w_6 w_7 w_8 w_9

abbrev rm_X11_check : Room := { frames := 3, cells := 0, slots := 0, locals := 102 }
set_option maxHeartbeats 4000000 in
set_option maxRecDepth 100000 in
theorem c_X11_check (l : Launch) (D : va_G) (c : Nat → ClassId) (q_this q_now q_kept q_kinds q_voice q_thought q_further q_errors q_sheetBits q_sheetLength q_numbers q_now_wall q_now_kind q_now_m q_now_tape q_now_moved q_now_seen q_now_told q_now_wall_air q_now_wall_paste q_now_wall_open q_now_wall_met q_now_wall_line q_thought_air q_thought_paste q_thought_open q_thought_met q_thought_line : Nat) (v_images : Int32) (v_now_tools : Int32) (v_now_tapeLength : Int32) (v_now_z : Int32) (v_now_waiting : Int32) (v_now_told : Nat → Int32) (v_now_wall_rows : Int32) (v_now_wall_columns : Int32) (v_now_wall_holes : Int32) (v_now_wall_out : Int32) (v_now_wall_night : Int32) (v_now_wall_inLine : Int32) (v_now_wall_air : Nat → Int32) (v_now_wall_open : Nat → Int32) (v_now_wall_paste : Nat → Int32) (v_thought_rows : Int32) (v_thought_columns : Int32) (v_thought_holes : Int32) (v_thought_out : Int32) (v_thought_night : Int32) (v_thought_inLine : Int32) (v_thought_air : Nat → Int32) (v_thought_open : Nat → Int32) (v_thought_paste : Nat → Int32) (o_r : Int32) (o_v_now_waiting : Int32) (o_v_thought_rows : Int32) (o_v_thought_columns : Int32) (o_v_thought_holes : Int32) (o_v_thought_out : Int32) (o_v_thought_night : Int32) (o_v_thought_air : Nat → Int32) (o_v_thought_open : Nat → Int32) (o_v_thought_paste : Nat → Int32) (h : f_X11_check v_now_waiting v_now_told v_now_wall_rows v_now_wall_columns v_now_wall_holes v_now_wall_out v_now_wall_night v_now_wall_air v_now_wall_open v_now_wall_paste v_thought_rows v_thought_columns v_thought_holes v_thought_out v_thought_night v_thought_air v_thought_open v_thought_paste = some (o_r, o_v_now_waiting, o_v_thought_rows, o_v_thought_columns, o_v_thought_holes, o_v_thought_out, o_v_thought_night, o_v_thought_air, o_v_thought_open, o_v_thought_paste)) : gMI l yX11_check wsX11_check rm_X11_check D c [.ref q_this] [(q_this, .inr (11, [.ref q_now, .ref q_kept, .int v_images, .ref q_kinds, .ref q_voice, .ref q_thought, .ref q_further, .ref q_errors, .ref q_sheetBits, .ref q_sheetLength, .ref q_numbers])), (q_now, .inr (7, [.ref q_now_wall, .int v_now_tools, .ref q_now_kind, .ref q_now_m, .ref q_now_tape, .int v_now_tapeLength, .ref q_now_moved, .ref q_now_seen, .int v_now_z, .ref q_now_told, .int v_now_waiting])), (q_now_told, .inl (c 0, 20, .inl v_now_told)), (q_now_wall, .inr (10, [.int v_now_wall_rows, .int v_now_wall_columns, .ref q_now_wall_air, .ref q_now_wall_paste, .ref q_now_wall_open, .int v_now_wall_holes, .int v_now_wall_out, .int v_now_wall_night, .ref q_now_wall_met, .ref q_now_wall_line, .int v_now_wall_inLine])), (q_now_wall_air, .inl (c 0, 25, .inl v_now_wall_air)), (q_now_wall_open, .inl (c 0, 4, .inl v_now_wall_open)), (q_now_wall_paste, .inl (c 0, 25, .inl v_now_wall_paste)), (q_thought, .inr (10, [.int v_thought_rows, .int v_thought_columns, .ref q_thought_air, .ref q_thought_paste, .ref q_thought_open, .int v_thought_holes, .int v_thought_out, .int v_thought_night, .ref q_thought_met, .ref q_thought_line, .int v_thought_inLine])), (q_thought_air, .inl (c 0, 25, .inl v_thought_air)), (q_thought_open, .inl (c 0, 4, .inl v_thought_open)), (q_thought_paste, .inl (c 0, 25, .inl v_thought_paste))] [(q_this, .inr (11, [.ref q_now, .ref q_kept, .int v_images, .ref q_kinds, .ref q_voice, .ref q_thought, .ref q_further, .ref q_errors, .ref q_sheetBits, .ref q_sheetLength, .ref q_numbers])), (q_now, .inr (7, [.ref q_now_wall, .int v_now_tools, .ref q_now_kind, .ref q_now_m, .ref q_now_tape, .int v_now_tapeLength, .ref q_now_moved, .ref q_now_seen, .int v_now_z, .ref q_now_told, .int o_v_now_waiting])), (q_now_told, .inl (c 0, 20, .inl v_now_told)), (q_now_wall, .inr (10, [.int v_now_wall_rows, .int v_now_wall_columns, .ref q_now_wall_air, .ref q_now_wall_paste, .ref q_now_wall_open, .int v_now_wall_holes, .int v_now_wall_out, .int v_now_wall_night, .ref q_now_wall_met, .ref q_now_wall_line, .int v_now_wall_inLine])), (q_now_wall_air, .inl (c 0, 25, .inl v_now_wall_air)), (q_now_wall_open, .inl (c 0, 4, .inl v_now_wall_open)), (q_now_wall_paste, .inl (c 0, 25, .inl v_now_wall_paste)), (q_thought, .inr (10, [.int o_v_thought_rows, .int o_v_thought_columns, .ref q_thought_air, .ref q_thought_paste, .ref q_thought_open, .int o_v_thought_holes, .int o_v_thought_out, .int o_v_thought_night, .ref q_thought_met, .ref q_thought_line, .int v_thought_inLine])), (q_thought_air, .inl (c 0, 25, .inl o_v_thought_air)), (q_thought_open, .inl (c 0, 4, .inl o_v_thought_open)), (q_thought_paste, .inl (c 0, 25, .inl o_v_thought_paste))] o_r := by
  refine gMI_of (cc := cX11_check) (maxL := 3) (rt := (some .int)) (by decide +kernel) rfl (Nat.le_of_ble_eq_true rfl) ?_
  intro p e s m below meth co A hF hK hX hP hD hA hS ls hl
  obtain ⟨hx, hb, hr, hts, hown, hlocks, hml⟩ := id hF
  have hl : lv_has ls 3 [(0, .ref q_this)] := hl
  have t_L32 : ∀ (n : Nat), ∀ (x1 : Int32) (x2 : Int32) (v_now_waiting : Int32) (v_thought_rows : Int32) (v_thought_columns : Int32) (v_thought_holes : Int32) (v_thought_out : Int32) (v_thought_night : Int32) (v_thought_air : Nat → Int32) (v_thought_open : Nat → Int32) (v_thought_paste : Nat → Int32) (H : Heap) (locs : List Loc), va_P D gcl [(q_this, .inr (11, [.ref q_now, .ref q_kept, .int v_images, .ref q_kinds, .ref q_voice, .ref q_thought, .ref q_further, .ref q_errors, .ref q_sheetBits, .ref q_sheetLength, .ref q_numbers])), (q_now, .inr (7, [.ref q_now_wall, .int v_now_tools, .ref q_now_kind, .ref q_now_m, .ref q_now_tape, .int v_now_tapeLength, .ref q_now_moved, .ref q_now_seen, .int v_now_z, .ref q_now_told, .int v_now_waiting])), (q_now_told, .inl (c 0, 20, .inl v_now_told)), (q_now_wall, .inr (10, [.int v_now_wall_rows, .int v_now_wall_columns, .ref q_now_wall_air, .ref q_now_wall_paste, .ref q_now_wall_open, .int v_now_wall_holes, .int v_now_wall_out, .int v_now_wall_night, .ref q_now_wall_met, .ref q_now_wall_line, .int v_now_wall_inLine])), (q_now_wall_air, .inl (c 0, 25, .inl v_now_wall_air)), (q_now_wall_open, .inl (c 0, 4, .inl v_now_wall_open)), (q_now_wall_paste, .inl (c 0, 25, .inl v_now_wall_paste)), (q_thought, .inr (10, [.int v_thought_rows, .int v_thought_columns, .ref q_thought_air, .ref q_thought_paste, .ref q_thought_open, .int v_thought_holes, .int v_thought_out, .int v_thought_night, .ref q_thought_met, .ref q_thought_line, .int v_thought_inLine])), (q_thought_air, .inl (c 0, 25, .inl v_thought_air)), (q_thought_open, .inl (c 0, 4, .inl v_thought_open)), (q_thought_paste, .inl (c 0, 25, .inl v_thought_paste))] H → va_D A [(q_this, .inr (11, [.ref q_now, .ref q_kept, .int v_images, .ref q_kinds, .ref q_voice, .ref q_thought, .ref q_further, .ref q_errors, .ref q_sheetBits, .ref q_sheetLength, .ref q_numbers])), (q_now, .inr (7, [.ref q_now_wall, .int v_now_tools, .ref q_now_kind, .ref q_now_m, .ref q_now_tape, .int v_now_tapeLength, .ref q_now_moved, .ref q_now_seen, .int v_now_z, .ref q_now_told, .int v_now_waiting])), (q_now_told, .inl (c 0, 20, .inl v_now_told)), (q_now_wall, .inr (10, [.int v_now_wall_rows, .int v_now_wall_columns, .ref q_now_wall_air, .ref q_now_wall_paste, .ref q_now_wall_open, .int v_now_wall_holes, .int v_now_wall_out, .int v_now_wall_night, .ref q_now_wall_met, .ref q_now_wall_line, .int v_now_wall_inLine])), (q_now_wall_air, .inl (c 0, 25, .inl v_now_wall_air)), (q_now_wall_open, .inl (c 0, 4, .inl v_now_wall_open)), (q_now_wall_paste, .inl (c 0, 25, .inl v_now_wall_paste)), (q_thought, .inr (10, [.int v_thought_rows, .int v_thought_columns, .ref q_thought_air, .ref q_thought_paste, .ref q_thought_open, .int v_thought_holes, .int v_thought_out, .int v_thought_night, .ref q_thought_met, .ref q_thought_line, .int v_thought_inLine])), (q_thought_air, .inl (c 0, 25, .inl v_thought_air)), (q_thought_open, .inl (c 0, 4, .inl v_thought_open)), (q_thought_paste, .inl (c 0, 25, .inl v_thought_paste))] → va_S A s.heap H locs → ∀ ls, lv_has ls 3 [(0, .ref q_this), (1, .int x1), (2, .int x2)] → f_X11_check_L32 v_now_told n x1 x2 v_now_waiting v_thought_rows v_thought_columns v_thought_holes v_thought_out v_thought_night v_thought_air v_thought_open v_thought_paste = some (o_r, o_v_now_waiting, o_v_thought_rows, o_v_thought_columns, o_v_thought_holes, o_v_thought_out, o_v_thought_night, o_v_thought_air, o_v_thought_open, o_v_thought_paste) → W p l e (headSpec wsX11_check rm_X11_check).room s m [.ref q_this].toArray below meth co H locs 0 0 (gQI D [(q_this, .inr (11, [.ref q_now, .ref q_kept, .int v_images, .ref q_kinds, .ref q_voice, .ref q_thought, .ref q_further, .ref q_errors, .ref q_sheetBits, .ref q_sheetLength, .ref q_numbers])), (q_now, .inr (7, [.ref q_now_wall, .int v_now_tools, .ref q_now_kind, .ref q_now_m, .ref q_now_tape, .int v_now_tapeLength, .ref q_now_moved, .ref q_now_seen, .int v_now_z, .ref q_now_told, .int o_v_now_waiting])), (q_now_told, .inl (c 0, 20, .inl v_now_told)), (q_now_wall, .inr (10, [.int v_now_wall_rows, .int v_now_wall_columns, .ref q_now_wall_air, .ref q_now_wall_paste, .ref q_now_wall_open, .int v_now_wall_holes, .int v_now_wall_out, .int v_now_wall_night, .ref q_now_wall_met, .ref q_now_wall_line, .int v_now_wall_inLine])), (q_now_wall_air, .inl (c 0, 25, .inl v_now_wall_air)), (q_now_wall_open, .inl (c 0, 4, .inl v_now_wall_open)), (q_now_wall_paste, .inl (c 0, 25, .inl v_now_wall_paste)), (q_thought, .inr (10, [.int o_v_thought_rows, .int o_v_thought_columns, .ref q_thought_air, .ref q_thought_paste, .ref q_thought_open, .int o_v_thought_holes, .int o_v_thought_out, .int o_v_thought_night, .ref q_thought_met, .ref q_thought_line, .int v_thought_inLine])), (q_thought_air, .inl (c 0, 25, .inl o_v_thought_air)), (q_thought_open, .inl (c 0, 4, .inl o_v_thought_open)), (q_thought_paste, .inl (c 0, 25, .inl o_v_thought_paste))] o_r A below [.ref q_this] s) (F0 m 32 ls []) := by
    intro n
    induction n with
    | zero => intro x1 x2 v_now_waiting v_thought_rows v_thought_columns v_thought_holes v_thought_out v_thought_night v_thought_air v_thought_open v_thought_paste H locs hP hD hS ls hl h; exact no_ok h
    | succ n ih =>
      intro x1 x2 v_now_waiting v_thought_rows v_thought_columns v_thought_holes v_thought_out v_thought_night v_thought_air v_thought_open v_thought_paste H locs hP hD hS ls hl h
      rw [f_X11_check_L32] at h
      refine lv_iload_n hx hb dX11_check_32 rfl (lv_at hl 2 rfl) ?_
      refine lv_iload_n hx hb dX11_check_33 rfl (lv_at hl 1 rfl) ?_
      refine lv_icmp_ge (tgt := 79) hx hb dX11_check_34 (by decide) (fun c_10 => ?_) (fun c_10 => ?_)
      · replace h := it_t c_10 h
        refine lv_iconst (v := 0) hx hb dX11_check_79 (by decide) ?_
        replace h := so10 h
        obtain ⟨z0, z1, z2, z3, z4, z5, z6, z7, z8, z9⟩ := h
        subst z0 z1 z2 z3 z4 z5 z6 z7 z8 z9
        exact gIret hF hP hD hS rfl dX11_check_80
      · replace h := it_f c_10 h
        refine lv_iload_n hx hb dX11_check_37 rfl (lv_at hl 2 rfl) ?_
        refine lv_bipush (v := 20) hx hb dX11_check_38 (by decide) ?_
        refine lv_icmp_ge (tgt := 79) hx hb dX11_check_40 (by decide) (fun c_11 => ?_) (fun c_11 => ?_)
        · replace h := it_t c_11 h
          refine lv_iconst (v := 0) hx hb dX11_check_79 (by decide) ?_
          replace h := so10 h
          obtain ⟨z0, z1, z2, z3, z4, z5, z6, z7, z8, z9⟩ := h
          subst z0 z1 z2 z3 z4 z5 z6 z7 z8 z9
          exact gIret hF hP hD hS rfl dX11_check_80
        · replace h := it_f c_11 h
          refine lv_aload_n hx hb dX11_check_43 rfl (lv_at hl 0 rfl) ?_
          refine va_get (D := D) (ci := 11) (v := .ref q_thought) (C := RX11) (T := TX11) (N := 11) hx hb hts in_X11_check_X11 hown hK.1 hP 0 rfl rfl 5 (by decide) (hts (.fieldLink RX11 56 "PaperBubbles" "thought" "LPaperBubbles$Wall;") (List.mem_of_getElem? (i := 2) rfl)) (fun _ h9 => h9) rfl dX11_check_44 ?_
          replace h := kb3_ok h
          obtain ⟨w_13, w_14, w_15, hc_12, h⟩ := h
          refine gCallV (isC := [7, 8, 10]) (wc := [(q_thought, .inr (10, [.int v_thought_rows, .int v_thought_columns, .ref q_thought_air, .ref q_thought_paste, .ref q_thought_open, .int v_thought_holes, .int v_thought_out, .int v_thought_night, .ref q_thought_met, .ref q_thought_line, .int v_thought_inLine])), (q_thought_air, .inl (c 0, 25, .inl v_thought_air)), (q_thought_paste, .inl (c 0, 25, .inl v_thought_paste))]) (w1 := [(q_thought, .inr (10, [.int v_thought_rows, .int v_thought_columns, .ref q_thought_air, .ref q_thought_paste, .ref q_thought_open, .int v_thought_holes, .int v_thought_out, .int w_13, .ref q_thought_met, .ref q_thought_line, .int v_thought_inLine])), (q_thought_air, .inl (c 0, 25, .inl w_14)), (q_thought_paste, .inl (c 0, 25, .inl w_15))]) (ws2 := [(q_this, .inr (11, [.ref q_now, .ref q_kept, .int v_images, .ref q_kinds, .ref q_voice, .ref q_thought, .ref q_further, .ref q_errors, .ref q_sheetBits, .ref q_sheetLength, .ref q_numbers])), (q_now, .inr (7, [.ref q_now_wall, .int v_now_tools, .ref q_now_kind, .ref q_now_m, .ref q_now_tape, .int v_now_tapeLength, .ref q_now_moved, .ref q_now_seen, .int v_now_z, .ref q_now_told, .int v_now_waiting])), (q_now_told, .inl (c 0, 20, .inl v_now_told)), (q_now_wall, .inr (10, [.int v_now_wall_rows, .int v_now_wall_columns, .ref q_now_wall_air, .ref q_now_wall_paste, .ref q_now_wall_open, .int v_now_wall_holes, .int v_now_wall_out, .int v_now_wall_night, .ref q_now_wall_met, .ref q_now_wall_line, .int v_now_wall_inLine])), (q_now_wall_air, .inl (c 0, 25, .inl v_now_wall_air)), (q_now_wall_open, .inl (c 0, 4, .inl v_now_wall_open)), (q_now_wall_paste, .inl (c 0, 25, .inl v_now_wall_paste)), (q_thought, .inr (10, [.int v_thought_rows, .int v_thought_columns, .ref q_thought_air, .ref q_thought_paste, .ref q_thought_open, .int v_thought_holes, .int v_thought_out, .int w_13, .ref q_thought_met, .ref q_thought_line, .int v_thought_inLine])), (q_thought_air, .inl (c 0, 25, .inl w_14)), (q_thought_open, .inl (c 0, 4, .inl v_thought_open)), (q_thought_paste, .inl (c 0, 25, .inl w_15))]) (ms := [none, none, none, none, none, none, none, (some 0), (some 1), none, (some 2)]) hP hD hS hA ⟨rfl, rfl, rfl, trivial⟩ (by decide +kernel) ⟨rfl, rfl, rfl, rfl, rfl, rfl, rfl, rfl, rfl, rfl, rfl, trivial⟩ (va_runV (rm := rm_X10_passNight) (ws := wsX10_passNight) (As := []) (rest := []) (gFix hF) (c_X10_passNight l D c q_thought q_thought_air q_thought_paste q_thought_open q_thought_met q_thought_line v_thought_rows v_thought_columns v_thought_holes v_thought_out v_thought_night v_thought_inLine v_thought_air v_thought_paste w_13 w_14 w_15 hc_12 H.size) (cwV 0 hts gX11_check_X10_passNight rfl rfl rfl (by decide +kernel) ⟨Nat.le_of_ble_eq_true rfl, Nat.le_of_ble_eq_true rfl⟩) (gPreV (wc := [(q_thought, .inr (10, [.int v_thought_rows, .int v_thought_columns, .ref q_thought_air, .ref q_thought_paste, .ref q_thought_open, .int v_thought_holes, .int v_thought_out, .int v_thought_night, .ref q_thought_met, .ref q_thought_line, .int v_thought_inLine])), (q_thought_air, .inl (c 0, 25, .inl v_thought_air)), (q_thought_paste, .inl (c 0, 25, .inl v_thought_paste))]) (q := (RX10, TX10, 11)) (ci := 10) (q0 := 7) (isC := [7, 8, 10]) hK hX hS hA hP hD ⟨rfl, rfl, rfl, trivial⟩ (by decide +kernel) rfl rfl) rfl rfl hl.1 rfl (lv_room (Nat.le_of_ble_eq_true rfl)) dX11_check_47 ⟨Nat.le_of_ble_eq_true rfl, Nat.le_of_ble_eq_true rfl⟩) (fun H locs hP hD hS => ?_)
          refine lv_aload_n hx hb dX11_check_50 rfl (lv_at hl 0 rfl) ?_
          refine va_get (D := D) (ci := 11) (v := .ref q_now) (C := RX11) (T := TX11) (N := 11) hx hb hts in_X11_check_X11 hown hK.1 hP 0 rfl rfl 0 (by decide) (hts (.fieldLink RX11 14 "PaperBubbles" "now" "LPaperBubbles$State;") (List.mem_of_getElem? (i := 1) rfl)) (fun _ h9 => h9) rfl dX11_check_51 ?_
          refine va_getN (D := D) (ci := 7) (v := .ref q_now_told) (C := RX7) (T := TX7) (N := 11) hx hb hts in_X11_check_X7 hown hK.1 hP 1 rfl rfl 9 (by decide) (va_Nw.use rfl (hK.2 (.fieldLinkNest "PaperBubbles" 309 "PaperBubbles$State" "told" "[I" "PaperBubbles") (List.mem_of_getElem? (i := 15) rfl))) (fun _ h9 => h9) rfl dX11_check_54 ?_
          refine lv_iload_n hx hb dX11_check_57 rfl (lv_at hl 2 rfl) ?_
          replace h := chi_ok h
          obtain ⟨hi_16, h⟩ := h
          refine va_iald hx hb hK.1 hP 2 0 rfl rfl hi_16 dX11_check_58 ?_
          replace h := nm_ok h
          obtain ⟨t_17, et_17, h⟩ := h
          refine gTop et_17 ?_
          refine lv_aload_n hx hb dX11_check_59 rfl (lv_at hl 0 rfl) ?_
          refine va_get (D := D) (ci := 11) (v := .ref q_thought) (C := RX11) (T := TX11) (N := 11) hx hb hts in_X11_check_X11 hown hK.1 hP 0 rfl rfl 5 (by decide) (hts (.fieldLink RX11 56 "PaperBubbles" "thought" "LPaperBubbles$Wall;") (List.mem_of_getElem? (i := 2) rfl)) (fun _ h9 => h9) rfl dX11_check_60 ?_
          replace h := kb_ok h
          obtain ⟨r_19, hc_18, h⟩ := h
          refine gCallIr (isC := [7, 8]) (wc := [(q_thought, .inr (10, [.int v_thought_rows, .int v_thought_columns, .ref q_thought_air, .ref q_thought_paste, .ref q_thought_open, .int v_thought_holes, .int v_thought_out, .int w_13, .ref q_thought_met, .ref q_thought_line, .int v_thought_inLine])), (q_thought_air, .inl (c 0, 25, .inl w_14))]) hP hD hS hA ⟨rfl, rfl, trivial⟩ (va_runV (rm := rm_X10_allAir) (ws := wsX10_allAir) (As := []) (rest := [.int t_17]) (gFix hF) (c_X10_allAir l D c q_thought q_thought_air q_thought_paste q_thought_open q_thought_met q_thought_line v_thought_rows v_thought_columns v_thought_holes v_thought_out w_13 v_thought_inLine w_14 r_19 hc_18 H.size) (cwV 0 hts gX11_check_X10_allAir rfl rfl rfl (by decide +kernel) ⟨Nat.le_of_ble_eq_true rfl, Nat.le_of_ble_eq_true rfl⟩) (gPreV (wc := [(q_thought, .inr (10, [.int v_thought_rows, .int v_thought_columns, .ref q_thought_air, .ref q_thought_paste, .ref q_thought_open, .int v_thought_holes, .int v_thought_out, .int w_13, .ref q_thought_met, .ref q_thought_line, .int v_thought_inLine])), (q_thought_air, .inl (c 0, 25, .inl w_14))]) (q := (RX10, TX10, 11)) (ci := 10) (q0 := 7) (isC := [7, 8]) hK hX hS hA hP hD ⟨rfl, rfl, trivial⟩ (by decide +kernel) rfl rfl) rfl rfl hl.1 rfl (lv_room (Nat.le_of_ble_eq_true rfl)) dX11_check_63 ⟨Nat.le_of_ble_eq_true rfl, Nat.le_of_ble_eq_true rfl⟩) (fun H locs hP hS => ?_)
          refine lv_icmp_eq (tgt := 73) hx hb dX11_check_66 (by decide) (fun c_20 => ?_) (fun c_20 => ?_)
          · replace h := it_t c_20 h
            replace h := nm_ok h
            obtain ⟨t_21, et_21, h⟩ := h
            refine lv_iinc (v := t_21) (lv' := [(2, .int t_21), (0, .ref q_this), (1, .int x1)]) hx hb dX11_check_73 hl (k := 2) rfl (by rw [et_21]; rfl) (by decide) rfl (fun ls hl => ?_)
            refine lv_goto (tgt := 32) hx hb dX11_check_76 (by decide) ?_
            exact ih x1 t_21 v_now_waiting v_thought_rows v_thought_columns v_thought_holes v_thought_out w_13 w_14 v_thought_open w_15 H locs hP hD hS ls (lv_sub hl [1, 2, 0] rfl) h
          · replace h := it_f c_20 h
            refine lv_iconst (v := 1) hx hb dX11_check_69 (by decide) ?_
            refine lv_iload_n hx hb dX11_check_70 rfl (lv_at hl 2 rfl) ?_
            refine lv_iadd hx hb dX11_check_71 ?_
            replace h := so10 h
            obtain ⟨z0, z1, z2, z3, z4, z5, z6, z7, z8, z9⟩ := h
            subst z0 z1 z2 z3 z4 z5 z6 z7 z8 z9
            exact gIret hF hP hD hS rfl dX11_check_72
  unfold f_X11_check at h
  refine lv_aload_n hx hb dX11_check_0 rfl (lv_at hl 0 rfl) ?_
  refine va_get (D := D) (ci := 11) (v := .ref q_now) (C := RX11) (T := TX11) (N := 11) hx hb hts in_X11_check_X11 hown hK.1 hP 0 rfl rfl 0 (by decide) (hts (.fieldLink RX11 14 "PaperBubbles" "now" "LPaperBubbles$State;") (List.mem_of_getElem? (i := 1) rfl)) (fun _ h9 => h9) rfl dX11_check_1 ?_
  refine va_getN (D := D) (ci := 7) (v := .int v_now_waiting) (C := RX7) (T := TX7) (N := 11) hx hb hts in_X11_check_X7 hown hK.1 hP 1 rfl rfl 10 (by decide) (va_Nw.use rfl (hK.2 (.fieldLinkNest "PaperBubbles" 306 "PaperBubbles$State" "waiting" "I" "PaperBubbles") (List.mem_of_getElem? (i := 14) rfl))) (fun _ h9 => h9) rfl dX11_check_4 ?_
  refine lv_istore_n (lv' := [(1, .int v_now_waiting), (0, .ref q_this)]) hx hb dX11_check_7 rfl hl (by decide) rfl (fun ls hl => ?_)
  refine lv_aload_n hx hb dX11_check_8 rfl (lv_at hl 1 rfl) ?_
  refine va_get (D := D) (ci := 11) (v := .ref q_now) (C := RX11) (T := TX11) (N := 11) hx hb hts in_X11_check_X11 hown hK.1 hP 0 rfl rfl 0 (by decide) (hts (.fieldLink RX11 14 "PaperBubbles" "now" "LPaperBubbles$State;") (List.mem_of_getElem? (i := 1) rfl)) (fun _ h9 => h9) rfl dX11_check_9 ?_
  refine lv_iconst (v := 0) hx hb dX11_check_12 (by decide) ?_
  refine va_putN (D := D) (ci := 7) (v := .int 0) (ty := .int) (C := RX7) (T := TX7) (N := 11) hx hb hts in_X11_check_X7 tyX7 tyX7_ok nmX7 hown hK.1 hP hD hS 1 rfl rfl 10 (by decide) (va_Nw.use rfl (hK.2 (.fieldLinkNest "PaperBubbles" 306 "PaperBubbles$State" "waiting" "I" "PaperBubbles") (List.mem_of_getElem? (i := 14) rfl))) (fun _ h9 => h9) rfl (by decide +kernel) rfl rfl (Nat.le_of_ble_eq_true rfl) dX11_check_13 (fun H locs hP hD hS => ?_)
  have hP : va_P D gcl [(q_this, .inr (11, [.ref q_now, .ref q_kept, .int v_images, .ref q_kinds, .ref q_voice, .ref q_thought, .ref q_further, .ref q_errors, .ref q_sheetBits, .ref q_sheetLength, .ref q_numbers])), (q_now, .inr (7, [.ref q_now_wall, .int v_now_tools, .ref q_now_kind, .ref q_now_m, .ref q_now_tape, .int v_now_tapeLength, .ref q_now_moved, .ref q_now_seen, .int v_now_z, .ref q_now_told, .int 0])), (q_now_told, .inl (c 0, 20, .inl v_now_told)), (q_now_wall, .inr (10, [.int v_now_wall_rows, .int v_now_wall_columns, .ref q_now_wall_air, .ref q_now_wall_paste, .ref q_now_wall_open, .int v_now_wall_holes, .int v_now_wall_out, .int v_now_wall_night, .ref q_now_wall_met, .ref q_now_wall_line, .int v_now_wall_inLine])), (q_now_wall_air, .inl (c 0, 25, .inl v_now_wall_air)), (q_now_wall_open, .inl (c 0, 4, .inl v_now_wall_open)), (q_now_wall_paste, .inl (c 0, 25, .inl v_now_wall_paste)), (q_thought, .inr (10, [.int v_thought_rows, .int v_thought_columns, .ref q_thought_air, .ref q_thought_paste, .ref q_thought_open, .int v_thought_holes, .int v_thought_out, .int v_thought_night, .ref q_thought_met, .ref q_thought_line, .int v_thought_inLine])), (q_thought_air, .inl (c 0, 25, .inl v_thought_air)), (q_thought_open, .inl (c 0, 4, .inl v_thought_open)), (q_thought_paste, .inl (c 0, 25, .inl v_thought_paste))] H := hP
  have hD : va_D A [(q_this, .inr (11, [.ref q_now, .ref q_kept, .int v_images, .ref q_kinds, .ref q_voice, .ref q_thought, .ref q_further, .ref q_errors, .ref q_sheetBits, .ref q_sheetLength, .ref q_numbers])), (q_now, .inr (7, [.ref q_now_wall, .int v_now_tools, .ref q_now_kind, .ref q_now_m, .ref q_now_tape, .int v_now_tapeLength, .ref q_now_moved, .ref q_now_seen, .int v_now_z, .ref q_now_told, .int 0])), (q_now_told, .inl (c 0, 20, .inl v_now_told)), (q_now_wall, .inr (10, [.int v_now_wall_rows, .int v_now_wall_columns, .ref q_now_wall_air, .ref q_now_wall_paste, .ref q_now_wall_open, .int v_now_wall_holes, .int v_now_wall_out, .int v_now_wall_night, .ref q_now_wall_met, .ref q_now_wall_line, .int v_now_wall_inLine])), (q_now_wall_air, .inl (c 0, 25, .inl v_now_wall_air)), (q_now_wall_open, .inl (c 0, 4, .inl v_now_wall_open)), (q_now_wall_paste, .inl (c 0, 25, .inl v_now_wall_paste)), (q_thought, .inr (10, [.int v_thought_rows, .int v_thought_columns, .ref q_thought_air, .ref q_thought_paste, .ref q_thought_open, .int v_thought_holes, .int v_thought_out, .int v_thought_night, .ref q_thought_met, .ref q_thought_line, .int v_thought_inLine])), (q_thought_air, .inl (c 0, 25, .inl v_thought_air)), (q_thought_open, .inl (c 0, 4, .inl v_thought_open)), (q_thought_paste, .inl (c 0, 25, .inl v_thought_paste))] := hD
  refine lv_aload_n hx hb dX11_check_16 rfl (lv_at hl 1 rfl) ?_
  refine va_get (D := D) (ci := 11) (v := .ref q_thought) (C := RX11) (T := TX11) (N := 11) hx hb hts in_X11_check_X11 hown hK.1 hP 0 rfl rfl 5 (by decide) (hts (.fieldLink RX11 56 "PaperBubbles" "thought" "LPaperBubbles$Wall;") (List.mem_of_getElem? (i := 2) rfl)) (fun _ h9 => h9) rfl dX11_check_17 ?_
  refine lv_aload_n hx hb dX11_check_20 rfl (lv_at hl 1 rfl) ?_
  refine va_get (D := D) (ci := 11) (v := .ref q_now) (C := RX11) (T := TX11) (N := 11) hx hb hts in_X11_check_X11 hown hK.1 hP 0 rfl rfl 0 (by decide) (hts (.fieldLink RX11 14 "PaperBubbles" "now" "LPaperBubbles$State;") (List.mem_of_getElem? (i := 1) rfl)) (fun _ h9 => h9) rfl dX11_check_21 ?_
  refine va_getN (D := D) (ci := 7) (v := .ref q_now_wall) (C := RX7) (T := TX7) (N := 11) hx hb hts in_X11_check_X7 hown hK.1 hP 1 rfl rfl 0 (by decide) (va_Nw.use rfl (hK.2 (.fieldLinkNest "PaperBubbles" 86 "PaperBubbles$State" "wall" "LPaperBubbles$Wall;" "PaperBubbles") (List.mem_of_getElem? (i := 18) rfl))) (fun _ h9 => h9) rfl dX11_check_24 ?_
  replace h := kb8_ok h
  obtain ⟨w_2, w_3, w_4, w_5, w_6, w_7, w_8, w_9, hc_1, h⟩ := h
  refine gCallV (isC := [7, 8, 9, 10, 3, 4, 5, 6]) (wc := [(q_thought, .inr (10, [.int v_thought_rows, .int v_thought_columns, .ref q_thought_air, .ref q_thought_paste, .ref q_thought_open, .int v_thought_holes, .int v_thought_out, .int v_thought_night, .ref q_thought_met, .ref q_thought_line, .int v_thought_inLine])), (q_thought_air, .inl (c 0, 25, .inl v_thought_air)), (q_thought_open, .inl (c 0, 4, .inl v_thought_open)), (q_thought_paste, .inl (c 0, 25, .inl v_thought_paste)), (q_now_wall, .inr (10, [.int v_now_wall_rows, .int v_now_wall_columns, .ref q_now_wall_air, .ref q_now_wall_paste, .ref q_now_wall_open, .int v_now_wall_holes, .int v_now_wall_out, .int v_now_wall_night, .ref q_now_wall_met, .ref q_now_wall_line, .int v_now_wall_inLine])), (q_now_wall_air, .inl (c 0, 25, .inl v_now_wall_air)), (q_now_wall_open, .inl (c 0, 4, .inl v_now_wall_open)), (q_now_wall_paste, .inl (c 0, 25, .inl v_now_wall_paste))]) (w1 := [(q_thought, .inr (10, [.int w_2, .int w_3, .ref q_thought_air, .ref q_thought_paste, .ref q_thought_open, .int w_4, .int w_5, .int w_6, .ref q_thought_met, .ref q_thought_line, .int v_thought_inLine])), (q_thought_air, .inl (c 0, 25, .inl w_7)), (q_thought_open, .inl (c 0, 4, .inl w_8)), (q_thought_paste, .inl (c 0, 25, .inl w_9)), (q_now_wall, .inr (10, [.int v_now_wall_rows, .int v_now_wall_columns, .ref q_now_wall_air, .ref q_now_wall_paste, .ref q_now_wall_open, .int v_now_wall_holes, .int v_now_wall_out, .int v_now_wall_night, .ref q_now_wall_met, .ref q_now_wall_line, .int v_now_wall_inLine])), (q_now_wall_air, .inl (c 0, 25, .inl v_now_wall_air)), (q_now_wall_open, .inl (c 0, 4, .inl v_now_wall_open)), (q_now_wall_paste, .inl (c 0, 25, .inl v_now_wall_paste))]) (ws2 := [(q_this, .inr (11, [.ref q_now, .ref q_kept, .int v_images, .ref q_kinds, .ref q_voice, .ref q_thought, .ref q_further, .ref q_errors, .ref q_sheetBits, .ref q_sheetLength, .ref q_numbers])), (q_now, .inr (7, [.ref q_now_wall, .int v_now_tools, .ref q_now_kind, .ref q_now_m, .ref q_now_tape, .int v_now_tapeLength, .ref q_now_moved, .ref q_now_seen, .int v_now_z, .ref q_now_told, .int 0])), (q_now_told, .inl (c 0, 20, .inl v_now_told)), (q_now_wall, .inr (10, [.int v_now_wall_rows, .int v_now_wall_columns, .ref q_now_wall_air, .ref q_now_wall_paste, .ref q_now_wall_open, .int v_now_wall_holes, .int v_now_wall_out, .int v_now_wall_night, .ref q_now_wall_met, .ref q_now_wall_line, .int v_now_wall_inLine])), (q_now_wall_air, .inl (c 0, 25, .inl v_now_wall_air)), (q_now_wall_open, .inl (c 0, 4, .inl v_now_wall_open)), (q_now_wall_paste, .inl (c 0, 25, .inl v_now_wall_paste)), (q_thought, .inr (10, [.int w_2, .int w_3, .ref q_thought_air, .ref q_thought_paste, .ref q_thought_open, .int w_4, .int w_5, .int w_6, .ref q_thought_met, .ref q_thought_line, .int v_thought_inLine])), (q_thought_air, .inl (c 0, 25, .inl w_7)), (q_thought_open, .inl (c 0, 4, .inl w_8)), (q_thought_paste, .inl (c 0, 25, .inl w_9))]) (ms := [none, none, none, (some 4), (some 5), (some 6), (some 7), (some 0), (some 1), (some 2), (some 3)]) hP hD hS hA ⟨rfl, rfl, rfl, rfl, rfl, rfl, rfl, rfl, trivial⟩ (by decide +kernel) ⟨rfl, rfl, rfl, rfl, rfl, rfl, rfl, rfl, rfl, rfl, rfl, trivial⟩ (va_runV (rm := rm_X10_copy) (ws := wsX10_copy) (As := [.ref q_now_wall]) (rest := []) (gFix hF) (c_X10_copy l D c q_thought q_now_wall q_thought_air q_thought_paste q_thought_open q_thought_met q_thought_line q_now_wall_air q_now_wall_paste q_now_wall_open q_now_wall_met q_now_wall_line v_thought_rows v_thought_columns v_thought_holes v_thought_out v_thought_night v_thought_inLine v_thought_air v_thought_open v_thought_paste v_now_wall_rows v_now_wall_columns v_now_wall_holes v_now_wall_out v_now_wall_night v_now_wall_inLine v_now_wall_air v_now_wall_open v_now_wall_paste w_2 w_3 w_4 w_5 w_6 w_7 w_8 w_9 hc_1 H.size) (cwV 1 hts gX11_check_X10_copy rfl rfl rfl (by decide +kernel) ⟨Nat.le_of_ble_eq_true rfl, Nat.le_of_ble_eq_true rfl⟩) (gPreV (wc := [(q_thought, .inr (10, [.int v_thought_rows, .int v_thought_columns, .ref q_thought_air, .ref q_thought_paste, .ref q_thought_open, .int v_thought_holes, .int v_thought_out, .int v_thought_night, .ref q_thought_met, .ref q_thought_line, .int v_thought_inLine])), (q_thought_air, .inl (c 0, 25, .inl v_thought_air)), (q_thought_open, .inl (c 0, 4, .inl v_thought_open)), (q_thought_paste, .inl (c 0, 25, .inl v_thought_paste)), (q_now_wall, .inr (10, [.int v_now_wall_rows, .int v_now_wall_columns, .ref q_now_wall_air, .ref q_now_wall_paste, .ref q_now_wall_open, .int v_now_wall_holes, .int v_now_wall_out, .int v_now_wall_night, .ref q_now_wall_met, .ref q_now_wall_line, .int v_now_wall_inLine])), (q_now_wall_air, .inl (c 0, 25, .inl v_now_wall_air)), (q_now_wall_open, .inl (c 0, 4, .inl v_now_wall_open)), (q_now_wall_paste, .inl (c 0, 25, .inl v_now_wall_paste))]) (q := (RX10, TX10, 11)) (ci := 10) (q0 := 7) (isC := [7, 8, 9, 10, 3, 4, 5, 6]) hK hX hS hA hP hD ⟨rfl, rfl, rfl, rfl, rfl, rfl, rfl, rfl, trivial⟩ (by decide +kernel) rfl rfl) rfl rfl hl.1 rfl (lv_room (Nat.le_of_ble_eq_true rfl)) dX11_check_27 ⟨Nat.le_of_ble_eq_true rfl, Nat.le_of_ble_eq_true rfl⟩) (fun H locs hP hD hS => ?_)
  refine lv_iconst (v := 0) hx hb dX11_check_30 (by decide) ?_
  refine lv_istore_n (lv' := [(2, .int 0), (1, .int v_now_waiting), (0, .ref q_this)]) hx hb dX11_check_31 rfl hl (by decide) rfl (fun ls hl => ?_)
  exact t_L32 gFuel v_now_waiting 0 0 w_2 w_3 w_4 w_5 w_6 w_7 w_8 w_9 H locs hP hD hS ls (lv_sub hl [2, 1, 0] rfl) h
set_option maxRecDepth 20000 in
theorem in_X11_count_X10 : ∀ w ∈ u_ws RX10 TX10 11, w ∈ wsX11_count := by decide +kernel
set_option maxRecDepth 20000 in
theorem in_X11_count_X11 : ∀ w ∈ u_ws RX11 TX11 11, w ∈ wsX11_count := by decide +kernel
set_option maxRecDepth 20000 in
theorem in_X11_count_X7 : ∀ w ∈ u_ws RX7 TX7 11, w ∈ wsX11_count := by decide +kernel
set_option maxRecDepth 20000 in
theorem in_X11_count_X9 : ∀ w ∈ u_ws RX9 TX9 4, w ∈ wsX11_count := by decide +kernel
def f_X11_count (a_1 : Int32) (v_errors : Nat → Int32) (v_now_tools : Int32) (v_now_tapeLength : Int32) (v_now_z : Int32) (v_now_waiting : Int32) (v_now_wall_rows : Int32) (v_now_wall_columns : Int32) (v_now_wall_holes : Int32) (v_now_wall_out : Int32) (v_now_wall_night : Int32) (v_now_wall_air : Nat → Int32) (v_now_wall_open : Nat → Int32) (v_voice_length : Int32) : Option (Int32 × (Nat → Int32)) :=
  if a_1 = 0 then
    kb (f_X10_cells v_now_wall_rows v_now_wall_columns) fun r_3 =>
    some (r_3, v_errors)
  else
    if a_1 = 1 then
      some (v_now_tools, v_errors)
    else
      if a_1 = 2 then
        kb (f_X10_allAir v_now_wall_rows v_now_wall_columns v_now_wall_air) fun r_7 =>
        some (r_7, v_errors)
      else
        if a_1 = 3 then
          some (v_now_wall_holes, v_errors)
        else
          if a_1 = 4 then
            some (v_now_wall_out, v_errors)
          else
            if a_1 = 5 then
              some (v_now_wall_night, v_errors)
            else
              if a_1 = 6 then
                kb (f_X10_cellsWithAir v_now_wall_rows v_now_wall_columns v_now_wall_air) fun r_13 =>
                some (r_13, v_errors)
              else
                if a_1 = 7 then
                  kb (f_X10_openBits v_now_wall_open) fun r_16 =>
                  some (r_16, v_errors)
                else
                  if a_1 = 8 then
                    some (v_now_tapeLength, v_errors)
                  else
                    if a_1 = 9 then
                      some (v_now_waiting, v_errors)
                    else
                      if a_1 = 10 then
                        some (v_voice_length, v_errors)
                      else
                        if a_1 = 11 then
                          some (v_now_z, v_errors)
                        else
                          kb2 (f_X11_error 1 v_errors) fun r_22 w_23 =>
                          some (r_22, w_23)

abbrev rm_X11_count : Room := { frames := 2, cells := 0, slots := 0, locals := 43 }
set_option maxHeartbeats 4000000 in
set_option maxRecDepth 100000 in
theorem c_X11_count (l : Launch) (D : va_G) (c : Nat → ClassId) (q_this q_now q_kept q_kinds q_voice q_thought q_further q_errors q_sheetBits q_sheetLength q_numbers q_now_wall q_now_kind q_now_m q_now_tape q_now_moved q_now_seen q_now_told q_now_wall_air q_now_wall_paste q_now_wall_open q_now_wall_met q_now_wall_line q_voice_bodies : Nat) (a_1 : Int32) (v_images : Int32) (v_errors : Nat → Int32) (v_now_tools : Int32) (v_now_tapeLength : Int32) (v_now_z : Int32) (v_now_waiting : Int32) (v_now_wall_rows : Int32) (v_now_wall_columns : Int32) (v_now_wall_holes : Int32) (v_now_wall_out : Int32) (v_now_wall_night : Int32) (v_now_wall_inLine : Int32) (v_now_wall_air : Nat → Int32) (v_now_wall_open : Nat → Int32) (v_voice_n : Int32) (v_voice_m : Int32) (v_voice_length : Int32) (o_r : Int32) (o_v_errors : Nat → Int32) (h : f_X11_count a_1 v_errors v_now_tools v_now_tapeLength v_now_z v_now_waiting v_now_wall_rows v_now_wall_columns v_now_wall_holes v_now_wall_out v_now_wall_night v_now_wall_air v_now_wall_open v_voice_length = some (o_r, o_v_errors)) : gMI l yX11_count wsX11_count rm_X11_count D c [.ref q_this, .int a_1] [(q_this, .inr (11, [.ref q_now, .ref q_kept, .int v_images, .ref q_kinds, .ref q_voice, .ref q_thought, .ref q_further, .ref q_errors, .ref q_sheetBits, .ref q_sheetLength, .ref q_numbers])), (q_errors, .inl (c 0, 6, .inl v_errors)), (q_now, .inr (7, [.ref q_now_wall, .int v_now_tools, .ref q_now_kind, .ref q_now_m, .ref q_now_tape, .int v_now_tapeLength, .ref q_now_moved, .ref q_now_seen, .int v_now_z, .ref q_now_told, .int v_now_waiting])), (q_now_wall, .inr (10, [.int v_now_wall_rows, .int v_now_wall_columns, .ref q_now_wall_air, .ref q_now_wall_paste, .ref q_now_wall_open, .int v_now_wall_holes, .int v_now_wall_out, .int v_now_wall_night, .ref q_now_wall_met, .ref q_now_wall_line, .int v_now_wall_inLine])), (q_now_wall_air, .inl (c 0, 25, .inl v_now_wall_air)), (q_now_wall_open, .inl (c 0, 4, .inl v_now_wall_open)), (q_voice, .inr (9, [.int v_voice_n, .int v_voice_m, .ref q_voice_bodies, .int v_voice_length]))] [(q_this, .inr (11, [.ref q_now, .ref q_kept, .int v_images, .ref q_kinds, .ref q_voice, .ref q_thought, .ref q_further, .ref q_errors, .ref q_sheetBits, .ref q_sheetLength, .ref q_numbers])), (q_errors, .inl (c 0, 6, .inl o_v_errors)), (q_now, .inr (7, [.ref q_now_wall, .int v_now_tools, .ref q_now_kind, .ref q_now_m, .ref q_now_tape, .int v_now_tapeLength, .ref q_now_moved, .ref q_now_seen, .int v_now_z, .ref q_now_told, .int v_now_waiting])), (q_now_wall, .inr (10, [.int v_now_wall_rows, .int v_now_wall_columns, .ref q_now_wall_air, .ref q_now_wall_paste, .ref q_now_wall_open, .int v_now_wall_holes, .int v_now_wall_out, .int v_now_wall_night, .ref q_now_wall_met, .ref q_now_wall_line, .int v_now_wall_inLine])), (q_now_wall_air, .inl (c 0, 25, .inl v_now_wall_air)), (q_now_wall_open, .inl (c 0, 4, .inl v_now_wall_open)), (q_voice, .inr (9, [.int v_voice_n, .int v_voice_m, .ref q_voice_bodies, .int v_voice_length]))] o_r := by
  refine gMI_of (cc := cX11_count) (maxL := 2) (rt := (some .int)) (by decide +kernel) rfl (Nat.le_of_ble_eq_true rfl) ?_
  intro p e s m below meth co A hF hK hX hP hD hA hS ls hl
  obtain ⟨hx, hb, hr, hts, hown, hlocks, hml⟩ := id hF
  have hl : lv_has ls 2 [(0, .ref q_this), (1, .int a_1)] := hl
  unfold f_X11_count at h
  refine lv_iload_n hx hb dX11_count_0 rfl (lv_at hl 1 rfl) ?_
  by_cases c_1 : a_1 = 0
  · replace h := it_t c_1 h
    refine lv_tableIn (x := a_1) (off := 63) (tgt := 64) hx hb dX11_count_1 (by rw [c_1]; decide) (by rw [c_1]; decide) (by rw [c_1]; rfl) (by decide) ?_
    refine lv_aload_n hx hb dX11_count_64 rfl (lv_at hl 0 rfl) ?_
    refine va_get (D := D) (ci := 11) (v := .ref q_now) (C := RX11) (T := TX11) (N := 11) hx hb hts in_X11_count_X11 hown hK.1 hP 0 rfl rfl 0 (by decide) (hts (.fieldLink RX11 14 "PaperBubbles" "now" "LPaperBubbles$State;") (List.mem_of_getElem? (i := 1) rfl)) (fun _ h9 => h9) rfl dX11_count_65 ?_
    refine va_getN (D := D) (ci := 7) (v := .ref q_now_wall) (C := RX7) (T := TX7) (N := 11) hx hb hts in_X11_count_X7 hown hK.1 hP 2 rfl rfl 0 (by decide) (va_Nw.use rfl (hK.2 (.fieldLinkNest "PaperBubbles" 86 "PaperBubbles$State" "wall" "LPaperBubbles$Wall;" "PaperBubbles") (List.mem_of_getElem? (i := 18) rfl))) (fun _ h9 => h9) rfl dX11_count_68 ?_
    replace h := kb_ok h
    obtain ⟨r_3, hc_2, h⟩ := h
    refine gCallIr (isC := [3]) (wc := [(q_now_wall, .inr (10, [.int v_now_wall_rows, .int v_now_wall_columns, .ref q_now_wall_air, .ref q_now_wall_paste, .ref q_now_wall_open, .int v_now_wall_holes, .int v_now_wall_out, .int v_now_wall_night, .ref q_now_wall_met, .ref q_now_wall_line, .int v_now_wall_inLine]))]) hP hD hS hA ⟨rfl, trivial⟩ (va_runV (rm := rm_X10_cells) (ws := wsX10_cells) (As := []) (rest := []) (gFix hF) (c_X10_cells l D c q_now_wall q_now_wall_air q_now_wall_paste q_now_wall_open q_now_wall_met q_now_wall_line v_now_wall_rows v_now_wall_columns v_now_wall_holes v_now_wall_out v_now_wall_night v_now_wall_inLine r_3 hc_2 s.heap.size) (cwV 0 hts gX11_count_X10_cells rfl rfl rfl (by decide +kernel) ⟨Nat.le_of_ble_eq_true rfl, Nat.le_of_ble_eq_true rfl⟩) (gPreV (wc := [(q_now_wall, .inr (10, [.int v_now_wall_rows, .int v_now_wall_columns, .ref q_now_wall_air, .ref q_now_wall_paste, .ref q_now_wall_open, .int v_now_wall_holes, .int v_now_wall_out, .int v_now_wall_night, .ref q_now_wall_met, .ref q_now_wall_line, .int v_now_wall_inLine]))]) (q := (RX10, TX10, 11)) (ci := 10) (q0 := 3) (isC := [3]) hK hX hS hA hP hD ⟨rfl, trivial⟩ (by decide +kernel) rfl rfl) rfl rfl hl.1 rfl (lv_room (Nat.le_of_ble_eq_true rfl)) dX11_count_71 ⟨Nat.le_of_ble_eq_true rfl, Nat.le_of_ble_eq_true rfl⟩) (fun H locs hP hS => ?_)
    replace h := so2 h
    obtain ⟨z0, z1⟩ := h
    subst z0 z1
    exact gIret hF hP hD hS rfl dX11_count_74
  · replace h := it_f c_1 h
    by_cases c_4 : a_1 = 1
    · replace h := it_t c_4 h
      refine lv_tableIn (x := a_1) (off := 74) (tgt := 75) hx hb dX11_count_1 (by rw [c_4]; decide) (by rw [c_4]; decide) (by rw [c_4]; rfl) (by decide) ?_
      refine lv_aload_n hx hb dX11_count_75 rfl (lv_at hl 0 rfl) ?_
      refine va_get (D := D) (ci := 11) (v := .ref q_now) (C := RX11) (T := TX11) (N := 11) hx hb hts in_X11_count_X11 hown hK.1 hP 0 rfl rfl 0 (by decide) (hts (.fieldLink RX11 14 "PaperBubbles" "now" "LPaperBubbles$State;") (List.mem_of_getElem? (i := 1) rfl)) (fun _ h9 => h9) rfl dX11_count_76 ?_
      refine va_getN (D := D) (ci := 7) (v := .int v_now_tools) (C := RX7) (T := TX7) (N := 11) hx hb hts in_X11_count_X7 hown hK.1 hP 2 rfl rfl 1 (by decide) (va_Nw.use rfl (hK.2 (.fieldLinkNest "PaperBubbles" 132 "PaperBubbles$State" "tools" "I" "PaperBubbles") (List.mem_of_getElem? (i := 4) rfl))) (fun _ h9 => h9) rfl dX11_count_79 ?_
      replace h := so2 h
      obtain ⟨z0, z1⟩ := h
      subst z0 z1
      exact gIret hF hP hD hS rfl dX11_count_82
    · replace h := it_f c_4 h
      by_cases c_5 : a_1 = 2
      · replace h := it_t c_5 h
        refine lv_tableIn (x := a_1) (off := 82) (tgt := 83) hx hb dX11_count_1 (by rw [c_5]; decide) (by rw [c_5]; decide) (by rw [c_5]; rfl) (by decide) ?_
        refine lv_aload_n hx hb dX11_count_83 rfl (lv_at hl 0 rfl) ?_
        refine va_get (D := D) (ci := 11) (v := .ref q_now) (C := RX11) (T := TX11) (N := 11) hx hb hts in_X11_count_X11 hown hK.1 hP 0 rfl rfl 0 (by decide) (hts (.fieldLink RX11 14 "PaperBubbles" "now" "LPaperBubbles$State;") (List.mem_of_getElem? (i := 1) rfl)) (fun _ h9 => h9) rfl dX11_count_84 ?_
        refine va_getN (D := D) (ci := 7) (v := .ref q_now_wall) (C := RX7) (T := TX7) (N := 11) hx hb hts in_X11_count_X7 hown hK.1 hP 2 rfl rfl 0 (by decide) (va_Nw.use rfl (hK.2 (.fieldLinkNest "PaperBubbles" 86 "PaperBubbles$State" "wall" "LPaperBubbles$Wall;" "PaperBubbles") (List.mem_of_getElem? (i := 18) rfl))) (fun _ h9 => h9) rfl dX11_count_87 ?_
        replace h := kb_ok h
        obtain ⟨r_7, hc_6, h⟩ := h
        refine gCallIr (isC := [3, 4]) (wc := [(q_now_wall, .inr (10, [.int v_now_wall_rows, .int v_now_wall_columns, .ref q_now_wall_air, .ref q_now_wall_paste, .ref q_now_wall_open, .int v_now_wall_holes, .int v_now_wall_out, .int v_now_wall_night, .ref q_now_wall_met, .ref q_now_wall_line, .int v_now_wall_inLine])), (q_now_wall_air, .inl (c 0, 25, .inl v_now_wall_air))]) hP hD hS hA ⟨rfl, rfl, trivial⟩ (va_runV (rm := rm_X10_allAir) (ws := wsX10_allAir) (As := []) (rest := []) (gFix hF) (c_X10_allAir l D c q_now_wall q_now_wall_air q_now_wall_paste q_now_wall_open q_now_wall_met q_now_wall_line v_now_wall_rows v_now_wall_columns v_now_wall_holes v_now_wall_out v_now_wall_night v_now_wall_inLine v_now_wall_air r_7 hc_6 s.heap.size) (cwV 0 hts gX11_count_X10_allAir rfl rfl rfl (by decide +kernel) ⟨Nat.le_of_ble_eq_true rfl, Nat.le_of_ble_eq_true rfl⟩) (gPreV (wc := [(q_now_wall, .inr (10, [.int v_now_wall_rows, .int v_now_wall_columns, .ref q_now_wall_air, .ref q_now_wall_paste, .ref q_now_wall_open, .int v_now_wall_holes, .int v_now_wall_out, .int v_now_wall_night, .ref q_now_wall_met, .ref q_now_wall_line, .int v_now_wall_inLine])), (q_now_wall_air, .inl (c 0, 25, .inl v_now_wall_air))]) (q := (RX10, TX10, 11)) (ci := 10) (q0 := 3) (isC := [3, 4]) hK hX hS hA hP hD ⟨rfl, rfl, trivial⟩ (by decide +kernel) rfl rfl) rfl rfl hl.1 rfl (lv_room (Nat.le_of_ble_eq_true rfl)) dX11_count_90 ⟨Nat.le_of_ble_eq_true rfl, Nat.le_of_ble_eq_true rfl⟩) (fun H locs hP hS => ?_)
        replace h := so2 h
        obtain ⟨z0, z1⟩ := h
        subst z0 z1
        exact gIret hF hP hD hS rfl dX11_count_93
      · replace h := it_f c_5 h
        by_cases c_8 : a_1 = 3
        · replace h := it_t c_8 h
          refine lv_tableIn (x := a_1) (off := 93) (tgt := 94) hx hb dX11_count_1 (by rw [c_8]; decide) (by rw [c_8]; decide) (by rw [c_8]; rfl) (by decide) ?_
          refine lv_aload_n hx hb dX11_count_94 rfl (lv_at hl 0 rfl) ?_
          refine va_get (D := D) (ci := 11) (v := .ref q_now) (C := RX11) (T := TX11) (N := 11) hx hb hts in_X11_count_X11 hown hK.1 hP 0 rfl rfl 0 (by decide) (hts (.fieldLink RX11 14 "PaperBubbles" "now" "LPaperBubbles$State;") (List.mem_of_getElem? (i := 1) rfl)) (fun _ h9 => h9) rfl dX11_count_95 ?_
          refine va_getN (D := D) (ci := 7) (v := .ref q_now_wall) (C := RX7) (T := TX7) (N := 11) hx hb hts in_X11_count_X7 hown hK.1 hP 2 rfl rfl 0 (by decide) (va_Nw.use rfl (hK.2 (.fieldLinkNest "PaperBubbles" 86 "PaperBubbles$State" "wall" "LPaperBubbles$Wall;" "PaperBubbles") (List.mem_of_getElem? (i := 18) rfl))) (fun _ h9 => h9) rfl dX11_count_98 ?_
          refine va_getN (D := D) (ci := 10) (v := .int v_now_wall_holes) (C := RX10) (T := TX10) (N := 11) hx hb hts in_X11_count_X10 hown hK.1 hP 3 rfl rfl 5 (by decide) (va_Nw.use rfl (hK.2 (.fieldLinkNest "PaperBubbles" 312 "PaperBubbles$Wall" "holes" "I" "PaperBubbles") (List.mem_of_getElem? (i := 16) rfl))) (fun _ h9 => h9) rfl dX11_count_101 ?_
          replace h := so2 h
          obtain ⟨z0, z1⟩ := h
          subst z0 z1
          exact gIret hF hP hD hS rfl dX11_count_104
        · replace h := it_f c_8 h
          by_cases c_9 : a_1 = 4
          · replace h := it_t c_9 h
            refine lv_tableIn (x := a_1) (off := 104) (tgt := 105) hx hb dX11_count_1 (by rw [c_9]; decide) (by rw [c_9]; decide) (by rw [c_9]; rfl) (by decide) ?_
            refine lv_aload_n hx hb dX11_count_105 rfl (lv_at hl 0 rfl) ?_
            refine va_get (D := D) (ci := 11) (v := .ref q_now) (C := RX11) (T := TX11) (N := 11) hx hb hts in_X11_count_X11 hown hK.1 hP 0 rfl rfl 0 (by decide) (hts (.fieldLink RX11 14 "PaperBubbles" "now" "LPaperBubbles$State;") (List.mem_of_getElem? (i := 1) rfl)) (fun _ h9 => h9) rfl dX11_count_106 ?_
            refine va_getN (D := D) (ci := 7) (v := .ref q_now_wall) (C := RX7) (T := TX7) (N := 11) hx hb hts in_X11_count_X7 hown hK.1 hP 2 rfl rfl 0 (by decide) (va_Nw.use rfl (hK.2 (.fieldLinkNest "PaperBubbles" 86 "PaperBubbles$State" "wall" "LPaperBubbles$Wall;" "PaperBubbles") (List.mem_of_getElem? (i := 18) rfl))) (fun _ h9 => h9) rfl dX11_count_109 ?_
            refine va_getN (D := D) (ci := 10) (v := .int v_now_wall_out) (C := RX10) (T := TX10) (N := 11) hx hb hts in_X11_count_X10 hown hK.1 hP 3 rfl rfl 6 (by decide) (va_Nw.use rfl (hK.2 (.fieldLinkNest "PaperBubbles" 315 "PaperBubbles$Wall" "out" "I" "PaperBubbles") (List.mem_of_getElem? (i := 17) rfl))) (fun _ h9 => h9) rfl dX11_count_112 ?_
            replace h := so2 h
            obtain ⟨z0, z1⟩ := h
            subst z0 z1
            exact gIret hF hP hD hS rfl dX11_count_115
          · replace h := it_f c_9 h
            by_cases c_10 : a_1 = 5
            · replace h := it_t c_10 h
              refine lv_tableIn (x := a_1) (off := 115) (tgt := 116) hx hb dX11_count_1 (by rw [c_10]; decide) (by rw [c_10]; decide) (by rw [c_10]; rfl) (by decide) ?_
              refine lv_aload_n hx hb dX11_count_116 rfl (lv_at hl 0 rfl) ?_
              refine va_get (D := D) (ci := 11) (v := .ref q_now) (C := RX11) (T := TX11) (N := 11) hx hb hts in_X11_count_X11 hown hK.1 hP 0 rfl rfl 0 (by decide) (hts (.fieldLink RX11 14 "PaperBubbles" "now" "LPaperBubbles$State;") (List.mem_of_getElem? (i := 1) rfl)) (fun _ h9 => h9) rfl dX11_count_117 ?_
              refine va_getN (D := D) (ci := 7) (v := .ref q_now_wall) (C := RX7) (T := TX7) (N := 11) hx hb hts in_X11_count_X7 hown hK.1 hP 2 rfl rfl 0 (by decide) (va_Nw.use rfl (hK.2 (.fieldLinkNest "PaperBubbles" 86 "PaperBubbles$State" "wall" "LPaperBubbles$Wall;" "PaperBubbles") (List.mem_of_getElem? (i := 18) rfl))) (fun _ h9 => h9) rfl dX11_count_120 ?_
              refine va_getN (D := D) (ci := 10) (v := .int v_now_wall_night) (C := RX10) (T := TX10) (N := 11) hx hb hts in_X11_count_X10 hown hK.1 hP 3 rfl rfl 7 (by decide) (va_Nw.use rfl (hK.2 (.fieldLinkNest "PaperBubbles" 198 "PaperBubbles$Wall" "night" "I" "PaperBubbles") (List.mem_of_getElem? (i := 10) rfl))) (fun _ h9 => h9) rfl dX11_count_123 ?_
              replace h := so2 h
              obtain ⟨z0, z1⟩ := h
              subst z0 z1
              exact gIret hF hP hD hS rfl dX11_count_126
            · replace h := it_f c_10 h
              by_cases c_11 : a_1 = 6
              · replace h := it_t c_11 h
                refine lv_tableIn (x := a_1) (off := 126) (tgt := 127) hx hb dX11_count_1 (by rw [c_11]; decide) (by rw [c_11]; decide) (by rw [c_11]; rfl) (by decide) ?_
                refine lv_aload_n hx hb dX11_count_127 rfl (lv_at hl 0 rfl) ?_
                refine va_get (D := D) (ci := 11) (v := .ref q_now) (C := RX11) (T := TX11) (N := 11) hx hb hts in_X11_count_X11 hown hK.1 hP 0 rfl rfl 0 (by decide) (hts (.fieldLink RX11 14 "PaperBubbles" "now" "LPaperBubbles$State;") (List.mem_of_getElem? (i := 1) rfl)) (fun _ h9 => h9) rfl dX11_count_128 ?_
                refine va_getN (D := D) (ci := 7) (v := .ref q_now_wall) (C := RX7) (T := TX7) (N := 11) hx hb hts in_X11_count_X7 hown hK.1 hP 2 rfl rfl 0 (by decide) (va_Nw.use rfl (hK.2 (.fieldLinkNest "PaperBubbles" 86 "PaperBubbles$State" "wall" "LPaperBubbles$Wall;" "PaperBubbles") (List.mem_of_getElem? (i := 18) rfl))) (fun _ h9 => h9) rfl dX11_count_131 ?_
                replace h := kb_ok h
                obtain ⟨r_13, hc_12, h⟩ := h
                refine gCallIr (isC := [3, 4]) (wc := [(q_now_wall, .inr (10, [.int v_now_wall_rows, .int v_now_wall_columns, .ref q_now_wall_air, .ref q_now_wall_paste, .ref q_now_wall_open, .int v_now_wall_holes, .int v_now_wall_out, .int v_now_wall_night, .ref q_now_wall_met, .ref q_now_wall_line, .int v_now_wall_inLine])), (q_now_wall_air, .inl (c 0, 25, .inl v_now_wall_air))]) hP hD hS hA ⟨rfl, rfl, trivial⟩ (va_runV (rm := rm_X10_cellsWithAir) (ws := wsX10_cellsWithAir) (As := []) (rest := []) (gFix hF) (c_X10_cellsWithAir l D c q_now_wall q_now_wall_air q_now_wall_paste q_now_wall_open q_now_wall_met q_now_wall_line v_now_wall_rows v_now_wall_columns v_now_wall_holes v_now_wall_out v_now_wall_night v_now_wall_inLine v_now_wall_air r_13 hc_12 s.heap.size) (cwV 0 hts gX11_count_X10_cellsWithAir rfl rfl rfl (by decide +kernel) ⟨Nat.le_of_ble_eq_true rfl, Nat.le_of_ble_eq_true rfl⟩) (gPreV (wc := [(q_now_wall, .inr (10, [.int v_now_wall_rows, .int v_now_wall_columns, .ref q_now_wall_air, .ref q_now_wall_paste, .ref q_now_wall_open, .int v_now_wall_holes, .int v_now_wall_out, .int v_now_wall_night, .ref q_now_wall_met, .ref q_now_wall_line, .int v_now_wall_inLine])), (q_now_wall_air, .inl (c 0, 25, .inl v_now_wall_air))]) (q := (RX10, TX10, 11)) (ci := 10) (q0 := 3) (isC := [3, 4]) hK hX hS hA hP hD ⟨rfl, rfl, trivial⟩ (by decide +kernel) rfl rfl) rfl rfl hl.1 rfl (lv_room (Nat.le_of_ble_eq_true rfl)) dX11_count_134 ⟨Nat.le_of_ble_eq_true rfl, Nat.le_of_ble_eq_true rfl⟩) (fun H locs hP hS => ?_)
                replace h := so2 h
                obtain ⟨z0, z1⟩ := h
                subst z0 z1
                exact gIret hF hP hD hS rfl dX11_count_137
              · replace h := it_f c_11 h
                by_cases c_14 : a_1 = 7
                · replace h := it_t c_14 h
                  refine lv_tableIn (x := a_1) (off := 137) (tgt := 138) hx hb dX11_count_1 (by rw [c_14]; decide) (by rw [c_14]; decide) (by rw [c_14]; rfl) (by decide) ?_
                  refine lv_aload_n hx hb dX11_count_138 rfl (lv_at hl 0 rfl) ?_
                  refine va_get (D := D) (ci := 11) (v := .ref q_now) (C := RX11) (T := TX11) (N := 11) hx hb hts in_X11_count_X11 hown hK.1 hP 0 rfl rfl 0 (by decide) (hts (.fieldLink RX11 14 "PaperBubbles" "now" "LPaperBubbles$State;") (List.mem_of_getElem? (i := 1) rfl)) (fun _ h9 => h9) rfl dX11_count_139 ?_
                  refine va_getN (D := D) (ci := 7) (v := .ref q_now_wall) (C := RX7) (T := TX7) (N := 11) hx hb hts in_X11_count_X7 hown hK.1 hP 2 rfl rfl 0 (by decide) (va_Nw.use rfl (hK.2 (.fieldLinkNest "PaperBubbles" 86 "PaperBubbles$State" "wall" "LPaperBubbles$Wall;" "PaperBubbles") (List.mem_of_getElem? (i := 18) rfl))) (fun _ h9 => h9) rfl dX11_count_142 ?_
                  replace h := kb_ok h
                  obtain ⟨r_16, hc_15, h⟩ := h
                  refine gCallIr (isC := [3, 5]) (wc := [(q_now_wall, .inr (10, [.int v_now_wall_rows, .int v_now_wall_columns, .ref q_now_wall_air, .ref q_now_wall_paste, .ref q_now_wall_open, .int v_now_wall_holes, .int v_now_wall_out, .int v_now_wall_night, .ref q_now_wall_met, .ref q_now_wall_line, .int v_now_wall_inLine])), (q_now_wall_open, .inl (c 0, 4, .inl v_now_wall_open))]) hP hD hS hA ⟨rfl, rfl, trivial⟩ (va_runV (rm := rm_X10_openBits) (ws := wsX10_openBits) (As := []) (rest := []) (gFix hF) (c_X10_openBits l D c q_now_wall q_now_wall_air q_now_wall_paste q_now_wall_open q_now_wall_met q_now_wall_line v_now_wall_rows v_now_wall_columns v_now_wall_holes v_now_wall_out v_now_wall_night v_now_wall_inLine v_now_wall_open r_16 hc_15 s.heap.size) (cwV 0 hts gX11_count_X10_openBits rfl rfl rfl (by decide +kernel) ⟨Nat.le_of_ble_eq_true rfl, Nat.le_of_ble_eq_true rfl⟩) (gPreV (wc := [(q_now_wall, .inr (10, [.int v_now_wall_rows, .int v_now_wall_columns, .ref q_now_wall_air, .ref q_now_wall_paste, .ref q_now_wall_open, .int v_now_wall_holes, .int v_now_wall_out, .int v_now_wall_night, .ref q_now_wall_met, .ref q_now_wall_line, .int v_now_wall_inLine])), (q_now_wall_open, .inl (c 0, 4, .inl v_now_wall_open))]) (q := (RX10, TX10, 11)) (ci := 10) (q0 := 3) (isC := [3, 5]) hK hX hS hA hP hD ⟨rfl, rfl, trivial⟩ (by decide +kernel) rfl rfl) rfl rfl hl.1 rfl (lv_room (Nat.le_of_ble_eq_true rfl)) dX11_count_145 ⟨Nat.le_of_ble_eq_true rfl, Nat.le_of_ble_eq_true rfl⟩) (fun H locs hP hS => ?_)
                  replace h := so2 h
                  obtain ⟨z0, z1⟩ := h
                  subst z0 z1
                  exact gIret hF hP hD hS rfl dX11_count_148
                · replace h := it_f c_14 h
                  by_cases c_17 : a_1 = 8
                  · replace h := it_t c_17 h
                    refine lv_tableIn (x := a_1) (off := 148) (tgt := 149) hx hb dX11_count_1 (by rw [c_17]; decide) (by rw [c_17]; decide) (by rw [c_17]; rfl) (by decide) ?_
                    refine lv_aload_n hx hb dX11_count_149 rfl (lv_at hl 0 rfl) ?_
                    refine va_get (D := D) (ci := 11) (v := .ref q_now) (C := RX11) (T := TX11) (N := 11) hx hb hts in_X11_count_X11 hown hK.1 hP 0 rfl rfl 0 (by decide) (hts (.fieldLink RX11 14 "PaperBubbles" "now" "LPaperBubbles$State;") (List.mem_of_getElem? (i := 1) rfl)) (fun _ h9 => h9) rfl dX11_count_150 ?_
                    refine va_getN (D := D) (ci := 7) (v := .int v_now_tapeLength) (C := RX7) (T := TX7) (N := 11) hx hb hts in_X11_count_X7 hown hK.1 hP 2 rfl rfl 5 (by decide) (va_Nw.use rfl (hK.2 (.fieldLinkNest "PaperBubbles" 173 "PaperBubbles$State" "tapeLength" "I" "PaperBubbles") (List.mem_of_getElem? (i := 8) rfl))) (fun _ h9 => h9) rfl dX11_count_153 ?_
                    replace h := so2 h
                    obtain ⟨z0, z1⟩ := h
                    subst z0 z1
                    exact gIret hF hP hD hS rfl dX11_count_156
                  · replace h := it_f c_17 h
                    by_cases c_18 : a_1 = 9
                    · replace h := it_t c_18 h
                      refine lv_tableIn (x := a_1) (off := 156) (tgt := 157) hx hb dX11_count_1 (by rw [c_18]; decide) (by rw [c_18]; decide) (by rw [c_18]; rfl) (by decide) ?_
                      refine lv_aload_n hx hb dX11_count_157 rfl (lv_at hl 0 rfl) ?_
                      refine va_get (D := D) (ci := 11) (v := .ref q_now) (C := RX11) (T := TX11) (N := 11) hx hb hts in_X11_count_X11 hown hK.1 hP 0 rfl rfl 0 (by decide) (hts (.fieldLink RX11 14 "PaperBubbles" "now" "LPaperBubbles$State;") (List.mem_of_getElem? (i := 1) rfl)) (fun _ h9 => h9) rfl dX11_count_158 ?_
                      refine va_getN (D := D) (ci := 7) (v := .int v_now_waiting) (C := RX7) (T := TX7) (N := 11) hx hb hts in_X11_count_X7 hown hK.1 hP 2 rfl rfl 10 (by decide) (va_Nw.use rfl (hK.2 (.fieldLinkNest "PaperBubbles" 306 "PaperBubbles$State" "waiting" "I" "PaperBubbles") (List.mem_of_getElem? (i := 14) rfl))) (fun _ h9 => h9) rfl dX11_count_161 ?_
                      replace h := so2 h
                      obtain ⟨z0, z1⟩ := h
                      subst z0 z1
                      exact gIret hF hP hD hS rfl dX11_count_164
                    · replace h := it_f c_18 h
                      by_cases c_19 : a_1 = 10
                      · replace h := it_t c_19 h
                        refine lv_tableIn (x := a_1) (off := 164) (tgt := 165) hx hb dX11_count_1 (by rw [c_19]; decide) (by rw [c_19]; decide) (by rw [c_19]; rfl) (by decide) ?_
                        refine lv_aload_n hx hb dX11_count_165 rfl (lv_at hl 0 rfl) ?_
                        refine va_get (D := D) (ci := 11) (v := .ref q_voice) (C := RX11) (T := TX11) (N := 11) hx hb hts in_X11_count_X11 hown hK.1 hP 0 rfl rfl 4 (by decide) (hts (.fieldLink RX11 49 "PaperBubbles" "voice" "LPaperBubbles$Voice;") (List.mem_of_getElem? (i := 2) rfl)) (fun _ h9 => h9) rfl dX11_count_166 ?_
                        refine va_getN (D := D) (ci := 9) (v := .int v_voice_length) (C := RX9) (T := TX9) (N := 4) hx hb hts in_X11_count_X9 hown hK.1 hP 6 rfl rfl 3 (by decide) (va_Nw.use rfl (hK.2 (.fieldLinkNest "PaperBubbles" 279 "PaperBubbles$Voice" "length" "I" "PaperBubbles") (List.mem_of_getElem? (i := 12) rfl))) (fun _ h9 => h9) rfl dX11_count_169 ?_
                        replace h := so2 h
                        obtain ⟨z0, z1⟩ := h
                        subst z0 z1
                        exact gIret hF hP hD hS rfl dX11_count_172
                      · replace h := it_f c_19 h
                        by_cases c_20 : a_1 = 11
                        · replace h := it_t c_20 h
                          refine lv_tableIn (x := a_1) (off := 172) (tgt := 173) hx hb dX11_count_1 (by rw [c_20]; decide) (by rw [c_20]; decide) (by rw [c_20]; rfl) (by decide) ?_
                          refine lv_aload_n hx hb dX11_count_173 rfl (lv_at hl 0 rfl) ?_
                          refine va_get (D := D) (ci := 11) (v := .ref q_now) (C := RX11) (T := TX11) (N := 11) hx hb hts in_X11_count_X11 hown hK.1 hP 0 rfl rfl 0 (by decide) (hts (.fieldLink RX11 14 "PaperBubbles" "now" "LPaperBubbles$State;") (List.mem_of_getElem? (i := 1) rfl)) (fun _ h9 => h9) rfl dX11_count_174 ?_
                          refine va_getN (D := D) (ci := 7) (v := .int v_now_z) (C := RX7) (T := TX7) (N := 11) hx hb hts in_X11_count_X7 hown hK.1 hP 2 rfl rfl 8 (by decide) (va_Nw.use rfl (hK.2 (.fieldLinkNest "PaperBubbles" 260 "PaperBubbles$State" "z" "I" "PaperBubbles") (List.mem_of_getElem? (i := 11) rfl))) (fun _ h9 => h9) rfl dX11_count_177 ?_
                          replace h := so2 h
                          obtain ⟨z0, z1⟩ := h
                          subst z0 z1
                          exact gIret hF hP hD hS rfl dX11_count_180
                        · replace h := it_f c_20 h
                          refine lv_tableOut (x := a_1) (tgt := 181) hx hb dX11_count_1 (by have q0 := gNe (z := 0) (by decide) c_1; have q1 := gNe (z := 1) (by decide) c_4; have q2 := gNe (z := 2) (by decide) c_5; have q3 := gNe (z := 3) (by decide) c_8; have q4 := gNe (z := 4) (by decide) c_9; have q5 := gNe (z := 5) (by decide) c_10; have q6 := gNe (z := 6) (by decide) c_11; have q7 := gNe (z := 7) (by decide) c_14; have q8 := gNe (z := 8) (by decide) c_17; have q9 := gNe (z := 9) (by decide) c_18; have q10 := gNe (z := 10) (by decide) c_19; have q11 := gNe (z := 11) (by decide) c_20; omega) (by decide) ?_
                          refine lv_aload_n hx hb dX11_count_181 rfl (lv_at hl 0 rfl) ?_
                          refine lv_iconst (v := 1) hx hb dX11_count_182 (by decide) ?_
                          replace h := kb2_ok h
                          obtain ⟨r_22, w_23, hc_21, h⟩ := h
                          refine gCallI (isC := [0, 1]) (wc := [(q_this, .inr (11, [.ref q_now, .ref q_kept, .int v_images, .ref q_kinds, .ref q_voice, .ref q_thought, .ref q_further, .ref q_errors, .ref q_sheetBits, .ref q_sheetLength, .ref q_numbers])), (q_errors, .inl (c 0, 6, .inl v_errors))]) (w1 := [(q_this, .inr (11, [.ref q_now, .ref q_kept, .int v_images, .ref q_kinds, .ref q_voice, .ref q_thought, .ref q_further, .ref q_errors, .ref q_sheetBits, .ref q_sheetLength, .ref q_numbers])), (q_errors, .inl (c 0, 6, .inl w_23))]) (ws2 := [(q_this, .inr (11, [.ref q_now, .ref q_kept, .int v_images, .ref q_kinds, .ref q_voice, .ref q_thought, .ref q_further, .ref q_errors, .ref q_sheetBits, .ref q_sheetLength, .ref q_numbers])), (q_errors, .inl (c 0, 6, .inl w_23)), (q_now, .inr (7, [.ref q_now_wall, .int v_now_tools, .ref q_now_kind, .ref q_now_m, .ref q_now_tape, .int v_now_tapeLength, .ref q_now_moved, .ref q_now_seen, .int v_now_z, .ref q_now_told, .int v_now_waiting])), (q_now_wall, .inr (10, [.int v_now_wall_rows, .int v_now_wall_columns, .ref q_now_wall_air, .ref q_now_wall_paste, .ref q_now_wall_open, .int v_now_wall_holes, .int v_now_wall_out, .int v_now_wall_night, .ref q_now_wall_met, .ref q_now_wall_line, .int v_now_wall_inLine])), (q_now_wall_air, .inl (c 0, 25, .inl v_now_wall_air)), (q_now_wall_open, .inl (c 0, 4, .inl v_now_wall_open)), (q_voice, .inr (9, [.int v_voice_n, .int v_voice_m, .ref q_voice_bodies, .int v_voice_length]))]) (ms := [(some 0), (some 1), none, none, none, none, none]) hP hD hS hA ⟨rfl, rfl, trivial⟩ (by decide +kernel) ⟨rfl, rfl, rfl, rfl, rfl, rfl, rfl, trivial⟩ (va_runV (rm := rm_X11_error) (ws := wsX11_error) (As := [.int 1]) (rest := []) (gFix hF) (c_X11_error l D c q_this q_now q_kept q_kinds q_voice q_thought q_further q_errors q_sheetBits q_sheetLength q_numbers 1 v_images v_errors r_22 w_23 hc_21 s.heap.size) (cwV 1 hts gX11_count_X11_error rfl rfl rfl (by decide +kernel) ⟨Nat.le_of_ble_eq_true rfl, Nat.le_of_ble_eq_true rfl⟩) (gPreV (wc := [(q_this, .inr (11, [.ref q_now, .ref q_kept, .int v_images, .ref q_kinds, .ref q_voice, .ref q_thought, .ref q_further, .ref q_errors, .ref q_sheetBits, .ref q_sheetLength, .ref q_numbers])), (q_errors, .inl (c 0, 6, .inl v_errors))]) (q := (RX11, TX11, 11)) (ci := 11) (q0 := 0) (isC := [0, 1]) hK hX hS hA hP hD ⟨rfl, rfl, trivial⟩ (by decide +kernel) rfl rfl) rfl rfl hl.1 rfl (lv_room (Nat.le_of_ble_eq_true rfl)) dX11_count_183 ⟨Nat.le_of_ble_eq_true rfl, Nat.le_of_ble_eq_true rfl⟩) (fun H locs hP hD hS => ?_)
                          replace h := so2 h
                          obtain ⟨z0, z1⟩ := h
                          subst z0 z1
                          exact gIret hF hP hD hS rfl dX11_count_186
set_option maxRecDepth 20000 in
theorem in_X7_draw_X7 : ∀ w ∈ u_ws RX7 TX7 11, w ∈ wsX7_draw := by decide +kernel
def f_X7_draw (a_1 : Int32) (v_z : Int32) : Option (Int32 × Int32) :=
  nm (v_z * 1103515245 : Int32) fun t_1 =>
  nm (t_1 + 12345 : Int32) fun t_2 =>
  if a_1 ≤ 0 then
    some (0, t_2)
  else
    nm ((t_2.toUInt32 >>> (Int32.toUInt32 8 &&& Int32.toUInt32 31)).toInt32 : Int32) fun t_4 =>
    chz a_1 <|
    nm (t_4 - t_4 / a_1 * a_1 : Int32) fun t_6 =>
    some (t_6, t_2)

abbrev rm_X7_draw : Room := { frames := 0, cells := 0, slots := 0, locals := 0 }
set_option maxHeartbeats 4000000 in
set_option maxRecDepth 100000 in
theorem c_X7_draw (l : Launch) (D : va_G) (c : Nat → ClassId) (q_this q_wall q_kind q_m q_tape q_moved q_seen q_told : Nat) (a_1 : Int32) (v_tools : Int32) (v_tapeLength : Int32) (v_z : Int32) (v_waiting : Int32) (o_r : Int32) (o_v_z : Int32) (h : f_X7_draw a_1 v_z = some (o_r, o_v_z)) : gMI l yX7_draw wsX7_draw rm_X7_draw D c [.ref q_this, .int a_1] [(q_this, .inr (7, [.ref q_wall, .int v_tools, .ref q_kind, .ref q_m, .ref q_tape, .int v_tapeLength, .ref q_moved, .ref q_seen, .int v_z, .ref q_told, .int v_waiting]))] [(q_this, .inr (7, [.ref q_wall, .int v_tools, .ref q_kind, .ref q_m, .ref q_tape, .int v_tapeLength, .ref q_moved, .ref q_seen, .int o_v_z, .ref q_told, .int v_waiting]))] o_r := by
  refine gMI_of (cc := cX7_draw) (maxL := 2) (rt := (some .int)) (by decide +kernel) rfl (Nat.le_of_ble_eq_true rfl) ?_
  intro p e s m below meth co A hF hK hX hP hD hA hS ls hl
  obtain ⟨hx, hb, hr, hts, hown, hlocks, hml⟩ := id hF
  have hl : lv_has ls 2 [(0, .ref q_this), (1, .int a_1)] := hl
  unfold f_X7_draw at h
  refine lv_aload_n hx hb dX7_draw_0 rfl (lv_at hl 0 rfl) ?_
  refine lv_aload_n hx hb dX7_draw_1 rfl (lv_at hl 0 rfl) ?_
  refine va_get (D := D) (ci := 7) (v := .int v_z) (C := RX7) (T := TX7) (N := 11) hx hb hts in_X7_draw_X7 hown hK.1 hP 0 rfl rfl 8 (by decide) (hts (.fieldLink RX7 28 "PaperBubbles$State" "z" "I") (List.mem_of_getElem? (i := 1) rfl)) (fun _ h9 => h9) rfl dX7_draw_2 ?_
  refine lv_ldc (v := 1103515245) hx hb hown (hts (.constant RX7 73 (1103515245)) (List.mem_of_getElem? (i := 2) rfl)) dX7_draw_5 ?_
  refine lv_imul hx hb dX7_draw_7 ?_
  replace h := nm_ok h
  obtain ⟨t_1, et_1, h⟩ := h
  refine gTop et_1 ?_
  refine lv_sipush (v := 12345) hx hb dX7_draw_8 (by decide) ?_
  refine lv_iadd hx hb dX7_draw_11 ?_
  replace h := nm_ok h
  obtain ⟨t_2, et_2, h⟩ := h
  refine gTop et_2 ?_
  refine va_put (D := D) (ci := 7) (v := .int t_2) (ty := .int) (C := RX7) (T := TX7) (N := 11) hx hb hts in_X7_draw_X7 tyX7 tyX7_ok nmX7 hown hK.1 hP hD hS 0 rfl rfl 8 (by decide) (hts (.fieldLink RX7 28 "PaperBubbles$State" "z" "I") (List.mem_of_getElem? (i := 1) rfl)) (fun _ h9 => h9) rfl (by decide +kernel) rfl rfl (Nat.le_of_ble_eq_true rfl) dX7_draw_12 (fun H locs hP hD hS => ?_)
  have hP : va_P D gcl [(q_this, .inr (7, [.ref q_wall, .int v_tools, .ref q_kind, .ref q_m, .ref q_tape, .int v_tapeLength, .ref q_moved, .ref q_seen, .int t_2, .ref q_told, .int v_waiting]))] H := hP
  have hD : va_D A [(q_this, .inr (7, [.ref q_wall, .int v_tools, .ref q_kind, .ref q_m, .ref q_tape, .int v_tapeLength, .ref q_moved, .ref q_seen, .int t_2, .ref q_told, .int v_waiting]))] := hD
  refine lv_iload_n hx hb dX7_draw_15 rfl (lv_at hl 1 rfl) ?_
  refine lv_if_le (tgt := 31) hx hb dX7_draw_16 (by decide) (fun c_3 => ?_) (fun c_3 => ?_)
  · replace h := it_t c_3 h
    refine lv_iconst (v := 0) hx hb dX7_draw_31 (by decide) ?_
    replace h := so2 h
    obtain ⟨z0, z1⟩ := h
    subst z0 z1
    exact gIret hF hP hD hS rfl dX7_draw_32
  · replace h := it_f c_3 h
    refine lv_aload_n hx hb dX7_draw_19 rfl (lv_at hl 0 rfl) ?_
    refine va_get (D := D) (ci := 7) (v := .int t_2) (C := RX7) (T := TX7) (N := 11) hx hb hts in_X7_draw_X7 hown hK.1 hP 0 rfl rfl 8 (by decide) (hts (.fieldLink RX7 28 "PaperBubbles$State" "z" "I") (List.mem_of_getElem? (i := 1) rfl)) (fun _ h9 => h9) rfl dX7_draw_20 ?_
    refine lv_bipush (v := 8) hx hb dX7_draw_23 (by decide) ?_
    refine lv_iushr hx hb dX7_draw_25 rfl ?_
    replace h := nm_ok h
    obtain ⟨t_4, et_4, h⟩ := h
    refine gTop et_4 ?_
    refine lv_iload_n hx hb dX7_draw_26 rfl (lv_at hl 1 rfl) ?_
    replace h := chz_ok h
    obtain ⟨hz_5, h⟩ := h
    refine lv_irem hx hb dX7_draw_27 hz_5 ?_
    replace h := nm_ok h
    obtain ⟨t_6, et_6, h⟩ := h
    refine gTop et_6 ?_
    refine lv_goto (tgt := 32) hx hb dX7_draw_28 (by decide) ?_
    replace h := so2 h
    obtain ⟨z0, z1⟩ := h
    subst z0 z1
    exact gIret hF hP hD hS rfl dX7_draw_32
set_option maxRecDepth 20000 in
theorem in_X11_days_X10 : ∀ w ∈ u_ws RX10 TX10 11, w ∈ wsX11_days := by decide +kernel
set_option maxRecDepth 20000 in
theorem in_X11_days_X11 : ∀ w ∈ u_ws RX11 TX11 11, w ∈ wsX11_days := by decide +kernel
set_option maxRecDepth 20000 in
theorem in_X11_days_X7 : ∀ w ∈ u_ws RX7 TX7 11, w ∈ wsX11_days := by decide +kernel
def f_X11_days_L44 (v_errors : Nat → Int32) (v_now_z : Int32) (v_now_moved_answers : Nat → Int32) (v_now_moved_stack : Nat → Int32) (v_now_wall_holes : Int32) (v_now_wall_out : Int32) (v_now_wall_night : Int32) (v_now_wall_air : Nat → Int32) (v_now_wall_paste : Nat → Int32) : Option (Int32 × (Nat → Int32) × Int32 × (Nat → Int32) × (Nat → Int32) × Int32 × Int32 × Int32 × (Nat → Int32) × (Nat → Int32)) :=
  kb2 (f_X11_error 3 v_errors) fun r_10 w_11 =>
  some (r_10, w_11, v_now_z, v_now_moved_answers, v_now_moved_stack, v_now_wall_holes, v_now_wall_out, v_now_wall_night, v_now_wall_air, v_now_wall_paste)

def f_X11_days_L52 (a_1 : Int32) (n_now_moved_answers : Nat) (v_now_tools : Int32) (v_now_kind : Nat → Int32) (v_now_m : Nat → Int32) (v_now_moved_length : Int32) (v_now_moved_side : Int32) (v_now_moved_round : Int32) (v_now_moved_steps : Nat → Int32) (v_now_wall_rows : Int32) (v_now_wall_columns : Int32) (v_now_wall_open : Nat → Int32) : Nat → Int32 → (Nat → Int32) → Int32 → (Nat → Int32) → (Nat → Int32) → Int32 → Int32 → Int32 → (Nat → Int32) → (Nat → Int32) → Option (Int32 × (Nat → Int32) × Int32 × (Nat → Int32) × (Nat → Int32) × Int32 × Int32 × Int32 × (Nat → Int32) × (Nat → Int32))
  | 0, _, _, _, _, _, _, _, _, _, _ => none
  | n + 1, x2, v_errors, v_now_z, v_now_moved_answers, v_now_moved_stack, v_now_wall_holes, v_now_wall_out, v_now_wall_night, v_now_wall_air, v_now_wall_paste =>
    if a_1 ≤ x2 then
      kb (f_X10_allAir v_now_wall_rows v_now_wall_columns v_now_wall_air) fun r_14 =>
      some (r_14, v_errors, v_now_z, v_now_moved_answers, v_now_moved_stack, v_now_wall_holes, v_now_wall_out, v_now_wall_night, v_now_wall_air, v_now_wall_paste)
    else
      kb2 (f_X7_draw v_now_tools v_now_z) fun r_16 w_17 =>
      kb (f_X10_cells v_now_wall_rows v_now_wall_columns) fun r_19 =>
      kb2 (f_X7_draw r_19 w_17) fun r_21 w_22 =>
      kb2 (f_X7_draw 4 w_22) fun r_24 w_25 =>
      kb (f_X11_kindOf r_16 v_now_tools v_now_kind) fun r_27 =>
      chi r_16 6 <|
      nm (v_now_m r_16.toNatClampNeg : Int32) fun t_29 =>
      kb5 (f_X10_strike t_29 r_21 r_24 r_27 n_now_moved_answers v_now_wall_rows v_now_wall_columns v_now_wall_holes v_now_wall_out v_now_wall_air v_now_wall_open v_now_wall_paste v_now_moved_length v_now_moved_side v_now_moved_round v_now_moved_answers v_now_moved_stack v_now_moved_steps) fun w_31 w_32 w_33 w_34 w_35 =>
      kb3 (f_X10_passNight v_now_wall_rows v_now_wall_columns v_now_wall_night w_33 v_now_wall_paste) fun w_37 w_38 w_39 =>
      nm (x2 + 1 : Int32) fun t_40 =>
      f_X11_days_L52 a_1 n_now_moved_answers v_now_tools v_now_kind v_now_m v_now_moved_length v_now_moved_side v_now_moved_round v_now_moved_steps v_now_wall_rows v_now_wall_columns v_now_wall_open n t_40 v_errors w_25 w_34 w_35 w_31 w_32 w_37 w_38 w_39

def f_X11_days (a_1 : Int32) (n_now_moved_answers : Nat) (v_errors : Nat → Int32) (v_now_tools : Int32) (v_now_z : Int32) (v_now_kind : Nat → Int32) (v_now_m : Nat → Int32) (v_now_moved_length : Int32) (v_now_moved_side : Int32) (v_now_moved_round : Int32) (v_now_moved_answers : Nat → Int32) (v_now_moved_stack : Nat → Int32) (v_now_moved_steps : Nat → Int32) (v_now_wall_rows : Int32) (v_now_wall_columns : Int32) (v_now_wall_holes : Int32) (v_now_wall_out : Int32) (v_now_wall_night : Int32) (v_now_wall_air : Nat → Int32) (v_now_wall_open : Nat → Int32) (v_now_wall_paste : Nat → Int32) : Option (Int32 × (Nat → Int32) × Int32 × (Nat → Int32) × (Nat → Int32) × Int32 × Int32 × Int32 × (Nat → Int32) × (Nat → Int32)) :=
  kb (f_X11_within a_1 1 30) fun r_2 =>
  if r_2 = 0 then
    kb2 (f_X11_error 1 v_errors) fun r_7 w_8 =>
    some (r_7, w_8, v_now_z, v_now_moved_answers, v_now_moved_stack, v_now_wall_holes, v_now_wall_out, v_now_wall_night, v_now_wall_air, v_now_wall_paste)
  else
    if (999 - a_1) < v_now_wall_night then
      f_X11_days_L44 v_errors v_now_z v_now_moved_answers v_now_moved_stack v_now_wall_holes v_now_wall_out v_now_wall_night v_now_wall_air v_now_wall_paste
    else
      if v_now_tools = 0 then
        f_X11_days_L44 v_errors v_now_z v_now_moved_answers v_now_moved_stack v_now_wall_holes v_now_wall_out v_now_wall_night v_now_wall_air v_now_wall_paste
      else
        f_X11_days_L52 a_1 n_now_moved_answers v_now_tools v_now_kind v_now_m v_now_moved_length v_now_moved_side v_now_moved_round v_now_moved_steps v_now_wall_rows v_now_wall_columns v_now_wall_open gFuel 0 v_errors v_now_z v_now_moved_answers v_now_moved_stack v_now_wall_holes v_now_wall_out v_now_wall_night v_now_wall_air v_now_wall_paste

abbrev rm_X11_days : Room := { frames := 5, cells := 0, slots := 0, locals := 130 }
set_option maxHeartbeats 4000000 in
set_option maxRecDepth 100000 in
theorem c_X11_days (l : Launch) (D : va_G) (c : Nat → ClassId) (q_this q_now q_kept q_kinds q_voice q_thought q_further q_errors q_sheetBits q_sheetLength q_numbers q_now_wall q_now_kind q_now_m q_now_tape q_now_moved q_now_seen q_now_told q_now_moved_steps q_now_moved_stack q_now_moved_answers q_now_moved_draft q_now_moved_held q_now_wall_air q_now_wall_paste q_now_wall_open q_now_wall_met q_now_wall_line : Nat) (ta : Nat → Nat) (s_now_moved_names : Nat) (n_now_moved_answers : Nat) (a_1 : Int32) (v_images : Int32) (v_errors : Nat → Int32) (v_now_tools : Int32) (v_now_tapeLength : Int32) (v_now_z : Int32) (v_now_waiting : Int32) (v_now_kind : Nat → Int32) (v_now_m : Nat → Int32) (v_now_moved_length : Int32) (v_now_moved_side : Int32) (v_now_moved_round : Int32) (v_now_moved_drafted : Int32) (v_now_moved_holding : Int32) (v_now_moved_open : Int32) (v_now_moved_digits : Int32) (v_now_moved_wantsOperand : Int32) (v_now_moved_answers : Nat → Int32) (v_now_moved_stack : Nat → Int32) (v_now_moved_steps : Nat → Int32) (v_now_wall_rows : Int32) (v_now_wall_columns : Int32) (v_now_wall_holes : Int32) (v_now_wall_out : Int32) (v_now_wall_night : Int32) (v_now_wall_inLine : Int32) (v_now_wall_air : Nat → Int32) (v_now_wall_open : Nat → Int32) (v_now_wall_paste : Nat → Int32) (o_r : Int32) (o_v_errors : Nat → Int32) (o_v_now_z : Int32) (o_v_now_moved_answers : Nat → Int32) (o_v_now_moved_stack : Nat → Int32) (o_v_now_wall_holes : Int32) (o_v_now_wall_out : Int32) (o_v_now_wall_night : Int32) (o_v_now_wall_air : Nat → Int32) (o_v_now_wall_paste : Nat → Int32) (h : f_X11_days a_1 n_now_moved_answers v_errors v_now_tools v_now_z v_now_kind v_now_m v_now_moved_length v_now_moved_side v_now_moved_round v_now_moved_answers v_now_moved_stack v_now_moved_steps v_now_wall_rows v_now_wall_columns v_now_wall_holes v_now_wall_out v_now_wall_night v_now_wall_air v_now_wall_open v_now_wall_paste = some (o_r, o_v_errors, o_v_now_z, o_v_now_moved_answers, o_v_now_moved_stack, o_v_now_wall_holes, o_v_now_wall_out, o_v_now_wall_night, o_v_now_wall_air, o_v_now_wall_paste)) : gMI l yX11_days wsX11_days rm_X11_days D c [.ref q_this, .int a_1] [(q_this, .inr (11, [.ref q_now, .ref q_kept, .int v_images, .ref q_kinds, .ref q_voice, .ref q_thought, .ref q_further, .ref q_errors, .ref q_sheetBits, .ref q_sheetLength, .ref q_numbers])), (q_errors, .inl (c 0, 6, .inl v_errors)), (q_kinds, .inl (c 1, 7, .inr (.inr (.inr (.inr (fun j => some (ta j))))))), (q_now, .inr (7, [.ref q_now_wall, .int v_now_tools, .ref q_now_kind, .ref q_now_m, .ref q_now_tape, .int v_now_tapeLength, .ref q_now_moved, .ref q_now_seen, .int v_now_z, .ref q_now_told, .int v_now_waiting])), (q_now_kind, .inl (c 0, 6, .inl v_now_kind)), (q_now_m, .inl (c 0, 6, .inl v_now_m)), (q_now_moved, .inr (3, [.ref (c (10 + s_now_moved_names)), .ref q_now_moved_steps, .int v_now_moved_length, .ref q_now_moved_stack, .ref q_now_moved_answers, .int v_now_moved_side, .int v_now_moved_round, .ref q_now_moved_draft, .int v_now_moved_drafted, .ref q_now_moved_held, .int v_now_moved_holding, .int v_now_moved_open, .int v_now_moved_digits, .int v_now_moved_wantsOperand])), (q_now_moved_answers, .inl (c 0, n_now_moved_answers, .inl v_now_moved_answers)), (q_now_moved_stack, .inl (c 0, 50, .inl v_now_moved_stack)), (q_now_moved_steps, .inl (c 0, 50, .inl v_now_moved_steps)), (q_now_wall, .inr (10, [.int v_now_wall_rows, .int v_now_wall_columns, .ref q_now_wall_air, .ref q_now_wall_paste, .ref q_now_wall_open, .int v_now_wall_holes, .int v_now_wall_out, .int v_now_wall_night, .ref q_now_wall_met, .ref q_now_wall_line, .int v_now_wall_inLine])), (q_now_wall_air, .inl (c 0, 25, .inl v_now_wall_air)), (q_now_wall_open, .inl (c 0, 4, .inl v_now_wall_open)), (q_now_wall_paste, .inl (c 0, 25, .inl v_now_wall_paste)), (ta 0, .inr (8, [])), (ta 1, .inr (0, [])), (ta 2, .inr (4, [])), (ta 3, .inr (5, [])), (ta 4, .inr (6, [])), (ta 5, .inr (2, [])), (ta 6, .inr (1, []))] [(q_this, .inr (11, [.ref q_now, .ref q_kept, .int v_images, .ref q_kinds, .ref q_voice, .ref q_thought, .ref q_further, .ref q_errors, .ref q_sheetBits, .ref q_sheetLength, .ref q_numbers])), (q_errors, .inl (c 0, 6, .inl o_v_errors)), (q_kinds, .inl (c 1, 7, .inr (.inr (.inr (.inr (fun j => some (ta j))))))), (q_now, .inr (7, [.ref q_now_wall, .int v_now_tools, .ref q_now_kind, .ref q_now_m, .ref q_now_tape, .int v_now_tapeLength, .ref q_now_moved, .ref q_now_seen, .int o_v_now_z, .ref q_now_told, .int v_now_waiting])), (q_now_kind, .inl (c 0, 6, .inl v_now_kind)), (q_now_m, .inl (c 0, 6, .inl v_now_m)), (q_now_moved, .inr (3, [.ref (c (10 + s_now_moved_names)), .ref q_now_moved_steps, .int v_now_moved_length, .ref q_now_moved_stack, .ref q_now_moved_answers, .int v_now_moved_side, .int v_now_moved_round, .ref q_now_moved_draft, .int v_now_moved_drafted, .ref q_now_moved_held, .int v_now_moved_holding, .int v_now_moved_open, .int v_now_moved_digits, .int v_now_moved_wantsOperand])), (q_now_moved_answers, .inl (c 0, n_now_moved_answers, .inl o_v_now_moved_answers)), (q_now_moved_stack, .inl (c 0, 50, .inl o_v_now_moved_stack)), (q_now_moved_steps, .inl (c 0, 50, .inl v_now_moved_steps)), (q_now_wall, .inr (10, [.int v_now_wall_rows, .int v_now_wall_columns, .ref q_now_wall_air, .ref q_now_wall_paste, .ref q_now_wall_open, .int o_v_now_wall_holes, .int o_v_now_wall_out, .int o_v_now_wall_night, .ref q_now_wall_met, .ref q_now_wall_line, .int v_now_wall_inLine])), (q_now_wall_air, .inl (c 0, 25, .inl o_v_now_wall_air)), (q_now_wall_open, .inl (c 0, 4, .inl v_now_wall_open)), (q_now_wall_paste, .inl (c 0, 25, .inl o_v_now_wall_paste)), (ta 0, .inr (8, [])), (ta 1, .inr (0, [])), (ta 2, .inr (4, [])), (ta 3, .inr (5, [])), (ta 4, .inr (6, [])), (ta 5, .inr (2, [])), (ta 6, .inr (1, []))] o_r := by
  refine gMI_of (cc := cX11_days) (maxL := 6) (rt := (some .int)) (by decide +kernel) rfl (Nat.le_of_ble_eq_true rfl) ?_
  intro p e s m below meth co A hF hK hX hP hD hA hS ls hl
  obtain ⟨hx, hb, hr, hts, hown, hlocks, hml⟩ := id hF
  have hl : lv_has ls 6 [(0, .ref q_this), (1, .int a_1)] := hl
  have t_L44 : ∀ (v_errors : Nat → Int32) (v_now_z : Int32) (v_now_moved_answers : Nat → Int32) (v_now_moved_stack : Nat → Int32) (v_now_wall_holes : Int32) (v_now_wall_out : Int32) (v_now_wall_night : Int32) (v_now_wall_air : Nat → Int32) (v_now_wall_paste : Nat → Int32) (H : Heap) (locs : List Loc), va_P D gcl [(q_this, .inr (11, [.ref q_now, .ref q_kept, .int v_images, .ref q_kinds, .ref q_voice, .ref q_thought, .ref q_further, .ref q_errors, .ref q_sheetBits, .ref q_sheetLength, .ref q_numbers])), (q_errors, .inl (c 0, 6, .inl v_errors)), (q_kinds, .inl (c 1, 7, .inr (.inr (.inr (.inr (fun j => some (ta j))))))), (q_now, .inr (7, [.ref q_now_wall, .int v_now_tools, .ref q_now_kind, .ref q_now_m, .ref q_now_tape, .int v_now_tapeLength, .ref q_now_moved, .ref q_now_seen, .int v_now_z, .ref q_now_told, .int v_now_waiting])), (q_now_kind, .inl (c 0, 6, .inl v_now_kind)), (q_now_m, .inl (c 0, 6, .inl v_now_m)), (q_now_moved, .inr (3, [.ref (c (10 + s_now_moved_names)), .ref q_now_moved_steps, .int v_now_moved_length, .ref q_now_moved_stack, .ref q_now_moved_answers, .int v_now_moved_side, .int v_now_moved_round, .ref q_now_moved_draft, .int v_now_moved_drafted, .ref q_now_moved_held, .int v_now_moved_holding, .int v_now_moved_open, .int v_now_moved_digits, .int v_now_moved_wantsOperand])), (q_now_moved_answers, .inl (c 0, n_now_moved_answers, .inl v_now_moved_answers)), (q_now_moved_stack, .inl (c 0, 50, .inl v_now_moved_stack)), (q_now_moved_steps, .inl (c 0, 50, .inl v_now_moved_steps)), (q_now_wall, .inr (10, [.int v_now_wall_rows, .int v_now_wall_columns, .ref q_now_wall_air, .ref q_now_wall_paste, .ref q_now_wall_open, .int v_now_wall_holes, .int v_now_wall_out, .int v_now_wall_night, .ref q_now_wall_met, .ref q_now_wall_line, .int v_now_wall_inLine])), (q_now_wall_air, .inl (c 0, 25, .inl v_now_wall_air)), (q_now_wall_open, .inl (c 0, 4, .inl v_now_wall_open)), (q_now_wall_paste, .inl (c 0, 25, .inl v_now_wall_paste)), (ta 0, .inr (8, [])), (ta 1, .inr (0, [])), (ta 2, .inr (4, [])), (ta 3, .inr (5, [])), (ta 4, .inr (6, [])), (ta 5, .inr (2, [])), (ta 6, .inr (1, []))] H → va_D A [(q_this, .inr (11, [.ref q_now, .ref q_kept, .int v_images, .ref q_kinds, .ref q_voice, .ref q_thought, .ref q_further, .ref q_errors, .ref q_sheetBits, .ref q_sheetLength, .ref q_numbers])), (q_errors, .inl (c 0, 6, .inl v_errors)), (q_kinds, .inl (c 1, 7, .inr (.inr (.inr (.inr (fun j => some (ta j))))))), (q_now, .inr (7, [.ref q_now_wall, .int v_now_tools, .ref q_now_kind, .ref q_now_m, .ref q_now_tape, .int v_now_tapeLength, .ref q_now_moved, .ref q_now_seen, .int v_now_z, .ref q_now_told, .int v_now_waiting])), (q_now_kind, .inl (c 0, 6, .inl v_now_kind)), (q_now_m, .inl (c 0, 6, .inl v_now_m)), (q_now_moved, .inr (3, [.ref (c (10 + s_now_moved_names)), .ref q_now_moved_steps, .int v_now_moved_length, .ref q_now_moved_stack, .ref q_now_moved_answers, .int v_now_moved_side, .int v_now_moved_round, .ref q_now_moved_draft, .int v_now_moved_drafted, .ref q_now_moved_held, .int v_now_moved_holding, .int v_now_moved_open, .int v_now_moved_digits, .int v_now_moved_wantsOperand])), (q_now_moved_answers, .inl (c 0, n_now_moved_answers, .inl v_now_moved_answers)), (q_now_moved_stack, .inl (c 0, 50, .inl v_now_moved_stack)), (q_now_moved_steps, .inl (c 0, 50, .inl v_now_moved_steps)), (q_now_wall, .inr (10, [.int v_now_wall_rows, .int v_now_wall_columns, .ref q_now_wall_air, .ref q_now_wall_paste, .ref q_now_wall_open, .int v_now_wall_holes, .int v_now_wall_out, .int v_now_wall_night, .ref q_now_wall_met, .ref q_now_wall_line, .int v_now_wall_inLine])), (q_now_wall_air, .inl (c 0, 25, .inl v_now_wall_air)), (q_now_wall_open, .inl (c 0, 4, .inl v_now_wall_open)), (q_now_wall_paste, .inl (c 0, 25, .inl v_now_wall_paste)), (ta 0, .inr (8, [])), (ta 1, .inr (0, [])), (ta 2, .inr (4, [])), (ta 3, .inr (5, [])), (ta 4, .inr (6, [])), (ta 5, .inr (2, [])), (ta 6, .inr (1, []))] → va_S A s.heap H locs → ∀ ls, lv_has ls 6 [(0, .ref q_this)] → f_X11_days_L44 v_errors v_now_z v_now_moved_answers v_now_moved_stack v_now_wall_holes v_now_wall_out v_now_wall_night v_now_wall_air v_now_wall_paste = some (o_r, o_v_errors, o_v_now_z, o_v_now_moved_answers, o_v_now_moved_stack, o_v_now_wall_holes, o_v_now_wall_out, o_v_now_wall_night, o_v_now_wall_air, o_v_now_wall_paste) → W p l e (headSpec wsX11_days rm_X11_days).room s m [.ref q_this, .int a_1].toArray below meth co H locs 0 0 (gQI D [(q_this, .inr (11, [.ref q_now, .ref q_kept, .int v_images, .ref q_kinds, .ref q_voice, .ref q_thought, .ref q_further, .ref q_errors, .ref q_sheetBits, .ref q_sheetLength, .ref q_numbers])), (q_errors, .inl (c 0, 6, .inl o_v_errors)), (q_kinds, .inl (c 1, 7, .inr (.inr (.inr (.inr (fun j => some (ta j))))))), (q_now, .inr (7, [.ref q_now_wall, .int v_now_tools, .ref q_now_kind, .ref q_now_m, .ref q_now_tape, .int v_now_tapeLength, .ref q_now_moved, .ref q_now_seen, .int o_v_now_z, .ref q_now_told, .int v_now_waiting])), (q_now_kind, .inl (c 0, 6, .inl v_now_kind)), (q_now_m, .inl (c 0, 6, .inl v_now_m)), (q_now_moved, .inr (3, [.ref (c (10 + s_now_moved_names)), .ref q_now_moved_steps, .int v_now_moved_length, .ref q_now_moved_stack, .ref q_now_moved_answers, .int v_now_moved_side, .int v_now_moved_round, .ref q_now_moved_draft, .int v_now_moved_drafted, .ref q_now_moved_held, .int v_now_moved_holding, .int v_now_moved_open, .int v_now_moved_digits, .int v_now_moved_wantsOperand])), (q_now_moved_answers, .inl (c 0, n_now_moved_answers, .inl o_v_now_moved_answers)), (q_now_moved_stack, .inl (c 0, 50, .inl o_v_now_moved_stack)), (q_now_moved_steps, .inl (c 0, 50, .inl v_now_moved_steps)), (q_now_wall, .inr (10, [.int v_now_wall_rows, .int v_now_wall_columns, .ref q_now_wall_air, .ref q_now_wall_paste, .ref q_now_wall_open, .int o_v_now_wall_holes, .int o_v_now_wall_out, .int o_v_now_wall_night, .ref q_now_wall_met, .ref q_now_wall_line, .int v_now_wall_inLine])), (q_now_wall_air, .inl (c 0, 25, .inl o_v_now_wall_air)), (q_now_wall_open, .inl (c 0, 4, .inl v_now_wall_open)), (q_now_wall_paste, .inl (c 0, 25, .inl o_v_now_wall_paste)), (ta 0, .inr (8, [])), (ta 1, .inr (0, [])), (ta 2, .inr (4, [])), (ta 3, .inr (5, [])), (ta 4, .inr (6, [])), (ta 5, .inr (2, [])), (ta 6, .inr (1, []))] o_r A below [.ref q_this, .int a_1] s) (F0 m 44 ls []) := by
    intro  v_errors v_now_z v_now_moved_answers v_now_moved_stack v_now_wall_holes v_now_wall_out v_now_wall_night v_now_wall_air v_now_wall_paste H locs hP hD hS ls hl h
    unfold f_X11_days_L44 at h
    refine lv_aload_n hx hb dX11_days_44 rfl (lv_at hl 0 rfl) ?_
    refine lv_iconst (v := 3) hx hb dX11_days_45 (by decide) ?_
    replace h := kb2_ok h
    obtain ⟨r_10, w_11, hc_9, h⟩ := h
    refine gCallI (isC := [0, 1]) (wc := [(q_this, .inr (11, [.ref q_now, .ref q_kept, .int v_images, .ref q_kinds, .ref q_voice, .ref q_thought, .ref q_further, .ref q_errors, .ref q_sheetBits, .ref q_sheetLength, .ref q_numbers])), (q_errors, .inl (c 0, 6, .inl v_errors))]) (w1 := [(q_this, .inr (11, [.ref q_now, .ref q_kept, .int v_images, .ref q_kinds, .ref q_voice, .ref q_thought, .ref q_further, .ref q_errors, .ref q_sheetBits, .ref q_sheetLength, .ref q_numbers])), (q_errors, .inl (c 0, 6, .inl w_11))]) (ws2 := [(q_this, .inr (11, [.ref q_now, .ref q_kept, .int v_images, .ref q_kinds, .ref q_voice, .ref q_thought, .ref q_further, .ref q_errors, .ref q_sheetBits, .ref q_sheetLength, .ref q_numbers])), (q_errors, .inl (c 0, 6, .inl w_11)), (q_kinds, .inl (c 1, 7, .inr (.inr (.inr (.inr (fun j => some (ta j))))))), (q_now, .inr (7, [.ref q_now_wall, .int v_now_tools, .ref q_now_kind, .ref q_now_m, .ref q_now_tape, .int v_now_tapeLength, .ref q_now_moved, .ref q_now_seen, .int v_now_z, .ref q_now_told, .int v_now_waiting])), (q_now_kind, .inl (c 0, 6, .inl v_now_kind)), (q_now_m, .inl (c 0, 6, .inl v_now_m)), (q_now_moved, .inr (3, [.ref (c (10 + s_now_moved_names)), .ref q_now_moved_steps, .int v_now_moved_length, .ref q_now_moved_stack, .ref q_now_moved_answers, .int v_now_moved_side, .int v_now_moved_round, .ref q_now_moved_draft, .int v_now_moved_drafted, .ref q_now_moved_held, .int v_now_moved_holding, .int v_now_moved_open, .int v_now_moved_digits, .int v_now_moved_wantsOperand])), (q_now_moved_answers, .inl (c 0, n_now_moved_answers, .inl v_now_moved_answers)), (q_now_moved_stack, .inl (c 0, 50, .inl v_now_moved_stack)), (q_now_moved_steps, .inl (c 0, 50, .inl v_now_moved_steps)), (q_now_wall, .inr (10, [.int v_now_wall_rows, .int v_now_wall_columns, .ref q_now_wall_air, .ref q_now_wall_paste, .ref q_now_wall_open, .int v_now_wall_holes, .int v_now_wall_out, .int v_now_wall_night, .ref q_now_wall_met, .ref q_now_wall_line, .int v_now_wall_inLine])), (q_now_wall_air, .inl (c 0, 25, .inl v_now_wall_air)), (q_now_wall_open, .inl (c 0, 4, .inl v_now_wall_open)), (q_now_wall_paste, .inl (c 0, 25, .inl v_now_wall_paste)), (ta 0, .inr (8, [])), (ta 1, .inr (0, [])), (ta 2, .inr (4, [])), (ta 3, .inr (5, [])), (ta 4, .inr (6, [])), (ta 5, .inr (2, [])), (ta 6, .inr (1, []))]) (ms := [(some 0), (some 1), none, none, none, none, none, none, none, none, none, none, none, none, none, none, none, none, none, none, none]) hP hD hS hA ⟨rfl, rfl, trivial⟩ (by decide +kernel) ⟨rfl, rfl, rfl, rfl, rfl, rfl, rfl, rfl, rfl, rfl, rfl, rfl, rfl, rfl, rfl, rfl, rfl, rfl, rfl, rfl, rfl, trivial⟩ (va_runV (rm := rm_X11_error) (ws := wsX11_error) (As := [.int 3]) (rest := []) (gFix hF) (c_X11_error l D c q_this q_now q_kept q_kinds q_voice q_thought q_further q_errors q_sheetBits q_sheetLength q_numbers 3 v_images v_errors r_10 w_11 hc_9 H.size) (cwV 1 hts gX11_days_X11_error rfl rfl rfl (by decide +kernel) ⟨Nat.le_of_ble_eq_true rfl, Nat.le_of_ble_eq_true rfl⟩) (gPreV (wc := [(q_this, .inr (11, [.ref q_now, .ref q_kept, .int v_images, .ref q_kinds, .ref q_voice, .ref q_thought, .ref q_further, .ref q_errors, .ref q_sheetBits, .ref q_sheetLength, .ref q_numbers])), (q_errors, .inl (c 0, 6, .inl v_errors))]) (q := (RX11, TX11, 11)) (ci := 11) (q0 := 0) (isC := [0, 1]) hK hX hS hA hP hD ⟨rfl, rfl, trivial⟩ (by decide +kernel) rfl rfl) rfl rfl hl.1 rfl (lv_room (Nat.le_of_ble_eq_true rfl)) dX11_days_46 ⟨Nat.le_of_ble_eq_true rfl, Nat.le_of_ble_eq_true rfl⟩) (fun H locs hP hD hS => ?_)
    replace h := so10 h
    obtain ⟨z0, z1, z2, z3, z4, z5, z6, z7, z8, z9⟩ := h
    subst z0 z1 z2 z3 z4 z5 z6 z7 z8 z9
    exact gIret hF hP hD hS rfl dX11_days_49
  have t_L52 : ∀ (n : Nat), ∀ (x2 : Int32) (v_errors : Nat → Int32) (v_now_z : Int32) (v_now_moved_answers : Nat → Int32) (v_now_moved_stack : Nat → Int32) (v_now_wall_holes : Int32) (v_now_wall_out : Int32) (v_now_wall_night : Int32) (v_now_wall_air : Nat → Int32) (v_now_wall_paste : Nat → Int32) (H : Heap) (locs : List Loc), va_P D gcl [(q_this, .inr (11, [.ref q_now, .ref q_kept, .int v_images, .ref q_kinds, .ref q_voice, .ref q_thought, .ref q_further, .ref q_errors, .ref q_sheetBits, .ref q_sheetLength, .ref q_numbers])), (q_errors, .inl (c 0, 6, .inl v_errors)), (q_kinds, .inl (c 1, 7, .inr (.inr (.inr (.inr (fun j => some (ta j))))))), (q_now, .inr (7, [.ref q_now_wall, .int v_now_tools, .ref q_now_kind, .ref q_now_m, .ref q_now_tape, .int v_now_tapeLength, .ref q_now_moved, .ref q_now_seen, .int v_now_z, .ref q_now_told, .int v_now_waiting])), (q_now_kind, .inl (c 0, 6, .inl v_now_kind)), (q_now_m, .inl (c 0, 6, .inl v_now_m)), (q_now_moved, .inr (3, [.ref (c (10 + s_now_moved_names)), .ref q_now_moved_steps, .int v_now_moved_length, .ref q_now_moved_stack, .ref q_now_moved_answers, .int v_now_moved_side, .int v_now_moved_round, .ref q_now_moved_draft, .int v_now_moved_drafted, .ref q_now_moved_held, .int v_now_moved_holding, .int v_now_moved_open, .int v_now_moved_digits, .int v_now_moved_wantsOperand])), (q_now_moved_answers, .inl (c 0, n_now_moved_answers, .inl v_now_moved_answers)), (q_now_moved_stack, .inl (c 0, 50, .inl v_now_moved_stack)), (q_now_moved_steps, .inl (c 0, 50, .inl v_now_moved_steps)), (q_now_wall, .inr (10, [.int v_now_wall_rows, .int v_now_wall_columns, .ref q_now_wall_air, .ref q_now_wall_paste, .ref q_now_wall_open, .int v_now_wall_holes, .int v_now_wall_out, .int v_now_wall_night, .ref q_now_wall_met, .ref q_now_wall_line, .int v_now_wall_inLine])), (q_now_wall_air, .inl (c 0, 25, .inl v_now_wall_air)), (q_now_wall_open, .inl (c 0, 4, .inl v_now_wall_open)), (q_now_wall_paste, .inl (c 0, 25, .inl v_now_wall_paste)), (ta 0, .inr (8, [])), (ta 1, .inr (0, [])), (ta 2, .inr (4, [])), (ta 3, .inr (5, [])), (ta 4, .inr (6, [])), (ta 5, .inr (2, [])), (ta 6, .inr (1, []))] H → va_D A [(q_this, .inr (11, [.ref q_now, .ref q_kept, .int v_images, .ref q_kinds, .ref q_voice, .ref q_thought, .ref q_further, .ref q_errors, .ref q_sheetBits, .ref q_sheetLength, .ref q_numbers])), (q_errors, .inl (c 0, 6, .inl v_errors)), (q_kinds, .inl (c 1, 7, .inr (.inr (.inr (.inr (fun j => some (ta j))))))), (q_now, .inr (7, [.ref q_now_wall, .int v_now_tools, .ref q_now_kind, .ref q_now_m, .ref q_now_tape, .int v_now_tapeLength, .ref q_now_moved, .ref q_now_seen, .int v_now_z, .ref q_now_told, .int v_now_waiting])), (q_now_kind, .inl (c 0, 6, .inl v_now_kind)), (q_now_m, .inl (c 0, 6, .inl v_now_m)), (q_now_moved, .inr (3, [.ref (c (10 + s_now_moved_names)), .ref q_now_moved_steps, .int v_now_moved_length, .ref q_now_moved_stack, .ref q_now_moved_answers, .int v_now_moved_side, .int v_now_moved_round, .ref q_now_moved_draft, .int v_now_moved_drafted, .ref q_now_moved_held, .int v_now_moved_holding, .int v_now_moved_open, .int v_now_moved_digits, .int v_now_moved_wantsOperand])), (q_now_moved_answers, .inl (c 0, n_now_moved_answers, .inl v_now_moved_answers)), (q_now_moved_stack, .inl (c 0, 50, .inl v_now_moved_stack)), (q_now_moved_steps, .inl (c 0, 50, .inl v_now_moved_steps)), (q_now_wall, .inr (10, [.int v_now_wall_rows, .int v_now_wall_columns, .ref q_now_wall_air, .ref q_now_wall_paste, .ref q_now_wall_open, .int v_now_wall_holes, .int v_now_wall_out, .int v_now_wall_night, .ref q_now_wall_met, .ref q_now_wall_line, .int v_now_wall_inLine])), (q_now_wall_air, .inl (c 0, 25, .inl v_now_wall_air)), (q_now_wall_open, .inl (c 0, 4, .inl v_now_wall_open)), (q_now_wall_paste, .inl (c 0, 25, .inl v_now_wall_paste)), (ta 0, .inr (8, [])), (ta 1, .inr (0, [])), (ta 2, .inr (4, [])), (ta 3, .inr (5, [])), (ta 4, .inr (6, [])), (ta 5, .inr (2, [])), (ta 6, .inr (1, []))] → va_S A s.heap H locs → ∀ ls, lv_has ls 6 [(0, .ref q_this), (1, .int a_1), (2, .int x2)] → f_X11_days_L52 a_1 n_now_moved_answers v_now_tools v_now_kind v_now_m v_now_moved_length v_now_moved_side v_now_moved_round v_now_moved_steps v_now_wall_rows v_now_wall_columns v_now_wall_open n x2 v_errors v_now_z v_now_moved_answers v_now_moved_stack v_now_wall_holes v_now_wall_out v_now_wall_night v_now_wall_air v_now_wall_paste = some (o_r, o_v_errors, o_v_now_z, o_v_now_moved_answers, o_v_now_moved_stack, o_v_now_wall_holes, o_v_now_wall_out, o_v_now_wall_night, o_v_now_wall_air, o_v_now_wall_paste) → W p l e (headSpec wsX11_days rm_X11_days).room s m [.ref q_this, .int a_1].toArray below meth co H locs 0 0 (gQI D [(q_this, .inr (11, [.ref q_now, .ref q_kept, .int v_images, .ref q_kinds, .ref q_voice, .ref q_thought, .ref q_further, .ref q_errors, .ref q_sheetBits, .ref q_sheetLength, .ref q_numbers])), (q_errors, .inl (c 0, 6, .inl o_v_errors)), (q_kinds, .inl (c 1, 7, .inr (.inr (.inr (.inr (fun j => some (ta j))))))), (q_now, .inr (7, [.ref q_now_wall, .int v_now_tools, .ref q_now_kind, .ref q_now_m, .ref q_now_tape, .int v_now_tapeLength, .ref q_now_moved, .ref q_now_seen, .int o_v_now_z, .ref q_now_told, .int v_now_waiting])), (q_now_kind, .inl (c 0, 6, .inl v_now_kind)), (q_now_m, .inl (c 0, 6, .inl v_now_m)), (q_now_moved, .inr (3, [.ref (c (10 + s_now_moved_names)), .ref q_now_moved_steps, .int v_now_moved_length, .ref q_now_moved_stack, .ref q_now_moved_answers, .int v_now_moved_side, .int v_now_moved_round, .ref q_now_moved_draft, .int v_now_moved_drafted, .ref q_now_moved_held, .int v_now_moved_holding, .int v_now_moved_open, .int v_now_moved_digits, .int v_now_moved_wantsOperand])), (q_now_moved_answers, .inl (c 0, n_now_moved_answers, .inl o_v_now_moved_answers)), (q_now_moved_stack, .inl (c 0, 50, .inl o_v_now_moved_stack)), (q_now_moved_steps, .inl (c 0, 50, .inl v_now_moved_steps)), (q_now_wall, .inr (10, [.int v_now_wall_rows, .int v_now_wall_columns, .ref q_now_wall_air, .ref q_now_wall_paste, .ref q_now_wall_open, .int o_v_now_wall_holes, .int o_v_now_wall_out, .int o_v_now_wall_night, .ref q_now_wall_met, .ref q_now_wall_line, .int v_now_wall_inLine])), (q_now_wall_air, .inl (c 0, 25, .inl o_v_now_wall_air)), (q_now_wall_open, .inl (c 0, 4, .inl v_now_wall_open)), (q_now_wall_paste, .inl (c 0, 25, .inl o_v_now_wall_paste)), (ta 0, .inr (8, [])), (ta 1, .inr (0, [])), (ta 2, .inr (4, [])), (ta 3, .inr (5, [])), (ta 4, .inr (6, [])), (ta 5, .inr (2, [])), (ta 6, .inr (1, []))] o_r A below [.ref q_this, .int a_1] s) (F0 m 52 ls []) := by
    intro n
    induction n with
    | zero => intro x2 v_errors v_now_z v_now_moved_answers v_now_moved_stack v_now_wall_holes v_now_wall_out v_now_wall_night v_now_wall_air v_now_wall_paste H locs hP hD hS ls hl h; exact no_ok h
    | succ n ih =>
      intro x2 v_errors v_now_z v_now_moved_answers v_now_moved_stack v_now_wall_holes v_now_wall_out v_now_wall_night v_now_wall_air v_now_wall_paste H locs hP hD hS ls hl h
      rw [f_X11_days_L52] at h
      refine lv_iload_n hx hb dX11_days_52 rfl (lv_at hl 2 rfl) ?_
      refine lv_iload_n hx hb dX11_days_53 rfl (lv_at hl 1 rfl) ?_
      refine lv_icmp_ge (tgt := 152) hx hb dX11_days_54 (by decide) (fun c_12 => ?_) (fun c_12 => ?_)
      · replace h := it_t c_12 h
        refine lv_aload_n hx hb dX11_days_152 rfl (lv_at hl 0 rfl) ?_
        refine va_get (D := D) (ci := 11) (v := .ref q_now) (C := RX11) (T := TX11) (N := 11) hx hb hts in_X11_days_X11 hown hK.1 hP 0 rfl rfl 0 (by decide) (hts (.fieldLink RX11 14 "PaperBubbles" "now" "LPaperBubbles$State;") (List.mem_of_getElem? (i := 1) rfl)) (fun _ h9 => h9) rfl dX11_days_153 ?_
        refine va_getN (D := D) (ci := 7) (v := .ref q_now_wall) (C := RX7) (T := TX7) (N := 11) hx hb hts in_X11_days_X7 hown hK.1 hP 3 rfl rfl 0 (by decide) (va_Nw.use rfl (hK.2 (.fieldLinkNest "PaperBubbles" 86 "PaperBubbles$State" "wall" "LPaperBubbles$Wall;" "PaperBubbles") (List.mem_of_getElem? (i := 18) rfl))) (fun _ h9 => h9) rfl dX11_days_156 ?_
        replace h := kb_ok h
        obtain ⟨r_14, hc_13, h⟩ := h
        refine gCallIr (isC := [10, 11]) (wc := [(q_now_wall, .inr (10, [.int v_now_wall_rows, .int v_now_wall_columns, .ref q_now_wall_air, .ref q_now_wall_paste, .ref q_now_wall_open, .int v_now_wall_holes, .int v_now_wall_out, .int v_now_wall_night, .ref q_now_wall_met, .ref q_now_wall_line, .int v_now_wall_inLine])), (q_now_wall_air, .inl (c 0, 25, .inl v_now_wall_air))]) hP hD hS hA ⟨rfl, rfl, trivial⟩ (va_runV (rm := rm_X10_allAir) (ws := wsX10_allAir) (As := []) (rest := []) (gFix hF) (c_X10_allAir l D c q_now_wall q_now_wall_air q_now_wall_paste q_now_wall_open q_now_wall_met q_now_wall_line v_now_wall_rows v_now_wall_columns v_now_wall_holes v_now_wall_out v_now_wall_night v_now_wall_inLine v_now_wall_air r_14 hc_13 H.size) (cwV 0 hts gX11_days_X10_allAir rfl rfl rfl (by decide +kernel) ⟨Nat.le_of_ble_eq_true rfl, Nat.le_of_ble_eq_true rfl⟩) (gPreV (wc := [(q_now_wall, .inr (10, [.int v_now_wall_rows, .int v_now_wall_columns, .ref q_now_wall_air, .ref q_now_wall_paste, .ref q_now_wall_open, .int v_now_wall_holes, .int v_now_wall_out, .int v_now_wall_night, .ref q_now_wall_met, .ref q_now_wall_line, .int v_now_wall_inLine])), (q_now_wall_air, .inl (c 0, 25, .inl v_now_wall_air))]) (q := (RX10, TX10, 11)) (ci := 10) (q0 := 10) (isC := [10, 11]) hK hX hS hA hP hD ⟨rfl, rfl, trivial⟩ (by decide +kernel) rfl rfl) rfl rfl hl.1 rfl (lv_room (Nat.le_of_ble_eq_true rfl)) dX11_days_159 ⟨Nat.le_of_ble_eq_true rfl, Nat.le_of_ble_eq_true rfl⟩) (fun H locs hP hS => ?_)
        replace h := so10 h
        obtain ⟨z0, z1, z2, z3, z4, z5, z6, z7, z8, z9⟩ := h
        subst z0 z1 z2 z3 z4 z5 z6 z7 z8 z9
        exact gIret hF hP hD hS rfl dX11_days_162
      · replace h := it_f c_12 h
        refine lv_aload_n hx hb dX11_days_57 rfl (lv_at hl 0 rfl) ?_
        refine va_get (D := D) (ci := 11) (v := .ref q_now) (C := RX11) (T := TX11) (N := 11) hx hb hts in_X11_days_X11 hown hK.1 hP 0 rfl rfl 0 (by decide) (hts (.fieldLink RX11 14 "PaperBubbles" "now" "LPaperBubbles$State;") (List.mem_of_getElem? (i := 1) rfl)) (fun _ h9 => h9) rfl dX11_days_58 ?_
        refine lv_aload_n hx hb dX11_days_61 rfl (lv_at hl 0 rfl) ?_
        refine va_get (D := D) (ci := 11) (v := .ref q_now) (C := RX11) (T := TX11) (N := 11) hx hb hts in_X11_days_X11 hown hK.1 hP 0 rfl rfl 0 (by decide) (hts (.fieldLink RX11 14 "PaperBubbles" "now" "LPaperBubbles$State;") (List.mem_of_getElem? (i := 1) rfl)) (fun _ h9 => h9) rfl dX11_days_62 ?_
        refine va_getN (D := D) (ci := 7) (v := .int v_now_tools) (C := RX7) (T := TX7) (N := 11) hx hb hts in_X11_days_X7 hown hK.1 hP 3 rfl rfl 1 (by decide) (va_Nw.use rfl (hK.2 (.fieldLinkNest "PaperBubbles" 132 "PaperBubbles$State" "tools" "I" "PaperBubbles") (List.mem_of_getElem? (i := 4) rfl))) (fun _ h9 => h9) rfl dX11_days_65 ?_
        replace h := kb2_ok h
        obtain ⟨r_16, w_17, hc_15, h⟩ := h
        refine gCallI (isC := [3]) (wc := [(q_now, .inr (7, [.ref q_now_wall, .int v_now_tools, .ref q_now_kind, .ref q_now_m, .ref q_now_tape, .int v_now_tapeLength, .ref q_now_moved, .ref q_now_seen, .int v_now_z, .ref q_now_told, .int v_now_waiting]))]) (w1 := [(q_now, .inr (7, [.ref q_now_wall, .int v_now_tools, .ref q_now_kind, .ref q_now_m, .ref q_now_tape, .int v_now_tapeLength, .ref q_now_moved, .ref q_now_seen, .int w_17, .ref q_now_told, .int v_now_waiting]))]) (ws2 := [(q_this, .inr (11, [.ref q_now, .ref q_kept, .int v_images, .ref q_kinds, .ref q_voice, .ref q_thought, .ref q_further, .ref q_errors, .ref q_sheetBits, .ref q_sheetLength, .ref q_numbers])), (q_errors, .inl (c 0, 6, .inl v_errors)), (q_kinds, .inl (c 1, 7, .inr (.inr (.inr (.inr (fun j => some (ta j))))))), (q_now, .inr (7, [.ref q_now_wall, .int v_now_tools, .ref q_now_kind, .ref q_now_m, .ref q_now_tape, .int v_now_tapeLength, .ref q_now_moved, .ref q_now_seen, .int w_17, .ref q_now_told, .int v_now_waiting])), (q_now_kind, .inl (c 0, 6, .inl v_now_kind)), (q_now_m, .inl (c 0, 6, .inl v_now_m)), (q_now_moved, .inr (3, [.ref (c (10 + s_now_moved_names)), .ref q_now_moved_steps, .int v_now_moved_length, .ref q_now_moved_stack, .ref q_now_moved_answers, .int v_now_moved_side, .int v_now_moved_round, .ref q_now_moved_draft, .int v_now_moved_drafted, .ref q_now_moved_held, .int v_now_moved_holding, .int v_now_moved_open, .int v_now_moved_digits, .int v_now_moved_wantsOperand])), (q_now_moved_answers, .inl (c 0, n_now_moved_answers, .inl v_now_moved_answers)), (q_now_moved_stack, .inl (c 0, 50, .inl v_now_moved_stack)), (q_now_moved_steps, .inl (c 0, 50, .inl v_now_moved_steps)), (q_now_wall, .inr (10, [.int v_now_wall_rows, .int v_now_wall_columns, .ref q_now_wall_air, .ref q_now_wall_paste, .ref q_now_wall_open, .int v_now_wall_holes, .int v_now_wall_out, .int v_now_wall_night, .ref q_now_wall_met, .ref q_now_wall_line, .int v_now_wall_inLine])), (q_now_wall_air, .inl (c 0, 25, .inl v_now_wall_air)), (q_now_wall_open, .inl (c 0, 4, .inl v_now_wall_open)), (q_now_wall_paste, .inl (c 0, 25, .inl v_now_wall_paste)), (ta 0, .inr (8, [])), (ta 1, .inr (0, [])), (ta 2, .inr (4, [])), (ta 3, .inr (5, [])), (ta 4, .inr (6, [])), (ta 5, .inr (2, [])), (ta 6, .inr (1, []))]) (ms := [none, none, none, (some 0), none, none, none, none, none, none, none, none, none, none, none, none, none, none, none, none, none]) hP hD hS hA ⟨rfl, trivial⟩ (by decide +kernel) ⟨rfl, rfl, rfl, rfl, rfl, rfl, rfl, rfl, rfl, rfl, rfl, rfl, rfl, rfl, rfl, rfl, rfl, rfl, rfl, rfl, rfl, trivial⟩ (va_runV (rm := rm_X7_draw) (ws := wsX7_draw) (As := [.int v_now_tools]) (rest := []) (gFix hF) (c_X7_draw l D c q_now q_now_wall q_now_kind q_now_m q_now_tape q_now_moved q_now_seen q_now_told v_now_tools v_now_tools v_now_tapeLength v_now_z v_now_waiting r_16 w_17 hc_15 H.size) (cwV 1 hts gX11_days_X7_draw rfl rfl rfl (by decide +kernel) ⟨Nat.le_of_ble_eq_true rfl, Nat.le_of_ble_eq_true rfl⟩) (gPreV (wc := [(q_now, .inr (7, [.ref q_now_wall, .int v_now_tools, .ref q_now_kind, .ref q_now_m, .ref q_now_tape, .int v_now_tapeLength, .ref q_now_moved, .ref q_now_seen, .int v_now_z, .ref q_now_told, .int v_now_waiting]))]) (q := (RX7, TX7, 11)) (ci := 7) (q0 := 3) (isC := [3]) hK hX hS hA hP hD ⟨rfl, trivial⟩ (by decide +kernel) rfl rfl) rfl rfl hl.1 rfl (lv_room (Nat.le_of_ble_eq_true rfl)) dX11_days_68 ⟨Nat.le_of_ble_eq_true rfl, Nat.le_of_ble_eq_true rfl⟩) (fun H locs hP hD hS => ?_)
        refine lv_istore_n (lv' := [(3, .int r_16), (0, .ref q_this), (1, .int a_1), (2, .int x2)]) hx hb dX11_days_71 rfl hl (by decide) rfl (fun ls hl => ?_)
        refine lv_aload_n hx hb dX11_days_72 rfl (lv_at hl 1 rfl) ?_
        refine va_get (D := D) (ci := 11) (v := .ref q_now) (C := RX11) (T := TX11) (N := 11) hx hb hts in_X11_days_X11 hown hK.1 hP 0 rfl rfl 0 (by decide) (hts (.fieldLink RX11 14 "PaperBubbles" "now" "LPaperBubbles$State;") (List.mem_of_getElem? (i := 1) rfl)) (fun _ h9 => h9) rfl dX11_days_73 ?_
        refine lv_aload_n hx hb dX11_days_76 rfl (lv_at hl 1 rfl) ?_
        refine va_get (D := D) (ci := 11) (v := .ref q_now) (C := RX11) (T := TX11) (N := 11) hx hb hts in_X11_days_X11 hown hK.1 hP 0 rfl rfl 0 (by decide) (hts (.fieldLink RX11 14 "PaperBubbles" "now" "LPaperBubbles$State;") (List.mem_of_getElem? (i := 1) rfl)) (fun _ h9 => h9) rfl dX11_days_77 ?_
        refine va_getN (D := D) (ci := 7) (v := .ref q_now_wall) (C := RX7) (T := TX7) (N := 11) hx hb hts in_X11_days_X7 hown hK.1 hP 3 rfl rfl 0 (by decide) (va_Nw.use rfl (hK.2 (.fieldLinkNest "PaperBubbles" 86 "PaperBubbles$State" "wall" "LPaperBubbles$Wall;" "PaperBubbles") (List.mem_of_getElem? (i := 18) rfl))) (fun _ h9 => h9) rfl dX11_days_80 ?_
        replace h := kb_ok h
        obtain ⟨r_19, hc_18, h⟩ := h
        refine gCallIr (isC := [10]) (wc := [(q_now_wall, .inr (10, [.int v_now_wall_rows, .int v_now_wall_columns, .ref q_now_wall_air, .ref q_now_wall_paste, .ref q_now_wall_open, .int v_now_wall_holes, .int v_now_wall_out, .int v_now_wall_night, .ref q_now_wall_met, .ref q_now_wall_line, .int v_now_wall_inLine]))]) hP hD hS hA ⟨rfl, trivial⟩ (va_runV (rm := rm_X10_cells) (ws := wsX10_cells) (As := []) (rest := [.ref q_now]) (gFix hF) (c_X10_cells l D c q_now_wall q_now_wall_air q_now_wall_paste q_now_wall_open q_now_wall_met q_now_wall_line v_now_wall_rows v_now_wall_columns v_now_wall_holes v_now_wall_out v_now_wall_night v_now_wall_inLine r_19 hc_18 H.size) (cwV 0 hts gX11_days_X10_cells rfl rfl rfl (by decide +kernel) ⟨Nat.le_of_ble_eq_true rfl, Nat.le_of_ble_eq_true rfl⟩) (gPreV (wc := [(q_now_wall, .inr (10, [.int v_now_wall_rows, .int v_now_wall_columns, .ref q_now_wall_air, .ref q_now_wall_paste, .ref q_now_wall_open, .int v_now_wall_holes, .int v_now_wall_out, .int v_now_wall_night, .ref q_now_wall_met, .ref q_now_wall_line, .int v_now_wall_inLine]))]) (q := (RX10, TX10, 11)) (ci := 10) (q0 := 10) (isC := [10]) hK hX hS hA hP hD ⟨rfl, trivial⟩ (by decide +kernel) rfl rfl) rfl rfl hl.1 rfl (lv_room (Nat.le_of_ble_eq_true rfl)) dX11_days_83 ⟨Nat.le_of_ble_eq_true rfl, Nat.le_of_ble_eq_true rfl⟩) (fun H locs hP hS => ?_)
        replace h := kb2_ok h
        obtain ⟨r_21, w_22, hc_20, h⟩ := h
        refine gCallI (isC := [3]) (wc := [(q_now, .inr (7, [.ref q_now_wall, .int v_now_tools, .ref q_now_kind, .ref q_now_m, .ref q_now_tape, .int v_now_tapeLength, .ref q_now_moved, .ref q_now_seen, .int w_17, .ref q_now_told, .int v_now_waiting]))]) (w1 := [(q_now, .inr (7, [.ref q_now_wall, .int v_now_tools, .ref q_now_kind, .ref q_now_m, .ref q_now_tape, .int v_now_tapeLength, .ref q_now_moved, .ref q_now_seen, .int w_22, .ref q_now_told, .int v_now_waiting]))]) (ws2 := [(q_this, .inr (11, [.ref q_now, .ref q_kept, .int v_images, .ref q_kinds, .ref q_voice, .ref q_thought, .ref q_further, .ref q_errors, .ref q_sheetBits, .ref q_sheetLength, .ref q_numbers])), (q_errors, .inl (c 0, 6, .inl v_errors)), (q_kinds, .inl (c 1, 7, .inr (.inr (.inr (.inr (fun j => some (ta j))))))), (q_now, .inr (7, [.ref q_now_wall, .int v_now_tools, .ref q_now_kind, .ref q_now_m, .ref q_now_tape, .int v_now_tapeLength, .ref q_now_moved, .ref q_now_seen, .int w_22, .ref q_now_told, .int v_now_waiting])), (q_now_kind, .inl (c 0, 6, .inl v_now_kind)), (q_now_m, .inl (c 0, 6, .inl v_now_m)), (q_now_moved, .inr (3, [.ref (c (10 + s_now_moved_names)), .ref q_now_moved_steps, .int v_now_moved_length, .ref q_now_moved_stack, .ref q_now_moved_answers, .int v_now_moved_side, .int v_now_moved_round, .ref q_now_moved_draft, .int v_now_moved_drafted, .ref q_now_moved_held, .int v_now_moved_holding, .int v_now_moved_open, .int v_now_moved_digits, .int v_now_moved_wantsOperand])), (q_now_moved_answers, .inl (c 0, n_now_moved_answers, .inl v_now_moved_answers)), (q_now_moved_stack, .inl (c 0, 50, .inl v_now_moved_stack)), (q_now_moved_steps, .inl (c 0, 50, .inl v_now_moved_steps)), (q_now_wall, .inr (10, [.int v_now_wall_rows, .int v_now_wall_columns, .ref q_now_wall_air, .ref q_now_wall_paste, .ref q_now_wall_open, .int v_now_wall_holes, .int v_now_wall_out, .int v_now_wall_night, .ref q_now_wall_met, .ref q_now_wall_line, .int v_now_wall_inLine])), (q_now_wall_air, .inl (c 0, 25, .inl v_now_wall_air)), (q_now_wall_open, .inl (c 0, 4, .inl v_now_wall_open)), (q_now_wall_paste, .inl (c 0, 25, .inl v_now_wall_paste)), (ta 0, .inr (8, [])), (ta 1, .inr (0, [])), (ta 2, .inr (4, [])), (ta 3, .inr (5, [])), (ta 4, .inr (6, [])), (ta 5, .inr (2, [])), (ta 6, .inr (1, []))]) (ms := [none, none, none, (some 0), none, none, none, none, none, none, none, none, none, none, none, none, none, none, none, none, none]) hP hD hS hA ⟨rfl, trivial⟩ (by decide +kernel) ⟨rfl, rfl, rfl, rfl, rfl, rfl, rfl, rfl, rfl, rfl, rfl, rfl, rfl, rfl, rfl, rfl, rfl, rfl, rfl, rfl, rfl, trivial⟩ (va_runV (rm := rm_X7_draw) (ws := wsX7_draw) (As := [.int r_19]) (rest := []) (gFix hF) (c_X7_draw l D c q_now q_now_wall q_now_kind q_now_m q_now_tape q_now_moved q_now_seen q_now_told r_19 v_now_tools v_now_tapeLength w_17 v_now_waiting r_21 w_22 hc_20 H.size) (cwV 1 hts gX11_days_X7_draw rfl rfl rfl (by decide +kernel) ⟨Nat.le_of_ble_eq_true rfl, Nat.le_of_ble_eq_true rfl⟩) (gPreV (wc := [(q_now, .inr (7, [.ref q_now_wall, .int v_now_tools, .ref q_now_kind, .ref q_now_m, .ref q_now_tape, .int v_now_tapeLength, .ref q_now_moved, .ref q_now_seen, .int w_17, .ref q_now_told, .int v_now_waiting]))]) (q := (RX7, TX7, 11)) (ci := 7) (q0 := 3) (isC := [3]) hK hX hS hA hP hD ⟨rfl, trivial⟩ (by decide +kernel) rfl rfl) rfl rfl hl.1 rfl (lv_room (Nat.le_of_ble_eq_true rfl)) dX11_days_86 ⟨Nat.le_of_ble_eq_true rfl, Nat.le_of_ble_eq_true rfl⟩) (fun H locs hP hD hS => ?_)
        refine lv_istore (lv' := [(4, .int r_21), (3, .int r_16), (0, .ref q_this), (1, .int a_1), (2, .int x2)]) hx hb dX11_days_89 hl (by decide) rfl (fun ls hl => ?_)
        refine lv_aload_n hx hb dX11_days_91 rfl (lv_at hl 2 rfl) ?_
        refine va_get (D := D) (ci := 11) (v := .ref q_now) (C := RX11) (T := TX11) (N := 11) hx hb hts in_X11_days_X11 hown hK.1 hP 0 rfl rfl 0 (by decide) (hts (.fieldLink RX11 14 "PaperBubbles" "now" "LPaperBubbles$State;") (List.mem_of_getElem? (i := 1) rfl)) (fun _ h9 => h9) rfl dX11_days_92 ?_
        refine lv_iconst (v := 4) hx hb dX11_days_95 (by decide) ?_
        replace h := kb2_ok h
        obtain ⟨r_24, w_25, hc_23, h⟩ := h
        refine gCallI (isC := [3]) (wc := [(q_now, .inr (7, [.ref q_now_wall, .int v_now_tools, .ref q_now_kind, .ref q_now_m, .ref q_now_tape, .int v_now_tapeLength, .ref q_now_moved, .ref q_now_seen, .int w_22, .ref q_now_told, .int v_now_waiting]))]) (w1 := [(q_now, .inr (7, [.ref q_now_wall, .int v_now_tools, .ref q_now_kind, .ref q_now_m, .ref q_now_tape, .int v_now_tapeLength, .ref q_now_moved, .ref q_now_seen, .int w_25, .ref q_now_told, .int v_now_waiting]))]) (ws2 := [(q_this, .inr (11, [.ref q_now, .ref q_kept, .int v_images, .ref q_kinds, .ref q_voice, .ref q_thought, .ref q_further, .ref q_errors, .ref q_sheetBits, .ref q_sheetLength, .ref q_numbers])), (q_errors, .inl (c 0, 6, .inl v_errors)), (q_kinds, .inl (c 1, 7, .inr (.inr (.inr (.inr (fun j => some (ta j))))))), (q_now, .inr (7, [.ref q_now_wall, .int v_now_tools, .ref q_now_kind, .ref q_now_m, .ref q_now_tape, .int v_now_tapeLength, .ref q_now_moved, .ref q_now_seen, .int w_25, .ref q_now_told, .int v_now_waiting])), (q_now_kind, .inl (c 0, 6, .inl v_now_kind)), (q_now_m, .inl (c 0, 6, .inl v_now_m)), (q_now_moved, .inr (3, [.ref (c (10 + s_now_moved_names)), .ref q_now_moved_steps, .int v_now_moved_length, .ref q_now_moved_stack, .ref q_now_moved_answers, .int v_now_moved_side, .int v_now_moved_round, .ref q_now_moved_draft, .int v_now_moved_drafted, .ref q_now_moved_held, .int v_now_moved_holding, .int v_now_moved_open, .int v_now_moved_digits, .int v_now_moved_wantsOperand])), (q_now_moved_answers, .inl (c 0, n_now_moved_answers, .inl v_now_moved_answers)), (q_now_moved_stack, .inl (c 0, 50, .inl v_now_moved_stack)), (q_now_moved_steps, .inl (c 0, 50, .inl v_now_moved_steps)), (q_now_wall, .inr (10, [.int v_now_wall_rows, .int v_now_wall_columns, .ref q_now_wall_air, .ref q_now_wall_paste, .ref q_now_wall_open, .int v_now_wall_holes, .int v_now_wall_out, .int v_now_wall_night, .ref q_now_wall_met, .ref q_now_wall_line, .int v_now_wall_inLine])), (q_now_wall_air, .inl (c 0, 25, .inl v_now_wall_air)), (q_now_wall_open, .inl (c 0, 4, .inl v_now_wall_open)), (q_now_wall_paste, .inl (c 0, 25, .inl v_now_wall_paste)), (ta 0, .inr (8, [])), (ta 1, .inr (0, [])), (ta 2, .inr (4, [])), (ta 3, .inr (5, [])), (ta 4, .inr (6, [])), (ta 5, .inr (2, [])), (ta 6, .inr (1, []))]) (ms := [none, none, none, (some 0), none, none, none, none, none, none, none, none, none, none, none, none, none, none, none, none, none]) hP hD hS hA ⟨rfl, trivial⟩ (by decide +kernel) ⟨rfl, rfl, rfl, rfl, rfl, rfl, rfl, rfl, rfl, rfl, rfl, rfl, rfl, rfl, rfl, rfl, rfl, rfl, rfl, rfl, rfl, trivial⟩ (va_runV (rm := rm_X7_draw) (ws := wsX7_draw) (As := [.int 4]) (rest := []) (gFix hF) (c_X7_draw l D c q_now q_now_wall q_now_kind q_now_m q_now_tape q_now_moved q_now_seen q_now_told 4 v_now_tools v_now_tapeLength w_22 v_now_waiting r_24 w_25 hc_23 H.size) (cwV 1 hts gX11_days_X7_draw rfl rfl rfl (by decide +kernel) ⟨Nat.le_of_ble_eq_true rfl, Nat.le_of_ble_eq_true rfl⟩) (gPreV (wc := [(q_now, .inr (7, [.ref q_now_wall, .int v_now_tools, .ref q_now_kind, .ref q_now_m, .ref q_now_tape, .int v_now_tapeLength, .ref q_now_moved, .ref q_now_seen, .int w_22, .ref q_now_told, .int v_now_waiting]))]) (q := (RX7, TX7, 11)) (ci := 7) (q0 := 3) (isC := [3]) hK hX hS hA hP hD ⟨rfl, trivial⟩ (by decide +kernel) rfl rfl) rfl rfl hl.1 rfl (lv_room (Nat.le_of_ble_eq_true rfl)) dX11_days_96 ⟨Nat.le_of_ble_eq_true rfl, Nat.le_of_ble_eq_true rfl⟩) (fun H locs hP hD hS => ?_)
        refine lv_istore (lv' := [(5, .int r_24), (4, .int r_21), (3, .int r_16), (0, .ref q_this), (1, .int a_1), (2, .int x2)]) hx hb dX11_days_99 hl (by decide) rfl (fun ls hl => ?_)
        refine lv_aload_n hx hb dX11_days_101 rfl (lv_at hl 3 rfl) ?_
        refine va_get (D := D) (ci := 11) (v := .ref q_now) (C := RX11) (T := TX11) (N := 11) hx hb hts in_X11_days_X11 hown hK.1 hP 0 rfl rfl 0 (by decide) (hts (.fieldLink RX11 14 "PaperBubbles" "now" "LPaperBubbles$State;") (List.mem_of_getElem? (i := 1) rfl)) (fun _ h9 => h9) rfl dX11_days_102 ?_
        refine va_getN (D := D) (ci := 7) (v := .ref q_now_wall) (C := RX7) (T := TX7) (N := 11) hx hb hts in_X11_days_X7 hown hK.1 hP 3 rfl rfl 0 (by decide) (va_Nw.use rfl (hK.2 (.fieldLinkNest "PaperBubbles" 86 "PaperBubbles$State" "wall" "LPaperBubbles$Wall;" "PaperBubbles") (List.mem_of_getElem? (i := 18) rfl))) (fun _ h9 => h9) rfl dX11_days_105 ?_
        refine lv_aload_n hx hb dX11_days_108 rfl (lv_at hl 3 rfl) ?_
        refine lv_iload_n hx hb dX11_days_109 rfl (lv_at hl 2 rfl) ?_
        replace h := kb_ok h
        obtain ⟨r_27, hc_26, h⟩ := h
        refine gCallRr (isC := [0, 2, 3, 4, 14, 15, 16, 17, 18, 19, 20]) (wc := [(q_this, .inr (11, [.ref q_now, .ref q_kept, .int v_images, .ref q_kinds, .ref q_voice, .ref q_thought, .ref q_further, .ref q_errors, .ref q_sheetBits, .ref q_sheetLength, .ref q_numbers])), (q_kinds, .inl (c 1, 7, .inr (.inr (.inr (.inr (fun j => some (ta j))))))), (q_now, .inr (7, [.ref q_now_wall, .int v_now_tools, .ref q_now_kind, .ref q_now_m, .ref q_now_tape, .int v_now_tapeLength, .ref q_now_moved, .ref q_now_seen, .int w_25, .ref q_now_told, .int v_now_waiting])), (q_now_kind, .inl (c 0, 6, .inl v_now_kind)), (ta 0, .inr (8, [])), (ta 1, .inr (0, [])), (ta 2, .inr (4, [])), (ta 3, .inr (5, [])), (ta 4, .inr (6, [])), (ta 5, .inr (2, [])), (ta 6, .inr (1, []))]) hP hD hS hA ⟨rfl, rfl, rfl, rfl, rfl, rfl, rfl, rfl, rfl, rfl, rfl, trivial⟩ (va_runV (rm := rm_X11_kindOf) (ws := wsX11_kindOf) (As := [.int r_16]) (rest := [.ref q_now_wall]) (gFix hF) (c_X11_kindOf l D c q_this q_now q_kept q_kinds q_voice q_thought q_further q_errors q_sheetBits q_sheetLength q_numbers q_now_wall q_now_kind q_now_m q_now_tape q_now_moved q_now_seen q_now_told ta r_16 v_images v_now_tools v_now_tapeLength w_25 v_now_waiting v_now_kind r_27 hc_26 H.size) (cwV 1 hts gX11_days_X11_kindOf rfl rfl rfl (by decide +kernel) ⟨Nat.le_of_ble_eq_true rfl, Nat.le_of_ble_eq_true rfl⟩) (gPreV (wc := [(q_this, .inr (11, [.ref q_now, .ref q_kept, .int v_images, .ref q_kinds, .ref q_voice, .ref q_thought, .ref q_further, .ref q_errors, .ref q_sheetBits, .ref q_sheetLength, .ref q_numbers])), (q_kinds, .inl (c 1, 7, .inr (.inr (.inr (.inr (fun j => some (ta j))))))), (q_now, .inr (7, [.ref q_now_wall, .int v_now_tools, .ref q_now_kind, .ref q_now_m, .ref q_now_tape, .int v_now_tapeLength, .ref q_now_moved, .ref q_now_seen, .int w_25, .ref q_now_told, .int v_now_waiting])), (q_now_kind, .inl (c 0, 6, .inl v_now_kind)), (ta 0, .inr (8, [])), (ta 1, .inr (0, [])), (ta 2, .inr (4, [])), (ta 3, .inr (5, [])), (ta 4, .inr (6, [])), (ta 5, .inr (2, [])), (ta 6, .inr (1, []))]) (q := (RX11, TX11, 11)) (ci := 11) (q0 := 0) (isC := [0, 2, 3, 4, 14, 15, 16, 17, 18, 19, 20]) hK hX hS hA hP hD ⟨rfl, rfl, rfl, rfl, rfl, rfl, rfl, rfl, rfl, rfl, rfl, trivial⟩ (by decide +kernel) rfl rfl) rfl rfl hl.1 rfl (lv_room (Nat.le_of_ble_eq_true rfl)) dX11_days_110 ⟨Nat.le_of_ble_eq_true rfl, Nat.le_of_ble_eq_true rfl⟩) (fun H locs hP hS => ?_)
        refine lv_aload_n hx hb dX11_days_113 rfl (lv_at hl 3 rfl) ?_
        refine va_get (D := D) (ci := 11) (v := .ref q_now) (C := RX11) (T := TX11) (N := 11) hx hb hts in_X11_days_X11 hown hK.1 hP 0 rfl rfl 0 (by decide) (hts (.fieldLink RX11 14 "PaperBubbles" "now" "LPaperBubbles$State;") (List.mem_of_getElem? (i := 1) rfl)) (fun _ h9 => h9) rfl dX11_days_114 ?_
        refine va_getN (D := D) (ci := 7) (v := .ref q_now_m) (C := RX7) (T := TX7) (N := 11) hx hb hts in_X11_days_X7 hown hK.1 hP 3 rfl rfl 3 (by decide) (va_Nw.use rfl (hK.2 (.fieldLinkNest "PaperBubbles" 139 "PaperBubbles$State" "m" "[I" "PaperBubbles") (List.mem_of_getElem? (i := 6) rfl))) (fun _ h9 => h9) rfl dX11_days_117 ?_
        refine lv_iload_n hx hb dX11_days_120 rfl (lv_at hl 2 rfl) ?_
        replace h := chi_ok h
        obtain ⟨hi_28, h⟩ := h
        refine va_iald hx hb hK.1 hP 5 0 rfl rfl hi_28 dX11_days_121 ?_
        replace h := nm_ok h
        obtain ⟨t_29, et_29, h⟩ := h
        refine gTop et_29 ?_
        refine lv_aload_n hx hb dX11_days_122 rfl (lv_at hl 3 rfl) ?_
        refine va_get (D := D) (ci := 11) (v := .ref q_now) (C := RX11) (T := TX11) (N := 11) hx hb hts in_X11_days_X11 hown hK.1 hP 0 rfl rfl 0 (by decide) (hts (.fieldLink RX11 14 "PaperBubbles" "now" "LPaperBubbles$State;") (List.mem_of_getElem? (i := 1) rfl)) (fun _ h9 => h9) rfl dX11_days_123 ?_
        refine va_getN (D := D) (ci := 7) (v := .ref q_now_moved) (C := RX7) (T := TX7) (N := 11) hx hb hts in_X11_days_X7 hown hK.1 hP 3 rfl rfl 6 (by decide) (va_Nw.use rfl (hK.2 (.fieldLinkNest "PaperBubbles" 152 "PaperBubbles$State" "moved" "LPaperBubbles$Law;" "PaperBubbles") (List.mem_of_getElem? (i := 7) rfl))) (fun _ h9 => h9) rfl dX11_days_126 ?_
        refine lv_iload hx hb dX11_days_129 (lv_at hl 1 rfl) ?_
        refine lv_iload hx hb dX11_days_131 (lv_at hl 0 rfl) ?_
        replace h := kb5_ok h
        obtain ⟨w_31, w_32, w_33, w_34, w_35, hc_30, h⟩ := h
        refine gCallV (isC := [10, 11, 12, 13, 6, 7, 8, 9, 14, 15, 16, 17, 18, 19, 20]) (wc := [(q_now_wall, .inr (10, [.int v_now_wall_rows, .int v_now_wall_columns, .ref q_now_wall_air, .ref q_now_wall_paste, .ref q_now_wall_open, .int v_now_wall_holes, .int v_now_wall_out, .int v_now_wall_night, .ref q_now_wall_met, .ref q_now_wall_line, .int v_now_wall_inLine])), (q_now_wall_air, .inl (c 0, 25, .inl v_now_wall_air)), (q_now_wall_open, .inl (c 0, 4, .inl v_now_wall_open)), (q_now_wall_paste, .inl (c 0, 25, .inl v_now_wall_paste)), (q_now_moved, .inr (3, [.ref (c (10 + s_now_moved_names)), .ref q_now_moved_steps, .int v_now_moved_length, .ref q_now_moved_stack, .ref q_now_moved_answers, .int v_now_moved_side, .int v_now_moved_round, .ref q_now_moved_draft, .int v_now_moved_drafted, .ref q_now_moved_held, .int v_now_moved_holding, .int v_now_moved_open, .int v_now_moved_digits, .int v_now_moved_wantsOperand])), (q_now_moved_answers, .inl (c 0, n_now_moved_answers, .inl v_now_moved_answers)), (q_now_moved_stack, .inl (c 0, 50, .inl v_now_moved_stack)), (q_now_moved_steps, .inl (c 0, 50, .inl v_now_moved_steps)), (ta 0, .inr (8, [])), (ta 1, .inr (0, [])), (ta 2, .inr (4, [])), (ta 3, .inr (5, [])), (ta 4, .inr (6, [])), (ta 5, .inr (2, [])), (ta 6, .inr (1, []))]) (w1 := [(q_now_wall, .inr (10, [.int v_now_wall_rows, .int v_now_wall_columns, .ref q_now_wall_air, .ref q_now_wall_paste, .ref q_now_wall_open, .int w_31, .int w_32, .int v_now_wall_night, .ref q_now_wall_met, .ref q_now_wall_line, .int v_now_wall_inLine])), (q_now_wall_air, .inl (c 0, 25, .inl w_33)), (q_now_wall_open, .inl (c 0, 4, .inl v_now_wall_open)), (q_now_wall_paste, .inl (c 0, 25, .inl v_now_wall_paste)), (q_now_moved, .inr (3, [.ref (c (10 + s_now_moved_names)), .ref q_now_moved_steps, .int v_now_moved_length, .ref q_now_moved_stack, .ref q_now_moved_answers, .int v_now_moved_side, .int v_now_moved_round, .ref q_now_moved_draft, .int v_now_moved_drafted, .ref q_now_moved_held, .int v_now_moved_holding, .int v_now_moved_open, .int v_now_moved_digits, .int v_now_moved_wantsOperand])), (q_now_moved_answers, .inl (c 0, n_now_moved_answers, .inl w_34)), (q_now_moved_stack, .inl (c 0, 50, .inl w_35)), (q_now_moved_steps, .inl (c 0, 50, .inl v_now_moved_steps)), (ta 0, .inr (8, [])), (ta 1, .inr (0, [])), (ta 2, .inr (4, [])), (ta 3, .inr (5, [])), (ta 4, .inr (6, [])), (ta 5, .inr (2, [])), (ta 6, .inr (1, []))]) (ws2 := [(q_this, .inr (11, [.ref q_now, .ref q_kept, .int v_images, .ref q_kinds, .ref q_voice, .ref q_thought, .ref q_further, .ref q_errors, .ref q_sheetBits, .ref q_sheetLength, .ref q_numbers])), (q_errors, .inl (c 0, 6, .inl v_errors)), (q_kinds, .inl (c 1, 7, .inr (.inr (.inr (.inr (fun j => some (ta j))))))), (q_now, .inr (7, [.ref q_now_wall, .int v_now_tools, .ref q_now_kind, .ref q_now_m, .ref q_now_tape, .int v_now_tapeLength, .ref q_now_moved, .ref q_now_seen, .int w_25, .ref q_now_told, .int v_now_waiting])), (q_now_kind, .inl (c 0, 6, .inl v_now_kind)), (q_now_m, .inl (c 0, 6, .inl v_now_m)), (q_now_moved, .inr (3, [.ref (c (10 + s_now_moved_names)), .ref q_now_moved_steps, .int v_now_moved_length, .ref q_now_moved_stack, .ref q_now_moved_answers, .int v_now_moved_side, .int v_now_moved_round, .ref q_now_moved_draft, .int v_now_moved_drafted, .ref q_now_moved_held, .int v_now_moved_holding, .int v_now_moved_open, .int v_now_moved_digits, .int v_now_moved_wantsOperand])), (q_now_moved_answers, .inl (c 0, n_now_moved_answers, .inl w_34)), (q_now_moved_stack, .inl (c 0, 50, .inl w_35)), (q_now_moved_steps, .inl (c 0, 50, .inl v_now_moved_steps)), (q_now_wall, .inr (10, [.int v_now_wall_rows, .int v_now_wall_columns, .ref q_now_wall_air, .ref q_now_wall_paste, .ref q_now_wall_open, .int w_31, .int w_32, .int v_now_wall_night, .ref q_now_wall_met, .ref q_now_wall_line, .int v_now_wall_inLine])), (q_now_wall_air, .inl (c 0, 25, .inl w_33)), (q_now_wall_open, .inl (c 0, 4, .inl v_now_wall_open)), (q_now_wall_paste, .inl (c 0, 25, .inl v_now_wall_paste)), (ta 0, .inr (8, [])), (ta 1, .inr (0, [])), (ta 2, .inr (4, [])), (ta 3, .inr (5, [])), (ta 4, .inr (6, [])), (ta 5, .inr (2, [])), (ta 6, .inr (1, []))]) (ms := [none, none, none, none, none, none, (some 4), (some 5), (some 6), (some 7), (some 0), (some 1), (some 2), (some 3), (some 8), (some 9), (some 10), (some 11), (some 12), (some 13), (some 14)]) hP hD hS hA ⟨rfl, rfl, rfl, rfl, rfl, rfl, rfl, rfl, rfl, rfl, rfl, rfl, rfl, rfl, rfl, trivial⟩ (by decide +kernel) ⟨rfl, rfl, rfl, rfl, rfl, rfl, rfl, rfl, rfl, rfl, rfl, rfl, rfl, rfl, rfl, rfl, rfl, rfl, rfl, rfl, rfl, trivial⟩ (va_runV (rm := rm_X10_strike) (ws := wsX10_strike) (As := [.ref (ta r_27.toNatClampNeg), .int t_29, .ref q_now_moved, .int r_21, .int r_24]) (rest := []) (gFix hF) (c_X10_strike l D c q_now_wall q_now_moved q_now_wall_air q_now_wall_paste q_now_wall_open q_now_wall_met q_now_wall_line q_now_moved_steps q_now_moved_stack q_now_moved_answers q_now_moved_draft q_now_moved_held ta s_now_moved_names n_now_moved_answers t_29 r_21 r_24 r_27 v_now_wall_rows v_now_wall_columns v_now_wall_holes v_now_wall_out v_now_wall_night v_now_wall_inLine v_now_wall_air v_now_wall_open v_now_wall_paste v_now_moved_length v_now_moved_side v_now_moved_round v_now_moved_drafted v_now_moved_holding v_now_moved_open v_now_moved_digits v_now_moved_wantsOperand v_now_moved_answers v_now_moved_stack v_now_moved_steps w_31 w_32 w_33 w_34 w_35 hc_30 H.size) (cwV 5 hts gX11_days_X10_strike rfl rfl rfl (by decide +kernel) ⟨Nat.le_of_ble_eq_true rfl, Nat.le_of_ble_eq_true rfl⟩) (gPreV (wc := [(q_now_wall, .inr (10, [.int v_now_wall_rows, .int v_now_wall_columns, .ref q_now_wall_air, .ref q_now_wall_paste, .ref q_now_wall_open, .int v_now_wall_holes, .int v_now_wall_out, .int v_now_wall_night, .ref q_now_wall_met, .ref q_now_wall_line, .int v_now_wall_inLine])), (q_now_wall_air, .inl (c 0, 25, .inl v_now_wall_air)), (q_now_wall_open, .inl (c 0, 4, .inl v_now_wall_open)), (q_now_wall_paste, .inl (c 0, 25, .inl v_now_wall_paste)), (q_now_moved, .inr (3, [.ref (c (10 + s_now_moved_names)), .ref q_now_moved_steps, .int v_now_moved_length, .ref q_now_moved_stack, .ref q_now_moved_answers, .int v_now_moved_side, .int v_now_moved_round, .ref q_now_moved_draft, .int v_now_moved_drafted, .ref q_now_moved_held, .int v_now_moved_holding, .int v_now_moved_open, .int v_now_moved_digits, .int v_now_moved_wantsOperand])), (q_now_moved_answers, .inl (c 0, n_now_moved_answers, .inl v_now_moved_answers)), (q_now_moved_stack, .inl (c 0, 50, .inl v_now_moved_stack)), (q_now_moved_steps, .inl (c 0, 50, .inl v_now_moved_steps)), (ta 0, .inr (8, [])), (ta 1, .inr (0, [])), (ta 2, .inr (4, [])), (ta 3, .inr (5, [])), (ta 4, .inr (6, [])), (ta 5, .inr (2, [])), (ta 6, .inr (1, []))]) (q := (RX10, TX10, 11)) (ci := 10) (q0 := 10) (isC := [10, 11, 12, 13, 6, 7, 8, 9, 14, 15, 16, 17, 18, 19, 20]) hK hX hS hA hP hD ⟨rfl, rfl, rfl, rfl, rfl, rfl, rfl, rfl, rfl, rfl, rfl, rfl, rfl, rfl, rfl, trivial⟩ (by decide +kernel) rfl rfl) rfl rfl hl.1 rfl (lv_room (Nat.le_of_ble_eq_true rfl)) dX11_days_133 ⟨Nat.le_of_ble_eq_true rfl, Nat.le_of_ble_eq_true rfl⟩) (fun H locs hP hD hS => ?_)
        refine lv_aload_n hx hb dX11_days_136 rfl (lv_at hl 3 rfl) ?_
        refine va_get (D := D) (ci := 11) (v := .ref q_now) (C := RX11) (T := TX11) (N := 11) hx hb hts in_X11_days_X11 hown hK.1 hP 0 rfl rfl 0 (by decide) (hts (.fieldLink RX11 14 "PaperBubbles" "now" "LPaperBubbles$State;") (List.mem_of_getElem? (i := 1) rfl)) (fun _ h9 => h9) rfl dX11_days_137 ?_
        refine va_getN (D := D) (ci := 7) (v := .ref q_now_wall) (C := RX7) (T := TX7) (N := 11) hx hb hts in_X11_days_X7 hown hK.1 hP 3 rfl rfl 0 (by decide) (va_Nw.use rfl (hK.2 (.fieldLinkNest "PaperBubbles" 86 "PaperBubbles$State" "wall" "LPaperBubbles$Wall;" "PaperBubbles") (List.mem_of_getElem? (i := 18) rfl))) (fun _ h9 => h9) rfl dX11_days_140 ?_
        replace h := kb3_ok h
        obtain ⟨w_37, w_38, w_39, hc_36, h⟩ := h
        refine gCallV (isC := [10, 11, 13]) (wc := [(q_now_wall, .inr (10, [.int v_now_wall_rows, .int v_now_wall_columns, .ref q_now_wall_air, .ref q_now_wall_paste, .ref q_now_wall_open, .int w_31, .int w_32, .int v_now_wall_night, .ref q_now_wall_met, .ref q_now_wall_line, .int v_now_wall_inLine])), (q_now_wall_air, .inl (c 0, 25, .inl w_33)), (q_now_wall_paste, .inl (c 0, 25, .inl v_now_wall_paste))]) (w1 := [(q_now_wall, .inr (10, [.int v_now_wall_rows, .int v_now_wall_columns, .ref q_now_wall_air, .ref q_now_wall_paste, .ref q_now_wall_open, .int w_31, .int w_32, .int w_37, .ref q_now_wall_met, .ref q_now_wall_line, .int v_now_wall_inLine])), (q_now_wall_air, .inl (c 0, 25, .inl w_38)), (q_now_wall_paste, .inl (c 0, 25, .inl w_39))]) (ws2 := [(q_this, .inr (11, [.ref q_now, .ref q_kept, .int v_images, .ref q_kinds, .ref q_voice, .ref q_thought, .ref q_further, .ref q_errors, .ref q_sheetBits, .ref q_sheetLength, .ref q_numbers])), (q_errors, .inl (c 0, 6, .inl v_errors)), (q_kinds, .inl (c 1, 7, .inr (.inr (.inr (.inr (fun j => some (ta j))))))), (q_now, .inr (7, [.ref q_now_wall, .int v_now_tools, .ref q_now_kind, .ref q_now_m, .ref q_now_tape, .int v_now_tapeLength, .ref q_now_moved, .ref q_now_seen, .int w_25, .ref q_now_told, .int v_now_waiting])), (q_now_kind, .inl (c 0, 6, .inl v_now_kind)), (q_now_m, .inl (c 0, 6, .inl v_now_m)), (q_now_moved, .inr (3, [.ref (c (10 + s_now_moved_names)), .ref q_now_moved_steps, .int v_now_moved_length, .ref q_now_moved_stack, .ref q_now_moved_answers, .int v_now_moved_side, .int v_now_moved_round, .ref q_now_moved_draft, .int v_now_moved_drafted, .ref q_now_moved_held, .int v_now_moved_holding, .int v_now_moved_open, .int v_now_moved_digits, .int v_now_moved_wantsOperand])), (q_now_moved_answers, .inl (c 0, n_now_moved_answers, .inl w_34)), (q_now_moved_stack, .inl (c 0, 50, .inl w_35)), (q_now_moved_steps, .inl (c 0, 50, .inl v_now_moved_steps)), (q_now_wall, .inr (10, [.int v_now_wall_rows, .int v_now_wall_columns, .ref q_now_wall_air, .ref q_now_wall_paste, .ref q_now_wall_open, .int w_31, .int w_32, .int w_37, .ref q_now_wall_met, .ref q_now_wall_line, .int v_now_wall_inLine])), (q_now_wall_air, .inl (c 0, 25, .inl w_38)), (q_now_wall_open, .inl (c 0, 4, .inl v_now_wall_open)), (q_now_wall_paste, .inl (c 0, 25, .inl w_39)), (ta 0, .inr (8, [])), (ta 1, .inr (0, [])), (ta 2, .inr (4, [])), (ta 3, .inr (5, [])), (ta 4, .inr (6, [])), (ta 5, .inr (2, [])), (ta 6, .inr (1, []))]) (ms := [none, none, none, none, none, none, none, none, none, none, (some 0), (some 1), none, (some 2), none, none, none, none, none, none, none]) hP hD hS hA ⟨rfl, rfl, rfl, trivial⟩ (by decide +kernel) ⟨rfl, rfl, rfl, rfl, rfl, rfl, rfl, rfl, rfl, rfl, rfl, rfl, rfl, rfl, rfl, rfl, rfl, rfl, rfl, rfl, rfl, trivial⟩ (va_runV (rm := rm_X10_passNight) (ws := wsX10_passNight) (As := []) (rest := []) (gFix hF) (c_X10_passNight l D c q_now_wall q_now_wall_air q_now_wall_paste q_now_wall_open q_now_wall_met q_now_wall_line v_now_wall_rows v_now_wall_columns w_31 w_32 v_now_wall_night v_now_wall_inLine w_33 v_now_wall_paste w_37 w_38 w_39 hc_36 H.size) (cwV 0 hts gX11_days_X10_passNight rfl rfl rfl (by decide +kernel) ⟨Nat.le_of_ble_eq_true rfl, Nat.le_of_ble_eq_true rfl⟩) (gPreV (wc := [(q_now_wall, .inr (10, [.int v_now_wall_rows, .int v_now_wall_columns, .ref q_now_wall_air, .ref q_now_wall_paste, .ref q_now_wall_open, .int w_31, .int w_32, .int v_now_wall_night, .ref q_now_wall_met, .ref q_now_wall_line, .int v_now_wall_inLine])), (q_now_wall_air, .inl (c 0, 25, .inl w_33)), (q_now_wall_paste, .inl (c 0, 25, .inl v_now_wall_paste))]) (q := (RX10, TX10, 11)) (ci := 10) (q0 := 10) (isC := [10, 11, 13]) hK hX hS hA hP hD ⟨rfl, rfl, rfl, trivial⟩ (by decide +kernel) rfl rfl) rfl rfl hl.1 rfl (lv_room (Nat.le_of_ble_eq_true rfl)) dX11_days_143 ⟨Nat.le_of_ble_eq_true rfl, Nat.le_of_ble_eq_true rfl⟩) (fun H locs hP hD hS => ?_)
        replace h := nm_ok h
        obtain ⟨t_40, et_40, h⟩ := h
        refine lv_iinc (v := t_40) (lv' := [(2, .int t_40), (5, .int r_24), (4, .int r_21), (3, .int r_16), (0, .ref q_this), (1, .int a_1)]) hx hb dX11_days_146 hl (k := 5) rfl (by rw [et_40]; rfl) (by decide) rfl (fun ls hl => ?_)
        refine lv_goto (tgt := 52) hx hb dX11_days_149 (by decide) ?_
        exact ih t_40 v_errors w_25 w_34 w_35 w_31 w_32 w_37 w_38 w_39 H locs hP hD hS ls (lv_sub hl [4, 5, 0] rfl) h
  unfold f_X11_days at h
  refine lv_iload_n hx hb dX11_days_0 rfl (lv_at hl 1 rfl) ?_
  refine lv_iconst (v := 1) hx hb dX11_days_1 (by decide) ?_
  refine lv_bipush (v := 30) hx hb dX11_days_2 (by decide) ?_
  replace h := kb_ok h
  obtain ⟨r_2, hc_1, h⟩ := h
  refine gCallIr (isC := []) (wc := []) hP hD hS hA trivial (va_runS (rm := rm_X11_within) (ws := wsX11_within) (As := [.int a_1, .int 1, .int 30]) (rest := []) (gFix hF) (c_X11_within l D c a_1 1 30 r_2 hc_1 s.heap.size) (va_cwS 3 hts gX11_days_X11_within rfl rfl rfl (by decide +kernel) ⟨Nat.le_of_ble_eq_true rfl, Nat.le_of_ble_eq_true rfl⟩) (gPreS (wc := []) (isC := []) hK hX hS hA hP hD trivial (by decide +kernel)) rfl rfl hl.1 rfl (lv_room (Nat.le_of_ble_eq_true rfl)) dX11_days_4 ⟨Nat.le_of_ble_eq_true rfl, Nat.le_of_ble_eq_true rfl⟩) (fun H locs hP hS => ?_)
  refine lv_if_ne (tgt := 16) hx hb dX11_days_7 (by decide) (fun c_3 => ?_) (fun c_3 => ?_)
  · replace h := it_f c_3 h
    refine lv_aload_n hx hb dX11_days_16 rfl (lv_at hl 0 rfl) ?_
    refine va_get (D := D) (ci := 11) (v := .ref q_now) (C := RX11) (T := TX11) (N := 11) hx hb hts in_X11_days_X11 hown hK.1 hP 0 rfl rfl 0 (by decide) (hts (.fieldLink RX11 14 "PaperBubbles" "now" "LPaperBubbles$State;") (List.mem_of_getElem? (i := 1) rfl)) (fun _ h9 => h9) rfl dX11_days_17 ?_
    refine va_getN (D := D) (ci := 7) (v := .ref q_now_wall) (C := RX7) (T := TX7) (N := 11) hx hb hts in_X11_days_X7 hown hK.1 hP 3 rfl rfl 0 (by decide) (va_Nw.use rfl (hK.2 (.fieldLinkNest "PaperBubbles" 86 "PaperBubbles$State" "wall" "LPaperBubbles$Wall;" "PaperBubbles") (List.mem_of_getElem? (i := 18) rfl))) (fun _ h9 => h9) rfl dX11_days_20 ?_
    refine va_getN (D := D) (ci := 10) (v := .int v_now_wall_night) (C := RX10) (T := TX10) (N := 11) hx hb hts in_X11_days_X10 hown hK.1 hP 10 rfl rfl 7 (by decide) (va_Nw.use rfl (hK.2 (.fieldLinkNest "PaperBubbles" 198 "PaperBubbles$Wall" "night" "I" "PaperBubbles") (List.mem_of_getElem? (i := 10) rfl))) (fun _ h9 => h9) rfl dX11_days_23 ?_
    refine lv_sipush (v := 999) hx hb dX11_days_26 (by decide) ?_
    refine lv_iload_n hx hb dX11_days_29 rfl (lv_at hl 1 rfl) ?_
    refine lv_isub hx hb dX11_days_30 ?_
    refine lv_icmp_gt (tgt := 44) hx hb dX11_days_31 (by decide) (fun c_4 => ?_) (fun c_4 => ?_)
    · replace h := it_t c_4 h
      exact t_L44 v_errors v_now_z v_now_moved_answers v_now_moved_stack v_now_wall_holes v_now_wall_out v_now_wall_night v_now_wall_air v_now_wall_paste H locs hP hD hS ls (lv_sub hl [0] rfl) h
    · replace h := it_f c_4 h
      refine lv_aload_n hx hb dX11_days_34 rfl (lv_at hl 0 rfl) ?_
      refine va_get (D := D) (ci := 11) (v := .ref q_now) (C := RX11) (T := TX11) (N := 11) hx hb hts in_X11_days_X11 hown hK.1 hP 0 rfl rfl 0 (by decide) (hts (.fieldLink RX11 14 "PaperBubbles" "now" "LPaperBubbles$State;") (List.mem_of_getElem? (i := 1) rfl)) (fun _ h9 => h9) rfl dX11_days_35 ?_
      refine va_getN (D := D) (ci := 7) (v := .int v_now_tools) (C := RX7) (T := TX7) (N := 11) hx hb hts in_X11_days_X7 hown hK.1 hP 3 rfl rfl 1 (by decide) (va_Nw.use rfl (hK.2 (.fieldLinkNest "PaperBubbles" 132 "PaperBubbles$State" "tools" "I" "PaperBubbles") (List.mem_of_getElem? (i := 4) rfl))) (fun _ h9 => h9) rfl dX11_days_38 ?_
      refine lv_if_ne (tgt := 50) hx hb dX11_days_41 (by decide) (fun c_5 => ?_) (fun c_5 => ?_)
      · replace h := it_f c_5 h
        refine lv_iconst (v := 0) hx hb dX11_days_50 (by decide) ?_
        refine lv_istore_n (lv' := [(2, .int 0), (0, .ref q_this), (1, .int a_1)]) hx hb dX11_days_51 rfl hl (by decide) rfl (fun ls hl => ?_)
        exact t_L52 gFuel 0 v_errors v_now_z v_now_moved_answers v_now_moved_stack v_now_wall_holes v_now_wall_out v_now_wall_night v_now_wall_air v_now_wall_paste H locs hP hD hS ls (lv_sub hl [1, 2, 0] rfl) h
      · replace h := it_t c_5 h
        exact t_L44 v_errors v_now_z v_now_moved_answers v_now_moved_stack v_now_wall_holes v_now_wall_out v_now_wall_night v_now_wall_air v_now_wall_paste H locs hP hD hS ls (lv_sub hl [0] rfl) h
  · replace h := it_t c_3 h
    refine lv_aload_n hx hb dX11_days_10 rfl (lv_at hl 0 rfl) ?_
    refine lv_iconst (v := 1) hx hb dX11_days_11 (by decide) ?_
    replace h := kb2_ok h
    obtain ⟨r_7, w_8, hc_6, h⟩ := h
    refine gCallI (isC := [0, 1]) (wc := [(q_this, .inr (11, [.ref q_now, .ref q_kept, .int v_images, .ref q_kinds, .ref q_voice, .ref q_thought, .ref q_further, .ref q_errors, .ref q_sheetBits, .ref q_sheetLength, .ref q_numbers])), (q_errors, .inl (c 0, 6, .inl v_errors))]) (w1 := [(q_this, .inr (11, [.ref q_now, .ref q_kept, .int v_images, .ref q_kinds, .ref q_voice, .ref q_thought, .ref q_further, .ref q_errors, .ref q_sheetBits, .ref q_sheetLength, .ref q_numbers])), (q_errors, .inl (c 0, 6, .inl w_8))]) (ws2 := [(q_this, .inr (11, [.ref q_now, .ref q_kept, .int v_images, .ref q_kinds, .ref q_voice, .ref q_thought, .ref q_further, .ref q_errors, .ref q_sheetBits, .ref q_sheetLength, .ref q_numbers])), (q_errors, .inl (c 0, 6, .inl w_8)), (q_kinds, .inl (c 1, 7, .inr (.inr (.inr (.inr (fun j => some (ta j))))))), (q_now, .inr (7, [.ref q_now_wall, .int v_now_tools, .ref q_now_kind, .ref q_now_m, .ref q_now_tape, .int v_now_tapeLength, .ref q_now_moved, .ref q_now_seen, .int v_now_z, .ref q_now_told, .int v_now_waiting])), (q_now_kind, .inl (c 0, 6, .inl v_now_kind)), (q_now_m, .inl (c 0, 6, .inl v_now_m)), (q_now_moved, .inr (3, [.ref (c (10 + s_now_moved_names)), .ref q_now_moved_steps, .int v_now_moved_length, .ref q_now_moved_stack, .ref q_now_moved_answers, .int v_now_moved_side, .int v_now_moved_round, .ref q_now_moved_draft, .int v_now_moved_drafted, .ref q_now_moved_held, .int v_now_moved_holding, .int v_now_moved_open, .int v_now_moved_digits, .int v_now_moved_wantsOperand])), (q_now_moved_answers, .inl (c 0, n_now_moved_answers, .inl v_now_moved_answers)), (q_now_moved_stack, .inl (c 0, 50, .inl v_now_moved_stack)), (q_now_moved_steps, .inl (c 0, 50, .inl v_now_moved_steps)), (q_now_wall, .inr (10, [.int v_now_wall_rows, .int v_now_wall_columns, .ref q_now_wall_air, .ref q_now_wall_paste, .ref q_now_wall_open, .int v_now_wall_holes, .int v_now_wall_out, .int v_now_wall_night, .ref q_now_wall_met, .ref q_now_wall_line, .int v_now_wall_inLine])), (q_now_wall_air, .inl (c 0, 25, .inl v_now_wall_air)), (q_now_wall_open, .inl (c 0, 4, .inl v_now_wall_open)), (q_now_wall_paste, .inl (c 0, 25, .inl v_now_wall_paste)), (ta 0, .inr (8, [])), (ta 1, .inr (0, [])), (ta 2, .inr (4, [])), (ta 3, .inr (5, [])), (ta 4, .inr (6, [])), (ta 5, .inr (2, [])), (ta 6, .inr (1, []))]) (ms := [(some 0), (some 1), none, none, none, none, none, none, none, none, none, none, none, none, none, none, none, none, none, none, none]) hP hD hS hA ⟨rfl, rfl, trivial⟩ (by decide +kernel) ⟨rfl, rfl, rfl, rfl, rfl, rfl, rfl, rfl, rfl, rfl, rfl, rfl, rfl, rfl, rfl, rfl, rfl, rfl, rfl, rfl, rfl, trivial⟩ (va_runV (rm := rm_X11_error) (ws := wsX11_error) (As := [.int 1]) (rest := []) (gFix hF) (c_X11_error l D c q_this q_now q_kept q_kinds q_voice q_thought q_further q_errors q_sheetBits q_sheetLength q_numbers 1 v_images v_errors r_7 w_8 hc_6 H.size) (cwV 1 hts gX11_days_X11_error rfl rfl rfl (by decide +kernel) ⟨Nat.le_of_ble_eq_true rfl, Nat.le_of_ble_eq_true rfl⟩) (gPreV (wc := [(q_this, .inr (11, [.ref q_now, .ref q_kept, .int v_images, .ref q_kinds, .ref q_voice, .ref q_thought, .ref q_further, .ref q_errors, .ref q_sheetBits, .ref q_sheetLength, .ref q_numbers])), (q_errors, .inl (c 0, 6, .inl v_errors))]) (q := (RX11, TX11, 11)) (ci := 11) (q0 := 0) (isC := [0, 1]) hK hX hS hA hP hD ⟨rfl, rfl, trivial⟩ (by decide +kernel) rfl rfl) rfl rfl hl.1 rfl (lv_room (Nat.le_of_ble_eq_true rfl)) dX11_days_12 ⟨Nat.le_of_ble_eq_true rfl, Nat.le_of_ble_eq_true rfl⟩) (fun H locs hP hD hS => ?_)
    replace h := so10 h
    obtain ⟨z0, z1, z2, z3, z4, z5, z6, z7, z8, z9⟩ := h
    subst z0 z1 z2 z3 z4 z5 z6 z7 z8 z9
    exact gIret hF hP hD hS rfl dX11_days_15
set_option maxRecDepth 20000 in
theorem in_X11_edge_X10 : ∀ w ∈ u_ws RX10 TX10 11, w ∈ wsX11_edge := by decide +kernel
set_option maxRecDepth 20000 in
theorem in_X11_edge_X11 : ∀ w ∈ u_ws RX11 TX11 11, w ∈ wsX11_edge := by decide +kernel
set_option maxRecDepth 20000 in
theorem in_X11_edge_X7 : ∀ w ∈ u_ws RX7 TX7 11, w ∈ wsX11_edge := by decide +kernel
def f_X11_edge_L16 (v_errors : Nat → Int32) (v_now_wall_open : Nat → Int32) : Option (Int32 × (Nat → Int32) × (Nat → Int32)) :=
  kb2 (f_X11_error 1 v_errors) fun r_12 w_13 =>
  some (r_12, w_13, v_now_wall_open)

def f_X11_edge (a_1 : Int32) (a_2 : Int32) (v_errors : Nat → Int32) (v_now_wall_open : Nat → Int32) : Option (Int32 × (Nat → Int32) × (Nat → Int32)) :=
  kb (f_X11_isWay a_1) fun r_2 =>
  if r_2 = 0 then
    f_X11_edge_L16 v_errors v_now_wall_open
  else
    kb (f_X11_within a_2 0 1) fun r_5 =>
    if r_5 = 0 then
      f_X11_edge_L16 v_errors v_now_wall_open
    else
      chi a_1 4 <|
      nm (v_now_wall_open a_1.toNatClampNeg : Int32) fun t_8 =>
      chi a_1 4 <|
      nm (upd v_now_wall_open a_1.toNatClampNeg a_2) fun w_10 =>
      some (t_8, v_errors, w_10)

abbrev rm_X11_edge : Room := { frames := 2, cells := 0, slots := 0, locals := 43 }
set_option maxHeartbeats 4000000 in
set_option maxRecDepth 100000 in
theorem c_X11_edge (l : Launch) (D : va_G) (c : Nat → ClassId) (q_this q_now q_kept q_kinds q_voice q_thought q_further q_errors q_sheetBits q_sheetLength q_numbers q_now_wall q_now_kind q_now_m q_now_tape q_now_moved q_now_seen q_now_told q_now_wall_air q_now_wall_paste q_now_wall_open q_now_wall_met q_now_wall_line : Nat) (a_1 : Int32) (a_2 : Int32) (v_images : Int32) (v_errors : Nat → Int32) (v_now_tools : Int32) (v_now_tapeLength : Int32) (v_now_z : Int32) (v_now_waiting : Int32) (v_now_wall_rows : Int32) (v_now_wall_columns : Int32) (v_now_wall_holes : Int32) (v_now_wall_out : Int32) (v_now_wall_night : Int32) (v_now_wall_inLine : Int32) (v_now_wall_open : Nat → Int32) (o_r : Int32) (o_v_errors : Nat → Int32) (o_v_now_wall_open : Nat → Int32) (h : f_X11_edge a_1 a_2 v_errors v_now_wall_open = some (o_r, o_v_errors, o_v_now_wall_open)) : gMI l yX11_edge wsX11_edge rm_X11_edge D c [.ref q_this, .int a_1, .int a_2] [(q_this, .inr (11, [.ref q_now, .ref q_kept, .int v_images, .ref q_kinds, .ref q_voice, .ref q_thought, .ref q_further, .ref q_errors, .ref q_sheetBits, .ref q_sheetLength, .ref q_numbers])), (q_errors, .inl (c 0, 6, .inl v_errors)), (q_now, .inr (7, [.ref q_now_wall, .int v_now_tools, .ref q_now_kind, .ref q_now_m, .ref q_now_tape, .int v_now_tapeLength, .ref q_now_moved, .ref q_now_seen, .int v_now_z, .ref q_now_told, .int v_now_waiting])), (q_now_wall, .inr (10, [.int v_now_wall_rows, .int v_now_wall_columns, .ref q_now_wall_air, .ref q_now_wall_paste, .ref q_now_wall_open, .int v_now_wall_holes, .int v_now_wall_out, .int v_now_wall_night, .ref q_now_wall_met, .ref q_now_wall_line, .int v_now_wall_inLine])), (q_now_wall_open, .inl (c 0, 4, .inl v_now_wall_open))] [(q_this, .inr (11, [.ref q_now, .ref q_kept, .int v_images, .ref q_kinds, .ref q_voice, .ref q_thought, .ref q_further, .ref q_errors, .ref q_sheetBits, .ref q_sheetLength, .ref q_numbers])), (q_errors, .inl (c 0, 6, .inl o_v_errors)), (q_now, .inr (7, [.ref q_now_wall, .int v_now_tools, .ref q_now_kind, .ref q_now_m, .ref q_now_tape, .int v_now_tapeLength, .ref q_now_moved, .ref q_now_seen, .int v_now_z, .ref q_now_told, .int v_now_waiting])), (q_now_wall, .inr (10, [.int v_now_wall_rows, .int v_now_wall_columns, .ref q_now_wall_air, .ref q_now_wall_paste, .ref q_now_wall_open, .int v_now_wall_holes, .int v_now_wall_out, .int v_now_wall_night, .ref q_now_wall_met, .ref q_now_wall_line, .int v_now_wall_inLine])), (q_now_wall_open, .inl (c 0, 4, .inl o_v_now_wall_open))] o_r := by
  refine gMI_of (cc := cX11_edge) (maxL := 4) (rt := (some .int)) (by decide +kernel) rfl (Nat.le_of_ble_eq_true rfl) ?_
  intro p e s m below meth co A hF hK hX hP hD hA hS ls hl
  obtain ⟨hx, hb, hr, hts, hown, hlocks, hml⟩ := id hF
  have hl : lv_has ls 4 [(0, .ref q_this), (1, .int a_1), (2, .int a_2)] := hl
  have t_L16 : ∀ (v_errors : Nat → Int32) (v_now_wall_open : Nat → Int32) (H : Heap) (locs : List Loc), va_P D gcl [(q_this, .inr (11, [.ref q_now, .ref q_kept, .int v_images, .ref q_kinds, .ref q_voice, .ref q_thought, .ref q_further, .ref q_errors, .ref q_sheetBits, .ref q_sheetLength, .ref q_numbers])), (q_errors, .inl (c 0, 6, .inl v_errors)), (q_now, .inr (7, [.ref q_now_wall, .int v_now_tools, .ref q_now_kind, .ref q_now_m, .ref q_now_tape, .int v_now_tapeLength, .ref q_now_moved, .ref q_now_seen, .int v_now_z, .ref q_now_told, .int v_now_waiting])), (q_now_wall, .inr (10, [.int v_now_wall_rows, .int v_now_wall_columns, .ref q_now_wall_air, .ref q_now_wall_paste, .ref q_now_wall_open, .int v_now_wall_holes, .int v_now_wall_out, .int v_now_wall_night, .ref q_now_wall_met, .ref q_now_wall_line, .int v_now_wall_inLine])), (q_now_wall_open, .inl (c 0, 4, .inl v_now_wall_open))] H → va_D A [(q_this, .inr (11, [.ref q_now, .ref q_kept, .int v_images, .ref q_kinds, .ref q_voice, .ref q_thought, .ref q_further, .ref q_errors, .ref q_sheetBits, .ref q_sheetLength, .ref q_numbers])), (q_errors, .inl (c 0, 6, .inl v_errors)), (q_now, .inr (7, [.ref q_now_wall, .int v_now_tools, .ref q_now_kind, .ref q_now_m, .ref q_now_tape, .int v_now_tapeLength, .ref q_now_moved, .ref q_now_seen, .int v_now_z, .ref q_now_told, .int v_now_waiting])), (q_now_wall, .inr (10, [.int v_now_wall_rows, .int v_now_wall_columns, .ref q_now_wall_air, .ref q_now_wall_paste, .ref q_now_wall_open, .int v_now_wall_holes, .int v_now_wall_out, .int v_now_wall_night, .ref q_now_wall_met, .ref q_now_wall_line, .int v_now_wall_inLine])), (q_now_wall_open, .inl (c 0, 4, .inl v_now_wall_open))] → va_S A s.heap H locs → ∀ ls, lv_has ls 4 [(0, .ref q_this)] → f_X11_edge_L16 v_errors v_now_wall_open = some (o_r, o_v_errors, o_v_now_wall_open) → W p l e (headSpec wsX11_edge rm_X11_edge).room s m [.ref q_this, .int a_1, .int a_2].toArray below meth co H locs 0 0 (gQI D [(q_this, .inr (11, [.ref q_now, .ref q_kept, .int v_images, .ref q_kinds, .ref q_voice, .ref q_thought, .ref q_further, .ref q_errors, .ref q_sheetBits, .ref q_sheetLength, .ref q_numbers])), (q_errors, .inl (c 0, 6, .inl o_v_errors)), (q_now, .inr (7, [.ref q_now_wall, .int v_now_tools, .ref q_now_kind, .ref q_now_m, .ref q_now_tape, .int v_now_tapeLength, .ref q_now_moved, .ref q_now_seen, .int v_now_z, .ref q_now_told, .int v_now_waiting])), (q_now_wall, .inr (10, [.int v_now_wall_rows, .int v_now_wall_columns, .ref q_now_wall_air, .ref q_now_wall_paste, .ref q_now_wall_open, .int v_now_wall_holes, .int v_now_wall_out, .int v_now_wall_night, .ref q_now_wall_met, .ref q_now_wall_line, .int v_now_wall_inLine])), (q_now_wall_open, .inl (c 0, 4, .inl o_v_now_wall_open))] o_r A below [.ref q_this, .int a_1, .int a_2] s) (F0 m 16 ls []) := by
    intro  v_errors v_now_wall_open H locs hP hD hS ls hl h
    unfold f_X11_edge_L16 at h
    refine lv_aload_n hx hb dX11_edge_16 rfl (lv_at hl 0 rfl) ?_
    refine lv_iconst (v := 1) hx hb dX11_edge_17 (by decide) ?_
    replace h := kb2_ok h
    obtain ⟨r_12, w_13, hc_11, h⟩ := h
    refine gCallI (isC := [0, 1]) (wc := [(q_this, .inr (11, [.ref q_now, .ref q_kept, .int v_images, .ref q_kinds, .ref q_voice, .ref q_thought, .ref q_further, .ref q_errors, .ref q_sheetBits, .ref q_sheetLength, .ref q_numbers])), (q_errors, .inl (c 0, 6, .inl v_errors))]) (w1 := [(q_this, .inr (11, [.ref q_now, .ref q_kept, .int v_images, .ref q_kinds, .ref q_voice, .ref q_thought, .ref q_further, .ref q_errors, .ref q_sheetBits, .ref q_sheetLength, .ref q_numbers])), (q_errors, .inl (c 0, 6, .inl w_13))]) (ws2 := [(q_this, .inr (11, [.ref q_now, .ref q_kept, .int v_images, .ref q_kinds, .ref q_voice, .ref q_thought, .ref q_further, .ref q_errors, .ref q_sheetBits, .ref q_sheetLength, .ref q_numbers])), (q_errors, .inl (c 0, 6, .inl w_13)), (q_now, .inr (7, [.ref q_now_wall, .int v_now_tools, .ref q_now_kind, .ref q_now_m, .ref q_now_tape, .int v_now_tapeLength, .ref q_now_moved, .ref q_now_seen, .int v_now_z, .ref q_now_told, .int v_now_waiting])), (q_now_wall, .inr (10, [.int v_now_wall_rows, .int v_now_wall_columns, .ref q_now_wall_air, .ref q_now_wall_paste, .ref q_now_wall_open, .int v_now_wall_holes, .int v_now_wall_out, .int v_now_wall_night, .ref q_now_wall_met, .ref q_now_wall_line, .int v_now_wall_inLine])), (q_now_wall_open, .inl (c 0, 4, .inl v_now_wall_open))]) (ms := [(some 0), (some 1), none, none, none]) hP hD hS hA ⟨rfl, rfl, trivial⟩ (by decide +kernel) ⟨rfl, rfl, rfl, rfl, rfl, trivial⟩ (va_runV (rm := rm_X11_error) (ws := wsX11_error) (As := [.int 1]) (rest := []) (gFix hF) (c_X11_error l D c q_this q_now q_kept q_kinds q_voice q_thought q_further q_errors q_sheetBits q_sheetLength q_numbers 1 v_images v_errors r_12 w_13 hc_11 H.size) (cwV 1 hts gX11_edge_X11_error rfl rfl rfl (by decide +kernel) ⟨Nat.le_of_ble_eq_true rfl, Nat.le_of_ble_eq_true rfl⟩) (gPreV (wc := [(q_this, .inr (11, [.ref q_now, .ref q_kept, .int v_images, .ref q_kinds, .ref q_voice, .ref q_thought, .ref q_further, .ref q_errors, .ref q_sheetBits, .ref q_sheetLength, .ref q_numbers])), (q_errors, .inl (c 0, 6, .inl v_errors))]) (q := (RX11, TX11, 11)) (ci := 11) (q0 := 0) (isC := [0, 1]) hK hX hS hA hP hD ⟨rfl, rfl, trivial⟩ (by decide +kernel) rfl rfl) rfl rfl hl.1 rfl (lv_room (Nat.le_of_ble_eq_true rfl)) dX11_edge_18 ⟨Nat.le_of_ble_eq_true rfl, Nat.le_of_ble_eq_true rfl⟩) (fun H locs hP hD hS => ?_)
    replace h := so3 h
    obtain ⟨z0, z1, z2⟩ := h
    subst z0 z1 z2
    exact gIret hF hP hD hS rfl dX11_edge_21
  unfold f_X11_edge at h
  refine lv_iload_n hx hb dX11_edge_0 rfl (lv_at hl 1 rfl) ?_
  replace h := kb_ok h
  obtain ⟨r_2, hc_1, h⟩ := h
  refine gCallIr (isC := []) (wc := []) hP hD hS hA trivial (va_runS (rm := rm_X11_isWay) (ws := wsX11_isWay) (As := [.int a_1]) (rest := []) (gFix hF) (c_X11_isWay l D c a_1 r_2 hc_1 s.heap.size) (va_cwS 1 hts gX11_edge_X11_isWay rfl rfl rfl (by decide +kernel) ⟨Nat.le_of_ble_eq_true rfl, Nat.le_of_ble_eq_true rfl⟩) (gPreS (wc := []) (isC := []) hK hX hS hA hP hD trivial (by decide +kernel)) rfl rfl hl.1 rfl (lv_room (Nat.le_of_ble_eq_true rfl)) dX11_edge_1 ⟨Nat.le_of_ble_eq_true rfl, Nat.le_of_ble_eq_true rfl⟩) (fun H locs hP hS => ?_)
  refine lv_if_eq (tgt := 16) hx hb dX11_edge_4 (by decide) (fun c_3 => ?_) (fun c_3 => ?_)
  · replace h := it_t c_3 h
    exact t_L16 v_errors v_now_wall_open H locs hP hD hS ls (lv_sub hl [0] rfl) h
  · replace h := it_f c_3 h
    refine lv_iload_n hx hb dX11_edge_7 rfl (lv_at hl 2 rfl) ?_
    refine lv_iconst (v := 0) hx hb dX11_edge_8 (by decide) ?_
    refine lv_iconst (v := 1) hx hb dX11_edge_9 (by decide) ?_
    replace h := kb_ok h
    obtain ⟨r_5, hc_4, h⟩ := h
    refine gCallIr (isC := []) (wc := []) hP hD hS hA trivial (va_runS (rm := rm_X11_within) (ws := wsX11_within) (As := [.int a_2, .int 0, .int 1]) (rest := []) (gFix hF) (c_X11_within l D c a_2 0 1 r_5 hc_4 H.size) (va_cwS 3 hts gX11_edge_X11_within rfl rfl rfl (by decide +kernel) ⟨Nat.le_of_ble_eq_true rfl, Nat.le_of_ble_eq_true rfl⟩) (gPreS (wc := []) (isC := []) hK hX hS hA hP hD trivial (by decide +kernel)) rfl rfl hl.1 rfl (lv_room (Nat.le_of_ble_eq_true rfl)) dX11_edge_10 ⟨Nat.le_of_ble_eq_true rfl, Nat.le_of_ble_eq_true rfl⟩) (fun H locs hP hS => ?_)
    refine lv_if_ne (tgt := 22) hx hb dX11_edge_13 (by decide) (fun c_6 => ?_) (fun c_6 => ?_)
    · replace h := it_f c_6 h
      refine lv_aload_n hx hb dX11_edge_22 rfl (lv_at hl 0 rfl) ?_
      refine va_get (D := D) (ci := 11) (v := .ref q_now) (C := RX11) (T := TX11) (N := 11) hx hb hts in_X11_edge_X11 hown hK.1 hP 0 rfl rfl 0 (by decide) (hts (.fieldLink RX11 14 "PaperBubbles" "now" "LPaperBubbles$State;") (List.mem_of_getElem? (i := 1) rfl)) (fun _ h9 => h9) rfl dX11_edge_23 ?_
      refine va_getN (D := D) (ci := 7) (v := .ref q_now_wall) (C := RX7) (T := TX7) (N := 11) hx hb hts in_X11_edge_X7 hown hK.1 hP 2 rfl rfl 0 (by decide) (va_Nw.use rfl (hK.2 (.fieldLinkNest "PaperBubbles" 86 "PaperBubbles$State" "wall" "LPaperBubbles$Wall;" "PaperBubbles") (List.mem_of_getElem? (i := 18) rfl))) (fun _ h9 => h9) rfl dX11_edge_26 ?_
      refine va_getN (D := D) (ci := 10) (v := .ref q_now_wall_open) (C := RX10) (T := TX10) (N := 11) hx hb hts in_X11_edge_X10 hown hK.1 hP 3 rfl rfl 4 (by decide) (va_Nw.use rfl (hK.2 (.fieldLinkNest "PaperBubbles" 129 "PaperBubbles$Wall" "open" "[I" "PaperBubbles") (List.mem_of_getElem? (i := 3) rfl))) (fun _ h9 => h9) rfl dX11_edge_29 ?_
      refine lv_iload_n hx hb dX11_edge_32 rfl (lv_at hl 1 rfl) ?_
      replace h := chi_ok h
      obtain ⟨hi_7, h⟩ := h
      refine va_iald hx hb hK.1 hP 4 0 rfl rfl hi_7 dX11_edge_33 ?_
      replace h := nm_ok h
      obtain ⟨t_8, et_8, h⟩ := h
      refine gTop et_8 ?_
      refine lv_istore_n (lv' := [(3, .int t_8), (0, .ref q_this), (1, .int a_1), (2, .int a_2)]) hx hb dX11_edge_34 rfl hl (by decide) rfl (fun ls hl => ?_)
      refine lv_aload_n hx hb dX11_edge_35 rfl (lv_at hl 1 rfl) ?_
      refine va_get (D := D) (ci := 11) (v := .ref q_now) (C := RX11) (T := TX11) (N := 11) hx hb hts in_X11_edge_X11 hown hK.1 hP 0 rfl rfl 0 (by decide) (hts (.fieldLink RX11 14 "PaperBubbles" "now" "LPaperBubbles$State;") (List.mem_of_getElem? (i := 1) rfl)) (fun _ h9 => h9) rfl dX11_edge_36 ?_
      refine va_getN (D := D) (ci := 7) (v := .ref q_now_wall) (C := RX7) (T := TX7) (N := 11) hx hb hts in_X11_edge_X7 hown hK.1 hP 2 rfl rfl 0 (by decide) (va_Nw.use rfl (hK.2 (.fieldLinkNest "PaperBubbles" 86 "PaperBubbles$State" "wall" "LPaperBubbles$Wall;" "PaperBubbles") (List.mem_of_getElem? (i := 18) rfl))) (fun _ h9 => h9) rfl dX11_edge_39 ?_
      refine va_getN (D := D) (ci := 10) (v := .ref q_now_wall_open) (C := RX10) (T := TX10) (N := 11) hx hb hts in_X11_edge_X10 hown hK.1 hP 3 rfl rfl 4 (by decide) (va_Nw.use rfl (hK.2 (.fieldLinkNest "PaperBubbles" 129 "PaperBubbles$Wall" "open" "[I" "PaperBubbles") (List.mem_of_getElem? (i := 3) rfl))) (fun _ h9 => h9) rfl dX11_edge_42 ?_
      refine lv_iload_n hx hb dX11_edge_45 rfl (lv_at hl 2 rfl) ?_
      refine lv_iload_n hx hb dX11_edge_46 rfl (lv_at hl 3 rfl) ?_
      replace h := chi_ok h
      obtain ⟨hi_9, h⟩ := h
      replace h := nm_ok h
      obtain ⟨w_10, ew_10, h⟩ := h
      refine va_iast hx hb hK.1 hP hD hS 4 0 rfl rfl hi_9 dX11_edge_47 (fun H locs hP hD hS => ?_)
      have hP : va_P D gcl [(q_this, .inr (11, [.ref q_now, .ref q_kept, .int v_images, .ref q_kinds, .ref q_voice, .ref q_thought, .ref q_further, .ref q_errors, .ref q_sheetBits, .ref q_sheetLength, .ref q_numbers])), (q_errors, .inl (c 0, 6, .inl v_errors)), (q_now, .inr (7, [.ref q_now_wall, .int v_now_tools, .ref q_now_kind, .ref q_now_m, .ref q_now_tape, .int v_now_tapeLength, .ref q_now_moved, .ref q_now_seen, .int v_now_z, .ref q_now_told, .int v_now_waiting])), (q_now_wall, .inr (10, [.int v_now_wall_rows, .int v_now_wall_columns, .ref q_now_wall_air, .ref q_now_wall_paste, .ref q_now_wall_open, .int v_now_wall_holes, .int v_now_wall_out, .int v_now_wall_night, .ref q_now_wall_met, .ref q_now_wall_line, .int v_now_wall_inLine])), (q_now_wall_open, .inl (c 0, 4, .inl w_10))] H := by subst ew_10; exact hP
      have hD : va_D A [(q_this, .inr (11, [.ref q_now, .ref q_kept, .int v_images, .ref q_kinds, .ref q_voice, .ref q_thought, .ref q_further, .ref q_errors, .ref q_sheetBits, .ref q_sheetLength, .ref q_numbers])), (q_errors, .inl (c 0, 6, .inl v_errors)), (q_now, .inr (7, [.ref q_now_wall, .int v_now_tools, .ref q_now_kind, .ref q_now_m, .ref q_now_tape, .int v_now_tapeLength, .ref q_now_moved, .ref q_now_seen, .int v_now_z, .ref q_now_told, .int v_now_waiting])), (q_now_wall, .inr (10, [.int v_now_wall_rows, .int v_now_wall_columns, .ref q_now_wall_air, .ref q_now_wall_paste, .ref q_now_wall_open, .int v_now_wall_holes, .int v_now_wall_out, .int v_now_wall_night, .ref q_now_wall_met, .ref q_now_wall_line, .int v_now_wall_inLine])), (q_now_wall_open, .inl (c 0, 4, .inl w_10))] := by subst ew_10; exact hD
      refine lv_iload_n hx hb dX11_edge_48 rfl (lv_at hl 0 rfl) ?_
      replace h := so3 h
      obtain ⟨z0, z1, z2⟩ := h
      subst z0 z1 z2
      exact gIret hF hP hD hS rfl dX11_edge_49
    · replace h := it_t c_6 h
      exact t_L16 v_errors v_now_wall_open H locs hP hD hS ls (lv_sub hl [0] rfl) h
set_option maxRecDepth 20000 in
theorem in_X7_addByte_X7 : ∀ w ∈ u_ws RX7 TX7 11, w ∈ wsX7_addByte := by decide +kernel
def f_X7_addByte (a_1 : Int32) (v_tapeLength : Int32) (v_tape : Nat → Int32) : Option (Int32 × (Nat → Int32)) :=
  kb (f_X11_within v_tapeLength 0 49) fun r_2 =>
  if r_2 = 0 then
    some (v_tapeLength, v_tape)
  else
    chi v_tapeLength 50 <|
    nm (upd v_tape v_tapeLength.toNatClampNeg a_1) fun w_5 =>
    nm (v_tapeLength + 1 : Int32) fun t_6 =>
    some (t_6, w_5)

abbrev rm_X7_addByte : Room := { frames := 1, cells := 0, slots := 0, locals := 22 }
set_option maxHeartbeats 4000000 in
set_option maxRecDepth 100000 in
theorem c_X7_addByte (l : Launch) (D : va_G) (c : Nat → ClassId) (q_this q_wall q_kind q_m q_tape q_moved q_seen q_told : Nat) (a_1 : Int32) (v_tools : Int32) (v_tapeLength : Int32) (v_z : Int32) (v_waiting : Int32) (v_tape : Nat → Int32) (o_v_tapeLength : Int32) (o_v_tape : Nat → Int32) (h : f_X7_addByte a_1 v_tapeLength v_tape = some (o_v_tapeLength, o_v_tape)) : gMV l yX7_addByte wsX7_addByte rm_X7_addByte D c [.ref q_this, .int a_1] [(q_this, .inr (7, [.ref q_wall, .int v_tools, .ref q_kind, .ref q_m, .ref q_tape, .int v_tapeLength, .ref q_moved, .ref q_seen, .int v_z, .ref q_told, .int v_waiting])), (q_tape, .inl (c 0, 50, .inl v_tape))] [(q_this, .inr (7, [.ref q_wall, .int v_tools, .ref q_kind, .ref q_m, .ref q_tape, .int o_v_tapeLength, .ref q_moved, .ref q_seen, .int v_z, .ref q_told, .int v_waiting])), (q_tape, .inl (c 0, 50, .inl o_v_tape))] := by
  refine gMV_of (cc := cX7_addByte) (maxL := 2) (rt := none) (by decide +kernel) rfl (Nat.le_of_ble_eq_true rfl) ?_
  intro p e s m below meth co A hF hK hX hP hD hA hS ls hl
  obtain ⟨hx, hb, hr, hts, hown, hlocks, hml⟩ := id hF
  have hl : lv_has ls 2 [(0, .ref q_this), (1, .int a_1)] := hl
  unfold f_X7_addByte at h
  refine lv_aload_n hx hb dX7_addByte_0 rfl (lv_at hl 0 rfl) ?_
  refine va_get (D := D) (ci := 7) (v := .int v_tapeLength) (C := RX7) (T := TX7) (N := 11) hx hb hts in_X7_addByte_X7 hown hK.1 hP 0 rfl rfl 5 (by decide) (hts (.fieldLink RX7 60 "PaperBubbles$State" "tapeLength" "I") (List.mem_of_getElem? (i := 1) rfl)) (fun _ h9 => h9) rfl dX7_addByte_1 ?_
  refine lv_iconst (v := 0) hx hb dX7_addByte_4 (by decide) ?_
  refine lv_bipush (v := 49) hx hb dX7_addByte_5 (by decide) ?_
  replace h := kb_ok h
  obtain ⟨r_2, hc_1, h⟩ := h
  refine gCallIr (isC := []) (wc := []) hP hD hS hA trivial (va_runSN (rm := rm_X11_within) (ws := wsX11_within) (As := [.int v_tapeLength, .int 0, .int 49]) (rest := []) (gFix hF) (c_X11_within l D c v_tapeLength 0 49 r_2 hc_1 s.heap.size) ⟨(va_cnB 3 hts gX7_addByte_X11_within_n69 rfl rfl rfl (hK.2 (.methodLinkNest "PaperBubbles$State" 69 ⟨"PaperBubbles", "within", "(III)Z"⟩ "PaperBubbles") (List.mem_of_getElem? (i := 37) rfl)) (hts (.initialized RX11) (List.mem_of_getElem? (i := 4) rfl)) (by decide +kernel) ⟨Nat.le_of_ble_eq_true rfl, Nat.le_of_ble_eq_true rfl⟩), (hts (.static yX11_within) (List.mem_of_getElem? (i := 3) rfl)), trivial⟩ (gPreS (wc := []) (isC := []) hK hX hS hA hP hD trivial (by decide +kernel)) rfl rfl hl.1 rfl (lv_room (Nat.le_of_ble_eq_true rfl)) dX7_addByte_7 ⟨Nat.le_of_ble_eq_true rfl, Nat.le_of_ble_eq_true rfl⟩) (fun H locs hP hS => ?_)
  refine lv_if_eq (tgt := 33) hx hb dX7_addByte_10 (by decide) (fun c_3 => ?_) (fun c_3 => ?_)
  · replace h := it_t c_3 h
    replace h := so2 h
    obtain ⟨z0, z1⟩ := h
    subst z0 z1
    exact gVret hF hP hD hS dX7_addByte_33
  · replace h := it_f c_3 h
    refine lv_aload_n hx hb dX7_addByte_13 rfl (lv_at hl 0 rfl) ?_
    refine va_get (D := D) (ci := 7) (v := .ref q_tape) (C := RX7) (T := TX7) (N := 11) hx hb hts in_X7_addByte_X7 hown hK.1 hP 0 rfl rfl 4 (by decide) (hts (.fieldLink RX7 25 "PaperBubbles$State" "tape" "[I") (List.mem_of_getElem? (i := 2) rfl)) (fun _ h9 => h9) rfl dX7_addByte_14 ?_
    refine lv_aload_n hx hb dX7_addByte_17 rfl (lv_at hl 0 rfl) ?_
    refine va_get (D := D) (ci := 7) (v := .int v_tapeLength) (C := RX7) (T := TX7) (N := 11) hx hb hts in_X7_addByte_X7 hown hK.1 hP 0 rfl rfl 5 (by decide) (hts (.fieldLink RX7 60 "PaperBubbles$State" "tapeLength" "I") (List.mem_of_getElem? (i := 1) rfl)) (fun _ h9 => h9) rfl dX7_addByte_18 ?_
    refine lv_iload_n hx hb dX7_addByte_21 rfl (lv_at hl 1 rfl) ?_
    replace h := chi_ok h
    obtain ⟨hi_4, h⟩ := h
    replace h := nm_ok h
    obtain ⟨w_5, ew_5, h⟩ := h
    refine va_iast hx hb hK.1 hP hD hS 1 0 rfl rfl hi_4 dX7_addByte_22 (fun H locs hP hD hS => ?_)
    have hP : va_P D gcl [(q_this, .inr (7, [.ref q_wall, .int v_tools, .ref q_kind, .ref q_m, .ref q_tape, .int v_tapeLength, .ref q_moved, .ref q_seen, .int v_z, .ref q_told, .int v_waiting])), (q_tape, .inl (c 0, 50, .inl w_5))] H := by subst ew_5; exact hP
    have hD : va_D A [(q_this, .inr (7, [.ref q_wall, .int v_tools, .ref q_kind, .ref q_m, .ref q_tape, .int v_tapeLength, .ref q_moved, .ref q_seen, .int v_z, .ref q_told, .int v_waiting])), (q_tape, .inl (c 0, 50, .inl w_5))] := by subst ew_5; exact hD
    refine lv_aload_n hx hb dX7_addByte_23 rfl (lv_at hl 0 rfl) ?_
    refine lv_dup hx hb dX7_addByte_24 rfl ?_
    refine va_get (D := D) (ci := 7) (v := .int v_tapeLength) (C := RX7) (T := TX7) (N := 11) hx hb hts in_X7_addByte_X7 hown hK.1 hP 0 rfl rfl 5 (by decide) (hts (.fieldLink RX7 60 "PaperBubbles$State" "tapeLength" "I") (List.mem_of_getElem? (i := 1) rfl)) (fun _ h9 => h9) rfl dX7_addByte_25 ?_
    refine lv_iconst (v := 1) hx hb dX7_addByte_28 (by decide) ?_
    refine lv_iadd hx hb dX7_addByte_29 ?_
    replace h := nm_ok h
    obtain ⟨t_6, et_6, h⟩ := h
    refine gTop et_6 ?_
    refine va_put (D := D) (ci := 7) (v := .int t_6) (ty := .int) (C := RX7) (T := TX7) (N := 11) hx hb hts in_X7_addByte_X7 tyX7 tyX7_ok nmX7 hown hK.1 hP hD hS 0 rfl rfl 5 (by decide) (hts (.fieldLink RX7 60 "PaperBubbles$State" "tapeLength" "I") (List.mem_of_getElem? (i := 1) rfl)) (fun _ h9 => h9) rfl (by decide +kernel) rfl rfl (Nat.le_of_ble_eq_true rfl) dX7_addByte_30 (fun H locs hP hD hS => ?_)
    have hP : va_P D gcl [(q_this, .inr (7, [.ref q_wall, .int v_tools, .ref q_kind, .ref q_m, .ref q_tape, .int t_6, .ref q_moved, .ref q_seen, .int v_z, .ref q_told, .int v_waiting])), (q_tape, .inl (c 0, 50, .inl w_5))] H := hP
    have hD : va_D A [(q_this, .inr (7, [.ref q_wall, .int v_tools, .ref q_kind, .ref q_m, .ref q_tape, .int t_6, .ref q_moved, .ref q_seen, .int v_z, .ref q_told, .int v_waiting])), (q_tape, .inl (c 0, 50, .inl w_5))] := hD
    replace h := so2 h
    obtain ⟨z0, z1⟩ := h
    subst z0 z1
    exact gVret hF hP hD hS dX7_addByte_33
set_option maxRecDepth 20000 in
theorem in_X11_feed_X11 : ∀ w ∈ u_ws RX11 TX11 11, w ∈ wsX11_feed := by decide +kernel
set_option maxRecDepth 20000 in
theorem in_X11_feed_X7 : ∀ w ∈ u_ws RX7 TX7 11, w ∈ wsX11_feed := by decide +kernel
def f_X11_feed_L39 (a_1 : Int64) (a_3 : Int32) : Nat → Int32 → (Nat → Int32) → Int32 → (Nat → Int32) → Option (Int32 × (Nat → Int32) × Int32 × (Nat → Int32))
  | 0, _, _, _, _ => none
  | n + 1, x4, v_errors, v_now_tapeLength, v_now_tape =>
    if a_3 ≤ x4 then
      some (v_now_tapeLength, v_errors, v_now_tapeLength, v_now_tape)
    else
      nm (8 * x4 : Int32) fun t_12 =>
      nm ((((a_1.toUInt64 >>> ((t_12 : Int32).toInt64.toUInt64 &&& Int64.toUInt64 63)).toInt64) : Int64).toInt32 : Int32) fun t_13 =>
      nm (t_13 &&& 255 : Int32) fun t_14 =>
      kb2 (f_X7_addByte t_14 v_now_tapeLength v_now_tape) fun w_16 w_17 =>
      nm (x4 + 1 : Int32) fun t_18 =>
      f_X11_feed_L39 a_1 a_3 n t_18 v_errors w_16 w_17

def f_X11_feed (a_1 : Int64) (a_3 : Int32) (v_errors : Nat → Int32) (v_now_tapeLength : Int32) (v_now_tape : Nat → Int32) : Option (Int32 × (Nat → Int32) × Int32 × (Nat → Int32)) :=
  kb (f_X11_within a_3 1 8) fun r_2 =>
  if r_2 = 0 then
    kb2 (f_X11_error 1 v_errors) fun r_9 w_10 =>
    some (r_9, w_10, v_now_tapeLength, v_now_tape)
  else
    if v_now_tapeLength ≤ (50 - a_3) then
      f_X11_feed_L39 a_1 a_3 gFuel 0 v_errors v_now_tapeLength v_now_tape
    else
      kb2 (f_X11_error 4 v_errors) fun r_6 w_7 =>
      some (r_6, w_7, v_now_tapeLength, v_now_tape)

abbrev rm_X11_feed : Room := { frames := 2, cells := 0, slots := 0, locals := 43 }
set_option maxHeartbeats 4000000 in
set_option maxRecDepth 100000 in
theorem c_X11_feed (l : Launch) (D : va_G) (c : Nat → ClassId) (q_this q_now q_kept q_kinds q_voice q_thought q_further q_errors q_sheetBits q_sheetLength q_numbers q_now_wall q_now_kind q_now_m q_now_tape q_now_moved q_now_seen q_now_told : Nat) (a_1 : Int64) (a_3 : Int32) (v_images : Int32) (v_errors : Nat → Int32) (v_now_tools : Int32) (v_now_tapeLength : Int32) (v_now_z : Int32) (v_now_waiting : Int32) (v_now_tape : Nat → Int32) (o_r : Int32) (o_v_errors : Nat → Int32) (o_v_now_tapeLength : Int32) (o_v_now_tape : Nat → Int32) (h : f_X11_feed a_1 a_3 v_errors v_now_tapeLength v_now_tape = some (o_r, o_v_errors, o_v_now_tapeLength, o_v_now_tape)) : gMI l yX11_feed wsX11_feed rm_X11_feed D c [.ref q_this, .long a_1, .int a_3] [(q_this, .inr (11, [.ref q_now, .ref q_kept, .int v_images, .ref q_kinds, .ref q_voice, .ref q_thought, .ref q_further, .ref q_errors, .ref q_sheetBits, .ref q_sheetLength, .ref q_numbers])), (q_errors, .inl (c 0, 6, .inl v_errors)), (q_now, .inr (7, [.ref q_now_wall, .int v_now_tools, .ref q_now_kind, .ref q_now_m, .ref q_now_tape, .int v_now_tapeLength, .ref q_now_moved, .ref q_now_seen, .int v_now_z, .ref q_now_told, .int v_now_waiting])), (q_now_tape, .inl (c 0, 50, .inl v_now_tape))] [(q_this, .inr (11, [.ref q_now, .ref q_kept, .int v_images, .ref q_kinds, .ref q_voice, .ref q_thought, .ref q_further, .ref q_errors, .ref q_sheetBits, .ref q_sheetLength, .ref q_numbers])), (q_errors, .inl (c 0, 6, .inl o_v_errors)), (q_now, .inr (7, [.ref q_now_wall, .int v_now_tools, .ref q_now_kind, .ref q_now_m, .ref q_now_tape, .int o_v_now_tapeLength, .ref q_now_moved, .ref q_now_seen, .int v_now_z, .ref q_now_told, .int v_now_waiting])), (q_now_tape, .inl (c 0, 50, .inl o_v_now_tape))] o_r := by
  refine gMI_of (cc := cX11_feed) (maxL := 5) (rt := (some .int)) (by decide +kernel) rfl (Nat.le_of_ble_eq_true rfl) ?_
  intro p e s m below meth co A hF hK hX hP hD hA hS ls hl
  obtain ⟨hx, hb, hr, hts, hown, hlocks, hml⟩ := id hF
  have hl : lv_has ls 5 [(0, .ref q_this), (1, .long a_1), (3, .int a_3)] := hl
  have t_L39 : ∀ (n : Nat), ∀ (x4 : Int32) (v_errors : Nat → Int32) (v_now_tapeLength : Int32) (v_now_tape : Nat → Int32) (H : Heap) (locs : List Loc), va_P D gcl [(q_this, .inr (11, [.ref q_now, .ref q_kept, .int v_images, .ref q_kinds, .ref q_voice, .ref q_thought, .ref q_further, .ref q_errors, .ref q_sheetBits, .ref q_sheetLength, .ref q_numbers])), (q_errors, .inl (c 0, 6, .inl v_errors)), (q_now, .inr (7, [.ref q_now_wall, .int v_now_tools, .ref q_now_kind, .ref q_now_m, .ref q_now_tape, .int v_now_tapeLength, .ref q_now_moved, .ref q_now_seen, .int v_now_z, .ref q_now_told, .int v_now_waiting])), (q_now_tape, .inl (c 0, 50, .inl v_now_tape))] H → va_D A [(q_this, .inr (11, [.ref q_now, .ref q_kept, .int v_images, .ref q_kinds, .ref q_voice, .ref q_thought, .ref q_further, .ref q_errors, .ref q_sheetBits, .ref q_sheetLength, .ref q_numbers])), (q_errors, .inl (c 0, 6, .inl v_errors)), (q_now, .inr (7, [.ref q_now_wall, .int v_now_tools, .ref q_now_kind, .ref q_now_m, .ref q_now_tape, .int v_now_tapeLength, .ref q_now_moved, .ref q_now_seen, .int v_now_z, .ref q_now_told, .int v_now_waiting])), (q_now_tape, .inl (c 0, 50, .inl v_now_tape))] → va_S A s.heap H locs → ∀ ls, lv_has ls 5 [(0, .ref q_this), (1, .long a_1), (3, .int a_3), (4, .int x4)] → f_X11_feed_L39 a_1 a_3 n x4 v_errors v_now_tapeLength v_now_tape = some (o_r, o_v_errors, o_v_now_tapeLength, o_v_now_tape) → W p l e (headSpec wsX11_feed rm_X11_feed).room s m [.ref q_this, .long a_1, .int a_3].toArray below meth co H locs 0 0 (gQI D [(q_this, .inr (11, [.ref q_now, .ref q_kept, .int v_images, .ref q_kinds, .ref q_voice, .ref q_thought, .ref q_further, .ref q_errors, .ref q_sheetBits, .ref q_sheetLength, .ref q_numbers])), (q_errors, .inl (c 0, 6, .inl o_v_errors)), (q_now, .inr (7, [.ref q_now_wall, .int v_now_tools, .ref q_now_kind, .ref q_now_m, .ref q_now_tape, .int o_v_now_tapeLength, .ref q_now_moved, .ref q_now_seen, .int v_now_z, .ref q_now_told, .int v_now_waiting])), (q_now_tape, .inl (c 0, 50, .inl o_v_now_tape))] o_r A below [.ref q_this, .long a_1, .int a_3] s) (F0 m 39 ls []) := by
    intro n
    induction n with
    | zero => intro x4 v_errors v_now_tapeLength v_now_tape H locs hP hD hS ls hl h; exact no_ok h
    | succ n ih =>
      intro x4 v_errors v_now_tapeLength v_now_tape H locs hP hD hS ls hl h
      rw [f_X11_feed_L39] at h
      refine lv_iload hx hb dX11_feed_39 (lv_at hl 3 rfl) ?_
      refine lv_iload_n hx hb dX11_feed_41 rfl (lv_at hl 2 rfl) ?_
      refine lv_icmp_ge (tgt := 70) hx hb dX11_feed_42 (by decide) (fun c_11 => ?_) (fun c_11 => ?_)
      · replace h := it_t c_11 h
        refine lv_aload_n hx hb dX11_feed_70 rfl (lv_at hl 0 rfl) ?_
        refine va_get (D := D) (ci := 11) (v := .ref q_now) (C := RX11) (T := TX11) (N := 11) hx hb hts in_X11_feed_X11 hown hK.1 hP 0 rfl rfl 0 (by decide) (hts (.fieldLink RX11 14 "PaperBubbles" "now" "LPaperBubbles$State;") (List.mem_of_getElem? (i := 1) rfl)) (fun _ h9 => h9) rfl dX11_feed_71 ?_
        refine va_getN (D := D) (ci := 7) (v := .int v_now_tapeLength) (C := RX7) (T := TX7) (N := 11) hx hb hts in_X11_feed_X7 hown hK.1 hP 2 rfl rfl 5 (by decide) (va_Nw.use rfl (hK.2 (.fieldLinkNest "PaperBubbles" 173 "PaperBubbles$State" "tapeLength" "I" "PaperBubbles") (List.mem_of_getElem? (i := 8) rfl))) (fun _ h9 => h9) rfl dX11_feed_74 ?_
        replace h := so4 h
        obtain ⟨z0, z1, z2, z3⟩ := h
        subst z0 z1 z2 z3
        exact gIret hF hP hD hS rfl dX11_feed_77
      · replace h := it_f c_11 h
        refine lv_aload_n hx hb dX11_feed_45 rfl (lv_at hl 0 rfl) ?_
        refine va_get (D := D) (ci := 11) (v := .ref q_now) (C := RX11) (T := TX11) (N := 11) hx hb hts in_X11_feed_X11 hown hK.1 hP 0 rfl rfl 0 (by decide) (hts (.fieldLink RX11 14 "PaperBubbles" "now" "LPaperBubbles$State;") (List.mem_of_getElem? (i := 1) rfl)) (fun _ h9 => h9) rfl dX11_feed_46 ?_
        refine lv_lload_n hx hb dX11_feed_49 rfl (lv_at hl 1 rfl) ?_
        refine lv_bipush (v := 8) hx hb dX11_feed_50 (by decide) ?_
        refine lv_iload hx hb dX11_feed_52 (lv_at hl 3 rfl) ?_
        refine lv_imul hx hb dX11_feed_54 ?_
        replace h := nm_ok h
        obtain ⟨t_12, et_12, h⟩ := h
        refine gTop et_12 ?_
        refine lv_lushr hx hb dX11_feed_55 rfl ?_
        refine lv_l2i hx hb dX11_feed_56 rfl ?_
        replace h := nm_ok h
        obtain ⟨t_13, et_13, h⟩ := h
        refine gTop et_13 ?_
        refine lv_sipush (v := 255) hx hb dX11_feed_57 (by decide) ?_
        refine lv_iand hx hb dX11_feed_60 ?_
        replace h := nm_ok h
        obtain ⟨t_14, et_14, h⟩ := h
        refine gTop et_14 ?_
        replace h := kb2_ok h
        obtain ⟨w_16, w_17, hc_15, h⟩ := h
        refine gCallV (isC := [2, 3]) (wc := [(q_now, .inr (7, [.ref q_now_wall, .int v_now_tools, .ref q_now_kind, .ref q_now_m, .ref q_now_tape, .int v_now_tapeLength, .ref q_now_moved, .ref q_now_seen, .int v_now_z, .ref q_now_told, .int v_now_waiting])), (q_now_tape, .inl (c 0, 50, .inl v_now_tape))]) (w1 := [(q_now, .inr (7, [.ref q_now_wall, .int v_now_tools, .ref q_now_kind, .ref q_now_m, .ref q_now_tape, .int w_16, .ref q_now_moved, .ref q_now_seen, .int v_now_z, .ref q_now_told, .int v_now_waiting])), (q_now_tape, .inl (c 0, 50, .inl w_17))]) (ws2 := [(q_this, .inr (11, [.ref q_now, .ref q_kept, .int v_images, .ref q_kinds, .ref q_voice, .ref q_thought, .ref q_further, .ref q_errors, .ref q_sheetBits, .ref q_sheetLength, .ref q_numbers])), (q_errors, .inl (c 0, 6, .inl v_errors)), (q_now, .inr (7, [.ref q_now_wall, .int v_now_tools, .ref q_now_kind, .ref q_now_m, .ref q_now_tape, .int w_16, .ref q_now_moved, .ref q_now_seen, .int v_now_z, .ref q_now_told, .int v_now_waiting])), (q_now_tape, .inl (c 0, 50, .inl w_17))]) (ms := [none, none, (some 0), (some 1)]) hP hD hS hA ⟨rfl, rfl, trivial⟩ (by decide +kernel) ⟨rfl, rfl, rfl, rfl, trivial⟩ (va_runV (rm := rm_X7_addByte) (ws := wsX7_addByte) (As := [.int t_14]) (rest := []) (gFix hF) (c_X7_addByte l D c q_now q_now_wall q_now_kind q_now_m q_now_tape q_now_moved q_now_seen q_now_told t_14 v_now_tools v_now_tapeLength v_now_z v_now_waiting v_now_tape w_16 w_17 hc_15 H.size) (cwV 1 hts gX11_feed_X7_addByte rfl rfl rfl (by decide +kernel) ⟨Nat.le_of_ble_eq_true rfl, Nat.le_of_ble_eq_true rfl⟩) (gPreV (wc := [(q_now, .inr (7, [.ref q_now_wall, .int v_now_tools, .ref q_now_kind, .ref q_now_m, .ref q_now_tape, .int v_now_tapeLength, .ref q_now_moved, .ref q_now_seen, .int v_now_z, .ref q_now_told, .int v_now_waiting])), (q_now_tape, .inl (c 0, 50, .inl v_now_tape))]) (q := (RX7, TX7, 11)) (ci := 7) (q0 := 2) (isC := [2, 3]) hK hX hS hA hP hD ⟨rfl, rfl, trivial⟩ (by decide +kernel) rfl rfl) rfl rfl hl.1 rfl (lv_room (Nat.le_of_ble_eq_true rfl)) dX11_feed_61 ⟨Nat.le_of_ble_eq_true rfl, Nat.le_of_ble_eq_true rfl⟩) (fun H locs hP hD hS => ?_)
        replace h := nm_ok h
        obtain ⟨t_18, et_18, h⟩ := h
        refine lv_iinc (v := t_18) (lv' := [(4, .int t_18), (0, .ref q_this), (1, .long a_1), (3, .int a_3)]) hx hb dX11_feed_64 hl (k := 3) rfl (by rw [et_18]; rfl) (by decide) rfl (fun ls hl => ?_)
        refine lv_goto (tgt := 39) hx hb dX11_feed_67 (by decide) ?_
        exact ih t_18 v_errors w_16 w_17 H locs hP hD hS ls (lv_sub hl [1, 2, 3, 0] rfl) h
  unfold f_X11_feed at h
  refine lv_iload_n hx hb dX11_feed_0 rfl (lv_at hl 2 rfl) ?_
  refine lv_iconst (v := 1) hx hb dX11_feed_1 (by decide) ?_
  refine lv_bipush (v := 8) hx hb dX11_feed_2 (by decide) ?_
  replace h := kb_ok h
  obtain ⟨r_2, hc_1, h⟩ := h
  refine gCallIr (isC := []) (wc := []) hP hD hS hA trivial (va_runS (rm := rm_X11_within) (ws := wsX11_within) (As := [.int a_3, .int 1, .int 8]) (rest := []) (gFix hF) (c_X11_within l D c a_3 1 8 r_2 hc_1 s.heap.size) (va_cwS 3 hts gX11_feed_X11_within rfl rfl rfl (by decide +kernel) ⟨Nat.le_of_ble_eq_true rfl, Nat.le_of_ble_eq_true rfl⟩) (gPreS (wc := []) (isC := []) hK hX hS hA hP hD trivial (by decide +kernel)) rfl rfl hl.1 rfl (lv_room (Nat.le_of_ble_eq_true rfl)) dX11_feed_4 ⟨Nat.le_of_ble_eq_true rfl, Nat.le_of_ble_eq_true rfl⟩) (fun H locs hP hS => ?_)
  refine lv_if_ne (tgt := 16) hx hb dX11_feed_7 (by decide) (fun c_3 => ?_) (fun c_3 => ?_)
  · replace h := it_f c_3 h
    refine lv_aload_n hx hb dX11_feed_16 rfl (lv_at hl 0 rfl) ?_
    refine va_get (D := D) (ci := 11) (v := .ref q_now) (C := RX11) (T := TX11) (N := 11) hx hb hts in_X11_feed_X11 hown hK.1 hP 0 rfl rfl 0 (by decide) (hts (.fieldLink RX11 14 "PaperBubbles" "now" "LPaperBubbles$State;") (List.mem_of_getElem? (i := 1) rfl)) (fun _ h9 => h9) rfl dX11_feed_17 ?_
    refine va_getN (D := D) (ci := 7) (v := .int v_now_tapeLength) (C := RX7) (T := TX7) (N := 11) hx hb hts in_X11_feed_X7 hown hK.1 hP 2 rfl rfl 5 (by decide) (va_Nw.use rfl (hK.2 (.fieldLinkNest "PaperBubbles" 173 "PaperBubbles$State" "tapeLength" "I" "PaperBubbles") (List.mem_of_getElem? (i := 8) rfl))) (fun _ h9 => h9) rfl dX11_feed_20 ?_
    refine lv_bipush (v := 50) hx hb dX11_feed_23 (by decide) ?_
    refine lv_iload_n hx hb dX11_feed_25 rfl (lv_at hl 2 rfl) ?_
    refine lv_isub hx hb dX11_feed_26 ?_
    refine lv_icmp_le (tgt := 36) hx hb dX11_feed_27 (by decide) (fun c_4 => ?_) (fun c_4 => ?_)
    · replace h := it_t c_4 h
      refine lv_iconst (v := 0) hx hb dX11_feed_36 (by decide) ?_
      refine lv_istore (lv' := [(4, .int 0), (0, .ref q_this), (1, .long a_1), (3, .int a_3)]) hx hb dX11_feed_37 hl (by decide) rfl (fun ls hl => ?_)
      exact t_L39 gFuel 0 v_errors v_now_tapeLength v_now_tape H locs hP hD hS ls (lv_sub hl [1, 2, 3, 0] rfl) h
    · replace h := it_f c_4 h
      refine lv_aload_n hx hb dX11_feed_30 rfl (lv_at hl 0 rfl) ?_
      refine lv_iconst (v := 4) hx hb dX11_feed_31 (by decide) ?_
      replace h := kb2_ok h
      obtain ⟨r_6, w_7, hc_5, h⟩ := h
      refine gCallI (isC := [0, 1]) (wc := [(q_this, .inr (11, [.ref q_now, .ref q_kept, .int v_images, .ref q_kinds, .ref q_voice, .ref q_thought, .ref q_further, .ref q_errors, .ref q_sheetBits, .ref q_sheetLength, .ref q_numbers])), (q_errors, .inl (c 0, 6, .inl v_errors))]) (w1 := [(q_this, .inr (11, [.ref q_now, .ref q_kept, .int v_images, .ref q_kinds, .ref q_voice, .ref q_thought, .ref q_further, .ref q_errors, .ref q_sheetBits, .ref q_sheetLength, .ref q_numbers])), (q_errors, .inl (c 0, 6, .inl w_7))]) (ws2 := [(q_this, .inr (11, [.ref q_now, .ref q_kept, .int v_images, .ref q_kinds, .ref q_voice, .ref q_thought, .ref q_further, .ref q_errors, .ref q_sheetBits, .ref q_sheetLength, .ref q_numbers])), (q_errors, .inl (c 0, 6, .inl w_7)), (q_now, .inr (7, [.ref q_now_wall, .int v_now_tools, .ref q_now_kind, .ref q_now_m, .ref q_now_tape, .int v_now_tapeLength, .ref q_now_moved, .ref q_now_seen, .int v_now_z, .ref q_now_told, .int v_now_waiting])), (q_now_tape, .inl (c 0, 50, .inl v_now_tape))]) (ms := [(some 0), (some 1), none, none]) hP hD hS hA ⟨rfl, rfl, trivial⟩ (by decide +kernel) ⟨rfl, rfl, rfl, rfl, trivial⟩ (va_runV (rm := rm_X11_error) (ws := wsX11_error) (As := [.int 4]) (rest := []) (gFix hF) (c_X11_error l D c q_this q_now q_kept q_kinds q_voice q_thought q_further q_errors q_sheetBits q_sheetLength q_numbers 4 v_images v_errors r_6 w_7 hc_5 H.size) (cwV 1 hts gX11_feed_X11_error rfl rfl rfl (by decide +kernel) ⟨Nat.le_of_ble_eq_true rfl, Nat.le_of_ble_eq_true rfl⟩) (gPreV (wc := [(q_this, .inr (11, [.ref q_now, .ref q_kept, .int v_images, .ref q_kinds, .ref q_voice, .ref q_thought, .ref q_further, .ref q_errors, .ref q_sheetBits, .ref q_sheetLength, .ref q_numbers])), (q_errors, .inl (c 0, 6, .inl v_errors))]) (q := (RX11, TX11, 11)) (ci := 11) (q0 := 0) (isC := [0, 1]) hK hX hS hA hP hD ⟨rfl, rfl, trivial⟩ (by decide +kernel) rfl rfl) rfl rfl hl.1 rfl (lv_room (Nat.le_of_ble_eq_true rfl)) dX11_feed_32 ⟨Nat.le_of_ble_eq_true rfl, Nat.le_of_ble_eq_true rfl⟩) (fun H locs hP hD hS => ?_)
      replace h := so4 h
      obtain ⟨z0, z1, z2, z3⟩ := h
      subst z0 z1 z2 z3
      exact gIret hF hP hD hS rfl dX11_feed_35
  · replace h := it_t c_3 h
    refine lv_aload_n hx hb dX11_feed_10 rfl (lv_at hl 0 rfl) ?_
    refine lv_iconst (v := 1) hx hb dX11_feed_11 (by decide) ?_
    replace h := kb2_ok h
    obtain ⟨r_9, w_10, hc_8, h⟩ := h
    refine gCallI (isC := [0, 1]) (wc := [(q_this, .inr (11, [.ref q_now, .ref q_kept, .int v_images, .ref q_kinds, .ref q_voice, .ref q_thought, .ref q_further, .ref q_errors, .ref q_sheetBits, .ref q_sheetLength, .ref q_numbers])), (q_errors, .inl (c 0, 6, .inl v_errors))]) (w1 := [(q_this, .inr (11, [.ref q_now, .ref q_kept, .int v_images, .ref q_kinds, .ref q_voice, .ref q_thought, .ref q_further, .ref q_errors, .ref q_sheetBits, .ref q_sheetLength, .ref q_numbers])), (q_errors, .inl (c 0, 6, .inl w_10))]) (ws2 := [(q_this, .inr (11, [.ref q_now, .ref q_kept, .int v_images, .ref q_kinds, .ref q_voice, .ref q_thought, .ref q_further, .ref q_errors, .ref q_sheetBits, .ref q_sheetLength, .ref q_numbers])), (q_errors, .inl (c 0, 6, .inl w_10)), (q_now, .inr (7, [.ref q_now_wall, .int v_now_tools, .ref q_now_kind, .ref q_now_m, .ref q_now_tape, .int v_now_tapeLength, .ref q_now_moved, .ref q_now_seen, .int v_now_z, .ref q_now_told, .int v_now_waiting])), (q_now_tape, .inl (c 0, 50, .inl v_now_tape))]) (ms := [(some 0), (some 1), none, none]) hP hD hS hA ⟨rfl, rfl, trivial⟩ (by decide +kernel) ⟨rfl, rfl, rfl, rfl, trivial⟩ (va_runV (rm := rm_X11_error) (ws := wsX11_error) (As := [.int 1]) (rest := []) (gFix hF) (c_X11_error l D c q_this q_now q_kept q_kinds q_voice q_thought q_further q_errors q_sheetBits q_sheetLength q_numbers 1 v_images v_errors r_9 w_10 hc_8 H.size) (cwV 1 hts gX11_feed_X11_error rfl rfl rfl (by decide +kernel) ⟨Nat.le_of_ble_eq_true rfl, Nat.le_of_ble_eq_true rfl⟩) (gPreV (wc := [(q_this, .inr (11, [.ref q_now, .ref q_kept, .int v_images, .ref q_kinds, .ref q_voice, .ref q_thought, .ref q_further, .ref q_errors, .ref q_sheetBits, .ref q_sheetLength, .ref q_numbers])), (q_errors, .inl (c 0, 6, .inl v_errors))]) (q := (RX11, TX11, 11)) (ci := 11) (q0 := 0) (isC := [0, 1]) hK hX hS hA hP hD ⟨rfl, rfl, trivial⟩ (by decide +kernel) rfl rfl) rfl rfl hl.1 rfl (lv_room (Nat.le_of_ble_eq_true rfl)) dX11_feed_12 ⟨Nat.le_of_ble_eq_true rfl, Nat.le_of_ble_eq_true rfl⟩) (fun H locs hP hD hS => ?_)
    replace h := so4 h
    obtain ⟨z0, z1, z2, z3⟩ := h
    subst z0 z1 z2 z3
    exact gIret hF hP hD hS rfl dX11_feed_15
def f_X11_nightsToGo_L4 (a_1 : Int32) : Nat → Int32 → Int32 → Option (Int32)
  | 0, _, _ => none
  | n + 1, x2, x3 =>
    if 30 < x3 then
      some 31
    else
      if 0 < x2 then
        nm (a_1 - x3 : Int32) fun t_3 =>
        nm (if 0 < t_3 then t_3 else 0 : Int32) fun t_4 =>
        nm (x2 - t_4 : Int32) fun t_5 =>
        nm (x3 + 1 : Int32) fun t_6 =>
        f_X11_nightsToGo_L4 a_1 n t_5 t_6
      else
        some x3

def f_X11_nightsToGo (a_0 : Int32) (a_1 : Int32) : Option (Int32) :=
  f_X11_nightsToGo_L4 a_1 gFuel a_0 0

abbrev rm_X11_nightsToGo : Room := { frames := 1, cells := 0, slots := 0, locals := 21 }
set_option maxHeartbeats 4000000 in
set_option maxRecDepth 100000 in
theorem c_X11_nightsToGo (l : Launch) (D : va_G) (c : Nat → ClassId) (a_0 : Int32) (a_1 : Int32) (o_r : Int32) (h : f_X11_nightsToGo a_0 a_1 = some o_r) : gMI l yX11_nightsToGo wsX11_nightsToGo rm_X11_nightsToGo D c [.int a_0, .int a_1] [] [] o_r := by
  refine gMI_of (cc := cX11_nightsToGo) (maxL := 4) (rt := (some .int)) (by decide +kernel) rfl (Nat.le_of_ble_eq_true rfl) ?_
  intro p e s m below meth co A hF hK hX hP hD hA hS ls hl
  obtain ⟨hx, hb, hr, hts, hown, hlocks, hml⟩ := id hF
  have hl : lv_has ls 4 [(0, .int a_0), (1, .int a_1)] := hl
  have t_L4 : ∀ (n : Nat), ∀ (x2 : Int32) (x3 : Int32) (H : Heap) (locs : List Loc), va_P D gcl [] H → va_D A [] → va_S A s.heap H locs → ∀ ls, lv_has ls 4 [(1, .int a_1), (2, .int x2), (3, .int x3)] → f_X11_nightsToGo_L4 a_1 n x2 x3 = some o_r → W p l e (headSpec wsX11_nightsToGo rm_X11_nightsToGo).room s m [.int a_0, .int a_1].toArray below meth co H locs 0 0 (gQI D [] o_r A below [.int a_0, .int a_1] s) (F0 m 4 ls []) := by
    intro n
    induction n with
    | zero => intro x2 x3 H locs hP hD hS ls hl h; exact no_ok h
    | succ n ih =>
      intro x2 x3 H locs hP hD hS ls hl h
      rw [f_X11_nightsToGo_L4] at h
      refine lv_iload_n hx hb dX11_nightsToGo_4 rfl (lv_at hl 2 rfl) ?_
      refine lv_bipush (v := 30) hx hb dX11_nightsToGo_5 (by decide) ?_
      refine lv_icmp_gt (tgt := 32) hx hb dX11_nightsToGo_7 (by decide) (fun c_1 => ?_) (fun c_1 => ?_)
      · replace h := it_t c_1 h
        refine lv_bipush (v := 31) hx hb dX11_nightsToGo_32 (by decide) ?_
        replace h := so1 h
        subst h
        exact gIret hF hP hD hS rfl dX11_nightsToGo_34
      · replace h := it_f c_1 h
        refine lv_iload_n hx hb dX11_nightsToGo_10 rfl (lv_at hl 1 rfl) ?_
        refine lv_if_gt (tgt := 16) hx hb dX11_nightsToGo_11 (by decide) (fun c_2 => ?_) (fun c_2 => ?_)
        · replace h := it_t c_2 h
          refine lv_iload_n hx hb dX11_nightsToGo_16 rfl (lv_at hl 1 rfl) ?_
          refine lv_iconst (v := 0) hx hb dX11_nightsToGo_17 (by decide) ?_
          refine lv_iload_n hx hb dX11_nightsToGo_18 rfl (lv_at hl 0 rfl) ?_
          refine lv_iload_n hx hb dX11_nightsToGo_19 rfl (lv_at hl 2 rfl) ?_
          refine lv_isub hx hb dX11_nightsToGo_20 ?_
          replace h := nm_ok h
          obtain ⟨t_3, et_3, h⟩ := h
          refine gTop et_3 ?_
          refine va_mmax hx hb (by rw [hml]; exact hl.1.symm) hown (hts (.methodLink RX11 328 Lib.Math.max.name) (List.mem_of_getElem? (i := 1) rfl)) (hts (.static Lib.Math.max.name) (List.mem_of_getElem? (i := 2) rfl)) (hts (.initialized "java/lang/Math") (List.mem_of_getElem? (i := 3) rfl)) (hts (.code Lib.Math.max.name Lib.Math.max.code 2 (some .int)) (List.mem_of_getElem? (i := 4) rfl)) (Nat.le_of_ble_eq_true rfl) (by first | exact Nat.le_of_ble_eq_true rfl | decide) (Nat.le_of_ble_eq_true rfl) (Nat.le_of_ble_eq_true rfl) dX11_nightsToGo_21 ?_
          replace h := nm_ok h
          obtain ⟨t_4, et_4, h⟩ := h
          refine gTop et_4 ?_
          refine lv_isub hx hb dX11_nightsToGo_24 ?_
          replace h := nm_ok h
          obtain ⟨t_5, et_5, h⟩ := h
          refine gTop et_5 ?_
          refine lv_istore_n (lv' := [(2, .int t_5), (1, .int a_1), (3, .int x3)]) hx hb dX11_nightsToGo_25 rfl hl (by decide) rfl (fun ls hl => ?_)
          replace h := nm_ok h
          obtain ⟨t_6, et_6, h⟩ := h
          refine lv_iinc (v := t_6) (lv' := [(3, .int t_6), (2, .int t_5), (1, .int a_1)]) hx hb dX11_nightsToGo_26 hl (k := 2) rfl (by rw [et_6]; rfl) (by decide) rfl (fun ls hl => ?_)
          refine lv_goto (tgt := 4) hx hb dX11_nightsToGo_29 (by decide) ?_
          exact ih t_5 t_6 H locs hP hD hS ls (lv_sub hl [2, 1, 0] rfl) h
        · replace h := it_f c_2 h
          refine lv_iload_n hx hb dX11_nightsToGo_14 rfl (lv_at hl 2 rfl) ?_
          replace h := so1 h
          subst h
          exact gIret hF hP hD hS rfl dX11_nightsToGo_15
  unfold f_X11_nightsToGo at h
  refine lv_iload_n hx hb dX11_nightsToGo_0 rfl (lv_at hl 0 rfl) ?_
  refine lv_istore_n (lv' := [(2, .int a_0), (0, .int a_0), (1, .int a_1)]) hx hb dX11_nightsToGo_1 rfl hl (by decide) rfl (fun ls hl => ?_)
  refine lv_iconst (v := 0) hx hb dX11_nightsToGo_2 (by decide) ?_
  refine lv_istore_n (lv' := [(3, .int 0), (2, .int a_0), (0, .int a_0), (1, .int a_1)]) hx hb dX11_nightsToGo_3 rfl hl (by decide) rfl (fun ls hl => ?_)
  exact t_L4 gFuel a_0 0 s.heap [] hP hD hS ls (lv_sub hl [3, 1, 0] rfl) h
