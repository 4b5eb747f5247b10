set_option maxRecDepth 20000 in
theorem in_X10_shownBy_X10 : ∀ w ∈ u_ws RX10 TX10 11, w ∈ wsX10_shownBy := by decide +kernel
abbrev rm_X10_shownBy : Room := { frames := 3, cells := 0, slots := 0, locals := 73 }
set_option maxHeartbeats 4000000 in
set_option maxRecDepth 100000 in
theorem c_X10_shownBy (l : Launch) (D : va_G) (c : Nat → ClassId) (q_this q_p1 q_air q_paste q_open q_met q_line q_p1_steps q_p1_stack q_p1_answers q_p1_draft q_p1_held : Nat) (s_p1_names : Nat) (n_p1_answers : Nat) (v_rows : Int32) (v_columns : Int32) (v_holes : Int32) (v_out : Int32) (v_night : Int32) (v_inLine : Int32) (v_air : Nat → Int32) (v_p1_length : Int32) (v_p1_side : Int32) (v_p1_round : Int32) (v_p1_drafted : Int32) (v_p1_holding : Int32) (v_p1_open : Int32) (v_p1_digits : Int32) (v_p1_wantsOperand : Int32) (v_p1_answers : Nat → Int32) (v_p1_stack : Nat → Int32) (v_p1_steps : Nat → Int32) (o_r : Int32) (o_v_p1_answers : Nat → Int32) (o_v_p1_stack : Nat → Int32) (h : f_X10_shownBy n_p1_answers v_rows v_columns v_air v_p1_length v_p1_side v_p1_round v_p1_answers v_p1_stack v_p1_steps = some (o_r, o_v_p1_answers, o_v_p1_stack)) : gMI l yX10_shownBy wsX10_shownBy rm_X10_shownBy D c [.ref q_this, .ref q_p1] [(q_this, .inr (10, [.int v_rows, .int v_columns, .ref q_air, .ref q_paste, .ref q_open, .int v_holes, .int v_out, .int v_night, .ref q_met, .ref q_line, .int v_inLine])), (q_air, .inl (c 0, 25, .inl v_air)), (q_p1, .inr (3, [.ref (c (10 + s_p1_names)), .ref q_p1_steps, .int v_p1_length, .ref q_p1_stack, .ref q_p1_answers, .int v_p1_side, .int v_p1_round, .ref q_p1_draft, .int v_p1_drafted, .ref q_p1_held, .int v_p1_holding, .int v_p1_open, .int v_p1_digits, .int v_p1_wantsOperand])), (q_p1_answers, .inl (c 0, n_p1_answers, .inl v_p1_answers)), (q_p1_stack, .inl (c 0, 50, .inl v_p1_stack)), (q_p1_steps, .inl (c 0, 50, .inl v_p1_steps))] [(q_this, .inr (10, [.int v_rows, .int v_columns, .ref q_air, .ref q_paste, .ref q_open, .int v_holes, .int v_out, .int v_night, .ref q_met, .ref q_line, .int v_inLine])), (q_air, .inl (c 0, 25, .inl v_air)), (q_p1, .inr (3, [.ref (c (10 + s_p1_names)), .ref q_p1_steps, .int v_p1_length, .ref q_p1_stack, .ref q_p1_answers, .int v_p1_side, .int v_p1_round, .ref q_p1_draft, .int v_p1_drafted, .ref q_p1_held, .int v_p1_holding, .int v_p1_open, .int v_p1_digits, .int v_p1_wantsOperand])), (q_p1_answers, .inl (c 0, n_p1_answers, .inl o_v_p1_answers)), (q_p1_stack, .inl (c 0, 50, .inl o_v_p1_stack)), (q_p1_steps, .inl (c 0, 50, .inl v_p1_steps))] o_r := by
  refine gMI_of (cc := cX10_shownBy) (maxL := 6) (rt := (some .int)) (by decide +kernel) rfl (Nat.le_of_ble_eq_true rfl) ?_
  intro p e s m below meth co A hF hK hX hP hD hA hS ls hl
  obtain ⟨hx, hb, hr, hts, hown, hlocks, hml⟩ := id hF
  have hl : lv_has ls 6 [(0, .ref q_this), (1, .ref q_p1)] := hl
  have t_L19 : ∀ (kk_L7 : Int32 → Int32 → Int32 → (Nat → Int32) → (Nat → Int32) → Option (Int32 × (Nat → Int32) × (Nat → Int32))), (∀ (x2 : Int32) (x3 : Int32) (x4 : Int32) (v_p1_answers : Nat → Int32) (v_p1_stack : Nat → Int32) (H : Heap) (locs : List Loc), va_P D gcl [(q_this, .inr (10, [.int v_rows, .int v_columns, .ref q_air, .ref q_paste, .ref q_open, .int v_holes, .int v_out, .int v_night, .ref q_met, .ref q_line, .int v_inLine])), (q_air, .inl (c 0, 25, .inl v_air)), (q_p1, .inr (3, [.ref (c (10 + s_p1_names)), .ref q_p1_steps, .int v_p1_length, .ref q_p1_stack, .ref q_p1_answers, .int v_p1_side, .int v_p1_round, .ref q_p1_draft, .int v_p1_drafted, .ref q_p1_held, .int v_p1_holding, .int v_p1_open, .int v_p1_digits, .int v_p1_wantsOperand])), (q_p1_answers, .inl (c 0, n_p1_answers, .inl v_p1_answers)), (q_p1_stack, .inl (c 0, 50, .inl v_p1_stack)), (q_p1_steps, .inl (c 0, 50, .inl v_p1_steps))] H → va_D A [(q_this, .inr (10, [.int v_rows, .int v_columns, .ref q_air, .ref q_paste, .ref q_open, .int v_holes, .int v_out, .int v_night, .ref q_met, .ref q_line, .int v_inLine])), (q_air, .inl (c 0, 25, .inl v_air)), (q_p1, .inr (3, [.ref (c (10 + s_p1_names)), .ref q_p1_steps, .int v_p1_length, .ref q_p1_stack, .ref q_p1_answers, .int v_p1_side, .int v_p1_round, .ref q_p1_draft, .int v_p1_drafted, .ref q_p1_held, .int v_p1_holding, .int v_p1_open, .int v_p1_digits, .int v_p1_wantsOperand])), (q_p1_answers, .inl (c 0, n_p1_answers, .inl v_p1_answers)), (q_p1_stack, .inl (c 0, 50, .inl v_p1_stack)), (q_p1_steps, .inl (c 0, 50, .inl v_p1_steps))] → va_S A s.heap H locs → ∀ ls, lv_has ls 6 [(0, .ref q_this), (1, .ref q_p1), (2, .int x2), (3, .int x3), (4, .int x4)] → kk_L7 x2 x3 x4 v_p1_answers v_p1_stack = some (o_r, o_v_p1_answers, o_v_p1_stack) → W p l e (headSpec wsX10_shownBy rm_X10_shownBy).room s m [.ref q_this, .ref q_p1].toArray below meth co H locs 0 0 (gQI D [(q_this, .inr (10, [.int v_rows, .int v_columns, .ref q_air, .ref q_paste, .ref q_open, .int v_holes, .int v_out, .int v_night, .ref q_met, .ref q_line, .int v_inLine])), (q_air, .inl (c 0, 25, .inl v_air)), (q_p1, .inr (3, [.ref (c (10 + s_p1_names)), .ref q_p1_steps, .int v_p1_length, .ref q_p1_stack, .ref q_p1_answers, .int v_p1_side, .int v_p1_round, .ref q_p1_draft, .int v_p1_drafted, .ref q_p1_held, .int v_p1_holding, .int v_p1_open, .int v_p1_digits, .int v_p1_wantsOperand])), (q_p1_answers, .inl (c 0, n_p1_answers, .inl o_v_p1_answers)), (q_p1_stack, .inl (c 0, 50, .inl o_v_p1_stack)), (q_p1_steps, .inl (c 0, 50, .inl v_p1_steps))] o_r A below [.ref q_this, .ref q_p1] s) (F0 m 7 ls [])) → ∀ (n : Nat), ∀ (x2 : Int32) (x3 : Int32) (x4 : Int32) (x5 : Int32) (v_p1_answers : Nat → Int32) (v_p1_stack : Nat → Int32) (H : Heap) (locs : List Loc), va_P D gcl [(q_this, .inr (10, [.int v_rows, .int v_columns, .ref q_air, .ref q_paste, .ref q_open, .int v_holes, .int v_out, .int v_night, .ref q_met, .ref q_line, .int v_inLine])), (q_air, .inl (c 0, 25, .inl v_air)), (q_p1, .inr (3, [.ref (c (10 + s_p1_names)), .ref q_p1_steps, .int v_p1_length, .ref q_p1_stack, .ref q_p1_answers, .int v_p1_side, .int v_p1_round, .ref q_p1_draft, .int v_p1_drafted, .ref q_p1_held, .int v_p1_holding, .int v_p1_open, .int v_p1_digits, .int v_p1_wantsOperand])), (q_p1_answers, .inl (c 0, n_p1_answers, .inl v_p1_answers)), (q_p1_stack, .inl (c 0, 50, .inl v_p1_stack)), (q_p1_steps, .inl (c 0, 50, .inl v_p1_steps))] H → va_D A [(q_this, .inr (10, [.int v_rows, .int v_columns, .ref q_air, .ref q_paste, .ref q_open, .int v_holes, .int v_out, .int v_night, .ref q_met, .ref q_line, .int v_inLine])), (q_air, .inl (c 0, 25, .inl v_air)), (q_p1, .inr (3, [.ref (c (10 + s_p1_names)), .ref q_p1_steps, .int v_p1_length, .ref q_p1_stack, .ref q_p1_answers, .int v_p1_side, .int v_p1_round, .ref q_p1_draft, .int v_p1_drafted, .ref q_p1_held, .int v_p1_holding, .int v_p1_open, .int v_p1_digits, .int v_p1_wantsOperand])), (q_p1_answers, .inl (c 0, n_p1_answers, .inl v_p1_answers)), (q_p1_stack, .inl (c 0, 50, .inl v_p1_stack)), (q_p1_steps, .inl (c 0, 50, .inl v_p1_steps))] → va_S A s.heap H locs → ∀ ls, lv_has ls 6 [(0, .ref q_this), (1, .ref q_p1), (2, .int x2), (3, .int x3), (4, .int x4), (5, .int x5)] → f_X10_shownBy_L19 kk_L7 n_p1_answers v_rows v_columns v_air v_p1_length v_p1_side v_p1_round v_p1_steps n x2 x3 x4 x5 v_p1_answers v_p1_stack = some (o_r, o_v_p1_answers, o_v_p1_stack) → W p l e (headSpec wsX10_shownBy rm_X10_shownBy).room s m [.ref q_this, .ref q_p1].toArray below meth co H locs 0 0 (gQI D [(q_this, .inr (10, [.int v_rows, .int v_columns, .ref q_air, .ref q_paste, .ref q_open, .int v_holes, .int v_out, .int v_night, .ref q_met, .ref q_line, .int v_inLine])), (q_air, .inl (c 0, 25, .inl v_air)), (q_p1, .inr (3, [.ref (c (10 + s_p1_names)), .ref q_p1_steps, .int v_p1_length, .ref q_p1_stack, .ref q_p1_answers, .int v_p1_side, .int v_p1_round, .ref q_p1_draft, .int v_p1_drafted, .ref q_p1_held, .int v_p1_holding, .int v_p1_open, .int v_p1_digits, .int v_p1_wantsOperand])), (q_p1_answers, .inl (c 0, n_p1_answers, .inl o_v_p1_answers)), (q_p1_stack, .inl (c 0, 50, .inl o_v_p1_stack)), (q_p1_steps, .inl (c 0, 50, .inl v_p1_steps))] o_r A below [.ref q_this, .ref q_p1] s) (F0 m 19 ls []) := by
    intro kk_L7 hkk_L7
    intro n
    induction n with
    | zero => intro x2 x3 x4 x5 v_p1_answers v_p1_stack H locs hP hD hS ls hl h; exact no_ok h
    | succ n ih =>
      intro x2 x3 x4 x5 v_p1_answers v_p1_stack H locs hP hD hS ls hl h
      rw [f_X10_shownBy_L19] at h
      refine lv_iload hx hb dX10_shownBy_19 (lv_at hl 5 rfl) ?_
      refine lv_aload_n hx hb dX10_shownBy_21 rfl (lv_at hl 0 rfl) ?_
      refine va_get (D := D) (ci := 10) (v := .int v_columns) (C := RX10) (T := TX10) (N := 11) hx hb hts in_X10_shownBy_X10 hown hK.1 hP 0 rfl rfl 1 (by decide) (hts (.fieldLink RX10 15 "PaperBubbles$Wall" "columns" "I") (List.mem_of_getElem? (i := 2) rfl)) (fun _ h9 => h9) rfl dX10_shownBy_22 ?_
      refine lv_icmp_ge (tgt := 62) hx hb dX10_shownBy_25 (by decide) (fun c_2 => ?_) (fun c_2 => ?_)
      · replace h := it_t c_2 h
        replace h := nm_ok h
        obtain ⟨t_3, et_3, h⟩ := h
        refine lv_iinc (v := t_3) (lv' := [(4, .int t_3), (0, .ref q_this), (1, .ref q_p1), (2, .int x2), (3, .int x3), (5, .int x5)]) hx hb dX10_shownBy_62 hl (k := 4) rfl (by rw [et_3]; rfl) (by decide) rfl (fun ls hl => ?_)
        refine lv_goto (tgt := 7) hx hb dX10_shownBy_65 (by decide) ?_
        exact hkk_L7 x2 x3 t_3 v_p1_answers v_p1_stack H locs hP hD hS ls (lv_sub hl [1, 2, 3, 4, 0] rfl) h
      · replace h := it_f c_2 h
        refine lv_aload_n hx hb dX10_shownBy_28 rfl (lv_at hl 0 rfl) ?_
        refine lv_iload_n hx hb dX10_shownBy_29 rfl (lv_at hl 3 rfl) ?_
        replace h := kb_ok h
        obtain ⟨r_5, hc_4, h⟩ := h
        refine gCallIr (isC := [0]) (wc := [(q_this, .inr (10, [.int v_rows, .int v_columns, .ref q_air, .ref q_paste, .ref q_open, .int v_holes, .int v_out, .int v_night, .ref q_met, .ref q_line, .int v_inLine]))]) hP hD hS hA ⟨rfl, trivial⟩ (va_runV (rm := rm_X10_has) (ws := wsX10_has) (As := [.int x3]) (rest := []) (gFix hF) (c_X10_has l D c q_this q_air q_paste q_open q_met q_line x3 v_rows v_columns v_holes v_out v_night v_inLine r_5 hc_4 H.size) (cwV 1 hts gX10_shownBy_X10_has rfl rfl rfl (by decide +kernel) ⟨Nat.le_of_ble_eq_true rfl, Nat.le_of_ble_eq_true rfl⟩) (gPreV (wc := [(q_this, .inr (10, [.int v_rows, .int v_columns, .ref q_air, .ref q_paste, .ref q_open, .int v_holes, .int v_out, .int v_night, .ref q_met, .ref q_line, .int v_inLine]))]) (q := (RX10, TX10, 11)) (ci := 10) (q0 := 0) (isC := [0]) hK hX hS hA hP hD ⟨rfl, trivial⟩ (by decide +kernel) rfl rfl) rfl rfl hl.1 rfl (lv_room (Nat.le_of_ble_eq_true rfl)) dX10_shownBy_30 ⟨Nat.le_of_ble_eq_true rfl, Nat.le_of_ble_eq_true rfl⟩) (fun H locs hP hS => ?_)
        refine lv_if_eq (tgt := 62) hx hb dX10_shownBy_33 (by decide) (fun c_6 => ?_) (fun c_6 => ?_)
        · replace h := it_t c_6 h
          replace h := nm_ok h
          obtain ⟨t_7, et_7, h⟩ := h
          refine lv_iinc (v := t_7) (lv' := [(4, .int t_7), (0, .ref q_this), (1, .ref q_p1), (2, .int x2), (3, .int x3), (5, .int x5)]) hx hb dX10_shownBy_62 hl (k := 4) rfl (by rw [et_7]; rfl) (by decide) rfl (fun ls hl => ?_)
          refine lv_goto (tgt := 7) hx hb dX10_shownBy_65 (by decide) ?_
          exact hkk_L7 x2 x3 t_7 v_p1_answers v_p1_stack H locs hP hD hS ls (lv_sub hl [1, 2, 3, 4, 0] rfl) h
        · replace h := it_f c_6 h
          refine lv_iload_n hx hb dX10_shownBy_36 rfl (lv_at hl 2 rfl) ?_
          refine lv_aload_n hx hb dX10_shownBy_37 rfl (lv_at hl 1 rfl) ?_
          refine lv_aload_n hx hb dX10_shownBy_38 rfl (lv_at hl 0 rfl) ?_
          refine va_get (D := D) (ci := 10) (v := .ref q_air) (C := RX10) (T := TX10) (N := 11) hx hb hts in_X10_shownBy_X10 hown hK.1 hP 0 rfl rfl 2 (by decide) (hts (.fieldLink RX10 18 "PaperBubbles$Wall" "air" "[I") (List.mem_of_getElem? (i := 3) rfl)) (fun _ h9 => h9) rfl dX10_shownBy_39 ?_
          refine lv_iload_n hx hb dX10_shownBy_42 rfl (lv_at hl 3 rfl) ?_
          replace h := chi_ok h
          obtain ⟨hi_8, h⟩ := h
          refine va_iald hx hb hK.1 hP 1 0 rfl rfl hi_8 dX10_shownBy_43 ?_
          replace h := nm_ok h
          obtain ⟨t_9, et_9, h⟩ := h
          refine gTop et_9 ?_
          refine lv_iload hx hb dX10_shownBy_44 (lv_at hl 4 rfl) ?_
          refine lv_iload hx hb dX10_shownBy_46 (lv_at hl 5 rfl) ?_
          replace h := kb3_ok h
          obtain ⟨r_11, w_12, w_13, hc_10, h⟩ := h
          refine gCallI (isC := [2, 3, 4, 5]) (wc := [(q_p1, .inr (3, [.ref (c (10 + s_p1_names)), .ref q_p1_steps, .int v_p1_length, .ref q_p1_stack, .ref q_p1_answers, .int v_p1_side, .int v_p1_round, .ref q_p1_draft, .int v_p1_drafted, .ref q_p1_held, .int v_p1_holding, .int v_p1_open, .int v_p1_digits, .int v_p1_wantsOperand])), (q_p1_answers, .inl (c 0, n_p1_answers, .inl v_p1_answers)), (q_p1_stack, .inl (c 0, 50, .inl v_p1_stack)), (q_p1_steps, .inl (c 0, 50, .inl v_p1_steps))]) (w1 := [(q_p1, .inr (3, [.ref (c (10 + s_p1_names)), .ref q_p1_steps, .int v_p1_length, .ref q_p1_stack, .ref q_p1_answers, .int v_p1_side, .int v_p1_round, .ref q_p1_draft, .int v_p1_drafted, .ref q_p1_held, .int v_p1_holding, .int v_p1_open, .int v_p1_digits, .int v_p1_wantsOperand])), (q_p1_answers, .inl (c 0, n_p1_answers, .inl w_12)), (q_p1_stack, .inl (c 0, 50, .inl w_13)), (q_p1_steps, .inl (c 0, 50, .inl v_p1_steps))]) (ws2 := [(q_this, .inr (10, [.int v_rows, .int v_columns, .ref q_air, .ref q_paste, .ref q_open, .int v_holes, .int v_out, .int v_night, .ref q_met, .ref q_line, .int v_inLine])), (q_air, .inl (c 0, 25, .inl v_air)), (q_p1, .inr (3, [.ref (c (10 + s_p1_names)), .ref q_p1_steps, .int v_p1_length, .ref q_p1_stack, .ref q_p1_answers, .int v_p1_side, .int v_p1_round, .ref q_p1_draft, .int v_p1_drafted, .ref q_p1_held, .int v_p1_holding, .int v_p1_open, .int v_p1_digits, .int v_p1_wantsOperand])), (q_p1_answers, .inl (c 0, n_p1_answers, .inl w_12)), (q_p1_stack, .inl (c 0, 50, .inl w_13)), (q_p1_steps, .inl (c 0, 50, .inl v_p1_steps))]) (ms := [none, none, (some 0), (some 1), (some 2), (some 3)]) hP hD hS hA ⟨rfl, rfl, rfl, rfl, trivial⟩ (by decide +kernel) ⟨rfl, rfl, rfl, rfl, rfl, rfl, trivial⟩ (va_runV (rm := rm_X3_gives) (ws := wsX3_gives) (As := [.int t_9, .int x4, .int x5]) (rest := [.int x2]) (gFix hF) (c_X3_gives l D c q_p1 q_p1_steps q_p1_stack q_p1_answers q_p1_draft q_p1_held s_p1_names n_p1_answers t_9 x4 x5 v_p1_length v_p1_side v_p1_round v_p1_drafted v_p1_holding v_p1_open v_p1_digits v_p1_wantsOperand v_p1_answers v_p1_stack v_p1_steps r_11 w_12 w_13 hc_10 H.size) (cwV 3 hts gX10_shownBy_X3_gives rfl rfl rfl (by decide +kernel) ⟨Nat.le_of_ble_eq_true rfl, Nat.le_of_ble_eq_true rfl⟩) (gPreV (wc := [(q_p1, .inr (3, [.ref (c (10 + s_p1_names)), .ref q_p1_steps, .int v_p1_length, .ref q_p1_stack, .ref q_p1_answers, .int v_p1_side, .int v_p1_round, .ref q_p1_draft, .int v_p1_drafted, .ref q_p1_held, .int v_p1_holding, .int v_p1_open, .int v_p1_digits, .int v_p1_wantsOperand])), (q_p1_answers, .inl (c 0, n_p1_answers, .inl v_p1_answers)), (q_p1_stack, .inl (c 0, 50, .inl v_p1_stack)), (q_p1_steps, .inl (c 0, 50, .inl v_p1_steps))]) (q := (RX3, TX3, 14)) (ci := 3) (q0 := 2) (isC := [2, 3, 4, 5]) hK hX hS hA hP hD ⟨rfl, rfl, rfl, rfl, trivial⟩ (by decide +kernel) rfl rfl) rfl rfl hl.1 rfl (lv_room (Nat.le_of_ble_eq_true rfl)) dX10_shownBy_48 ⟨Nat.le_of_ble_eq_true rfl, Nat.le_of_ble_eq_true rfl⟩) (fun H locs hP hD hS => ?_)
          refine lv_iadd hx hb dX10_shownBy_51 ?_
          replace h := nm_ok h
          obtain ⟨t_14, et_14, h⟩ := h
          refine gTop et_14 ?_
          refine lv_istore_n (lv' := [(2, .int t_14), (0, .ref q_this), (1, .ref q_p1), (3, .int x3), (4, .int x4), (5, .int x5)]) hx hb dX10_shownBy_52 rfl hl (by decide) rfl (fun ls hl => ?_)
          replace h := nm_ok h
          obtain ⟨t_15, et_15, h⟩ := h
          refine lv_iinc (v := t_15) (lv' := [(3, .int t_15), (2, .int t_14), (0, .ref q_this), (1, .ref q_p1), (4, .int x4), (5, .int x5)]) hx hb dX10_shownBy_53 hl (k := 3) rfl (by rw [et_15]; rfl) (by decide) rfl (fun ls hl => ?_)
          replace h := nm_ok h
          obtain ⟨t_16, et_16, h⟩ := h
          refine lv_iinc (v := t_16) (lv' := [(5, .int t_16), (3, .int t_15), (2, .int t_14), (0, .ref q_this), (1, .ref q_p1), (4, .int x4)]) hx hb dX10_shownBy_56 hl (k := 5) rfl (by rw [et_16]; rfl) (by decide) rfl (fun ls hl => ?_)
          refine lv_goto (tgt := 19) hx hb dX10_shownBy_59 (by decide) ?_
          exact ih t_14 t_15 x4 t_16 w_12 w_13 H locs hP hD hS ls (lv_sub hl [3, 4, 2, 1, 5, 0] rfl) h
  have t_L7 : ∀ (n : Nat), ∀ (x2 : Int32) (x3 : Int32) (x4 : Int32) (v_p1_answers : Nat → Int32) (v_p1_stack : Nat → Int32) (H : Heap) (locs : List Loc), va_P D gcl [(q_this, .inr (10, [.int v_rows, .int v_columns, .ref q_air, .ref q_paste, .ref q_open, .int v_holes, .int v_out, .int v_night, .ref q_met, .ref q_line, .int v_inLine])), (q_air, .inl (c 0, 25, .inl v_air)), (q_p1, .inr (3, [.ref (c (10 + s_p1_names)), .ref q_p1_steps, .int v_p1_length, .ref q_p1_stack, .ref q_p1_answers, .int v_p1_side, .int v_p1_round, .ref q_p1_draft, .int v_p1_drafted, .ref q_p1_held, .int v_p1_holding, .int v_p1_open, .int v_p1_digits, .int v_p1_wantsOperand])), (q_p1_answers, .inl (c 0, n_p1_answers, .inl v_p1_answers)), (q_p1_stack, .inl (c 0, 50, .inl v_p1_stack)), (q_p1_steps, .inl (c 0, 50, .inl v_p1_steps))] H → va_D A [(q_this, .inr (10, [.int v_rows, .int v_columns, .ref q_air, .ref q_paste, .ref q_open, .int v_holes, .int v_out, .int v_night, .ref q_met, .ref q_line, .int v_inLine])), (q_air, .inl (c 0, 25, .inl v_air)), (q_p1, .inr (3, [.ref (c (10 + s_p1_names)), .ref q_p1_steps, .int v_p1_length, .ref q_p1_stack, .ref q_p1_answers, .int v_p1_side, .int v_p1_round, .ref q_p1_draft, .int v_p1_drafted, .ref q_p1_held, .int v_p1_holding, .int v_p1_open, .int v_p1_digits, .int v_p1_wantsOperand])), (q_p1_answers, .inl (c 0, n_p1_answers, .inl v_p1_answers)), (q_p1_stack, .inl (c 0, 50, .inl v_p1_stack)), (q_p1_steps, .inl (c 0, 50, .inl v_p1_steps))] → va_S A s.heap H locs → ∀ ls, lv_has ls 6 [(0, .ref q_this), (1, .ref q_p1), (2, .int x2), (3, .int x3), (4, .int x4)] → f_X10_shownBy_L7 n_p1_answers v_rows v_columns v_air v_p1_length v_p1_side v_p1_round v_p1_steps n x2 x3 x4 v_p1_answers v_p1_stack = some (o_r, o_v_p1_answers, o_v_p1_stack) → W p l e (headSpec wsX10_shownBy rm_X10_shownBy).room s m [.ref q_this, .ref q_p1].toArray below meth co H locs 0 0 (gQI D [(q_this, .inr (10, [.int v_rows, .int v_columns, .ref q_air, .ref q_paste, .ref q_open, .int v_holes, .int v_out, .int v_night, .ref q_met, .ref q_line, .int v_inLine])), (q_air, .inl (c 0, 25, .inl v_air)), (q_p1, .inr (3, [.ref (c (10 + s_p1_names)), .ref q_p1_steps, .int v_p1_length, .ref q_p1_stack, .ref q_p1_answers, .int v_p1_side, .int v_p1_round, .ref q_p1_draft, .int v_p1_drafted, .ref q_p1_held, .int v_p1_holding, .int v_p1_open, .int v_p1_digits, .int v_p1_wantsOperand])), (q_p1_answers, .inl (c 0, n_p1_answers, .inl o_v_p1_answers)), (q_p1_stack, .inl (c 0, 50, .inl o_v_p1_stack)), (q_p1_steps, .inl (c 0, 50, .inl v_p1_steps))] o_r A below [.ref q_this, .ref q_p1] s) (F0 m 7 ls []) := by
    intro n
    induction n with
    | zero => intro x2 x3 x4 v_p1_answers v_p1_stack H locs hP hD hS ls hl h; exact no_ok h
    | succ n ih =>
      intro x2 x3 x4 v_p1_answers v_p1_stack H locs hP hD hS ls hl h
      rw [f_X10_shownBy_L7] at h
      refine lv_iload hx hb dX10_shownBy_7 (lv_at hl 4 rfl) ?_
      refine lv_aload_n hx hb dX10_shownBy_9 rfl (lv_at hl 0 rfl) ?_
      refine va_get (D := D) (ci := 10) (v := .int v_rows) (C := RX10) (T := TX10) (N := 11) hx hb hts in_X10_shownBy_X10 hown hK.1 hP 0 rfl rfl 0 (by decide) (hts (.fieldLink RX10 9 "PaperBubbles$Wall" "rows" "I") (List.mem_of_getElem? (i := 1) rfl)) (fun _ h9 => h9) rfl dX10_shownBy_10 ?_
      refine lv_icmp_ge (tgt := 68) hx hb dX10_shownBy_13 (by decide) (fun c_1 => ?_) (fun c_1 => ?_)
      · replace h := it_t c_1 h
        refine lv_iload_n hx hb dX10_shownBy_68 rfl (lv_at hl 2 rfl) ?_
        replace h := so3 h
        obtain ⟨z0, z1, z2⟩ := h
        subst z0 z1 z2
        exact gIret hF hP hD hS rfl dX10_shownBy_69
      · replace h := it_f c_1 h
        refine lv_iconst (v := 0) hx hb dX10_shownBy_16 (by decide) ?_
        refine lv_istore (lv' := [(5, .int 0), (0, .ref q_this), (1, .ref q_p1), (2, .int x2), (3, .int x3), (4, .int x4)]) hx hb dX10_shownBy_17 hl (by decide) rfl (fun ls hl => ?_)
        exact t_L19 _ ih gFuel x2 x3 x4 0 v_p1_answers v_p1_stack H locs hP hD hS ls (lv_sub hl [1, 2, 3, 4, 5, 0] rfl) h
  unfold f_X10_shownBy at h
  refine lv_iconst (v := 0) hx hb dX10_shownBy_0 (by decide) ?_
  refine lv_istore_n (lv' := [(2, .int 0), (0, .ref q_this), (1, .ref q_p1)]) hx hb dX10_shownBy_1 rfl hl (by decide) rfl (fun ls hl => ?_)
  refine lv_iconst (v := 0) hx hb dX10_shownBy_2 (by decide) ?_
  refine lv_istore_n (lv' := [(3, .int 0), (2, .int 0), (0, .ref q_this), (1, .ref q_p1)]) hx hb dX10_shownBy_3 rfl hl (by decide) rfl (fun ls hl => ?_)
  refine lv_iconst (v := 0) hx hb dX10_shownBy_4 (by decide) ?_
  refine lv_istore (lv' := [(4, .int 0), (3, .int 0), (2, .int 0), (0, .ref q_this), (1, .ref q_p1)]) hx hb dX10_shownBy_5 hl (by decide) rfl (fun ls hl => ?_)
  exact t_L7 gFuel 0 0 0 v_p1_answers v_p1_stack s.heap [] hP hD hS ls (lv_sub hl [3, 4, 2, 1, 0] rfl) h
set_option maxRecDepth 20000 in
theorem in_X10_sizeOfBubble_X10 : ∀ w ∈ u_ws RX10 TX10 11, w ∈ wsX10_sizeOfBubble := by decide +kernel
abbrev rm_X10_sizeOfBubble : Room := { frames := 4, cells := 0, slots := 0, locals := 89 }
set_option maxHeartbeats 4000000 in
set_option maxRecDepth 100000 in
theorem c_X10_sizeOfBubble (l : Launch) (D : va_G) (c : Nat → ClassId) (q_this q_air q_paste q_open q_met q_line : Nat) (a_1 : Int32) (v_rows : Int32) (v_columns : Int32) (v_holes : Int32) (v_out : Int32) (v_night : Int32) (v_inLine : Int32) (v_air : Nat → Int32) (v_line : Nat → Int32) (v_met : Nat → Int32) (o_r : Int32) (o_v_inLine : Int32) (o_v_line : Nat → Int32) (o_v_met : Nat → Int32) (h : f_X10_sizeOfBubble a_1 v_rows v_columns v_inLine v_air v_line v_met = some (o_r, o_v_inLine, o_v_line, o_v_met)) : gMI l yX10_sizeOfBubble wsX10_sizeOfBubble rm_X10_sizeOfBubble D c [.ref q_this, .int a_1] [(q_this, .inr (10, [.int v_rows, .int v_columns, .ref q_air, .ref q_paste, .ref q_open, .int v_holes, .int v_out, .int v_night, .ref q_met, .ref q_line, .int v_inLine])), (q_air, .inl (c 0, 25, .inl v_air)), (q_line, .inl (c 0, 25, .inl v_line)), (q_met, .inl (c 0, 25, .inl v_met))] [(q_this, .inr (10, [.int v_rows, .int v_columns, .ref q_air, .ref q_paste, .ref q_open, .int v_holes, .int v_out, .int v_night, .ref q_met, .ref q_line, .int o_v_inLine])), (q_air, .inl (c 0, 25, .inl v_air)), (q_line, .inl (c 0, 25, .inl o_v_line)), (q_met, .inl (c 0, 25, .inl o_v_met))] o_r := by
  refine gMI_of (cc := cX10_sizeOfBubble) (maxL := 2) (rt := (some .int)) (by decide +kernel) rfl (Nat.le_of_ble_eq_true rfl) ?_
  intro p e s m below meth co A hF hK hX hP hD hA hS ls hl
  obtain ⟨hx, hb, hr, hts, hown, hlocks, hml⟩ := id hF
  have hl : lv_has ls 2 [(0, .ref q_this), (1, .int a_1)] := hl
  unfold f_X10_sizeOfBubble at h
  refine lv_aload_n hx hb dX10_sizeOfBubble_0 rfl (lv_at hl 0 rfl) ?_
  refine va_get (D := D) (ci := 10) (v := .ref q_met) (C := RX10) (T := TX10) (N := 11) hx hb hts in_X10_sizeOfBubble_X10 hown hK.1 hP 0 rfl rfl 8 (by decide) (hts (.fieldLink RX10 28 "PaperBubbles$Wall" "met" "[I") (List.mem_of_getElem? (i := 1) rfl)) (fun _ h9 => h9) rfl dX10_sizeOfBubble_1 ?_
  refine lv_iconst (v := 0) hx hb dX10_sizeOfBubble_4 (by decide) ?_
  replace h := kb_ok h
  obtain ⟨w_2, hc_1, h⟩ := h
  refine gCallV (isC := [3]) (wc := [(q_met, .inl (c 0, 25, .inl v_met))]) (w1 := [(q_met, .inl (c 0, 25, .inl w_2))]) (ws2 := [(q_this, .inr (10, [.int v_rows, .int v_columns, .ref q_air, .ref q_paste, .ref q_open, .int v_holes, .int v_out, .int v_night, .ref q_met, .ref q_line, .int v_inLine])), (q_air, .inl (c 0, 25, .inl v_air)), (q_line, .inl (c 0, 25, .inl v_line)), (q_met, .inl (c 0, 25, .inl w_2))]) (ms := [none, none, none, (some 0)]) hP hD hS hA ⟨rfl, trivial⟩ (by decide +kernel) ⟨rfl, rfl, rfl, rfl, trivial⟩ (va_runS (rm := rm_J7_fill_53178) (ws := wsJ7_fill_53178) (As := [.ref q_met, .int 0]) (rest := []) (gFix hF) (c_J7_fill_53178 l D c q_met 25 0 v_met w_2 hc_1 s.heap.size) (va_cwS 2 hts gX10_sizeOfBubble_J7_fill_53178 rfl rfl rfl (by decide +kernel) ⟨Nat.le_of_ble_eq_true rfl, Nat.le_of_ble_eq_true rfl⟩) (gPreS (wc := [(q_met, .inl (c 0, 25, .inl v_met))]) (isC := [3]) hK hX hS hA hP hD ⟨rfl, trivial⟩ (by decide +kernel)) rfl rfl hl.1 rfl (lv_room (Nat.le_of_ble_eq_true rfl)) dX10_sizeOfBubble_5 ⟨Nat.le_of_ble_eq_true rfl, Nat.le_of_ble_eq_true rfl⟩) (fun H locs hP hD hS => ?_)
  refine lv_aload_n hx hb dX10_sizeOfBubble_8 rfl (lv_at hl 0 rfl) ?_
  refine lv_iload_n hx hb dX10_sizeOfBubble_9 rfl (lv_at hl 1 rfl) ?_
  replace h := kb4_ok h
  obtain ⟨r_4, w_5, w_6, w_7, hc_3, h⟩ := h
  refine gCallI (isC := [0, 1, 2, 3]) (wc := [(q_this, .inr (10, [.int v_rows, .int v_columns, .ref q_air, .ref q_paste, .ref q_open, .int v_holes, .int v_out, .int v_night, .ref q_met, .ref q_line, .int v_inLine])), (q_air, .inl (c 0, 25, .inl v_air)), (q_line, .inl (c 0, 25, .inl v_line)), (q_met, .inl (c 0, 25, .inl w_2))]) (w1 := [(q_this, .inr (10, [.int v_rows, .int v_columns, .ref q_air, .ref q_paste, .ref q_open, .int v_holes, .int v_out, .int v_night, .ref q_met, .ref q_line, .int w_5])), (q_air, .inl (c 0, 25, .inl v_air)), (q_line, .inl (c 0, 25, .inl w_6)), (q_met, .inl (c 0, 25, .inl w_7))]) (ws2 := [(q_this, .inr (10, [.int v_rows, .int v_columns, .ref q_air, .ref q_paste, .ref q_open, .int v_holes, .int v_out, .int v_night, .ref q_met, .ref q_line, .int w_5])), (q_air, .inl (c 0, 25, .inl v_air)), (q_line, .inl (c 0, 25, .inl w_6)), (q_met, .inl (c 0, 25, .inl w_7))]) (ms := [(some 0), (some 1), (some 2), (some 3)]) hP hD hS hA ⟨rfl, rfl, rfl, rfl, trivial⟩ (by decide +kernel) ⟨rfl, rfl, rfl, rfl, trivial⟩ (va_runV (rm := rm_X10_meetBubble) (ws := wsX10_meetBubble) (As := [.int a_1]) (rest := []) (gFix hF) (c_X10_meetBubble l D c q_this q_air q_paste q_open q_met q_line a_1 v_rows v_columns v_holes v_out v_night v_inLine v_air v_line w_2 r_4 w_5 w_6 w_7 hc_3 H.size) (cwV 1 hts gX10_sizeOfBubble_X10_meetBubble rfl rfl rfl (by decide +kernel) ⟨Nat.le_of_ble_eq_true rfl, Nat.le_of_ble_eq_true rfl⟩) (gPreV (wc := [(q_this, .inr (10, [.int v_rows, .int v_columns, .ref q_air, .ref q_paste, .ref q_open, .int v_holes, .int v_out, .int v_night, .ref q_met, .ref q_line, .int v_inLine])), (q_air, .inl (c 0, 25, .inl v_air)), (q_line, .inl (c 0, 25, .inl v_line)), (q_met, .inl (c 0, 25, .inl w_2))]) (q := (RX10, TX10, 11)) (ci := 10) (q0 := 0) (isC := [0, 1, 2, 3]) hK hX hS hA hP hD ⟨rfl, rfl, rfl, rfl, trivial⟩ (by decide +kernel) rfl rfl) rfl rfl hl.1 rfl (lv_room (Nat.le_of_ble_eq_true rfl)) dX10_sizeOfBubble_10 ⟨Nat.le_of_ble_eq_true rfl, Nat.le_of_ble_eq_true rfl⟩) (fun H locs hP hD hS => ?_)
  replace h := so4 h
  obtain ⟨z0, z1, z2, z3⟩ := h
  subst z0 z1 z2 z3
  exact gIret hF hP hD hS rfl dX10_sizeOfBubble_13
abbrev rm_X8_lets : Room := { frames := 0, cells := 0, slots := 0, locals := 0 }
set_option maxHeartbeats 4000000 in
set_option maxRecDepth 100000 in
theorem c_X8_lets (l : Launch) (D : va_G) (c : Nat → ClassId) (q_this : Nat) (a_1 : Int32) (a_2 : Int32) (o_r : Int32) (h : f_X8_lets a_1 a_2 = some o_r) : gMI l yX8_lets wsX8_lets rm_X8_lets D c [.ref q_this, .int a_1, .int a_2] [] [] o_r := by
  refine gMI_of (cc := cX8_lets) (maxL := 3) (rt := (some .int)) (by decide +kernel) rfl (Nat.le_of_ble_eq_true rfl) ?_
  intro p e s m below meth co A hF hK hX hP hD hA hS ls hl
  obtain ⟨hx, hb, hr, hts, hown, hlocks, hml⟩ := id hF
  have hl : lv_has ls 3 [(0, .ref q_this), (1, .int a_1), (2, .int a_2)] := hl
  unfold f_X8_lets at h
  refine lv_iconst (v := 0) hx hb dX8_lets_0 (by decide) ?_
  replace h := so1 h
  subst h
  exact gIret hF hP hD hS rfl dX8_lets_1
abbrev rm_X4_lets : Room := { frames := 0, cells := 0, slots := 0, locals := 0 }
set_option maxHeartbeats 4000000 in
set_option maxRecDepth 100000 in
theorem c_X4_lets (l : Launch) (D : va_G) (c : Nat → ClassId) (q_this : Nat) (a_1 : Int32) (a_2 : Int32) (o_r : Int32) (h : f_X4_lets a_1 a_2 = some o_r) : gMI l yX4_lets wsX4_lets rm_X4_lets D c [.ref q_this, .int a_1, .int a_2] [] [] o_r := by
  refine gMI_of (cc := cX4_lets) (maxL := 3) (rt := (some .int)) (by decide +kernel) rfl (Nat.le_of_ble_eq_true rfl) ?_
  intro p e s m below meth co A hF hK hX hP hD hA hS ls hl
  obtain ⟨hx, hb, hr, hts, hown, hlocks, hml⟩ := id hF
  have hl : lv_has ls 3 [(0, .ref q_this), (1, .int a_1), (2, .int a_2)] := hl
  unfold f_X4_lets at h
  refine lv_iload_n hx hb dX4_lets_0 rfl (lv_at hl 2 rfl) ?_
  refine lv_iconst (v := 1) hx hb dX4_lets_1 (by decide) ?_
  refine lv_iadd hx hb dX4_lets_2 ?_
  replace h := so1 h
  subst h
  exact gIret hF hP hD hS rfl dX4_lets_3
abbrev rm_X2_lets : Room := { frames := 0, cells := 0, slots := 0, locals := 0 }
set_option maxHeartbeats 4000000 in
set_option maxRecDepth 100000 in
theorem c_X2_lets (l : Launch) (D : va_G) (c : Nat → ClassId) (q_this : Nat) (a_1 : Int32) (a_2 : Int32) (o_r : Int32) (h : f_X2_lets a_1 a_2 = some o_r) : gMI l yX2_lets wsX2_lets rm_X2_lets D c [.ref q_this, .int a_1, .int a_2] [] [] o_r := by
  refine gMI_of (cc := cX2_lets) (maxL := 3) (rt := (some .int)) (by decide +kernel) rfl (Nat.le_of_ble_eq_true rfl) ?_
  intro p e s m below meth co A hF hK hX hP hD hA hS ls hl
  obtain ⟨hx, hb, hr, hts, hown, hlocks, hml⟩ := id hF
  have hl : lv_has ls 3 [(0, .ref q_this), (1, .int a_1), (2, .int a_2)] := hl
  unfold f_X2_lets at h
  refine lv_iload_n hx hb dX2_lets_0 rfl (lv_at hl 1 rfl) ?_
  replace h := so1 h
  subst h
  exact gIret hF hP hD hS rfl dX2_lets_1
theorem td_lets {k : Int32} {a_1 : Int32} {a_2 : Int32} {o : Int32} (h : f_TD_lets k a_1 a_2 = some o) : (k = 0 ∧ f_X8_lets a_1 a_2 = some o) ∨ (k = 1 ∧ f_X8_lets a_1 a_2 = some o) ∨ (k = 2 ∧ f_X4_lets a_1 a_2 = some o) ∨ (k = 3 ∧ f_X8_lets a_1 a_2 = some o) ∨ (k = 4 ∧ f_X8_lets a_1 a_2 = some o) ∨ (k = 5 ∧ f_X2_lets a_1 a_2 = some o) ∨ (k = 6 ∧ f_X8_lets a_1 a_2 = some o) := by
  unfold f_TD_lets at h
  by_cases c0 : k = 0
  · exact Or.inl ⟨c0, it_t c0 h⟩
  replace h := it_f c0 h
  by_cases c1 : k = 1
  · exact Or.inr (Or.inl ⟨c1, it_t c1 h⟩)
  replace h := it_f c1 h
  by_cases c2 : k = 2
  · exact Or.inr (Or.inr (Or.inl ⟨c2, it_t c2 h⟩))
  replace h := it_f c2 h
  by_cases c3 : k = 3
  · exact Or.inr (Or.inr (Or.inr (Or.inl ⟨c3, it_t c3 h⟩)))
  replace h := it_f c3 h
  by_cases c4 : k = 4
  · exact Or.inr (Or.inr (Or.inr (Or.inr (Or.inl ⟨c4, it_t c4 h⟩))))
  replace h := it_f c4 h
  by_cases c5 : k = 5
  · exact Or.inr (Or.inr (Or.inr (Or.inr (Or.inr (Or.inl ⟨c5, it_t c5 h⟩)))))
  replace h := it_f c5 h
  by_cases c6 : k = 6
  · exact Or.inr (Or.inr (Or.inr (Or.inr (Or.inr (Or.inr (⟨c6, it_t c6 h⟩))))))
  replace h := it_f c6 h
  exact no_ok h
abbrev rm_X8_reach : Room := { frames := 0, cells := 0, slots := 0, locals := 0 }
set_option maxHeartbeats 4000000 in
set_option maxRecDepth 100000 in
theorem c_X8_reach (l : Launch) (D : va_G) (c : Nat → ClassId) (q_this : Nat) (a_1 : Int32) (o_r : Int32) (h : f_X8_reach a_1 = some o_r) : gMI l yX8_reach wsX8_reach rm_X8_reach D c [.ref q_this, .int a_1] [] [] o_r := by
  refine gMI_of (cc := cX8_reach) (maxL := 2) (rt := (some .int)) (by decide +kernel) rfl (Nat.le_of_ble_eq_true rfl) ?_
  intro p e s m below meth co A hF hK hX hP hD hA hS ls hl
  obtain ⟨hx, hb, hr, hts, hown, hlocks, hml⟩ := id hF
  have hl : lv_has ls 2 [(0, .ref q_this), (1, .int a_1)] := hl
  unfold f_X8_reach at h
  refine lv_iconst (v := 1) hx hb dX8_reach_0 (by decide) ?_
  replace h := so1 h
  subst h
  exact gIret hF hP hD hS rfl dX8_reach_1
abbrev rm_X5_reach : Room := { frames := 0, cells := 0, slots := 0, locals := 0 }
set_option maxHeartbeats 4000000 in
set_option maxRecDepth 100000 in
theorem c_X5_reach (l : Launch) (D : va_G) (c : Nat → ClassId) (q_this : Nat) (a_1 : Int32) (o_r : Int32) (h : f_X5_reach a_1 = some o_r) : gMI l yX5_reach wsX5_reach rm_X5_reach D c [.ref q_this, .int a_1] [] [] o_r := by
  refine gMI_of (cc := cX5_reach) (maxL := 2) (rt := (some .int)) (by decide +kernel) rfl (Nat.le_of_ble_eq_true rfl) ?_
  intro p e s m below meth co A hF hK hX hP hD hA hS ls hl
  obtain ⟨hx, hb, hr, hts, hown, hlocks, hml⟩ := id hF
  have hl : lv_has ls 2 [(0, .ref q_this), (1, .int a_1)] := hl
  unfold f_X5_reach at h
  refine lv_iconst (v := 2) hx hb dX5_reach_0 (by decide) ?_
  replace h := so1 h
  subst h
  exact gIret hF hP hD hS rfl dX5_reach_1
abbrev rm_X1_reach : Room := { frames := 1, cells := 0, slots := 0, locals := 21 }
set_option maxHeartbeats 4000000 in
set_option maxRecDepth 100000 in
theorem c_X1_reach (l : Launch) (D : va_G) (c : Nat → ClassId) (q_this : Nat) (a_1 : Int32) (o_r : Int32) (h : f_X1_reach a_1 = some o_r) : gMI l yX1_reach wsX1_reach rm_X1_reach D c [.ref q_this, .int a_1] [(q_this, .inr (1, []))] [(q_this, .inr (1, []))] o_r := by
  refine gMI_of (cc := cX1_reach) (maxL := 2) (rt := (some .int)) (by decide +kernel) rfl (Nat.le_of_ble_eq_true rfl) ?_
  intro p e s m below meth co A hF hK hX hP hD hA hS ls hl
  obtain ⟨hx, hb, hr, hts, hown, hlocks, hml⟩ := id hF
  have hl : lv_has ls 2 [(0, .ref q_this), (1, .int a_1)] := hl
  unfold f_X1_reach at h
  refine lv_aload_n hx hb dX1_reach_0 rfl (lv_at hl 0 rfl) ?_
  refine lv_iload_n hx hb dX1_reach_1 rfl (lv_at hl 1 rfl) ?_
  replace h := kb_ok h
  obtain ⟨r_2, hc_1, h⟩ := h
  refine gCallIr (isC := []) (wc := []) hP hD hS hA trivial (va_runSU (rm := rm_X5_reach) (ws := wsX5_reach) (As := [.int a_1]) (rest := []) (hK.1.1 1 _ rfl).2 (gFix hF) (c_X5_reach l D c q_this a_1 r_2 hc_1 s.heap.size) (va_cwSU 1 hts gX1_reach_X5_reach_s21 rfl rfl rfl (by decide +kernel) ⟨Nat.le_of_ble_eq_true rfl, Nat.le_of_ble_eq_true rfl⟩) (gPreV (wc := []) (q := (RX1, TX1, 0)) (ci := 1) (q0 := 0) (isC := []) hK hX hS hA hP hD trivial (by decide +kernel) rfl rfl) rfl rfl hl.1 rfl (lv_room (Nat.le_of_ble_eq_true rfl)) dX1_reach_2 ⟨Nat.le_of_ble_eq_true rfl, Nat.le_of_ble_eq_true rfl⟩) (fun H locs hP hS => ?_)
  refine lv_iload_n hx hb dX1_reach_5 rfl (lv_at hl 1 rfl) ?_
  refine lv_iconst (v := 3) hx hb dX1_reach_6 (by decide) ?_
  replace h := chz_ok h
  obtain ⟨hz_3, h⟩ := h
  refine lv_irem hx hb dX1_reach_7 hz_3 ?_
  refine lv_iadd hx hb dX1_reach_8 ?_
  replace h := so1 h
  subst h
  exact gIret hF hP hD hS rfl dX1_reach_9
theorem td_reach {k : Int32} {a_1 : Int32} {o : Int32} (h : f_TD_reach k a_1 = some o) : (k = 0 ∧ f_X8_reach a_1 = some o) ∨ (k = 1 ∧ f_X8_reach a_1 = some o) ∨ (k = 2 ∧ f_X8_reach a_1 = some o) ∨ (k = 3 ∧ f_X5_reach a_1 = some o) ∨ (k = 4 ∧ f_X8_reach a_1 = some o) ∨ (k = 5 ∧ f_X8_reach a_1 = some o) ∨ (k = 6 ∧ f_X1_reach a_1 = some o) := by
  unfold f_TD_reach at h
  by_cases c0 : k = 0
  · exact Or.inl ⟨c0, it_t c0 h⟩
  replace h := it_f c0 h
  by_cases c1 : k = 1
  · exact Or.inr (Or.inl ⟨c1, it_t c1 h⟩)
  replace h := it_f c1 h
  by_cases c2 : k = 2
  · exact Or.inr (Or.inr (Or.inl ⟨c2, it_t c2 h⟩))
  replace h := it_f c2 h
  by_cases c3 : k = 3
  · exact Or.inr (Or.inr (Or.inr (Or.inl ⟨c3, it_t c3 h⟩)))
  replace h := it_f c3 h
  by_cases c4 : k = 4
  · exact Or.inr (Or.inr (Or.inr (Or.inr (Or.inl ⟨c4, it_t c4 h⟩))))
  replace h := it_f c4 h
  by_cases c5 : k = 5
  · exact Or.inr (Or.inr (Or.inr (Or.inr (Or.inr (Or.inl ⟨c5, it_t c5 h⟩)))))
  replace h := it_f c5 h
  by_cases c6 : k = 6
  · exact Or.inr (Or.inr (Or.inr (Or.inr (Or.inr (Or.inr (⟨c6, it_t c6 h⟩))))))
  replace h := it_f c6 h
  exact no_ok h
abbrev rm_X8_tears : Room := { frames := 0, cells := 0, slots := 0, locals := 0 }
set_option maxHeartbeats 4000000 in
set_option maxRecDepth 100000 in
theorem c_X8_tears (l : Launch) (D : va_G) (c : Nat → ClassId) (q_this : Nat) (a_1 : Int32) (o_r : Int32) (h : f_X8_tears a_1 = some o_r) : gMI l yX8_tears wsX8_tears rm_X8_tears D c [.ref q_this, .int a_1] [] [] o_r := by
  refine gMI_of (cc := cX8_tears) (maxL := 2) (rt := (some .int)) (by decide +kernel) rfl (Nat.le_of_ble_eq_true rfl) ?_
  intro p e s m below meth co A hF hK hX hP hD hA hS ls hl
  obtain ⟨hx, hb, hr, hts, hown, hlocks, hml⟩ := id hF
  have hl : lv_has ls 2 [(0, .ref q_this), (1, .int a_1)] := hl
  unfold f_X8_tears at h
  refine lv_iconst (v := 0) hx hb dX8_tears_0 (by decide) ?_
  replace h := so1 h
  subst h
  exact gIret hF hP hD hS rfl dX8_tears_1
abbrev rm_X4_tears : Room := { frames := 0, cells := 0, slots := 0, locals := 0 }
set_option maxHeartbeats 4000000 in
set_option maxRecDepth 100000 in
theorem c_X4_tears (l : Launch) (D : va_G) (c : Nat → ClassId) (q_this : Nat) (a_1 : Int32) (o_r : Int32) (h : f_X4_tears a_1 = some o_r) : gMI l yX4_tears wsX4_tears rm_X4_tears D c [.ref q_this, .int a_1] [] [] o_r := by
  refine gMI_of (cc := cX4_tears) (maxL := 2) (rt := (some .int)) (by decide +kernel) rfl (Nat.le_of_ble_eq_true rfl) ?_
  intro p e s m below meth co A hF hK hX hP hD hA hS ls hl
  obtain ⟨hx, hb, hr, hts, hown, hlocks, hml⟩ := id hF
  have hl : lv_has ls 2 [(0, .ref q_this), (1, .int a_1)] := hl
  unfold f_X4_tears at h
  refine lv_iload_n hx hb dX4_tears_0 rfl (lv_at hl 1 rfl) ?_
  refine lv_iconst (v := 3) hx hb dX4_tears_1 (by decide) ?_
  refine lv_icmp_ge (tgt := 9) hx hb dX4_tears_2 (by decide) (fun c_1 => ?_) (fun c_1 => ?_)
  · replace h := it_t c_1 h
    refine lv_iconst (v := 0) hx hb dX4_tears_9 (by decide) ?_
    replace h := so1 h
    subst h
    exact gIret hF hP hD hS rfl dX4_tears_10
  · replace h := it_f c_1 h
    refine lv_iconst (v := 1) hx hb dX4_tears_5 (by decide) ?_
    refine lv_goto (tgt := 10) hx hb dX4_tears_6 (by decide) ?_
    replace h := so1 h
    subst h
    exact gIret hF hP hD hS rfl dX4_tears_10
abbrev rm_X2_tears : Room := { frames := 1, cells := 0, slots := 0, locals := 21 }
set_option maxHeartbeats 4000000 in
set_option maxRecDepth 100000 in
theorem c_X2_tears (l : Launch) (D : va_G) (c : Nat → ClassId) (q_this : Nat) (a_1 : Int32) (o_r : Int32) (h : f_X2_tears a_1 = some o_r) : gMI l yX2_tears wsX2_tears rm_X2_tears D c [.ref q_this, .int a_1] [(q_this, .inr (2, []))] [(q_this, .inr (2, []))] o_r := by
  refine gMI_of (cc := cX2_tears) (maxL := 2) (rt := (some .int)) (by decide +kernel) rfl (Nat.le_of_ble_eq_true rfl) ?_
  intro p e s m below meth co A hF hK hX hP hD hA hS ls hl
  obtain ⟨hx, hb, hr, hts, hown, hlocks, hml⟩ := id hF
  have hl : lv_has ls 2 [(0, .ref q_this), (1, .int a_1)] := hl
  unfold f_X2_tears at h
  refine lv_aload_n hx hb dX2_tears_0 rfl (lv_at hl 0 rfl) ?_
  refine lv_iload_n hx hb dX2_tears_1 rfl (lv_at hl 1 rfl) ?_
  replace h := kb_ok h
  obtain ⟨r_2, hc_1, h⟩ := h
  refine gCallIr (isC := []) (wc := []) hP hD hS hA trivial (va_runSU (rm := rm_X4_tears) (ws := wsX4_tears) (As := [.int a_1]) (rest := []) (hK.1.1 2 _ rfl).2 (gFix hF) (c_X4_tears l D c q_this a_1 r_2 hc_1 s.heap.size) (va_cwSU 1 hts gX2_tears_X4_tears_s11 rfl rfl rfl (by decide +kernel) ⟨Nat.le_of_ble_eq_true rfl, Nat.le_of_ble_eq_true rfl⟩) (gPreV (wc := []) (q := (RX2, TX2, 0)) (ci := 2) (q0 := 0) (isC := []) hK hX hS hA hP hD trivial (by decide +kernel) rfl rfl) rfl rfl hl.1 rfl (lv_room (Nat.le_of_ble_eq_true rfl)) dX2_tears_2 ⟨Nat.le_of_ble_eq_true rfl, Nat.le_of_ble_eq_true rfl⟩) (fun H locs hP hS => ?_)
  refine lv_iconst (v := 1) hx hb dX2_tears_5 (by decide) ?_
  refine lv_iadd hx hb dX2_tears_6 ?_
  replace h := so1 h
  subst h
  exact gIret hF hP hD hS rfl dX2_tears_7
abbrev rm_X1_tears : Room := { frames := 0, cells := 0, slots := 0, locals := 0 }
set_option maxHeartbeats 4000000 in
set_option maxRecDepth 100000 in
theorem c_X1_tears (l : Launch) (D : va_G) (c : Nat → ClassId) (q_this : Nat) (a_1 : Int32) (o_r : Int32) (h : f_X1_tears a_1 = some o_r) : gMI l yX1_tears wsX1_tears rm_X1_tears D c [.ref q_this, .int a_1] [] [] o_r := by
  refine gMI_of (cc := cX1_tears) (maxL := 2) (rt := (some .int)) (by decide +kernel) rfl (Nat.le_of_ble_eq_true rfl) ?_
  intro p e s m below meth co A hF hK hX hP hD hA hS ls hl
  obtain ⟨hx, hb, hr, hts, hown, hlocks, hml⟩ := id hF
  have hl : lv_has ls 2 [(0, .ref q_this), (1, .int a_1)] := hl
  unfold f_X1_tears at h
  refine lv_iload_n hx hb dX1_tears_0 rfl (lv_at hl 1 rfl) ?_
  refine lv_bipush (v := 7) hx hb dX1_tears_1 (by decide) ?_
  refine lv_icmp_le (tgt := 10) hx hb dX1_tears_3 (by decide) (fun c_1 => ?_) (fun c_1 => ?_)
  · replace h := it_t c_1 h
    refine lv_iconst (v := 0) hx hb dX1_tears_10 (by decide) ?_
    replace h := so1 h
    subst h
    exact gIret hF hP hD hS rfl dX1_tears_11
  · replace h := it_f c_1 h
    refine lv_iconst (v := 1) hx hb dX1_tears_6 (by decide) ?_
    refine lv_goto (tgt := 11) hx hb dX1_tears_7 (by decide) ?_
    replace h := so1 h
    subst h
    exact gIret hF hP hD hS rfl dX1_tears_11
theorem td_tears {k : Int32} {a_1 : Int32} {o : Int32} (h : f_TD_tears k a_1 = some o) : (k = 0 ∧ f_X8_tears a_1 = some o) ∨ (k = 1 ∧ f_X8_tears a_1 = some o) ∨ (k = 2 ∧ f_X4_tears a_1 = some o) ∨ (k = 3 ∧ f_X8_tears a_1 = some o) ∨ (k = 4 ∧ f_X8_tears a_1 = some o) ∨ (k = 5 ∧ f_X2_tears a_1 = some o) ∨ (k = 6 ∧ f_X1_tears a_1 = some o) := by
  unfold f_TD_tears at h
  by_cases c0 : k = 0
  · exact Or.inl ⟨c0, it_t c0 h⟩
  replace h := it_f c0 h
  by_cases c1 : k = 1
  · exact Or.inr (Or.inl ⟨c1, it_t c1 h⟩)
  replace h := it_f c1 h
  by_cases c2 : k = 2
  · exact Or.inr (Or.inr (Or.inl ⟨c2, it_t c2 h⟩))
  replace h := it_f c2 h
  by_cases c3 : k = 3
  · exact Or.inr (Or.inr (Or.inr (Or.inl ⟨c3, it_t c3 h⟩)))
  replace h := it_f c3 h
  by_cases c4 : k = 4
  · exact Or.inr (Or.inr (Or.inr (Or.inr (Or.inl ⟨c4, it_t c4 h⟩))))
  replace h := it_f c4 h
  by_cases c5 : k = 5
  · exact Or.inr (Or.inr (Or.inr (Or.inr (Or.inr (Or.inl ⟨c5, it_t c5 h⟩)))))
  replace h := it_f c5 h
  by_cases c6 : k = 6
  · exact Or.inr (Or.inr (Or.inr (Or.inr (Or.inr (Or.inr (⟨c6, it_t c6 h⟩))))))
  replace h := it_f c6 h
  exact no_ok h
set_option maxRecDepth 20000 in
theorem in_X10_strike_X10 : ∀ w ∈ u_ws RX10 TX10 11, w ∈ wsX10_strike := by decide +kernel
abbrev rm_X10_strike : Room := { frames := 4, cells := 0, slots := 0, locals := 101 }
set_option maxHeartbeats 4000000 in
set_option maxRecDepth 100000 in
theorem c_X10_strike (l : Launch) (D : va_G) (c : Nat → ClassId) (q_this q_p3 q_air q_paste q_open q_met q_line q_p3_steps q_p3_stack q_p3_answers q_p3_draft q_p3_held : Nat) (ta : Nat → Nat) (s_p3_names : Nat) (n_p3_answers : Nat) (a_2 : Int32) (a_4 : Int32) (a_5 : Int32) (k_1 : Int32) (v_rows : Int32) (v_columns : Int32) (v_holes : Int32) (v_out : Int32) (v_night : Int32) (v_inLine : Int32) (v_air : Nat → Int32) (v_open : Nat → Int32) (v_paste : Nat → Int32) (v_p3_length : Int32) (v_p3_side : Int32) (v_p3_round : Int32) (v_p3_drafted : Int32) (v_p3_holding : Int32) (v_p3_open : Int32) (v_p3_digits : Int32) (v_p3_wantsOperand : Int32) (v_p3_answers : Nat → Int32) (v_p3_stack : Nat → Int32) (v_p3_steps : Nat → Int32) (o_v_holes : Int32) (o_v_out : Int32) (o_v_air : Nat → Int32) (o_v_p3_answers : Nat → Int32) (o_v_p3_stack : Nat → Int32) (h : f_X10_strike a_2 a_4 a_5 k_1 n_p3_answers v_rows v_columns v_holes v_out v_air v_open v_paste v_p3_length v_p3_side v_p3_round v_p3_answers v_p3_stack v_p3_steps = some (o_v_holes, o_v_out, o_v_air, o_v_p3_answers, o_v_p3_stack)) : gMV l yX10_strike wsX10_strike rm_X10_strike D c [.ref q_this, .ref (ta k_1.toNatClampNeg), .int a_2, .ref q_p3, .int a_4, .int a_5] [(q_this, .inr (10, [.int v_rows, .int v_columns, .ref q_air, .ref q_paste, .ref q_open, .int v_holes, .int v_out, .int v_night, .ref q_met, .ref q_line, .int v_inLine])), (q_air, .inl (c 0, 25, .inl v_air)), (q_open, .inl (c 0, 4, .inl v_open)), (q_paste, .inl (c 0, 25, .inl v_paste)), (q_p3, .inr (3, [.ref (c (10 + s_p3_names)), .ref q_p3_steps, .int v_p3_length, .ref q_p3_stack, .ref q_p3_answers, .int v_p3_side, .int v_p3_round, .ref q_p3_draft, .int v_p3_drafted, .ref q_p3_held, .int v_p3_holding, .int v_p3_open, .int v_p3_digits, .int v_p3_wantsOperand])), (q_p3_answers, .inl (c 0, n_p3_answers, .inl v_p3_answers)), (q_p3_stack, .inl (c 0, 50, .inl v_p3_stack)), (q_p3_steps, .inl (c 0, 50, .inl v_p3_steps)), (ta 0, .inr (8, [])), (ta 1, .inr (0, [])), (ta 2, .inr (4, [])), (ta 3, .inr (5, [])), (ta 4, .inr (6, [])), (ta 5, .inr (2, [])), (ta 6, .inr (1, []))] [(q_this, .inr (10, [.int v_rows, .int v_columns, .ref q_air, .ref q_paste, .ref q_open, .int o_v_holes, .int o_v_out, .int v_night, .ref q_met, .ref q_line, .int v_inLine])), (q_air, .inl (c 0, 25, .inl o_v_air)), (q_open, .inl (c 0, 4, .inl v_open)), (q_paste, .inl (c 0, 25, .inl v_paste)), (q_p3, .inr (3, [.ref (c (10 + s_p3_names)), .ref q_p3_steps, .int v_p3_length, .ref q_p3_stack, .ref q_p3_answers, .int v_p3_side, .int v_p3_round, .ref q_p3_draft, .int v_p3_drafted, .ref q_p3_held, .int v_p3_holding, .int v_p3_open, .int v_p3_digits, .int v_p3_wantsOperand])), (q_p3_answers, .inl (c 0, n_p3_answers, .inl o_v_p3_answers)), (q_p3_stack, .inl (c 0, 50, .inl o_v_p3_stack)), (q_p3_steps, .inl (c 0, 50, .inl v_p3_steps)), (ta 0, .inr (8, [])), (ta 1, .inr (0, [])), (ta 2, .inr (4, [])), (ta 3, .inr (5, [])), (ta 4, .inr (6, [])), (ta 5, .inr (2, [])), (ta 6, .inr (1, []))] := by
  refine gMV_of (cc := cX10_strike) (maxL := 10) (rt := none) (by decide +kernel) rfl (Nat.le_of_ble_eq_true rfl) ?_
  intro p e s m below meth co A hF hK hX hP hD hA hS ls hl
  obtain ⟨hx, hb, hr, hts, hown, hlocks, hml⟩ := id hF
  have hl : lv_has ls 10 [(0, .ref q_this), (1, .ref (ta k_1.toNatClampNeg)), (2, .int a_2), (3, .ref q_p3), (4, .int a_4), (5, .int a_5)] := hl
  have t_L91 : ∀ (n : Nat), ∀ (x7 : Int32) (x8 : Int32) (x9 : Int32) (v_holes : Int32) (v_out : Int32) (v_air : Nat → Int32) (v_p3_answers : Nat → Int32) (v_p3_stack : Nat → Int32) (H : Heap) (locs : List Loc), va_P D gcl [(q_this, .inr (10, [.int v_rows, .int v_columns, .ref q_air, .ref q_paste, .ref q_open, .int v_holes, .int v_out, .int v_night, .ref q_met, .ref q_line, .int v_inLine])), (q_air, .inl (c 0, 25, .inl v_air)), (q_open, .inl (c 0, 4, .inl v_open)), (q_paste, .inl (c 0, 25, .inl v_paste)), (q_p3, .inr (3, [.ref (c (10 + s_p3_names)), .ref q_p3_steps, .int v_p3_length, .ref q_p3_stack, .ref q_p3_answers, .int v_p3_side, .int v_p3_round, .ref q_p3_draft, .int v_p3_drafted, .ref q_p3_held, .int v_p3_holding, .int v_p3_open, .int v_p3_digits, .int v_p3_wantsOperand])), (q_p3_answers, .inl (c 0, n_p3_answers, .inl v_p3_answers)), (q_p3_stack, .inl (c 0, 50, .inl v_p3_stack)), (q_p3_steps, .inl (c 0, 50, .inl v_p3_steps)), (ta 0, .inr (8, [])), (ta 1, .inr (0, [])), (ta 2, .inr (4, [])), (ta 3, .inr (5, [])), (ta 4, .inr (6, [])), (ta 5, .inr (2, [])), (ta 6, .inr (1, []))] H → va_D A [(q_this, .inr (10, [.int v_rows, .int v_columns, .ref q_air, .ref q_paste, .ref q_open, .int v_holes, .int v_out, .int v_night, .ref q_met, .ref q_line, .int v_inLine])), (q_air, .inl (c 0, 25, .inl v_air)), (q_open, .inl (c 0, 4, .inl v_open)), (q_paste, .inl (c 0, 25, .inl v_paste)), (q_p3, .inr (3, [.ref (c (10 + s_p3_names)), .ref q_p3_steps, .int v_p3_length, .ref q_p3_stack, .ref q_p3_answers, .int v_p3_side, .int v_p3_round, .ref q_p3_draft, .int v_p3_drafted, .ref q_p3_held, .int v_p3_holding, .int v_p3_open, .int v_p3_digits, .int v_p3_wantsOperand])), (q_p3_answers, .inl (c 0, n_p3_answers, .inl v_p3_answers)), (q_p3_stack, .inl (c 0, 50, .inl v_p3_stack)), (q_p3_steps, .inl (c 0, 50, .inl v_p3_steps)), (ta 0, .inr (8, [])), (ta 1, .inr (0, [])), (ta 2, .inr (4, [])), (ta 3, .inr (5, [])), (ta 4, .inr (6, [])), (ta 5, .inr (2, [])), (ta 6, .inr (1, []))] → va_S A s.heap H locs → ∀ ls, lv_has ls 10 [(0, .ref q_this), (1, .ref (ta k_1.toNatClampNeg)), (2, .int a_2), (3, .ref q_p3), (5, .int a_5), (7, .int x7), (8, .int x8), (9, .int x9)] → f_X10_strike_L91 a_2 a_5 k_1 n_p3_answers v_rows v_columns v_open v_paste v_p3_length v_p3_side v_p3_round v_p3_steps n x7 x8 x9 v_holes v_out v_air v_p3_answers v_p3_stack = some (o_v_holes, o_v_out, o_v_air, o_v_p3_answers, o_v_p3_stack) → W p l e (headSpec wsX10_strike rm_X10_strike).room s m [.ref q_this, .ref (ta k_1.toNatClampNeg), .int a_2, .ref q_p3, .int a_4, .int a_5].toArray below meth co H locs 0 0 (gQV D [(q_this, .inr (10, [.int v_rows, .int v_columns, .ref q_air, .ref q_paste, .ref q_open, .int o_v_holes, .int o_v_out, .int v_night, .ref q_met, .ref q_line, .int v_inLine])), (q_air, .inl (c 0, 25, .inl o_v_air)), (q_open, .inl (c 0, 4, .inl v_open)), (q_paste, .inl (c 0, 25, .inl v_paste)), (q_p3, .inr (3, [.ref (c (10 + s_p3_names)), .ref q_p3_steps, .int v_p3_length, .ref q_p3_stack, .ref q_p3_answers, .int v_p3_side, .int v_p3_round, .ref q_p3_draft, .int v_p3_drafted, .ref q_p3_held, .int v_p3_holding, .int v_p3_open, .int v_p3_digits, .int v_p3_wantsOperand])), (q_p3_answers, .inl (c 0, n_p3_answers, .inl o_v_p3_answers)), (q_p3_stack, .inl (c 0, 50, .inl o_v_p3_stack)), (q_p3_steps, .inl (c 0, 50, .inl v_p3_steps)), (ta 0, .inr (8, [])), (ta 1, .inr (0, [])), (ta 2, .inr (4, [])), (ta 3, .inr (5, [])), (ta 4, .inr (6, [])), (ta 5, .inr (2, [])), (ta 6, .inr (1, []))] A below [.ref q_this, .ref (ta k_1.toNatClampNeg), .int a_2, .ref q_p3, .int a_4, .int a_5] s) (F0 m 91 ls []) := by
    intro n
    induction n with
    | zero => intro x7 x8 x9 v_holes v_out v_air v_p3_answers v_p3_stack H locs hP hD hS ls hl h; exact no_ok h
    | succ n ih =>
      intro x7 x8 x9 v_holes v_out v_air v_p3_answers v_p3_stack H locs hP hD hS ls hl h
      rw [f_X10_strike_L91] at h
      refine lv_iload hx hb dX10_strike_91 (lv_at hl 7 rfl) ?_
      refine lv_iload hx hb dX10_strike_93 (lv_at hl 5 rfl) ?_
      refine lv_icmp_ge (tgt := 126) hx hb dX10_strike_95 (by decide) (fun c_29 => ?_) (fun c_29 => ?_)
      · replace h := it_t c_29 h
        replace h := so5 h
        obtain ⟨z0, z1, z2, z3, z4⟩ := h
        subst z0 z1 z2 z3 z4
        exact gVret hF hP hD hS dX10_strike_126
      · replace h := it_f c_29 h
        refine lv_aload_n hx hb dX10_strike_98 rfl (lv_at hl 0 rfl) ?_
        refine lv_iload hx hb dX10_strike_99 (lv_at hl 6 rfl) ?_
        replace h := kb_ok h
        obtain ⟨r_31, hc_30, h⟩ := h
        refine gCallIr (isC := [0]) (wc := [(q_this, .inr (10, [.int v_rows, .int v_columns, .ref q_air, .ref q_paste, .ref q_open, .int v_holes, .int v_out, .int v_night, .ref q_met, .ref q_line, .int v_inLine]))]) hP hD hS hA ⟨rfl, trivial⟩ (va_runV (rm := rm_X10_has) (ws := wsX10_has) (As := [.int x8]) (rest := []) (gFix hF) (c_X10_has l D c q_this q_air q_paste q_open q_met q_line x8 v_rows v_columns v_holes v_out v_night v_inLine r_31 hc_30 H.size) (cwV 1 hts gX10_strike_X10_has rfl rfl rfl (by decide +kernel) ⟨Nat.le_of_ble_eq_true rfl, Nat.le_of_ble_eq_true rfl⟩) (gPreV (wc := [(q_this, .inr (10, [.int v_rows, .int v_columns, .ref q_air, .ref q_paste, .ref q_open, .int v_holes, .int v_out, .int v_night, .ref q_met, .ref q_line, .int v_inLine]))]) (q := (RX10, TX10, 11)) (ci := 10) (q0 := 0) (isC := [0]) hK hX hS hA hP hD ⟨rfl, trivial⟩ (by decide +kernel) rfl rfl) rfl rfl hl.1 rfl (lv_room (Nat.le_of_ble_eq_true rfl)) dX10_strike_101 ⟨Nat.le_of_ble_eq_true rfl, Nat.le_of_ble_eq_true rfl⟩) (fun H locs hP hS => ?_)
        refine lv_if_eq (tgt := 126) hx hb dX10_strike_104 (by decide) (fun c_32 => ?_) (fun c_32 => ?_)
        · replace h := it_t c_32 h
          replace h := so5 h
          obtain ⟨z0, z1, z2, z3, z4⟩ := h
          subst z0 z1 z2 z3 z4
          exact gVret hF hP hD hS dX10_strike_126
        · replace h := it_f c_32 h
          refine lv_aload_n hx hb dX10_strike_107 rfl (lv_at hl 0 rfl) ?_
          refine lv_aload_n hx hb dX10_strike_108 rfl (lv_at hl 1 rfl) ?_
          refine lv_iload_n hx hb dX10_strike_109 rfl (lv_at hl 2 rfl) ?_
          refine lv_aload_n hx hb dX10_strike_110 rfl (lv_at hl 3 rfl) ?_
          refine lv_iload hx hb dX10_strike_111 (lv_at hl 6 rfl) ?_
          refine lv_iload hx hb dX10_strike_113 (lv_at hl 4 rfl) ?_
          replace h := kb5_ok h
          obtain ⟨r_34, w_35, w_36, w_37, w_38, hc_33, h⟩ := h
          refine gCallI (isC := [0, 1, 2, 3, 4, 5, 6, 7, 8, 9, 10, 11, 12, 13, 14]) (wc := [(q_this, .inr (10, [.int v_rows, .int v_columns, .ref q_air, .ref q_paste, .ref q_open, .int v_holes, .int v_out, .int v_night, .ref q_met, .ref q_line, .int v_inLine])), (q_air, .inl (c 0, 25, .inl v_air)), (q_open, .inl (c 0, 4, .inl v_open)), (q_paste, .inl (c 0, 25, .inl v_paste)), (q_p3, .inr (3, [.ref (c (10 + s_p3_names)), .ref q_p3_steps, .int v_p3_length, .ref q_p3_stack, .ref q_p3_answers, .int v_p3_side, .int v_p3_round, .ref q_p3_draft, .int v_p3_drafted, .ref q_p3_held, .int v_p3_holding, .int v_p3_open, .int v_p3_digits, .int v_p3_wantsOperand])), (q_p3_answers, .inl (c 0, n_p3_answers, .inl v_p3_answers)), (q_p3_stack, .inl (c 0, 50, .inl v_p3_stack)), (q_p3_steps, .inl (c 0, 50, .inl v_p3_steps)), (ta 0, .inr (8, [])), (ta 1, .inr (0, [])), (ta 2, .inr (4, [])), (ta 3, .inr (5, [])), (ta 4, .inr (6, [])), (ta 5, .inr (2, [])), (ta 6, .inr (1, []))]) (w1 := [(q_this, .inr (10, [.int v_rows, .int v_columns, .ref q_air, .ref q_paste, .ref q_open, .int v_holes, .int w_35, .int v_night, .ref q_met, .ref q_line, .int v_inLine])), (q_air, .inl (c 0, 25, .inl w_36)), (q_open, .inl (c 0, 4, .inl v_open)), (q_paste, .inl (c 0, 25, .inl v_paste)), (q_p3, .inr (3, [.ref (c (10 + s_p3_names)), .ref q_p3_steps, .int v_p3_length, .ref q_p3_stack, .ref q_p3_answers, .int v_p3_side, .int v_p3_round, .ref q_p3_draft, .int v_p3_drafted, .ref q_p3_held, .int v_p3_holding, .int v_p3_open, .int v_p3_digits, .int v_p3_wantsOperand])), (q_p3_answers, .inl (c 0, n_p3_answers, .inl w_37)), (q_p3_stack, .inl (c 0, 50, .inl w_38)), (q_p3_steps, .inl (c 0, 50, .inl v_p3_steps)), (ta 0, .inr (8, [])), (ta 1, .inr (0, [])), (ta 2, .inr (4, [])), (ta 3, .inr (5, [])), (ta 4, .inr (6, [])), (ta 5, .inr (2, [])), (ta 6, .inr (1, []))]) (ws2 := [(q_this, .inr (10, [.int v_rows, .int v_columns, .ref q_air, .ref q_paste, .ref q_open, .int v_holes, .int w_35, .int v_night, .ref q_met, .ref q_line, .int v_inLine])), (q_air, .inl (c 0, 25, .inl w_36)), (q_open, .inl (c 0, 4, .inl v_open)), (q_paste, .inl (c 0, 25, .inl v_paste)), (q_p3, .inr (3, [.ref (c (10 + s_p3_names)), .ref q_p3_steps, .int v_p3_length, .ref q_p3_stack, .ref q_p3_answers, .int v_p3_side, .int v_p3_round, .ref q_p3_draft, .int v_p3_drafted, .ref q_p3_held, .int v_p3_holding, .int v_p3_open, .int v_p3_digits, .int v_p3_wantsOperand])), (q_p3_answers, .inl (c 0, n_p3_answers, .inl w_37)), (q_p3_stack, .inl (c 0, 50, .inl w_38)), (q_p3_steps, .inl (c 0, 50, .inl v_p3_steps)), (ta 0, .inr (8, [])), (ta 1, .inr (0, [])), (ta 2, .inr (4, [])), (ta 3, .inr (5, [])), (ta 4, .inr (6, [])), (ta 5, .inr (2, [])), (ta 6, .inr (1, []))]) (ms := [(some 0), (some 1), (some 2), (some 3), (some 4), (some 5), (some 6), (some 7), (some 8), (some 9), (some 10), (some 11), (some 12), (some 13), (some 14)]) hP hD hS hA ⟨rfl, rfl, rfl, rfl, rfl, rfl, rfl, rfl, rfl, rfl, rfl, rfl, rfl, rfl, rfl, trivial⟩ (by decide +kernel) ⟨rfl, rfl, rfl, rfl, rfl, rfl, rfl, rfl, rfl, rfl, rfl, rfl, rfl, rfl, rfl, trivial⟩ (va_runV (rm := rm_X10_pushOn) (ws := wsX10_pushOn) (As := [.ref (ta k_1.toNatClampNeg), .int a_2, .ref q_p3, .int x8, .int a_5]) (rest := []) (gFix hF) (c_X10_pushOn l D c q_this q_p3 q_air q_paste q_open q_met q_line q_p3_steps q_p3_stack q_p3_answers q_p3_draft q_p3_held ta s_p3_names n_p3_answers a_2 x8 a_5 k_1 v_rows v_columns v_holes v_out v_night v_inLine v_air v_open v_paste v_p3_length v_p3_side v_p3_round v_p3_drafted v_p3_holding v_p3_open v_p3_digits v_p3_wantsOperand v_p3_answers v_p3_stack v_p3_steps r_34 w_35 w_36 w_37 w_38 hc_33 H.size) (cwV 5 hts gX10_strike_X10_pushOn rfl rfl rfl (by decide +kernel) ⟨Nat.le_of_ble_eq_true rfl, Nat.le_of_ble_eq_true rfl⟩) (gPreV (wc := [(q_this, .inr (10, [.int v_rows, .int v_columns, .ref q_air, .ref q_paste, .ref q_open, .int v_holes, .int v_out, .int v_night, .ref q_met, .ref q_line, .int v_inLine])), (q_air, .inl (c 0, 25, .inl v_air)), (q_open, .inl (c 0, 4, .inl v_open)), (q_paste, .inl (c 0, 25, .inl v_paste)), (q_p3, .inr (3, [.ref (c (10 + s_p3_names)), .ref q_p3_steps, .int v_p3_length, .ref q_p3_stack, .ref q_p3_answers, .int v_p3_side, .int v_p3_round, .ref q_p3_draft, .int v_p3_drafted, .ref q_p3_held, .int v_p3_holding, .int v_p3_open, .int v_p3_digits, .int v_p3_wantsOperand])), (q_p3_answers, .inl (c 0, n_p3_answers, .inl v_p3_answers)), (q_p3_stack, .inl (c 0, 50, .inl v_p3_stack)), (q_p3_steps, .inl (c 0, 50, .inl v_p3_steps)), (ta 0, .inr (8, [])), (ta 1, .inr (0, [])), (ta 2, .inr (4, [])), (ta 3, .inr (5, [])), (ta 4, .inr (6, [])), (ta 5, .inr (2, [])), (ta 6, .inr (1, []))]) (q := (RX10, TX10, 11)) (ci := 10) (q0 := 0) (isC := [0, 1, 2, 3, 4, 5, 6, 7, 8, 9, 10, 11, 12, 13, 14]) hK hX hS hA hP hD ⟨rfl, rfl, rfl, rfl, rfl, rfl, rfl, rfl, rfl, rfl, rfl, rfl, rfl, rfl, rfl, trivial⟩ (by decide +kernel) rfl rfl) rfl rfl hl.1 rfl (lv_room (Nat.le_of_ble_eq_true rfl)) dX10_strike_115 ⟨Nat.le_of_ble_eq_true rfl, Nat.le_of_ble_eq_true rfl⟩) (fun H locs hP hD hS => ?_)
          refine lv_istore (lv' := [(8, .int r_34), (0, .ref q_this), (1, .ref (ta k_1.toNatClampNeg)), (2, .int a_2), (3, .ref q_p3), (5, .int a_5), (7, .int x7), (9, .int x9)]) hx hb dX10_strike_118 hl (by decide) rfl (fun ls hl => ?_)
          replace h := nm_ok h
          obtain ⟨t_39, et_39, h⟩ := h
          refine lv_iinc (v := t_39) (lv' := [(9, .int t_39), (8, .int r_34), (0, .ref q_this), (1, .ref (ta k_1.toNatClampNeg)), (2, .int a_2), (3, .ref q_p3), (5, .int a_5), (7, .int x7)]) hx hb dX10_strike_120 hl (k := 7) rfl (by rw [et_39]; rfl) (by decide) rfl (fun ls hl => ?_)
          refine lv_goto (tgt := 91) hx hb dX10_strike_123 (by decide) ?_
          exact ih x7 r_34 t_39 v_holes w_35 w_36 w_37 w_38 H locs hP hD hS ls (lv_sub hl [2, 3, 4, 5, 6, 7, 1, 0] rfl) h
  unfold f_X10_strike at h
  refine lv_aload_n hx hb dX10_strike_0 rfl (lv_at hl 0 rfl) ?_
  refine lv_iload hx hb dX10_strike_1 (lv_at hl 4 rfl) ?_
  replace h := kb_ok h
  obtain ⟨r_2, hc_1, h⟩ := h
  refine gCallIr (isC := [0]) (wc := [(q_this, .inr (10, [.int v_rows, .int v_columns, .ref q_air, .ref q_paste, .ref q_open, .int v_holes, .int v_out, .int v_night, .ref q_met, .ref q_line, .int v_inLine]))]) hP hD hS hA ⟨rfl, trivial⟩ (va_runV (rm := rm_X10_has) (ws := wsX10_has) (As := [.int a_4]) (rest := []) (gFix hF) (c_X10_has l D c q_this q_air q_paste q_open q_met q_line a_4 v_rows v_columns v_holes v_out v_night v_inLine r_2 hc_1 s.heap.size) (cwV 1 hts gX10_strike_X10_has rfl rfl rfl (by decide +kernel) ⟨Nat.le_of_ble_eq_true rfl, Nat.le_of_ble_eq_true rfl⟩) (gPreV (wc := [(q_this, .inr (10, [.int v_rows, .int v_columns, .ref q_air, .ref q_paste, .ref q_open, .int v_holes, .int v_out, .int v_night, .ref q_met, .ref q_line, .int v_inLine]))]) (q := (RX10, TX10, 11)) (ci := 10) (q0 := 0) (isC := [0]) hK hX hS hA hP hD ⟨rfl, trivial⟩ (by decide +kernel) rfl rfl) rfl rfl hl.1 rfl (lv_room (Nat.le_of_ble_eq_true rfl)) dX10_strike_3 ⟨Nat.le_of_ble_eq_true rfl, Nat.le_of_ble_eq_true rfl⟩) (fun H locs hP hS => ?_)
  refine lv_if_ne (tgt := 10) hx hb dX10_strike_6 (by decide) (fun c_3 => ?_) (fun c_3 => ?_)
  · replace h := it_f c_3 h
    refine lv_aload_n hx hb dX10_strike_10 rfl (lv_at hl 0 rfl) ?_
    refine va_get (D := D) (ci := 10) (v := .ref q_air) (C := RX10) (T := TX10) (N := 11) hx hb hts in_X10_strike_X10 hown hK.1 hP 0 rfl rfl 2 (by decide) (hts (.fieldLink RX10 18 "PaperBubbles$Wall" "air" "[I") (List.mem_of_getElem? (i := 1) rfl)) (fun _ h9 => h9) rfl dX10_strike_11 ?_
    refine lv_iload hx hb dX10_strike_14 (lv_at hl 4 rfl) ?_
    replace h := chi_ok h
    obtain ⟨hi_4, h⟩ := h
    refine va_iald hx hb hK.1 hP 1 0 rfl rfl hi_4 dX10_strike_16 ?_
    replace h := nm_ok h
    obtain ⟨t_5, et_5, h⟩ := h
    refine gTop et_5 ?_
    refine lv_aload_n hx hb dX10_strike_17 rfl (lv_at hl 1 rfl) ?_
    refine lv_aload_n hx hb dX10_strike_18 rfl (lv_at hl 0 rfl) ?_
    refine va_get (D := D) (ci := 10) (v := .ref q_air) (C := RX10) (T := TX10) (N := 11) hx hb hts in_X10_strike_X10 hown hK.1 hP 0 rfl rfl 2 (by decide) (hts (.fieldLink RX10 18 "PaperBubbles$Wall" "air" "[I") (List.mem_of_getElem? (i := 1) rfl)) (fun _ h9 => h9) rfl dX10_strike_19 ?_
    refine lv_iload hx hb dX10_strike_22 (lv_at hl 4 rfl) ?_
    replace h := chi_ok h
    obtain ⟨hi_6, h⟩ := h
    refine va_iald hx hb hK.1 hP 1 0 rfl rfl hi_6 dX10_strike_24 ?_
    replace h := nm_ok h
    obtain ⟨t_7, et_7, h⟩ := h
    refine gTop et_7 ?_
    refine lv_iload_n hx hb dX10_strike_25 rfl (lv_at hl 2 rfl) ?_
    replace h := kb_ok h
    obtain ⟨r_9, hc_8, h⟩ := h
    have cont_10 : ∀ (H : Heap) (locs : List Loc), va_P D gcl [(q_this, .inr (10, [.int v_rows, .int v_columns, .ref q_air, .ref q_paste, .ref q_open, .int v_holes, .int v_out, .int v_night, .ref q_met, .ref q_line, .int v_inLine])), (q_air, .inl (c 0, 25, .inl v_air)), (q_open, .inl (c 0, 4, .inl v_open)), (q_paste, .inl (c 0, 25, .inl v_paste)), (q_p3, .inr (3, [.ref (c (10 + s_p3_names)), .ref q_p3_steps, .int v_p3_length, .ref q_p3_stack, .ref q_p3_answers, .int v_p3_side, .int v_p3_round, .ref q_p3_draft, .int v_p3_drafted, .ref q_p3_held, .int v_p3_holding, .int v_p3_open, .int v_p3_digits, .int v_p3_wantsOperand])), (q_p3_answers, .inl (c 0, n_p3_answers, .inl v_p3_answers)), (q_p3_stack, .inl (c 0, 50, .inl v_p3_stack)), (q_p3_steps, .inl (c 0, 50, .inl v_p3_steps)), (ta 0, .inr (8, [])), (ta 1, .inr (0, [])), (ta 2, .inr (4, [])), (ta 3, .inr (5, [])), (ta 4, .inr (6, [])), (ta 5, .inr (2, [])), (ta 6, .inr (1, []))] H → va_D A [(q_this, .inr (10, [.int v_rows, .int v_columns, .ref q_air, .ref q_paste, .ref q_open, .int v_holes, .int v_out, .int v_night, .ref q_met, .ref q_line, .int v_inLine])), (q_air, .inl (c 0, 25, .inl v_air)), (q_open, .inl (c 0, 4, .inl v_open)), (q_paste, .inl (c 0, 25, .inl v_paste)), (q_p3, .inr (3, [.ref (c (10 + s_p3_names)), .ref q_p3_steps, .int v_p3_length, .ref q_p3_stack, .ref q_p3_answers, .int v_p3_side, .int v_p3_round, .ref q_p3_draft, .int v_p3_drafted, .ref q_p3_held, .int v_p3_holding, .int v_p3_open, .int v_p3_digits, .int v_p3_wantsOperand])), (q_p3_answers, .inl (c 0, n_p3_answers, .inl v_p3_answers)), (q_p3_stack, .inl (c 0, 50, .inl v_p3_stack)), (q_p3_steps, .inl (c 0, 50, .inl v_p3_steps)), (ta 0, .inr (8, [])), (ta 1, .inr (0, [])), (ta 2, .inr (4, [])), (ta 3, .inr (5, [])), (ta 4, .inr (6, [])), (ta 5, .inr (2, [])), (ta 6, .inr (1, []))] → va_S A s.heap H locs → W p l e (headSpec wsX10_strike rm_X10_strike).room s m [.ref q_this, .ref (ta k_1.toNatClampNeg), .int a_2, .ref q_p3, .int a_4, .int a_5].toArray below meth co H locs 0 0 (gQV D [(q_this, .inr (10, [.int v_rows, .int v_columns, .ref q_air, .ref q_paste, .ref q_open, .int o_v_holes, .int o_v_out, .int v_night, .ref q_met, .ref q_line, .int v_inLine])), (q_air, .inl (c 0, 25, .inl o_v_air)), (q_open, .inl (c 0, 4, .inl v_open)), (q_paste, .inl (c 0, 25, .inl v_paste)), (q_p3, .inr (3, [.ref (c (10 + s_p3_names)), .ref q_p3_steps, .int v_p3_length, .ref q_p3_stack, .ref q_p3_answers, .int v_p3_side, .int v_p3_round, .ref q_p3_draft, .int v_p3_drafted, .ref q_p3_held, .int v_p3_holding, .int v_p3_open, .int v_p3_digits, .int v_p3_wantsOperand])), (q_p3_answers, .inl (c 0, n_p3_answers, .inl o_v_p3_answers)), (q_p3_stack, .inl (c 0, 50, .inl o_v_p3_stack)), (q_p3_steps, .inl (c 0, 50, .inl v_p3_steps)), (ta 0, .inr (8, [])), (ta 1, .inr (0, [])), (ta 2, .inr (4, [])), (ta 3, .inr (5, [])), (ta 4, .inr (6, [])), (ta 5, .inr (2, [])), (ta 6, .inr (1, []))] A below [.ref q_this, .ref (ta k_1.toNatClampNeg), .int a_2, .ref q_p3, .int a_4, .int a_5] s) (F0 m 29 ls [.int r_9, .int t_5]) := by
      intro H locs hP hD hS
      refine va_mmin hx hb (by rw [hml]; exact hl.1.symm) hown (hts (.methodLink RX10 82 Lib.Math.min.name) (List.mem_of_getElem? (i := 2) rfl)) (hts (.static Lib.Math.min.name) (List.mem_of_getElem? (i := 3) rfl)) (hts (.initialized "java/lang/Math") (List.mem_of_getElem? (i := 4) rfl)) (hts (.code Lib.Math.min.name Lib.Math.min.code 2 (some .int)) (List.mem_of_getElem? (i := 5) rfl)) (Nat.le_of_ble_eq_true rfl) (by first | exact Nat.le_of_ble_eq_true rfl | decide) (Nat.le_of_ble_eq_true rfl) (Nat.le_of_ble_eq_true rfl) dX10_strike_29 ?_
      replace h := nm_ok h
      obtain ⟨t_11, et_11, h⟩ := h
      refine gTop et_11 ?_
      refine lv_istore (lv' := [(6, .int t_11), (0, .ref q_this), (1, .ref (ta k_1.toNatClampNeg)), (2, .int a_2), (3, .ref q_p3), (4, .int a_4), (5, .int a_5)]) hx hb dX10_strike_32 hl (by decide) rfl (fun ls hl => ?_)
      refine lv_aload_n hx hb dX10_strike_34 rfl (lv_at hl 1 rfl) ?_
      refine va_get (D := D) (ci := 10) (v := .ref q_air) (C := RX10) (T := TX10) (N := 11) hx hb hts in_X10_strike_X10 hown hK.1 hP 0 rfl rfl 2 (by decide) (hts (.fieldLink RX10 18 "PaperBubbles$Wall" "air" "[I") (List.mem_of_getElem? (i := 1) rfl)) (fun _ h9 => h9) rfl dX10_strike_35 ?_
      refine lv_iload hx hb dX10_strike_38 (lv_at hl 5 rfl) ?_
      refine lv_dup2_11 hx hb dX10_strike_40 rfl rfl ?_
      replace h := chi_ok h
      obtain ⟨hi_12, h⟩ := h
      refine va_iald hx hb hK.1 hP 1 0 rfl rfl hi_12 dX10_strike_41 ?_
      replace h := nm_ok h
      obtain ⟨t_13, et_13, h⟩ := h
      refine gTop et_13 ?_
      refine lv_iload hx hb dX10_strike_42 (lv_at hl 0 rfl) ?_
      refine lv_isub hx hb dX10_strike_44 ?_
      replace h := nm_ok h
      obtain ⟨t_14, et_14, h⟩ := h
      refine gTop et_14 ?_
      replace h := chi_ok h
      obtain ⟨hi_15, h⟩ := h
      replace h := nm_ok h
      obtain ⟨w_16, ew_16, h⟩ := h
      refine va_iast hx hb hK.1 hP hD hS 1 0 rfl rfl hi_15 dX10_strike_45 (fun H locs hP hD hS => ?_)
      have hP : va_P D gcl [(q_this, .inr (10, [.int v_rows, .int v_columns, .ref q_air, .ref q_paste, .ref q_open, .int v_holes, .int v_out, .int v_night, .ref q_met, .ref q_line, .int v_inLine])), (q_air, .inl (c 0, 25, .inl w_16)), (q_open, .inl (c 0, 4, .inl v_open)), (q_paste, .inl (c 0, 25, .inl v_paste)), (q_p3, .inr (3, [.ref (c (10 + s_p3_names)), .ref q_p3_steps, .int v_p3_length, .ref q_p3_stack, .ref q_p3_answers, .int v_p3_side, .int v_p3_round, .ref q_p3_draft, .int v_p3_drafted, .ref q_p3_held, .int v_p3_holding, .int v_p3_open, .int v_p3_digits, .int v_p3_wantsOperand])), (q_p3_answers, .inl (c 0, n_p3_answers, .inl v_p3_answers)), (q_p3_stack, .inl (c 0, 50, .inl v_p3_stack)), (q_p3_steps, .inl (c 0, 50, .inl v_p3_steps)), (ta 0, .inr (8, [])), (ta 1, .inr (0, [])), (ta 2, .inr (4, [])), (ta 3, .inr (5, [])), (ta 4, .inr (6, [])), (ta 5, .inr (2, [])), (ta 6, .inr (1, []))] H := by subst ew_16; exact hP
      have hD : va_D A [(q_this, .inr (10, [.int v_rows, .int v_columns, .ref q_air, .ref q_paste, .ref q_open, .int v_holes, .int v_out, .int v_night, .ref q_met, .ref q_line, .int v_inLine])), (q_air, .inl (c 0, 25, .inl w_16)), (q_open, .inl (c 0, 4, .inl v_open)), (q_paste, .inl (c 0, 25, .inl v_paste)), (q_p3, .inr (3, [.ref (c (10 + s_p3_names)), .ref q_p3_steps, .int v_p3_length, .ref q_p3_stack, .ref q_p3_answers, .int v_p3_side, .int v_p3_round, .ref q_p3_draft, .int v_p3_drafted, .ref q_p3_held, .int v_p3_holding, .int v_p3_open, .int v_p3_digits, .int v_p3_wantsOperand])), (q_p3_answers, .inl (c 0, n_p3_answers, .inl v_p3_answers)), (q_p3_stack, .inl (c 0, 50, .inl v_p3_stack)), (q_p3_steps, .inl (c 0, 50, .inl v_p3_steps)), (ta 0, .inr (8, [])), (ta 1, .inr (0, [])), (ta 2, .inr (4, [])), (ta 3, .inr (5, [])), (ta 4, .inr (6, [])), (ta 5, .inr (2, [])), (ta 6, .inr (1, []))] := by subst ew_16; exact hD
      refine lv_aload_n hx hb dX10_strike_46 rfl (lv_at hl 1 rfl) ?_
      refine lv_iload hx hb dX10_strike_47 (lv_at hl 0 rfl) ?_
      replace h := kb_ok h
      obtain ⟨w_18, hc_17, h⟩ := h
      refine gCallV (isC := [0]) (wc := [(q_this, .inr (10, [.int v_rows, .int v_columns, .ref q_air, .ref q_paste, .ref q_open, .int v_holes, .int v_out, .int v_night, .ref q_met, .ref q_line, .int v_inLine]))]) (w1 := [(q_this, .inr (10, [.int v_rows, .int v_columns, .ref q_air, .ref q_paste, .ref q_open, .int v_holes, .int w_18, .int v_night, .ref q_met, .ref q_line, .int v_inLine]))]) (ws2 := [(q_this, .inr (10, [.int v_rows, .int v_columns, .ref q_air, .ref q_paste, .ref q_open, .int v_holes, .int w_18, .int v_night, .ref q_met, .ref q_line, .int v_inLine])), (q_air, .inl (c 0, 25, .inl w_16)), (q_open, .inl (c 0, 4, .inl v_open)), (q_paste, .inl (c 0, 25, .inl v_paste)), (q_p3, .inr (3, [.ref (c (10 + s_p3_names)), .ref q_p3_steps, .int v_p3_length, .ref q_p3_stack, .ref q_p3_answers, .int v_p3_side, .int v_p3_round, .ref q_p3_draft, .int v_p3_drafted, .ref q_p3_held, .int v_p3_holding, .int v_p3_open, .int v_p3_digits, .int v_p3_wantsOperand])), (q_p3_answers, .inl (c 0, n_p3_answers, .inl v_p3_answers)), (q_p3_stack, .inl (c 0, 50, .inl v_p3_stack)), (q_p3_steps, .inl (c 0, 50, .inl v_p3_steps)), (ta 0, .inr (8, [])), (ta 1, .inr (0, [])), (ta 2, .inr (4, [])), (ta 3, .inr (5, [])), (ta 4, .inr (6, [])), (ta 5, .inr (2, [])), (ta 6, .inr (1, []))]) (ms := [(some 0), none, none, none, none, none, none, none, none, none, none, none, none, none, none]) hP hD hS hA ⟨rfl, trivial⟩ (by decide +kernel) ⟨rfl, rfl, rfl, rfl, rfl, rfl, rfl, rfl, rfl, rfl, rfl, rfl, rfl, rfl, rfl, trivial⟩ (va_runV (rm := rm_X10_goesOut) (ws := wsX10_goesOut) (As := [.int t_11]) (rest := []) (gFix hF) (c_X10_goesOut l D c q_this q_air q_paste q_open q_met q_line t_11 v_rows v_columns v_holes v_out v_night v_inLine w_18 hc_17 H.size) (cwV 1 hts gX10_strike_X10_goesOut rfl rfl rfl (by decide +kernel) ⟨Nat.le_of_ble_eq_true rfl, Nat.le_of_ble_eq_true rfl⟩) (gPreV (wc := [(q_this, .inr (10, [.int v_rows, .int v_columns, .ref q_air, .ref q_paste, .ref q_open, .int v_holes, .int v_out, .int v_night, .ref q_met, .ref q_line, .int v_inLine]))]) (q := (RX10, TX10, 11)) (ci := 10) (q0 := 0) (isC := [0]) hK hX hS hA hP hD ⟨rfl, trivial⟩ (by decide +kernel) rfl rfl) rfl rfl hl.1 rfl (lv_room (Nat.le_of_ble_eq_true rfl)) dX10_strike_49 ⟨Nat.le_of_ble_eq_true rfl, Nat.le_of_ble_eq_true rfl⟩) (fun H locs hP hD hS => ?_)
      refine lv_aload_n hx hb dX10_strike_52 rfl (lv_at hl 1 rfl) ?_
      refine lv_ldc (v := 99999) hx hb hown (hts (.constant RX10 91 (99999)) (List.mem_of_getElem? (i := 6) rfl)) dX10_strike_53 ?_
      refine lv_aload_n hx hb dX10_strike_55 rfl (lv_at hl 1 rfl) ?_
      refine va_get (D := D) (ci := 10) (v := .int v_holes) (C := RX10) (T := TX10) (N := 11) hx hb hts in_X10_strike_X10 hown hK.1 hP 0 rfl rfl 5 (by decide) (hts (.fieldLink RX10 50 "PaperBubbles$Wall" "holes" "I") (List.mem_of_getElem? (i := 7) rfl)) (fun _ h9 => h9) rfl dX10_strike_56 ?_
      refine lv_aload_n hx hb dX10_strike_59 rfl (lv_at hl 2 rfl) ?_
      refine lv_aload_n hx hb dX10_strike_60 rfl (lv_at hl 1 rfl) ?_
      refine va_get (D := D) (ci := 10) (v := .ref q_paste) (C := RX10) (T := TX10) (N := 11) hx hb hts in_X10_strike_X10 hown hK.1 hP 0 rfl rfl 3 (by decide) (hts (.fieldLink RX10 22 "PaperBubbles$Wall" "paste" "[I") (List.mem_of_getElem? (i := 8) rfl)) (fun _ h9 => h9) rfl dX10_strike_61 ?_
      refine lv_iload hx hb dX10_strike_64 (lv_at hl 5 rfl) ?_
      replace h := chi_ok h
      obtain ⟨hi_19, h⟩ := h
      refine va_iald hx hb hK.1 hP 3 0 rfl rfl hi_19 dX10_strike_66 ?_
      replace h := nm_ok h
      obtain ⟨t_20, et_20, h⟩ := h
      refine gTop et_20 ?_
      replace h := kb_ok h
      obtain ⟨r_22, hc_21, h⟩ := h
      have cont_23 : ∀ (H : Heap) (locs : List Loc), va_P D gcl [(q_this, .inr (10, [.int v_rows, .int v_columns, .ref q_air, .ref q_paste, .ref q_open, .int v_holes, .int w_18, .int v_night, .ref q_met, .ref q_line, .int v_inLine])), (q_air, .inl (c 0, 25, .inl w_16)), (q_open, .inl (c 0, 4, .inl v_open)), (q_paste, .inl (c 0, 25, .inl v_paste)), (q_p3, .inr (3, [.ref (c (10 + s_p3_names)), .ref q_p3_steps, .int v_p3_length, .ref q_p3_stack, .ref q_p3_answers, .int v_p3_side, .int v_p3_round, .ref q_p3_draft, .int v_p3_drafted, .ref q_p3_held, .int v_p3_holding, .int v_p3_open, .int v_p3_digits, .int v_p3_wantsOperand])), (q_p3_answers, .inl (c 0, n_p3_answers, .inl v_p3_answers)), (q_p3_stack, .inl (c 0, 50, .inl v_p3_stack)), (q_p3_steps, .inl (c 0, 50, .inl v_p3_steps)), (ta 0, .inr (8, [])), (ta 1, .inr (0, [])), (ta 2, .inr (4, [])), (ta 3, .inr (5, [])), (ta 4, .inr (6, [])), (ta 5, .inr (2, [])), (ta 6, .inr (1, []))] H → va_D A [(q_this, .inr (10, [.int v_rows, .int v_columns, .ref q_air, .ref q_paste, .ref q_open, .int v_holes, .int w_18, .int v_night, .ref q_met, .ref q_line, .int v_inLine])), (q_air, .inl (c 0, 25, .inl w_16)), (q_open, .inl (c 0, 4, .inl v_open)), (q_paste, .inl (c 0, 25, .inl v_paste)), (q_p3, .inr (3, [.ref (c (10 + s_p3_names)), .ref q_p3_steps, .int v_p3_length, .ref q_p3_stack, .ref q_p3_answers, .int v_p3_side, .int v_p3_round, .ref q_p3_draft, .int v_p3_drafted, .ref q_p3_held, .int v_p3_holding, .int v_p3_open, .int v_p3_digits, .int v_p3_wantsOperand])), (q_p3_answers, .inl (c 0, n_p3_answers, .inl v_p3_answers)), (q_p3_stack, .inl (c 0, 50, .inl v_p3_stack)), (q_p3_steps, .inl (c 0, 50, .inl v_p3_steps)), (ta 0, .inr (8, [])), (ta 1, .inr (0, [])), (ta 2, .inr (4, [])), (ta 3, .inr (5, [])), (ta 4, .inr (6, [])), (ta 5, .inr (2, [])), (ta 6, .inr (1, []))] → va_S A s.heap H locs → W p l e (headSpec wsX10_strike rm_X10_strike).room s m [.ref q_this, .ref (ta k_1.toNatClampNeg), .int a_2, .ref q_p3, .int a_4, .int a_5].toArray below meth co H locs 0 0 (gQV D [(q_this, .inr (10, [.int v_rows, .int v_columns, .ref q_air, .ref q_paste, .ref q_open, .int o_v_holes, .int o_v_out, .int v_night, .ref q_met, .ref q_line, .int v_inLine])), (q_air, .inl (c 0, 25, .inl o_v_air)), (q_open, .inl (c 0, 4, .inl v_open)), (q_paste, .inl (c 0, 25, .inl v_paste)), (q_p3, .inr (3, [.ref (c (10 + s_p3_names)), .ref q_p3_steps, .int v_p3_length, .ref q_p3_stack, .ref q_p3_answers, .int v_p3_side, .int v_p3_round, .ref q_p3_draft, .int v_p3_drafted, .ref q_p3_held, .int v_p3_holding, .int v_p3_open, .int v_p3_digits, .int v_p3_wantsOperand])), (q_p3_answers, .inl (c 0, n_p3_answers, .inl o_v_p3_answers)), (q_p3_stack, .inl (c 0, 50, .inl o_v_p3_stack)), (q_p3_steps, .inl (c 0, 50, .inl v_p3_steps)), (ta 0, .inr (8, [])), (ta 1, .inr (0, [])), (ta 2, .inr (4, [])), (ta 3, .inr (5, [])), (ta 4, .inr (6, [])), (ta 5, .inr (2, [])), (ta 6, .inr (1, []))] A below [.ref q_this, .ref (ta k_1.toNatClampNeg), .int a_2, .ref q_p3, .int a_4, .int a_5] s) (F0 m 70 ls [.int r_22, .int v_holes, .int 99999, .ref q_this]) := by
        intro H locs hP hD hS
        refine lv_iadd hx hb dX10_strike_70 ?_
        replace h := nm_ok h
        obtain ⟨t_24, et_24, h⟩ := h
        refine gTop et_24 ?_
        refine va_mmin hx hb (by rw [hml]; exact hl.1.symm) hown (hts (.methodLink RX10 82 Lib.Math.min.name) (List.mem_of_getElem? (i := 2) rfl)) (hts (.static Lib.Math.min.name) (List.mem_of_getElem? (i := 3) rfl)) (hts (.initialized "java/lang/Math") (List.mem_of_getElem? (i := 4) rfl)) (hts (.code Lib.Math.min.name Lib.Math.min.code 2 (some .int)) (List.mem_of_getElem? (i := 5) rfl)) (Nat.le_of_ble_eq_true rfl) (by first | exact Nat.le_of_ble_eq_true rfl | decide) (Nat.le_of_ble_eq_true rfl) (Nat.le_of_ble_eq_true rfl) dX10_strike_71 ?_
        replace h := nm_ok h
        obtain ⟨t_25, et_25, h⟩ := h
        refine gTop et_25 ?_
        refine va_put (D := D) (ci := 10) (v := .int t_25) (ty := .int) (C := RX10) (T := TX10) (N := 11) hx hb hts in_X10_strike_X10 tyX10 tyX10_ok nmX10 hown hK.1 hP hD hS 0 rfl rfl 5 (by decide) (hts (.fieldLink RX10 50 "PaperBubbles$Wall" "holes" "I") (List.mem_of_getElem? (i := 7) rfl)) (fun _ h9 => h9) rfl (by decide +kernel) rfl rfl (Nat.le_of_ble_eq_true rfl) dX10_strike_74 (fun H locs hP hD hS => ?_)
        have hP : va_P D gcl [(q_this, .inr (10, [.int v_rows, .int v_columns, .ref q_air, .ref q_paste, .ref q_open, .int t_25, .int w_18, .int v_night, .ref q_met, .ref q_line, .int v_inLine])), (q_air, .inl (c 0, 25, .inl w_16)), (q_open, .inl (c 0, 4, .inl v_open)), (q_paste, .inl (c 0, 25, .inl v_paste)), (q_p3, .inr (3, [.ref (c (10 + s_p3_names)), .ref q_p3_steps, .int v_p3_length, .ref q_p3_stack, .ref q_p3_answers, .int v_p3_side, .int v_p3_round, .ref q_p3_draft, .int v_p3_drafted, .ref q_p3_held, .int v_p3_holding, .int v_p3_open, .int v_p3_digits, .int v_p3_wantsOperand])), (q_p3_answers, .inl (c 0, n_p3_answers, .inl v_p3_answers)), (q_p3_stack, .inl (c 0, 50, .inl v_p3_stack)), (q_p3_steps, .inl (c 0, 50, .inl v_p3_steps)), (ta 0, .inr (8, [])), (ta 1, .inr (0, [])), (ta 2, .inr (4, [])), (ta 3, .inr (5, [])), (ta 4, .inr (6, [])), (ta 5, .inr (2, [])), (ta 6, .inr (1, []))] H := hP
        have hD : va_D A [(q_this, .inr (10, [.int v_rows, .int v_columns, .ref q_air, .ref q_paste, .ref q_open, .int t_25, .int w_18, .int v_night, .ref q_met, .ref q_line, .int v_inLine])), (q_air, .inl (c 0, 25, .inl w_16)), (q_open, .inl (c 0, 4, .inl v_open)), (q_paste, .inl (c 0, 25, .inl v_paste)), (q_p3, .inr (3, [.ref (c (10 + s_p3_names)), .ref q_p3_steps, .int v_p3_length, .ref q_p3_stack, .ref q_p3_answers, .int v_p3_side, .int v_p3_round, .ref q_p3_draft, .int v_p3_drafted, .ref q_p3_held, .int v_p3_holding, .int v_p3_open, .int v_p3_digits, .int v_p3_wantsOperand])), (q_p3_answers, .inl (c 0, n_p3_answers, .inl v_p3_answers)), (q_p3_stack, .inl (c 0, 50, .inl v_p3_stack)), (q_p3_steps, .inl (c 0, 50, .inl v_p3_steps)), (ta 0, .inr (8, [])), (ta 1, .inr (0, [])), (ta 2, .inr (4, [])), (ta 3, .inr (5, [])), (ta 4, .inr (6, [])), (ta 5, .inr (2, [])), (ta 6, .inr (1, []))] := hD
        refine lv_aload_n hx hb dX10_strike_77 rfl (lv_at hl 2 rfl) ?_
        refine lv_iload_n hx hb dX10_strike_78 rfl (lv_at hl 3 rfl) ?_
        replace h := kb_ok h
        obtain ⟨r_27, hc_26, h⟩ := h
        have cont_28 : ∀ (H : Heap) (locs : List Loc), va_P D gcl [(q_this, .inr (10, [.int v_rows, .int v_columns, .ref q_air, .ref q_paste, .ref q_open, .int t_25, .int w_18, .int v_night, .ref q_met, .ref q_line, .int v_inLine])), (q_air, .inl (c 0, 25, .inl w_16)), (q_open, .inl (c 0, 4, .inl v_open)), (q_paste, .inl (c 0, 25, .inl v_paste)), (q_p3, .inr (3, [.ref (c (10 + s_p3_names)), .ref q_p3_steps, .int v_p3_length, .ref q_p3_stack, .ref q_p3_answers, .int v_p3_side, .int v_p3_round, .ref q_p3_draft, .int v_p3_drafted, .ref q_p3_held, .int v_p3_holding, .int v_p3_open, .int v_p3_digits, .int v_p3_wantsOperand])), (q_p3_answers, .inl (c 0, n_p3_answers, .inl v_p3_answers)), (q_p3_stack, .inl (c 0, 50, .inl v_p3_stack)), (q_p3_steps, .inl (c 0, 50, .inl v_p3_steps)), (ta 0, .inr (8, [])), (ta 1, .inr (0, [])), (ta 2, .inr (4, [])), (ta 3, .inr (5, [])), (ta 4, .inr (6, [])), (ta 5, .inr (2, [])), (ta 6, .inr (1, []))] H → va_D A [(q_this, .inr (10, [.int v_rows, .int v_columns, .ref q_air, .ref q_paste, .ref q_open, .int t_25, .int w_18, .int v_night, .ref q_met, .ref q_line, .int v_inLine])), (q_air, .inl (c 0, 25, .inl w_16)), (q_open, .inl (c 0, 4, .inl v_open)), (q_paste, .inl (c 0, 25, .inl v_paste)), (q_p3, .inr (3, [.ref (c (10 + s_p3_names)), .ref q_p3_steps, .int v_p3_length, .ref q_p3_stack, .ref q_p3_answers, .int v_p3_side, .int v_p3_round, .ref q_p3_draft, .int v_p3_drafted, .ref q_p3_held, .int v_p3_holding, .int v_p3_open, .int v_p3_digits, .int v_p3_wantsOperand])), (q_p3_answers, .inl (c 0, n_p3_answers, .inl v_p3_answers)), (q_p3_stack, .inl (c 0, 50, .inl v_p3_stack)), (q_p3_steps, .inl (c 0, 50, .inl v_p3_steps)), (ta 0, .inr (8, [])), (ta 1, .inr (0, [])), (ta 2, .inr (4, [])), (ta 3, .inr (5, [])), (ta 4, .inr (6, [])), (ta 5, .inr (2, [])), (ta 6, .inr (1, []))] → va_S A s.heap H locs → W p l e (headSpec wsX10_strike rm_X10_strike).room s m [.ref q_this, .ref (ta k_1.toNatClampNeg), .int a_2, .ref q_p3, .int a_4, .int a_5].toArray below meth co H locs 0 0 (gQV D [(q_this, .inr (10, [.int v_rows, .int v_columns, .ref q_air, .ref q_paste, .ref q_open, .int o_v_holes, .int o_v_out, .int v_night, .ref q_met, .ref q_line, .int v_inLine])), (q_air, .inl (c 0, 25, .inl o_v_air)), (q_open, .inl (c 0, 4, .inl v_open)), (q_paste, .inl (c 0, 25, .inl v_paste)), (q_p3, .inr (3, [.ref (c (10 + s_p3_names)), .ref q_p3_steps, .int v_p3_length, .ref q_p3_stack, .ref q_p3_answers, .int v_p3_side, .int v_p3_round, .ref q_p3_draft, .int v_p3_drafted, .ref q_p3_held, .int v_p3_holding, .int v_p3_open, .int v_p3_digits, .int v_p3_wantsOperand])), (q_p3_answers, .inl (c 0, n_p3_answers, .inl o_v_p3_answers)), (q_p3_stack, .inl (c 0, 50, .inl o_v_p3_stack)), (q_p3_steps, .inl (c 0, 50, .inl v_p3_steps)), (ta 0, .inr (8, [])), (ta 1, .inr (0, [])), (ta 2, .inr (4, [])), (ta 3, .inr (5, [])), (ta 4, .inr (6, [])), (ta 5, .inr (2, [])), (ta 6, .inr (1, []))] A below [.ref q_this, .ref (ta k_1.toNatClampNeg), .int a_2, .ref q_p3, .int a_4, .int a_5] s) (F0 m 82 ls [.int r_27]) := by
          intro H locs hP hD hS
          refine lv_istore (lv' := [(7, .int r_27), (6, .int t_11), (0, .ref q_this), (1, .ref (ta k_1.toNatClampNeg)), (2, .int a_2), (3, .ref q_p3), (4, .int a_4), (5, .int a_5)]) hx hb dX10_strike_82 hl (by decide) rfl (fun ls hl => ?_)
          refine lv_iload hx hb dX10_strike_84 (lv_at hl 6 rfl) ?_
          refine lv_istore (lv' := [(8, .int a_4), (7, .int r_27), (6, .int t_11), (0, .ref q_this), (1, .ref (ta k_1.toNatClampNeg)), (2, .int a_2), (3, .ref q_p3), (4, .int a_4), (5, .int a_5)]) hx hb dX10_strike_86 hl (by decide) rfl (fun ls hl => ?_)
          refine lv_iconst (v := 0) hx hb dX10_strike_88 (by decide) ?_
          refine lv_istore (lv' := [(9, .int 0), (8, .int a_4), (7, .int r_27), (6, .int t_11), (0, .ref q_this), (1, .ref (ta k_1.toNatClampNeg)), (2, .int a_2), (3, .ref q_p3), (4, .int a_4), (5, .int a_5)]) hx hb dX10_strike_89 hl (by decide) rfl (fun ls hl => ?_)
          exact t_L91 gFuel r_27 a_4 0 t_25 w_18 w_16 v_p3_answers v_p3_stack H locs hP hD hS ls (lv_sub hl [4, 5, 6, 7, 9, 2, 1, 0] rfl) h
        rcases td_reach hc_26 with ⟨rfl, hc_26⟩ | ⟨rfl, hc_26⟩ | ⟨rfl, hc_26⟩ | ⟨rfl, hc_26⟩ | ⟨rfl, hc_26⟩ | ⟨rfl, hc_26⟩ | ⟨rfl, hc_26⟩
        · exact gCallIr (isC := []) (wc := []) hP hD hS hA trivial (va_runV (rm := rm_X8_reach) (ws := wsX8_reach) (As := [.int a_2]) (rest := []) (gFix hF) (c_X8_reach l D c (ta 0) a_2 r_27 hc_26 H.size) (cwV 1 hts gX10_strike_X8_reach rfl rfl rfl (by decide +kernel) ⟨Nat.le_of_ble_eq_true rfl, Nat.le_of_ble_eq_true rfl⟩) (gPreV (wc := []) (q := (RX8, TX8, 0)) (ci := 8) (q0 := 8) (isC := []) hK hX hS hA hP hD trivial (by decide +kernel) rfl rfl) rfl rfl hl.1 rfl (lv_room (Nat.le_of_ble_eq_true rfl)) dX10_strike_79 ⟨Nat.le_of_ble_eq_true rfl, Nat.le_of_ble_eq_true rfl⟩) (fun H locs hP hS => cont_28 H locs hP hD hS)
        · exact gCallIr (isC := []) (wc := []) hP hD hS hA trivial (va_runU (rm := rm_X8_reach) (ws := wsX8_reach) (As := [.int a_2]) (rest := []) (gFix hF) (c_X8_reach l D c (ta 1) a_2 r_27 hc_26 H.size) (va_cwU 1 hts gX10_strike_X8_reach_u95X0 rfl rfl rfl rfl (by decide +kernel) ⟨Nat.le_of_ble_eq_true rfl, Nat.le_of_ble_eq_true rfl⟩) (gPreV (wc := []) (q := (RX0, TX0, 0)) (ci := 0) (q0 := 9) (isC := []) hK hX hS hA hP hD trivial (by decide +kernel) rfl rfl) rfl rfl hl.1 rfl (lv_room (Nat.le_of_ble_eq_true rfl)) dX10_strike_79 ⟨Nat.le_of_ble_eq_true rfl, Nat.le_of_ble_eq_true rfl⟩) (fun H locs hP hS => cont_28 H locs hP hD hS)
        · exact gCallIr (isC := []) (wc := []) hP hD hS hA trivial (va_runU (rm := rm_X8_reach) (ws := wsX8_reach) (As := [.int a_2]) (rest := []) (gFix hF) (c_X8_reach l D c (ta 2) a_2 r_27 hc_26 H.size) (va_cwU 1 hts gX10_strike_X8_reach_u95X4 rfl rfl rfl rfl (by decide +kernel) ⟨Nat.le_of_ble_eq_true rfl, Nat.le_of_ble_eq_true rfl⟩) (gPreV (wc := []) (q := (RX4, TX4, 0)) (ci := 4) (q0 := 10) (isC := []) hK hX hS hA hP hD trivial (by decide +kernel) rfl rfl) rfl rfl hl.1 rfl (lv_room (Nat.le_of_ble_eq_true rfl)) dX10_strike_79 ⟨Nat.le_of_ble_eq_true rfl, Nat.le_of_ble_eq_true rfl⟩) (fun H locs hP hS => cont_28 H locs hP hD hS)
        · exact gCallIr (isC := []) (wc := []) hP hD hS hA trivial (va_runU (rm := rm_X5_reach) (ws := wsX5_reach) (As := [.int a_2]) (rest := []) (gFix hF) (c_X5_reach l D c (ta 3) a_2 r_27 hc_26 H.size) (va_cwO 1 hts gX10_strike_X5_reach_u95X5 rfl rfl rfl (List.mem_of_getElem? (i := 68) (rfl : wsX10_strike[68]? = some (.code yX8_reach cX8_reach 2 (some .int)))) (by decide +kernel) ⟨Nat.le_of_ble_eq_true rfl, Nat.le_of_ble_eq_true rfl⟩) (gPreV (wc := []) (q := (RX5, TX5, 0)) (ci := 5) (q0 := 11) (isC := []) hK hX hS hA hP hD trivial (by decide +kernel) rfl rfl) rfl rfl hl.1 rfl (lv_room (Nat.le_of_ble_eq_true rfl)) dX10_strike_79 ⟨Nat.le_of_ble_eq_true rfl, Nat.le_of_ble_eq_true rfl⟩) (fun H locs hP hS => cont_28 H locs hP hD hS)
        · exact gCallIr (isC := []) (wc := []) hP hD hS hA trivial (va_runU (rm := rm_X8_reach) (ws := wsX8_reach) (As := [.int a_2]) (rest := []) (gFix hF) (c_X8_reach l D c (ta 4) a_2 r_27 hc_26 H.size) (va_cwU 1 hts gX10_strike_X8_reach_u95X6 rfl rfl rfl rfl (by decide +kernel) ⟨Nat.le_of_ble_eq_true rfl, Nat.le_of_ble_eq_true rfl⟩) (gPreV (wc := []) (q := (RX6, TX6, 0)) (ci := 6) (q0 := 12) (isC := []) hK hX hS hA hP hD trivial (by decide +kernel) rfl rfl) rfl rfl hl.1 rfl (lv_room (Nat.le_of_ble_eq_true rfl)) dX10_strike_79 ⟨Nat.le_of_ble_eq_true rfl, Nat.le_of_ble_eq_true rfl⟩) (fun H locs hP hS => cont_28 H locs hP hD hS)
        · exact gCallIr (isC := []) (wc := []) hP hD hS hA trivial (va_runU (rm := rm_X8_reach) (ws := wsX8_reach) (As := [.int a_2]) (rest := []) (gFix hF) (c_X8_reach l D c (ta 5) a_2 r_27 hc_26 H.size) (va_cwU 1 hts gX10_strike_X8_reach_u95X2 rfl rfl rfl rfl (by decide +kernel) ⟨Nat.le_of_ble_eq_true rfl, Nat.le_of_ble_eq_true rfl⟩) (gPreV (wc := []) (q := (RX2, TX2, 0)) (ci := 2) (q0 := 13) (isC := []) hK hX hS hA hP hD trivial (by decide +kernel) rfl rfl) rfl rfl hl.1 rfl (lv_room (Nat.le_of_ble_eq_true rfl)) dX10_strike_79 ⟨Nat.le_of_ble_eq_true rfl, Nat.le_of_ble_eq_true rfl⟩) (fun H locs hP hS => cont_28 H locs hP hD hS)
        · exact gCallIr (isC := [14]) (wc := [(ta 6, .inr (1, []))]) hP hD hS hA ⟨rfl, trivial⟩ (va_runU (rm := rm_X1_reach) (ws := wsX1_reach) (As := [.int a_2]) (rest := []) (gFix hF) (c_X1_reach l D c (ta 6) a_2 r_27 hc_26 H.size) (va_cwO 1 hts gX10_strike_X1_reach_u95X1 rfl rfl rfl (List.mem_of_getElem? (i := 68) (rfl : wsX10_strike[68]? = some (.code yX8_reach cX8_reach 2 (some .int)))) (by decide +kernel) ⟨Nat.le_of_ble_eq_true rfl, Nat.le_of_ble_eq_true rfl⟩) (gPreV (wc := [(ta 6, .inr (1, []))]) (q := (RX1, TX1, 0)) (ci := 1) (q0 := 14) (isC := [14]) hK hX hS hA hP hD ⟨rfl, trivial⟩ (by decide +kernel) rfl rfl) rfl rfl hl.1 rfl (lv_room (Nat.le_of_ble_eq_true rfl)) dX10_strike_79 ⟨Nat.le_of_ble_eq_true rfl, Nat.le_of_ble_eq_true rfl⟩) (fun H locs hP hS => cont_28 H locs hP hD hS)
      rcases td_tears hc_21 with ⟨rfl, hc_21⟩ | ⟨rfl, hc_21⟩ | ⟨rfl, hc_21⟩ | ⟨rfl, hc_21⟩ | ⟨rfl, hc_21⟩ | ⟨rfl, hc_21⟩ | ⟨rfl, hc_21⟩
      · exact gCallIr (isC := []) (wc := []) hP hD hS hA trivial (va_runV (rm := rm_X8_tears) (ws := wsX8_tears) (As := [.int t_20]) (rest := [.int v_holes, .int 99999, .ref q_this]) (gFix hF) (c_X8_tears l D c (ta 0) t_20 r_22 hc_21 H.size) (cwV 1 hts gX10_strike_X8_tears rfl rfl rfl (by decide +kernel) ⟨Nat.le_of_ble_eq_true rfl, Nat.le_of_ble_eq_true rfl⟩) (gPreV (wc := []) (q := (RX8, TX8, 0)) (ci := 8) (q0 := 8) (isC := []) hK hX hS hA hP hD trivial (by decide +kernel) rfl rfl) rfl rfl hl.1 rfl (lv_room (Nat.le_of_ble_eq_true rfl)) dX10_strike_67 ⟨Nat.le_of_ble_eq_true rfl, Nat.le_of_ble_eq_true rfl⟩) (fun H locs hP hS => cont_23 H locs hP hD hS)
      · exact gCallIr (isC := []) (wc := []) hP hD hS hA trivial (va_runU (rm := rm_X8_tears) (ws := wsX8_tears) (As := [.int t_20]) (rest := [.int v_holes, .int 99999, .ref q_this]) (gFix hF) (c_X8_tears l D c (ta 1) t_20 r_22 hc_21 H.size) (va_cwU 1 hts gX10_strike_X8_tears_u92X0 rfl rfl rfl rfl (by decide +kernel) ⟨Nat.le_of_ble_eq_true rfl, Nat.le_of_ble_eq_true rfl⟩) (gPreV (wc := []) (q := (RX0, TX0, 0)) (ci := 0) (q0 := 9) (isC := []) hK hX hS hA hP hD trivial (by decide +kernel) rfl rfl) rfl rfl hl.1 rfl (lv_room (Nat.le_of_ble_eq_true rfl)) dX10_strike_67 ⟨Nat.le_of_ble_eq_true rfl, Nat.le_of_ble_eq_true rfl⟩) (fun H locs hP hS => cont_23 H locs hP hD hS)
      · exact gCallIr (isC := []) (wc := []) hP hD hS hA trivial (va_runU (rm := rm_X4_tears) (ws := wsX4_tears) (As := [.int t_20]) (rest := [.int v_holes, .int 99999, .ref q_this]) (gFix hF) (c_X4_tears l D c (ta 2) t_20 r_22 hc_21 H.size) (va_cwO 1 hts gX10_strike_X4_tears_u92X4 rfl rfl rfl (List.mem_of_getElem? (i := 45) (rfl : wsX10_strike[45]? = some (.code yX8_tears cX8_tears 2 (some .int)))) (by decide +kernel) ⟨Nat.le_of_ble_eq_true rfl, Nat.le_of_ble_eq_true rfl⟩) (gPreV (wc := []) (q := (RX4, TX4, 0)) (ci := 4) (q0 := 10) (isC := []) hK hX hS hA hP hD trivial (by decide +kernel) rfl rfl) rfl rfl hl.1 rfl (lv_room (Nat.le_of_ble_eq_true rfl)) dX10_strike_67 ⟨Nat.le_of_ble_eq_true rfl, Nat.le_of_ble_eq_true rfl⟩) (fun H locs hP hS => cont_23 H locs hP hD hS)
      · exact gCallIr (isC := []) (wc := []) hP hD hS hA trivial (va_runU (rm := rm_X8_tears) (ws := wsX8_tears) (As := [.int t_20]) (rest := [.int v_holes, .int 99999, .ref q_this]) (gFix hF) (c_X8_tears l D c (ta 3) t_20 r_22 hc_21 H.size) (va_cwU 1 hts gX10_strike_X8_tears_u92X5 rfl rfl rfl rfl (by decide +kernel) ⟨Nat.le_of_ble_eq_true rfl, Nat.le_of_ble_eq_true rfl⟩) (gPreV (wc := []) (q := (RX5, TX5, 0)) (ci := 5) (q0 := 11) (isC := []) hK hX hS hA hP hD trivial (by decide +kernel) rfl rfl) rfl rfl hl.1 rfl (lv_room (Nat.le_of_ble_eq_true rfl)) dX10_strike_67 ⟨Nat.le_of_ble_eq_true rfl, Nat.le_of_ble_eq_true rfl⟩) (fun H locs hP hS => cont_23 H locs hP hD hS)
      · exact gCallIr (isC := []) (wc := []) hP hD hS hA trivial (va_runU (rm := rm_X8_tears) (ws := wsX8_tears) (As := [.int t_20]) (rest := [.int v_holes, .int 99999, .ref q_this]) (gFix hF) (c_X8_tears l D c (ta 4) t_20 r_22 hc_21 H.size) (va_cwU 1 hts gX10_strike_X8_tears_u92X6 rfl rfl rfl rfl (by decide +kernel) ⟨Nat.le_of_ble_eq_true rfl, Nat.le_of_ble_eq_true rfl⟩) (gPreV (wc := []) (q := (RX6, TX6, 0)) (ci := 6) (q0 := 12) (isC := []) hK hX hS hA hP hD trivial (by decide +kernel) rfl rfl) rfl rfl hl.1 rfl (lv_room (Nat.le_of_ble_eq_true rfl)) dX10_strike_67 ⟨Nat.le_of_ble_eq_true rfl, Nat.le_of_ble_eq_true rfl⟩) (fun H locs hP hS => cont_23 H locs hP hD hS)
      · exact gCallIr (isC := [13]) (wc := [(ta 5, .inr (2, []))]) hP hD hS hA ⟨rfl, trivial⟩ (va_runU (rm := rm_X2_tears) (ws := wsX2_tears) (As := [.int t_20]) (rest := [.int v_holes, .int 99999, .ref q_this]) (gFix hF) (c_X2_tears l D c (ta 5) t_20 r_22 hc_21 H.size) (va_cwO 1 hts gX10_strike_X2_tears_u92X2 rfl rfl rfl (List.mem_of_getElem? (i := 45) (rfl : wsX10_strike[45]? = some (.code yX8_tears cX8_tears 2 (some .int)))) (by decide +kernel) ⟨Nat.le_of_ble_eq_true rfl, Nat.le_of_ble_eq_true rfl⟩) (gPreV (wc := [(ta 5, .inr (2, []))]) (q := (RX2, TX2, 0)) (ci := 2) (q0 := 13) (isC := [13]) hK hX hS hA hP hD ⟨rfl, trivial⟩ (by decide +kernel) rfl rfl) rfl rfl hl.1 rfl (lv_room (Nat.le_of_ble_eq_true rfl)) dX10_strike_67 ⟨Nat.le_of_ble_eq_true rfl, Nat.le_of_ble_eq_true rfl⟩) (fun H locs hP hS => cont_23 H locs hP hD hS)
      · exact gCallIr (isC := []) (wc := []) hP hD hS hA trivial (va_runU (rm := rm_X1_tears) (ws := wsX1_tears) (As := [.int t_20]) (rest := [.int v_holes, .int 99999, .ref q_this]) (gFix hF) (c_X1_tears l D c (ta 6) t_20 r_22 hc_21 H.size) (va_cwO 1 hts gX10_strike_X1_tears_u92X1 rfl rfl rfl (List.mem_of_getElem? (i := 45) (rfl : wsX10_strike[45]? = some (.code yX8_tears cX8_tears 2 (some .int)))) (by decide +kernel) ⟨Nat.le_of_ble_eq_true rfl, Nat.le_of_ble_eq_true rfl⟩) (gPreV (wc := []) (q := (RX1, TX1, 0)) (ci := 1) (q0 := 14) (isC := []) hK hX hS hA hP hD trivial (by decide +kernel) rfl rfl) rfl rfl hl.1 rfl (lv_room (Nat.le_of_ble_eq_true rfl)) dX10_strike_67 ⟨Nat.le_of_ble_eq_true rfl, Nat.le_of_ble_eq_true rfl⟩) (fun H locs hP hS => cont_23 H locs hP hD hS)
    rcases td_lets hc_8 with ⟨rfl, hc_8⟩ | ⟨rfl, hc_8⟩ | ⟨rfl, hc_8⟩ | ⟨rfl, hc_8⟩ | ⟨rfl, hc_8⟩ | ⟨rfl, hc_8⟩ | ⟨rfl, hc_8⟩
    · exact gCallIr (isC := []) (wc := []) hP hD hS hA trivial (va_runV (rm := rm_X8_lets) (ws := wsX8_lets) (As := [.int t_7, .int a_2]) (rest := [.int t_5]) (gFix hF) (c_X8_lets l D c (ta 0) t_7 a_2 r_9 hc_8 H.size) (cwV 2 hts gX10_strike_X8_lets rfl rfl rfl (by decide +kernel) ⟨Nat.le_of_ble_eq_true rfl, Nat.le_of_ble_eq_true rfl⟩) (gPreV (wc := []) (q := (RX8, TX8, 0)) (ci := 8) (q0 := 8) (isC := []) hK hX hS hA hP hD trivial (by decide +kernel) rfl rfl) rfl rfl hl.1 rfl (lv_room (Nat.le_of_ble_eq_true rfl)) dX10_strike_26 ⟨Nat.le_of_ble_eq_true rfl, Nat.le_of_ble_eq_true rfl⟩) (fun H locs hP hS => cont_10 H locs hP hD hS)
    · exact gCallIr (isC := []) (wc := []) hP hD hS hA trivial (va_runU (rm := rm_X8_lets) (ws := wsX8_lets) (As := [.int t_7, .int a_2]) (rest := [.int t_5]) (gFix hF) (c_X8_lets l D c (ta 1) t_7 a_2 r_9 hc_8 H.size) (va_cwU 2 hts gX10_strike_X8_lets_u77X0 rfl rfl rfl rfl (by decide +kernel) ⟨Nat.le_of_ble_eq_true rfl, Nat.le_of_ble_eq_true rfl⟩) (gPreV (wc := []) (q := (RX0, TX0, 0)) (ci := 0) (q0 := 9) (isC := []) hK hX hS hA hP hD trivial (by decide +kernel) rfl rfl) rfl rfl hl.1 rfl (lv_room (Nat.le_of_ble_eq_true rfl)) dX10_strike_26 ⟨Nat.le_of_ble_eq_true rfl, Nat.le_of_ble_eq_true rfl⟩) (fun H locs hP hS => cont_10 H locs hP hD hS)
    · exact gCallIr (isC := []) (wc := []) hP hD hS hA trivial (va_runU (rm := rm_X4_lets) (ws := wsX4_lets) (As := [.int t_7, .int a_2]) (rest := [.int t_5]) (gFix hF) (c_X4_lets l D c (ta 2) t_7 a_2 r_9 hc_8 H.size) (va_cwO 2 hts gX10_strike_X4_lets_u77X4 rfl rfl rfl (List.mem_of_getElem? (i := 21) (rfl : wsX10_strike[21]? = some (.code yX8_lets cX8_lets 3 (some .int)))) (by decide +kernel) ⟨Nat.le_of_ble_eq_true rfl, Nat.le_of_ble_eq_true rfl⟩) (gPreV (wc := []) (q := (RX4, TX4, 0)) (ci := 4) (q0 := 10) (isC := []) hK hX hS hA hP hD trivial (by decide +kernel) rfl rfl) rfl rfl hl.1 rfl (lv_room (Nat.le_of_ble_eq_true rfl)) dX10_strike_26 ⟨Nat.le_of_ble_eq_true rfl, Nat.le_of_ble_eq_true rfl⟩) (fun H locs hP hS => cont_10 H locs hP hD hS)
    · exact gCallIr (isC := []) (wc := []) hP hD hS hA trivial (va_runU (rm := rm_X8_lets) (ws := wsX8_lets) (As := [.int t_7, .int a_2]) (rest := [.int t_5]) (gFix hF) (c_X8_lets l D c (ta 3) t_7 a_2 r_9 hc_8 H.size) (va_cwU 2 hts gX10_strike_X8_lets_u77X5 rfl rfl rfl rfl (by decide +kernel) ⟨Nat.le_of_ble_eq_true rfl, Nat.le_of_ble_eq_true rfl⟩) (gPreV (wc := []) (q := (RX5, TX5, 0)) (ci := 5) (q0 := 11) (isC := []) hK hX hS hA hP hD trivial (by decide +kernel) rfl rfl) rfl rfl hl.1 rfl (lv_room (Nat.le_of_ble_eq_true rfl)) dX10_strike_26 ⟨Nat.le_of_ble_eq_true rfl, Nat.le_of_ble_eq_true rfl⟩) (fun H locs hP hS => cont_10 H locs hP hD hS)
    · exact gCallIr (isC := []) (wc := []) hP hD hS hA trivial (va_runU (rm := rm_X8_lets) (ws := wsX8_lets) (As := [.int t_7, .int a_2]) (rest := [.int t_5]) (gFix hF) (c_X8_lets l D c (ta 4) t_7 a_2 r_9 hc_8 H.size) (va_cwU 2 hts gX10_strike_X8_lets_u77X6 rfl rfl rfl rfl (by decide +kernel) ⟨Nat.le_of_ble_eq_true rfl, Nat.le_of_ble_eq_true rfl⟩) (gPreV (wc := []) (q := (RX6, TX6, 0)) (ci := 6) (q0 := 12) (isC := []) hK hX hS hA hP hD trivial (by decide +kernel) rfl rfl) rfl rfl hl.1 rfl (lv_room (Nat.le_of_ble_eq_true rfl)) dX10_strike_26 ⟨Nat.le_of_ble_eq_true rfl, Nat.le_of_ble_eq_true rfl⟩) (fun H locs hP hS => cont_10 H locs hP hD hS)
    · exact gCallIr (isC := []) (wc := []) hP hD hS hA trivial (va_runU (rm := rm_X2_lets) (ws := wsX2_lets) (As := [.int t_7, .int a_2]) (rest := [.int t_5]) (gFix hF) (c_X2_lets l D c (ta 5) t_7 a_2 r_9 hc_8 H.size) (va_cwO 2 hts gX10_strike_X2_lets_u77X2 rfl rfl rfl (List.mem_of_getElem? (i := 21) (rfl : wsX10_strike[21]? = some (.code yX8_lets cX8_lets 3 (some .int)))) (by decide +kernel) ⟨Nat.le_of_ble_eq_true rfl, Nat.le_of_ble_eq_true rfl⟩) (gPreV (wc := []) (q := (RX2, TX2, 0)) (ci := 2) (q0 := 13) (isC := []) hK hX hS hA hP hD trivial (by decide +kernel) rfl rfl) rfl rfl hl.1 rfl (lv_room (Nat.le_of_ble_eq_true rfl)) dX10_strike_26 ⟨Nat.le_of_ble_eq_true rfl, Nat.le_of_ble_eq_true rfl⟩) (fun H locs hP hS => cont_10 H locs hP hD hS)
    · exact gCallIr (isC := []) (wc := []) hP hD hS hA trivial (va_runU (rm := rm_X8_lets) (ws := wsX8_lets) (As := [.int t_7, .int a_2]) (rest := [.int t_5]) (gFix hF) (c_X8_lets l D c (ta 6) t_7 a_2 r_9 hc_8 H.size) (va_cwU 2 hts gX10_strike_X8_lets_u77X1 rfl rfl rfl rfl (by decide +kernel) ⟨Nat.le_of_ble_eq_true rfl, Nat.le_of_ble_eq_true rfl⟩) (gPreV (wc := []) (q := (RX1, TX1, 0)) (ci := 1) (q0 := 14) (isC := []) hK hX hS hA hP hD trivial (by decide +kernel) rfl rfl) rfl rfl hl.1 rfl (lv_room (Nat.le_of_ble_eq_true rfl)) dX10_strike_26 ⟨Nat.le_of_ble_eq_true rfl, Nat.le_of_ble_eq_true rfl⟩) (fun H locs hP hS => cont_10 H locs hP hD hS)
  · replace h := it_t c_3 h
    replace h := so5 h
    obtain ⟨z0, z1, z2, z3, z4⟩ := h
    subst z0 z1 z2 z3 z4
    exact gVret hF hP hD hS dX10_strike_9
set_option maxRecDepth 20000 in
theorem in_X11_error_X11 : ∀ w ∈ u_ws RX11 TX11 11, w ∈ wsX11_error := by decide +kernel
abbrev rm_X11_error : Room := { frames := 1, cells := 0, slots := 0, locals := 22 }
set_option maxHeartbeats 4000000 in
set_option maxRecDepth 100000 in
theorem c_X11_error (l : Launch) (D : va_G) (c : Nat → ClassId) (q_this q_now q_kept q_kinds q_voice q_thought q_further q_errors q_sheetBits q_sheetLength q_numbers : Nat) (a_1 : Int32) (v_images : Int32) (v_errors : Nat → Int32) (o_r : Int32) (o_v_errors : Nat → Int32) (h : f_X11_error a_1 v_errors = some (o_r, o_v_errors)) : gMI l yX11_error wsX11_error rm_X11_error D c [.ref q_this, .int a_1] [(q_this, .inr (11, [.ref q_now, .ref q_kept, .int v_images, .ref q_kinds, .ref q_voice, .ref q_thought, .ref q_further, .ref q_errors, .ref q_sheetBits, .ref q_sheetLength, .ref q_numbers])), (q_errors, .inl (c 0, 6, .inl v_errors))] [(q_this, .inr (11, [.ref q_now, .ref q_kept, .int v_images, .ref q_kinds, .ref q_voice, .ref q_thought, .ref q_further, .ref q_errors, .ref q_sheetBits, .ref q_sheetLength, .ref q_numbers])), (q_errors, .inl (c 0, 6, .inl o_v_errors))] o_r := by
  refine gMI_of (cc := cX11_error) (maxL := 2) (rt := (some .int)) (by decide +kernel) rfl (Nat.le_of_ble_eq_true rfl) ?_
  intro p e s m below meth co A hF hK hX hP hD hA hS ls hl
  obtain ⟨hx, hb, hr, hts, hown, hlocks, hml⟩ := id hF
  have hl : lv_has ls 2 [(0, .ref q_this), (1, .int a_1)] := hl
  unfold f_X11_error at h
  refine lv_iload_n hx hb dX11_error_0 rfl (lv_at hl 1 rfl) ?_
  refine lv_iconst (v := 1) hx hb dX11_error_1 (by decide) ?_
  refine lv_iconst (v := 5) hx hb dX11_error_2 (by decide) ?_
  replace h := kb_ok h
  obtain ⟨r_2, hc_1, h⟩ := h
  refine gCallIr (isC := []) (wc := []) hP hD hS hA trivial (va_runS (rm := rm_X11_within) (ws := wsX11_within) (As := [.int a_1, .int 1, .int 5]) (rest := []) (gFix hF) (c_X11_within l D c a_1 1 5 r_2 hc_1 s.heap.size) (va_cwS 3 hts gX11_error_X11_within rfl rfl rfl (by decide +kernel) ⟨Nat.le_of_ble_eq_true rfl, Nat.le_of_ble_eq_true rfl⟩) (gPreS (wc := []) (isC := []) hK hX hS hA hP hD trivial (by decide +kernel)) rfl rfl hl.1 rfl (lv_room (Nat.le_of_ble_eq_true rfl)) dX11_error_3 ⟨Nat.le_of_ble_eq_true rfl, Nat.le_of_ble_eq_true rfl⟩) (fun H locs hP hS => ?_)
  refine lv_if_eq (tgt := 19) hx hb dX11_error_6 (by decide) (fun c_3 => ?_) (fun c_3 => ?_)
  · replace h := it_t c_3 h
    refine lv_ldcw (v := (-1000000000)) hx hb hown (hts (.constant RX11 324 (-1000000000)) (List.mem_of_getElem? (i := 2) rfl)) dX11_error_19 ?_
    refine lv_iload_n hx hb dX11_error_22 rfl (lv_at hl 1 rfl) ?_
    refine lv_isub hx hb dX11_error_23 ?_
    replace h := so2 h
    obtain ⟨z0, z1⟩ := h
    subst z0 z1
    exact gIret hF hP hD hS rfl dX11_error_24
  · replace h := it_f c_3 h
    refine lv_aload_n hx hb dX11_error_9 rfl (lv_at hl 0 rfl) ?_
    refine va_get (D := D) (ci := 11) (v := .ref q_errors) (C := RX11) (T := TX11) (N := 11) hx hb hts in_X11_error_X11 hown hK.1 hP 0 rfl rfl 7 (by decide) (hts (.fieldLink RX11 63 "PaperBubbles" "errors" "[I") (List.mem_of_getElem? (i := 1) rfl)) (fun _ h9 => h9) rfl dX11_error_10 ?_
    refine lv_iload_n hx hb dX11_error_13 rfl (lv_at hl 1 rfl) ?_
    refine lv_dup2_11 hx hb dX11_error_14 rfl rfl ?_
    replace h := chi_ok h
    obtain ⟨hi_4, h⟩ := h
    refine va_iald hx hb hK.1 hP 1 0 rfl rfl hi_4 dX11_error_15 ?_
    replace h := nm_ok h
    obtain ⟨t_5, et_5, h⟩ := h
    refine gTop et_5 ?_
    refine lv_iconst (v := 1) hx hb dX11_error_16 (by decide) ?_
    refine lv_iadd hx hb dX11_error_17 ?_
    replace h := nm_ok h
    obtain ⟨t_6, et_6, h⟩ := h
    refine gTop et_6 ?_
    replace h := chi_ok h
    obtain ⟨hi_7, h⟩ := h
    replace h := nm_ok h
    obtain ⟨w_8, ew_8, h⟩ := h
    refine va_iast hx hb hK.1 hP hD hS 1 0 rfl rfl hi_7 dX11_error_18 (fun H locs hP hD hS => ?_)
    have hP : va_P D gcl [(q_this, .inr (11, [.ref q_now, .ref q_kept, .int v_images, .ref q_kinds, .ref q_voice, .ref q_thought, .ref q_further, .ref q_errors, .ref q_sheetBits, .ref q_sheetLength, .ref q_numbers])), (q_errors, .inl (c 0, 6, .inl w_8))] H := by subst ew_8; exact hP
    have hD : va_D A [(q_this, .inr (11, [.ref q_now, .ref q_kept, .int v_images, .ref q_kinds, .ref q_voice, .ref q_thought, .ref q_further, .ref q_errors, .ref q_sheetBits, .ref q_sheetLength, .ref q_numbers])), (q_errors, .inl (c 0, 6, .inl w_8))] := by subst ew_8; exact hD
    refine lv_ldcw (v := (-1000000000)) hx hb hown (hts (.constant RX11 324 (-1000000000)) (List.mem_of_getElem? (i := 2) rfl)) dX11_error_19 ?_
    refine lv_iload_n hx hb dX11_error_22 rfl (lv_at hl 1 rfl) ?_
    refine lv_isub hx hb dX11_error_23 ?_
    replace h := so2 h
    obtain ⟨z0, z1⟩ := h
    subst z0 z1
    exact gIret hF hP hD hS rfl dX11_error_24
set_option maxRecDepth 20000 in
theorem in_X11_isMissing_X11 : ∀ w ∈ u_ws RX11 TX11 11, w ∈ wsX11_isMissing := by decide +kernel
abbrev rm_X11_isMissing : Room := { frames := 0, cells := 0, slots := 0, locals := 0 }
set_option maxHeartbeats 4000000 in
set_option maxRecDepth 100000 in
theorem c_X11_isMissing (l : Launch) (D : va_G) (c : Nat → ClassId) (q_this q_now q_kept q_kinds q_voice q_thought q_further q_errors q_sheetBits q_sheetLength q_numbers : Nat) (a_1 : Int32) (v_images : Int32) (v_sheetBits : Nat → Int32) (o_r : Int32) (h : f_X11_isMissing a_1 v_sheetBits = some o_r) : gMI l yX11_isMissing wsX11_isMissing rm_X11_isMissing D c [.ref q_this, .int a_1] [(q_this, .inr (11, [.ref q_now, .ref q_kept, .int v_images, .ref q_kinds, .ref q_voice, .ref q_thought, .ref q_further, .ref q_errors, .ref q_sheetBits, .ref q_sheetLength, .ref q_numbers])), (q_sheetBits, .inl (c 0, 4, .inl v_sheetBits))] [(q_this, .inr (11, [.ref q_now, .ref q_kept, .int v_images, .ref q_kinds, .ref q_voice, .ref q_thought, .ref q_further, .ref q_errors, .ref q_sheetBits, .ref q_sheetLength, .ref q_numbers])), (q_sheetBits, .inl (c 0, 4, .inl v_sheetBits))] o_r := by
  refine gMI_of (cc := cX11_isMissing) (maxL := 2) (rt := (some .boolean)) (by decide +kernel) rfl (Nat.le_of_ble_eq_true rfl) ?_
  intro p e s m below meth co A hF hK hX hP hD hA hS ls hl
  obtain ⟨hx, hb, hr, hts, hown, hlocks, hml⟩ := id hF
  have hl : lv_has ls 2 [(0, .ref q_this), (1, .int a_1)] := hl
  unfold f_X11_isMissing at h
  refine lv_aload_n hx hb dX11_isMissing_0 rfl (lv_at hl 0 rfl) ?_
  refine va_get (D := D) (ci := 11) (v := .ref q_sheetBits) (C := RX11) (T := TX11) (N := 11) hx hb hts in_X11_isMissing_X11 hown hK.1 hP 0 rfl rfl 8 (by decide) (hts (.fieldLink RX11 67 "PaperBubbles" "sheetBits" "[I") (List.mem_of_getElem? (i := 1) rfl)) (fun _ h9 => h9) rfl dX11_isMissing_1 ?_
  refine lv_iload_n hx hb dX11_isMissing_4 rfl (lv_at hl 1 rfl) ?_
  replace h := chi_ok h
  obtain ⟨hi_1, h⟩ := h
  refine va_iald hx hb hK.1 hP 1 0 rfl rfl hi_1 dX11_isMissing_5 ?_
  refine lv_if_ne (tgt := 13) hx hb dX11_isMissing_6 (by decide) (fun c_2 => ?_) (fun c_2 => ?_)
  · replace h := it_f c_2 h
    refine lv_iconst (v := 0) hx hb dX11_isMissing_13 (by decide) ?_
    replace h := so1 h
    subst h
    exact gIret hF hP hD hS rfl dX11_isMissing_14
  · replace h := it_t c_2 h
    refine lv_iconst (v := 1) hx hb dX11_isMissing_9 (by decide) ?_
    refine lv_goto (tgt := 14) hx hb dX11_isMissing_10 (by decide) ?_
    replace h := so1 h
    subst h
    exact gIret hF hP hD hS rfl dX11_isMissing_14
abbrev rm_X11_isSheet : Room := { frames := 1, cells := 0, slots := 0, locals := 22 }
set_option maxHeartbeats 4000000 in
set_option maxRecDepth 100000 in
theorem c_X11_isSheet (l : Launch) (D : va_G) (c : Nat → ClassId) (a_0 : Int32) (o_r : Int32) (h : f_X11_isSheet a_0 = some o_r) : gMI l yX11_isSheet wsX11_isSheet rm_X11_isSheet D c [.int a_0] [] [] o_r := by
  refine gMI_of (cc := cX11_isSheet) (maxL := 1) (rt := (some .boolean)) (by decide +kernel) rfl (Nat.le_of_ble_eq_true rfl) ?_
  intro p e s m below meth co A hF hK hX hP hD hA hS ls hl
  obtain ⟨hx, hb, hr, hts, hown, hlocks, hml⟩ := id hF
  have hl : lv_has ls 1 [(0, .int a_0)] := hl
  unfold f_X11_isSheet at h
  refine lv_iload_n hx hb dX11_isSheet_0 rfl (lv_at hl 0 rfl) ?_
  refine lv_iconst (v := 0) hx hb dX11_isSheet_1 (by decide) ?_
  refine lv_iconst (v := 3) hx hb dX11_isSheet_2 (by decide) ?_
  replace h := kb_ok h
  obtain ⟨r_2, hc_1, h⟩ := h
  refine gCallIr (isC := []) (wc := []) hP hD hS hA trivial (va_runS (rm := rm_X11_within) (ws := wsX11_within) (As := [.int a_0, .int 0, .int 3]) (rest := []) (gFix hF) (c_X11_within l D c a_0 0 3 r_2 hc_1 s.heap.size) (va_cwS 3 hts gX11_isSheet_X11_within rfl rfl rfl (by decide +kernel) ⟨Nat.le_of_ble_eq_true rfl, Nat.le_of_ble_eq_true rfl⟩) (gPreS (wc := []) (isC := []) hK hX hS hA hP hD trivial (by decide +kernel)) rfl rfl hl.1 rfl (lv_room (Nat.le_of_ble_eq_true rfl)) dX11_isSheet_3 ⟨Nat.le_of_ble_eq_true rfl, Nat.le_of_ble_eq_true rfl⟩) (fun H locs hP hS => ?_)
  replace h := chb_ok h
  obtain ⟨hz_3, h⟩ := h
  replace h := so1 h
  subst h
  exact gIret hF hP hD hS (chb_n hz_3) dX11_isSheet_6
set_option maxRecDepth 20000 in
theorem in_X11_airs_X10 : ∀ w ∈ u_ws RX10 TX10 11, w ∈ wsX11_airs := by decide +kernel
set_option maxRecDepth 20000 in
theorem in_X11_airs_X11 : ∀ w ∈ u_ws RX11 TX11 11, w ∈ wsX11_airs := by decide +kernel
set_option maxRecDepth 20000 in
theorem in_X11_airs_X7 : ∀ w ∈ u_ws RX7 TX7 11, w ∈ wsX11_airs := by decide +kernel
abbrev rm_X11_airs : Room := { frames := 2, cells := 0, slots := 0, locals := 43 }
set_option maxHeartbeats 4000000 in
set_option maxRecDepth 100000 in
theorem c_X11_airs (l : Launch) (D : va_G) (c : Nat → ClassId) (q_this q_now q_kept q_kinds q_voice q_thought q_further q_errors q_sheetBits q_sheetLength q_numbers q_now_wall q_now_kind q_now_m q_now_tape q_now_moved q_now_seen q_now_told q_now_wall_air q_now_wall_paste q_now_wall_open q_now_wall_met q_now_wall_line : Nat) (na : Nat → Nat) (a_1 : Int32) (v_images : Int32) (v_errors : Nat → Int32) (v_now_tools : Int32) (v_now_tapeLength : Int32) (v_now_z : Int32) (v_now_waiting : Int32) (v_now_wall_rows : Int32) (v_now_wall_columns : Int32) (v_now_wall_holes : Int32) (v_now_wall_out : Int32) (v_now_wall_night : Int32) (v_now_wall_inLine : Int32) (v_now_wall_air : Nat → Int32) (v_sheetBits : Nat → Int32) (v_sheetLength : Nat → Int32) (v_numbers_el : Nat → Nat → Int32) (o_r : Int32) (o_v_errors : Nat → Int32) (o_v_now_wall_air : Nat → Int32) (h : f_X11_airs a_1 v_errors v_now_wall_rows v_now_wall_columns v_now_wall_air v_sheetBits v_sheetLength v_numbers_el = some (o_r, o_v_errors, o_v_now_wall_air)) : gMI l yX11_airs wsX11_airs rm_X11_airs D c [.ref q_this, .int a_1] [(q_this, .inr (11, [.ref q_now, .ref q_kept, .int v_images, .ref q_kinds, .ref q_voice, .ref q_thought, .ref q_further, .ref q_errors, .ref q_sheetBits, .ref q_sheetLength, .ref q_numbers])), (q_errors, .inl (c 0, 6, .inl v_errors)), (q_now, .inr (7, [.ref q_now_wall, .int v_now_tools, .ref q_now_kind, .ref q_now_m, .ref q_now_tape, .int v_now_tapeLength, .ref q_now_moved, .ref q_now_seen, .int v_now_z, .ref q_now_told, .int v_now_waiting])), (q_now_wall, .inr (10, [.int v_now_wall_rows, .int v_now_wall_columns, .ref q_now_wall_air, .ref q_now_wall_paste, .ref q_now_wall_open, .int v_now_wall_holes, .int v_now_wall_out, .int v_now_wall_night, .ref q_now_wall_met, .ref q_now_wall_line, .int v_now_wall_inLine])), (q_now_wall_air, .inl (c 0, 25, .inl v_now_wall_air)), (q_numbers, .inl (c 2, 4, .inr (.inr (.inr (.inr (fun j => some (na j))))))), (q_sheetBits, .inl (c 0, 4, .inl v_sheetBits)), (q_sheetLength, .inl (c 0, 4, .inl v_sheetLength)), (na 0, .inl (c 0, 40, .inl (v_numbers_el 0))), (na 1, .inl (c 0, 40, .inl (v_numbers_el 1))), (na 2, .inl (c 0, 40, .inl (v_numbers_el 2))), (na 3, .inl (c 0, 40, .inl (v_numbers_el 3)))] [(q_this, .inr (11, [.ref q_now, .ref q_kept, .int v_images, .ref q_kinds, .ref q_voice, .ref q_thought, .ref q_further, .ref q_errors, .ref q_sheetBits, .ref q_sheetLength, .ref q_numbers])), (q_errors, .inl (c 0, 6, .inl o_v_errors)), (q_now, .inr (7, [.ref q_now_wall, .int v_now_tools, .ref q_now_kind, .ref q_now_m, .ref q_now_tape, .int v_now_tapeLength, .ref q_now_moved, .ref q_now_seen, .int v_now_z, .ref q_now_told, .int v_now_waiting])), (q_now_wall, .inr (10, [.int v_now_wall_rows, .int v_now_wall_columns, .ref q_now_wall_air, .ref q_now_wall_paste, .ref q_now_wall_open, .int v_now_wall_holes, .int v_now_wall_out, .int v_now_wall_night, .ref q_now_wall_met, .ref q_now_wall_line, .int v_now_wall_inLine])), (q_now_wall_air, .inl (c 0, 25, .inl o_v_now_wall_air)), (q_numbers, .inl (c 2, 4, .inr (.inr (.inr (.inr (fun j => some (na j))))))), (q_sheetBits, .inl (c 0, 4, .inl v_sheetBits)), (q_sheetLength, .inl (c 0, 4, .inl v_sheetLength)), (na 0, .inl (c 0, 40, .inl (v_numbers_el 0))), (na 1, .inl (c 0, 40, .inl (v_numbers_el 1))), (na 2, .inl (c 0, 40, .inl (v_numbers_el 2))), (na 3, .inl (c 0, 40, .inl (v_numbers_el 3)))] o_r := by
  refine gMI_of (cc := cX11_airs) (maxL := 4) (rt := (some .int)) (by decide +kernel) rfl (Nat.le_of_ble_eq_true rfl) ?_
  intro p e s m below meth co A hF hK hX hP hD hA hS ls hl
  obtain ⟨hx, hb, hr, hts, hown, hlocks, hml⟩ := id hF
  have hl : lv_has ls 4 [(0, .ref q_this), (1, .int a_1)] := hl
  have t_L49 : ∀ (n : Nat), ∀ (x2 : Int32) (x3 : Int32) (v_errors : Nat → Int32) (v_now_wall_air : Nat → Int32) (H : Heap) (locs : List Loc), va_P D gcl [(q_this, .inr (11, [.ref q_now, .ref q_kept, .int v_images, .ref q_kinds, .ref q_voice, .ref q_thought, .ref q_further, .ref q_errors, .ref q_sheetBits, .ref q_sheetLength, .ref q_numbers])), (q_errors, .inl (c 0, 6, .inl v_errors)), (q_now, .inr (7, [.ref q_now_wall, .int v_now_tools, .ref q_now_kind, .ref q_now_m, .ref q_now_tape, .int v_now_tapeLength, .ref q_now_moved, .ref q_now_seen, .int v_now_z, .ref q_now_told, .int v_now_waiting])), (q_now_wall, .inr (10, [.int v_now_wall_rows, .int v_now_wall_columns, .ref q_now_wall_air, .ref q_now_wall_paste, .ref q_now_wall_open, .int v_now_wall_holes, .int v_now_wall_out, .int v_now_wall_night, .ref q_now_wall_met, .ref q_now_wall_line, .int v_now_wall_inLine])), (q_now_wall_air, .inl (c 0, 25, .inl v_now_wall_air)), (q_numbers, .inl (c 2, 4, .inr (.inr (.inr (.inr (fun j => some (na j))))))), (q_sheetBits, .inl (c 0, 4, .inl v_sheetBits)), (q_sheetLength, .inl (c 0, 4, .inl v_sheetLength)), (na 0, .inl (c 0, 40, .inl (v_numbers_el 0))), (na 1, .inl (c 0, 40, .inl (v_numbers_el 1))), (na 2, .inl (c 0, 40, .inl (v_numbers_el 2))), (na 3, .inl (c 0, 40, .inl (v_numbers_el 3)))] H → va_D A [(q_this, .inr (11, [.ref q_now, .ref q_kept, .int v_images, .ref q_kinds, .ref q_voice, .ref q_thought, .ref q_further, .ref q_errors, .ref q_sheetBits, .ref q_sheetLength, .ref q_numbers])), (q_errors, .inl (c 0, 6, .inl v_errors)), (q_now, .inr (7, [.ref q_now_wall, .int v_now_tools, .ref q_now_kind, .ref q_now_m, .ref q_now_tape, .int v_now_tapeLength, .ref q_now_moved, .ref q_now_seen, .int v_now_z, .ref q_now_told, .int v_now_waiting])), (q_now_wall, .inr (10, [.int v_now_wall_rows, .int v_now_wall_columns, .ref q_now_wall_air, .ref q_now_wall_paste, .ref q_now_wall_open, .int v_now_wall_holes, .int v_now_wall_out, .int v_now_wall_night, .ref q_now_wall_met, .ref q_now_wall_line, .int v_now_wall_inLine])), (q_now_wall_air, .inl (c 0, 25, .inl v_now_wall_air)), (q_numbers, .inl (c 2, 4, .inr (.inr (.inr (.inr (fun j => some (na j))))))), (q_sheetBits, .inl (c 0, 4, .inl v_sheetBits)), (q_sheetLength, .inl (c 0, 4, .inl v_sheetLength)), (na 0, .inl (c 0, 40, .inl (v_numbers_el 0))), (na 1, .inl (c 0, 40, .inl (v_numbers_el 1))), (na 2, .inl (c 0, 40, .inl (v_numbers_el 2))), (na 3, .inl (c 0, 40, .inl (v_numbers_el 3)))] → va_S A s.heap H locs → ∀ ls, lv_has ls 4 [(0, .ref q_this), (1, .int a_1), (2, .int x2), (3, .int x3)] → f_X11_airs_L49 a_1 v_numbers_el n x2 x3 v_errors v_now_wall_air = some (o_r, o_v_errors, o_v_now_wall_air) → W p l e (headSpec wsX11_airs rm_X11_airs).room s m [.ref q_this, .int a_1].toArray below meth co H locs 0 0 (gQI D [(q_this, .inr (11, [.ref q_now, .ref q_kept, .int v_images, .ref q_kinds, .ref q_voice, .ref q_thought, .ref q_further, .ref q_errors, .ref q_sheetBits, .ref q_sheetLength, .ref q_numbers])), (q_errors, .inl (c 0, 6, .inl o_v_errors)), (q_now, .inr (7, [.ref q_now_wall, .int v_now_tools, .ref q_now_kind, .ref q_now_m, .ref q_now_tape, .int v_now_tapeLength, .ref q_now_moved, .ref q_now_seen, .int v_now_z, .ref q_now_told, .int v_now_waiting])), (q_now_wall, .inr (10, [.int v_now_wall_rows, .int v_now_wall_columns, .ref q_now_wall_air, .ref q_now_wall_paste, .ref q_now_wall_open, .int v_now_wall_holes, .int v_now_wall_out, .int v_now_wall_night, .ref q_now_wall_met, .ref q_now_wall_line, .int v_now_wall_inLine])), (q_now_wall_air, .inl (c 0, 25, .inl o_v_now_wall_air)), (q_numbers, .inl (c 2, 4, .inr (.inr (.inr (.inr (fun j => some (na j))))))), (q_sheetBits, .inl (c 0, 4, .inl v_sheetBits)), (q_sheetLength, .inl (c 0, 4, .inl v_sheetLength)), (na 0, .inl (c 0, 40, .inl (v_numbers_el 0))), (na 1, .inl (c 0, 40, .inl (v_numbers_el 1))), (na 2, .inl (c 0, 40, .inl (v_numbers_el 2))), (na 3, .inl (c 0, 40, .inl (v_numbers_el 3)))] o_r A below [.ref q_this, .int a_1] s) (F0 m 49 ls []) := by
    intro n
    induction n with
    | zero => intro x2 x3 v_errors v_now_wall_air H locs hP hD hS ls hl h; exact no_ok h
    | succ n ih =>
      intro x2 x3 v_errors v_now_wall_air H locs hP hD hS ls hl h
      rw [f_X11_airs_L49] at h
      refine lv_iload_n hx hb dX11_airs_49 rfl (lv_at hl 3 rfl) ?_
      refine lv_iload_n hx hb dX11_airs_50 rfl (lv_at hl 2 rfl) ?_
      refine lv_icmp_ge (tgt := 97) hx hb dX11_airs_51 (by decide) (fun c_18 => ?_) (fun c_18 => ?_)
      · replace h := it_t c_18 h
        refine lv_iload_n hx hb dX11_airs_97 rfl (lv_at hl 3 rfl) ?_
        replace h := so3 h
        obtain ⟨z0, z1, z2⟩ := h
        subst z0 z1 z2
        exact gIret hF hP hD hS rfl dX11_airs_98
      · replace h := it_f c_18 h
        refine lv_aload_n hx hb dX11_airs_54 rfl (lv_at hl 0 rfl) ?_
        refine va_get (D := D) (ci := 11) (v := .ref q_numbers) (C := RX11) (T := TX11) (N := 11) hx hb hts in_X11_airs_X11 hown hK.1 hP 0 rfl rfl 10 (by decide) (hts (.fieldLink RX11 75 "PaperBubbles" "numbers" "[[I") (List.mem_of_getElem? (i := 7) rfl)) (fun _ h9 => h9) rfl dX11_airs_55 ?_
        refine lv_iload_n hx hb dX11_airs_58 rfl (lv_at hl 1 rfl) ?_
        replace h := chi_ok h
        obtain ⟨hi_19, h⟩ := h
        refine gAldA hx hb hK.1 hP 5 2 rfl rfl hi_19 dX11_airs_59 ?_
        rcases gIn4 hi_19 with rfl | rfl | rfl | rfl
        · refine lv_iload_n hx hb dX11_airs_60 rfl (lv_at hl 3 rfl) ?_
          replace h := chi_ok h
          obtain ⟨hi_51, h⟩ := h
          refine va_iald hx hb hK.1 hP 8 0 rfl rfl hi_51 dX11_airs_61 ?_
          replace h := nm_ok h
          obtain ⟨t_52, et_52, h⟩ := h
          refine gTop et_52 ?_
          refine lv_iconst (v := 0) hx hb dX11_airs_62 (by decide) ?_
          refine lv_bipush (v := 99) hx hb dX11_airs_63 (by decide) ?_
          replace h := kb_ok h
          obtain ⟨r_54, hc_53, h⟩ := h
          refine gCallIr (isC := []) (wc := []) hP hD hS hA trivial (va_runS (rm := rm_X11_within) (ws := wsX11_within) (As := [.int t_52, .int 0, .int 99]) (rest := []) (gFix hF) (c_X11_within l D c t_52 0 99 r_54 hc_53 H.size) (va_cwS 3 hts gX11_airs_X11_within rfl rfl rfl (by decide +kernel) ⟨Nat.le_of_ble_eq_true rfl, Nat.le_of_ble_eq_true rfl⟩) (gPreS (wc := []) (isC := []) hK hX hS hA hP hD trivial (by decide +kernel)) rfl rfl hl.1 rfl (lv_room (Nat.le_of_ble_eq_true rfl)) dX11_airs_65 ⟨Nat.le_of_ble_eq_true rfl, Nat.le_of_ble_eq_true rfl⟩) (fun H locs hP hS => ?_)
          refine lv_if_eq (tgt := 97) hx hb dX11_airs_68 (by decide) (fun c_55 => ?_) (fun c_55 => ?_)
          · replace h := it_t c_55 h
            refine lv_iload_n hx hb dX11_airs_97 rfl (lv_at hl 3 rfl) ?_
            replace h := so3 h
            obtain ⟨z0, z1, z2⟩ := h
            subst z0 z1 z2
            exact gIret hF hP hD hS rfl dX11_airs_98
          · replace h := it_f c_55 h
            refine lv_aload_n hx hb dX11_airs_71 rfl (lv_at hl 0 rfl) ?_
            refine va_get (D := D) (ci := 11) (v := .ref q_now) (C := RX11) (T := TX11) (N := 11) hx hb hts in_X11_airs_X11 hown hK.1 hP 0 rfl rfl 0 (by decide) (hts (.fieldLink RX11 14 "PaperBubbles" "now" "LPaperBubbles$State;") (List.mem_of_getElem? (i := 2) rfl)) (fun _ h9 => h9) rfl dX11_airs_72 ?_
            refine va_getN (D := D) (ci := 7) (v := .ref q_now_wall) (C := RX7) (T := TX7) (N := 11) hx hb hts in_X11_airs_X7 hown hK.1 hP 2 rfl rfl 0 (by decide) (va_Nw.use rfl (hK.2 (.fieldLinkNest "PaperBubbles" 86 "PaperBubbles$State" "wall" "LPaperBubbles$Wall;" "PaperBubbles") (List.mem_of_getElem? (i := 18) rfl))) (fun _ h9 => h9) rfl dX11_airs_75 ?_
            refine va_getN (D := D) (ci := 10) (v := .ref q_now_wall_air) (C := RX10) (T := TX10) (N := 11) hx hb hts in_X11_airs_X10 hown hK.1 hP 3 rfl rfl 2 (by decide) (va_Nw.use rfl (hK.2 (.fieldLinkNest "PaperBubbles" 101 "PaperBubbles$Wall" "air" "[I" "PaperBubbles") (List.mem_of_getElem? (i := 0) rfl))) (fun _ h9 => h9) rfl dX11_airs_78 ?_
            refine lv_iload_n hx hb dX11_airs_81 rfl (lv_at hl 3 rfl) ?_
            refine lv_aload_n hx hb dX11_airs_82 rfl (lv_at hl 0 rfl) ?_
            refine va_get (D := D) (ci := 11) (v := .ref q_numbers) (C := RX11) (T := TX11) (N := 11) hx hb hts in_X11_airs_X11 hown hK.1 hP 0 rfl rfl 10 (by decide) (hts (.fieldLink RX11 75 "PaperBubbles" "numbers" "[[I") (List.mem_of_getElem? (i := 7) rfl)) (fun _ h9 => h9) rfl dX11_airs_83 ?_
            refine lv_iload_n hx hb dX11_airs_86 rfl (lv_at hl 1 rfl) ?_
            replace h := chi_ok h
            obtain ⟨hi_56, h⟩ := h
            refine gAldA hx hb hK.1 hP 5 2 rfl rfl hi_56 dX11_airs_87 ?_
            refine lv_iload_n hx hb dX11_airs_88 rfl (lv_at hl 3 rfl) ?_
            replace h := chi_ok h
            obtain ⟨hi_57, h⟩ := h
            refine va_iald hx hb hK.1 hP 8 0 rfl rfl hi_57 dX11_airs_89 ?_
            replace h := nm_ok h
            obtain ⟨t_58, et_58, h⟩ := h
            refine gTop et_58 ?_
            replace h := chi_ok h
            obtain ⟨hi_59, h⟩ := h
            replace h := nm_ok h
            obtain ⟨w_60, ew_60, h⟩ := h
            refine va_iast hx hb hK.1 hP hD hS 4 0 rfl rfl hi_59 dX11_airs_90 (fun H locs hP hD hS => ?_)
            have hP : va_P D gcl [(q_this, .inr (11, [.ref q_now, .ref q_kept, .int v_images, .ref q_kinds, .ref q_voice, .ref q_thought, .ref q_further, .ref q_errors, .ref q_sheetBits, .ref q_sheetLength, .ref q_numbers])), (q_errors, .inl (c 0, 6, .inl v_errors)), (q_now, .inr (7, [.ref q_now_wall, .int v_now_tools, .ref q_now_kind, .ref q_now_m, .ref q_now_tape, .int v_now_tapeLength, .ref q_now_moved, .ref q_now_seen, .int v_now_z, .ref q_now_told, .int v_now_waiting])), (q_now_wall, .inr (10, [.int v_now_wall_rows, .int v_now_wall_columns, .ref q_now_wall_air, .ref q_now_wall_paste, .ref q_now_wall_open, .int v_now_wall_holes, .int v_now_wall_out, .int v_now_wall_night, .ref q_now_wall_met, .ref q_now_wall_line, .int v_now_wall_inLine])), (q_now_wall_air, .inl (c 0, 25, .inl w_60)), (q_numbers, .inl (c 2, 4, .inr (.inr (.inr (.inr (fun j => some (na j))))))), (q_sheetBits, .inl (c 0, 4, .inl v_sheetBits)), (q_sheetLength, .inl (c 0, 4, .inl v_sheetLength)), (na 0, .inl (c 0, 40, .inl (v_numbers_el 0))), (na 1, .inl (c 0, 40, .inl (v_numbers_el 1))), (na 2, .inl (c 0, 40, .inl (v_numbers_el 2))), (na 3, .inl (c 0, 40, .inl (v_numbers_el 3)))] H := by subst ew_60; exact hP
            have hD : va_D A [(q_this, .inr (11, [.ref q_now, .ref q_kept, .int v_images, .ref q_kinds, .ref q_voice, .ref q_thought, .ref q_further, .ref q_errors, .ref q_sheetBits, .ref q_sheetLength, .ref q_numbers])), (q_errors, .inl (c 0, 6, .inl v_errors)), (q_now, .inr (7, [.ref q_now_wall, .int v_now_tools, .ref q_now_kind, .ref q_now_m, .ref q_now_tape, .int v_now_tapeLength, .ref q_now_moved, .ref q_now_seen, .int v_now_z, .ref q_now_told, .int v_now_waiting])), (q_now_wall, .inr (10, [.int v_now_wall_rows, .int v_now_wall_columns, .ref q_now_wall_air, .ref q_now_wall_paste, .ref q_now_wall_open, .int v_now_wall_holes, .int v_now_wall_out, .int v_now_wall_night, .ref q_now_wall_met, .ref q_now_wall_line, .int v_now_wall_inLine])), (q_now_wall_air, .inl (c 0, 25, .inl w_60)), (q_numbers, .inl (c 2, 4, .inr (.inr (.inr (.inr (fun j => some (na j))))))), (q_sheetBits, .inl (c 0, 4, .inl v_sheetBits)), (q_sheetLength, .inl (c 0, 4, .inl v_sheetLength)), (na 0, .inl (c 0, 40, .inl (v_numbers_el 0))), (na 1, .inl (c 0, 40, .inl (v_numbers_el 1))), (na 2, .inl (c 0, 40, .inl (v_numbers_el 2))), (na 3, .inl (c 0, 40, .inl (v_numbers_el 3)))] := by subst ew_60; exact hD
            replace h := nm_ok h
            obtain ⟨t_61, et_61, h⟩ := h
            refine lv_iinc (v := t_61) (lv' := [(3, .int t_61), (0, .ref q_this), (1, .int 0), (2, .int x2)]) hx hb dX11_airs_91 hl (k := 3) rfl (by rw [et_61]; rfl) (by decide) rfl (fun ls hl => ?_)
            refine lv_goto (tgt := 49) hx hb dX11_airs_94 (by decide) ?_
            exact ih x2 t_61 v_errors w_60 H locs hP hD hS ls (lv_sub hl [1, 2, 3, 0] rfl) h
        · refine lv_iload_n hx hb dX11_airs_60 rfl (lv_at hl 3 rfl) ?_
          replace h := chi_ok h
          obtain ⟨hi_62, h⟩ := h
          refine va_iald hx hb hK.1 hP 9 0 rfl rfl hi_62 dX11_airs_61 ?_
          replace h := nm_ok h
          obtain ⟨t_63, et_63, h⟩ := h
          refine gTop et_63 ?_
          refine lv_iconst (v := 0) hx hb dX11_airs_62 (by decide) ?_
          refine lv_bipush (v := 99) hx hb dX11_airs_63 (by decide) ?_
          replace h := kb_ok h
          obtain ⟨r_65, hc_64, h⟩ := h
          refine gCallIr (isC := []) (wc := []) hP hD hS hA trivial (va_runS (rm := rm_X11_within) (ws := wsX11_within) (As := [.int t_63, .int 0, .int 99]) (rest := []) (gFix hF) (c_X11_within l D c t_63 0 99 r_65 hc_64 H.size) (va_cwS 3 hts gX11_airs_X11_within rfl rfl rfl (by decide +kernel) ⟨Nat.le_of_ble_eq_true rfl, Nat.le_of_ble_eq_true rfl⟩) (gPreS (wc := []) (isC := []) hK hX hS hA hP hD trivial (by decide +kernel)) rfl rfl hl.1 rfl (lv_room (Nat.le_of_ble_eq_true rfl)) dX11_airs_65 ⟨Nat.le_of_ble_eq_true rfl, Nat.le_of_ble_eq_true rfl⟩) (fun H locs hP hS => ?_)
          refine lv_if_eq (tgt := 97) hx hb dX11_airs_68 (by decide) (fun c_66 => ?_) (fun c_66 => ?_)
          · replace h := it_t c_66 h
            refine lv_iload_n hx hb dX11_airs_97 rfl (lv_at hl 3 rfl) ?_
            replace h := so3 h
            obtain ⟨z0, z1, z2⟩ := h
            subst z0 z1 z2
            exact gIret hF hP hD hS rfl dX11_airs_98
          · replace h := it_f c_66 h
            refine lv_aload_n hx hb dX11_airs_71 rfl (lv_at hl 0 rfl) ?_
            refine va_get (D := D) (ci := 11) (v := .ref q_now) (C := RX11) (T := TX11) (N := 11) hx hb hts in_X11_airs_X11 hown hK.1 hP 0 rfl rfl 0 (by decide) (hts (.fieldLink RX11 14 "PaperBubbles" "now" "LPaperBubbles$State;") (List.mem_of_getElem? (i := 2) rfl)) (fun _ h9 => h9) rfl dX11_airs_72 ?_
            refine va_getN (D := D) (ci := 7) (v := .ref q_now_wall) (C := RX7) (T := TX7) (N := 11) hx hb hts in_X11_airs_X7 hown hK.1 hP 2 rfl rfl 0 (by decide) (va_Nw.use rfl (hK.2 (.fieldLinkNest "PaperBubbles" 86 "PaperBubbles$State" "wall" "LPaperBubbles$Wall;" "PaperBubbles") (List.mem_of_getElem? (i := 18) rfl))) (fun _ h9 => h9) rfl dX11_airs_75 ?_
            refine va_getN (D := D) (ci := 10) (v := .ref q_now_wall_air) (C := RX10) (T := TX10) (N := 11) hx hb hts in_X11_airs_X10 hown hK.1 hP 3 rfl rfl 2 (by decide) (va_Nw.use rfl (hK.2 (.fieldLinkNest "PaperBubbles" 101 "PaperBubbles$Wall" "air" "[I" "PaperBubbles") (List.mem_of_getElem? (i := 0) rfl))) (fun _ h9 => h9) rfl dX11_airs_78 ?_
            refine lv_iload_n hx hb dX11_airs_81 rfl (lv_at hl 3 rfl) ?_
            refine lv_aload_n hx hb dX11_airs_82 rfl (lv_at hl 0 rfl) ?_
            refine va_get (D := D) (ci := 11) (v := .ref q_numbers) (C := RX11) (T := TX11) (N := 11) hx hb hts in_X11_airs_X11 hown hK.1 hP 0 rfl rfl 10 (by decide) (hts (.fieldLink RX11 75 "PaperBubbles" "numbers" "[[I") (List.mem_of_getElem? (i := 7) rfl)) (fun _ h9 => h9) rfl dX11_airs_83 ?_
            refine lv_iload_n hx hb dX11_airs_86 rfl (lv_at hl 1 rfl) ?_
            replace h := chi_ok h
            obtain ⟨hi_67, h⟩ := h
            refine gAldA hx hb hK.1 hP 5 2 rfl rfl hi_67 dX11_airs_87 ?_
            refine lv_iload_n hx hb dX11_airs_88 rfl (lv_at hl 3 rfl) ?_
            replace h := chi_ok h
            obtain ⟨hi_68, h⟩ := h
            refine va_iald hx hb hK.1 hP 9 0 rfl rfl hi_68 dX11_airs_89 ?_
            replace h := nm_ok h
            obtain ⟨t_69, et_69, h⟩ := h
            refine gTop et_69 ?_
            replace h := chi_ok h
            obtain ⟨hi_70, h⟩ := h
            replace h := nm_ok h
            obtain ⟨w_71, ew_71, h⟩ := h
            refine va_iast hx hb hK.1 hP hD hS 4 0 rfl rfl hi_70 dX11_airs_90 (fun H locs hP hD hS => ?_)
            have hP : va_P D gcl [(q_this, .inr (11, [.ref q_now, .ref q_kept, .int v_images, .ref q_kinds, .ref q_voice, .ref q_thought, .ref q_further, .ref q_errors, .ref q_sheetBits, .ref q_sheetLength, .ref q_numbers])), (q_errors, .inl (c 0, 6, .inl v_errors)), (q_now, .inr (7, [.ref q_now_wall, .int v_now_tools, .ref q_now_kind, .ref q_now_m, .ref q_now_tape, .int v_now_tapeLength, .ref q_now_moved, .ref q_now_seen, .int v_now_z, .ref q_now_told, .int v_now_waiting])), (q_now_wall, .inr (10, [.int v_now_wall_rows, .int v_now_wall_columns, .ref q_now_wall_air, .ref q_now_wall_paste, .ref q_now_wall_open, .int v_now_wall_holes, .int v_now_wall_out, .int v_now_wall_night, .ref q_now_wall_met, .ref q_now_wall_line, .int v_now_wall_inLine])), (q_now_wall_air, .inl (c 0, 25, .inl w_71)), (q_numbers, .inl (c 2, 4, .inr (.inr (.inr (.inr (fun j => some (na j))))))), (q_sheetBits, .inl (c 0, 4, .inl v_sheetBits)), (q_sheetLength, .inl (c 0, 4, .inl v_sheetLength)), (na 0, .inl (c 0, 40, .inl (v_numbers_el 0))), (na 1, .inl (c 0, 40, .inl (v_numbers_el 1))), (na 2, .inl (c 0, 40, .inl (v_numbers_el 2))), (na 3, .inl (c 0, 40, .inl (v_numbers_el 3)))] H := by subst ew_71; exact hP
            have hD : va_D A [(q_this, .inr (11, [.ref q_now, .ref q_kept, .int v_images, .ref q_kinds, .ref q_voice, .ref q_thought, .ref q_further, .ref q_errors, .ref q_sheetBits, .ref q_sheetLength, .ref q_numbers])), (q_errors, .inl (c 0, 6, .inl v_errors)), (q_now, .inr (7, [.ref q_now_wall, .int v_now_tools, .ref q_now_kind, .ref q_now_m, .ref q_now_tape, .int v_now_tapeLength, .ref q_now_moved, .ref q_now_seen, .int v_now_z, .ref q_now_told, .int v_now_waiting])), (q_now_wall, .inr (10, [.int v_now_wall_rows, .int v_now_wall_columns, .ref q_now_wall_air, .ref q_now_wall_paste, .ref q_now_wall_open, .int v_now_wall_holes, .int v_now_wall_out, .int v_now_wall_night, .ref q_now_wall_met, .ref q_now_wall_line, .int v_now_wall_inLine])), (q_now_wall_air, .inl (c 0, 25, .inl w_71)), (q_numbers, .inl (c 2, 4, .inr (.inr (.inr (.inr (fun j => some (na j))))))), (q_sheetBits, .inl (c 0, 4, .inl v_sheetBits)), (q_sheetLength, .inl (c 0, 4, .inl v_sheetLength)), (na 0, .inl (c 0, 40, .inl (v_numbers_el 0))), (na 1, .inl (c 0, 40, .inl (v_numbers_el 1))), (na 2, .inl (c 0, 40, .inl (v_numbers_el 2))), (na 3, .inl (c 0, 40, .inl (v_numbers_el 3)))] := by subst ew_71; exact hD
            replace h := nm_ok h
            obtain ⟨t_72, et_72, h⟩ := h
            refine lv_iinc (v := t_72) (lv' := [(3, .int t_72), (0, .ref q_this), (1, .int 1), (2, .int x2)]) hx hb dX11_airs_91 hl (k := 3) rfl (by rw [et_72]; rfl) (by decide) rfl (fun ls hl => ?_)
            refine lv_goto (tgt := 49) hx hb dX11_airs_94 (by decide) ?_
            exact ih x2 t_72 v_errors w_71 H locs hP hD hS ls (lv_sub hl [1, 2, 3, 0] rfl) h
        · refine lv_iload_n hx hb dX11_airs_60 rfl (lv_at hl 3 rfl) ?_
          replace h := chi_ok h
          obtain ⟨hi_73, h⟩ := h
          refine va_iald hx hb hK.1 hP 10 0 rfl rfl hi_73 dX11_airs_61 ?_
          replace h := nm_ok h
          obtain ⟨t_74, et_74, h⟩ := h
          refine gTop et_74 ?_
          refine lv_iconst (v := 0) hx hb dX11_airs_62 (by decide) ?_
          refine lv_bipush (v := 99) hx hb dX11_airs_63 (by decide) ?_
          replace h := kb_ok h
          obtain ⟨r_76, hc_75, h⟩ := h
          refine gCallIr (isC := []) (wc := []) hP hD hS hA trivial (va_runS (rm := rm_X11_within) (ws := wsX11_within) (As := [.int t_74, .int 0, .int 99]) (rest := []) (gFix hF) (c_X11_within l D c t_74 0 99 r_76 hc_75 H.size) (va_cwS 3 hts gX11_airs_X11_within rfl rfl rfl (by decide +kernel) ⟨Nat.le_of_ble_eq_true rfl, Nat.le_of_ble_eq_true rfl⟩) (gPreS (wc := []) (isC := []) hK hX hS hA hP hD trivial (by decide +kernel)) rfl rfl hl.1 rfl (lv_room (Nat.le_of_ble_eq_true rfl)) dX11_airs_65 ⟨Nat.le_of_ble_eq_true rfl, Nat.le_of_ble_eq_true rfl⟩) (fun H locs hP hS => ?_)
          refine lv_if_eq (tgt := 97) hx hb dX11_airs_68 (by decide) (fun c_77 => ?_) (fun c_77 => ?_)
          · replace h := it_t c_77 h
            refine lv_iload_n hx hb dX11_airs_97 rfl (lv_at hl 3 rfl) ?_
            replace h := so3 h
            obtain ⟨z0, z1, z2⟩ := h
            subst z0 z1 z2
            exact gIret hF hP hD hS rfl dX11_airs_98
          · replace h := it_f c_77 h
            refine lv_aload_n hx hb dX11_airs_71 rfl (lv_at hl 0 rfl) ?_
            refine va_get (D := D) (ci := 11) (v := .ref q_now) (C := RX11) (T := TX11) (N := 11) hx hb hts in_X11_airs_X11 hown hK.1 hP 0 rfl rfl 0 (by decide) (hts (.fieldLink RX11 14 "PaperBubbles" "now" "LPaperBubbles$State;") (List.mem_of_getElem? (i := 2) rfl)) (fun _ h9 => h9) rfl dX11_airs_72 ?_
            refine va_getN (D := D) (ci := 7) (v := .ref q_now_wall) (C := RX7) (T := TX7) (N := 11) hx hb hts in_X11_airs_X7 hown hK.1 hP 2 rfl rfl 0 (by decide) (va_Nw.use rfl (hK.2 (.fieldLinkNest "PaperBubbles" 86 "PaperBubbles$State" "wall" "LPaperBubbles$Wall;" "PaperBubbles") (List.mem_of_getElem? (i := 18) rfl))) (fun _ h9 => h9) rfl dX11_airs_75 ?_
            refine va_getN (D := D) (ci := 10) (v := .ref q_now_wall_air) (C := RX10) (T := TX10) (N := 11) hx hb hts in_X11_airs_X10 hown hK.1 hP 3 rfl rfl 2 (by decide) (va_Nw.use rfl (hK.2 (.fieldLinkNest "PaperBubbles" 101 "PaperBubbles$Wall" "air" "[I" "PaperBubbles") (List.mem_of_getElem? (i := 0) rfl))) (fun _ h9 => h9) rfl dX11_airs_78 ?_
            refine lv_iload_n hx hb dX11_airs_81 rfl (lv_at hl 3 rfl) ?_
            refine lv_aload_n hx hb dX11_airs_82 rfl (lv_at hl 0 rfl) ?_
            refine va_get (D := D) (ci := 11) (v := .ref q_numbers) (C := RX11) (T := TX11) (N := 11) hx hb hts in_X11_airs_X11 hown hK.1 hP 0 rfl rfl 10 (by decide) (hts (.fieldLink RX11 75 "PaperBubbles" "numbers" "[[I") (List.mem_of_getElem? (i := 7) rfl)) (fun _ h9 => h9) rfl dX11_airs_83 ?_
            refine lv_iload_n hx hb dX11_airs_86 rfl (lv_at hl 1 rfl) ?_
            replace h := chi_ok h
            obtain ⟨hi_78, h⟩ := h
            refine gAldA hx hb hK.1 hP 5 2 rfl rfl hi_78 dX11_airs_87 ?_
            refine lv_iload_n hx hb dX11_airs_88 rfl (lv_at hl 3 rfl) ?_
            replace h := chi_ok h
            obtain ⟨hi_79, h⟩ := h
            refine va_iald hx hb hK.1 hP 10 0 rfl rfl hi_79 dX11_airs_89 ?_
            replace h := nm_ok h
            obtain ⟨t_80, et_80, h⟩ := h
            refine gTop et_80 ?_
            replace h := chi_ok h
            obtain ⟨hi_81, h⟩ := h
            replace h := nm_ok h
            obtain ⟨w_82, ew_82, h⟩ := h
            refine va_iast hx hb hK.1 hP hD hS 4 0 rfl rfl hi_81 dX11_airs_90 (fun H locs hP hD hS => ?_)
            have hP : va_P D gcl [(q_this, .inr (11, [.ref q_now, .ref q_kept, .int v_images, .ref q_kinds, .ref q_voice, .ref q_thought, .ref q_further, .ref q_errors, .ref q_sheetBits, .ref q_sheetLength, .ref q_numbers])), (q_errors, .inl (c 0, 6, .inl v_errors)), (q_now, .inr (7, [.ref q_now_wall, .int v_now_tools, .ref q_now_kind, .ref q_now_m, .ref q_now_tape, .int v_now_tapeLength, .ref q_now_moved, .ref q_now_seen, .int v_now_z, .ref q_now_told, .int v_now_waiting])), (q_now_wall, .inr (10, [.int v_now_wall_rows, .int v_now_wall_columns, .ref q_now_wall_air, .ref q_now_wall_paste, .ref q_now_wall_open, .int v_now_wall_holes, .int v_now_wall_out, .int v_now_wall_night, .ref q_now_wall_met, .ref q_now_wall_line, .int v_now_wall_inLine])), (q_now_wall_air, .inl (c 0, 25, .inl w_82)), (q_numbers, .inl (c 2, 4, .inr (.inr (.inr (.inr (fun j => some (na j))))))), (q_sheetBits, .inl (c 0, 4, .inl v_sheetBits)), (q_sheetLength, .inl (c 0, 4, .inl v_sheetLength)), (na 0, .inl (c 0, 40, .inl (v_numbers_el 0))), (na 1, .inl (c 0, 40, .inl (v_numbers_el 1))), (na 2, .inl (c 0, 40, .inl (v_numbers_el 2))), (na 3, .inl (c 0, 40, .inl (v_numbers_el 3)))] H := by subst ew_82; exact hP
            have hD : va_D A [(q_this, .inr (11, [.ref q_now, .ref q_kept, .int v_images, .ref q_kinds, .ref q_voice, .ref q_thought, .ref q_further, .ref q_errors, .ref q_sheetBits, .ref q_sheetLength, .ref q_numbers])), (q_errors, .inl (c 0, 6, .inl v_errors)), (q_now, .inr (7, [.ref q_now_wall, .int v_now_tools, .ref q_now_kind, .ref q_now_m, .ref q_now_tape, .int v_now_tapeLength, .ref q_now_moved, .ref q_now_seen, .int v_now_z, .ref q_now_told, .int v_now_waiting])), (q_now_wall, .inr (10, [.int v_now_wall_rows, .int v_now_wall_columns, .ref q_now_wall_air, .ref q_now_wall_paste, .ref q_now_wall_open, .int v_now_wall_holes, .int v_now_wall_out, .int v_now_wall_night, .ref q_now_wall_met, .ref q_now_wall_line, .int v_now_wall_inLine])), (q_now_wall_air, .inl (c 0, 25, .inl w_82)), (q_numbers, .inl (c 2, 4, .inr (.inr (.inr (.inr (fun j => some (na j))))))), (q_sheetBits, .inl (c 0, 4, .inl v_sheetBits)), (q_sheetLength, .inl (c 0, 4, .inl v_sheetLength)), (na 0, .inl (c 0, 40, .inl (v_numbers_el 0))), (na 1, .inl (c 0, 40, .inl (v_numbers_el 1))), (na 2, .inl (c 0, 40, .inl (v_numbers_el 2))), (na 3, .inl (c 0, 40, .inl (v_numbers_el 3)))] := by subst ew_82; exact hD
            replace h := nm_ok h
            obtain ⟨t_83, et_83, h⟩ := h
            refine lv_iinc (v := t_83) (lv' := [(3, .int t_83), (0, .ref q_this), (1, .int 2), (2, .int x2)]) hx hb dX11_airs_91 hl (k := 3) rfl (by rw [et_83]; rfl) (by decide) rfl (fun ls hl => ?_)
            refine lv_goto (tgt := 49) hx hb dX11_airs_94 (by decide) ?_
            exact ih x2 t_83 v_errors w_82 H locs hP hD hS ls (lv_sub hl [1, 2, 3, 0] rfl) h
        · refine lv_iload_n hx hb dX11_airs_60 rfl (lv_at hl 3 rfl) ?_
          replace h := chi_ok h
          obtain ⟨hi_84, h⟩ := h
          refine va_iald hx hb hK.1 hP 11 0 rfl rfl hi_84 dX11_airs_61 ?_
          replace h := nm_ok h
          obtain ⟨t_85, et_85, h⟩ := h
          refine gTop et_85 ?_
          refine lv_iconst (v := 0) hx hb dX11_airs_62 (by decide) ?_
          refine lv_bipush (v := 99) hx hb dX11_airs_63 (by decide) ?_
          replace h := kb_ok h
          obtain ⟨r_87, hc_86, h⟩ := h
          refine gCallIr (isC := []) (wc := []) hP hD hS hA trivial (va_runS (rm := rm_X11_within) (ws := wsX11_within) (As := [.int t_85, .int 0, .int 99]) (rest := []) (gFix hF) (c_X11_within l D c t_85 0 99 r_87 hc_86 H.size) (va_cwS 3 hts gX11_airs_X11_within rfl rfl rfl (by decide +kernel) ⟨Nat.le_of_ble_eq_true rfl, Nat.le_of_ble_eq_true rfl⟩) (gPreS (wc := []) (isC := []) hK hX hS hA hP hD trivial (by decide +kernel)) rfl rfl hl.1 rfl (lv_room (Nat.le_of_ble_eq_true rfl)) dX11_airs_65 ⟨Nat.le_of_ble_eq_true rfl, Nat.le_of_ble_eq_true rfl⟩) (fun H locs hP hS => ?_)
          refine lv_if_eq (tgt := 97) hx hb dX11_airs_68 (by decide) (fun c_88 => ?_) (fun c_88 => ?_)
          · replace h := it_t c_88 h
            refine lv_iload_n hx hb dX11_airs_97 rfl (lv_at hl 3 rfl) ?_
            replace h := so3 h
            obtain ⟨z0, z1, z2⟩ := h
            subst z0 z1 z2
            exact gIret hF hP hD hS rfl dX11_airs_98
          · replace h := it_f c_88 h
            refine lv_aload_n hx hb dX11_airs_71 rfl (lv_at hl 0 rfl) ?_
            refine va_get (D := D) (ci := 11) (v := .ref q_now) (C := RX11) (T := TX11) (N := 11) hx hb hts in_X11_airs_X11 hown hK.1 hP 0 rfl rfl 0 (by decide) (hts (.fieldLink RX11 14 "PaperBubbles" "now" "LPaperBubbles$State;") (List.mem_of_getElem? (i := 2) rfl)) (fun _ h9 => h9) rfl dX11_airs_72 ?_
            refine va_getN (D := D) (ci := 7) (v := .ref q_now_wall) (C := RX7) (T := TX7) (N := 11) hx hb hts in_X11_airs_X7 hown hK.1 hP 2 rfl rfl 0 (by decide) (va_Nw.use rfl (hK.2 (.fieldLinkNest "PaperBubbles" 86 "PaperBubbles$State" "wall" "LPaperBubbles$Wall;" "PaperBubbles") (List.mem_of_getElem? (i := 18) rfl))) (fun _ h9 => h9) rfl dX11_airs_75 ?_
            refine va_getN (D := D) (ci := 10) (v := .ref q_now_wall_air) (C := RX10) (T := TX10) (N := 11) hx hb hts in_X11_airs_X10 hown hK.1 hP 3 rfl rfl 2 (by decide) (va_Nw.use rfl (hK.2 (.fieldLinkNest "PaperBubbles" 101 "PaperBubbles$Wall" "air" "[I" "PaperBubbles") (List.mem_of_getElem? (i := 0) rfl))) (fun _ h9 => h9) rfl dX11_airs_78 ?_
            refine lv_iload_n hx hb dX11_airs_81 rfl (lv_at hl 3 rfl) ?_
            refine lv_aload_n hx hb dX11_airs_82 rfl (lv_at hl 0 rfl) ?_
            refine va_get (D := D) (ci := 11) (v := .ref q_numbers) (C := RX11) (T := TX11) (N := 11) hx hb hts in_X11_airs_X11 hown hK.1 hP 0 rfl rfl 10 (by decide) (hts (.fieldLink RX11 75 "PaperBubbles" "numbers" "[[I") (List.mem_of_getElem? (i := 7) rfl)) (fun _ h9 => h9) rfl dX11_airs_83 ?_
            refine lv_iload_n hx hb dX11_airs_86 rfl (lv_at hl 1 rfl) ?_
            replace h := chi_ok h
            obtain ⟨hi_89, h⟩ := h
            refine gAldA hx hb hK.1 hP 5 2 rfl rfl hi_89 dX11_airs_87 ?_
            refine lv_iload_n hx hb dX11_airs_88 rfl (lv_at hl 3 rfl) ?_
            replace h := chi_ok h
            obtain ⟨hi_90, h⟩ := h
            refine va_iald hx hb hK.1 hP 11 0 rfl rfl hi_90 dX11_airs_89 ?_
            replace h := nm_ok h
            obtain ⟨t_91, et_91, h⟩ := h
            refine gTop et_91 ?_
            replace h := chi_ok h
            obtain ⟨hi_92, h⟩ := h
            replace h := nm_ok h
            obtain ⟨w_93, ew_93, h⟩ := h
            refine va_iast hx hb hK.1 hP hD hS 4 0 rfl rfl hi_92 dX11_airs_90 (fun H locs hP hD hS => ?_)
            have hP : va_P D gcl [(q_this, .inr (11, [.ref q_now, .ref q_kept, .int v_images, .ref q_kinds, .ref q_voice, .ref q_thought, .ref q_further, .ref q_errors, .ref q_sheetBits, .ref q_sheetLength, .ref q_numbers])), (q_errors, .inl (c 0, 6, .inl v_errors)), (q_now, .inr (7, [.ref q_now_wall, .int v_now_tools, .ref q_now_kind, .ref q_now_m, .ref q_now_tape, .int v_now_tapeLength, .ref q_now_moved, .ref q_now_seen, .int v_now_z, .ref q_now_told, .int v_now_waiting])), (q_now_wall, .inr (10, [.int v_now_wall_rows, .int v_now_wall_columns, .ref q_now_wall_air, .ref q_now_wall_paste, .ref q_now_wall_open, .int v_now_wall_holes, .int v_now_wall_out, .int v_now_wall_night, .ref q_now_wall_met, .ref q_now_wall_line, .int v_now_wall_inLine])), (q_now_wall_air, .inl (c 0, 25, .inl w_93)), (q_numbers, .inl (c 2, 4, .inr (.inr (.inr (.inr (fun j => some (na j))))))), (q_sheetBits, .inl (c 0, 4, .inl v_sheetBits)), (q_sheetLength, .inl (c 0, 4, .inl v_sheetLength)), (na 0, .inl (c 0, 40, .inl (v_numbers_el 0))), (na 1, .inl (c 0, 40, .inl (v_numbers_el 1))), (na 2, .inl (c 0, 40, .inl (v_numbers_el 2))), (na 3, .inl (c 0, 40, .inl (v_numbers_el 3)))] H := by subst ew_93; exact hP
            have hD : va_D A [(q_this, .inr (11, [.ref q_now, .ref q_kept, .int v_images, .ref q_kinds, .ref q_voice, .ref q_thought, .ref q_further, .ref q_errors, .ref q_sheetBits, .ref q_sheetLength, .ref q_numbers])), (q_errors, .inl (c 0, 6, .inl v_errors)), (q_now, .inr (7, [.ref q_now_wall, .int v_now_tools, .ref q_now_kind, .ref q_now_m, .ref q_now_tape, .int v_now_tapeLength, .ref q_now_moved, .ref q_now_seen, .int v_now_z, .ref q_now_told, .int v_now_waiting])), (q_now_wall, .inr (10, [.int v_now_wall_rows, .int v_now_wall_columns, .ref q_now_wall_air, .ref q_now_wall_paste, .ref q_now_wall_open, .int v_now_wall_holes, .int v_now_wall_out, .int v_now_wall_night, .ref q_now_wall_met, .ref q_now_wall_line, .int v_now_wall_inLine])), (q_now_wall_air, .inl (c 0, 25, .inl w_93)), (q_numbers, .inl (c 2, 4, .inr (.inr (.inr (.inr (fun j => some (na j))))))), (q_sheetBits, .inl (c 0, 4, .inl v_sheetBits)), (q_sheetLength, .inl (c 0, 4, .inl v_sheetLength)), (na 0, .inl (c 0, 40, .inl (v_numbers_el 0))), (na 1, .inl (c 0, 40, .inl (v_numbers_el 1))), (na 2, .inl (c 0, 40, .inl (v_numbers_el 2))), (na 3, .inl (c 0, 40, .inl (v_numbers_el 3)))] := by subst ew_93; exact hD
            replace h := nm_ok h
            obtain ⟨t_94, et_94, h⟩ := h
            refine lv_iinc (v := t_94) (lv' := [(3, .int t_94), (0, .ref q_this), (1, .int 3), (2, .int x2)]) hx hb dX11_airs_91 hl (k := 3) rfl (by rw [et_94]; rfl) (by decide) rfl (fun ls hl => ?_)
            refine lv_goto (tgt := 49) hx hb dX11_airs_94 (by decide) ?_
            exact ih x2 t_94 v_errors w_93 H locs hP hD hS ls (lv_sub hl [1, 2, 3, 0] rfl) h
  unfold f_X11_airs at h
  refine lv_iload_n hx hb dX11_airs_0 rfl (lv_at hl 1 rfl) ?_
  replace h := kb_ok h
  obtain ⟨r_2, hc_1, h⟩ := h
  refine gCallIr (isC := []) (wc := []) hP hD hS hA trivial (va_runS (rm := rm_X11_isSheet) (ws := wsX11_isSheet) (As := [.int a_1]) (rest := []) (gFix hF) (c_X11_isSheet l D c a_1 r_2 hc_1 s.heap.size) (va_cwS 1 hts gX11_airs_X11_isSheet rfl rfl rfl (by decide +kernel) ⟨Nat.le_of_ble_eq_true rfl, Nat.le_of_ble_eq_true rfl⟩) (gPreS (wc := []) (isC := []) hK hX hS hA hP hD trivial (by decide +kernel)) rfl rfl hl.1 rfl (lv_room (Nat.le_of_ble_eq_true rfl)) dX11_airs_1 ⟨Nat.le_of_ble_eq_true rfl, Nat.le_of_ble_eq_true rfl⟩) (fun H locs hP hS => ?_)
  refine lv_if_ne (tgt := 13) hx hb dX11_airs_4 (by decide) (fun c_3 => ?_) (fun c_3 => ?_)
  · replace h := it_f c_3 h
    refine lv_aload_n hx hb dX11_airs_13 rfl (lv_at hl 0 rfl) ?_
    refine lv_iload_n hx hb dX11_airs_14 rfl (lv_at hl 1 rfl) ?_
    replace h := kb_ok h
    obtain ⟨r_5, hc_4, h⟩ := h
    refine gCallIr (isC := [0, 6]) (wc := [(q_this, .inr (11, [.ref q_now, .ref q_kept, .int v_images, .ref q_kinds, .ref q_voice, .ref q_thought, .ref q_further, .ref q_errors, .ref q_sheetBits, .ref q_sheetLength, .ref q_numbers])), (q_sheetBits, .inl (c 0, 4, .inl v_sheetBits))]) hP hD hS hA ⟨rfl, rfl, trivial⟩ (va_runV (rm := rm_X11_isMissing) (ws := wsX11_isMissing) (As := [.int a_1]) (rest := []) (gFix hF) (c_X11_isMissing l D c q_this q_now q_kept q_kinds q_voice q_thought q_further q_errors q_sheetBits q_sheetLength q_numbers a_1 v_images v_sheetBits r_5 hc_4 H.size) (cwV 1 hts gX11_airs_X11_isMissing rfl rfl rfl (by decide +kernel) ⟨Nat.le_of_ble_eq_true rfl, Nat.le_of_ble_eq_true rfl⟩) (gPreV (wc := [(q_this, .inr (11, [.ref q_now, .ref q_kept, .int v_images, .ref q_kinds, .ref q_voice, .ref q_thought, .ref q_further, .ref q_errors, .ref q_sheetBits, .ref q_sheetLength, .ref q_numbers])), (q_sheetBits, .inl (c 0, 4, .inl v_sheetBits))]) (q := (RX11, TX11, 11)) (ci := 11) (q0 := 0) (isC := [0, 6]) hK hX hS hA hP hD ⟨rfl, rfl, trivial⟩ (by decide +kernel) rfl rfl) rfl rfl hl.1 rfl (lv_room (Nat.le_of_ble_eq_true rfl)) dX11_airs_15 ⟨Nat.le_of_ble_eq_true rfl, Nat.le_of_ble_eq_true rfl⟩) (fun H locs hP hS => ?_)
    refine lv_if_eq (tgt := 27) hx hb dX11_airs_18 (by decide) (fun c_6 => ?_) (fun c_6 => ?_)
    · replace h := it_t c_6 h
      refine lv_aload_n hx hb dX11_airs_27 rfl (lv_at hl 0 rfl) ?_
      refine va_get (D := D) (ci := 11) (v := .ref q_sheetLength) (C := RX11) (T := TX11) (N := 11) hx hb hts in_X11_airs_X11 hown hK.1 hP 0 rfl rfl 9 (by decide) (hts (.fieldLink RX11 70 "PaperBubbles" "sheetLength" "[I") (List.mem_of_getElem? (i := 1) rfl)) (fun _ h9 => h9) rfl dX11_airs_28 ?_
      refine lv_iload_n hx hb dX11_airs_31 rfl (lv_at hl 1 rfl) ?_
      replace h := chi_ok h
      obtain ⟨hi_7, h⟩ := h
      refine va_iald hx hb hK.1 hP 7 0 rfl rfl hi_7 dX11_airs_32 ?_
      replace h := nm_ok h
      obtain ⟨t_8, et_8, h⟩ := h
      refine gTop et_8 ?_
      refine lv_aload_n hx hb dX11_airs_33 rfl (lv_at hl 0 rfl) ?_
      refine va_get (D := D) (ci := 11) (v := .ref q_now) (C := RX11) (T := TX11) (N := 11) hx hb hts in_X11_airs_X11 hown hK.1 hP 0 rfl rfl 0 (by decide) (hts (.fieldLink RX11 14 "PaperBubbles" "now" "LPaperBubbles$State;") (List.mem_of_getElem? (i := 2) rfl)) (fun _ h9 => h9) rfl dX11_airs_34 ?_
      refine va_getN (D := D) (ci := 7) (v := .ref q_now_wall) (C := RX7) (T := TX7) (N := 11) hx hb hts in_X11_airs_X7 hown hK.1 hP 2 rfl rfl 0 (by decide) (va_Nw.use rfl (hK.2 (.fieldLinkNest "PaperBubbles" 86 "PaperBubbles$State" "wall" "LPaperBubbles$Wall;" "PaperBubbles") (List.mem_of_getElem? (i := 18) rfl))) (fun _ h9 => h9) rfl dX11_airs_37 ?_
      replace h := kb_ok h
      obtain ⟨r_10, hc_9, h⟩ := h
      refine gCallIr (isC := [3]) (wc := [(q_now_wall, .inr (10, [.int v_now_wall_rows, .int v_now_wall_columns, .ref q_now_wall_air, .ref q_now_wall_paste, .ref q_now_wall_open, .int v_now_wall_holes, .int v_now_wall_out, .int v_now_wall_night, .ref q_now_wall_met, .ref q_now_wall_line, .int v_now_wall_inLine]))]) hP hD hS hA ⟨rfl, trivial⟩ (va_runV (rm := rm_X10_cells) (ws := wsX10_cells) (As := []) (rest := [.int t_8]) (gFix hF) (c_X10_cells l D c q_now_wall q_now_wall_air q_now_wall_paste q_now_wall_open q_now_wall_met q_now_wall_line v_now_wall_rows v_now_wall_columns v_now_wall_holes v_now_wall_out v_now_wall_night v_now_wall_inLine r_10 hc_9 H.size) (cwV 0 hts gX11_airs_X10_cells rfl rfl rfl (by decide +kernel) ⟨Nat.le_of_ble_eq_true rfl, Nat.le_of_ble_eq_true rfl⟩) (gPreV (wc := [(q_now_wall, .inr (10, [.int v_now_wall_rows, .int v_now_wall_columns, .ref q_now_wall_air, .ref q_now_wall_paste, .ref q_now_wall_open, .int v_now_wall_holes, .int v_now_wall_out, .int v_now_wall_night, .ref q_now_wall_met, .ref q_now_wall_line, .int v_now_wall_inLine]))]) (q := (RX10, TX10, 11)) (ci := 10) (q0 := 3) (isC := [3]) hK hX hS hA hP hD ⟨rfl, trivial⟩ (by decide +kernel) rfl rfl) rfl rfl hl.1 rfl (lv_room (Nat.le_of_ble_eq_true rfl)) dX11_airs_40 ⟨Nat.le_of_ble_eq_true rfl, Nat.le_of_ble_eq_true rfl⟩) (fun H locs hP hS => ?_)
      refine va_mmin hx hb (by rw [hml]; exact hl.1.symm) hown (hts (.methodLink RX11 158 Lib.Math.min.name) (List.mem_of_getElem? (i := 3) rfl)) (hts (.static Lib.Math.min.name) (List.mem_of_getElem? (i := 4) rfl)) (hts (.initialized "java/lang/Math") (List.mem_of_getElem? (i := 5) rfl)) (hts (.code Lib.Math.min.name Lib.Math.min.code 2 (some .int)) (List.mem_of_getElem? (i := 6) rfl)) (Nat.le_of_ble_eq_true rfl) (by first | exact Nat.le_of_ble_eq_true rfl | decide) (Nat.le_of_ble_eq_true rfl) (Nat.le_of_ble_eq_true rfl) dX11_airs_43 ?_
      replace h := nm_ok h
      obtain ⟨t_11, et_11, h⟩ := h
      refine gTop et_11 ?_
      refine lv_istore_n (lv' := [(2, .int t_11), (0, .ref q_this), (1, .int a_1)]) hx hb dX11_airs_46 rfl hl (by decide) rfl (fun ls hl => ?_)
      refine lv_iconst (v := 0) hx hb dX11_airs_47 (by decide) ?_
      refine lv_istore_n (lv' := [(3, .int 0), (2, .int t_11), (0, .ref q_this), (1, .int a_1)]) hx hb dX11_airs_48 rfl hl (by decide) rfl (fun ls hl => ?_)
      exact t_L49 gFuel t_11 0 v_errors v_now_wall_air H locs hP hD hS ls (lv_sub hl [2, 3, 1, 0] rfl) h
    · replace h := it_f c_6 h
      refine lv_aload_n hx hb dX11_airs_21 rfl (lv_at hl 0 rfl) ?_
      refine lv_iconst (v := 2) hx hb dX11_airs_22 (by decide) ?_
      replace h := kb2_ok h
      obtain ⟨r_13, w_14, hc_12, h⟩ := h
      refine gCallI (isC := [0, 1]) (wc := [(q_this, .inr (11, [.ref q_now, .ref q_kept, .int v_images, .ref q_kinds, .ref q_voice, .ref q_thought, .ref q_further, .ref q_errors, .ref q_sheetBits, .ref q_sheetLength, .ref q_numbers])), (q_errors, .inl (c 0, 6, .inl v_errors))]) (w1 := [(q_this, .inr (11, [.ref q_now, .ref q_kept, .int v_images, .ref q_kinds, .ref q_voice, .ref q_thought, .ref q_further, .ref q_errors, .ref q_sheetBits, .ref q_sheetLength, .ref q_numbers])), (q_errors, .inl (c 0, 6, .inl w_14))]) (ws2 := [(q_this, .inr (11, [.ref q_now, .ref q_kept, .int v_images, .ref q_kinds, .ref q_voice, .ref q_thought, .ref q_further, .ref q_errors, .ref q_sheetBits, .ref q_sheetLength, .ref q_numbers])), (q_errors, .inl (c 0, 6, .inl w_14)), (q_now, .inr (7, [.ref q_now_wall, .int v_now_tools, .ref q_now_kind, .ref q_now_m, .ref q_now_tape, .int v_now_tapeLength, .ref q_now_moved, .ref q_now_seen, .int v_now_z, .ref q_now_told, .int v_now_waiting])), (q_now_wall, .inr (10, [.int v_now_wall_rows, .int v_now_wall_columns, .ref q_now_wall_air, .ref q_now_wall_paste, .ref q_now_wall_open, .int v_now_wall_holes, .int v_now_wall_out, .int v_now_wall_night, .ref q_now_wall_met, .ref q_now_wall_line, .int v_now_wall_inLine])), (q_now_wall_air, .inl (c 0, 25, .inl v_now_wall_air)), (q_numbers, .inl (c 2, 4, .inr (.inr (.inr (.inr (fun j => some (na j))))))), (q_sheetBits, .inl (c 0, 4, .inl v_sheetBits)), (q_sheetLength, .inl (c 0, 4, .inl v_sheetLength)), (na 0, .inl (c 0, 40, .inl (v_numbers_el 0))), (na 1, .inl (c 0, 40, .inl (v_numbers_el 1))), (na 2, .inl (c 0, 40, .inl (v_numbers_el 2))), (na 3, .inl (c 0, 40, .inl (v_numbers_el 3)))]) (ms := [(some 0), (some 1), none, none, none, none, none, none, none, none, none, none]) hP hD hS hA ⟨rfl, rfl, trivial⟩ (by decide +kernel) ⟨rfl, rfl, rfl, rfl, rfl, rfl, rfl, rfl, rfl, rfl, rfl, rfl, trivial⟩ (va_runV (rm := rm_X11_error) (ws := wsX11_error) (As := [.int 2]) (rest := []) (gFix hF) (c_X11_error l D c q_this q_now q_kept q_kinds q_voice q_thought q_further q_errors q_sheetBits q_sheetLength q_numbers 2 v_images v_errors r_13 w_14 hc_12 H.size) (cwV 1 hts gX11_airs_X11_error rfl rfl rfl (by decide +kernel) ⟨Nat.le_of_ble_eq_true rfl, Nat.le_of_ble_eq_true rfl⟩) (gPreV (wc := [(q_this, .inr (11, [.ref q_now, .ref q_kept, .int v_images, .ref q_kinds, .ref q_voice, .ref q_thought, .ref q_further, .ref q_errors, .ref q_sheetBits, .ref q_sheetLength, .ref q_numbers])), (q_errors, .inl (c 0, 6, .inl v_errors))]) (q := (RX11, TX11, 11)) (ci := 11) (q0 := 0) (isC := [0, 1]) hK hX hS hA hP hD ⟨rfl, rfl, trivial⟩ (by decide +kernel) rfl rfl) rfl rfl hl.1 rfl (lv_room (Nat.le_of_ble_eq_true rfl)) dX11_airs_23 ⟨Nat.le_of_ble_eq_true rfl, Nat.le_of_ble_eq_true rfl⟩) (fun H locs hP hD hS => ?_)
      replace h := so3 h
      obtain ⟨z0, z1, z2⟩ := h
      subst z0 z1 z2
      exact gIret hF hP hD hS rfl dX11_airs_26
  · replace h := it_t c_3 h
    refine lv_aload_n hx hb dX11_airs_7 rfl (lv_at hl 0 rfl) ?_
    refine lv_iconst (v := 1) hx hb dX11_airs_8 (by decide) ?_
    replace h := kb2_ok h
    obtain ⟨r_16, w_17, hc_15, h⟩ := h
    refine gCallI (isC := [0, 1]) (wc := [(q_this, .inr (11, [.ref q_now, .ref q_kept, .int v_images, .ref q_kinds, .ref q_voice, .ref q_thought, .ref q_further, .ref q_errors, .ref q_sheetBits, .ref q_sheetLength, .ref q_numbers])), (q_errors, .inl (c 0, 6, .inl v_errors))]) (w1 := [(q_this, .inr (11, [.ref q_now, .ref q_kept, .int v_images, .ref q_kinds, .ref q_voice, .ref q_thought, .ref q_further, .ref q_errors, .ref q_sheetBits, .ref q_sheetLength, .ref q_numbers])), (q_errors, .inl (c 0, 6, .inl w_17))]) (ws2 := [(q_this, .inr (11, [.ref q_now, .ref q_kept, .int v_images, .ref q_kinds, .ref q_voice, .ref q_thought, .ref q_further, .ref q_errors, .ref q_sheetBits, .ref q_sheetLength, .ref q_numbers])), (q_errors, .inl (c 0, 6, .inl w_17)), (q_now, .inr (7, [.ref q_now_wall, .int v_now_tools, .ref q_now_kind, .ref q_now_m, .ref q_now_tape, .int v_now_tapeLength, .ref q_now_moved, .ref q_now_seen, .int v_now_z, .ref q_now_told, .int v_now_waiting])), (q_now_wall, .inr (10, [.int v_now_wall_rows, .int v_now_wall_columns, .ref q_now_wall_air, .ref q_now_wall_paste, .ref q_now_wall_open, .int v_now_wall_holes, .int v_now_wall_out, .int v_now_wall_night, .ref q_now_wall_met, .ref q_now_wall_line, .int v_now_wall_inLine])), (q_now_wall_air, .inl (c 0, 25, .inl v_now_wall_air)), (q_numbers, .inl (c 2, 4, .inr (.inr (.inr (.inr (fun j => some (na j))))))), (q_sheetBits, .inl (c 0, 4, .inl v_sheetBits)), (q_sheetLength, .inl (c 0, 4, .inl v_sheetLength)), (na 0, .inl (c 0, 40, .inl (v_numbers_el 0))), (na 1, .inl (c 0, 40, .inl (v_numbers_el 1))), (na 2, .inl (c 0, 40, .inl (v_numbers_el 2))), (na 3, .inl (c 0, 40, .inl (v_numbers_el 3)))]) (ms := [(some 0), (some 1), none, none, none, none, none, none, none, none, none, none]) hP hD hS hA ⟨rfl, rfl, trivial⟩ (by decide +kernel) ⟨rfl, rfl, rfl, rfl, rfl, rfl, rfl, rfl, rfl, rfl, rfl, rfl, trivial⟩ (va_runV (rm := rm_X11_error) (ws := wsX11_error) (As := [.int 1]) (rest := []) (gFix hF) (c_X11_error l D c q_this q_now q_kept q_kinds q_voice q_thought q_further q_errors q_sheetBits q_sheetLength q_numbers 1 v_images v_errors r_16 w_17 hc_15 H.size) (cwV 1 hts gX11_airs_X11_error rfl rfl rfl (by decide +kernel) ⟨Nat.le_of_ble_eq_true rfl, Nat.le_of_ble_eq_true rfl⟩) (gPreV (wc := [(q_this, .inr (11, [.ref q_now, .ref q_kept, .int v_images, .ref q_kinds, .ref q_voice, .ref q_thought, .ref q_further, .ref q_errors, .ref q_sheetBits, .ref q_sheetLength, .ref q_numbers])), (q_errors, .inl (c 0, 6, .inl v_errors))]) (q := (RX11, TX11, 11)) (ci := 11) (q0 := 0) (isC := [0, 1]) hK hX hS hA hP hD ⟨rfl, rfl, trivial⟩ (by decide +kernel) rfl rfl) rfl rfl hl.1 rfl (lv_room (Nat.le_of_ble_eq_true rfl)) dX11_airs_9 ⟨Nat.le_of_ble_eq_true rfl, Nat.le_of_ble_eq_true rfl⟩) (fun H locs hP hD hS => ?_)
    replace h := so3 h
    obtain ⟨z0, z1, z2⟩ := h
    subst z0 z1 z2
    exact gIret hF hP hD hS rfl dX11_airs_12
