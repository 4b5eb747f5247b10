abbrev rm_X3_named : Room := { frames := 0, cells := 0, slots := 0, locals := 0 }
set_option maxHeartbeats 4000000 in
set_option maxRecDepth 100000 in
theorem c_X3_named (l : Launch) (D : va_G) (c : Nat → ClassId) (a_0 : Int32) (a_1 : Int32) (a_2 : Int32) (a_3 : Int32) (o_r : Int32) (h : f_X3_named a_0 a_1 a_2 a_3 = some o_r) : gMI l yX3_named wsX3_named rm_X3_named D c [.int a_0, .int a_1, .int a_2, .int a_3] [] [] o_r := by
  refine gMI_of (cc := cX3_named) (maxL := 4) (rt := (some .int)) (by decide +kernel) rfl (Nat.le_of_ble_eq_true rfl) ?_
  intro p e s m below meth co A hF hK hX hP hD hA hS ls hl
  obtain ⟨hx, hb, hr, hts, hown, hlocks, hml⟩ := id hF
  have hl : lv_has ls 4 [(0, .int a_0), (1, .int a_1), (2, .int a_2), (3, .int a_3)] := hl
  unfold f_X3_named at h
  refine lv_iload_n hx hb dX3_named_0 rfl (lv_at hl 0 rfl) ?_
  refine lv_iconst (v := (-1)) hx hb dX3_named_1 (by decide) ?_
  refine lv_icmp_ne (tgt := 7) hx hb dX3_named_2 (by decide) (fun c_1 => ?_) (fun c_1 => ?_)
  · replace h := it_f c_1 h
    refine lv_iload_n hx hb dX3_named_7 rfl (lv_at hl 0 rfl) ?_
    refine lv_bipush (v := (-2)) hx hb dX3_named_8 (by decide) ?_
    refine lv_icmp_ne (tgt := 17) hx hb dX3_named_10 (by decide) (fun c_2 => ?_) (fun c_2 => ?_)
    · replace h := it_f c_2 h
      refine lv_iload_n hx hb dX3_named_17 rfl (lv_at hl 3 rfl) ?_
      replace h := so1 h
      subst h
      exact gIret hF hP hD hS rfl dX3_named_18
    · replace h := it_t c_2 h
      refine lv_iload_n hx hb dX3_named_13 rfl (lv_at hl 2 rfl) ?_
      refine lv_goto (tgt := 18) hx hb dX3_named_14 (by decide) ?_
      replace h := so1 h
      subst h
      exact gIret hF hP hD hS rfl dX3_named_18
  · replace h := it_t c_1 h
    refine lv_iload_n hx hb dX3_named_5 rfl (lv_at hl 1 rfl) ?_
    replace h := so1 h
    subst h
    exact gIret hF hP hD hS rfl dX3_named_6
set_option maxRecDepth 20000 in
theorem in_X3_worksOut_X3 : ∀ w ∈ u_ws RX3 TX3 14, w ∈ wsX3_worksOut := by decide +kernel
abbrev rm_X3_worksOut : Room := { frames := 1, cells := 0, slots := 0, locals := 23 }
set_option maxHeartbeats 4000000 in
set_option maxRecDepth 100000 in
theorem c_X3_worksOut (l : Launch) (D : va_G) (c : Nat → ClassId) (q_this q_steps q_stack q_answers q_draft q_held : Nat) (s_names : Nat) (a_1 : Int32) (a_2 : Int32) (a_3 : Int32) (v_length : Int32) (v_side : Int32) (v_round : Int32) (v_drafted : Int32) (v_holding : Int32) (v_open : Int32) (v_digits : Int32) (v_wantsOperand : Int32) (v_stack : Nat → Int32) (v_steps : Nat → Int32) (o_r : Int32) (o_v_stack : Nat → Int32) (h : f_X3_worksOut a_1 a_2 a_3 v_length v_stack v_steps = some (o_r, o_v_stack)) : gMI l yX3_worksOut wsX3_worksOut rm_X3_worksOut D c [.ref q_this, .int a_1, .int a_2, .int a_3] [(q_this, .inr (3, [.ref (c (10 + s_names)), .ref q_steps, .int v_length, .ref q_stack, .ref q_answers, .int v_side, .int v_round, .ref q_draft, .int v_drafted, .ref q_held, .int v_holding, .int v_open, .int v_digits, .int v_wantsOperand])), (q_stack, .inl (c 0, 50, .inl v_stack)), (q_steps, .inl (c 0, 50, .inl v_steps))] [(q_this, .inr (3, [.ref (c (10 + s_names)), .ref q_steps, .int v_length, .ref q_stack, .ref q_answers, .int v_side, .int v_round, .ref q_draft, .int v_drafted, .ref q_held, .int v_holding, .int v_open, .int v_digits, .int v_wantsOperand])), (q_stack, .inl (c 0, 50, .inl o_v_stack)), (q_steps, .inl (c 0, 50, .inl v_steps))] o_r := by
  refine gMI_of (cc := cX3_worksOut) (maxL := 7) (rt := (some .int)) (by decide +kernel) rfl (Nat.le_of_ble_eq_true rfl) ?_
  intro p e s m below meth co A hF hK hX hP hD hA hS ls hl
  obtain ⟨hx, hb, hr, hts, hown, hlocks, hml⟩ := id hF
  have hl : lv_has ls 7 [(0, .ref q_this), (1, .int a_1), (2, .int a_2), (3, .int a_3)] := hl
  have t_L163 : ∀ (v_stack : Nat → Int32) (H : Heap) (locs : List Loc), va_P D gcl [(q_this, .inr (3, [.ref (c (10 + s_names)), .ref q_steps, .int v_length, .ref q_stack, .ref q_answers, .int v_side, .int v_round, .ref q_draft, .int v_drafted, .ref q_held, .int v_holding, .int v_open, .int v_digits, .int v_wantsOperand])), (q_stack, .inl (c 0, 50, .inl v_stack)), (q_steps, .inl (c 0, 50, .inl v_steps))] H → va_D A [(q_this, .inr (3, [.ref (c (10 + s_names)), .ref q_steps, .int v_length, .ref q_stack, .ref q_answers, .int v_side, .int v_round, .ref q_draft, .int v_drafted, .ref q_held, .int v_holding, .int v_open, .int v_digits, .int v_wantsOperand])), (q_stack, .inl (c 0, 50, .inl v_stack)), (q_steps, .inl (c 0, 50, .inl v_steps))] → va_S A s.heap H locs → ∀ ls, lv_has ls 7 [(0, .ref q_this)] → f_X3_worksOut_L163 v_stack = some (o_r, o_v_stack) → W p l e (headSpec wsX3_worksOut rm_X3_worksOut).room s m [.ref q_this, .int a_1, .int a_2, .int a_3].toArray below meth co H locs 0 0 (gQI D [(q_this, .inr (3, [.ref (c (10 + s_names)), .ref q_steps, .int v_length, .ref q_stack, .ref q_answers, .int v_side, .int v_round, .ref q_draft, .int v_drafted, .ref q_held, .int v_holding, .int v_open, .int v_digits, .int v_wantsOperand])), (q_stack, .inl (c 0, 50, .inl o_v_stack)), (q_steps, .inl (c 0, 50, .inl v_steps))] o_r A below [.ref q_this, .int a_1, .int a_2, .int a_3] s) (F0 m 163 ls []) := by
    intro  v_stack H locs hP hD hS ls hl h
    unfold f_X3_worksOut_L163 at h
    refine lv_iconst (v := 0) hx hb dX3_worksOut_163 (by decide) ?_
    refine lv_bipush (v := 99) hx hb dX3_worksOut_164 (by decide) ?_
    refine lv_aload_n hx hb dX3_worksOut_166 rfl (lv_at hl 0 rfl) ?_
    refine va_get (D := D) (ci := 3) (v := .ref q_stack) (C := RX3) (T := TX3) (N := 14) hx hb hts in_X3_worksOut_X3 hown hK.1 hP 0 rfl rfl 3 (by decide) (hts (.fieldLink RX3 15 "PaperBubbles$Law" "stack" "[I") (List.mem_of_getElem? (i := 3) rfl)) (fun _ h9 => h9) rfl dX3_worksOut_167 ?_
    refine lv_iconst (v := 0) hx hb dX3_worksOut_170 (by decide) ?_
    replace h := chi_ok h
    obtain ⟨hi_18, h⟩ := h
    refine va_iald hx hb hK.1 hP 1 0 rfl rfl hi_18 dX3_worksOut_171 ?_
    replace h := nm_ok h
    obtain ⟨t_19, et_19, h⟩ := h
    refine gTop et_19 ?_
    refine va_mmin hx hb (by rw [hml]; exact hl.1.symm) hown (hts (.methodLink RX3 69 Lib.Math.min.name) (List.mem_of_getElem? (i := 4) rfl)) (hts (.static Lib.Math.min.name) (List.mem_of_getElem? (i := 5) rfl)) (hts (.initialized "java/lang/Math") (List.mem_of_getElem? (i := 6) rfl)) (hts (.code Lib.Math.min.name Lib.Math.min.code 2 (some .int)) (List.mem_of_getElem? (i := 7) rfl)) (Nat.le_of_ble_eq_true rfl) (by first | exact Nat.le_of_ble_eq_true rfl | decide) (Nat.le_of_ble_eq_true rfl) (Nat.le_of_ble_eq_true rfl) dX3_worksOut_172 ?_
    replace h := nm_ok h
    obtain ⟨t_20, et_20, h⟩ := h
    refine gTop et_20 ?_
    refine va_mmax hx hb (by rw [hml]; exact hl.1.symm) hown (hts (.methodLink RX3 75 Lib.Math.max.name) (List.mem_of_getElem? (i := 8) rfl)) (hts (.static Lib.Math.max.name) (List.mem_of_getElem? (i := 9) rfl)) (hts (.initialized "java/lang/Math") (List.mem_of_getElem? (i := 6) rfl)) (hts (.code Lib.Math.max.name Lib.Math.max.code 2 (some .int)) (List.mem_of_getElem? (i := 10) rfl)) (Nat.le_of_ble_eq_true rfl) (by first | exact Nat.le_of_ble_eq_true rfl | decide) (Nat.le_of_ble_eq_true rfl) (Nat.le_of_ble_eq_true rfl) dX3_worksOut_175 ?_
    replace h := nm_ok h
    obtain ⟨t_21, et_21, h⟩ := h
    refine gTop et_21 ?_
    replace h := so2 h
    obtain ⟨z0, z1⟩ := h
    subst z0 z1
    exact gIret hF hP hD hS rfl dX3_worksOut_178
  have t_L117 : ∀ (kk_L6 : Int32 → Int32 → (Nat → Int32) → Option (Int32 × (Nat → Int32))), (∀ (x4 : Int32) (x5 : Int32) (v_stack : Nat → Int32) (H : Heap) (locs : List Loc), va_P D gcl [(q_this, .inr (3, [.ref (c (10 + s_names)), .ref q_steps, .int v_length, .ref q_stack, .ref q_answers, .int v_side, .int v_round, .ref q_draft, .int v_drafted, .ref q_held, .int v_holding, .int v_open, .int v_digits, .int v_wantsOperand])), (q_stack, .inl (c 0, 50, .inl v_stack)), (q_steps, .inl (c 0, 50, .inl v_steps))] H → va_D A [(q_this, .inr (3, [.ref (c (10 + s_names)), .ref q_steps, .int v_length, .ref q_stack, .ref q_answers, .int v_side, .int v_round, .ref q_draft, .int v_drafted, .ref q_held, .int v_holding, .int v_open, .int v_digits, .int v_wantsOperand])), (q_stack, .inl (c 0, 50, .inl v_stack)), (q_steps, .inl (c 0, 50, .inl v_steps))] → va_S A s.heap H locs → ∀ ls, lv_has ls 7 [(0, .ref q_this), (1, .int a_1), (2, .int a_2), (3, .int a_3), (4, .int x4), (5, .int x5)] → kk_L6 x4 x5 v_stack = some (o_r, o_v_stack) → W p l e (headSpec wsX3_worksOut rm_X3_worksOut).room s m [.ref q_this, .int a_1, .int a_2, .int a_3].toArray below meth co H locs 0 0 (gQI D [(q_this, .inr (3, [.ref (c (10 + s_names)), .ref q_steps, .int v_length, .ref q_stack, .ref q_answers, .int v_side, .int v_round, .ref q_draft, .int v_drafted, .ref q_held, .int v_holding, .int v_open, .int v_digits, .int v_wantsOperand])), (q_stack, .inl (c 0, 50, .inl o_v_stack)), (q_steps, .inl (c 0, 50, .inl v_steps))] o_r A below [.ref q_this, .int a_1, .int a_2, .int a_3] s) (F0 m 6 ls [])) → ∀ (x4 : Int32) (x5 : Int32) (x6 : Int32) (v_stack : Nat → Int32) (H : Heap) (locs : List Loc), va_P D gcl [(q_this, .inr (3, [.ref (c (10 + s_names)), .ref q_steps, .int v_length, .ref q_stack, .ref q_answers, .int v_side, .int v_round, .ref q_draft, .int v_drafted, .ref q_held, .int v_holding, .int v_open, .int v_digits, .int v_wantsOperand])), (q_stack, .inl (c 0, 50, .inl v_stack)), (q_steps, .inl (c 0, 50, .inl v_steps))] H → va_D A [(q_this, .inr (3, [.ref (c (10 + s_names)), .ref q_steps, .int v_length, .ref q_stack, .ref q_answers, .int v_side, .int v_round, .ref q_draft, .int v_drafted, .ref q_held, .int v_holding, .int v_open, .int v_digits, .int v_wantsOperand])), (q_stack, .inl (c 0, 50, .inl v_stack)), (q_steps, .inl (c 0, 50, .inl v_steps))] → va_S A s.heap H locs → ∀ ls, lv_has ls 7 [(0, .ref q_this), (1, .int a_1), (2, .int a_2), (3, .int a_3), (4, .int x4), (5, .int x5), (6, .int x6)] → f_X3_worksOut_L117 kk_L6 a_1 a_2 a_3 v_length v_steps x4 x5 x6 v_stack = some (o_r, o_v_stack) → W p l e (headSpec wsX3_worksOut rm_X3_worksOut).room s m [.ref q_this, .int a_1, .int a_2, .int a_3].toArray below meth co H locs 0 0 (gQI D [(q_this, .inr (3, [.ref (c (10 + s_names)), .ref q_steps, .int v_length, .ref q_stack, .ref q_answers, .int v_side, .int v_round, .ref q_draft, .int v_drafted, .ref q_held, .int v_holding, .int v_open, .int v_digits, .int v_wantsOperand])), (q_stack, .inl (c 0, 50, .inl o_v_stack)), (q_steps, .inl (c 0, 50, .inl v_steps))] o_r A below [.ref q_this, .int a_1, .int a_2, .int a_3] s) (F0 m 117 ls []) := by
    intro kk_L6 hkk_L6 x4 x5 x6 v_stack H locs hP hD hS ls hl h
    unfold f_X3_worksOut_L117 at h
    refine lv_iload hx hb dX3_worksOut_117 (lv_at hl 4 rfl) ?_
    refine lv_iconst (v := 1) hx hb dX3_worksOut_119 (by decide) ?_
    refine lv_icmp_le (tgt := 157) hx hb dX3_worksOut_120 (by decide) (fun c_34 => ?_) (fun c_34 => ?_)
    · replace h := it_t c_34 h
      replace h := nm_ok h
      obtain ⟨t_35, et_35, h⟩ := h
      refine lv_iinc (v := t_35) (lv' := [(5, .int t_35), (0, .ref q_this), (1, .int a_1), (2, .int a_2), (3, .int a_3), (4, .int x4), (6, .int x6)]) hx hb dX3_worksOut_157 hl (k := 5) rfl (by rw [et_35]; rfl) (by decide) rfl (fun ls hl => ?_)
      refine lv_goto (tgt := 6) hx hb dX3_worksOut_160 (by decide) ?_
      exact hkk_L6 x4 t_35 v_stack H locs hP hD hS ls (lv_sub hl [1, 2, 3, 4, 5, 0] rfl) h
    · replace h := it_f c_34 h
      replace h := nm_ok h
      obtain ⟨t_36, et_36, h⟩ := h
      refine lv_iinc (v := t_36) (lv' := [(4, .int t_36), (0, .ref q_this), (1, .int a_1), (2, .int a_2), (3, .int a_3), (5, .int x5), (6, .int x6)]) hx hb dX3_worksOut_123 hl (k := 4) rfl (by rw [et_36]; rfl) (by decide) rfl (fun ls hl => ?_)
      refine lv_aload_n hx hb dX3_worksOut_126 rfl (lv_at hl 1 rfl) ?_
      refine va_get (D := D) (ci := 3) (v := .ref q_stack) (C := RX3) (T := TX3) (N := 14) hx hb hts in_X3_worksOut_X3 hown hK.1 hP 0 rfl rfl 3 (by decide) (hts (.fieldLink RX3 15 "PaperBubbles$Law" "stack" "[I") (List.mem_of_getElem? (i := 3) rfl)) (fun _ h9 => h9) rfl dX3_worksOut_127 ?_
      refine lv_iload hx hb dX3_worksOut_130 (lv_at hl 0 rfl) ?_
      refine lv_iconst (v := 1) hx hb dX3_worksOut_132 (by decide) ?_
      refine lv_isub hx hb dX3_worksOut_133 ?_
      replace h := nm_ok h
      obtain ⟨t_37, et_37, h⟩ := h
      refine gTop et_37 ?_
      refine lv_iload hx hb dX3_worksOut_134 (lv_at hl 6 rfl) ?_
      refine lv_ineg hx hb dX3_worksOut_136 ?_
      replace h := nm_ok h
      obtain ⟨t_38, et_38, h⟩ := h
      refine gTop et_38 ?_
      refine lv_aload_n hx hb dX3_worksOut_137 rfl (lv_at hl 1 rfl) ?_
      refine va_get (D := D) (ci := 3) (v := .ref q_stack) (C := RX3) (T := TX3) (N := 14) hx hb hts in_X3_worksOut_X3 hown hK.1 hP 0 rfl rfl 3 (by decide) (hts (.fieldLink RX3 15 "PaperBubbles$Law" "stack" "[I") (List.mem_of_getElem? (i := 3) rfl)) (fun _ h9 => h9) rfl dX3_worksOut_138 ?_
      refine lv_iload hx hb dX3_worksOut_141 (lv_at hl 0 rfl) ?_
      refine lv_iconst (v := 1) hx hb dX3_worksOut_143 (by decide) ?_
      refine lv_isub hx hb dX3_worksOut_144 ?_
      replace h := nm_ok h
      obtain ⟨t_39, et_39, h⟩ := h
      refine gTop et_39 ?_
      replace h := chi_ok h
      obtain ⟨hi_40, h⟩ := h
      refine va_iald hx hb hK.1 hP 1 0 rfl rfl hi_40 dX3_worksOut_145 ?_
      replace h := nm_ok h
      obtain ⟨t_41, et_41, h⟩ := h
      refine gTop et_41 ?_
      refine lv_aload_n hx hb dX3_worksOut_146 rfl (lv_at hl 1 rfl) ?_
      refine va_get (D := D) (ci := 3) (v := .ref q_stack) (C := RX3) (T := TX3) (N := 14) hx hb hts in_X3_worksOut_X3 hown hK.1 hP 0 rfl rfl 3 (by decide) (hts (.fieldLink RX3 15 "PaperBubbles$Law" "stack" "[I") (List.mem_of_getElem? (i := 3) rfl)) (fun _ h9 => h9) rfl dX3_worksOut_147 ?_
      refine lv_iload hx hb dX3_worksOut_150 (lv_at hl 0 rfl) ?_
      replace h := chi_ok h
      obtain ⟨hi_42, h⟩ := h
      refine va_iald hx hb hK.1 hP 1 0 rfl rfl hi_42 dX3_worksOut_152 ?_
      replace h := nm_ok h
      obtain ⟨t_43, et_43, h⟩ := h
      refine gTop et_43 ?_
      replace h := kb_ok h
      obtain ⟨r_45, hc_44, h⟩ := h
      refine gCallIr (isC := []) (wc := []) hP hD hS hA trivial (va_runS (rm := rm_X3_joined) (ws := wsX3_joined) (As := [.int t_38, .int t_41, .int t_43]) (rest := [.int t_37, .ref q_stack]) (gFix hF) (c_X3_joined l D c t_38 t_41 t_43 r_45 hc_44 H.size) (va_cwS 3 hts gX3_worksOut_X3_joined rfl rfl rfl (by decide +kernel) ⟨Nat.le_of_ble_eq_true rfl, Nat.le_of_ble_eq_true rfl⟩) (gPreS (wc := []) (isC := []) hK hX hS hA hP hD trivial (by decide +kernel)) rfl rfl hl.1 rfl (lv_room (Nat.le_of_ble_eq_true rfl)) dX3_worksOut_153 ⟨Nat.le_of_ble_eq_true rfl, Nat.le_of_ble_eq_true rfl⟩) (fun H locs hP hS => ?_)
      replace h := chi_ok h
      obtain ⟨hi_46, h⟩ := h
      replace h := nm_ok h
      obtain ⟨w_47, ew_47, h⟩ := h
      refine va_iast hx hb hK.1 hP hD hS 1 0 rfl rfl hi_46 dX3_worksOut_156 (fun H locs hP hD hS => ?_)
      have hP : va_P D gcl [(q_this, .inr (3, [.ref (c (10 + s_names)), .ref q_steps, .int v_length, .ref q_stack, .ref q_answers, .int v_side, .int v_round, .ref q_draft, .int v_drafted, .ref q_held, .int v_holding, .int v_open, .int v_digits, .int v_wantsOperand])), (q_stack, .inl (c 0, 50, .inl w_47)), (q_steps, .inl (c 0, 50, .inl v_steps))] H := by subst ew_47; exact hP
      have hD : va_D A [(q_this, .inr (3, [.ref (c (10 + s_names)), .ref q_steps, .int v_length, .ref q_stack, .ref q_answers, .int v_side, .int v_round, .ref q_draft, .int v_drafted, .ref q_held, .int v_holding, .int v_open, .int v_digits, .int v_wantsOperand])), (q_stack, .inl (c 0, 50, .inl w_47)), (q_steps, .inl (c 0, 50, .inl v_steps))] := by subst ew_47; exact hD
      replace h := nm_ok h
      obtain ⟨t_48, et_48, h⟩ := h
      refine lv_iinc (v := t_48) (lv' := [(5, .int t_48), (4, .int t_36), (0, .ref q_this), (1, .int a_1), (2, .int a_2), (3, .int a_3), (6, .int x6)]) hx hb dX3_worksOut_157 hl (k := 5) rfl (by rw [et_48]; rfl) (by decide) rfl (fun ls hl => ?_)
      refine lv_goto (tgt := 6) hx hb dX3_worksOut_160 (by decide) ?_
      exact hkk_L6 t_36 t_48 w_47 H locs hP hD hS ls (lv_sub hl [2, 3, 4, 5, 1, 0] rfl) h
  have t_L76 : ∀ (kk_L6 : Int32 → Int32 → (Nat → Int32) → Option (Int32 × (Nat → Int32))), (∀ (x4 : Int32) (x5 : Int32) (v_stack : Nat → Int32) (H : Heap) (locs : List Loc), va_P D gcl [(q_this, .inr (3, [.ref (c (10 + s_names)), .ref q_steps, .int v_length, .ref q_stack, .ref q_answers, .int v_side, .int v_round, .ref q_draft, .int v_drafted, .ref q_held, .int v_holding, .int v_open, .int v_digits, .int v_wantsOperand])), (q_stack, .inl (c 0, 50, .inl v_stack)), (q_steps, .inl (c 0, 50, .inl v_steps))] H → va_D A [(q_this, .inr (3, [.ref (c (10 + s_names)), .ref q_steps, .int v_length, .ref q_stack, .ref q_answers, .int v_side, .int v_round, .ref q_draft, .int v_drafted, .ref q_held, .int v_holding, .int v_open, .int v_digits, .int v_wantsOperand])), (q_stack, .inl (c 0, 50, .inl v_stack)), (q_steps, .inl (c 0, 50, .inl v_steps))] → va_S A s.heap H locs → ∀ ls, lv_has ls 7 [(0, .ref q_this), (1, .int a_1), (2, .int a_2), (3, .int a_3), (4, .int x4), (5, .int x5)] → kk_L6 x4 x5 v_stack = some (o_r, o_v_stack) → W p l e (headSpec wsX3_worksOut rm_X3_worksOut).room s m [.ref q_this, .int a_1, .int a_2, .int a_3].toArray below meth co H locs 0 0 (gQI D [(q_this, .inr (3, [.ref (c (10 + s_names)), .ref q_steps, .int v_length, .ref q_stack, .ref q_answers, .int v_side, .int v_round, .ref q_draft, .int v_drafted, .ref q_held, .int v_holding, .int v_open, .int v_digits, .int v_wantsOperand])), (q_stack, .inl (c 0, 50, .inl o_v_stack)), (q_steps, .inl (c 0, 50, .inl v_steps))] o_r A below [.ref q_this, .int a_1, .int a_2, .int a_3] s) (F0 m 6 ls [])) → ∀ (x4 : Int32) (x5 : Int32) (x6 : Int32) (v_stack : Nat → Int32) (H : Heap) (locs : List Loc), va_P D gcl [(q_this, .inr (3, [.ref (c (10 + s_names)), .ref q_steps, .int v_length, .ref q_stack, .ref q_answers, .int v_side, .int v_round, .ref q_draft, .int v_drafted, .ref q_held, .int v_holding, .int v_open, .int v_digits, .int v_wantsOperand])), (q_stack, .inl (c 0, 50, .inl v_stack)), (q_steps, .inl (c 0, 50, .inl v_steps))] H → va_D A [(q_this, .inr (3, [.ref (c (10 + s_names)), .ref q_steps, .int v_length, .ref q_stack, .ref q_answers, .int v_side, .int v_round, .ref q_draft, .int v_drafted, .ref q_held, .int v_holding, .int v_open, .int v_digits, .int v_wantsOperand])), (q_stack, .inl (c 0, 50, .inl v_stack)), (q_steps, .inl (c 0, 50, .inl v_steps))] → va_S A s.heap H locs → ∀ ls, lv_has ls 7 [(0, .ref q_this), (1, .int a_1), (2, .int a_2), (3, .int a_3), (4, .int x4), (5, .int x5), (6, .int x6)] → f_X3_worksOut_L76 kk_L6 a_1 a_2 a_3 v_length v_steps x4 x5 x6 v_stack = some (o_r, o_v_stack) → W p l e (headSpec wsX3_worksOut rm_X3_worksOut).room s m [.ref q_this, .int a_1, .int a_2, .int a_3].toArray below meth co H locs 0 0 (gQI D [(q_this, .inr (3, [.ref (c (10 + s_names)), .ref q_steps, .int v_length, .ref q_stack, .ref q_answers, .int v_side, .int v_round, .ref q_draft, .int v_drafted, .ref q_held, .int v_holding, .int v_open, .int v_digits, .int v_wantsOperand])), (q_stack, .inl (c 0, 50, .inl o_v_stack)), (q_steps, .inl (c 0, 50, .inl v_steps))] o_r A below [.ref q_this, .int a_1, .int a_2, .int a_3] s) (F0 m 76 ls []) := by
    intro kk_L6 hkk_L6 x4 x5 x6 v_stack H locs hP hD hS ls hl h
    unfold f_X3_worksOut_L76 at h
    refine lv_iload hx hb dX3_worksOut_76 (lv_at hl 6 rfl) ?_
    refine lv_bipush (v := (-33)) hx hb dX3_worksOut_78 (by decide) ?_
    refine lv_icmp_ne (tgt := 117) hx hb dX3_worksOut_80 (by decide) (fun c_22 => ?_) (fun c_22 => ?_)
    · replace h := it_f c_22 h
      exact t_L117 _ hkk_L6 x4 x5 x6 v_stack H locs hP hD hS ls (lv_sub hl [0, 1, 2, 3, 4, 5, 6] rfl) h
    · replace h := it_t c_22 h
      refine lv_iload hx hb dX3_worksOut_83 (lv_at hl 4 rfl) ?_
      refine lv_if_le (tgt := 117) hx hb dX3_worksOut_85 (by decide) (fun c_23 => ?_) (fun c_23 => ?_)
      · replace h := it_t c_23 h
        exact t_L117 _ hkk_L6 x4 x5 x6 v_stack H locs hP hD hS ls (lv_sub hl [0, 1, 2, 3, 4, 5, 6] rfl) h
      · replace h := it_f c_23 h
        refine lv_aload_n hx hb dX3_worksOut_88 rfl (lv_at hl 0 rfl) ?_
        refine va_get (D := D) (ci := 3) (v := .ref q_stack) (C := RX3) (T := TX3) (N := 14) hx hb hts in_X3_worksOut_X3 hown hK.1 hP 0 rfl rfl 3 (by decide) (hts (.fieldLink RX3 15 "PaperBubbles$Law" "stack" "[I") (List.mem_of_getElem? (i := 3) rfl)) (fun _ h9 => h9) rfl dX3_worksOut_89 ?_
        refine lv_iload hx hb dX3_worksOut_92 (lv_at hl 4 rfl) ?_
        refine lv_iconst (v := 1) hx hb dX3_worksOut_94 (by decide) ?_
        refine lv_isub hx hb dX3_worksOut_95 ?_
        replace h := nm_ok h
        obtain ⟨t_24, et_24, h⟩ := h
        refine gTop et_24 ?_
        refine lv_aload_n hx hb dX3_worksOut_96 rfl (lv_at hl 0 rfl) ?_
        refine va_get (D := D) (ci := 3) (v := .ref q_stack) (C := RX3) (T := TX3) (N := 14) hx hb hts in_X3_worksOut_X3 hown hK.1 hP 0 rfl rfl 3 (by decide) (hts (.fieldLink RX3 15 "PaperBubbles$Law" "stack" "[I") (List.mem_of_getElem? (i := 3) rfl)) (fun _ h9 => h9) rfl dX3_worksOut_97 ?_
        refine lv_iload hx hb dX3_worksOut_100 (lv_at hl 4 rfl) ?_
        refine lv_iconst (v := 1) hx hb dX3_worksOut_102 (by decide) ?_
        refine lv_isub hx hb dX3_worksOut_103 ?_
        replace h := nm_ok h
        obtain ⟨t_25, et_25, h⟩ := h
        refine gTop et_25 ?_
        replace h := chi_ok h
        obtain ⟨hi_26, h⟩ := h
        refine va_iald hx hb hK.1 hP 1 0 rfl rfl hi_26 dX3_worksOut_104 ?_
        refine lv_if_ne (tgt := 112) hx hb dX3_worksOut_105 (by decide) (fun c_27 => ?_) (fun c_27 => ?_)
        · replace h := it_f c_27 h
          refine lv_iconst (v := 0) hx hb dX3_worksOut_112 (by decide) ?_
          replace h := chi_ok h
          obtain ⟨hi_28, h⟩ := h
          replace h := nm_ok h
          obtain ⟨w_29, ew_29, h⟩ := h
          refine va_iast hx hb hK.1 hP hD hS 1 0 rfl rfl hi_28 dX3_worksOut_113 (fun H locs hP hD hS => ?_)
          have hP : va_P D gcl [(q_this, .inr (3, [.ref (c (10 + s_names)), .ref q_steps, .int v_length, .ref q_stack, .ref q_answers, .int v_side, .int v_round, .ref q_draft, .int v_drafted, .ref q_held, .int v_holding, .int v_open, .int v_digits, .int v_wantsOperand])), (q_stack, .inl (c 0, 50, .inl w_29)), (q_steps, .inl (c 0, 50, .inl v_steps))] H := by subst ew_29; exact hP
          have hD : va_D A [(q_this, .inr (3, [.ref (c (10 + s_names)), .ref q_steps, .int v_length, .ref q_stack, .ref q_answers, .int v_side, .int v_round, .ref q_draft, .int v_drafted, .ref q_held, .int v_holding, .int v_open, .int v_digits, .int v_wantsOperand])), (q_stack, .inl (c 0, 50, .inl w_29)), (q_steps, .inl (c 0, 50, .inl v_steps))] := by subst ew_29; exact hD
          refine lv_goto (tgt := 157) hx hb dX3_worksOut_114 (by decide) ?_
          replace h := nm_ok h
          obtain ⟨t_30, et_30, h⟩ := h
          refine lv_iinc (v := t_30) (lv' := [(5, .int t_30), (0, .ref q_this), (1, .int a_1), (2, .int a_2), (3, .int a_3), (4, .int x4), (6, .int x6)]) hx hb dX3_worksOut_157 hl (k := 5) rfl (by rw [et_30]; rfl) (by decide) rfl (fun ls hl => ?_)
          refine lv_goto (tgt := 6) hx hb dX3_worksOut_160 (by decide) ?_
          exact hkk_L6 x4 t_30 w_29 H locs hP hD hS ls (lv_sub hl [1, 2, 3, 4, 5, 0] rfl) h
        · replace h := it_t c_27 h
          refine lv_iconst (v := 1) hx hb dX3_worksOut_108 (by decide) ?_
          refine lv_goto (tgt := 113) hx hb dX3_worksOut_109 (by decide) ?_
          replace h := chi_ok h
          obtain ⟨hi_31, h⟩ := h
          replace h := nm_ok h
          obtain ⟨w_32, ew_32, h⟩ := h
          refine va_iast hx hb hK.1 hP hD hS 1 0 rfl rfl hi_31 dX3_worksOut_113 (fun H locs hP hD hS => ?_)
          have hP : va_P D gcl [(q_this, .inr (3, [.ref (c (10 + s_names)), .ref q_steps, .int v_length, .ref q_stack, .ref q_answers, .int v_side, .int v_round, .ref q_draft, .int v_drafted, .ref q_held, .int v_holding, .int v_open, .int v_digits, .int v_wantsOperand])), (q_stack, .inl (c 0, 50, .inl w_32)), (q_steps, .inl (c 0, 50, .inl v_steps))] H := by subst ew_32; exact hP
          have hD : va_D A [(q_this, .inr (3, [.ref (c (10 + s_names)), .ref q_steps, .int v_length, .ref q_stack, .ref q_answers, .int v_side, .int v_round, .ref q_draft, .int v_drafted, .ref q_held, .int v_holding, .int v_open, .int v_digits, .int v_wantsOperand])), (q_stack, .inl (c 0, 50, .inl w_32)), (q_steps, .inl (c 0, 50, .inl v_steps))] := by subst ew_32; exact hD
          refine lv_goto (tgt := 157) hx hb dX3_worksOut_114 (by decide) ?_
          replace h := nm_ok h
          obtain ⟨t_33, et_33, h⟩ := h
          refine lv_iinc (v := t_33) (lv' := [(5, .int t_33), (0, .ref q_this), (1, .int a_1), (2, .int a_2), (3, .int a_3), (4, .int x4), (6, .int x6)]) hx hb dX3_worksOut_157 hl (k := 5) rfl (by rw [et_33]; rfl) (by decide) rfl (fun ls hl => ?_)
          refine lv_goto (tgt := 6) hx hb dX3_worksOut_160 (by decide) ?_
          exact hkk_L6 x4 t_33 w_32 H locs hP hD hS ls (lv_sub hl [1, 2, 3, 4, 5, 0] rfl) h
  have t_L6 : ∀ (n : Nat), ∀ (x4 : Int32) (x5 : Int32) (v_stack : Nat → Int32) (H : Heap) (locs : List Loc), va_P D gcl [(q_this, .inr (3, [.ref (c (10 + s_names)), .ref q_steps, .int v_length, .ref q_stack, .ref q_answers, .int v_side, .int v_round, .ref q_draft, .int v_drafted, .ref q_held, .int v_holding, .int v_open, .int v_digits, .int v_wantsOperand])), (q_stack, .inl (c 0, 50, .inl v_stack)), (q_steps, .inl (c 0, 50, .inl v_steps))] H → va_D A [(q_this, .inr (3, [.ref (c (10 + s_names)), .ref q_steps, .int v_length, .ref q_stack, .ref q_answers, .int v_side, .int v_round, .ref q_draft, .int v_drafted, .ref q_held, .int v_holding, .int v_open, .int v_digits, .int v_wantsOperand])), (q_stack, .inl (c 0, 50, .inl v_stack)), (q_steps, .inl (c 0, 50, .inl v_steps))] → va_S A s.heap H locs → ∀ ls, lv_has ls 7 [(0, .ref q_this), (1, .int a_1), (2, .int a_2), (3, .int a_3), (4, .int x4), (5, .int x5)] → f_X3_worksOut_L6 a_1 a_2 a_3 v_length v_steps n x4 x5 v_stack = some (o_r, o_v_stack) → W p l e (headSpec wsX3_worksOut rm_X3_worksOut).room s m [.ref q_this, .int a_1, .int a_2, .int a_3].toArray below meth co H locs 0 0 (gQI D [(q_this, .inr (3, [.ref (c (10 + s_names)), .ref q_steps, .int v_length, .ref q_stack, .ref q_answers, .int v_side, .int v_round, .ref q_draft, .int v_drafted, .ref q_held, .int v_holding, .int v_open, .int v_digits, .int v_wantsOperand])), (q_stack, .inl (c 0, 50, .inl o_v_stack)), (q_steps, .inl (c 0, 50, .inl v_steps))] o_r A below [.ref q_this, .int a_1, .int a_2, .int a_3] s) (F0 m 6 ls []) := by
    intro n
    induction n with
    | zero => intro x4 x5 v_stack H locs hP hD hS ls hl h; exact no_ok h
    | succ n ih =>
      intro x4 x5 v_stack H locs hP hD hS ls hl h
      rw [f_X3_worksOut_L6] at h
      refine lv_iload hx hb dX3_worksOut_6 (lv_at hl 5 rfl) ?_
      refine lv_aload_n hx hb dX3_worksOut_8 rfl (lv_at hl 0 rfl) ?_
      refine va_get (D := D) (ci := 3) (v := .int v_length) (C := RX3) (T := TX3) (N := 14) hx hb hts in_X3_worksOut_X3 hown hK.1 hP 0 rfl rfl 2 (by decide) (hts (.fieldLink RX3 36 "PaperBubbles$Law" "length" "I") (List.mem_of_getElem? (i := 1) rfl)) (fun _ h9 => h9) rfl dX3_worksOut_9 ?_
      refine lv_icmp_ge (tgt := 163) hx hb dX3_worksOut_12 (by decide) (fun c_1 => ?_) (fun c_1 => ?_)
      · replace h := it_t c_1 h
        exact t_L163 v_stack H locs hP hD hS ls (lv_sub hl [0] rfl) h
      · replace h := it_f c_1 h
        refine lv_iload hx hb dX3_worksOut_15 (lv_at hl 5 rfl) ?_
        refine lv_bipush (v := 50) hx hb dX3_worksOut_17 (by decide) ?_
        refine lv_icmp_ge (tgt := 163) hx hb dX3_worksOut_19 (by decide) (fun c_2 => ?_) (fun c_2 => ?_)
        · replace h := it_t c_2 h
          exact t_L163 v_stack H locs hP hD hS ls (lv_sub hl [0] rfl) h
        · replace h := it_f c_2 h
          refine lv_aload_n hx hb dX3_worksOut_22 rfl (lv_at hl 0 rfl) ?_
          refine va_get (D := D) (ci := 3) (v := .ref q_steps) (C := RX3) (T := TX3) (N := 14) hx hb hts in_X3_worksOut_X3 hown hK.1 hP 0 rfl rfl 1 (by decide) (hts (.fieldLink RX3 9 "PaperBubbles$Law" "steps" "[I") (List.mem_of_getElem? (i := 2) rfl)) (fun _ h9 => h9) rfl dX3_worksOut_23 ?_
          refine lv_iload hx hb dX3_worksOut_26 (lv_at hl 5 rfl) ?_
          replace h := chi_ok h
          obtain ⟨hi_3, h⟩ := h
          refine va_iald hx hb hK.1 hP 2 0 rfl rfl hi_3 dX3_worksOut_28 ?_
          replace h := nm_ok h
          obtain ⟨t_4, et_4, h⟩ := h
          refine gTop et_4 ?_
          refine lv_istore (lv' := [(6, .int t_4), (0, .ref q_this), (1, .int a_1), (2, .int a_2), (3, .int a_3), (4, .int x4), (5, .int x5)]) hx hb dX3_worksOut_29 hl (by decide) rfl (fun ls hl => ?_)
          refine lv_iload hx hb dX3_worksOut_31 (lv_at hl 0 rfl) ?_
          refine lv_bipush (v := (-3)) hx hb dX3_worksOut_33 (by decide) ?_
          refine lv_icmp_lt (tgt := 76) hx hb dX3_worksOut_35 (by decide) (fun c_5 => ?_) (fun c_5 => ?_)
          · replace h := it_t c_5 h
            exact t_L76 _ ih x4 x5 t_4 v_stack H locs hP hD hS ls (lv_sub hl [1, 2, 3, 4, 5, 6, 0] rfl) h
          · replace h := it_f c_5 h
            refine lv_iload hx hb dX3_worksOut_38 (lv_at hl 5 rfl) ?_
            refine lv_bipush (v := 50) hx hb dX3_worksOut_40 (by decide) ?_
            refine lv_icmp_ge (tgt := 76) hx hb dX3_worksOut_42 (by decide) (fun c_6 => ?_) (fun c_6 => ?_)
            · replace h := it_t c_6 h
              exact t_L76 _ ih x4 x5 t_4 v_stack H locs hP hD hS ls (lv_sub hl [1, 2, 3, 4, 5, 6, 0] rfl) h
            · replace h := it_f c_6 h
              refine lv_aload_n hx hb dX3_worksOut_45 rfl (lv_at hl 1 rfl) ?_
              refine va_get (D := D) (ci := 3) (v := .ref q_stack) (C := RX3) (T := TX3) (N := 14) hx hb hts in_X3_worksOut_X3 hown hK.1 hP 0 rfl rfl 3 (by decide) (hts (.fieldLink RX3 15 "PaperBubbles$Law" "stack" "[I") (List.mem_of_getElem? (i := 3) rfl)) (fun _ h9 => h9) rfl dX3_worksOut_46 ?_
              refine lv_iload hx hb dX3_worksOut_49 (lv_at hl 5 rfl) ?_
              refine lv_iload hx hb dX3_worksOut_51 (lv_at hl 0 rfl) ?_
              refine lv_if_lt (tgt := 61) hx hb dX3_worksOut_53 (by decide) (fun c_7 => ?_) (fun c_7 => ?_)
              · replace h := it_t c_7 h
                refine lv_iload hx hb dX3_worksOut_61 (lv_at hl 0 rfl) ?_
                refine lv_iload_n hx hb dX3_worksOut_63 rfl (lv_at hl 2 rfl) ?_
                refine lv_iload_n hx hb dX3_worksOut_64 rfl (lv_at hl 3 rfl) ?_
                refine lv_iload_n hx hb dX3_worksOut_65 rfl (lv_at hl 4 rfl) ?_
                replace h := kb_ok h
                obtain ⟨r_9, hc_8, h⟩ := h
                refine gCallIr (isC := []) (wc := []) hP hD hS hA trivial (va_runS (rm := rm_X3_named) (ws := wsX3_named) (As := [.int t_4, .int a_1, .int a_2, .int a_3]) (rest := [.int x4, .ref q_stack]) (gFix hF) (c_X3_named l D c t_4 a_1 a_2 a_3 r_9 hc_8 H.size) (va_cwS 4 hts gX3_worksOut_X3_named rfl rfl rfl (by decide +kernel) ⟨Nat.le_of_ble_eq_true rfl, Nat.le_of_ble_eq_true rfl⟩) (gPreS (wc := []) (isC := []) hK hX hS hA hP hD trivial (by decide +kernel)) rfl rfl hl.1 rfl (lv_room (Nat.le_of_ble_eq_true rfl)) dX3_worksOut_66 ⟨Nat.le_of_ble_eq_true rfl, Nat.le_of_ble_eq_true rfl⟩) (fun H locs hP hS => ?_)
                replace h := chi_ok h
                obtain ⟨hi_10, h⟩ := h
                replace h := nm_ok h
                obtain ⟨w_11, ew_11, h⟩ := h
                refine va_iast hx hb hK.1 hP hD hS 1 0 rfl rfl hi_10 dX3_worksOut_69 (fun H locs hP hD hS => ?_)
                have hP : va_P D gcl [(q_this, .inr (3, [.ref (c (10 + s_names)), .ref q_steps, .int v_length, .ref q_stack, .ref q_answers, .int v_side, .int v_round, .ref q_draft, .int v_drafted, .ref q_held, .int v_holding, .int v_open, .int v_digits, .int v_wantsOperand])), (q_stack, .inl (c 0, 50, .inl w_11)), (q_steps, .inl (c 0, 50, .inl v_steps))] H := by subst ew_11; exact hP
                have hD : va_D A [(q_this, .inr (3, [.ref (c (10 + s_names)), .ref q_steps, .int v_length, .ref q_stack, .ref q_answers, .int v_side, .int v_round, .ref q_draft, .int v_drafted, .ref q_held, .int v_holding, .int v_open, .int v_digits, .int v_wantsOperand])), (q_stack, .inl (c 0, 50, .inl w_11)), (q_steps, .inl (c 0, 50, .inl v_steps))] := by subst ew_11; exact hD
                replace h := nm_ok h
                obtain ⟨t_12, et_12, h⟩ := h
                refine lv_iinc (v := t_12) (lv' := [(4, .int t_12), (6, .int t_4), (0, .ref q_this), (1, .int a_1), (2, .int a_2), (3, .int a_3), (5, .int x5)]) hx hb dX3_worksOut_70 hl (k := 5) rfl (by rw [et_12]; rfl) (by decide) rfl (fun ls hl => ?_)
                refine lv_goto (tgt := 157) hx hb dX3_worksOut_73 (by decide) ?_
                replace h := nm_ok h
                obtain ⟨t_13, et_13, h⟩ := h
                refine lv_iinc (v := t_13) (lv' := [(5, .int t_13), (4, .int t_12), (6, .int t_4), (0, .ref q_this), (1, .int a_1), (2, .int a_2), (3, .int a_3)]) hx hb dX3_worksOut_157 hl (k := 6) rfl (by rw [et_13]; rfl) (by decide) rfl (fun ls hl => ?_)
                refine lv_goto (tgt := 6) hx hb dX3_worksOut_160 (by decide) ?_
                exact ih t_12 t_13 w_11 H locs hP hD hS ls (lv_sub hl [3, 4, 5, 6, 1, 0] rfl) h
              · replace h := it_f c_7 h
                refine lv_iload hx hb dX3_worksOut_56 (lv_at hl 0 rfl) ?_
                refine lv_goto (tgt := 69) hx hb dX3_worksOut_58 (by decide) ?_
                replace h := chi_ok h
                obtain ⟨hi_14, h⟩ := h
                replace h := nm_ok h
                obtain ⟨w_15, ew_15, h⟩ := h
                refine va_iast hx hb hK.1 hP hD hS 1 0 rfl rfl hi_14 dX3_worksOut_69 (fun H locs hP hD hS => ?_)
                have hP : va_P D gcl [(q_this, .inr (3, [.ref (c (10 + s_names)), .ref q_steps, .int v_length, .ref q_stack, .ref q_answers, .int v_side, .int v_round, .ref q_draft, .int v_drafted, .ref q_held, .int v_holding, .int v_open, .int v_digits, .int v_wantsOperand])), (q_stack, .inl (c 0, 50, .inl w_15)), (q_steps, .inl (c 0, 50, .inl v_steps))] H := by subst ew_15; exact hP
                have hD : va_D A [(q_this, .inr (3, [.ref (c (10 + s_names)), .ref q_steps, .int v_length, .ref q_stack, .ref q_answers, .int v_side, .int v_round, .ref q_draft, .int v_drafted, .ref q_held, .int v_holding, .int v_open, .int v_digits, .int v_wantsOperand])), (q_stack, .inl (c 0, 50, .inl w_15)), (q_steps, .inl (c 0, 50, .inl v_steps))] := by subst ew_15; exact hD
                replace h := nm_ok h
                obtain ⟨t_16, et_16, h⟩ := h
                refine lv_iinc (v := t_16) (lv' := [(4, .int t_16), (6, .int t_4), (0, .ref q_this), (1, .int a_1), (2, .int a_2), (3, .int a_3), (5, .int x5)]) hx hb dX3_worksOut_70 hl (k := 5) rfl (by rw [et_16]; rfl) (by decide) rfl (fun ls hl => ?_)
                refine lv_goto (tgt := 157) hx hb dX3_worksOut_73 (by decide) ?_
                replace h := nm_ok h
                obtain ⟨t_17, et_17, h⟩ := h
                refine lv_iinc (v := t_17) (lv' := [(5, .int t_17), (4, .int t_16), (6, .int t_4), (0, .ref q_this), (1, .int a_1), (2, .int a_2), (3, .int a_3)]) hx hb dX3_worksOut_157 hl (k := 6) rfl (by rw [et_17]; rfl) (by decide) rfl (fun ls hl => ?_)
                refine lv_goto (tgt := 6) hx hb dX3_worksOut_160 (by decide) ?_
                exact ih t_16 t_17 w_15 H locs hP hD hS ls (lv_sub hl [3, 4, 5, 6, 1, 0] rfl) h
  unfold f_X3_worksOut at h
  refine lv_iconst (v := 0) hx hb dX3_worksOut_0 (by decide) ?_
  refine lv_istore (lv' := [(4, .int 0), (0, .ref q_this), (1, .int a_1), (2, .int a_2), (3, .int a_3)]) hx hb dX3_worksOut_1 hl (by decide) rfl (fun ls hl => ?_)
  refine lv_iconst (v := 0) hx hb dX3_worksOut_3 (by decide) ?_
  refine lv_istore (lv' := [(5, .int 0), (4, .int 0), (0, .ref q_this), (1, .int a_1), (2, .int a_2), (3, .int a_3)]) hx hb dX3_worksOut_4 hl (by decide) rfl (fun ls hl => ?_)
  exact t_L6 gFuel 0 0 v_stack s.heap [] hP hD hS ls (lv_sub hl [2, 3, 4, 5, 1, 0] rfl) h
set_option maxRecDepth 20000 in
theorem in_X3_gives_X3 : ∀ w ∈ u_ws RX3 TX3 14, w ∈ wsX3_gives := by decide +kernel
abbrev rm_X3_gives : Room := { frames := 2, cells := 0, slots := 0, locals := 49 }
set_option maxHeartbeats 4000000 in
set_option maxRecDepth 100000 in
theorem c_X3_gives (l : Launch) (D : va_G) (c : Nat → ClassId) (q_this q_steps q_stack q_answers q_draft q_held : Nat) (s_names : Nat) (n_answers : Nat) (a_1 : Int32) (a_2 : Int32) (a_3 : Int32) (v_length : Int32) (v_side : Int32) (v_round : Int32) (v_drafted : Int32) (v_holding : Int32) (v_open : Int32) (v_digits : Int32) (v_wantsOperand : Int32) (v_answers : Nat → Int32) (v_stack : Nat → Int32) (v_steps : Nat → Int32) (o_r : Int32) (o_v_answers : Nat → Int32) (o_v_stack : Nat → Int32) (h : f_X3_gives a_1 a_2 a_3 n_answers v_length v_side v_round v_answers v_stack v_steps = some (o_r, o_v_answers, o_v_stack)) : gMI l yX3_gives wsX3_gives rm_X3_gives D c [.ref q_this, .int a_1, .int a_2, .int a_3] [(q_this, .inr (3, [.ref (c (10 + s_names)), .ref q_steps, .int v_length, .ref q_stack, .ref q_answers, .int v_side, .int v_round, .ref q_draft, .int v_drafted, .ref q_held, .int v_holding, .int v_open, .int v_digits, .int v_wantsOperand])), (q_answers, .inl (c 0, n_answers, .inl v_answers)), (q_stack, .inl (c 0, 50, .inl v_stack)), (q_steps, .inl (c 0, 50, .inl v_steps))] [(q_this, .inr (3, [.ref (c (10 + s_names)), .ref q_steps, .int v_length, .ref q_stack, .ref q_answers, .int v_side, .int v_round, .ref q_draft, .int v_drafted, .ref q_held, .int v_holding, .int v_open, .int v_digits, .int v_wantsOperand])), (q_answers, .inl (c 0, n_answers, .inl o_v_answers)), (q_stack, .inl (c 0, 50, .inl o_v_stack)), (q_steps, .inl (c 0, 50, .inl v_steps))] o_r := by
  refine gMI_of (cc := cX3_gives) (maxL := 5) (rt := (some .int)) (by decide +kernel) rfl (Nat.le_of_ble_eq_true rfl) ?_
  intro p e s m below meth co A hF hK hX hP hD hA hS ls hl
  obtain ⟨hx, hb, hr, hts, hown, hlocks, hml⟩ := id hF
  have hl : lv_has ls 5 [(0, .ref q_this), (1, .int a_1), (2, .int a_2), (3, .int a_3)] := hl
  have t_L24 : ∀ (v_answers : Nat → Int32) (v_stack : Nat → Int32) (H : Heap) (locs : List Loc), va_P D gcl [(q_this, .inr (3, [.ref (c (10 + s_names)), .ref q_steps, .int v_length, .ref q_stack, .ref q_answers, .int v_side, .int v_round, .ref q_draft, .int v_drafted, .ref q_held, .int v_holding, .int v_open, .int v_digits, .int v_wantsOperand])), (q_answers, .inl (c 0, n_answers, .inl v_answers)), (q_stack, .inl (c 0, 50, .inl v_stack)), (q_steps, .inl (c 0, 50, .inl v_steps))] H → va_D A [(q_this, .inr (3, [.ref (c (10 + s_names)), .ref q_steps, .int v_length, .ref q_stack, .ref q_answers, .int v_side, .int v_round, .ref q_draft, .int v_drafted, .ref q_held, .int v_holding, .int v_open, .int v_digits, .int v_wantsOperand])), (q_answers, .inl (c 0, n_answers, .inl v_answers)), (q_stack, .inl (c 0, 50, .inl v_stack)), (q_steps, .inl (c 0, 50, .inl v_steps))] → va_S A s.heap H locs → ∀ ls, lv_has ls 5 [(0, .ref q_this), (1, .int a_1), (2, .int a_2), (3, .int a_3)] → f_X3_gives_L24 a_1 a_2 a_3 v_length v_steps v_answers v_stack = some (o_r, o_v_answers, o_v_stack) → W p l e (headSpec wsX3_gives rm_X3_gives).room s m [.ref q_this, .int a_1, .int a_2, .int a_3].toArray below meth co H locs 0 0 (gQI D [(q_this, .inr (3, [.ref (c (10 + s_names)), .ref q_steps, .int v_length, .ref q_stack, .ref q_answers, .int v_side, .int v_round, .ref q_draft, .int v_drafted, .ref q_held, .int v_holding, .int v_open, .int v_digits, .int v_wantsOperand])), (q_answers, .inl (c 0, n_answers, .inl o_v_answers)), (q_stack, .inl (c 0, 50, .inl o_v_stack)), (q_steps, .inl (c 0, 50, .inl v_steps))] o_r A below [.ref q_this, .int a_1, .int a_2, .int a_3] s) (F0 m 24 ls []) := by
    intro  v_answers v_stack H locs hP hD hS ls hl h
    unfold f_X3_gives_L24 at h
    refine lv_aload_n hx hb dX3_gives_24 rfl (lv_at hl 0 rfl) ?_
    refine lv_iload_n hx hb dX3_gives_25 rfl (lv_at hl 1 rfl) ?_
    refine lv_iload_n hx hb dX3_gives_26 rfl (lv_at hl 2 rfl) ?_
    refine lv_iload_n hx hb dX3_gives_27 rfl (lv_at hl 3 rfl) ?_
    replace h := kb2_ok h
    obtain ⟨r_18, w_19, hc_17, h⟩ := h
    refine gCallI (isC := [0, 2, 3]) (wc := [(q_this, .inr (3, [.ref (c (10 + s_names)), .ref q_steps, .int v_length, .ref q_stack, .ref q_answers, .int v_side, .int v_round, .ref q_draft, .int v_drafted, .ref q_held, .int v_holding, .int v_open, .int v_digits, .int v_wantsOperand])), (q_stack, .inl (c 0, 50, .inl v_stack)), (q_steps, .inl (c 0, 50, .inl v_steps))]) (w1 := [(q_this, .inr (3, [.ref (c (10 + s_names)), .ref q_steps, .int v_length, .ref q_stack, .ref q_answers, .int v_side, .int v_round, .ref q_draft, .int v_drafted, .ref q_held, .int v_holding, .int v_open, .int v_digits, .int v_wantsOperand])), (q_stack, .inl (c 0, 50, .inl w_19)), (q_steps, .inl (c 0, 50, .inl v_steps))]) (ws2 := [(q_this, .inr (3, [.ref (c (10 + s_names)), .ref q_steps, .int v_length, .ref q_stack, .ref q_answers, .int v_side, .int v_round, .ref q_draft, .int v_drafted, .ref q_held, .int v_holding, .int v_open, .int v_digits, .int v_wantsOperand])), (q_answers, .inl (c 0, n_answers, .inl v_answers)), (q_stack, .inl (c 0, 50, .inl w_19)), (q_steps, .inl (c 0, 50, .inl v_steps))]) (ms := [(some 0), none, (some 1), (some 2)]) hP hD hS hA ⟨rfl, rfl, rfl, trivial⟩ (by decide +kernel) ⟨rfl, rfl, rfl, rfl, trivial⟩ (va_runV (rm := rm_X3_worksOut) (ws := wsX3_worksOut) (As := [.int a_1, .int a_2, .int a_3]) (rest := []) (gFix hF) (c_X3_worksOut l D c q_this q_steps q_stack q_answers q_draft q_held s_names a_1 a_2 a_3 v_length v_side v_round v_drafted v_holding v_open v_digits v_wantsOperand v_stack v_steps r_18 w_19 hc_17 H.size) (cwV 3 hts gX3_gives_X3_worksOut rfl rfl rfl (by decide +kernel) ⟨Nat.le_of_ble_eq_true rfl, Nat.le_of_ble_eq_true rfl⟩) (gPreV (wc := [(q_this, .inr (3, [.ref (c (10 + s_names)), .ref q_steps, .int v_length, .ref q_stack, .ref q_answers, .int v_side, .int v_round, .ref q_draft, .int v_drafted, .ref q_held, .int v_holding, .int v_open, .int v_digits, .int v_wantsOperand])), (q_stack, .inl (c 0, 50, .inl v_stack)), (q_steps, .inl (c 0, 50, .inl v_steps))]) (q := (RX3, TX3, 14)) (ci := 3) (q0 := 0) (isC := [0, 2, 3]) hK hX hS hA hP hD ⟨rfl, rfl, rfl, trivial⟩ (by decide +kernel) rfl rfl) rfl rfl hl.1 rfl (lv_room (Nat.le_of_ble_eq_true rfl)) dX3_gives_28 ⟨Nat.le_of_ble_eq_true rfl, Nat.le_of_ble_eq_true rfl⟩) (fun H locs hP hD hS => ?_)
    replace h := so3 h
    obtain ⟨z0, z1, z2⟩ := h
    subst z0 z1 z2
    exact gIret hF hP hD hS rfl dX3_gives_31
  have t_L73 : ∀ (x4 : Int32) (v_answers : Nat → Int32) (v_stack : Nat → Int32) (H : Heap) (locs : List Loc), va_P D gcl [(q_this, .inr (3, [.ref (c (10 + s_names)), .ref q_steps, .int v_length, .ref q_stack, .ref q_answers, .int v_side, .int v_round, .ref q_draft, .int v_drafted, .ref q_held, .int v_holding, .int v_open, .int v_digits, .int v_wantsOperand])), (q_answers, .inl (c 0, n_answers, .inl v_answers)), (q_stack, .inl (c 0, 50, .inl v_stack)), (q_steps, .inl (c 0, 50, .inl v_steps))] H → va_D A [(q_this, .inr (3, [.ref (c (10 + s_names)), .ref q_steps, .int v_length, .ref q_stack, .ref q_answers, .int v_side, .int v_round, .ref q_draft, .int v_drafted, .ref q_held, .int v_holding, .int v_open, .int v_digits, .int v_wantsOperand])), (q_answers, .inl (c 0, n_answers, .inl v_answers)), (q_stack, .inl (c 0, 50, .inl v_stack)), (q_steps, .inl (c 0, 50, .inl v_steps))] → va_S A s.heap H locs → ∀ ls, lv_has ls 5 [(0, .ref q_this), (4, .int x4)] → f_X3_gives_L73 n_answers x4 v_answers v_stack = some (o_r, o_v_answers, o_v_stack) → W p l e (headSpec wsX3_gives rm_X3_gives).room s m [.ref q_this, .int a_1, .int a_2, .int a_3].toArray below meth co H locs 0 0 (gQI D [(q_this, .inr (3, [.ref (c (10 + s_names)), .ref q_steps, .int v_length, .ref q_stack, .ref q_answers, .int v_side, .int v_round, .ref q_draft, .int v_drafted, .ref q_held, .int v_holding, .int v_open, .int v_digits, .int v_wantsOperand])), (q_answers, .inl (c 0, n_answers, .inl o_v_answers)), (q_stack, .inl (c 0, 50, .inl o_v_stack)), (q_steps, .inl (c 0, 50, .inl v_steps))] o_r A below [.ref q_this, .int a_1, .int a_2, .int a_3] s) (F0 m 73 ls []) := by
    intro  x4 v_answers v_stack H locs hP hD hS ls hl h
    unfold f_X3_gives_L73 at h
    refine lv_aload_n hx hb dX3_gives_73 rfl (lv_at hl 0 rfl) ?_
    refine va_get (D := D) (ci := 3) (v := .ref q_answers) (C := RX3) (T := TX3) (N := 14) hx hb hts in_X3_gives_X3 hown hK.1 hP 0 rfl rfl 4 (by decide) (hts (.fieldLink RX3 42 "PaperBubbles$Law" "answers" "[I") (List.mem_of_getElem? (i := 1) rfl)) (fun _ h9 => h9) rfl dX3_gives_74 ?_
    refine lv_iload hx hb dX3_gives_77 (lv_at hl 1 rfl) ?_
    replace h := chi_ok h
    obtain ⟨hi_20, h⟩ := h
    refine va_iald hx hb hK.1 hP 1 0 rfl rfl hi_20 dX3_gives_79 ?_
    replace h := nm_ok h
    obtain ⟨t_21, et_21, h⟩ := h
    refine gTop et_21 ?_
    refine lv_sipush (v := 128) hx hb dX3_gives_80 (by decide) ?_
    replace h := chz_ok h
    obtain ⟨hz_22, h⟩ := h
    refine lv_irem hx hb dX3_gives_83 hz_22 ?_
    replace h := so3 h
    obtain ⟨z0, z1, z2⟩ := h
    subst z0 z1 z2
    exact gIret hF hP hD hS rfl dX3_gives_84
  unfold f_X3_gives at h
  refine lv_aload_n hx hb dX3_gives_0 rfl (lv_at hl 0 rfl) ?_
  refine lv_iload_n hx hb dX3_gives_1 rfl (lv_at hl 1 rfl) ?_
  refine lv_iload_n hx hb dX3_gives_2 rfl (lv_at hl 2 rfl) ?_
  refine lv_iload_n hx hb dX3_gives_3 rfl (lv_at hl 3 rfl) ?_
  replace h := kb_ok h
  obtain ⟨r_2, hc_1, h⟩ := h
  refine gCallIr (isC := [0]) (wc := [(q_this, .inr (3, [.ref (c (10 + s_names)), .ref q_steps, .int v_length, .ref q_stack, .ref q_answers, .int v_side, .int v_round, .ref q_draft, .int v_drafted, .ref q_held, .int v_holding, .int v_open, .int v_digits, .int v_wantsOperand]))]) hP hD hS hA ⟨rfl, trivial⟩ (va_runV (rm := rm_X3_placeOf) (ws := wsX3_placeOf) (As := [.int a_1, .int a_2, .int a_3]) (rest := []) (gFix hF) (c_X3_placeOf l D c q_this q_steps q_stack q_answers q_draft q_held s_names a_1 a_2 a_3 v_length v_side v_round v_drafted v_holding v_open v_digits v_wantsOperand r_2 hc_1 s.heap.size) (cwV 3 hts gX3_gives_X3_placeOf rfl rfl rfl (by decide +kernel) ⟨Nat.le_of_ble_eq_true rfl, Nat.le_of_ble_eq_true rfl⟩) (gPreV (wc := [(q_this, .inr (3, [.ref (c (10 + s_names)), .ref q_steps, .int v_length, .ref q_stack, .ref q_answers, .int v_side, .int v_round, .ref q_draft, .int v_drafted, .ref q_held, .int v_holding, .int v_open, .int v_digits, .int v_wantsOperand]))]) (q := (RX3, TX3, 14)) (ci := 3) (q0 := 0) (isC := [0]) hK hX hS hA hP hD ⟨rfl, trivial⟩ (by decide +kernel) rfl rfl) rfl rfl hl.1 rfl (lv_room (Nat.le_of_ble_eq_true rfl)) dX3_gives_4 ⟨Nat.le_of_ble_eq_true rfl, Nat.le_of_ble_eq_true rfl⟩) (fun H locs hP hS => ?_)
  refine lv_istore (lv' := [(4, .int r_2), (0, .ref q_this), (1, .int a_1), (2, .int a_2), (3, .int a_3)]) hx hb dX3_gives_7 hl (by decide) rfl (fun ls hl => ?_)
  refine lv_iload hx hb dX3_gives_9 (lv_at hl 0 rfl) ?_
  refine lv_if_lt (tgt := 24) hx hb dX3_gives_11 (by decide) (fun c_3 => ?_) (fun c_3 => ?_)
  · replace h := it_t c_3 h
    exact t_L24 v_answers v_stack H locs hP hD hS ls (lv_sub hl [1, 2, 3, 4] rfl) h
  · replace h := it_f c_3 h
    refine lv_iload hx hb dX3_gives_14 (lv_at hl 0 rfl) ?_
    refine lv_aload_n hx hb dX3_gives_16 rfl (lv_at hl 1 rfl) ?_
    refine va_get (D := D) (ci := 3) (v := .ref q_answers) (C := RX3) (T := TX3) (N := 14) hx hb hts in_X3_gives_X3 hown hK.1 hP 0 rfl rfl 4 (by decide) (hts (.fieldLink RX3 42 "PaperBubbles$Law" "answers" "[I") (List.mem_of_getElem? (i := 1) rfl)) (fun _ h9 => h9) rfl dX3_gives_17 ?_
    refine va_alen (v := nI n_answers) hx hb hK.1 hP 1 0 rfl rfl rfl dX3_gives_20 ?_
    refine lv_icmp_lt (tgt := 32) hx hb dX3_gives_21 (by decide) (fun c_4 => ?_) (fun c_4 => ?_)
    · replace h := it_t c_4 h
      refine lv_aload_n hx hb dX3_gives_32 rfl (lv_at hl 1 rfl) ?_
      refine va_get (D := D) (ci := 3) (v := .ref q_answers) (C := RX3) (T := TX3) (N := 14) hx hb hts in_X3_gives_X3 hown hK.1 hP 0 rfl rfl 4 (by decide) (hts (.fieldLink RX3 42 "PaperBubbles$Law" "answers" "[I") (List.mem_of_getElem? (i := 1) rfl)) (fun _ h9 => h9) rfl dX3_gives_33 ?_
      refine lv_iload hx hb dX3_gives_36 (lv_at hl 0 rfl) ?_
      replace h := chi_ok h
      obtain ⟨hi_5, h⟩ := h
      refine va_iald hx hb hK.1 hP 1 0 rfl rfl hi_5 dX3_gives_38 ?_
      replace h := nm_ok h
      obtain ⟨t_6, et_6, h⟩ := h
      refine gTop et_6 ?_
      refine lv_sipush (v := 128) hx hb dX3_gives_39 (by decide) ?_
      replace h := chz_ok h
      obtain ⟨hz_7, h⟩ := h
      refine lv_idiv hx hb dX3_gives_42 hz_7 ?_
      replace h := nm_ok h
      obtain ⟨t_8, et_8, h⟩ := h
      refine gTop et_8 ?_
      refine lv_aload_n hx hb dX3_gives_43 rfl (lv_at hl 1 rfl) ?_
      refine va_get (D := D) (ci := 3) (v := .int v_round) (C := RX3) (T := TX3) (N := 14) hx hb hts in_X3_gives_X3 hown hK.1 hP 0 rfl rfl 6 (by decide) (hts (.fieldLink RX3 18 "PaperBubbles$Law" "round" "I") (List.mem_of_getElem? (i := 2) rfl)) (fun _ h9 => h9) rfl dX3_gives_44 ?_
      refine lv_icmp_eq (tgt := 73) hx hb dX3_gives_47 (by decide) (fun c_9 => ?_) (fun c_9 => ?_)
      · replace h := it_t c_9 h
        exact t_L73 r_2 v_answers v_stack H locs hP hD hS ls (lv_sub hl [1, 0] rfl) h
      · replace h := it_f c_9 h
        refine lv_aload_n hx hb dX3_gives_50 rfl (lv_at hl 1 rfl) ?_
        refine va_get (D := D) (ci := 3) (v := .ref q_answers) (C := RX3) (T := TX3) (N := 14) hx hb hts in_X3_gives_X3 hown hK.1 hP 0 rfl rfl 4 (by decide) (hts (.fieldLink RX3 42 "PaperBubbles$Law" "answers" "[I") (List.mem_of_getElem? (i := 1) rfl)) (fun _ h9 => h9) rfl dX3_gives_51 ?_
        refine lv_iload hx hb dX3_gives_54 (lv_at hl 0 rfl) ?_
        refine lv_aload_n hx hb dX3_gives_56 rfl (lv_at hl 1 rfl) ?_
        refine va_get (D := D) (ci := 3) (v := .int v_round) (C := RX3) (T := TX3) (N := 14) hx hb hts in_X3_gives_X3 hown hK.1 hP 0 rfl rfl 6 (by decide) (hts (.fieldLink RX3 18 "PaperBubbles$Law" "round" "I") (List.mem_of_getElem? (i := 2) rfl)) (fun _ h9 => h9) rfl dX3_gives_57 ?_
        refine lv_sipush (v := 128) hx hb dX3_gives_60 (by decide) ?_
        refine lv_imul hx hb dX3_gives_63 ?_
        replace h := nm_ok h
        obtain ⟨t_10, et_10, h⟩ := h
        refine gTop et_10 ?_
        refine lv_aload_n hx hb dX3_gives_64 rfl (lv_at hl 1 rfl) ?_
        refine lv_iload_n hx hb dX3_gives_65 rfl (lv_at hl 2 rfl) ?_
        refine lv_iload_n hx hb dX3_gives_66 rfl (lv_at hl 3 rfl) ?_
        refine lv_iload_n hx hb dX3_gives_67 rfl (lv_at hl 4 rfl) ?_
        replace h := kb2_ok h
        obtain ⟨r_12, w_13, hc_11, h⟩ := h
        refine gCallI (isC := [0, 2, 3]) (wc := [(q_this, .inr (3, [.ref (c (10 + s_names)), .ref q_steps, .int v_length, .ref q_stack, .ref q_answers, .int v_side, .int v_round, .ref q_draft, .int v_drafted, .ref q_held, .int v_holding, .int v_open, .int v_digits, .int v_wantsOperand])), (q_stack, .inl (c 0, 50, .inl v_stack)), (q_steps, .inl (c 0, 50, .inl v_steps))]) (w1 := [(q_this, .inr (3, [.ref (c (10 + s_names)), .ref q_steps, .int v_length, .ref q_stack, .ref q_answers, .int v_side, .int v_round, .ref q_draft, .int v_drafted, .ref q_held, .int v_holding, .int v_open, .int v_digits, .int v_wantsOperand])), (q_stack, .inl (c 0, 50, .inl w_13)), (q_steps, .inl (c 0, 50, .inl v_steps))]) (ws2 := [(q_this, .inr (3, [.ref (c (10 + s_names)), .ref q_steps, .int v_length, .ref q_stack, .ref q_answers, .int v_side, .int v_round, .ref q_draft, .int v_drafted, .ref q_held, .int v_holding, .int v_open, .int v_digits, .int v_wantsOperand])), (q_answers, .inl (c 0, n_answers, .inl v_answers)), (q_stack, .inl (c 0, 50, .inl w_13)), (q_steps, .inl (c 0, 50, .inl v_steps))]) (ms := [(some 0), none, (some 1), (some 2)]) hP hD hS hA ⟨rfl, rfl, rfl, trivial⟩ (by decide +kernel) ⟨rfl, rfl, rfl, rfl, trivial⟩ (va_runV (rm := rm_X3_worksOut) (ws := wsX3_worksOut) (As := [.int a_1, .int a_2, .int a_3]) (rest := [.int t_10, .int r_2, .ref q_answers]) (gFix hF) (c_X3_worksOut l D c q_this q_steps q_stack q_answers q_draft q_held s_names a_1 a_2 a_3 v_length v_side v_round v_drafted v_holding v_open v_digits v_wantsOperand v_stack v_steps r_12 w_13 hc_11 H.size) (cwV 3 hts gX3_gives_X3_worksOut rfl rfl rfl (by decide +kernel) ⟨Nat.le_of_ble_eq_true rfl, Nat.le_of_ble_eq_true rfl⟩) (gPreV (wc := [(q_this, .inr (3, [.ref (c (10 + s_names)), .ref q_steps, .int v_length, .ref q_stack, .ref q_answers, .int v_side, .int v_round, .ref q_draft, .int v_drafted, .ref q_held, .int v_holding, .int v_open, .int v_digits, .int v_wantsOperand])), (q_stack, .inl (c 0, 50, .inl v_stack)), (q_steps, .inl (c 0, 50, .inl v_steps))]) (q := (RX3, TX3, 14)) (ci := 3) (q0 := 0) (isC := [0, 2, 3]) hK hX hS hA hP hD ⟨rfl, rfl, rfl, trivial⟩ (by decide +kernel) rfl rfl) rfl rfl hl.1 rfl (lv_room (Nat.le_of_ble_eq_true rfl)) dX3_gives_68 ⟨Nat.le_of_ble_eq_true rfl, Nat.le_of_ble_eq_true rfl⟩) (fun H locs hP hD hS => ?_)
        refine lv_iadd hx hb dX3_gives_71 ?_
        replace h := nm_ok h
        obtain ⟨t_14, et_14, h⟩ := h
        refine gTop et_14 ?_
        replace h := chi_ok h
        obtain ⟨hi_15, h⟩ := h
        replace h := nm_ok h
        obtain ⟨w_16, ew_16, h⟩ := h
        refine va_iast hx hb hK.1 hP hD hS 1 0 rfl rfl hi_15 dX3_gives_72 (fun H locs hP hD hS => ?_)
        have hP : va_P D gcl [(q_this, .inr (3, [.ref (c (10 + s_names)), .ref q_steps, .int v_length, .ref q_stack, .ref q_answers, .int v_side, .int v_round, .ref q_draft, .int v_drafted, .ref q_held, .int v_holding, .int v_open, .int v_digits, .int v_wantsOperand])), (q_answers, .inl (c 0, n_answers, .inl w_16)), (q_stack, .inl (c 0, 50, .inl w_13)), (q_steps, .inl (c 0, 50, .inl v_steps))] H := by subst ew_16; exact hP
        have hD : va_D A [(q_this, .inr (3, [.ref (c (10 + s_names)), .ref q_steps, .int v_length, .ref q_stack, .ref q_answers, .int v_side, .int v_round, .ref q_draft, .int v_drafted, .ref q_held, .int v_holding, .int v_open, .int v_digits, .int v_wantsOperand])), (q_answers, .inl (c 0, n_answers, .inl w_16)), (q_stack, .inl (c 0, 50, .inl w_13)), (q_steps, .inl (c 0, 50, .inl v_steps))] := by subst ew_16; exact hD
        exact t_L73 r_2 w_16 w_13 H locs hP hD hS ls (lv_sub hl [1, 0] rfl) h
    · replace h := it_f c_4 h
      exact t_L24 v_answers v_stack H locs hP hD hS ls (lv_sub hl [1, 2, 3, 4] rfl) h
abbrev rm_X8_moves : Room := { frames := 0, cells := 0, slots := 0, locals := 0 }
set_option maxHeartbeats 4000000 in
set_option maxRecDepth 100000 in
theorem c_X8_moves (l : Launch) (D : va_G) (c : Nat → ClassId) (q_this : Nat) (a_1 : Int32) (a_2 : Int32) (a_3 : Int32) (o_r : Int32) (h : f_X8_moves a_1 a_2 a_3 = some o_r) : gMI l yX8_moves wsX8_moves rm_X8_moves D c [.ref q_this, .int a_1, .int a_2, .int a_3] [] [] o_r := by
  refine gMI_of (cc := cX8_moves) (maxL := 4) (rt := (some .int)) (by decide +kernel) rfl (Nat.le_of_ble_eq_true rfl) ?_
  intro p e s m below meth co A hF hK hX hP hD hA hS ls hl
  obtain ⟨hx, hb, hr, hts, hown, hlocks, hml⟩ := id hF
  have hl : lv_has ls 4 [(0, .ref q_this), (1, .int a_1), (2, .int a_2), (3, .int a_3)] := hl
  unfold f_X8_moves at h
  refine lv_iload_n hx hb dX8_moves_0 rfl (lv_at hl 2 rfl) ?_
  replace h := so1 h
  subst h
  exact gIret hF hP hD hS rfl dX8_moves_1
abbrev rm_X4_moves : Room := { frames := 0, cells := 0, slots := 0, locals := 0 }
set_option maxHeartbeats 4000000 in
set_option maxRecDepth 100000 in
theorem c_X4_moves (l : Launch) (D : va_G) (c : Nat → ClassId) (q_this : Nat) (a_1 : Int32) (a_2 : Int32) (a_3 : Int32) (o_r : Int32) (h : f_X4_moves a_1 a_2 a_3 = some o_r) : gMI l yX4_moves wsX4_moves rm_X4_moves D c [.ref q_this, .int a_1, .int a_2, .int a_3] [] [] o_r := by
  refine gMI_of (cc := cX4_moves) (maxL := 4) (rt := (some .int)) (by decide +kernel) rfl (Nat.le_of_ble_eq_true rfl) ?_
  intro p e s m below meth co A hF hK hX hP hD hA hS ls hl
  obtain ⟨hx, hb, hr, hts, hown, hlocks, hml⟩ := id hF
  have hl : lv_has ls 4 [(0, .ref q_this), (1, .int a_1), (2, .int a_2), (3, .int a_3)] := hl
  unfold f_X4_moves at h
  refine lv_iconst (v := 0) hx hb dX4_moves_0 (by decide) ?_
  replace h := so1 h
  subst h
  exact gIret hF hP hD hS rfl dX4_moves_1
abbrev rm_X5_moves : Room := { frames := 0, cells := 0, slots := 0, locals := 0 }
set_option maxHeartbeats 4000000 in
set_option maxRecDepth 100000 in
theorem c_X5_moves (l : Launch) (D : va_G) (c : Nat → ClassId) (q_this : Nat) (a_1 : Int32) (a_2 : Int32) (a_3 : Int32) (o_r : Int32) (h : f_X5_moves a_1 a_2 a_3 = some o_r) : gMI l yX5_moves wsX5_moves rm_X5_moves D c [.ref q_this, .int a_1, .int a_2, .int a_3] [] [] o_r := by
  refine gMI_of (cc := cX5_moves) (maxL := 4) (rt := (some .int)) (by decide +kernel) rfl (Nat.le_of_ble_eq_true rfl) ?_
  intro p e s m below meth co A hF hK hX hP hD hA hS ls hl
  obtain ⟨hx, hb, hr, hts, hown, hlocks, hml⟩ := id hF
  have hl : lv_has ls 4 [(0, .ref q_this), (1, .int a_1), (2, .int a_2), (3, .int a_3)] := hl
  unfold f_X5_moves at h
  refine lv_iload_n hx hb dX5_moves_0 rfl (lv_at hl 1 rfl) ?_
  replace h := so1 h
  subst h
  exact gIret hF hP hD hS rfl dX5_moves_1
abbrev rm_X6_moves : Room := { frames := 1, cells := 0, slots := 0, locals := 23 }
set_option maxHeartbeats 4000000 in
set_option maxRecDepth 100000 in
theorem c_X6_moves (l : Launch) (D : va_G) (c : Nat → ClassId) (q_this : Nat) (a_1 : Int32) (a_2 : Int32) (a_3 : Int32) (o_r : Int32) (h : f_X6_moves a_1 a_2 a_3 = some o_r) : gMI l yX6_moves wsX6_moves rm_X6_moves D c [.ref q_this, .int a_1, .int a_2, .int a_3] [(q_this, .inr (6, []))] [(q_this, .inr (6, []))] o_r := by
  refine gMI_of (cc := cX6_moves) (maxL := 4) (rt := (some .int)) (by decide +kernel) rfl (Nat.le_of_ble_eq_true rfl) ?_
  intro p e s m below meth co A hF hK hX hP hD hA hS ls hl
  obtain ⟨hx, hb, hr, hts, hown, hlocks, hml⟩ := id hF
  have hl : lv_has ls 4 [(0, .ref q_this), (1, .int a_1), (2, .int a_2), (3, .int a_3)] := hl
  unfold f_X6_moves at h
  refine lv_aload_n hx hb dX6_moves_0 rfl (lv_at hl 0 rfl) ?_
  refine lv_iload_n hx hb dX6_moves_1 rfl (lv_at hl 1 rfl) ?_
  refine lv_iload_n hx hb dX6_moves_2 rfl (lv_at hl 2 rfl) ?_
  refine lv_iload_n hx hb dX6_moves_3 rfl (lv_at hl 3 rfl) ?_
  replace h := kb_ok h
  obtain ⟨r_2, hc_1, h⟩ := h
  refine gCallIr (isC := []) (wc := []) hP hD hS hA trivial (va_runSU (rm := rm_X0_moves) (ws := wsX0_moves) (As := [.int a_1, .int a_2, .int a_3]) (rest := []) (hK.1.1 6 _ rfl).2 (gFix hF) (c_X0_moves l D c q_this a_1 a_2 a_3 r_2 hc_1 s.heap.size) (va_cwSU 3 hts gX6_moves_X0_moves_s11 rfl rfl rfl (by decide +kernel) ⟨Nat.le_of_ble_eq_true rfl, Nat.le_of_ble_eq_true rfl⟩) (gPreV (wc := []) (q := (RX6, TX6, 0)) (ci := 6) (q0 := 0) (isC := []) hK hX hS hA hP hD trivial (by decide +kernel) rfl rfl) rfl rfl hl.1 rfl (lv_room (Nat.le_of_ble_eq_true rfl)) dX6_moves_4 ⟨Nat.le_of_ble_eq_true rfl, Nat.le_of_ble_eq_true rfl⟩) (fun H locs hP hS => ?_)
  refine lv_iconst (v := 2) hx hb dX6_moves_7 (by decide) ?_
  replace h := chz_ok h
  obtain ⟨hz_3, h⟩ := h
  refine lv_idiv hx hb dX6_moves_8 hz_3 ?_
  replace h := so1 h
  subst h
  exact gIret hF hP hD hS rfl dX6_moves_9
abbrev rm_X1_moves : Room := { frames := 1, cells := 0, slots := 0, locals := 23 }
set_option maxHeartbeats 4000000 in
set_option maxRecDepth 100000 in
theorem c_X1_moves (l : Launch) (D : va_G) (c : Nat → ClassId) (q_this : Nat) (a_1 : Int32) (a_2 : Int32) (a_3 : Int32) (o_r : Int32) (h : f_X1_moves a_1 a_2 a_3 = some o_r) : gMI l yX1_moves wsX1_moves rm_X1_moves D c [.ref q_this, .int a_1, .int a_2, .int a_3] [(q_this, .inr (1, []))] [(q_this, .inr (1, []))] o_r := by
  refine gMI_of (cc := cX1_moves) (maxL := 4) (rt := (some .int)) (by decide +kernel) rfl (Nat.le_of_ble_eq_true rfl) ?_
  intro p e s m below meth co A hF hK hX hP hD hA hS ls hl
  obtain ⟨hx, hb, hr, hts, hown, hlocks, hml⟩ := id hF
  have hl : lv_has ls 4 [(0, .ref q_this), (1, .int a_1), (2, .int a_2), (3, .int a_3)] := hl
  unfold f_X1_moves at h
  refine lv_iconst (v := 0) hx hb dX1_moves_0 (by decide) ?_
  refine lv_aload_n hx hb dX1_moves_1 rfl (lv_at hl 0 rfl) ?_
  refine lv_iload_n hx hb dX1_moves_2 rfl (lv_at hl 1 rfl) ?_
  refine lv_iload_n hx hb dX1_moves_3 rfl (lv_at hl 2 rfl) ?_
  refine lv_iload_n hx hb dX1_moves_4 rfl (lv_at hl 3 rfl) ?_
  replace h := kb_ok h
  obtain ⟨r_2, hc_1, h⟩ := h
  refine gCallIr (isC := []) (wc := []) hP hD hS hA trivial (va_runSU (rm := rm_X5_moves) (ws := wsX5_moves) (As := [.int a_1, .int a_2, .int a_3]) (rest := [.int 0]) (hK.1.1 1 _ rfl).2 (gFix hF) (c_X5_moves l D c q_this a_1 a_2 a_3 r_2 hc_1 s.heap.size) (va_cwSU 3 hts gX1_moves_X5_moves_s11 rfl rfl rfl (by decide +kernel) ⟨Nat.le_of_ble_eq_true rfl, Nat.le_of_ble_eq_true rfl⟩) (gPreV (wc := []) (q := (RX1, TX1, 0)) (ci := 1) (q0 := 0) (isC := []) hK hX hS hA hP hD trivial (by decide +kernel) rfl rfl) rfl rfl hl.1 rfl (lv_room (Nat.le_of_ble_eq_true rfl)) dX1_moves_5 ⟨Nat.le_of_ble_eq_true rfl, Nat.le_of_ble_eq_true rfl⟩) (fun H locs hP hS => ?_)
  refine lv_iload_n hx hb dX1_moves_8 rfl (lv_at hl 3 rfl) ?_
  refine lv_isub hx hb dX1_moves_9 ?_
  replace h := nm_ok h
  obtain ⟨t_3, et_3, h⟩ := h
  refine gTop et_3 ?_
  refine va_mmax hx hb (by rw [hml]; exact hl.1.symm) hown (hts (.methodLink RX1 15 Lib.Math.max.name) (List.mem_of_getElem? (i := 1) rfl)) (hts (.static Lib.Math.max.name) (List.mem_of_getElem? (i := 2) rfl)) (hts (.initialized "java/lang/Math") (List.mem_of_getElem? (i := 3) rfl)) (hts (.code Lib.Math.max.name Lib.Math.max.code 2 (some .int)) (List.mem_of_getElem? (i := 4) rfl)) (Nat.le_of_ble_eq_true rfl) (by first | exact Nat.le_of_ble_eq_true rfl | decide) (Nat.le_of_ble_eq_true rfl) (Nat.le_of_ble_eq_true rfl) dX1_moves_10 ?_
  replace h := nm_ok h
  obtain ⟨t_4, et_4, h⟩ := h
  refine gTop et_4 ?_
  replace h := so1 h
  subst h
  exact gIret hF hP hD hS rfl dX1_moves_13
theorem td_moves {k : Int32} {a_1 : Int32} {a_2 : Int32} {a_3 : Int32} {o : Int32} (h : f_TD_moves k a_1 a_2 a_3 = some o) : (k = 0 ∧ f_X8_moves a_1 a_2 a_3 = some o) ∨ (k = 1 ∧ f_X0_moves a_1 a_2 a_3 = some o) ∨ (k = 2 ∧ f_X4_moves a_1 a_2 a_3 = some o) ∨ (k = 3 ∧ f_X5_moves a_1 a_2 a_3 = some o) ∨ (k = 4 ∧ f_X6_moves a_1 a_2 a_3 = some o) ∨ (k = 5 ∧ f_X4_moves a_1 a_2 a_3 = some o) ∨ (k = 6 ∧ f_X1_moves a_1 a_2 a_3 = some o) := by
  unfold f_TD_moves at h
  by_cases c0 : k = 0
  · exact Or.inl ⟨c0, it_t c0 h⟩
  replace h := it_f c0 h
  by_cases c1 : k = 1
  · exact Or.inr (Or.inl ⟨c1, it_t c1 h⟩)
  replace h := it_f c1 h
  by_cases c2 : k = 2
  · exact Or.inr (Or.inr (Or.inl ⟨c2, it_t c2 h⟩))
  replace h := it_f c2 h
  by_cases c3 : k = 3
  · exact Or.inr (Or.inr (Or.inr (Or.inl ⟨c3, it_t c3 h⟩)))
  replace h := it_f c3 h
  by_cases c4 : k = 4
  · exact Or.inr (Or.inr (Or.inr (Or.inr (Or.inl ⟨c4, it_t c4 h⟩))))
  replace h := it_f c4 h
  by_cases c5 : k = 5
  · exact Or.inr (Or.inr (Or.inr (Or.inr (Or.inr (Or.inl ⟨c5, it_t c5 h⟩)))))
  replace h := it_f c5 h
  by_cases c6 : k = 6
  · exact Or.inr (Or.inr (Or.inr (Or.inr (Or.inr (Or.inr (⟨c6, it_t c6 h⟩))))))
  replace h := it_f c6 h
  exact no_ok h
set_option maxRecDepth 20000 in
theorem in_X10_pushOn_X10 : ∀ w ∈ u_ws RX10 TX10 11, w ∈ wsX10_pushOn := by decide +kernel
abbrev rm_X10_pushOn : Room := { frames := 3, cells := 0, slots := 0, locals := 73 }
set_option maxHeartbeats 4000000 in
set_option maxRecDepth 100000 in
theorem c_X10_pushOn (l : Launch) (D : va_G) (c : Nat → ClassId) (q_this q_p3 q_air q_paste q_open q_met q_line q_p3_steps q_p3_stack q_p3_answers q_p3_draft q_p3_held : Nat) (ta : Nat → Nat) (s_p3_names : Nat) (n_p3_answers : Nat) (a_2 : Int32) (a_4 : Int32) (a_5 : Int32) (k_1 : Int32) (v_rows : Int32) (v_columns : Int32) (v_holes : Int32) (v_out : Int32) (v_night : Int32) (v_inLine : Int32) (v_air : Nat → Int32) (v_open : Nat → Int32) (v_paste : Nat → Int32) (v_p3_length : Int32) (v_p3_side : Int32) (v_p3_round : Int32) (v_p3_drafted : Int32) (v_p3_holding : Int32) (v_p3_open : Int32) (v_p3_digits : Int32) (v_p3_wantsOperand : Int32) (v_p3_answers : Nat → Int32) (v_p3_stack : Nat → Int32) (v_p3_steps : Nat → Int32) (o_r : Int32) (o_v_out : Int32) (o_v_air : Nat → Int32) (o_v_p3_answers : Nat → Int32) (o_v_p3_stack : Nat → Int32) (h : f_X10_pushOn a_2 a_4 a_5 k_1 n_p3_answers v_rows v_columns v_out v_air v_open v_paste v_p3_length v_p3_side v_p3_round v_p3_answers v_p3_stack v_p3_steps = some (o_r, o_v_out, o_v_air, o_v_p3_answers, o_v_p3_stack)) : gMI l yX10_pushOn wsX10_pushOn rm_X10_pushOn D c [.ref q_this, .ref (ta k_1.toNatClampNeg), .int a_2, .ref q_p3, .int a_4, .int a_5] [(q_this, .inr (10, [.int v_rows, .int v_columns, .ref q_air, .ref q_paste, .ref q_open, .int v_holes, .int v_out, .int v_night, .ref q_met, .ref q_line, .int v_inLine])), (q_air, .inl (c 0, 25, .inl v_air)), (q_open, .inl (c 0, 4, .inl v_open)), (q_paste, .inl (c 0, 25, .inl v_paste)), (q_p3, .inr (3, [.ref (c (10 + s_p3_names)), .ref q_p3_steps, .int v_p3_length, .ref q_p3_stack, .ref q_p3_answers, .int v_p3_side, .int v_p3_round, .ref q_p3_draft, .int v_p3_drafted, .ref q_p3_held, .int v_p3_holding, .int v_p3_open, .int v_p3_digits, .int v_p3_wantsOperand])), (q_p3_answers, .inl (c 0, n_p3_answers, .inl v_p3_answers)), (q_p3_stack, .inl (c 0, 50, .inl v_p3_stack)), (q_p3_steps, .inl (c 0, 50, .inl v_p3_steps)), (ta 0, .inr (8, [])), (ta 1, .inr (0, [])), (ta 2, .inr (4, [])), (ta 3, .inr (5, [])), (ta 4, .inr (6, [])), (ta 5, .inr (2, [])), (ta 6, .inr (1, []))] [(q_this, .inr (10, [.int v_rows, .int v_columns, .ref q_air, .ref q_paste, .ref q_open, .int v_holes, .int o_v_out, .int v_night, .ref q_met, .ref q_line, .int v_inLine])), (q_air, .inl (c 0, 25, .inl o_v_air)), (q_open, .inl (c 0, 4, .inl v_open)), (q_paste, .inl (c 0, 25, .inl v_paste)), (q_p3, .inr (3, [.ref (c (10 + s_p3_names)), .ref q_p3_steps, .int v_p3_length, .ref q_p3_stack, .ref q_p3_answers, .int v_p3_side, .int v_p3_round, .ref q_p3_draft, .int v_p3_drafted, .ref q_p3_held, .int v_p3_holding, .int v_p3_open, .int v_p3_digits, .int v_p3_wantsOperand])), (q_p3_answers, .inl (c 0, n_p3_answers, .inl o_v_p3_answers)), (q_p3_stack, .inl (c 0, 50, .inl o_v_p3_stack)), (q_p3_steps, .inl (c 0, 50, .inl v_p3_steps)), (ta 0, .inr (8, [])), (ta 1, .inr (0, [])), (ta 2, .inr (4, [])), (ta 3, .inr (5, [])), (ta 4, .inr (6, [])), (ta 5, .inr (2, [])), (ta 6, .inr (1, []))] o_r := by
  refine gMI_of (cc := cX10_pushOn) (maxL := 9) (rt := (some .int)) (by decide +kernel) rfl (Nat.le_of_ble_eq_true rfl) ?_
  intro p e s m below meth co A hF hK hX hP hD hA hS ls hl
  obtain ⟨hx, hb, hr, hts, hown, hlocks, hml⟩ := id hF
  have hl : lv_has ls 9 [(0, .ref q_this), (1, .ref (ta k_1.toNatClampNeg)), (2, .int a_2), (3, .ref q_p3), (4, .int a_4), (5, .int a_5)] := hl
  unfold f_X10_pushOn at h
  refine lv_aload_n hx hb dX10_pushOn_0 rfl (lv_at hl 0 rfl) ?_
  refine va_get (D := D) (ci := 10) (v := .ref q_air) (C := RX10) (T := TX10) (N := 11) hx hb hts in_X10_pushOn_X10 hown hK.1 hP 0 rfl rfl 2 (by decide) (hts (.fieldLink RX10 18 "PaperBubbles$Wall" "air" "[I") (List.mem_of_getElem? (i := 1) rfl)) (fun _ h9 => h9) rfl dX10_pushOn_1 ?_
  refine lv_iload hx hb dX10_pushOn_4 (lv_at hl 4 rfl) ?_
  replace h := chi_ok h
  obtain ⟨hi_1, h⟩ := h
  refine va_iald hx hb hK.1 hP 1 0 rfl rfl hi_1 dX10_pushOn_6 ?_
  replace h := nm_ok h
  obtain ⟨t_2, et_2, h⟩ := h
  refine gTop et_2 ?_
  refine lv_aload_n hx hb dX10_pushOn_7 rfl (lv_at hl 1 rfl) ?_
  refine lv_aload_n hx hb dX10_pushOn_8 rfl (lv_at hl 0 rfl) ?_
  refine va_get (D := D) (ci := 10) (v := .ref q_air) (C := RX10) (T := TX10) (N := 11) hx hb hts in_X10_pushOn_X10 hown hK.1 hP 0 rfl rfl 2 (by decide) (hts (.fieldLink RX10 18 "PaperBubbles$Wall" "air" "[I") (List.mem_of_getElem? (i := 1) rfl)) (fun _ h9 => h9) rfl dX10_pushOn_9 ?_
  refine lv_iload hx hb dX10_pushOn_12 (lv_at hl 4 rfl) ?_
  replace h := chi_ok h
  obtain ⟨hi_3, h⟩ := h
  refine va_iald hx hb hK.1 hP 1 0 rfl rfl hi_3 dX10_pushOn_14 ?_
  replace h := nm_ok h
  obtain ⟨t_4, et_4, h⟩ := h
  refine gTop et_4 ?_
  refine lv_aload_n hx hb dX10_pushOn_15 rfl (lv_at hl 3 rfl) ?_
  refine lv_aload_n hx hb dX10_pushOn_16 rfl (lv_at hl 0 rfl) ?_
  refine va_get (D := D) (ci := 10) (v := .ref q_air) (C := RX10) (T := TX10) (N := 11) hx hb hts in_X10_pushOn_X10 hown hK.1 hP 0 rfl rfl 2 (by decide) (hts (.fieldLink RX10 18 "PaperBubbles$Wall" "air" "[I") (List.mem_of_getElem? (i := 1) rfl)) (fun _ h9 => h9) rfl dX10_pushOn_17 ?_
  refine lv_iload hx hb dX10_pushOn_20 (lv_at hl 4 rfl) ?_
  replace h := chi_ok h
  obtain ⟨hi_5, h⟩ := h
  refine va_iald hx hb hK.1 hP 1 0 rfl rfl hi_5 dX10_pushOn_22 ?_
  replace h := nm_ok h
  obtain ⟨t_6, et_6, h⟩ := h
  refine gTop et_6 ?_
  refine lv_aload_n hx hb dX10_pushOn_23 rfl (lv_at hl 0 rfl) ?_
  refine va_get (D := D) (ci := 10) (v := .ref q_paste) (C := RX10) (T := TX10) (N := 11) hx hb hts in_X10_pushOn_X10 hown hK.1 hP 0 rfl rfl 3 (by decide) (hts (.fieldLink RX10 22 "PaperBubbles$Wall" "paste" "[I") (List.mem_of_getElem? (i := 2) rfl)) (fun _ h9 => h9) rfl dX10_pushOn_24 ?_
  refine lv_iload hx hb dX10_pushOn_27 (lv_at hl 4 rfl) ?_
  replace h := chi_ok h
  obtain ⟨hi_7, h⟩ := h
  refine va_iald hx hb hK.1 hP 3 0 rfl rfl hi_7 dX10_pushOn_29 ?_
  replace h := nm_ok h
  obtain ⟨t_8, et_8, h⟩ := h
  refine gTop et_8 ?_
  refine lv_iload_n hx hb dX10_pushOn_30 rfl (lv_at hl 2 rfl) ?_
  replace h := kb3_ok h
  obtain ⟨r_10, w_11, w_12, hc_9, h⟩ := h
  refine gCallI (isC := [4, 5, 6, 7]) (wc := [(q_p3, .inr (3, [.ref (c (10 + s_p3_names)), .ref q_p3_steps, .int v_p3_length, .ref q_p3_stack, .ref q_p3_answers, .int v_p3_side, .int v_p3_round, .ref q_p3_draft, .int v_p3_drafted, .ref q_p3_held, .int v_p3_holding, .int v_p3_open, .int v_p3_digits, .int v_p3_wantsOperand])), (q_p3_answers, .inl (c 0, n_p3_answers, .inl v_p3_answers)), (q_p3_stack, .inl (c 0, 50, .inl v_p3_stack)), (q_p3_steps, .inl (c 0, 50, .inl v_p3_steps))]) (w1 := [(q_p3, .inr (3, [.ref (c (10 + s_p3_names)), .ref q_p3_steps, .int v_p3_length, .ref q_p3_stack, .ref q_p3_answers, .int v_p3_side, .int v_p3_round, .ref q_p3_draft, .int v_p3_drafted, .ref q_p3_held, .int v_p3_holding, .int v_p3_open, .int v_p3_digits, .int v_p3_wantsOperand])), (q_p3_answers, .inl (c 0, n_p3_answers, .inl w_11)), (q_p3_stack, .inl (c 0, 50, .inl w_12)), (q_p3_steps, .inl (c 0, 50, .inl v_p3_steps))]) (ws2 := [(q_this, .inr (10, [.int v_rows, .int v_columns, .ref q_air, .ref q_paste, .ref q_open, .int v_holes, .int v_out, .int v_night, .ref q_met, .ref q_line, .int v_inLine])), (q_air, .inl (c 0, 25, .inl v_air)), (q_open, .inl (c 0, 4, .inl v_open)), (q_paste, .inl (c 0, 25, .inl v_paste)), (q_p3, .inr (3, [.ref (c (10 + s_p3_names)), .ref q_p3_steps, .int v_p3_length, .ref q_p3_stack, .ref q_p3_answers, .int v_p3_side, .int v_p3_round, .ref q_p3_draft, .int v_p3_drafted, .ref q_p3_held, .int v_p3_holding, .int v_p3_open, .int v_p3_digits, .int v_p3_wantsOperand])), (q_p3_answers, .inl (c 0, n_p3_answers, .inl w_11)), (q_p3_stack, .inl (c 0, 50, .inl w_12)), (q_p3_steps, .inl (c 0, 50, .inl v_p3_steps)), (ta 0, .inr (8, [])), (ta 1, .inr (0, [])), (ta 2, .inr (4, [])), (ta 3, .inr (5, [])), (ta 4, .inr (6, [])), (ta 5, .inr (2, [])), (ta 6, .inr (1, []))]) (ms := [none, none, none, none, (some 0), (some 1), (some 2), (some 3), none, none, none, none, none, none, none]) hP hD hS hA ⟨rfl, rfl, rfl, rfl, trivial⟩ (by decide +kernel) ⟨rfl, rfl, rfl, rfl, rfl, rfl, rfl, rfl, rfl, rfl, rfl, rfl, rfl, rfl, rfl, trivial⟩ (va_runV (rm := rm_X3_gives) (ws := wsX3_gives) (As := [.int t_6, .int t_8, .int a_2]) (rest := [.int t_4, .ref (ta k_1.toNatClampNeg), .int t_2]) (gFix hF) (c_X3_gives l D c q_p3 q_p3_steps q_p3_stack q_p3_answers q_p3_draft q_p3_held s_p3_names n_p3_answers t_6 t_8 a_2 v_p3_length v_p3_side v_p3_round v_p3_drafted v_p3_holding v_p3_open v_p3_digits v_p3_wantsOperand v_p3_answers v_p3_stack v_p3_steps r_10 w_11 w_12 hc_9 s.heap.size) (cwV 3 hts gX10_pushOn_X3_gives rfl rfl rfl (by decide +kernel) ⟨Nat.le_of_ble_eq_true rfl, Nat.le_of_ble_eq_true rfl⟩) (gPreV (wc := [(q_p3, .inr (3, [.ref (c (10 + s_p3_names)), .ref q_p3_steps, .int v_p3_length, .ref q_p3_stack, .ref q_p3_answers, .int v_p3_side, .int v_p3_round, .ref q_p3_draft, .int v_p3_drafted, .ref q_p3_held, .int v_p3_holding, .int v_p3_open, .int v_p3_digits, .int v_p3_wantsOperand])), (q_p3_answers, .inl (c 0, n_p3_answers, .inl v_p3_answers)), (q_p3_stack, .inl (c 0, 50, .inl v_p3_stack)), (q_p3_steps, .inl (c 0, 50, .inl v_p3_steps))]) (q := (RX3, TX3, 14)) (ci := 3) (q0 := 4) (isC := [4, 5, 6, 7]) hK hX hS hA hP hD ⟨rfl, rfl, rfl, rfl, trivial⟩ (by decide +kernel) rfl rfl) rfl rfl hl.1 rfl (lv_room (Nat.le_of_ble_eq_true rfl)) dX10_pushOn_31 ⟨Nat.le_of_ble_eq_true rfl, Nat.le_of_ble_eq_true rfl⟩) (fun H locs hP hD hS => ?_)
  refine lv_iload_n hx hb dX10_pushOn_34 rfl (lv_at hl 2 rfl) ?_
  replace h := kb_ok h
  obtain ⟨r_14, hc_13, h⟩ := h
  have cont_15 : ∀ (H : Heap) (locs : List Loc), va_P D gcl [(q_this, .inr (10, [.int v_rows, .int v_columns, .ref q_air, .ref q_paste, .ref q_open, .int v_holes, .int v_out, .int v_night, .ref q_met, .ref q_line, .int v_inLine])), (q_air, .inl (c 0, 25, .inl v_air)), (q_open, .inl (c 0, 4, .inl v_open)), (q_paste, .inl (c 0, 25, .inl v_paste)), (q_p3, .inr (3, [.ref (c (10 + s_p3_names)), .ref q_p3_steps, .int v_p3_length, .ref q_p3_stack, .ref q_p3_answers, .int v_p3_side, .int v_p3_round, .ref q_p3_draft, .int v_p3_drafted, .ref q_p3_held, .int v_p3_holding, .int v_p3_open, .int v_p3_digits, .int v_p3_wantsOperand])), (q_p3_answers, .inl (c 0, n_p3_answers, .inl w_11)), (q_p3_stack, .inl (c 0, 50, .inl w_12)), (q_p3_steps, .inl (c 0, 50, .inl v_p3_steps)), (ta 0, .inr (8, [])), (ta 1, .inr (0, [])), (ta 2, .inr (4, [])), (ta 3, .inr (5, [])), (ta 4, .inr (6, [])), (ta 5, .inr (2, [])), (ta 6, .inr (1, []))] H → va_D A [(q_this, .inr (10, [.int v_rows, .int v_columns, .ref q_air, .ref q_paste, .ref q_open, .int v_holes, .int v_out, .int v_night, .ref q_met, .ref q_line, .int v_inLine])), (q_air, .inl (c 0, 25, .inl v_air)), (q_open, .inl (c 0, 4, .inl v_open)), (q_paste, .inl (c 0, 25, .inl v_paste)), (q_p3, .inr (3, [.ref (c (10 + s_p3_names)), .ref q_p3_steps, .int v_p3_length, .ref q_p3_stack, .ref q_p3_answers, .int v_p3_side, .int v_p3_round, .ref q_p3_draft, .int v_p3_drafted, .ref q_p3_held, .int v_p3_holding, .int v_p3_open, .int v_p3_digits, .int v_p3_wantsOperand])), (q_p3_answers, .inl (c 0, n_p3_answers, .inl w_11)), (q_p3_stack, .inl (c 0, 50, .inl w_12)), (q_p3_steps, .inl (c 0, 50, .inl v_p3_steps)), (ta 0, .inr (8, [])), (ta 1, .inr (0, [])), (ta 2, .inr (4, [])), (ta 3, .inr (5, [])), (ta 4, .inr (6, [])), (ta 5, .inr (2, [])), (ta 6, .inr (1, []))] → va_S A s.heap H locs → W p l e (headSpec wsX10_pushOn rm_X10_pushOn).room s m [.ref q_this, .ref (ta k_1.toNatClampNeg), .int a_2, .ref q_p3, .int a_4, .int a_5].toArray below meth co H locs 0 0 (gQI D [(q_this, .inr (10, [.int v_rows, .int v_columns, .ref q_air, .ref q_paste, .ref q_open, .int v_holes, .int o_v_out, .int v_night, .ref q_met, .ref q_line, .int v_inLine])), (q_air, .inl (c 0, 25, .inl o_v_air)), (q_open, .inl (c 0, 4, .inl v_open)), (q_paste, .inl (c 0, 25, .inl v_paste)), (q_p3, .inr (3, [.ref (c (10 + s_p3_names)), .ref q_p3_steps, .int v_p3_length, .ref q_p3_stack, .ref q_p3_answers, .int v_p3_side, .int v_p3_round, .ref q_p3_draft, .int v_p3_drafted, .ref q_p3_held, .int v_p3_holding, .int v_p3_open, .int v_p3_digits, .int v_p3_wantsOperand])), (q_p3_answers, .inl (c 0, n_p3_answers, .inl o_v_p3_answers)), (q_p3_stack, .inl (c 0, 50, .inl o_v_p3_stack)), (q_p3_steps, .inl (c 0, 50, .inl v_p3_steps)), (ta 0, .inr (8, [])), (ta 1, .inr (0, [])), (ta 2, .inr (4, [])), (ta 3, .inr (5, [])), (ta 4, .inr (6, [])), (ta 5, .inr (2, [])), (ta 6, .inr (1, []))] o_r A below [.ref q_this, .ref (ta k_1.toNatClampNeg), .int a_2, .ref q_p3, .int a_4, .int a_5] s) (F0 m 38 ls [.int r_14, .int t_2]) := by
    intro H locs hP hD hS
    refine va_mmin hx hb (by rw [hml]; exact hl.1.symm) hown (hts (.methodLink RX10 82 Lib.Math.min.name) (List.mem_of_getElem? (i := 3) rfl)) (hts (.static Lib.Math.min.name) (List.mem_of_getElem? (i := 4) rfl)) (hts (.initialized "java/lang/Math") (List.mem_of_getElem? (i := 5) rfl)) (hts (.code Lib.Math.min.name Lib.Math.min.code 2 (some .int)) (List.mem_of_getElem? (i := 6) rfl)) (Nat.le_of_ble_eq_true rfl) (by first | exact Nat.le_of_ble_eq_true rfl | decide) (Nat.le_of_ble_eq_true rfl) (Nat.le_of_ble_eq_true rfl) dX10_pushOn_38 ?_
    replace h := nm_ok h
    obtain ⟨t_16, et_16, h⟩ := h
    refine gTop et_16 ?_
    refine lv_istore (lv' := [(6, .int t_16), (0, .ref q_this), (1, .ref (ta k_1.toNatClampNeg)), (2, .int a_2), (3, .ref q_p3), (4, .int a_4), (5, .int a_5)]) hx hb dX10_pushOn_41 hl (by decide) rfl (fun ls hl => ?_)
    refine lv_aload_n hx hb dX10_pushOn_43 rfl (lv_at hl 1 rfl) ?_
    refine lv_iload hx hb dX10_pushOn_44 (lv_at hl 5 rfl) ?_
    refine lv_iload hx hb dX10_pushOn_46 (lv_at hl 6 rfl) ?_
    replace h := kb_ok h
    obtain ⟨r_18, hc_17, h⟩ := h
    refine gCallIr (isC := [0]) (wc := [(q_this, .inr (10, [.int v_rows, .int v_columns, .ref q_air, .ref q_paste, .ref q_open, .int v_holes, .int v_out, .int v_night, .ref q_met, .ref q_line, .int v_inLine]))]) hP hD hS hA ⟨rfl, trivial⟩ (va_runV (rm := rm_X10_beside) (ws := wsX10_beside) (As := [.int a_4, .int a_5]) (rest := []) (gFix hF) (c_X10_beside l D c q_this q_air q_paste q_open q_met q_line a_4 a_5 v_rows v_columns v_holes v_out v_night v_inLine r_18 hc_17 H.size) (cwV 2 hts gX10_pushOn_X10_beside rfl rfl rfl (by decide +kernel) ⟨Nat.le_of_ble_eq_true rfl, Nat.le_of_ble_eq_true rfl⟩) (gPreV (wc := [(q_this, .inr (10, [.int v_rows, .int v_columns, .ref q_air, .ref q_paste, .ref q_open, .int v_holes, .int v_out, .int v_night, .ref q_met, .ref q_line, .int v_inLine]))]) (q := (RX10, TX10, 11)) (ci := 10) (q0 := 0) (isC := [0]) hK hX hS hA hP hD ⟨rfl, trivial⟩ (by decide +kernel) rfl rfl) rfl rfl hl.1 rfl (lv_room (Nat.le_of_ble_eq_true rfl)) dX10_pushOn_48 ⟨Nat.le_of_ble_eq_true rfl, Nat.le_of_ble_eq_true rfl⟩) (fun H locs hP hS => ?_)
    refine lv_istore (lv' := [(7, .int r_18), (6, .int t_16), (0, .ref q_this), (1, .ref (ta k_1.toNatClampNeg)), (2, .int a_2), (3, .ref q_p3), (4, .int a_4), (5, .int a_5)]) hx hb dX10_pushOn_51 hl (by decide) rfl (fun ls hl => ?_)
    refine lv_aload_n hx hb dX10_pushOn_53 rfl (lv_at hl 2 rfl) ?_
    refine lv_iload hx hb dX10_pushOn_54 (lv_at hl 0 rfl) ?_
    replace h := kb_ok h
    obtain ⟨r_20, hc_19, h⟩ := h
    refine gCallIr (isC := [0]) (wc := [(q_this, .inr (10, [.int v_rows, .int v_columns, .ref q_air, .ref q_paste, .ref q_open, .int v_holes, .int v_out, .int v_night, .ref q_met, .ref q_line, .int v_inLine]))]) hP hD hS hA ⟨rfl, trivial⟩ (va_runV (rm := rm_X10_has) (ws := wsX10_has) (As := [.int r_18]) (rest := []) (gFix hF) (c_X10_has l D c q_this q_air q_paste q_open q_met q_line r_18 v_rows v_columns v_holes v_out v_night v_inLine r_20 hc_19 H.size) (cwV 1 hts gX10_pushOn_X10_has rfl rfl rfl (by decide +kernel) ⟨Nat.le_of_ble_eq_true rfl, Nat.le_of_ble_eq_true rfl⟩) (gPreV (wc := [(q_this, .inr (10, [.int v_rows, .int v_columns, .ref q_air, .ref q_paste, .ref q_open, .int v_holes, .int v_out, .int v_night, .ref q_met, .ref q_line, .int v_inLine]))]) (q := (RX10, TX10, 11)) (ci := 10) (q0 := 0) (isC := [0]) hK hX hS hA hP hD ⟨rfl, trivial⟩ (by decide +kernel) rfl rfl) rfl rfl hl.1 rfl (lv_room (Nat.le_of_ble_eq_true rfl)) dX10_pushOn_56 ⟨Nat.le_of_ble_eq_true rfl, Nat.le_of_ble_eq_true rfl⟩) (fun H locs hP hS => ?_)
    refine lv_if_eq (tgt := 117) hx hb dX10_pushOn_59 (by decide) (fun c_21 => ?_) (fun c_21 => ?_)
    · replace h := it_t c_21 h
      refine lv_aload_n hx hb dX10_pushOn_117 rfl (lv_at hl 2 rfl) ?_
      refine lv_iload hx hb dX10_pushOn_118 (lv_at hl 7 rfl) ?_
      replace h := kb_ok h
      obtain ⟨r_23, hc_22, h⟩ := h
      refine gCallIr (isC := [0, 2]) (wc := [(q_this, .inr (10, [.int v_rows, .int v_columns, .ref q_air, .ref q_paste, .ref q_open, .int v_holes, .int v_out, .int v_night, .ref q_met, .ref q_line, .int v_inLine])), (q_open, .inl (c 0, 4, .inl v_open))]) hP hD hS hA ⟨rfl, rfl, trivial⟩ (va_runV (rm := rm_X10_isOpen) (ws := wsX10_isOpen) (As := [.int a_5]) (rest := []) (gFix hF) (c_X10_isOpen l D c q_this q_air q_paste q_open q_met q_line a_5 v_rows v_columns v_holes v_out v_night v_inLine v_open r_23 hc_22 H.size) (cwV 1 hts gX10_pushOn_X10_isOpen rfl rfl rfl (by decide +kernel) ⟨Nat.le_of_ble_eq_true rfl, Nat.le_of_ble_eq_true rfl⟩) (gPreV (wc := [(q_this, .inr (10, [.int v_rows, .int v_columns, .ref q_air, .ref q_paste, .ref q_open, .int v_holes, .int v_out, .int v_night, .ref q_met, .ref q_line, .int v_inLine])), (q_open, .inl (c 0, 4, .inl v_open))]) (q := (RX10, TX10, 11)) (ci := 10) (q0 := 0) (isC := [0, 2]) hK hX hS hA hP hD ⟨rfl, rfl, trivial⟩ (by decide +kernel) rfl rfl) rfl rfl hl.1 rfl (lv_room (Nat.le_of_ble_eq_true rfl)) dX10_pushOn_120 ⟨Nat.le_of_ble_eq_true rfl, Nat.le_of_ble_eq_true rfl⟩) (fun H locs hP hS => ?_)
      refine lv_if_eq (tgt := 144) hx hb dX10_pushOn_123 (by decide) (fun c_24 => ?_) (fun c_24 => ?_)
      · replace h := it_t c_24 h
        refine lv_iload hx hb dX10_pushOn_144 (lv_at hl 0 rfl) ?_
        replace h := so5 h
        obtain ⟨z0, z1, z2, z3, z4⟩ := h
        subst z0 z1 z2 z3 z4
        exact gIret hF hP hD hS rfl dX10_pushOn_146
      · replace h := it_f c_24 h
        refine lv_aload_n hx hb dX10_pushOn_126 rfl (lv_at hl 2 rfl) ?_
        refine va_get (D := D) (ci := 10) (v := .ref q_air) (C := RX10) (T := TX10) (N := 11) hx hb hts in_X10_pushOn_X10 hown hK.1 hP 0 rfl rfl 2 (by decide) (hts (.fieldLink RX10 18 "PaperBubbles$Wall" "air" "[I") (List.mem_of_getElem? (i := 1) rfl)) (fun _ h9 => h9) rfl dX10_pushOn_127 ?_
        refine lv_iload hx hb dX10_pushOn_130 (lv_at hl 6 rfl) ?_
        refine lv_dup2_11 hx hb dX10_pushOn_132 rfl rfl ?_
        replace h := chi_ok h
        obtain ⟨hi_25, h⟩ := h
        refine va_iald hx hb hK.1 hP 1 0 rfl rfl hi_25 dX10_pushOn_133 ?_
        replace h := nm_ok h
        obtain ⟨t_26, et_26, h⟩ := h
        refine gTop et_26 ?_
        refine lv_iload hx hb dX10_pushOn_134 (lv_at hl 1 rfl) ?_
        refine lv_isub hx hb dX10_pushOn_136 ?_
        replace h := nm_ok h
        obtain ⟨t_27, et_27, h⟩ := h
        refine gTop et_27 ?_
        replace h := chi_ok h
        obtain ⟨hi_28, h⟩ := h
        replace h := nm_ok h
        obtain ⟨w_29, ew_29, h⟩ := h
        refine va_iast hx hb hK.1 hP hD hS 1 0 rfl rfl hi_28 dX10_pushOn_137 (fun H locs hP hD hS => ?_)
        have hP : va_P D gcl [(q_this, .inr (10, [.int v_rows, .int v_columns, .ref q_air, .ref q_paste, .ref q_open, .int v_holes, .int v_out, .int v_night, .ref q_met, .ref q_line, .int v_inLine])), (q_air, .inl (c 0, 25, .inl w_29)), (q_open, .inl (c 0, 4, .inl v_open)), (q_paste, .inl (c 0, 25, .inl v_paste)), (q_p3, .inr (3, [.ref (c (10 + s_p3_names)), .ref q_p3_steps, .int v_p3_length, .ref q_p3_stack, .ref q_p3_answers, .int v_p3_side, .int v_p3_round, .ref q_p3_draft, .int v_p3_drafted, .ref q_p3_held, .int v_p3_holding, .int v_p3_open, .int v_p3_digits, .int v_p3_wantsOperand])), (q_p3_answers, .inl (c 0, n_p3_answers, .inl w_11)), (q_p3_stack, .inl (c 0, 50, .inl w_12)), (q_p3_steps, .inl (c 0, 50, .inl v_p3_steps)), (ta 0, .inr (8, [])), (ta 1, .inr (0, [])), (ta 2, .inr (4, [])), (ta 3, .inr (5, [])), (ta 4, .inr (6, [])), (ta 5, .inr (2, [])), (ta 6, .inr (1, []))] H := by subst ew_29; exact hP
        have hD : va_D A [(q_this, .inr (10, [.int v_rows, .int v_columns, .ref q_air, .ref q_paste, .ref q_open, .int v_holes, .int v_out, .int v_night, .ref q_met, .ref q_line, .int v_inLine])), (q_air, .inl (c 0, 25, .inl w_29)), (q_open, .inl (c 0, 4, .inl v_open)), (q_paste, .inl (c 0, 25, .inl v_paste)), (q_p3, .inr (3, [.ref (c (10 + s_p3_names)), .ref q_p3_steps, .int v_p3_length, .ref q_p3_stack, .ref q_p3_answers, .int v_p3_side, .int v_p3_round, .ref q_p3_draft, .int v_p3_drafted, .ref q_p3_held, .int v_p3_holding, .int v_p3_open, .int v_p3_digits, .int v_p3_wantsOperand])), (q_p3_answers, .inl (c 0, n_p3_answers, .inl w_11)), (q_p3_stack, .inl (c 0, 50, .inl w_12)), (q_p3_steps, .inl (c 0, 50, .inl v_p3_steps)), (ta 0, .inr (8, [])), (ta 1, .inr (0, [])), (ta 2, .inr (4, [])), (ta 3, .inr (5, [])), (ta 4, .inr (6, [])), (ta 5, .inr (2, [])), (ta 6, .inr (1, []))] := by subst ew_29; exact hD
        refine lv_aload_n hx hb dX10_pushOn_138 rfl (lv_at hl 2 rfl) ?_
        refine lv_iload hx hb dX10_pushOn_139 (lv_at hl 1 rfl) ?_
        replace h := kb_ok h
        obtain ⟨w_31, hc_30, h⟩ := h
        refine gCallV (isC := [0]) (wc := [(q_this, .inr (10, [.int v_rows, .int v_columns, .ref q_air, .ref q_paste, .ref q_open, .int v_holes, .int v_out, .int v_night, .ref q_met, .ref q_line, .int v_inLine]))]) (w1 := [(q_this, .inr (10, [.int v_rows, .int v_columns, .ref q_air, .ref q_paste, .ref q_open, .int v_holes, .int w_31, .int v_night, .ref q_met, .ref q_line, .int v_inLine]))]) (ws2 := [(q_this, .inr (10, [.int v_rows, .int v_columns, .ref q_air, .ref q_paste, .ref q_open, .int v_holes, .int w_31, .int v_night, .ref q_met, .ref q_line, .int v_inLine])), (q_air, .inl (c 0, 25, .inl w_29)), (q_open, .inl (c 0, 4, .inl v_open)), (q_paste, .inl (c 0, 25, .inl v_paste)), (q_p3, .inr (3, [.ref (c (10 + s_p3_names)), .ref q_p3_steps, .int v_p3_length, .ref q_p3_stack, .ref q_p3_answers, .int v_p3_side, .int v_p3_round, .ref q_p3_draft, .int v_p3_drafted, .ref q_p3_held, .int v_p3_holding, .int v_p3_open, .int v_p3_digits, .int v_p3_wantsOperand])), (q_p3_answers, .inl (c 0, n_p3_answers, .inl w_11)), (q_p3_stack, .inl (c 0, 50, .inl w_12)), (q_p3_steps, .inl (c 0, 50, .inl v_p3_steps)), (ta 0, .inr (8, [])), (ta 1, .inr (0, [])), (ta 2, .inr (4, [])), (ta 3, .inr (5, [])), (ta 4, .inr (6, [])), (ta 5, .inr (2, [])), (ta 6, .inr (1, []))]) (ms := [(some 0), none, none, none, none, none, none, none, none, none, none, none, none, none, none]) hP hD hS hA ⟨rfl, trivial⟩ (by decide +kernel) ⟨rfl, rfl, rfl, rfl, rfl, rfl, rfl, rfl, rfl, rfl, rfl, rfl, rfl, rfl, rfl, trivial⟩ (va_runV (rm := rm_X10_goesOut) (ws := wsX10_goesOut) (As := [.int t_16]) (rest := []) (gFix hF) (c_X10_goesOut l D c q_this q_air q_paste q_open q_met q_line t_16 v_rows v_columns v_holes v_out v_night v_inLine w_31 hc_30 H.size) (cwV 1 hts gX10_pushOn_X10_goesOut rfl rfl rfl (by decide +kernel) ⟨Nat.le_of_ble_eq_true rfl, Nat.le_of_ble_eq_true rfl⟩) (gPreV (wc := [(q_this, .inr (10, [.int v_rows, .int v_columns, .ref q_air, .ref q_paste, .ref q_open, .int v_holes, .int v_out, .int v_night, .ref q_met, .ref q_line, .int v_inLine]))]) (q := (RX10, TX10, 11)) (ci := 10) (q0 := 0) (isC := [0]) hK hX hS hA hP hD ⟨rfl, trivial⟩ (by decide +kernel) rfl rfl) rfl rfl hl.1 rfl (lv_room (Nat.le_of_ble_eq_true rfl)) dX10_pushOn_141 ⟨Nat.le_of_ble_eq_true rfl, Nat.le_of_ble_eq_true rfl⟩) (fun H locs hP hD hS => ?_)
        refine lv_iload hx hb dX10_pushOn_144 (lv_at hl 0 rfl) ?_
        replace h := so5 h
        obtain ⟨z0, z1, z2, z3, z4⟩ := h
        subst z0 z1 z2 z3 z4
        exact gIret hF hP hD hS rfl dX10_pushOn_146
    · replace h := it_f c_21 h
      refine lv_aload_n hx hb dX10_pushOn_62 rfl (lv_at hl 2 rfl) ?_
      refine va_get (D := D) (ci := 10) (v := .ref q_air) (C := RX10) (T := TX10) (N := 11) hx hb hts in_X10_pushOn_X10 hown hK.1 hP 0 rfl rfl 2 (by decide) (hts (.fieldLink RX10 18 "PaperBubbles$Wall" "air" "[I") (List.mem_of_getElem? (i := 1) rfl)) (fun _ h9 => h9) rfl dX10_pushOn_63 ?_
      refine lv_iload hx hb dX10_pushOn_66 (lv_at hl 0 rfl) ?_
      replace h := chi_ok h
      obtain ⟨hi_32, h⟩ := h
      refine va_iald hx hb hK.1 hP 1 0 rfl rfl hi_32 dX10_pushOn_68 ?_
      replace h := nm_ok h
      obtain ⟨t_33, et_33, h⟩ := h
      refine gTop et_33 ?_
      refine lv_iload hx hb dX10_pushOn_69 (lv_at hl 1 rfl) ?_
      refine lv_iadd hx hb dX10_pushOn_71 ?_
      replace h := nm_ok h
      obtain ⟨t_34, et_34, h⟩ := h
      refine gTop et_34 ?_
      refine lv_istore (lv' := [(8, .int t_34), (7, .int r_18), (6, .int t_16), (0, .ref q_this), (1, .ref (ta k_1.toNatClampNeg)), (2, .int a_2), (3, .ref q_p3), (4, .int a_4), (5, .int a_5)]) hx hb dX10_pushOn_72 hl (by decide) rfl (fun ls hl => ?_)
      refine lv_aload_n hx hb dX10_pushOn_74 rfl (lv_at hl 3 rfl) ?_
      refine va_get (D := D) (ci := 10) (v := .ref q_air) (C := RX10) (T := TX10) (N := 11) hx hb hts in_X10_pushOn_X10 hown hK.1 hP 0 rfl rfl 2 (by decide) (hts (.fieldLink RX10 18 "PaperBubbles$Wall" "air" "[I") (List.mem_of_getElem? (i := 1) rfl)) (fun _ h9 => h9) rfl dX10_pushOn_75 ?_
      refine lv_iload hx hb dX10_pushOn_78 (lv_at hl 7 rfl) ?_
      refine lv_dup2_11 hx hb dX10_pushOn_80 rfl rfl ?_
      replace h := chi_ok h
      obtain ⟨hi_35, h⟩ := h
      refine va_iald hx hb hK.1 hP 1 0 rfl rfl hi_35 dX10_pushOn_81 ?_
      replace h := nm_ok h
      obtain ⟨t_36, et_36, h⟩ := h
      refine gTop et_36 ?_
      refine lv_iload hx hb dX10_pushOn_82 (lv_at hl 2 rfl) ?_
      refine lv_isub hx hb dX10_pushOn_84 ?_
      replace h := nm_ok h
      obtain ⟨t_37, et_37, h⟩ := h
      refine gTop et_37 ?_
      replace h := chi_ok h
      obtain ⟨hi_38, h⟩ := h
      replace h := nm_ok h
      obtain ⟨w_39, ew_39, h⟩ := h
      refine va_iast hx hb hK.1 hP hD hS 1 0 rfl rfl hi_38 dX10_pushOn_85 (fun H locs hP hD hS => ?_)
      have hP : va_P D gcl [(q_this, .inr (10, [.int v_rows, .int v_columns, .ref q_air, .ref q_paste, .ref q_open, .int v_holes, .int v_out, .int v_night, .ref q_met, .ref q_line, .int v_inLine])), (q_air, .inl (c 0, 25, .inl w_39)), (q_open, .inl (c 0, 4, .inl v_open)), (q_paste, .inl (c 0, 25, .inl v_paste)), (q_p3, .inr (3, [.ref (c (10 + s_p3_names)), .ref q_p3_steps, .int v_p3_length, .ref q_p3_stack, .ref q_p3_answers, .int v_p3_side, .int v_p3_round, .ref q_p3_draft, .int v_p3_drafted, .ref q_p3_held, .int v_p3_holding, .int v_p3_open, .int v_p3_digits, .int v_p3_wantsOperand])), (q_p3_answers, .inl (c 0, n_p3_answers, .inl w_11)), (q_p3_stack, .inl (c 0, 50, .inl w_12)), (q_p3_steps, .inl (c 0, 50, .inl v_p3_steps)), (ta 0, .inr (8, [])), (ta 1, .inr (0, [])), (ta 2, .inr (4, [])), (ta 3, .inr (5, [])), (ta 4, .inr (6, [])), (ta 5, .inr (2, [])), (ta 6, .inr (1, []))] H := by subst ew_39; exact hP
      have hD : va_D A [(q_this, .inr (10, [.int v_rows, .int v_columns, .ref q_air, .ref q_paste, .ref q_open, .int v_holes, .int v_out, .int v_night, .ref q_met, .ref q_line, .int v_inLine])), (q_air, .inl (c 0, 25, .inl w_39)), (q_open, .inl (c 0, 4, .inl v_open)), (q_paste, .inl (c 0, 25, .inl v_paste)), (q_p3, .inr (3, [.ref (c (10 + s_p3_names)), .ref q_p3_steps, .int v_p3_length, .ref q_p3_stack, .ref q_p3_answers, .int v_p3_side, .int v_p3_round, .ref q_p3_draft, .int v_p3_drafted, .ref q_p3_held, .int v_p3_holding, .int v_p3_open, .int v_p3_digits, .int v_p3_wantsOperand])), (q_p3_answers, .inl (c 0, n_p3_answers, .inl w_11)), (q_p3_stack, .inl (c 0, 50, .inl w_12)), (q_p3_steps, .inl (c 0, 50, .inl v_p3_steps)), (ta 0, .inr (8, [])), (ta 1, .inr (0, [])), (ta 2, .inr (4, [])), (ta 3, .inr (5, [])), (ta 4, .inr (6, [])), (ta 5, .inr (2, [])), (ta 6, .inr (1, []))] := by subst ew_39; exact hD
      refine lv_aload_n hx hb dX10_pushOn_86 rfl (lv_at hl 3 rfl) ?_
      refine va_get (D := D) (ci := 10) (v := .ref q_air) (C := RX10) (T := TX10) (N := 11) hx hb hts in_X10_pushOn_X10 hown hK.1 hP 0 rfl rfl 2 (by decide) (hts (.fieldLink RX10 18 "PaperBubbles$Wall" "air" "[I") (List.mem_of_getElem? (i := 1) rfl)) (fun _ h9 => h9) rfl dX10_pushOn_87 ?_
      refine lv_iload hx hb dX10_pushOn_90 (lv_at hl 1 rfl) ?_
      refine lv_iload hx hb dX10_pushOn_92 (lv_at hl 0 rfl) ?_
      refine lv_bipush (v := 99) hx hb dX10_pushOn_94 (by decide) ?_
      refine va_mmin hx hb (by rw [hml]; exact hl.1.symm) hown (hts (.methodLink RX10 82 Lib.Math.min.name) (List.mem_of_getElem? (i := 3) rfl)) (hts (.static Lib.Math.min.name) (List.mem_of_getElem? (i := 4) rfl)) (hts (.initialized "java/lang/Math") (List.mem_of_getElem? (i := 5) rfl)) (hts (.code Lib.Math.min.name Lib.Math.min.code 2 (some .int)) (List.mem_of_getElem? (i := 6) rfl)) (Nat.le_of_ble_eq_true rfl) (by first | exact Nat.le_of_ble_eq_true rfl | decide) (Nat.le_of_ble_eq_true rfl) (Nat.le_of_ble_eq_true rfl) dX10_pushOn_96 ?_
      replace h := nm_ok h
      obtain ⟨t_40, et_40, h⟩ := h
      refine gTop et_40 ?_
      replace h := chi_ok h
      obtain ⟨hi_41, h⟩ := h
      replace h := nm_ok h
      obtain ⟨w_42, ew_42, h⟩ := h
      refine va_iast hx hb hK.1 hP hD hS 1 0 rfl rfl hi_41 dX10_pushOn_99 (fun H locs hP hD hS => ?_)
      have hP : va_P D gcl [(q_this, .inr (10, [.int v_rows, .int v_columns, .ref q_air, .ref q_paste, .ref q_open, .int v_holes, .int v_out, .int v_night, .ref q_met, .ref q_line, .int v_inLine])), (q_air, .inl (c 0, 25, .inl w_42)), (q_open, .inl (c 0, 4, .inl v_open)), (q_paste, .inl (c 0, 25, .inl v_paste)), (q_p3, .inr (3, [.ref (c (10 + s_p3_names)), .ref q_p3_steps, .int v_p3_length, .ref q_p3_stack, .ref q_p3_answers, .int v_p3_side, .int v_p3_round, .ref q_p3_draft, .int v_p3_drafted, .ref q_p3_held, .int v_p3_holding, .int v_p3_open, .int v_p3_digits, .int v_p3_wantsOperand])), (q_p3_answers, .inl (c 0, n_p3_answers, .inl w_11)), (q_p3_stack, .inl (c 0, 50, .inl w_12)), (q_p3_steps, .inl (c 0, 50, .inl v_p3_steps)), (ta 0, .inr (8, [])), (ta 1, .inr (0, [])), (ta 2, .inr (4, [])), (ta 3, .inr (5, [])), (ta 4, .inr (6, [])), (ta 5, .inr (2, [])), (ta 6, .inr (1, []))] H := by subst ew_42; exact hP
      have hD : va_D A [(q_this, .inr (10, [.int v_rows, .int v_columns, .ref q_air, .ref q_paste, .ref q_open, .int v_holes, .int v_out, .int v_night, .ref q_met, .ref q_line, .int v_inLine])), (q_air, .inl (c 0, 25, .inl w_42)), (q_open, .inl (c 0, 4, .inl v_open)), (q_paste, .inl (c 0, 25, .inl v_paste)), (q_p3, .inr (3, [.ref (c (10 + s_p3_names)), .ref q_p3_steps, .int v_p3_length, .ref q_p3_stack, .ref q_p3_answers, .int v_p3_side, .int v_p3_round, .ref q_p3_draft, .int v_p3_drafted, .ref q_p3_held, .int v_p3_holding, .int v_p3_open, .int v_p3_digits, .int v_p3_wantsOperand])), (q_p3_answers, .inl (c 0, n_p3_answers, .inl w_11)), (q_p3_stack, .inl (c 0, 50, .inl w_12)), (q_p3_steps, .inl (c 0, 50, .inl v_p3_steps)), (ta 0, .inr (8, [])), (ta 1, .inr (0, [])), (ta 2, .inr (4, [])), (ta 3, .inr (5, [])), (ta 4, .inr (6, [])), (ta 5, .inr (2, [])), (ta 6, .inr (1, []))] := by subst ew_42; exact hD
      refine lv_aload_n hx hb dX10_pushOn_100 rfl (lv_at hl 3 rfl) ?_
      refine lv_iload hx hb dX10_pushOn_101 (lv_at hl 0 rfl) ?_
      refine lv_aload_n hx hb dX10_pushOn_103 rfl (lv_at hl 3 rfl) ?_
      refine va_get (D := D) (ci := 10) (v := .ref q_air) (C := RX10) (T := TX10) (N := 11) hx hb hts in_X10_pushOn_X10 hown hK.1 hP 0 rfl rfl 2 (by decide) (hts (.fieldLink RX10 18 "PaperBubbles$Wall" "air" "[I") (List.mem_of_getElem? (i := 1) rfl)) (fun _ h9 => h9) rfl dX10_pushOn_104 ?_
      refine lv_iload hx hb dX10_pushOn_107 (lv_at hl 1 rfl) ?_
      replace h := chi_ok h
      obtain ⟨hi_43, h⟩ := h
      refine va_iald hx hb hK.1 hP 1 0 rfl rfl hi_43 dX10_pushOn_109 ?_
      refine lv_isub hx hb dX10_pushOn_110 ?_
      replace h := nm_ok h
      obtain ⟨t_44, et_44, h⟩ := h
      refine gTop et_44 ?_
      replace h := kb_ok h
      obtain ⟨w_46, hc_45, h⟩ := h
      refine gCallV (isC := [0]) (wc := [(q_this, .inr (10, [.int v_rows, .int v_columns, .ref q_air, .ref q_paste, .ref q_open, .int v_holes, .int v_out, .int v_night, .ref q_met, .ref q_line, .int v_inLine]))]) (w1 := [(q_this, .inr (10, [.int v_rows, .int v_columns, .ref q_air, .ref q_paste, .ref q_open, .int v_holes, .int w_46, .int v_night, .ref q_met, .ref q_line, .int v_inLine]))]) (ws2 := [(q_this, .inr (10, [.int v_rows, .int v_columns, .ref q_air, .ref q_paste, .ref q_open, .int v_holes, .int w_46, .int v_night, .ref q_met, .ref q_line, .int v_inLine])), (q_air, .inl (c 0, 25, .inl w_42)), (q_open, .inl (c 0, 4, .inl v_open)), (q_paste, .inl (c 0, 25, .inl v_paste)), (q_p3, .inr (3, [.ref (c (10 + s_p3_names)), .ref q_p3_steps, .int v_p3_length, .ref q_p3_stack, .ref q_p3_answers, .int v_p3_side, .int v_p3_round, .ref q_p3_draft, .int v_p3_drafted, .ref q_p3_held, .int v_p3_holding, .int v_p3_open, .int v_p3_digits, .int v_p3_wantsOperand])), (q_p3_answers, .inl (c 0, n_p3_answers, .inl w_11)), (q_p3_stack, .inl (c 0, 50, .inl w_12)), (q_p3_steps, .inl (c 0, 50, .inl v_p3_steps)), (ta 0, .inr (8, [])), (ta 1, .inr (0, [])), (ta 2, .inr (4, [])), (ta 3, .inr (5, [])), (ta 4, .inr (6, [])), (ta 5, .inr (2, [])), (ta 6, .inr (1, []))]) (ms := [(some 0), none, none, none, none, none, none, none, none, none, none, none, none, none, none]) hP hD hS hA ⟨rfl, trivial⟩ (by decide +kernel) ⟨rfl, rfl, rfl, rfl, rfl, rfl, rfl, rfl, rfl, rfl, rfl, rfl, rfl, rfl, rfl, trivial⟩ (va_runV (rm := rm_X10_goesOut) (ws := wsX10_goesOut) (As := [.int t_44]) (rest := []) (gFix hF) (c_X10_goesOut l D c q_this q_air q_paste q_open q_met q_line t_44 v_rows v_columns v_holes v_out v_night v_inLine w_46 hc_45 H.size) (cwV 1 hts gX10_pushOn_X10_goesOut rfl rfl rfl (by decide +kernel) ⟨Nat.le_of_ble_eq_true rfl, Nat.le_of_ble_eq_true rfl⟩) (gPreV (wc := [(q_this, .inr (10, [.int v_rows, .int v_columns, .ref q_air, .ref q_paste, .ref q_open, .int v_holes, .int v_out, .int v_night, .ref q_met, .ref q_line, .int v_inLine]))]) (q := (RX10, TX10, 11)) (ci := 10) (q0 := 0) (isC := [0]) hK hX hS hA hP hD ⟨rfl, trivial⟩ (by decide +kernel) rfl rfl) rfl rfl hl.1 rfl (lv_room (Nat.le_of_ble_eq_true rfl)) dX10_pushOn_111 ⟨Nat.le_of_ble_eq_true rfl, Nat.le_of_ble_eq_true rfl⟩) (fun H locs hP hD hS => ?_)
      refine lv_goto (tgt := 144) hx hb dX10_pushOn_114 (by decide) ?_
      refine lv_iload hx hb dX10_pushOn_144 (lv_at hl 1 rfl) ?_
      replace h := so5 h
      obtain ⟨z0, z1, z2, z3, z4⟩ := h
      subst z0 z1 z2 z3 z4
      exact gIret hF hP hD hS rfl dX10_pushOn_146
  rcases td_moves hc_13 with ⟨rfl, hc_13⟩ | ⟨rfl, hc_13⟩ | ⟨rfl, hc_13⟩ | ⟨rfl, hc_13⟩ | ⟨rfl, hc_13⟩ | ⟨rfl, hc_13⟩ | ⟨rfl, hc_13⟩
  · exact gCallIr (isC := []) (wc := []) hP hD hS hA trivial (va_runV (rm := rm_X8_moves) (ws := wsX8_moves) (As := [.int t_4, .int r_10, .int a_2]) (rest := [.int t_2]) (gFix hF) (c_X8_moves l D c (ta 0) t_4 r_10 a_2 r_14 hc_13 H.size) (cwV 3 hts gX10_pushOn_X8_moves rfl rfl rfl (by decide +kernel) ⟨Nat.le_of_ble_eq_true rfl, Nat.le_of_ble_eq_true rfl⟩) (gPreV (wc := []) (q := (RX8, TX8, 0)) (ci := 8) (q0 := 8) (isC := []) hK hX hS hA hP hD trivial (by decide +kernel) rfl rfl) rfl rfl hl.1 rfl (lv_room (Nat.le_of_ble_eq_true rfl)) dX10_pushOn_35 ⟨Nat.le_of_ble_eq_true rfl, Nat.le_of_ble_eq_true rfl⟩) (fun H locs hP hS => cont_15 H locs hP hD hS)
  · exact gCallIr (isC := []) (wc := []) hP hD hS hA trivial (va_runU (rm := rm_X0_moves) (ws := wsX0_moves) (As := [.int t_4, .int r_10, .int a_2]) (rest := [.int t_2]) (gFix hF) (c_X0_moves l D c (ta 1) t_4 r_10 a_2 r_14 hc_13 H.size) (va_cwO 3 hts gX10_pushOn_X0_moves_u108X0 rfl rfl rfl (List.mem_of_getElem? (i := 46) (rfl : wsX10_pushOn[46]? = some (.code yX8_moves cX8_moves 4 (some .int)))) (by decide +kernel) ⟨Nat.le_of_ble_eq_true rfl, Nat.le_of_ble_eq_true rfl⟩) (gPreV (wc := []) (q := (RX0, TX0, 0)) (ci := 0) (q0 := 9) (isC := []) hK hX hS hA hP hD trivial (by decide +kernel) rfl rfl) rfl rfl hl.1 rfl (lv_room (Nat.le_of_ble_eq_true rfl)) dX10_pushOn_35 ⟨Nat.le_of_ble_eq_true rfl, Nat.le_of_ble_eq_true rfl⟩) (fun H locs hP hS => cont_15 H locs hP hD hS)
  · exact gCallIr (isC := []) (wc := []) hP hD hS hA trivial (va_runU (rm := rm_X4_moves) (ws := wsX4_moves) (As := [.int t_4, .int r_10, .int a_2]) (rest := [.int t_2]) (gFix hF) (c_X4_moves l D c (ta 2) t_4 r_10 a_2 r_14 hc_13 H.size) (va_cwO 3 hts gX10_pushOn_X4_moves_u108X4 rfl rfl rfl (List.mem_of_getElem? (i := 46) (rfl : wsX10_pushOn[46]? = some (.code yX8_moves cX8_moves 4 (some .int)))) (by decide +kernel) ⟨Nat.le_of_ble_eq_true rfl, Nat.le_of_ble_eq_true rfl⟩) (gPreV (wc := []) (q := (RX4, TX4, 0)) (ci := 4) (q0 := 10) (isC := []) hK hX hS hA hP hD trivial (by decide +kernel) rfl rfl) rfl rfl hl.1 rfl (lv_room (Nat.le_of_ble_eq_true rfl)) dX10_pushOn_35 ⟨Nat.le_of_ble_eq_true rfl, Nat.le_of_ble_eq_true rfl⟩) (fun H locs hP hS => cont_15 H locs hP hD hS)
  · exact gCallIr (isC := []) (wc := []) hP hD hS hA trivial (va_runU (rm := rm_X5_moves) (ws := wsX5_moves) (As := [.int t_4, .int r_10, .int a_2]) (rest := [.int t_2]) (gFix hF) (c_X5_moves l D c (ta 3) t_4 r_10 a_2 r_14 hc_13 H.size) (va_cwO 3 hts gX10_pushOn_X5_moves_u108X5 rfl rfl rfl (List.mem_of_getElem? (i := 46) (rfl : wsX10_pushOn[46]? = some (.code yX8_moves cX8_moves 4 (some .int)))) (by decide +kernel) ⟨Nat.le_of_ble_eq_true rfl, Nat.le_of_ble_eq_true rfl⟩) (gPreV (wc := []) (q := (RX5, TX5, 0)) (ci := 5) (q0 := 11) (isC := []) hK hX hS hA hP hD trivial (by decide +kernel) rfl rfl) rfl rfl hl.1 rfl (lv_room (Nat.le_of_ble_eq_true rfl)) dX10_pushOn_35 ⟨Nat.le_of_ble_eq_true rfl, Nat.le_of_ble_eq_true rfl⟩) (fun H locs hP hS => cont_15 H locs hP hD hS)
  · exact gCallIr (isC := [12]) (wc := [(ta 4, .inr (6, []))]) hP hD hS hA ⟨rfl, trivial⟩ (va_runU (rm := rm_X6_moves) (ws := wsX6_moves) (As := [.int t_4, .int r_10, .int a_2]) (rest := [.int t_2]) (gFix hF) (c_X6_moves l D c (ta 4) t_4 r_10 a_2 r_14 hc_13 H.size) (va_cwO 3 hts gX10_pushOn_X6_moves_u108X6 rfl rfl rfl (List.mem_of_getElem? (i := 46) (rfl : wsX10_pushOn[46]? = some (.code yX8_moves cX8_moves 4 (some .int)))) (by decide +kernel) ⟨Nat.le_of_ble_eq_true rfl, Nat.le_of_ble_eq_true rfl⟩) (gPreV (wc := [(ta 4, .inr (6, []))]) (q := (RX6, TX6, 0)) (ci := 6) (q0 := 12) (isC := [12]) hK hX hS hA hP hD ⟨rfl, trivial⟩ (by decide +kernel) rfl rfl) rfl rfl hl.1 rfl (lv_room (Nat.le_of_ble_eq_true rfl)) dX10_pushOn_35 ⟨Nat.le_of_ble_eq_true rfl, Nat.le_of_ble_eq_true rfl⟩) (fun H locs hP hS => cont_15 H locs hP hD hS)
  · exact gCallIr (isC := []) (wc := []) hP hD hS hA trivial (va_runU (rm := rm_X4_moves) (ws := wsX4_moves) (As := [.int t_4, .int r_10, .int a_2]) (rest := [.int t_2]) (gFix hF) (c_X4_moves l D c (ta 5) t_4 r_10 a_2 r_14 hc_13 H.size) (va_cwO 3 hts gX10_pushOn_X4_moves_u108X2 rfl rfl rfl (List.mem_of_getElem? (i := 46) (rfl : wsX10_pushOn[46]? = some (.code yX8_moves cX8_moves 4 (some .int)))) (by decide +kernel) ⟨Nat.le_of_ble_eq_true rfl, Nat.le_of_ble_eq_true rfl⟩) (gPreV (wc := []) (q := (RX2, TX2, 0)) (ci := 2) (q0 := 13) (isC := []) hK hX hS hA hP hD trivial (by decide +kernel) rfl rfl) rfl rfl hl.1 rfl (lv_room (Nat.le_of_ble_eq_true rfl)) dX10_pushOn_35 ⟨Nat.le_of_ble_eq_true rfl, Nat.le_of_ble_eq_true rfl⟩) (fun H locs hP hS => cont_15 H locs hP hD hS)
  · exact gCallIr (isC := [14]) (wc := [(ta 6, .inr (1, []))]) hP hD hS hA ⟨rfl, trivial⟩ (va_runU (rm := rm_X1_moves) (ws := wsX1_moves) (As := [.int t_4, .int r_10, .int a_2]) (rest := [.int t_2]) (gFix hF) (c_X1_moves l D c (ta 6) t_4 r_10 a_2 r_14 hc_13 H.size) (va_cwO 3 hts gX10_pushOn_X1_moves_u108X1 rfl rfl rfl (List.mem_of_getElem? (i := 46) (rfl : wsX10_pushOn[46]? = some (.code yX8_moves cX8_moves 4 (some .int)))) (by decide +kernel) ⟨Nat.le_of_ble_eq_true rfl, Nat.le_of_ble_eq_true rfl⟩) (gPreV (wc := [(ta 6, .inr (1, []))]) (q := (RX1, TX1, 0)) (ci := 1) (q0 := 14) (isC := [14]) hK hX hS hA hP hD ⟨rfl, trivial⟩ (by decide +kernel) rfl rfl) rfl rfl hl.1 rfl (lv_room (Nat.le_of_ble_eq_true rfl)) dX10_pushOn_35 ⟨Nat.le_of_ble_eq_true rfl, Nat.le_of_ble_eq_true rfl⟩) (fun H locs hP hS => cont_15 H locs hP hD hS)
