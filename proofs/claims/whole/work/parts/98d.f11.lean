set_option maxRecDepth 20000 in
theorem in_X3_hold_X3 : ∀ w ∈ u_ws RX3 TX3 14, w ∈ wsX3_hold := by decide +kernel
abbrev rm_X3_hold : Room := { frames := 0, cells := 0, slots := 0, locals := 0 }
set_option maxHeartbeats 4000000 in
set_option maxRecDepth 100000 in
theorem c_X3_hold (l : Launch) (D : va_G) (c : Nat → ClassId) (q_this q_steps q_stack q_answers q_draft q_held : Nat) (s_names : Nat) (a_1 : Int32) (v_length : Int32) (v_side : Int32) (v_round : Int32) (v_drafted : Int32) (v_holding : Int32) (v_open : Int32) (v_digits : Int32) (v_wantsOperand : Int32) (v_held : Nat → Int32) (o_v_holding : Int32) (o_v_held : Nat → Int32) (h : f_X3_hold a_1 v_holding v_held = some (o_v_holding, o_v_held)) : gMV l yX3_hold wsX3_hold rm_X3_hold D c [.ref q_this, .int a_1] [(q_this, .inr (3, [.ref (c (10 + s_names)), .ref q_steps, .int v_length, .ref q_stack, .ref q_answers, .int v_side, .int v_round, .ref q_draft, .int v_drafted, .ref q_held, .int v_holding, .int v_open, .int v_digits, .int v_wantsOperand])), (q_held, .inl (c 0, 50, .inl v_held))] [(q_this, .inr (3, [.ref (c (10 + s_names)), .ref q_steps, .int v_length, .ref q_stack, .ref q_answers, .int v_side, .int v_round, .ref q_draft, .int v_drafted, .ref q_held, .int o_v_holding, .int v_open, .int v_digits, .int v_wantsOperand])), (q_held, .inl (c 0, 50, .inl o_v_held))] := by
  refine gMV_of (cc := cX3_hold) (maxL := 2) (rt := none) (by decide +kernel) rfl (Nat.le_of_ble_eq_true rfl) ?_
  intro p e s m below meth co A hF hK hX hP hD hA hS ls hl
  obtain ⟨hx, hb, hr, hts, hown, hlocks, hml⟩ := id hF
  have hl : lv_has ls 2 [(0, .ref q_this), (1, .int a_1)] := hl
  unfold f_X3_hold at h
  refine lv_aload_n hx hb dX3_hold_0 rfl (lv_at hl 0 rfl) ?_
  refine va_get (D := D) (ci := 3) (v := .int v_holding) (C := RX3) (T := TX3) (N := 14) hx hb hts in_X3_hold_X3 hown hK.1 hP 0 rfl rfl 10 (by decide) (hts (.fieldLink RX3 81 "PaperBubbles$Law" "holding" "I") (List.mem_of_getElem? (i := 1) rfl)) (fun _ h9 => h9) rfl dX3_hold_1 ?_
  refine lv_if_lt (tgt := 36) hx hb dX3_hold_4 (by decide) (fun c_1 => ?_) (fun c_1 => ?_)
  · replace h := it_t c_1 h
    replace h := so2 h
    obtain ⟨z0, z1⟩ := h
    subst z0 z1
    exact gVret hF hP hD hS dX3_hold_36
  · replace h := it_f c_1 h
    refine lv_aload_n hx hb dX3_hold_7 rfl (lv_at hl 0 rfl) ?_
    refine va_get (D := D) (ci := 3) (v := .int v_holding) (C := RX3) (T := TX3) (N := 14) hx hb hts in_X3_hold_X3 hown hK.1 hP 0 rfl rfl 10 (by decide) (hts (.fieldLink RX3 81 "PaperBubbles$Law" "holding" "I") (List.mem_of_getElem? (i := 1) rfl)) (fun _ h9 => h9) rfl dX3_hold_8 ?_
    refine lv_bipush (v := 50) hx hb dX3_hold_11 (by decide) ?_
    refine lv_icmp_ge (tgt := 36) hx hb dX3_hold_13 (by decide) (fun c_2 => ?_) (fun c_2 => ?_)
    · replace h := it_t c_2 h
      replace h := so2 h
      obtain ⟨z0, z1⟩ := h
      subst z0 z1
      exact gVret hF hP hD hS dX3_hold_36
    · replace h := it_f c_2 h
      refine lv_aload_n hx hb dX3_hold_16 rfl (lv_at hl 0 rfl) ?_
      refine va_get (D := D) (ci := 3) (v := .ref q_held) (C := RX3) (T := TX3) (N := 14) hx hb hts in_X3_hold_X3 hown hK.1 hP 0 rfl rfl 9 (by decide) (hts (.fieldLink RX3 25 "PaperBubbles$Law" "held" "[I") (List.mem_of_getElem? (i := 2) rfl)) (fun _ h9 => h9) rfl dX3_hold_17 ?_
      refine lv_aload_n hx hb dX3_hold_20 rfl (lv_at hl 0 rfl) ?_
      refine va_get (D := D) (ci := 3) (v := .int v_holding) (C := RX3) (T := TX3) (N := 14) hx hb hts in_X3_hold_X3 hown hK.1 hP 0 rfl rfl 10 (by decide) (hts (.fieldLink RX3 81 "PaperBubbles$Law" "holding" "I") (List.mem_of_getElem? (i := 1) rfl)) (fun _ h9 => h9) rfl dX3_hold_21 ?_
      refine lv_iload_n hx hb dX3_hold_24 rfl (lv_at hl 1 rfl) ?_
      replace h := chi_ok h
      obtain ⟨hi_3, h⟩ := h
      replace h := nm_ok h
      obtain ⟨w_4, ew_4, h⟩ := h
      refine va_iast hx hb hK.1 hP hD hS 1 0 rfl rfl hi_3 dX3_hold_25 (fun H locs hP hD hS => ?_)
      have hP : va_P D gcl [(q_this, .inr (3, [.ref (c (10 + s_names)), .ref q_steps, .int v_length, .ref q_stack, .ref q_answers, .int v_side, .int v_round, .ref q_draft, .int v_drafted, .ref q_held, .int v_holding, .int v_open, .int v_digits, .int v_wantsOperand])), (q_held, .inl (c 0, 50, .inl w_4))] H := by subst ew_4; exact hP
      have hD : va_D A [(q_this, .inr (3, [.ref (c (10 + s_names)), .ref q_steps, .int v_length, .ref q_stack, .ref q_answers, .int v_side, .int v_round, .ref q_draft, .int v_drafted, .ref q_held, .int v_holding, .int v_open, .int v_digits, .int v_wantsOperand])), (q_held, .inl (c 0, 50, .inl w_4))] := by subst ew_4; exact hD
      refine lv_aload_n hx hb dX3_hold_26 rfl (lv_at hl 0 rfl) ?_
      refine lv_dup hx hb dX3_hold_27 rfl ?_
      refine va_get (D := D) (ci := 3) (v := .int v_holding) (C := RX3) (T := TX3) (N := 14) hx hb hts in_X3_hold_X3 hown hK.1 hP 0 rfl rfl 10 (by decide) (hts (.fieldLink RX3 81 "PaperBubbles$Law" "holding" "I") (List.mem_of_getElem? (i := 1) rfl)) (fun _ h9 => h9) rfl dX3_hold_28 ?_
      refine lv_iconst (v := 1) hx hb dX3_hold_31 (by decide) ?_
      refine lv_iadd hx hb dX3_hold_32 ?_
      replace h := nm_ok h
      obtain ⟨t_5, et_5, h⟩ := h
      refine gTop et_5 ?_
      refine va_put (D := D) (ci := 3) (v := .int t_5) (ty := .int) (C := RX3) (T := TX3) (N := 14) hx hb hts in_X3_hold_X3 tyX3 tyX3_ok nmX3 hown hK.1 hP hD hS 0 rfl rfl 10 (by decide) (hts (.fieldLink RX3 81 "PaperBubbles$Law" "holding" "I") (List.mem_of_getElem? (i := 1) rfl)) (fun _ h9 => h9) rfl (by decide +kernel) rfl rfl (Nat.le_of_ble_eq_true rfl) dX3_hold_33 (fun H locs hP hD hS => ?_)
      have hP : va_P D gcl [(q_this, .inr (3, [.ref (c (10 + s_names)), .ref q_steps, .int v_length, .ref q_stack, .ref q_answers, .int v_side, .int v_round, .ref q_draft, .int v_drafted, .ref q_held, .int t_5, .int v_open, .int v_digits, .int v_wantsOperand])), (q_held, .inl (c 0, 50, .inl w_4))] H := hP
      have hD : va_D A [(q_this, .inr (3, [.ref (c (10 + s_names)), .ref q_steps, .int v_length, .ref q_stack, .ref q_answers, .int v_side, .int v_round, .ref q_draft, .int v_drafted, .ref q_held, .int t_5, .int v_open, .int v_digits, .int v_wantsOperand])), (q_held, .inl (c 0, 50, .inl w_4))] := hD
      replace h := so2 h
      obtain ⟨z0, z1⟩ := h
      subst z0 z1
      exact gVret hF hP hD hS dX3_hold_36
abbrev rm_X3_isDigit : Room := { frames := 1, cells := 0, slots := 0, locals := 22 }
set_option maxHeartbeats 4000000 in
set_option maxRecDepth 100000 in
theorem c_X3_isDigit (l : Launch) (D : va_G) (c : Nat → ClassId) (a_0 : Int32) (o_r : Int32) (h : f_X3_isDigit a_0 = some o_r) : gMI l yX3_isDigit wsX3_isDigit rm_X3_isDigit D c [.int a_0] [] [] o_r := by
  refine gMI_of (cc := cX3_isDigit) (maxL := 1) (rt := (some .boolean)) (by decide +kernel) rfl (Nat.le_of_ble_eq_true rfl) ?_
  intro p e s m below meth co A hF hK hX hP hD hA hS ls hl
  obtain ⟨hx, hb, hr, hts, hown, hlocks, hml⟩ := id hF
  have hl : lv_has ls 1 [(0, .int a_0)] := hl
  unfold f_X3_isDigit at h
  refine lv_iload_n hx hb dX3_isDigit_0 rfl (lv_at hl 0 rfl) ?_
  refine lv_bipush (v := 48) hx hb dX3_isDigit_1 (by decide) ?_
  refine lv_bipush (v := 57) hx hb dX3_isDigit_3 (by decide) ?_
  replace h := kb_ok h
  obtain ⟨r_2, hc_1, h⟩ := h
  refine gCallIr (isC := []) (wc := []) hP hD hS hA trivial (va_runSN (rm := rm_X11_within) (ws := wsX11_within) (As := [.int a_0, .int 48, .int 57]) (rest := []) (gFix hF) (c_X11_within l D c a_0 48 57 r_2 hc_1 s.heap.size) ⟨(va_cnB 3 hts gX3_isDigit_X11_within_n58 rfl rfl rfl (hK.2 (.methodLinkNest "PaperBubbles$Law" 58 ⟨"PaperBubbles", "within", "(III)Z"⟩ "PaperBubbles") (List.mem_of_getElem? (i := 33) rfl)) (hts (.initialized RX11) (List.mem_of_getElem? (i := 2) rfl)) (by decide +kernel) ⟨Nat.le_of_ble_eq_true rfl, Nat.le_of_ble_eq_true rfl⟩), (hts (.static yX11_within) (List.mem_of_getElem? (i := 1) rfl)), trivial⟩ (gPreS (wc := []) (isC := []) hK hX hS hA hP hD trivial (by decide +kernel)) rfl rfl hl.1 rfl (lv_room (Nat.le_of_ble_eq_true rfl)) dX3_isDigit_5 ⟨Nat.le_of_ble_eq_true rfl, Nat.le_of_ble_eq_true rfl⟩) (fun H locs hP hS => ?_)
  replace h := chb_ok h
  obtain ⟨hz_3, h⟩ := h
  replace h := so1 h
  subst h
  exact gIret hF hP hD hS (chb_n hz_3) dX3_isDigit_8
set_option maxRecDepth 20000 in
theorem in_X3_write_X3 : ∀ w ∈ u_ws RX3 TX3 14, w ∈ wsX3_write := by decide +kernel
abbrev rm_X3_write : Room := { frames := 0, cells := 0, slots := 0, locals := 0 }
set_option maxHeartbeats 4000000 in
set_option maxRecDepth 100000 in
theorem c_X3_write (l : Launch) (D : va_G) (c : Nat → ClassId) (q_this q_steps q_stack q_answers q_draft q_held : Nat) (s_names : Nat) (a_1 : Int32) (v_length : Int32) (v_side : Int32) (v_round : Int32) (v_drafted : Int32) (v_holding : Int32) (v_open : Int32) (v_digits : Int32) (v_wantsOperand : Int32) (v_draft : Nat → Int32) (o_v_drafted : Int32) (o_v_draft : Nat → Int32) (h : f_X3_write a_1 v_drafted v_draft = some (o_v_drafted, o_v_draft)) : gMV l yX3_write wsX3_write rm_X3_write D c [.ref q_this, .int a_1] [(q_this, .inr (3, [.ref (c (10 + s_names)), .ref q_steps, .int v_length, .ref q_stack, .ref q_answers, .int v_side, .int v_round, .ref q_draft, .int v_drafted, .ref q_held, .int v_holding, .int v_open, .int v_digits, .int v_wantsOperand])), (q_draft, .inl (c 0, 50, .inl v_draft))] [(q_this, .inr (3, [.ref (c (10 + s_names)), .ref q_steps, .int v_length, .ref q_stack, .ref q_answers, .int v_side, .int v_round, .ref q_draft, .int o_v_drafted, .ref q_held, .int v_holding, .int v_open, .int v_digits, .int v_wantsOperand])), (q_draft, .inl (c 0, 50, .inl o_v_draft))] := by
  refine gMV_of (cc := cX3_write) (maxL := 2) (rt := none) (by decide +kernel) rfl (Nat.le_of_ble_eq_true rfl) ?_
  intro p e s m below meth co A hF hK hX hP hD hA hS ls hl
  obtain ⟨hx, hb, hr, hts, hown, hlocks, hml⟩ := id hF
  have hl : lv_has ls 2 [(0, .ref q_this), (1, .int a_1)] := hl
  unfold f_X3_write at h
  refine lv_aload_n hx hb dX3_write_0 rfl (lv_at hl 0 rfl) ?_
  refine va_get (D := D) (ci := 3) (v := .int v_drafted) (C := RX3) (T := TX3) (N := 14) hx hb hts in_X3_write_X3 hown hK.1 hP 0 rfl rfl 8 (by decide) (hts (.fieldLink RX3 78 "PaperBubbles$Law" "drafted" "I") (List.mem_of_getElem? (i := 1) rfl)) (fun _ h9 => h9) rfl dX3_write_1 ?_
  refine lv_if_lt (tgt := 36) hx hb dX3_write_4 (by decide) (fun c_1 => ?_) (fun c_1 => ?_)
  · replace h := it_t c_1 h
    replace h := so2 h
    obtain ⟨z0, z1⟩ := h
    subst z0 z1
    exact gVret hF hP hD hS dX3_write_36
  · replace h := it_f c_1 h
    refine lv_aload_n hx hb dX3_write_7 rfl (lv_at hl 0 rfl) ?_
    refine va_get (D := D) (ci := 3) (v := .int v_drafted) (C := RX3) (T := TX3) (N := 14) hx hb hts in_X3_write_X3 hown hK.1 hP 0 rfl rfl 8 (by decide) (hts (.fieldLink RX3 78 "PaperBubbles$Law" "drafted" "I") (List.mem_of_getElem? (i := 1) rfl)) (fun _ h9 => h9) rfl dX3_write_8 ?_
    refine lv_bipush (v := 50) hx hb dX3_write_11 (by decide) ?_
    refine lv_icmp_ge (tgt := 36) hx hb dX3_write_13 (by decide) (fun c_2 => ?_) (fun c_2 => ?_)
    · replace h := it_t c_2 h
      replace h := so2 h
      obtain ⟨z0, z1⟩ := h
      subst z0 z1
      exact gVret hF hP hD hS dX3_write_36
    · replace h := it_f c_2 h
      refine lv_aload_n hx hb dX3_write_16 rfl (lv_at hl 0 rfl) ?_
      refine va_get (D := D) (ci := 3) (v := .ref q_draft) (C := RX3) (T := TX3) (N := 14) hx hb hts in_X3_write_X3 hown hK.1 hP 0 rfl rfl 7 (by decide) (hts (.fieldLink RX3 22 "PaperBubbles$Law" "draft" "[I") (List.mem_of_getElem? (i := 2) rfl)) (fun _ h9 => h9) rfl dX3_write_17 ?_
      refine lv_aload_n hx hb dX3_write_20 rfl (lv_at hl 0 rfl) ?_
      refine va_get (D := D) (ci := 3) (v := .int v_drafted) (C := RX3) (T := TX3) (N := 14) hx hb hts in_X3_write_X3 hown hK.1 hP 0 rfl rfl 8 (by decide) (hts (.fieldLink RX3 78 "PaperBubbles$Law" "drafted" "I") (List.mem_of_getElem? (i := 1) rfl)) (fun _ h9 => h9) rfl dX3_write_21 ?_
      refine lv_iload_n hx hb dX3_write_24 rfl (lv_at hl 1 rfl) ?_
      replace h := chi_ok h
      obtain ⟨hi_3, h⟩ := h
      replace h := nm_ok h
      obtain ⟨w_4, ew_4, h⟩ := h
      refine va_iast hx hb hK.1 hP hD hS 1 0 rfl rfl hi_3 dX3_write_25 (fun H locs hP hD hS => ?_)
      have hP : va_P D gcl [(q_this, .inr (3, [.ref (c (10 + s_names)), .ref q_steps, .int v_length, .ref q_stack, .ref q_answers, .int v_side, .int v_round, .ref q_draft, .int v_drafted, .ref q_held, .int v_holding, .int v_open, .int v_digits, .int v_wantsOperand])), (q_draft, .inl (c 0, 50, .inl w_4))] H := by subst ew_4; exact hP
      have hD : va_D A [(q_this, .inr (3, [.ref (c (10 + s_names)), .ref q_steps, .int v_length, .ref q_stack, .ref q_answers, .int v_side, .int v_round, .ref q_draft, .int v_drafted, .ref q_held, .int v_holding, .int v_open, .int v_digits, .int v_wantsOperand])), (q_draft, .inl (c 0, 50, .inl w_4))] := by subst ew_4; exact hD
      refine lv_aload_n hx hb dX3_write_26 rfl (lv_at hl 0 rfl) ?_
      refine lv_dup hx hb dX3_write_27 rfl ?_
      refine va_get (D := D) (ci := 3) (v := .int v_drafted) (C := RX3) (T := TX3) (N := 14) hx hb hts in_X3_write_X3 hown hK.1 hP 0 rfl rfl 8 (by decide) (hts (.fieldLink RX3 78 "PaperBubbles$Law" "drafted" "I") (List.mem_of_getElem? (i := 1) rfl)) (fun _ h9 => h9) rfl dX3_write_28 ?_
      refine lv_iconst (v := 1) hx hb dX3_write_31 (by decide) ?_
      refine lv_iadd hx hb dX3_write_32 ?_
      replace h := nm_ok h
      obtain ⟨t_5, et_5, h⟩ := h
      refine gTop et_5 ?_
      refine va_put (D := D) (ci := 3) (v := .int t_5) (ty := .int) (C := RX3) (T := TX3) (N := 14) hx hb hts in_X3_write_X3 tyX3 tyX3_ok nmX3 hown hK.1 hP hD hS 0 rfl rfl 8 (by decide) (hts (.fieldLink RX3 78 "PaperBubbles$Law" "drafted" "I") (List.mem_of_getElem? (i := 1) rfl)) (fun _ h9 => h9) rfl (by decide +kernel) rfl rfl (Nat.le_of_ble_eq_true rfl) dX3_write_33 (fun H locs hP hD hS => ?_)
      have hP : va_P D gcl [(q_this, .inr (3, [.ref (c (10 + s_names)), .ref q_steps, .int v_length, .ref q_stack, .ref q_answers, .int v_side, .int v_round, .ref q_draft, .int t_5, .ref q_held, .int v_holding, .int v_open, .int v_digits, .int v_wantsOperand])), (q_draft, .inl (c 0, 50, .inl w_4))] H := hP
      have hD : va_D A [(q_this, .inr (3, [.ref (c (10 + s_names)), .ref q_steps, .int v_length, .ref q_stack, .ref q_answers, .int v_side, .int v_round, .ref q_draft, .int t_5, .ref q_held, .int v_holding, .int v_open, .int v_digits, .int v_wantsOperand])), (q_draft, .inl (c 0, 50, .inl w_4))] := hD
      replace h := so2 h
      obtain ⟨z0, z1⟩ := h
      subst z0 z1
      exact gVret hF hP hD hS dX3_write_36
set_option maxRecDepth 20000 in
theorem in_X3_begins_X3 : ∀ w ∈ u_ws RX3 TX3 14, w ∈ wsX3_begins := by decide +kernel
abbrev rm_X3_begins : Room := { frames := 4, cells := 0, slots := 0, locals := 91 }
set_option maxHeartbeats 4000000 in
set_option maxRecDepth 100000 in
theorem c_X3_begins (l : Launch) (D : va_G) (c : Nat → ClassId) (q_this q_steps q_stack q_answers q_draft q_held : Nat) (s_names : Nat) (a_1 : Int32) (v_length : Int32) (v_side : Int32) (v_round : Int32) (v_drafted : Int32) (v_holding : Int32) (v_open : Int32) (v_digits : Int32) (v_wantsOperand : Int32) (v_draft : Nat → Int32) (v_held : Nat → Int32) (o_r : Int32) (o_v_drafted : Int32) (o_v_holding : Int32) (o_v_open : Int32) (o_v_digits : Int32) (o_v_wantsOperand : Int32) (o_v_draft : Nat → Int32) (o_v_held : Nat → Int32) (h : f_X3_begins a_1 s_names v_drafted v_holding v_open v_digits v_wantsOperand v_draft v_held = some (o_r, o_v_drafted, o_v_holding, o_v_open, o_v_digits, o_v_wantsOperand, o_v_draft, o_v_held)) : gMI l yX3_begins wsX3_begins rm_X3_begins D c [.ref q_this, .int a_1] [(q_this, .inr (3, [.ref (c (10 + s_names)), .ref q_steps, .int v_length, .ref q_stack, .ref q_answers, .int v_side, .int v_round, .ref q_draft, .int v_drafted, .ref q_held, .int v_holding, .int v_open, .int v_digits, .int v_wantsOperand])), (q_draft, .inl (c 0, 50, .inl v_draft)), (q_held, .inl (c 0, 50, .inl v_held))] [(q_this, .inr (3, [.ref (c (10 + s_names)), .ref q_steps, .int v_length, .ref q_stack, .ref q_answers, .int v_side, .int v_round, .ref q_draft, .int o_v_drafted, .ref q_held, .int o_v_holding, .int o_v_open, .int o_v_digits, .int o_v_wantsOperand])), (q_draft, .inl (c 0, 50, .inl o_v_draft)), (q_held, .inl (c 0, 50, .inl o_v_held))] o_r := by
  refine gMI_of (cc := cX3_begins) (maxL := 3) (rt := (some .boolean)) (by decide +kernel) rfl (Nat.le_of_ble_eq_true rfl) ?_
  intro p e s m below meth co A hF hK hX hP hD hA hS ls hl
  obtain ⟨hx, hb, hr, hts, hown, hlocks, hml⟩ := id hF
  have hl : lv_has ls 3 [(0, .ref q_this), (1, .int a_1)] := hl
  have t_L12 : ∀ (v_drafted : Int32) (v_holding : Int32) (v_open : Int32) (v_digits : Int32) (v_wantsOperand : Int32) (v_draft : Nat → Int32) (v_held : Nat → Int32) (H : Heap) (locs : List Loc), va_P D gcl [(q_this, .inr (3, [.ref (c (10 + s_names)), .ref q_steps, .int v_length, .ref q_stack, .ref q_answers, .int v_side, .int v_round, .ref q_draft, .int v_drafted, .ref q_held, .int v_holding, .int v_open, .int v_digits, .int v_wantsOperand])), (q_draft, .inl (c 0, 50, .inl v_draft)), (q_held, .inl (c 0, 50, .inl v_held))] H → va_D A [(q_this, .inr (3, [.ref (c (10 + s_names)), .ref q_steps, .int v_length, .ref q_stack, .ref q_answers, .int v_side, .int v_round, .ref q_draft, .int v_drafted, .ref q_held, .int v_holding, .int v_open, .int v_digits, .int v_wantsOperand])), (q_draft, .inl (c 0, 50, .inl v_draft)), (q_held, .inl (c 0, 50, .inl v_held))] → va_S A s.heap H locs → ∀ ls, lv_has ls 3 [(0, .ref q_this), (1, .int a_1)] → f_X3_begins_L12 a_1 v_drafted v_holding v_open v_digits v_wantsOperand v_draft v_held = some (o_r, o_v_drafted, o_v_holding, o_v_open, o_v_digits, o_v_wantsOperand, o_v_draft, o_v_held) → W p l e (headSpec wsX3_begins rm_X3_begins).room s m [.ref q_this, .int a_1].toArray below meth co H locs 0 0 (gQI D [(q_this, .inr (3, [.ref (c (10 + s_names)), .ref q_steps, .int v_length, .ref q_stack, .ref q_answers, .int v_side, .int v_round, .ref q_draft, .int o_v_drafted, .ref q_held, .int o_v_holding, .int o_v_open, .int o_v_digits, .int o_v_wantsOperand])), (q_draft, .inl (c 0, 50, .inl o_v_draft)), (q_held, .inl (c 0, 50, .inl o_v_held))] o_r A below [.ref q_this, .int a_1] s) (F0 m 12 ls []) := by
    intro  v_drafted v_holding v_open v_digits v_wantsOperand v_draft v_held H locs hP hD hS ls hl h
    unfold f_X3_begins_L12 at h
    refine lv_aload_n hx hb dX3_begins_12 rfl (lv_at hl 0 rfl) ?_
    refine va_get (D := D) (ci := 3) (v := .int v_open) (C := RX3) (T := TX3) (N := 14) hx hb hts in_X3_begins_X3 hown hK.1 hP 0 rfl rfl 11 (by decide) (hts (.fieldLink RX3 84 "PaperBubbles$Law" "open" "I") (List.mem_of_getElem? (i := 1) rfl)) (fun _ h9 => h9) rfl dX3_begins_13 ?_
    refine lv_iconst (v := 5) hx hb dX3_begins_16 (by decide) ?_
    refine lv_icmp_lt (tgt := 22) hx hb dX3_begins_17 (by decide) (fun c_11 => ?_) (fun c_11 => ?_)
    · replace h := it_t c_11 h
      refine lv_aload_n hx hb dX3_begins_22 rfl (lv_at hl 0 rfl) ?_
      refine lv_dup hx hb dX3_begins_23 rfl ?_
      refine va_get (D := D) (ci := 3) (v := .int v_open) (C := RX3) (T := TX3) (N := 14) hx hb hts in_X3_begins_X3 hown hK.1 hP 0 rfl rfl 11 (by decide) (hts (.fieldLink RX3 84 "PaperBubbles$Law" "open" "I") (List.mem_of_getElem? (i := 1) rfl)) (fun _ h9 => h9) rfl dX3_begins_24 ?_
      refine lv_iconst (v := 1) hx hb dX3_begins_27 (by decide) ?_
      refine lv_iadd hx hb dX3_begins_28 ?_
      replace h := nm_ok h
      obtain ⟨t_12, et_12, h⟩ := h
      refine gTop et_12 ?_
      refine va_put (D := D) (ci := 3) (v := .int t_12) (ty := .int) (C := RX3) (T := TX3) (N := 14) hx hb hts in_X3_begins_X3 tyX3 tyX3_ok nmX3 hown hK.1 hP hD hS 0 rfl rfl 11 (by decide) (hts (.fieldLink RX3 84 "PaperBubbles$Law" "open" "I") (List.mem_of_getElem? (i := 1) rfl)) (fun _ h9 => h9) rfl (by decide +kernel) rfl rfl (Nat.le_of_ble_eq_true rfl) dX3_begins_29 (fun H locs hP hD hS => ?_)
      have hP : va_P D gcl [(q_this, .inr (3, [.ref (c (10 + s_names)), .ref q_steps, .int v_length, .ref q_stack, .ref q_answers, .int v_side, .int v_round, .ref q_draft, .int v_drafted, .ref q_held, .int v_holding, .int t_12, .int v_digits, .int v_wantsOperand])), (q_draft, .inl (c 0, 50, .inl v_draft)), (q_held, .inl (c 0, 50, .inl v_held))] H := hP
      have hD : va_D A [(q_this, .inr (3, [.ref (c (10 + s_names)), .ref q_steps, .int v_length, .ref q_stack, .ref q_answers, .int v_side, .int v_round, .ref q_draft, .int v_drafted, .ref q_held, .int v_holding, .int t_12, .int v_digits, .int v_wantsOperand])), (q_draft, .inl (c 0, 50, .inl v_draft)), (q_held, .inl (c 0, 50, .inl v_held))] := hD
      refine lv_aload_n hx hb dX3_begins_32 rfl (lv_at hl 0 rfl) ?_
      refine lv_iload_n hx hb dX3_begins_33 rfl (lv_at hl 1 rfl) ?_
      replace h := kb2_ok h
      obtain ⟨w_14, w_15, hc_13, h⟩ := h
      refine gCallV (isC := [0, 2]) (wc := [(q_this, .inr (3, [.ref (c (10 + s_names)), .ref q_steps, .int v_length, .ref q_stack, .ref q_answers, .int v_side, .int v_round, .ref q_draft, .int v_drafted, .ref q_held, .int v_holding, .int t_12, .int v_digits, .int v_wantsOperand])), (q_held, .inl (c 0, 50, .inl v_held))]) (w1 := [(q_this, .inr (3, [.ref (c (10 + s_names)), .ref q_steps, .int v_length, .ref q_stack, .ref q_answers, .int v_side, .int v_round, .ref q_draft, .int v_drafted, .ref q_held, .int w_14, .int t_12, .int v_digits, .int v_wantsOperand])), (q_held, .inl (c 0, 50, .inl w_15))]) (ws2 := [(q_this, .inr (3, [.ref (c (10 + s_names)), .ref q_steps, .int v_length, .ref q_stack, .ref q_answers, .int v_side, .int v_round, .ref q_draft, .int v_drafted, .ref q_held, .int w_14, .int t_12, .int v_digits, .int v_wantsOperand])), (q_draft, .inl (c 0, 50, .inl v_draft)), (q_held, .inl (c 0, 50, .inl w_15))]) (ms := [(some 0), none, (some 1)]) hP hD hS hA ⟨rfl, rfl, trivial⟩ (by decide +kernel) ⟨rfl, rfl, rfl, trivial⟩ (va_runV (rm := rm_X3_hold) (ws := wsX3_hold) (As := [.int a_1]) (rest := []) (gFix hF) (c_X3_hold l D c q_this q_steps q_stack q_answers q_draft q_held s_names a_1 v_length v_side v_round v_drafted v_holding t_12 v_digits v_wantsOperand v_held w_14 w_15 hc_13 H.size) (cwV 1 hts gX3_begins_X3_hold rfl rfl rfl (by decide +kernel) ⟨Nat.le_of_ble_eq_true rfl, Nat.le_of_ble_eq_true rfl⟩) (gPreV (wc := [(q_this, .inr (3, [.ref (c (10 + s_names)), .ref q_steps, .int v_length, .ref q_stack, .ref q_answers, .int v_side, .int v_round, .ref q_draft, .int v_drafted, .ref q_held, .int v_holding, .int t_12, .int v_digits, .int v_wantsOperand])), (q_held, .inl (c 0, 50, .inl v_held))]) (q := (RX3, TX3, 14)) (ci := 3) (q0 := 0) (isC := [0, 2]) hK hX hS hA hP hD ⟨rfl, rfl, trivial⟩ (by decide +kernel) rfl rfl) rfl rfl hl.1 rfl (lv_room (Nat.le_of_ble_eq_true rfl)) dX3_begins_34 ⟨Nat.le_of_ble_eq_true rfl, Nat.le_of_ble_eq_true rfl⟩) (fun H locs hP hD hS => ?_)
      refine lv_iconst (v := 1) hx hb dX3_begins_37 (by decide) ?_
      replace h := so8 h
      obtain ⟨z0, z1, z2, z3, z4, z5, z6, z7⟩ := h
      subst z0 z1 z2 z3 z4 z5 z6 z7
      exact gIret hF hP hD hS rfl dX3_begins_38
    · replace h := it_f c_11 h
      refine lv_iconst (v := 0) hx hb dX3_begins_20 (by decide) ?_
      replace h := so8 h
      obtain ⟨z0, z1, z2, z3, z4, z5, z6, z7⟩ := h
      subst z0 z1 z2 z3 z4 z5 z6 z7
      exact gIret hF hP hD hS rfl dX3_begins_21
  have t_L96 : ∀ (y1 : Int32) (v_drafted : Int32) (v_holding : Int32) (v_open : Int32) (v_digits : Int32) (v_wantsOperand : Int32) (v_draft : Nat → Int32) (v_held : Nat → Int32) (H : Heap) (locs : List Loc), va_P D gcl [(q_this, .inr (3, [.ref (c (10 + s_names)), .ref q_steps, .int v_length, .ref q_stack, .ref q_answers, .int v_side, .int v_round, .ref q_draft, .int v_drafted, .ref q_held, .int v_holding, .int v_open, .int v_digits, .int v_wantsOperand])), (q_draft, .inl (c 0, 50, .inl v_draft)), (q_held, .inl (c 0, 50, .inl v_held))] H → va_D A [(q_this, .inr (3, [.ref (c (10 + s_names)), .ref q_steps, .int v_length, .ref q_stack, .ref q_answers, .int v_side, .int v_round, .ref q_draft, .int v_drafted, .ref q_held, .int v_holding, .int v_open, .int v_digits, .int v_wantsOperand])), (q_draft, .inl (c 0, 50, .inl v_draft)), (q_held, .inl (c 0, 50, .inl v_held))] → va_S A s.heap H locs → ∀ ls, lv_has ls 3 [(0, .ref q_this)] → f_X3_begins_L96 y1 v_drafted v_holding v_open v_digits v_draft v_held = some (o_r, o_v_drafted, o_v_holding, o_v_open, o_v_digits, o_v_wantsOperand, o_v_draft, o_v_held) → W p l e (headSpec wsX3_begins rm_X3_begins).room s m [.ref q_this, .int a_1].toArray below meth co H locs 0 0 (gQI D [(q_this, .inr (3, [.ref (c (10 + s_names)), .ref q_steps, .int v_length, .ref q_stack, .ref q_answers, .int v_side, .int v_round, .ref q_draft, .int o_v_drafted, .ref q_held, .int o_v_holding, .int o_v_open, .int o_v_digits, .int o_v_wantsOperand])), (q_draft, .inl (c 0, 50, .inl o_v_draft)), (q_held, .inl (c 0, 50, .inl o_v_held))] o_r A below [.ref q_this, .int a_1] s) (F0 m 96 ls [.int y1, .ref q_this]) := by
    intro  y1 v_drafted v_holding v_open v_digits v_wantsOperand v_draft v_held H locs hP hD hS ls hl h
    unfold f_X3_begins_L96 at h
    replace h := kb2_ok h
    obtain ⟨w_25, w_26, hc_24, h⟩ := h
    refine gCallV (isC := [0, 1]) (wc := [(q_this, .inr (3, [.ref (c (10 + s_names)), .ref q_steps, .int v_length, .ref q_stack, .ref q_answers, .int v_side, .int v_round, .ref q_draft, .int v_drafted, .ref q_held, .int v_holding, .int v_open, .int v_digits, .int v_wantsOperand])), (q_draft, .inl (c 0, 50, .inl v_draft))]) (w1 := [(q_this, .inr (3, [.ref (c (10 + s_names)), .ref q_steps, .int v_length, .ref q_stack, .ref q_answers, .int v_side, .int v_round, .ref q_draft, .int w_25, .ref q_held, .int v_holding, .int v_open, .int v_digits, .int v_wantsOperand])), (q_draft, .inl (c 0, 50, .inl w_26))]) (ws2 := [(q_this, .inr (3, [.ref (c (10 + s_names)), .ref q_steps, .int v_length, .ref q_stack, .ref q_answers, .int v_side, .int v_round, .ref q_draft, .int w_25, .ref q_held, .int v_holding, .int v_open, .int v_digits, .int v_wantsOperand])), (q_draft, .inl (c 0, 50, .inl w_26)), (q_held, .inl (c 0, 50, .inl v_held))]) (ms := [(some 0), (some 1), none]) hP hD hS hA ⟨rfl, rfl, trivial⟩ (by decide +kernel) ⟨rfl, rfl, rfl, trivial⟩ (va_runV (rm := rm_X3_write) (ws := wsX3_write) (As := [.int y1]) (rest := []) (gFix hF) (c_X3_write l D c q_this q_steps q_stack q_answers q_draft q_held s_names y1 v_length v_side v_round v_drafted v_holding v_open v_digits v_wantsOperand v_draft w_25 w_26 hc_24 H.size) (cwV 1 hts gX3_begins_X3_write rfl rfl rfl (by decide +kernel) ⟨Nat.le_of_ble_eq_true rfl, Nat.le_of_ble_eq_true rfl⟩) (gPreV (wc := [(q_this, .inr (3, [.ref (c (10 + s_names)), .ref q_steps, .int v_length, .ref q_stack, .ref q_answers, .int v_side, .int v_round, .ref q_draft, .int v_drafted, .ref q_held, .int v_holding, .int v_open, .int v_digits, .int v_wantsOperand])), (q_draft, .inl (c 0, 50, .inl v_draft))]) (q := (RX3, TX3, 14)) (ci := 3) (q0 := 0) (isC := [0, 1]) hK hX hS hA hP hD ⟨rfl, rfl, trivial⟩ (by decide +kernel) rfl rfl) rfl rfl hl.1 rfl (lv_room (Nat.le_of_ble_eq_true rfl)) dX3_begins_96 ⟨Nat.le_of_ble_eq_true rfl, Nat.le_of_ble_eq_true rfl⟩) (fun H locs hP hD hS => ?_)
    refine lv_aload_n hx hb dX3_begins_99 rfl (lv_at hl 0 rfl) ?_
    refine lv_iconst (v := 0) hx hb dX3_begins_100 (by decide) ?_
    refine va_put (D := D) (ci := 3) (v := .int 0) (ty := .boolean) (C := RX3) (T := TX3) (N := 14) hx hb hts in_X3_begins_X3 tyX3 tyX3_ok nmX3 hown hK.1 hP hD hS 0 rfl rfl 13 (by decide) (hts (.fieldLink RX3 90 "PaperBubbles$Law" "wantsOperand" "Z") (List.mem_of_getElem? (i := 4) rfl)) (fun _ h9 => h9) rfl (by decide +kernel) rfl rfl (Nat.le_of_ble_eq_true rfl) dX3_begins_101 (fun H locs hP hD hS => ?_)
    have hP : va_P D gcl [(q_this, .inr (3, [.ref (c (10 + s_names)), .ref q_steps, .int v_length, .ref q_stack, .ref q_answers, .int v_side, .int v_round, .ref q_draft, .int w_25, .ref q_held, .int v_holding, .int v_open, .int v_digits, .int 0])), (q_draft, .inl (c 0, 50, .inl w_26)), (q_held, .inl (c 0, 50, .inl v_held))] H := hP
    have hD : va_D A [(q_this, .inr (3, [.ref (c (10 + s_names)), .ref q_steps, .int v_length, .ref q_stack, .ref q_answers, .int v_side, .int v_round, .ref q_draft, .int w_25, .ref q_held, .int v_holding, .int v_open, .int v_digits, .int 0])), (q_draft, .inl (c 0, 50, .inl w_26)), (q_held, .inl (c 0, 50, .inl v_held))] := hD
    refine lv_iconst (v := 1) hx hb dX3_begins_104 (by decide) ?_
    replace h := so8 h
    obtain ⟨z0, z1, z2, z3, z4, z5, z6, z7⟩ := h
    subst z0 z1 z2 z3 z4 z5 z6 z7
    exact gIret hF hP hD hS rfl dX3_begins_105
  have t_L75 : ∀ (x2 : Int32) (y1 : Int32) (v_drafted : Int32) (v_holding : Int32) (v_open : Int32) (v_digits : Int32) (v_wantsOperand : Int32) (v_draft : Nat → Int32) (v_held : Nat → Int32) (H : Heap) (locs : List Loc), va_P D gcl [(q_this, .inr (3, [.ref (c (10 + s_names)), .ref q_steps, .int v_length, .ref q_stack, .ref q_answers, .int v_side, .int v_round, .ref q_draft, .int v_drafted, .ref q_held, .int v_holding, .int v_open, .int v_digits, .int v_wantsOperand])), (q_draft, .inl (c 0, 50, .inl v_draft)), (q_held, .inl (c 0, 50, .inl v_held))] H → va_D A [(q_this, .inr (3, [.ref (c (10 + s_names)), .ref q_steps, .int v_length, .ref q_stack, .ref q_answers, .int v_side, .int v_round, .ref q_draft, .int v_drafted, .ref q_held, .int v_holding, .int v_open, .int v_digits, .int v_wantsOperand])), (q_draft, .inl (c 0, 50, .inl v_draft)), (q_held, .inl (c 0, 50, .inl v_held))] → va_S A s.heap H locs → ∀ ls, lv_has ls 3 [(0, .ref q_this), (1, .int a_1), (2, .int x2)] → f_X3_begins_L75 a_1 x2 y1 v_drafted v_holding v_open v_draft v_held = some (o_r, o_v_drafted, o_v_holding, o_v_open, o_v_digits, o_v_wantsOperand, o_v_draft, o_v_held) → W p l e (headSpec wsX3_begins rm_X3_begins).room s m [.ref q_this, .int a_1].toArray below meth co H locs 0 0 (gQI D [(q_this, .inr (3, [.ref (c (10 + s_names)), .ref q_steps, .int v_length, .ref q_stack, .ref q_answers, .int v_side, .int v_round, .ref q_draft, .int o_v_drafted, .ref q_held, .int o_v_holding, .int o_v_open, .int o_v_digits, .int o_v_wantsOperand])), (q_draft, .inl (c 0, 50, .inl o_v_draft)), (q_held, .inl (c 0, 50, .inl o_v_held))] o_r A below [.ref q_this, .int a_1] s) (F0 m 75 ls [.int y1, .ref q_this]) := by
    intro  x2 y1 v_drafted v_holding v_open v_digits v_wantsOperand v_draft v_held H locs hP hD hS ls hl h
    unfold f_X3_begins_L75 at h
    refine va_put (D := D) (ci := 3) (v := .int y1) (ty := .int) (C := RX3) (T := TX3) (N := 14) hx hb hts in_X3_begins_X3 tyX3 tyX3_ok nmX3 hown hK.1 hP hD hS 0 rfl rfl 12 (by decide) (hts (.fieldLink RX3 87 "PaperBubbles$Law" "digits" "I") (List.mem_of_getElem? (i := 3) rfl)) (fun _ h9 => h9) rfl (by decide +kernel) rfl rfl (Nat.le_of_ble_eq_true rfl) dX3_begins_75 (fun H locs hP hD hS => ?_)
    have hP : va_P D gcl [(q_this, .inr (3, [.ref (c (10 + s_names)), .ref q_steps, .int v_length, .ref q_stack, .ref q_answers, .int v_side, .int v_round, .ref q_draft, .int v_drafted, .ref q_held, .int v_holding, .int v_open, .int y1, .int v_wantsOperand])), (q_draft, .inl (c 0, 50, .inl v_draft)), (q_held, .inl (c 0, 50, .inl v_held))] H := hP
    have hD : va_D A [(q_this, .inr (3, [.ref (c (10 + s_names)), .ref q_steps, .int v_length, .ref q_stack, .ref q_answers, .int v_side, .int v_round, .ref q_draft, .int v_drafted, .ref q_held, .int v_holding, .int v_open, .int y1, .int v_wantsOperand])), (q_draft, .inl (c 0, 50, .inl v_draft)), (q_held, .inl (c 0, 50, .inl v_held))] := hD
    refine lv_aload_n hx hb dX3_begins_78 rfl (lv_at hl 0 rfl) ?_
    refine lv_iload_n hx hb dX3_begins_79 rfl (lv_at hl 1 rfl) ?_
    replace h := kb_ok h
    obtain ⟨r_20, hc_19, h⟩ := h
    refine gCallIr (isC := []) (wc := []) hP hD hS hA trivial (va_runS (rm := rm_X3_isDigit) (ws := wsX3_isDigit) (As := [.int a_1]) (rest := [.ref q_this]) (gFix hF) (c_X3_isDigit l D c a_1 r_20 hc_19 H.size) (va_cwS 1 hts gX3_begins_X3_isDigit rfl rfl rfl (by decide +kernel) ⟨Nat.le_of_ble_eq_true rfl, Nat.le_of_ble_eq_true rfl⟩) (gPreS (wc := []) (isC := []) hK hX hS hA hP hD trivial (by decide +kernel)) rfl rfl hl.1 rfl (lv_room (Nat.le_of_ble_eq_true rfl)) dX3_begins_80 ⟨Nat.le_of_ble_eq_true rfl, Nat.le_of_ble_eq_true rfl⟩) (fun H locs hP hS => ?_)
    refine lv_if_eq (tgt := 93) hx hb dX3_begins_83 (by decide) (fun c_21 => ?_) (fun c_21 => ?_)
    · replace h := it_t c_21 h
      refine lv_iconst (v := (-1)) hx hb dX3_begins_93 (by decide) ?_
      refine lv_iload_n hx hb dX3_begins_94 rfl (lv_at hl 2 rfl) ?_
      refine lv_isub hx hb dX3_begins_95 ?_
      replace h := nm_ok h
      obtain ⟨t_22, et_22, h⟩ := h
      refine gTop et_22 ?_
      exact t_L96 t_22 v_drafted v_holding v_open y1 v_wantsOperand v_draft v_held H locs hP hD hS ls (lv_sub hl [0] rfl) h
    · replace h := it_f c_21 h
      refine lv_iload_n hx hb dX3_begins_86 rfl (lv_at hl 1 rfl) ?_
      refine lv_bipush (v := 48) hx hb dX3_begins_87 (by decide) ?_
      refine lv_isub hx hb dX3_begins_89 ?_
      replace h := nm_ok h
      obtain ⟨t_23, et_23, h⟩ := h
      refine gTop et_23 ?_
      refine lv_goto (tgt := 96) hx hb dX3_begins_90 (by decide) ?_
      exact t_L96 t_23 v_drafted v_holding v_open y1 v_wantsOperand v_draft v_held H locs hP hD hS ls (lv_sub hl [0] rfl) h
  have t_L62 : ∀ (x2 : Int32) (v_drafted : Int32) (v_holding : Int32) (v_open : Int32) (v_digits : Int32) (v_wantsOperand : Int32) (v_draft : Nat → Int32) (v_held : Nat → Int32) (H : Heap) (locs : List Loc), va_P D gcl [(q_this, .inr (3, [.ref (c (10 + s_names)), .ref q_steps, .int v_length, .ref q_stack, .ref q_answers, .int v_side, .int v_round, .ref q_draft, .int v_drafted, .ref q_held, .int v_holding, .int v_open, .int v_digits, .int v_wantsOperand])), (q_draft, .inl (c 0, 50, .inl v_draft)), (q_held, .inl (c 0, 50, .inl v_held))] H → va_D A [(q_this, .inr (3, [.ref (c (10 + s_names)), .ref q_steps, .int v_length, .ref q_stack, .ref q_answers, .int v_side, .int v_round, .ref q_draft, .int v_drafted, .ref q_held, .int v_holding, .int v_open, .int v_digits, .int v_wantsOperand])), (q_draft, .inl (c 0, 50, .inl v_draft)), (q_held, .inl (c 0, 50, .inl v_held))] → va_S A s.heap H locs → ∀ ls, lv_has ls 3 [(0, .ref q_this), (1, .int a_1), (2, .int x2)] → f_X3_begins_L62 a_1 x2 v_drafted v_holding v_open v_draft v_held = some (o_r, o_v_drafted, o_v_holding, o_v_open, o_v_digits, o_v_wantsOperand, o_v_draft, o_v_held) → W p l e (headSpec wsX3_begins rm_X3_begins).room s m [.ref q_this, .int a_1].toArray below meth co H locs 0 0 (gQI D [(q_this, .inr (3, [.ref (c (10 + s_names)), .ref q_steps, .int v_length, .ref q_stack, .ref q_answers, .int v_side, .int v_round, .ref q_draft, .int o_v_drafted, .ref q_held, .int o_v_holding, .int o_v_open, .int o_v_digits, .int o_v_wantsOperand])), (q_draft, .inl (c 0, 50, .inl o_v_draft)), (q_held, .inl (c 0, 50, .inl o_v_held))] o_r A below [.ref q_this, .int a_1] s) (F0 m 62 ls []) := by
    intro  x2 v_drafted v_holding v_open v_digits v_wantsOperand v_draft v_held H locs hP hD hS ls hl h
    unfold f_X3_begins_L62 at h
    refine lv_aload_n hx hb dX3_begins_62 rfl (lv_at hl 0 rfl) ?_
    refine lv_iload_n hx hb dX3_begins_63 rfl (lv_at hl 1 rfl) ?_
    replace h := kb_ok h
    obtain ⟨r_17, hc_16, h⟩ := h
    refine gCallIr (isC := []) (wc := []) hP hD hS hA trivial (va_runS (rm := rm_X3_isDigit) (ws := wsX3_isDigit) (As := [.int a_1]) (rest := [.ref q_this]) (gFix hF) (c_X3_isDigit l D c a_1 r_17 hc_16 H.size) (va_cwS 1 hts gX3_begins_X3_isDigit rfl rfl rfl (by decide +kernel) ⟨Nat.le_of_ble_eq_true rfl, Nat.le_of_ble_eq_true rfl⟩) (gPreS (wc := []) (isC := []) hK hX hS hA hP hD trivial (by decide +kernel)) rfl rfl hl.1 rfl (lv_room (Nat.le_of_ble_eq_true rfl)) dX3_begins_64 ⟨Nat.le_of_ble_eq_true rfl, Nat.le_of_ble_eq_true rfl⟩) (fun H locs hP hS => ?_)
    refine lv_if_eq (tgt := 74) hx hb dX3_begins_67 (by decide) (fun c_18 => ?_) (fun c_18 => ?_)
    · replace h := it_t c_18 h
      refine lv_iconst (v := 0) hx hb dX3_begins_74 (by decide) ?_
      exact t_L75 x2 0 v_drafted v_holding v_open v_digits v_wantsOperand v_draft v_held H locs hP hD hS ls (lv_sub hl [0, 1, 2] rfl) h
    · replace h := it_f c_18 h
      refine lv_iconst (v := 1) hx hb dX3_begins_70 (by decide) ?_
      refine lv_goto (tgt := 75) hx hb dX3_begins_71 (by decide) ?_
      exact t_L75 x2 1 v_drafted v_holding v_open v_digits v_wantsOperand v_draft v_held H locs hP hD hS ls (lv_sub hl [0, 1, 2] rfl) h
  unfold f_X3_begins at h
  refine lv_iload_n hx hb dX3_begins_0 rfl (lv_at hl 1 rfl) ?_
  refine lv_bipush (v := 33) hx hb dX3_begins_1 (by decide) ?_
  refine lv_icmp_eq (tgt := 12) hx hb dX3_begins_3 (by decide) (fun c_1 => ?_) (fun c_1 => ?_)
  · replace h := it_t c_1 h
    exact t_L12 v_drafted v_holding v_open v_digits v_wantsOperand v_draft v_held s.heap [] hP hD hS ls (lv_sub hl [0, 1] rfl) h
  · replace h := it_f c_1 h
    refine lv_iload_n hx hb dX3_begins_6 rfl (lv_at hl 1 rfl) ?_
    refine lv_bipush (v := 40) hx hb dX3_begins_7 (by decide) ?_
    refine lv_icmp_ne (tgt := 39) hx hb dX3_begins_9 (by decide) (fun c_2 => ?_) (fun c_2 => ?_)
    · replace h := it_f c_2 h
      refine lv_aload_n hx hb dX3_begins_39 rfl (lv_at hl 0 rfl) ?_
      refine va_get (D := D) (ci := 3) (v := .ref (c (10 + s_names))) (C := RX3) (T := TX3) (N := 14) hx hb hts in_X3_begins_X3 hown hK.1 hP 0 rfl rfl 0 (by decide) (hts (.fieldLink RX3 32 "PaperBubbles$Law" "names" "Ljava/lang/String;") (List.mem_of_getElem? (i := 2) rfl)) (fun _ h9 => h9) rfl dX3_begins_40 ?_
      refine lv_iload_n hx hb dX3_begins_43 rfl (lv_at hl 1 rfl) ?_
      refine lv_i2c hx hb dX3_begins_44 rfl ?_
      replace h := nm_ok h
      obtain ⟨t_3, et_3, h⟩ := h
      refine gTop et_3 ?_
      replace h := chs_ok h
      obtain ⟨hi_6, h⟩ := h
      replace h := kb_ok h
      obtain ⟨r_5, hc_4, h⟩ := h
      refine gCallIr (isC := []) (wc := []) hP hD hS hA trivial (va_runV (rm := rm_J0_indexOf_0f7a4) (ws := wsJ0_indexOf_0f7a4) (As := [.int t_3]) (rest := []) (gFix hF) (c_J0_indexOf_0f7a4 l D c s_names t_3 r_5 hc_4 s.heap.size) (cwV 1 hts gX3_begins_J0_indexOf_0f7a4 rfl rfl rfl (by decide +kernel) ⟨Nat.le_of_ble_eq_true rfl, Nat.le_of_ble_eq_true rfl⟩) (gPreVS (i := s_names) hi_6 (wc := []) (isC := []) hK hX hS hA hP hD trivial (by decide +kernel)) rfl rfl hl.1 rfl (lv_room (Nat.le_of_ble_eq_true rfl)) dX3_begins_45 ⟨Nat.le_of_ble_eq_true rfl, Nat.le_of_ble_eq_true rfl⟩) (fun H locs hP hS => ?_)
      refine lv_istore_n (lv' := [(2, .int r_5), (0, .ref q_this), (1, .int a_1)]) hx hb dX3_begins_48 rfl hl (by decide) rfl (fun ls hl => ?_)
      refine lv_iload_n hx hb dX3_begins_49 rfl (lv_at hl 2 rfl) ?_
      replace h := kb_ok h
      obtain ⟨r_8, hc_7, h⟩ := h
      refine gCallIr (isC := []) (wc := []) hP hD hS hA trivial (va_runS (rm := rm_X3_isDigit) (ws := wsX3_isDigit) (As := [.int a_1]) (rest := []) (gFix hF) (c_X3_isDigit l D c a_1 r_8 hc_7 H.size) (va_cwS 1 hts gX3_begins_X3_isDigit rfl rfl rfl (by decide +kernel) ⟨Nat.le_of_ble_eq_true rfl, Nat.le_of_ble_eq_true rfl⟩) (gPreS (wc := []) (isC := []) hK hX hS hA hP hD trivial (by decide +kernel)) rfl rfl hl.1 rfl (lv_room (Nat.le_of_ble_eq_true rfl)) dX3_begins_50 ⟨Nat.le_of_ble_eq_true rfl, Nat.le_of_ble_eq_true rfl⟩) (fun H locs hP hS => ?_)
      refine lv_if_ne (tgt := 62) hx hb dX3_begins_53 (by decide) (fun c_9 => ?_) (fun c_9 => ?_)
      · replace h := it_f c_9 h
        exact t_L62 r_5 v_drafted v_holding v_open v_digits v_wantsOperand v_draft v_held H locs hP hD hS ls (lv_sub hl [1, 2, 0] rfl) h
      · replace h := it_t c_9 h
        refine lv_iload_n hx hb dX3_begins_56 rfl (lv_at hl 0 rfl) ?_
        refine lv_if_ge (tgt := 62) hx hb dX3_begins_57 (by decide) (fun c_10 => ?_) (fun c_10 => ?_)
        · replace h := it_t c_10 h
          exact t_L62 r_5 v_drafted v_holding v_open v_digits v_wantsOperand v_draft v_held H locs hP hD hS ls (lv_sub hl [1, 2, 0] rfl) h
        · replace h := it_f c_10 h
          refine lv_iconst (v := 0) hx hb dX3_begins_60 (by decide) ?_
          replace h := so8 h
          obtain ⟨z0, z1, z2, z3, z4, z5, z6, z7⟩ := h
          subst z0 z1 z2 z3 z4 z5 z6 z7
          exact gIret hF hP hD hS rfl dX3_begins_61
    · replace h := it_t c_2 h
      exact t_L12 v_drafted v_holding v_open v_digits v_wantsOperand v_draft v_held s.heap [] hP hD hS ls (lv_sub hl [0, 1] rfl) h
set_option maxRecDepth 20000 in
theorem in_X3_lastHeld_X3 : ∀ w ∈ u_ws RX3 TX3 14, w ∈ wsX3_lastHeld := by decide +kernel
abbrev rm_X3_lastHeld : Room := { frames := 0, cells := 0, slots := 0, locals := 0 }
set_option maxHeartbeats 4000000 in
set_option maxRecDepth 100000 in
theorem c_X3_lastHeld (l : Launch) (D : va_G) (c : Nat → ClassId) (q_this q_steps q_stack q_answers q_draft q_held : Nat) (s_names : Nat) (v_length : Int32) (v_side : Int32) (v_round : Int32) (v_drafted : Int32) (v_holding : Int32) (v_open : Int32) (v_digits : Int32) (v_wantsOperand : Int32) (v_held : Nat → Int32) (o_r : Int32) (h : f_X3_lastHeld v_holding v_held = some o_r) : gMI l yX3_lastHeld wsX3_lastHeld rm_X3_lastHeld D c [.ref q_this] [(q_this, .inr (3, [.ref (c (10 + s_names)), .ref q_steps, .int v_length, .ref q_stack, .ref q_answers, .int v_side, .int v_round, .ref q_draft, .int v_drafted, .ref q_held, .int v_holding, .int v_open, .int v_digits, .int v_wantsOperand])), (q_held, .inl (c 0, 50, .inl v_held))] [(q_this, .inr (3, [.ref (c (10 + s_names)), .ref q_steps, .int v_length, .ref q_stack, .ref q_answers, .int v_side, .int v_round, .ref q_draft, .int v_drafted, .ref q_held, .int v_holding, .int v_open, .int v_digits, .int v_wantsOperand])), (q_held, .inl (c 0, 50, .inl v_held))] o_r := by
  refine gMI_of (cc := cX3_lastHeld) (maxL := 1) (rt := (some .int)) (by decide +kernel) rfl (Nat.le_of_ble_eq_true rfl) ?_
  intro p e s m below meth co A hF hK hX hP hD hA hS ls hl
  obtain ⟨hx, hb, hr, hts, hown, hlocks, hml⟩ := id hF
  have hl : lv_has ls 1 [(0, .ref q_this)] := hl
  unfold f_X3_lastHeld at h
  refine lv_aload_n hx hb dX3_lastHeld_0 rfl (lv_at hl 0 rfl) ?_
  refine va_get (D := D) (ci := 3) (v := .int v_holding) (C := RX3) (T := TX3) (N := 14) hx hb hts in_X3_lastHeld_X3 hown hK.1 hP 0 rfl rfl 10 (by decide) (hts (.fieldLink RX3 81 "PaperBubbles$Law" "holding" "I") (List.mem_of_getElem? (i := 1) rfl)) (fun _ h9 => h9) rfl dX3_lastHeld_1 ?_
  refine lv_if_le (tgt := 30) hx hb dX3_lastHeld_4 (by decide) (fun c_1 => ?_) (fun c_1 => ?_)
  · replace h := it_t c_1 h
    refine lv_iconst (v := 0) hx hb dX3_lastHeld_30 (by decide) ?_
    replace h := so1 h
    subst h
    exact gIret hF hP hD hS rfl dX3_lastHeld_31
  · replace h := it_f c_1 h
    refine lv_aload_n hx hb dX3_lastHeld_7 rfl (lv_at hl 0 rfl) ?_
    refine va_get (D := D) (ci := 3) (v := .int v_holding) (C := RX3) (T := TX3) (N := 14) hx hb hts in_X3_lastHeld_X3 hown hK.1 hP 0 rfl rfl 10 (by decide) (hts (.fieldLink RX3 81 "PaperBubbles$Law" "holding" "I") (List.mem_of_getElem? (i := 1) rfl)) (fun _ h9 => h9) rfl dX3_lastHeld_8 ?_
    refine lv_bipush (v := 50) hx hb dX3_lastHeld_11 (by decide) ?_
    refine lv_icmp_gt (tgt := 30) hx hb dX3_lastHeld_13 (by decide) (fun c_2 => ?_) (fun c_2 => ?_)
    · replace h := it_t c_2 h
      refine lv_iconst (v := 0) hx hb dX3_lastHeld_30 (by decide) ?_
      replace h := so1 h
      subst h
      exact gIret hF hP hD hS rfl dX3_lastHeld_31
    · replace h := it_f c_2 h
      refine lv_aload_n hx hb dX3_lastHeld_16 rfl (lv_at hl 0 rfl) ?_
      refine va_get (D := D) (ci := 3) (v := .ref q_held) (C := RX3) (T := TX3) (N := 14) hx hb hts in_X3_lastHeld_X3 hown hK.1 hP 0 rfl rfl 9 (by decide) (hts (.fieldLink RX3 25 "PaperBubbles$Law" "held" "[I") (List.mem_of_getElem? (i := 2) rfl)) (fun _ h9 => h9) rfl dX3_lastHeld_17 ?_
      refine lv_aload_n hx hb dX3_lastHeld_20 rfl (lv_at hl 0 rfl) ?_
      refine va_get (D := D) (ci := 3) (v := .int v_holding) (C := RX3) (T := TX3) (N := 14) hx hb hts in_X3_lastHeld_X3 hown hK.1 hP 0 rfl rfl 10 (by decide) (hts (.fieldLink RX3 81 "PaperBubbles$Law" "holding" "I") (List.mem_of_getElem? (i := 1) rfl)) (fun _ h9 => h9) rfl dX3_lastHeld_21 ?_
      refine lv_iconst (v := 1) hx hb dX3_lastHeld_24 (by decide) ?_
      refine lv_isub hx hb dX3_lastHeld_25 ?_
      replace h := nm_ok h
      obtain ⟨t_3, et_3, h⟩ := h
      refine gTop et_3 ?_
      replace h := chi_ok h
      obtain ⟨hi_4, h⟩ := h
      refine va_iald hx hb hK.1 hP 1 0 rfl rfl hi_4 dX3_lastHeld_26 ?_
      replace h := nm_ok h
      obtain ⟨t_5, et_5, h⟩ := h
      refine gTop et_5 ?_
      refine lv_goto (tgt := 31) hx hb dX3_lastHeld_27 (by decide) ?_
      replace h := so1 h
      subst h
      exact gIret hF hP hD hS rfl dX3_lastHeld_31
abbrev rm_X3_rankOf : Room := { frames := 0, cells := 0, slots := 0, locals := 0 }
set_option maxHeartbeats 4000000 in
set_option maxRecDepth 100000 in
theorem c_X3_rankOf (l : Launch) (D : va_G) (c : Nat → ClassId) (a_0 : Int32) (o_r : Int32) (h : f_X3_rankOf a_0 = some o_r) : gMI l yX3_rankOf wsX3_rankOf rm_X3_rankOf D c [.int a_0] [] [] o_r := by
  refine gMI_of (cc := cX3_rankOf) (maxL := 1) (rt := (some .int)) (by decide +kernel) rfl (Nat.le_of_ble_eq_true rfl) ?_
  intro p e s m below meth co A hF hK hX hP hD hA hS ls hl
  obtain ⟨hx, hb, hr, hts, hown, hlocks, hml⟩ := id hF
  have hl : lv_has ls 1 [(0, .int a_0)] := hl
  unfold f_X3_rankOf at h
  refine lv_iload_n hx hb dX3_rankOf_0 rfl (lv_at hl 0 rfl) ?_
  by_cases c_1 : a_0 = 37
  · replace h := it_t c_1 h
    refine lv_lookup (x := a_0) (off := 99) (tgt := 100) hx hb dX3_rankOf_1 (by decide +kernel) (by rw [c_1]; rfl) (by decide) ?_
    refine lv_iconst (v := 5) hx hb dX3_rankOf_100 (by decide) ?_
    replace h := so1 h
    subst h
    exact gIret hF hP hD hS rfl dX3_rankOf_101
  · replace h := it_f c_1 h
    by_cases c_2 : a_0 = 38
    · replace h := it_t c_2 h
      refine lv_lookup (x := a_0) (off := 93) (tgt := 94) hx hb dX3_rankOf_1 (by decide +kernel) (by rw [c_2]; rfl) (by decide) ?_
      refine lv_iconst (v := 2) hx hb dX3_rankOf_94 (by decide) ?_
      replace h := so1 h
      subst h
      exact gIret hF hP hD hS rfl dX3_rankOf_95
    · replace h := it_f c_2 h
      by_cases c_3 : a_0 = 42
      · replace h := it_t c_3 h
        refine lv_lookup (x := a_0) (off := 99) (tgt := 100) hx hb dX3_rankOf_1 (by decide +kernel) (by rw [c_3]; rfl) (by decide) ?_
        refine lv_iconst (v := 5) hx hb dX3_rankOf_100 (by decide) ?_
        replace h := so1 h
        subst h
        exact gIret hF hP hD hS rfl dX3_rankOf_101
      · replace h := it_f c_3 h
        by_cases c_4 : a_0 = 43
        · replace h := it_t c_4 h
          refine lv_lookup (x := a_0) (off := 97) (tgt := 98) hx hb dX3_rankOf_1 (by decide +kernel) (by rw [c_4]; rfl) (by decide) ?_
          refine lv_iconst (v := 4) hx hb dX3_rankOf_98 (by decide) ?_
          replace h := so1 h
          subst h
          exact gIret hF hP hD hS rfl dX3_rankOf_99
        · replace h := it_f c_4 h
          by_cases c_5 : a_0 = 45
          · replace h := it_t c_5 h
            refine lv_lookup (x := a_0) (off := 97) (tgt := 98) hx hb dX3_rankOf_1 (by decide +kernel) (by rw [c_5]; rfl) (by decide) ?_
            refine lv_iconst (v := 4) hx hb dX3_rankOf_98 (by decide) ?_
            replace h := so1 h
            subst h
            exact gIret hF hP hD hS rfl dX3_rankOf_99
          · replace h := it_f c_5 h
            by_cases c_6 : a_0 = 47
            · replace h := it_t c_6 h
              refine lv_lookup (x := a_0) (off := 99) (tgt := 100) hx hb dX3_rankOf_1 (by decide +kernel) (by rw [c_6]; rfl) (by decide) ?_
              refine lv_iconst (v := 5) hx hb dX3_rankOf_100 (by decide) ?_
              replace h := so1 h
              subst h
              exact gIret hF hP hD hS rfl dX3_rankOf_101
            · replace h := it_f c_6 h
              by_cases c_7 : a_0 = 60
              · replace h := it_t c_7 h
                refine lv_lookup (x := a_0) (off := 95) (tgt := 96) hx hb dX3_rankOf_1 (by decide +kernel) (by rw [c_7]; rfl) (by decide) ?_
                refine lv_iconst (v := 3) hx hb dX3_rankOf_96 (by decide) ?_
                replace h := so1 h
                subst h
                exact gIret hF hP hD hS rfl dX3_rankOf_97
              · replace h := it_f c_7 h
                by_cases c_8 : a_0 = 61
                · replace h := it_t c_8 h
                  refine lv_lookup (x := a_0) (off := 95) (tgt := 96) hx hb dX3_rankOf_1 (by decide +kernel) (by rw [c_8]; rfl) (by decide) ?_
                  refine lv_iconst (v := 3) hx hb dX3_rankOf_96 (by decide) ?_
                  replace h := so1 h
                  subst h
                  exact gIret hF hP hD hS rfl dX3_rankOf_97
                · replace h := it_f c_8 h
                  by_cases c_9 : a_0 = 62
                  · replace h := it_t c_9 h
                    refine lv_lookup (x := a_0) (off := 95) (tgt := 96) hx hb dX3_rankOf_1 (by decide +kernel) (by rw [c_9]; rfl) (by decide) ?_
                    refine lv_iconst (v := 3) hx hb dX3_rankOf_96 (by decide) ?_
                    replace h := so1 h
                    subst h
                    exact gIret hF hP hD hS rfl dX3_rankOf_97
                  · replace h := it_f c_9 h
                    by_cases c_10 : a_0 = 124
                    · replace h := it_t c_10 h
                      refine lv_lookup (x := a_0) (off := 91) (tgt := 92) hx hb dX3_rankOf_1 (by decide +kernel) (by rw [c_10]; rfl) (by decide) ?_
                      refine lv_iconst (v := 1) hx hb dX3_rankOf_92 (by decide) ?_
                      replace h := so1 h
                      subst h
                      exact gIret hF hP hD hS rfl dX3_rankOf_93
                    · replace h := it_f c_10 h
                      refine lv_lookup (x := a_0) (off := 101) (tgt := 102) hx hb dX3_rankOf_1 (by decide +kernel) (by have q0 := gNe (z := 37) (by decide) c_1; have q1 := gNe (z := 38) (by decide) c_2; have q2 := gNe (z := 42) (by decide) c_3; have q3 := gNe (z := 43) (by decide) c_4; have q4 := gNe (z := 45) (by decide) c_5; have q5 := gNe (z := 47) (by decide) c_6; have q6 := gNe (z := 60) (by decide) c_7; have q7 := gNe (z := 61) (by decide) c_8; have q8 := gNe (z := 62) (by decide) c_9; have q9 := gNe (z := 124) (by decide) c_10; simp [Op.lookupswitch.offset, Ne.symm q0, Ne.symm q1, Ne.symm q2, Ne.symm q3, Ne.symm q4, Ne.symm q5, Ne.symm q6, Ne.symm q7, Ne.symm q8, Ne.symm q9]) (by decide) ?_
                      refine lv_iconst (v := 0) hx hb dX3_rankOf_102 (by decide) ?_
                      replace h := so1 h
                      subst h
                      exact gIret hF hP hD hS rfl dX3_rankOf_103
set_option maxRecDepth 20000 in
theorem in_X3_writeLastHeld_X3 : ∀ w ∈ u_ws RX3 TX3 14, w ∈ wsX3_writeLastHeld := by decide +kernel
abbrev rm_X3_writeLastHeld : Room := { frames := 1, cells := 0, slots := 0, locals := 21 }
set_option maxHeartbeats 4000000 in
set_option maxRecDepth 100000 in
theorem c_X3_writeLastHeld (l : Launch) (D : va_G) (c : Nat → ClassId) (q_this q_steps q_stack q_answers q_draft q_held : Nat) (s_names : Nat) (v_length : Int32) (v_side : Int32) (v_round : Int32) (v_drafted : Int32) (v_holding : Int32) (v_open : Int32) (v_digits : Int32) (v_wantsOperand : Int32) (v_draft : Nat → Int32) (v_held : Nat → Int32) (o_v_drafted : Int32) (o_v_holding : Int32) (o_v_draft : Nat → Int32) (h : f_X3_writeLastHeld v_drafted v_holding v_draft v_held = some (o_v_drafted, o_v_holding, o_v_draft)) : gMV l yX3_writeLastHeld wsX3_writeLastHeld rm_X3_writeLastHeld D c [.ref q_this] [(q_this, .inr (3, [.ref (c (10 + s_names)), .ref q_steps, .int v_length, .ref q_stack, .ref q_answers, .int v_side, .int v_round, .ref q_draft, .int v_drafted, .ref q_held, .int v_holding, .int v_open, .int v_digits, .int v_wantsOperand])), (q_draft, .inl (c 0, 50, .inl v_draft)), (q_held, .inl (c 0, 50, .inl v_held))] [(q_this, .inr (3, [.ref (c (10 + s_names)), .ref q_steps, .int v_length, .ref q_stack, .ref q_answers, .int v_side, .int v_round, .ref q_draft, .int o_v_drafted, .ref q_held, .int o_v_holding, .int v_open, .int v_digits, .int v_wantsOperand])), (q_draft, .inl (c 0, 50, .inl o_v_draft)), (q_held, .inl (c 0, 50, .inl v_held))] := by
  refine gMV_of (cc := cX3_writeLastHeld) (maxL := 1) (rt := none) (by decide +kernel) rfl (Nat.le_of_ble_eq_true rfl) ?_
  intro p e s m below meth co A hF hK hX hP hD hA hS ls hl
  obtain ⟨hx, hb, hr, hts, hown, hlocks, hml⟩ := id hF
  have hl : lv_has ls 1 [(0, .ref q_this)] := hl
  unfold f_X3_writeLastHeld at h
  refine lv_aload_n hx hb dX3_writeLastHeld_0 rfl (lv_at hl 0 rfl) ?_
  refine lv_aload_n hx hb dX3_writeLastHeld_1 rfl (lv_at hl 0 rfl) ?_
  replace h := kb_ok h
  obtain ⟨r_2, hc_1, h⟩ := h
  refine gCallIr (isC := [0, 2]) (wc := [(q_this, .inr (3, [.ref (c (10 + s_names)), .ref q_steps, .int v_length, .ref q_stack, .ref q_answers, .int v_side, .int v_round, .ref q_draft, .int v_drafted, .ref q_held, .int v_holding, .int v_open, .int v_digits, .int v_wantsOperand])), (q_held, .inl (c 0, 50, .inl v_held))]) hP hD hS hA ⟨rfl, rfl, trivial⟩ (va_runV (rm := rm_X3_lastHeld) (ws := wsX3_lastHeld) (As := []) (rest := [.ref q_this]) (gFix hF) (c_X3_lastHeld l D c q_this q_steps q_stack q_answers q_draft q_held s_names v_length v_side v_round v_drafted v_holding v_open v_digits v_wantsOperand v_held r_2 hc_1 s.heap.size) (cwV 0 hts gX3_writeLastHeld_X3_lastHeld rfl rfl rfl (by decide +kernel) ⟨Nat.le_of_ble_eq_true rfl, Nat.le_of_ble_eq_true rfl⟩) (gPreV (wc := [(q_this, .inr (3, [.ref (c (10 + s_names)), .ref q_steps, .int v_length, .ref q_stack, .ref q_answers, .int v_side, .int v_round, .ref q_draft, .int v_drafted, .ref q_held, .int v_holding, .int v_open, .int v_digits, .int v_wantsOperand])), (q_held, .inl (c 0, 50, .inl v_held))]) (q := (RX3, TX3, 14)) (ci := 3) (q0 := 0) (isC := [0, 2]) hK hX hS hA hP hD ⟨rfl, rfl, trivial⟩ (by decide +kernel) rfl rfl) rfl rfl hl.1 rfl (lv_room (Nat.le_of_ble_eq_true rfl)) dX3_writeLastHeld_2 ⟨Nat.le_of_ble_eq_true rfl, Nat.le_of_ble_eq_true rfl⟩) (fun H locs hP hS => ?_)
  refine lv_ineg hx hb dX3_writeLastHeld_5 ?_
  replace h := nm_ok h
  obtain ⟨t_3, et_3, h⟩ := h
  refine gTop et_3 ?_
  replace h := kb2_ok h
  obtain ⟨w_5, w_6, hc_4, h⟩ := h
  refine gCallV (isC := [0, 1]) (wc := [(q_this, .inr (3, [.ref (c (10 + s_names)), .ref q_steps, .int v_length, .ref q_stack, .ref q_answers, .int v_side, .int v_round, .ref q_draft, .int v_drafted, .ref q_held, .int v_holding, .int v_open, .int v_digits, .int v_wantsOperand])), (q_draft, .inl (c 0, 50, .inl v_draft))]) (w1 := [(q_this, .inr (3, [.ref (c (10 + s_names)), .ref q_steps, .int v_length, .ref q_stack, .ref q_answers, .int v_side, .int v_round, .ref q_draft, .int w_5, .ref q_held, .int v_holding, .int v_open, .int v_digits, .int v_wantsOperand])), (q_draft, .inl (c 0, 50, .inl w_6))]) (ws2 := [(q_this, .inr (3, [.ref (c (10 + s_names)), .ref q_steps, .int v_length, .ref q_stack, .ref q_answers, .int v_side, .int v_round, .ref q_draft, .int w_5, .ref q_held, .int v_holding, .int v_open, .int v_digits, .int v_wantsOperand])), (q_draft, .inl (c 0, 50, .inl w_6)), (q_held, .inl (c 0, 50, .inl v_held))]) (ms := [(some 0), (some 1), none]) hP hD hS hA ⟨rfl, rfl, trivial⟩ (by decide +kernel) ⟨rfl, rfl, rfl, trivial⟩ (va_runV (rm := rm_X3_write) (ws := wsX3_write) (As := [.int t_3]) (rest := []) (gFix hF) (c_X3_write l D c q_this q_steps q_stack q_answers q_draft q_held s_names t_3 v_length v_side v_round v_drafted v_holding v_open v_digits v_wantsOperand v_draft w_5 w_6 hc_4 H.size) (cwV 1 hts gX3_writeLastHeld_X3_write rfl rfl rfl (by decide +kernel) ⟨Nat.le_of_ble_eq_true rfl, Nat.le_of_ble_eq_true rfl⟩) (gPreV (wc := [(q_this, .inr (3, [.ref (c (10 + s_names)), .ref q_steps, .int v_length, .ref q_stack, .ref q_answers, .int v_side, .int v_round, .ref q_draft, .int v_drafted, .ref q_held, .int v_holding, .int v_open, .int v_digits, .int v_wantsOperand])), (q_draft, .inl (c 0, 50, .inl v_draft))]) (q := (RX3, TX3, 14)) (ci := 3) (q0 := 0) (isC := [0, 1]) hK hX hS hA hP hD ⟨rfl, rfl, trivial⟩ (by decide +kernel) rfl rfl) rfl rfl hl.1 rfl (lv_room (Nat.le_of_ble_eq_true rfl)) dX3_writeLastHeld_6 ⟨Nat.le_of_ble_eq_true rfl, Nat.le_of_ble_eq_true rfl⟩) (fun H locs hP hD hS => ?_)
  refine lv_aload_n hx hb dX3_writeLastHeld_9 rfl (lv_at hl 0 rfl) ?_
  refine lv_dup hx hb dX3_writeLastHeld_10 rfl ?_
  refine va_get (D := D) (ci := 3) (v := .int v_holding) (C := RX3) (T := TX3) (N := 14) hx hb hts in_X3_writeLastHeld_X3 hown hK.1 hP 0 rfl rfl 10 (by decide) (hts (.fieldLink RX3 81 "PaperBubbles$Law" "holding" "I") (List.mem_of_getElem? (i := 1) rfl)) (fun _ h9 => h9) rfl dX3_writeLastHeld_11 ?_
  refine lv_iconst (v := 1) hx hb dX3_writeLastHeld_14 (by decide) ?_
  refine lv_isub hx hb dX3_writeLastHeld_15 ?_
  replace h := nm_ok h
  obtain ⟨t_7, et_7, h⟩ := h
  refine gTop et_7 ?_
  refine va_put (D := D) (ci := 3) (v := .int t_7) (ty := .int) (C := RX3) (T := TX3) (N := 14) hx hb hts in_X3_writeLastHeld_X3 tyX3 tyX3_ok nmX3 hown hK.1 hP hD hS 0 rfl rfl 10 (by decide) (hts (.fieldLink RX3 81 "PaperBubbles$Law" "holding" "I") (List.mem_of_getElem? (i := 1) rfl)) (fun _ h9 => h9) rfl (by decide +kernel) rfl rfl (Nat.le_of_ble_eq_true rfl) dX3_writeLastHeld_16 (fun H locs hP hD hS => ?_)
  have hP : va_P D gcl [(q_this, .inr (3, [.ref (c (10 + s_names)), .ref q_steps, .int v_length, .ref q_stack, .ref q_answers, .int v_side, .int v_round, .ref q_draft, .int w_5, .ref q_held, .int t_7, .int v_open, .int v_digits, .int v_wantsOperand])), (q_draft, .inl (c 0, 50, .inl w_6)), (q_held, .inl (c 0, 50, .inl v_held))] H := hP
  have hD : va_D A [(q_this, .inr (3, [.ref (c (10 + s_names)), .ref q_steps, .int v_length, .ref q_stack, .ref q_answers, .int v_side, .int v_round, .ref q_draft, .int w_5, .ref q_held, .int t_7, .int v_open, .int v_digits, .int v_wantsOperand])), (q_draft, .inl (c 0, 50, .inl w_6)), (q_held, .inl (c 0, 50, .inl v_held))] := hD
  replace h := so3 h
  obtain ⟨z0, z1, z2⟩ := h
  subst z0 z1 z2
  exact gVret hF hP hD hS dX3_writeLastHeld_19
abbrev rm_X3_closeFrom : Room := { frames := 2, cells := 0, slots := 0, locals := 41 }
set_option maxHeartbeats 4000000 in
set_option maxRecDepth 100000 in
theorem c_X3_closeFrom (l : Launch) (D : va_G) (c : Nat → ClassId) (q_this q_steps q_stack q_answers q_draft q_held : Nat) (s_names : Nat) (a_1 : Int32) (v_length : Int32) (v_side : Int32) (v_round : Int32) (v_drafted : Int32) (v_holding : Int32) (v_open : Int32) (v_digits : Int32) (v_wantsOperand : Int32) (v_draft : Nat → Int32) (v_held : Nat → Int32) (o_v_drafted : Int32) (o_v_holding : Int32) (o_v_draft : Nat → Int32) (h : f_X3_closeFrom a_1 v_drafted v_holding v_draft v_held = some (o_v_drafted, o_v_holding, o_v_draft)) : gMV l yX3_closeFrom wsX3_closeFrom rm_X3_closeFrom D c [.ref q_this, .int a_1] [(q_this, .inr (3, [.ref (c (10 + s_names)), .ref q_steps, .int v_length, .ref q_stack, .ref q_answers, .int v_side, .int v_round, .ref q_draft, .int v_drafted, .ref q_held, .int v_holding, .int v_open, .int v_digits, .int v_wantsOperand])), (q_draft, .inl (c 0, 50, .inl v_draft)), (q_held, .inl (c 0, 50, .inl v_held))] [(q_this, .inr (3, [.ref (c (10 + s_names)), .ref q_steps, .int v_length, .ref q_stack, .ref q_answers, .int v_side, .int v_round, .ref q_draft, .int o_v_drafted, .ref q_held, .int o_v_holding, .int v_open, .int v_digits, .int v_wantsOperand])), (q_draft, .inl (c 0, 50, .inl o_v_draft)), (q_held, .inl (c 0, 50, .inl v_held))] := by
  refine gMV_of (cc := cX3_closeFrom) (maxL := 3) (rt := none) (by decide +kernel) rfl (Nat.le_of_ble_eq_true rfl) ?_
  intro p e s m below meth co A hF hK hX hP hD hA hS ls hl
  obtain ⟨hx, hb, hr, hts, hown, hlocks, hml⟩ := id hF
  have hl : lv_has ls 3 [(0, .ref q_this), (1, .int a_1)] := hl
  have t_L2 : ∀ (n : Nat), ∀ (x2 : Int32) (v_drafted : Int32) (v_holding : Int32) (v_draft : Nat → Int32) (H : Heap) (locs : List Loc), va_P D gcl [(q_this, .inr (3, [.ref (c (10 + s_names)), .ref q_steps, .int v_length, .ref q_stack, .ref q_answers, .int v_side, .int v_round, .ref q_draft, .int v_drafted, .ref q_held, .int v_holding, .int v_open, .int v_digits, .int v_wantsOperand])), (q_draft, .inl (c 0, 50, .inl v_draft)), (q_held, .inl (c 0, 50, .inl v_held))] H → va_D A [(q_this, .inr (3, [.ref (c (10 + s_names)), .ref q_steps, .int v_length, .ref q_stack, .ref q_answers, .int v_side, .int v_round, .ref q_draft, .int v_drafted, .ref q_held, .int v_holding, .int v_open, .int v_digits, .int v_wantsOperand])), (q_draft, .inl (c 0, 50, .inl v_draft)), (q_held, .inl (c 0, 50, .inl v_held))] → va_S A s.heap H locs → ∀ ls, lv_has ls 3 [(0, .ref q_this), (1, .int a_1), (2, .int x2)] → f_X3_closeFrom_L2 a_1 v_held n x2 v_drafted v_holding v_draft = some (o_v_drafted, o_v_holding, o_v_draft) → W p l e (headSpec wsX3_closeFrom rm_X3_closeFrom).room s m [.ref q_this, .int a_1].toArray below meth co H locs 0 0 (gQV D [(q_this, .inr (3, [.ref (c (10 + s_names)), .ref q_steps, .int v_length, .ref q_stack, .ref q_answers, .int v_side, .int v_round, .ref q_draft, .int o_v_drafted, .ref q_held, .int o_v_holding, .int v_open, .int v_digits, .int v_wantsOperand])), (q_draft, .inl (c 0, 50, .inl o_v_draft)), (q_held, .inl (c 0, 50, .inl v_held))] A below [.ref q_this, .int a_1] s) (F0 m 2 ls []) := by
    intro n
    induction n with
    | zero => intro x2 v_drafted v_holding v_draft H locs hP hD hS ls hl h; exact no_ok h
    | succ n ih =>
      intro x2 v_drafted v_holding v_draft H locs hP hD hS ls hl h
      rw [f_X3_closeFrom_L2] at h
      refine lv_iload_n hx hb dX3_closeFrom_2 rfl (lv_at hl 2 rfl) ?_
      refine lv_bipush (v := 50) hx hb dX3_closeFrom_3 (by decide) ?_
      refine lv_icmp_ge (tgt := 29) hx hb dX3_closeFrom_5 (by decide) (fun c_1 => ?_) (fun c_1 => ?_)
      · replace h := it_t c_1 h
        replace h := so3 h
        obtain ⟨z0, z1, z2⟩ := h
        subst z0 z1 z2
        exact gVret hF hP hD hS dX3_closeFrom_29
      · replace h := it_f c_1 h
        refine lv_aload_n hx hb dX3_closeFrom_8 rfl (lv_at hl 0 rfl) ?_
        replace h := kb_ok h
        obtain ⟨r_3, hc_2, h⟩ := h
        refine gCallIr (isC := [0, 2]) (wc := [(q_this, .inr (3, [.ref (c (10 + s_names)), .ref q_steps, .int v_length, .ref q_stack, .ref q_answers, .int v_side, .int v_round, .ref q_draft, .int v_drafted, .ref q_held, .int v_holding, .int v_open, .int v_digits, .int v_wantsOperand])), (q_held, .inl (c 0, 50, .inl v_held))]) hP hD hS hA ⟨rfl, rfl, trivial⟩ (va_runV (rm := rm_X3_lastHeld) (ws := wsX3_lastHeld) (As := []) (rest := []) (gFix hF) (c_X3_lastHeld l D c q_this q_steps q_stack q_answers q_draft q_held s_names v_length v_side v_round v_drafted v_holding v_open v_digits v_wantsOperand v_held r_3 hc_2 H.size) (cwV 0 hts gX3_closeFrom_X3_lastHeld rfl rfl rfl (by decide +kernel) ⟨Nat.le_of_ble_eq_true rfl, Nat.le_of_ble_eq_true rfl⟩) (gPreV (wc := [(q_this, .inr (3, [.ref (c (10 + s_names)), .ref q_steps, .int v_length, .ref q_stack, .ref q_answers, .int v_side, .int v_round, .ref q_draft, .int v_drafted, .ref q_held, .int v_holding, .int v_open, .int v_digits, .int v_wantsOperand])), (q_held, .inl (c 0, 50, .inl v_held))]) (q := (RX3, TX3, 14)) (ci := 3) (q0 := 0) (isC := [0, 2]) hK hX hS hA hP hD ⟨rfl, rfl, trivial⟩ (by decide +kernel) rfl rfl) rfl rfl hl.1 rfl (lv_room (Nat.le_of_ble_eq_true rfl)) dX3_closeFrom_9 ⟨Nat.le_of_ble_eq_true rfl, Nat.le_of_ble_eq_true rfl⟩) (fun H locs hP hS => ?_)
        replace h := kb_ok h
        obtain ⟨r_5, hc_4, h⟩ := h
        refine gCallIr (isC := []) (wc := []) hP hD hS hA trivial (va_runS (rm := rm_X3_rankOf) (ws := wsX3_rankOf) (As := [.int r_3]) (rest := []) (gFix hF) (c_X3_rankOf l D c r_3 r_5 hc_4 H.size) (va_cwS 1 hts gX3_closeFrom_X3_rankOf rfl rfl rfl (by decide +kernel) ⟨Nat.le_of_ble_eq_true rfl, Nat.le_of_ble_eq_true rfl⟩) (gPreS (wc := []) (isC := []) hK hX hS hA hP hD trivial (by decide +kernel)) rfl rfl hl.1 rfl (lv_room (Nat.le_of_ble_eq_true rfl)) dX3_closeFrom_12 ⟨Nat.le_of_ble_eq_true rfl, Nat.le_of_ble_eq_true rfl⟩) (fun H locs hP hS => ?_)
        refine lv_iload_n hx hb dX3_closeFrom_15 rfl (lv_at hl 1 rfl) ?_
        refine lv_icmp_lt (tgt := 29) hx hb dX3_closeFrom_16 (by decide) (fun c_6 => ?_) (fun c_6 => ?_)
        · replace h := it_t c_6 h
          replace h := so3 h
          obtain ⟨z0, z1, z2⟩ := h
          subst z0 z1 z2
          exact gVret hF hP hD hS dX3_closeFrom_29
        · replace h := it_f c_6 h
          refine lv_aload_n hx hb dX3_closeFrom_19 rfl (lv_at hl 0 rfl) ?_
          replace h := kb3_ok h
          obtain ⟨w_8, w_9, w_10, hc_7, h⟩ := h
          refine gCallV (isC := [0, 1, 2]) (wc := [(q_this, .inr (3, [.ref (c (10 + s_names)), .ref q_steps, .int v_length, .ref q_stack, .ref q_answers, .int v_side, .int v_round, .ref q_draft, .int v_drafted, .ref q_held, .int v_holding, .int v_open, .int v_digits, .int v_wantsOperand])), (q_draft, .inl (c 0, 50, .inl v_draft)), (q_held, .inl (c 0, 50, .inl v_held))]) (w1 := [(q_this, .inr (3, [.ref (c (10 + s_names)), .ref q_steps, .int v_length, .ref q_stack, .ref q_answers, .int v_side, .int v_round, .ref q_draft, .int w_8, .ref q_held, .int w_9, .int v_open, .int v_digits, .int v_wantsOperand])), (q_draft, .inl (c 0, 50, .inl w_10)), (q_held, .inl (c 0, 50, .inl v_held))]) (ws2 := [(q_this, .inr (3, [.ref (c (10 + s_names)), .ref q_steps, .int v_length, .ref q_stack, .ref q_answers, .int v_side, .int v_round, .ref q_draft, .int w_8, .ref q_held, .int w_9, .int v_open, .int v_digits, .int v_wantsOperand])), (q_draft, .inl (c 0, 50, .inl w_10)), (q_held, .inl (c 0, 50, .inl v_held))]) (ms := [(some 0), (some 1), (some 2)]) hP hD hS hA ⟨rfl, rfl, rfl, trivial⟩ (by decide +kernel) ⟨rfl, rfl, rfl, trivial⟩ (va_runV (rm := rm_X3_writeLastHeld) (ws := wsX3_writeLastHeld) (As := []) (rest := []) (gFix hF) (c_X3_writeLastHeld l D c q_this q_steps q_stack q_answers q_draft q_held s_names v_length v_side v_round v_drafted v_holding v_open v_digits v_wantsOperand v_draft v_held w_8 w_9 w_10 hc_7 H.size) (cwV 0 hts gX3_closeFrom_X3_writeLastHeld rfl rfl rfl (by decide +kernel) ⟨Nat.le_of_ble_eq_true rfl, Nat.le_of_ble_eq_true rfl⟩) (gPreV (wc := [(q_this, .inr (3, [.ref (c (10 + s_names)), .ref q_steps, .int v_length, .ref q_stack, .ref q_answers, .int v_side, .int v_round, .ref q_draft, .int v_drafted, .ref q_held, .int v_holding, .int v_open, .int v_digits, .int v_wantsOperand])), (q_draft, .inl (c 0, 50, .inl v_draft)), (q_held, .inl (c 0, 50, .inl v_held))]) (q := (RX3, TX3, 14)) (ci := 3) (q0 := 0) (isC := [0, 1, 2]) hK hX hS hA hP hD ⟨rfl, rfl, rfl, trivial⟩ (by decide +kernel) rfl rfl) rfl rfl hl.1 rfl (lv_room (Nat.le_of_ble_eq_true rfl)) dX3_closeFrom_20 ⟨Nat.le_of_ble_eq_true rfl, Nat.le_of_ble_eq_true rfl⟩) (fun H locs hP hD hS => ?_)
          replace h := nm_ok h
          obtain ⟨t_11, et_11, h⟩ := h
          refine lv_iinc (v := t_11) (lv' := [(2, .int t_11), (0, .ref q_this), (1, .int a_1)]) hx hb dX3_closeFrom_23 hl (k := 2) rfl (by rw [et_11]; rfl) (by decide) rfl (fun ls hl => ?_)
          refine lv_goto (tgt := 2) hx hb dX3_closeFrom_26 (by decide) ?_
          exact ih t_11 w_8 w_9 w_10 H locs hP hD hS ls (lv_sub hl [1, 2, 0] rfl) h
  unfold f_X3_closeFrom at h
  refine lv_iconst (v := 0) hx hb dX3_closeFrom_0 (by decide) ?_
  refine lv_istore_n (lv' := [(2, .int 0), (0, .ref q_this), (1, .int a_1)]) hx hb dX3_closeFrom_1 rfl hl (by decide) rfl (fun ls hl => ?_)
  exact t_L2 gFuel 0 v_drafted v_holding v_draft s.heap [] hP hD hS ls (lv_sub hl [1, 2, 0] rfl) h
set_option maxRecDepth 20000 in
theorem in_X3_closeNots_X3 : ∀ w ∈ u_ws RX3 TX3 14, w ∈ wsX3_closeNots := by decide +kernel
abbrev rm_X3_closeNots : Room := { frames := 2, cells := 0, slots := 0, locals := 41 }
set_option maxHeartbeats 4000000 in
set_option maxRecDepth 100000 in
theorem c_X3_closeNots (l : Launch) (D : va_G) (c : Nat → ClassId) (q_this q_steps q_stack q_answers q_draft q_held : Nat) (s_names : Nat) (v_length : Int32) (v_side : Int32) (v_round : Int32) (v_drafted : Int32) (v_holding : Int32) (v_open : Int32) (v_digits : Int32) (v_wantsOperand : Int32) (v_draft : Nat → Int32) (v_held : Nat → Int32) (o_v_drafted : Int32) (o_v_holding : Int32) (o_v_open : Int32) (o_v_draft : Nat → Int32) (h : f_X3_closeNots v_drafted v_holding v_open v_draft v_held = some (o_v_drafted, o_v_holding, o_v_open, o_v_draft)) : gMV l yX3_closeNots wsX3_closeNots rm_X3_closeNots D c [.ref q_this] [(q_this, .inr (3, [.ref (c (10 + s_names)), .ref q_steps, .int v_length, .ref q_stack, .ref q_answers, .int v_side, .int v_round, .ref q_draft, .int v_drafted, .ref q_held, .int v_holding, .int v_open, .int v_digits, .int v_wantsOperand])), (q_draft, .inl (c 0, 50, .inl v_draft)), (q_held, .inl (c 0, 50, .inl v_held))] [(q_this, .inr (3, [.ref (c (10 + s_names)), .ref q_steps, .int v_length, .ref q_stack, .ref q_answers, .int v_side, .int v_round, .ref q_draft, .int o_v_drafted, .ref q_held, .int o_v_holding, .int o_v_open, .int v_digits, .int v_wantsOperand])), (q_draft, .inl (c 0, 50, .inl o_v_draft)), (q_held, .inl (c 0, 50, .inl v_held))] := by
  refine gMV_of (cc := cX3_closeNots) (maxL := 2) (rt := none) (by decide +kernel) rfl (Nat.le_of_ble_eq_true rfl) ?_
  intro p e s m below meth co A hF hK hX hP hD hA hS ls hl
  obtain ⟨hx, hb, hr, hts, hown, hlocks, hml⟩ := id hF
  have hl : lv_has ls 2 [(0, .ref q_this)] := hl
  have t_L2 : ∀ (n : Nat), ∀ (x1 : Int32) (v_drafted : Int32) (v_holding : Int32) (v_open : Int32) (v_draft : Nat → Int32) (H : Heap) (locs : List Loc), va_P D gcl [(q_this, .inr (3, [.ref (c (10 + s_names)), .ref q_steps, .int v_length, .ref q_stack, .ref q_answers, .int v_side, .int v_round, .ref q_draft, .int v_drafted, .ref q_held, .int v_holding, .int v_open, .int v_digits, .int v_wantsOperand])), (q_draft, .inl (c 0, 50, .inl v_draft)), (q_held, .inl (c 0, 50, .inl v_held))] H → va_D A [(q_this, .inr (3, [.ref (c (10 + s_names)), .ref q_steps, .int v_length, .ref q_stack, .ref q_answers, .int v_side, .int v_round, .ref q_draft, .int v_drafted, .ref q_held, .int v_holding, .int v_open, .int v_digits, .int v_wantsOperand])), (q_draft, .inl (c 0, 50, .inl v_draft)), (q_held, .inl (c 0, 50, .inl v_held))] → va_S A s.heap H locs → ∀ ls, lv_has ls 2 [(0, .ref q_this), (1, .int x1)] → f_X3_closeNots_L2 v_held n x1 v_drafted v_holding v_open v_draft = some (o_v_drafted, o_v_holding, o_v_open, o_v_draft) → W p l e (headSpec wsX3_closeNots rm_X3_closeNots).room s m [.ref q_this].toArray below meth co H locs 0 0 (gQV D [(q_this, .inr (3, [.ref (c (10 + s_names)), .ref q_steps, .int v_length, .ref q_stack, .ref q_answers, .int v_side, .int v_round, .ref q_draft, .int o_v_drafted, .ref q_held, .int o_v_holding, .int o_v_open, .int v_digits, .int v_wantsOperand])), (q_draft, .inl (c 0, 50, .inl o_v_draft)), (q_held, .inl (c 0, 50, .inl v_held))] A below [.ref q_this] s) (F0 m 2 ls []) := by
    intro n
    induction n with
    | zero => intro x1 v_drafted v_holding v_open v_draft H locs hP hD hS ls hl h; exact no_ok h
    | succ n ih =>
      intro x1 v_drafted v_holding v_open v_draft H locs hP hD hS ls hl h
      rw [f_X3_closeNots_L2] at h
      refine lv_iload_n hx hb dX3_closeNots_2 rfl (lv_at hl 1 rfl) ?_
      refine lv_bipush (v := 50) hx hb dX3_closeNots_3 (by decide) ?_
      refine lv_icmp_ge (tgt := 37) hx hb dX3_closeNots_5 (by decide) (fun c_1 => ?_) (fun c_1 => ?_)
      · replace h := it_t c_1 h
        replace h := so4 h
        obtain ⟨z0, z1, z2, z3⟩ := h
        subst z0 z1 z2 z3
        exact gVret hF hP hD hS dX3_closeNots_37
      · replace h := it_f c_1 h
        refine lv_aload_n hx hb dX3_closeNots_8 rfl (lv_at hl 0 rfl) ?_
        replace h := kb_ok h
        obtain ⟨r_3, hc_2, h⟩ := h
        refine gCallIr (isC := [0, 2]) (wc := [(q_this, .inr (3, [.ref (c (10 + s_names)), .ref q_steps, .int v_length, .ref q_stack, .ref q_answers, .int v_side, .int v_round, .ref q_draft, .int v_drafted, .ref q_held, .int v_holding, .int v_open, .int v_digits, .int v_wantsOperand])), (q_held, .inl (c 0, 50, .inl v_held))]) hP hD hS hA ⟨rfl, rfl, trivial⟩ (va_runV (rm := rm_X3_lastHeld) (ws := wsX3_lastHeld) (As := []) (rest := []) (gFix hF) (c_X3_lastHeld l D c q_this q_steps q_stack q_answers q_draft q_held s_names v_length v_side v_round v_drafted v_holding v_open v_digits v_wantsOperand v_held r_3 hc_2 H.size) (cwV 0 hts gX3_closeNots_X3_lastHeld rfl rfl rfl (by decide +kernel) ⟨Nat.le_of_ble_eq_true rfl, Nat.le_of_ble_eq_true rfl⟩) (gPreV (wc := [(q_this, .inr (3, [.ref (c (10 + s_names)), .ref q_steps, .int v_length, .ref q_stack, .ref q_answers, .int v_side, .int v_round, .ref q_draft, .int v_drafted, .ref q_held, .int v_holding, .int v_open, .int v_digits, .int v_wantsOperand])), (q_held, .inl (c 0, 50, .inl v_held))]) (q := (RX3, TX3, 14)) (ci := 3) (q0 := 0) (isC := [0, 2]) hK hX hS hA hP hD ⟨rfl, rfl, trivial⟩ (by decide +kernel) rfl rfl) rfl rfl hl.1 rfl (lv_room (Nat.le_of_ble_eq_true rfl)) dX3_closeNots_9 ⟨Nat.le_of_ble_eq_true rfl, Nat.le_of_ble_eq_true rfl⟩) (fun H locs hP hS => ?_)
        refine lv_bipush (v := 33) hx hb dX3_closeNots_12 (by decide) ?_
        refine lv_icmp_ne (tgt := 37) hx hb dX3_closeNots_14 (by decide) (fun c_4 => ?_) (fun c_4 => ?_)
        · replace h := it_f c_4 h
          replace h := so4 h
          obtain ⟨z0, z1, z2, z3⟩ := h
          subst z0 z1 z2 z3
          exact gVret hF hP hD hS dX3_closeNots_37
        · replace h := it_t c_4 h
          refine lv_aload_n hx hb dX3_closeNots_17 rfl (lv_at hl 0 rfl) ?_
          replace h := kb3_ok h
          obtain ⟨w_6, w_7, w_8, hc_5, h⟩ := h
          refine gCallV (isC := [0, 1, 2]) (wc := [(q_this, .inr (3, [.ref (c (10 + s_names)), .ref q_steps, .int v_length, .ref q_stack, .ref q_answers, .int v_side, .int v_round, .ref q_draft, .int v_drafted, .ref q_held, .int v_holding, .int v_open, .int v_digits, .int v_wantsOperand])), (q_draft, .inl (c 0, 50, .inl v_draft)), (q_held, .inl (c 0, 50, .inl v_held))]) (w1 := [(q_this, .inr (3, [.ref (c (10 + s_names)), .ref q_steps, .int v_length, .ref q_stack, .ref q_answers, .int v_side, .int v_round, .ref q_draft, .int w_6, .ref q_held, .int w_7, .int v_open, .int v_digits, .int v_wantsOperand])), (q_draft, .inl (c 0, 50, .inl w_8)), (q_held, .inl (c 0, 50, .inl v_held))]) (ws2 := [(q_this, .inr (3, [.ref (c (10 + s_names)), .ref q_steps, .int v_length, .ref q_stack, .ref q_answers, .int v_side, .int v_round, .ref q_draft, .int w_6, .ref q_held, .int w_7, .int v_open, .int v_digits, .int v_wantsOperand])), (q_draft, .inl (c 0, 50, .inl w_8)), (q_held, .inl (c 0, 50, .inl v_held))]) (ms := [(some 0), (some 1), (some 2)]) hP hD hS hA ⟨rfl, rfl, rfl, trivial⟩ (by decide +kernel) ⟨rfl, rfl, rfl, trivial⟩ (va_runV (rm := rm_X3_writeLastHeld) (ws := wsX3_writeLastHeld) (As := []) (rest := []) (gFix hF) (c_X3_writeLastHeld l D c q_this q_steps q_stack q_answers q_draft q_held s_names v_length v_side v_round v_drafted v_holding v_open v_digits v_wantsOperand v_draft v_held w_6 w_7 w_8 hc_5 H.size) (cwV 0 hts gX3_closeNots_X3_writeLastHeld rfl rfl rfl (by decide +kernel) ⟨Nat.le_of_ble_eq_true rfl, Nat.le_of_ble_eq_true rfl⟩) (gPreV (wc := [(q_this, .inr (3, [.ref (c (10 + s_names)), .ref q_steps, .int v_length, .ref q_stack, .ref q_answers, .int v_side, .int v_round, .ref q_draft, .int v_drafted, .ref q_held, .int v_holding, .int v_open, .int v_digits, .int v_wantsOperand])), (q_draft, .inl (c 0, 50, .inl v_draft)), (q_held, .inl (c 0, 50, .inl v_held))]) (q := (RX3, TX3, 14)) (ci := 3) (q0 := 0) (isC := [0, 1, 2]) hK hX hS hA hP hD ⟨rfl, rfl, rfl, trivial⟩ (by decide +kernel) rfl rfl) rfl rfl hl.1 rfl (lv_room (Nat.le_of_ble_eq_true rfl)) dX3_closeNots_18 ⟨Nat.le_of_ble_eq_true rfl, Nat.le_of_ble_eq_true rfl⟩) (fun H locs hP hD hS => ?_)
          refine lv_aload_n hx hb dX3_closeNots_21 rfl (lv_at hl 0 rfl) ?_
          refine lv_dup hx hb dX3_closeNots_22 rfl ?_
          refine va_get (D := D) (ci := 3) (v := .int v_open) (C := RX3) (T := TX3) (N := 14) hx hb hts in_X3_closeNots_X3 hown hK.1 hP 0 rfl rfl 11 (by decide) (hts (.fieldLink RX3 84 "PaperBubbles$Law" "open" "I") (List.mem_of_getElem? (i := 1) rfl)) (fun _ h9 => h9) rfl dX3_closeNots_23 ?_
          refine lv_iconst (v := 1) hx hb dX3_closeNots_26 (by decide) ?_
          refine lv_isub hx hb dX3_closeNots_27 ?_
          replace h := nm_ok h
          obtain ⟨t_9, et_9, h⟩ := h
          refine gTop et_9 ?_
          refine va_put (D := D) (ci := 3) (v := .int t_9) (ty := .int) (C := RX3) (T := TX3) (N := 14) hx hb hts in_X3_closeNots_X3 tyX3 tyX3_ok nmX3 hown hK.1 hP hD hS 0 rfl rfl 11 (by decide) (hts (.fieldLink RX3 84 "PaperBubbles$Law" "open" "I") (List.mem_of_getElem? (i := 1) rfl)) (fun _ h9 => h9) rfl (by decide +kernel) rfl rfl (Nat.le_of_ble_eq_true rfl) dX3_closeNots_28 (fun H locs hP hD hS => ?_)
          have hP : va_P D gcl [(q_this, .inr (3, [.ref (c (10 + s_names)), .ref q_steps, .int v_length, .ref q_stack, .ref q_answers, .int v_side, .int v_round, .ref q_draft, .int w_6, .ref q_held, .int w_7, .int t_9, .int v_digits, .int v_wantsOperand])), (q_draft, .inl (c 0, 50, .inl w_8)), (q_held, .inl (c 0, 50, .inl v_held))] H := hP
          have hD : va_D A [(q_this, .inr (3, [.ref (c (10 + s_names)), .ref q_steps, .int v_length, .ref q_stack, .ref q_answers, .int v_side, .int v_round, .ref q_draft, .int w_6, .ref q_held, .int w_7, .int t_9, .int v_digits, .int v_wantsOperand])), (q_draft, .inl (c 0, 50, .inl w_8)), (q_held, .inl (c 0, 50, .inl v_held))] := hD
          replace h := nm_ok h
          obtain ⟨t_10, et_10, h⟩ := h
          refine lv_iinc (v := t_10) (lv' := [(1, .int t_10), (0, .ref q_this)]) hx hb dX3_closeNots_31 hl (k := 1) rfl (by rw [et_10]; rfl) (by decide) rfl (fun ls hl => ?_)
          refine lv_goto (tgt := 2) hx hb dX3_closeNots_34 (by decide) ?_
          exact ih t_10 w_6 w_7 t_9 w_8 H locs hP hD hS ls (lv_sub hl [1, 0] rfl) h
  unfold f_X3_closeNots at h
  refine lv_iconst (v := 0) hx hb dX3_closeNots_0 (by decide) ?_
  refine lv_istore_n (lv' := [(1, .int 0), (0, .ref q_this)]) hx hb dX3_closeNots_1 rfl hl (by decide) rfl (fun ls hl => ?_)
  exact t_L2 gFuel 0 v_drafted v_holding v_open v_draft s.heap [] hP hD hS ls (lv_sub hl [1, 0] rfl) h
set_option maxRecDepth 20000 in
theorem in_X3_addDigit_X3 : ∀ w ∈ u_ws RX3 TX3 14, w ∈ wsX3_addDigit := by decide +kernel
abbrev rm_X3_addDigit : Room := { frames := 1, cells := 0, slots := 0, locals := 22 }
set_option maxHeartbeats 4000000 in
set_option maxRecDepth 100000 in
theorem c_X3_addDigit (l : Launch) (D : va_G) (c : Nat → ClassId) (q_this q_steps q_stack q_answers q_draft q_held : Nat) (s_names : Nat) (a_1 : Int32) (v_length : Int32) (v_side : Int32) (v_round : Int32) (v_drafted : Int32) (v_holding : Int32) (v_open : Int32) (v_digits : Int32) (v_wantsOperand : Int32) (v_draft : Nat → Int32) (o_r : Int32) (o_v_digits : Int32) (o_v_draft : Nat → Int32) (h : f_X3_addDigit a_1 v_drafted v_digits v_draft = some (o_r, o_v_digits, o_v_draft)) : gMI l yX3_addDigit wsX3_addDigit rm_X3_addDigit D c [.ref q_this, .int a_1] [(q_this, .inr (3, [.ref (c (10 + s_names)), .ref q_steps, .int v_length, .ref q_stack, .ref q_answers, .int v_side, .int v_round, .ref q_draft, .int v_drafted, .ref q_held, .int v_holding, .int v_open, .int v_digits, .int v_wantsOperand])), (q_draft, .inl (c 0, 50, .inl v_draft))] [(q_this, .inr (3, [.ref (c (10 + s_names)), .ref q_steps, .int v_length, .ref q_stack, .ref q_answers, .int v_side, .int v_round, .ref q_draft, .int v_drafted, .ref q_held, .int v_holding, .int v_open, .int o_v_digits, .int v_wantsOperand])), (q_draft, .inl (c 0, 50, .inl o_v_draft))] o_r := by
  refine gMI_of (cc := cX3_addDigit) (maxL := 2) (rt := (some .boolean)) (by decide +kernel) rfl (Nat.le_of_ble_eq_true rfl) ?_
  intro p e s m below meth co A hF hK hX hP hD hA hS ls hl
  obtain ⟨hx, hb, hr, hts, hown, hlocks, hml⟩ := id hF
  have hl : lv_has ls 2 [(0, .ref q_this), (1, .int a_1)] := hl
  unfold f_X3_addDigit at h
  refine lv_aload_n hx hb dX3_addDigit_0 rfl (lv_at hl 0 rfl) ?_
  refine va_get (D := D) (ci := 3) (v := .int v_digits) (C := RX3) (T := TX3) (N := 14) hx hb hts in_X3_addDigit_X3 hown hK.1 hP 0 rfl rfl 12 (by decide) (hts (.fieldLink RX3 87 "PaperBubbles$Law" "digits" "I") (List.mem_of_getElem? (i := 1) rfl)) (fun _ h9 => h9) rfl dX3_addDigit_1 ?_
  refine lv_if_eq (tgt := 28) hx hb dX3_addDigit_4 (by decide) (fun c_1 => ?_) (fun c_1 => ?_)
  · replace h := it_t c_1 h
    refine lv_iconst (v := 0) hx hb dX3_addDigit_28 (by decide) ?_
    replace h := so3 h
    obtain ⟨z0, z1, z2⟩ := h
    subst z0 z1 z2
    exact gIret hF hP hD hS rfl dX3_addDigit_29
  · replace h := it_f c_1 h
    refine lv_aload_n hx hb dX3_addDigit_7 rfl (lv_at hl 0 rfl) ?_
    refine va_get (D := D) (ci := 3) (v := .int v_digits) (C := RX3) (T := TX3) (N := 14) hx hb hts in_X3_addDigit_X3 hown hK.1 hP 0 rfl rfl 12 (by decide) (hts (.fieldLink RX3 87 "PaperBubbles$Law" "digits" "I") (List.mem_of_getElem? (i := 1) rfl)) (fun _ h9 => h9) rfl dX3_addDigit_8 ?_
    refine lv_iconst (v := 4) hx hb dX3_addDigit_11 (by decide) ?_
    refine lv_icmp_ge (tgt := 28) hx hb dX3_addDigit_12 (by decide) (fun c_2 => ?_) (fun c_2 => ?_)
    · replace h := it_t c_2 h
      refine lv_iconst (v := 0) hx hb dX3_addDigit_28 (by decide) ?_
      replace h := so3 h
      obtain ⟨z0, z1, z2⟩ := h
      subst z0 z1 z2
      exact gIret hF hP hD hS rfl dX3_addDigit_29
    · replace h := it_f c_2 h
      refine lv_aload_n hx hb dX3_addDigit_15 rfl (lv_at hl 0 rfl) ?_
      refine va_get (D := D) (ci := 3) (v := .int v_drafted) (C := RX3) (T := TX3) (N := 14) hx hb hts in_X3_addDigit_X3 hown hK.1 hP 0 rfl rfl 8 (by decide) (hts (.fieldLink RX3 78 "PaperBubbles$Law" "drafted" "I") (List.mem_of_getElem? (i := 2) rfl)) (fun _ h9 => h9) rfl dX3_addDigit_16 ?_
      refine lv_iconst (v := 1) hx hb dX3_addDigit_19 (by decide) ?_
      refine lv_bipush (v := 50) hx hb dX3_addDigit_20 (by decide) ?_
      replace h := kb_ok h
      obtain ⟨r_4, hc_3, h⟩ := h
      refine gCallIr (isC := []) (wc := []) hP hD hS hA trivial (va_runSN (rm := rm_X11_within) (ws := wsX11_within) (As := [.int v_drafted, .int 1, .int 50]) (rest := []) (gFix hF) (c_X11_within l D c v_drafted 1 50 r_4 hc_3 s.heap.size) ⟨(va_cnB 3 hts gX3_addDigit_X11_within_n58 rfl rfl rfl (hK.2 (.methodLinkNest "PaperBubbles$Law" 58 ⟨"PaperBubbles", "within", "(III)Z"⟩ "PaperBubbles") (List.mem_of_getElem? (i := 33) rfl)) (hts (.initialized RX11) (List.mem_of_getElem? (i := 5) rfl)) (by decide +kernel) ⟨Nat.le_of_ble_eq_true rfl, Nat.le_of_ble_eq_true rfl⟩), (hts (.static yX11_within) (List.mem_of_getElem? (i := 4) rfl)), trivial⟩ (gPreS (wc := []) (isC := []) hK hX hS hA hP hD trivial (by decide +kernel)) rfl rfl hl.1 rfl (lv_room (Nat.le_of_ble_eq_true rfl)) dX3_addDigit_22 ⟨Nat.le_of_ble_eq_true rfl, Nat.le_of_ble_eq_true rfl⟩) (fun H locs hP hS => ?_)
      refine lv_if_ne (tgt := 30) hx hb dX3_addDigit_25 (by decide) (fun c_5 => ?_) (fun c_5 => ?_)
      · replace h := it_f c_5 h
        refine lv_aload_n hx hb dX3_addDigit_30 rfl (lv_at hl 0 rfl) ?_
        refine va_get (D := D) (ci := 3) (v := .ref q_draft) (C := RX3) (T := TX3) (N := 14) hx hb hts in_X3_addDigit_X3 hown hK.1 hP 0 rfl rfl 7 (by decide) (hts (.fieldLink RX3 22 "PaperBubbles$Law" "draft" "[I") (List.mem_of_getElem? (i := 3) rfl)) (fun _ h9 => h9) rfl dX3_addDigit_31 ?_
        refine lv_aload_n hx hb dX3_addDigit_34 rfl (lv_at hl 0 rfl) ?_
        refine va_get (D := D) (ci := 3) (v := .int v_drafted) (C := RX3) (T := TX3) (N := 14) hx hb hts in_X3_addDigit_X3 hown hK.1 hP 0 rfl rfl 8 (by decide) (hts (.fieldLink RX3 78 "PaperBubbles$Law" "drafted" "I") (List.mem_of_getElem? (i := 2) rfl)) (fun _ h9 => h9) rfl dX3_addDigit_35 ?_
        refine lv_iconst (v := 1) hx hb dX3_addDigit_38 (by decide) ?_
        refine lv_isub hx hb dX3_addDigit_39 ?_
        replace h := nm_ok h
        obtain ⟨t_6, et_6, h⟩ := h
        refine gTop et_6 ?_
        refine lv_aload_n hx hb dX3_addDigit_40 rfl (lv_at hl 0 rfl) ?_
        refine va_get (D := D) (ci := 3) (v := .ref q_draft) (C := RX3) (T := TX3) (N := 14) hx hb hts in_X3_addDigit_X3 hown hK.1 hP 0 rfl rfl 7 (by decide) (hts (.fieldLink RX3 22 "PaperBubbles$Law" "draft" "[I") (List.mem_of_getElem? (i := 3) rfl)) (fun _ h9 => h9) rfl dX3_addDigit_41 ?_
        refine lv_aload_n hx hb dX3_addDigit_44 rfl (lv_at hl 0 rfl) ?_
        refine va_get (D := D) (ci := 3) (v := .int v_drafted) (C := RX3) (T := TX3) (N := 14) hx hb hts in_X3_addDigit_X3 hown hK.1 hP 0 rfl rfl 8 (by decide) (hts (.fieldLink RX3 78 "PaperBubbles$Law" "drafted" "I") (List.mem_of_getElem? (i := 2) rfl)) (fun _ h9 => h9) rfl dX3_addDigit_45 ?_
        refine lv_iconst (v := 1) hx hb dX3_addDigit_48 (by decide) ?_
        refine lv_isub hx hb dX3_addDigit_49 ?_
        replace h := nm_ok h
        obtain ⟨t_7, et_7, h⟩ := h
        refine gTop et_7 ?_
        replace h := chi_ok h
        obtain ⟨hi_8, h⟩ := h
        refine va_iald hx hb hK.1 hP 1 0 rfl rfl hi_8 dX3_addDigit_50 ?_
        replace h := nm_ok h
        obtain ⟨t_9, et_9, h⟩ := h
        refine gTop et_9 ?_
        refine lv_bipush (v := 10) hx hb dX3_addDigit_51 (by decide) ?_
        refine lv_imul hx hb dX3_addDigit_53 ?_
        replace h := nm_ok h
        obtain ⟨t_10, et_10, h⟩ := h
        refine gTop et_10 ?_
        refine lv_iload_n hx hb dX3_addDigit_54 rfl (lv_at hl 1 rfl) ?_
        refine lv_iadd hx hb dX3_addDigit_55 ?_
        replace h := nm_ok h
        obtain ⟨t_11, et_11, h⟩ := h
        refine gTop et_11 ?_
        replace h := chi_ok h
        obtain ⟨hi_12, h⟩ := h
        replace h := nm_ok h
        obtain ⟨w_13, ew_13, h⟩ := h
        refine va_iast hx hb hK.1 hP hD hS 1 0 rfl rfl hi_12 dX3_addDigit_56 (fun H locs hP hD hS => ?_)
        have hP : va_P D gcl [(q_this, .inr (3, [.ref (c (10 + s_names)), .ref q_steps, .int v_length, .ref q_stack, .ref q_answers, .int v_side, .int v_round, .ref q_draft, .int v_drafted, .ref q_held, .int v_holding, .int v_open, .int v_digits, .int v_wantsOperand])), (q_draft, .inl (c 0, 50, .inl w_13))] H := by subst ew_13; exact hP
        have hD : va_D A [(q_this, .inr (3, [.ref (c (10 + s_names)), .ref q_steps, .int v_length, .ref q_stack, .ref q_answers, .int v_side, .int v_round, .ref q_draft, .int v_drafted, .ref q_held, .int v_holding, .int v_open, .int v_digits, .int v_wantsOperand])), (q_draft, .inl (c 0, 50, .inl w_13))] := by subst ew_13; exact hD
        refine lv_aload_n hx hb dX3_addDigit_57 rfl (lv_at hl 0 rfl) ?_
        refine lv_dup hx hb dX3_addDigit_58 rfl ?_
        refine va_get (D := D) (ci := 3) (v := .int v_digits) (C := RX3) (T := TX3) (N := 14) hx hb hts in_X3_addDigit_X3 hown hK.1 hP 0 rfl rfl 12 (by decide) (hts (.fieldLink RX3 87 "PaperBubbles$Law" "digits" "I") (List.mem_of_getElem? (i := 1) rfl)) (fun _ h9 => h9) rfl dX3_addDigit_59 ?_
        refine lv_iconst (v := 1) hx hb dX3_addDigit_62 (by decide) ?_
        refine lv_iadd hx hb dX3_addDigit_63 ?_
        replace h := nm_ok h
        obtain ⟨t_14, et_14, h⟩ := h
        refine gTop et_14 ?_
        refine va_put (D := D) (ci := 3) (v := .int t_14) (ty := .int) (C := RX3) (T := TX3) (N := 14) hx hb hts in_X3_addDigit_X3 tyX3 tyX3_ok nmX3 hown hK.1 hP hD hS 0 rfl rfl 12 (by decide) (hts (.fieldLink RX3 87 "PaperBubbles$Law" "digits" "I") (List.mem_of_getElem? (i := 1) rfl)) (fun _ h9 => h9) rfl (by decide +kernel) rfl rfl (Nat.le_of_ble_eq_true rfl) dX3_addDigit_64 (fun H locs hP hD hS => ?_)
        have hP : va_P D gcl [(q_this, .inr (3, [.ref (c (10 + s_names)), .ref q_steps, .int v_length, .ref q_stack, .ref q_answers, .int v_side, .int v_round, .ref q_draft, .int v_drafted, .ref q_held, .int v_holding, .int v_open, .int t_14, .int v_wantsOperand])), (q_draft, .inl (c 0, 50, .inl w_13))] H := hP
        have hD : va_D A [(q_this, .inr (3, [.ref (c (10 + s_names)), .ref q_steps, .int v_length, .ref q_stack, .ref q_answers, .int v_side, .int v_round, .ref q_draft, .int v_drafted, .ref q_held, .int v_holding, .int v_open, .int t_14, .int v_wantsOperand])), (q_draft, .inl (c 0, 50, .inl w_13))] := hD
        refine lv_iconst (v := 1) hx hb dX3_addDigit_67 (by decide) ?_
        replace h := so3 h
        obtain ⟨z0, z1, z2⟩ := h
        subst z0 z1 z2
        exact gIret hF hP hD hS rfl dX3_addDigit_68
      · replace h := it_t c_5 h
        refine lv_iconst (v := 0) hx hb dX3_addDigit_28 (by decide) ?_
        replace h := so3 h
        obtain ⟨z0, z1, z2⟩ := h
        subst z0 z1 z2
        exact gIret hF hP hD hS rfl dX3_addDigit_29
set_option maxRecDepth 20000 in
theorem in_X3_closeParenthesis_X3 : ∀ w ∈ u_ws RX3 TX3 14, w ∈ wsX3_closeParenthesis := by decide +kernel
abbrev rm_X3_closeParenthesis : Room := { frames := 3, cells := 0, slots := 0, locals := 63 }
set_option maxHeartbeats 4000000 in
set_option maxRecDepth 100000 in
theorem c_X3_closeParenthesis (l : Launch) (D : va_G) (c : Nat → ClassId) (q_this q_steps q_stack q_answers q_draft q_held : Nat) (s_names : Nat) (v_length : Int32) (v_side : Int32) (v_round : Int32) (v_drafted : Int32) (v_holding : Int32) (v_open : Int32) (v_digits : Int32) (v_wantsOperand : Int32) (v_draft : Nat → Int32) (v_held : Nat → Int32) (o_r : Int32) (o_v_drafted : Int32) (o_v_holding : Int32) (o_v_open : Int32) (o_v_draft : Nat → Int32) (h : f_X3_closeParenthesis v_drafted v_holding v_open v_draft v_held = some (o_r, o_v_drafted, o_v_holding, o_v_open, o_v_draft)) : gMI l yX3_closeParenthesis wsX3_closeParenthesis rm_X3_closeParenthesis D c [.ref q_this] [(q_this, .inr (3, [.ref (c (10 + s_names)), .ref q_steps, .int v_length, .ref q_stack, .ref q_answers, .int v_side, .int v_round, .ref q_draft, .int v_drafted, .ref q_held, .int v_holding, .int v_open, .int v_digits, .int v_wantsOperand])), (q_draft, .inl (c 0, 50, .inl v_draft)), (q_held, .inl (c 0, 50, .inl v_held))] [(q_this, .inr (3, [.ref (c (10 + s_names)), .ref q_steps, .int v_length, .ref q_stack, .ref q_answers, .int v_side, .int v_round, .ref q_draft, .int o_v_drafted, .ref q_held, .int o_v_holding, .int o_v_open, .int v_digits, .int v_wantsOperand])), (q_draft, .inl (c 0, 50, .inl o_v_draft)), (q_held, .inl (c 0, 50, .inl v_held))] o_r := by
  refine gMI_of (cc := cX3_closeParenthesis) (maxL := 1) (rt := (some .boolean)) (by decide +kernel) rfl (Nat.le_of_ble_eq_true rfl) ?_
  intro p e s m below meth co A hF hK hX hP hD hA hS ls hl
  obtain ⟨hx, hb, hr, hts, hown, hlocks, hml⟩ := id hF
  have hl : lv_has ls 1 [(0, .ref q_this)] := hl
  unfold f_X3_closeParenthesis at h
  refine lv_aload_n hx hb dX3_closeParenthesis_0 rfl (lv_at hl 0 rfl) ?_
  refine lv_iconst (v := 1) hx hb dX3_closeParenthesis_1 (by decide) ?_
  replace h := kb3_ok h
  obtain ⟨w_2, w_3, w_4, hc_1, h⟩ := h
  refine gCallV (isC := [0, 1, 2]) (wc := [(q_this, .inr (3, [.ref (c (10 + s_names)), .ref q_steps, .int v_length, .ref q_stack, .ref q_answers, .int v_side, .int v_round, .ref q_draft, .int v_drafted, .ref q_held, .int v_holding, .int v_open, .int v_digits, .int v_wantsOperand])), (q_draft, .inl (c 0, 50, .inl v_draft)), (q_held, .inl (c 0, 50, .inl v_held))]) (w1 := [(q_this, .inr (3, [.ref (c (10 + s_names)), .ref q_steps, .int v_length, .ref q_stack, .ref q_answers, .int v_side, .int v_round, .ref q_draft, .int w_2, .ref q_held, .int w_3, .int v_open, .int v_digits, .int v_wantsOperand])), (q_draft, .inl (c 0, 50, .inl w_4)), (q_held, .inl (c 0, 50, .inl v_held))]) (ws2 := [(q_this, .inr (3, [.ref (c (10 + s_names)), .ref q_steps, .int v_length, .ref q_stack, .ref q_answers, .int v_side, .int v_round, .ref q_draft, .int w_2, .ref q_held, .int w_3, .int v_open, .int v_digits, .int v_wantsOperand])), (q_draft, .inl (c 0, 50, .inl w_4)), (q_held, .inl (c 0, 50, .inl v_held))]) (ms := [(some 0), (some 1), (some 2)]) hP hD hS hA ⟨rfl, rfl, rfl, trivial⟩ (by decide +kernel) ⟨rfl, rfl, rfl, trivial⟩ (va_runV (rm := rm_X3_closeFrom) (ws := wsX3_closeFrom) (As := [.int 1]) (rest := []) (gFix hF) (c_X3_closeFrom l D c q_this q_steps q_stack q_answers q_draft q_held s_names 1 v_length v_side v_round v_drafted v_holding v_open v_digits v_wantsOperand v_draft v_held w_2 w_3 w_4 hc_1 s.heap.size) (cwV 1 hts gX3_closeParenthesis_X3_closeFrom rfl rfl rfl (by decide +kernel) ⟨Nat.le_of_ble_eq_true rfl, Nat.le_of_ble_eq_true rfl⟩) (gPreV (wc := [(q_this, .inr (3, [.ref (c (10 + s_names)), .ref q_steps, .int v_length, .ref q_stack, .ref q_answers, .int v_side, .int v_round, .ref q_draft, .int v_drafted, .ref q_held, .int v_holding, .int v_open, .int v_digits, .int v_wantsOperand])), (q_draft, .inl (c 0, 50, .inl v_draft)), (q_held, .inl (c 0, 50, .inl v_held))]) (q := (RX3, TX3, 14)) (ci := 3) (q0 := 0) (isC := [0, 1, 2]) hK hX hS hA hP hD ⟨rfl, rfl, rfl, trivial⟩ (by decide +kernel) rfl rfl) rfl rfl hl.1 rfl (lv_room (Nat.le_of_ble_eq_true rfl)) dX3_closeParenthesis_2 ⟨Nat.le_of_ble_eq_true rfl, Nat.le_of_ble_eq_true rfl⟩) (fun H locs hP hD hS => ?_)
  refine lv_aload_n hx hb dX3_closeParenthesis_5 rfl (lv_at hl 0 rfl) ?_
  replace h := kb_ok h
  obtain ⟨r_6, hc_5, h⟩ := h
  refine gCallIr (isC := [0, 2]) (wc := [(q_this, .inr (3, [.ref (c (10 + s_names)), .ref q_steps, .int v_length, .ref q_stack, .ref q_answers, .int v_side, .int v_round, .ref q_draft, .int w_2, .ref q_held, .int w_3, .int v_open, .int v_digits, .int v_wantsOperand])), (q_held, .inl (c 0, 50, .inl v_held))]) hP hD hS hA ⟨rfl, rfl, trivial⟩ (va_runV (rm := rm_X3_lastHeld) (ws := wsX3_lastHeld) (As := []) (rest := []) (gFix hF) (c_X3_lastHeld l D c q_this q_steps q_stack q_answers q_draft q_held s_names v_length v_side v_round w_2 w_3 v_open v_digits v_wantsOperand v_held r_6 hc_5 H.size) (cwV 0 hts gX3_closeParenthesis_X3_lastHeld rfl rfl rfl (by decide +kernel) ⟨Nat.le_of_ble_eq_true rfl, Nat.le_of_ble_eq_true rfl⟩) (gPreV (wc := [(q_this, .inr (3, [.ref (c (10 + s_names)), .ref q_steps, .int v_length, .ref q_stack, .ref q_answers, .int v_side, .int v_round, .ref q_draft, .int w_2, .ref q_held, .int w_3, .int v_open, .int v_digits, .int v_wantsOperand])), (q_held, .inl (c 0, 50, .inl v_held))]) (q := (RX3, TX3, 14)) (ci := 3) (q0 := 0) (isC := [0, 2]) hK hX hS hA hP hD ⟨rfl, rfl, trivial⟩ (by decide +kernel) rfl rfl) rfl rfl hl.1 rfl (lv_room (Nat.le_of_ble_eq_true rfl)) dX3_closeParenthesis_6 ⟨Nat.le_of_ble_eq_true rfl, Nat.le_of_ble_eq_true rfl⟩) (fun H locs hP hS => ?_)
  refine lv_bipush (v := 40) hx hb dX3_closeParenthesis_9 (by decide) ?_
  refine lv_icmp_eq (tgt := 16) hx hb dX3_closeParenthesis_11 (by decide) (fun c_7 => ?_) (fun c_7 => ?_)
  · replace h := it_t c_7 h
    refine lv_aload_n hx hb dX3_closeParenthesis_16 rfl (lv_at hl 0 rfl) ?_
    refine lv_dup hx hb dX3_closeParenthesis_17 rfl ?_
    refine va_get (D := D) (ci := 3) (v := .int w_3) (C := RX3) (T := TX3) (N := 14) hx hb hts in_X3_closeParenthesis_X3 hown hK.1 hP 0 rfl rfl 10 (by decide) (hts (.fieldLink RX3 81 "PaperBubbles$Law" "holding" "I") (List.mem_of_getElem? (i := 1) rfl)) (fun _ h9 => h9) rfl dX3_closeParenthesis_18 ?_
    refine lv_iconst (v := 1) hx hb dX3_closeParenthesis_21 (by decide) ?_
    refine lv_isub hx hb dX3_closeParenthesis_22 ?_
    replace h := nm_ok h
    obtain ⟨t_8, et_8, h⟩ := h
    refine gTop et_8 ?_
    refine va_put (D := D) (ci := 3) (v := .int t_8) (ty := .int) (C := RX3) (T := TX3) (N := 14) hx hb hts in_X3_closeParenthesis_X3 tyX3 tyX3_ok nmX3 hown hK.1 hP hD hS 0 rfl rfl 10 (by decide) (hts (.fieldLink RX3 81 "PaperBubbles$Law" "holding" "I") (List.mem_of_getElem? (i := 1) rfl)) (fun _ h9 => h9) rfl (by decide +kernel) rfl rfl (Nat.le_of_ble_eq_true rfl) dX3_closeParenthesis_23 (fun H locs hP hD hS => ?_)
    have hP : va_P D gcl [(q_this, .inr (3, [.ref (c (10 + s_names)), .ref q_steps, .int v_length, .ref q_stack, .ref q_answers, .int v_side, .int v_round, .ref q_draft, .int w_2, .ref q_held, .int t_8, .int v_open, .int v_digits, .int v_wantsOperand])), (q_draft, .inl (c 0, 50, .inl w_4)), (q_held, .inl (c 0, 50, .inl v_held))] H := hP
    have hD : va_D A [(q_this, .inr (3, [.ref (c (10 + s_names)), .ref q_steps, .int v_length, .ref q_stack, .ref q_answers, .int v_side, .int v_round, .ref q_draft, .int w_2, .ref q_held, .int t_8, .int v_open, .int v_digits, .int v_wantsOperand])), (q_draft, .inl (c 0, 50, .inl w_4)), (q_held, .inl (c 0, 50, .inl v_held))] := hD
    refine lv_aload_n hx hb dX3_closeParenthesis_26 rfl (lv_at hl 0 rfl) ?_
    refine lv_dup hx hb dX3_closeParenthesis_27 rfl ?_
    refine va_get (D := D) (ci := 3) (v := .int v_open) (C := RX3) (T := TX3) (N := 14) hx hb hts in_X3_closeParenthesis_X3 hown hK.1 hP 0 rfl rfl 11 (by decide) (hts (.fieldLink RX3 84 "PaperBubbles$Law" "open" "I") (List.mem_of_getElem? (i := 2) rfl)) (fun _ h9 => h9) rfl dX3_closeParenthesis_28 ?_
    refine lv_iconst (v := 1) hx hb dX3_closeParenthesis_31 (by decide) ?_
    refine lv_isub hx hb dX3_closeParenthesis_32 ?_
    replace h := nm_ok h
    obtain ⟨t_9, et_9, h⟩ := h
    refine gTop et_9 ?_
    refine va_put (D := D) (ci := 3) (v := .int t_9) (ty := .int) (C := RX3) (T := TX3) (N := 14) hx hb hts in_X3_closeParenthesis_X3 tyX3 tyX3_ok nmX3 hown hK.1 hP hD hS 0 rfl rfl 11 (by decide) (hts (.fieldLink RX3 84 "PaperBubbles$Law" "open" "I") (List.mem_of_getElem? (i := 2) rfl)) (fun _ h9 => h9) rfl (by decide +kernel) rfl rfl (Nat.le_of_ble_eq_true rfl) dX3_closeParenthesis_33 (fun H locs hP hD hS => ?_)
    have hP : va_P D gcl [(q_this, .inr (3, [.ref (c (10 + s_names)), .ref q_steps, .int v_length, .ref q_stack, .ref q_answers, .int v_side, .int v_round, .ref q_draft, .int w_2, .ref q_held, .int t_8, .int t_9, .int v_digits, .int v_wantsOperand])), (q_draft, .inl (c 0, 50, .inl w_4)), (q_held, .inl (c 0, 50, .inl v_held))] H := hP
    have hD : va_D A [(q_this, .inr (3, [.ref (c (10 + s_names)), .ref q_steps, .int v_length, .ref q_stack, .ref q_answers, .int v_side, .int v_round, .ref q_draft, .int w_2, .ref q_held, .int t_8, .int t_9, .int v_digits, .int v_wantsOperand])), (q_draft, .inl (c 0, 50, .inl w_4)), (q_held, .inl (c 0, 50, .inl v_held))] := hD
    refine lv_iconst (v := 1) hx hb dX3_closeParenthesis_36 (by decide) ?_
    replace h := so5 h
    obtain ⟨z0, z1, z2, z3, z4⟩ := h
    subst z0 z1 z2 z3 z4
    exact gIret hF hP hD hS rfl dX3_closeParenthesis_37
  · replace h := it_f c_7 h
    refine lv_iconst (v := 0) hx hb dX3_closeParenthesis_14 (by decide) ?_
    replace h := so5 h
    obtain ⟨z0, z1, z2, z3, z4⟩ := h
    subst z0 z1 z2 z3 z4
    exact gIret hF hP hD hS rfl dX3_closeParenthesis_15
