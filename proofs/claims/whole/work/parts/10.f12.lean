set_option maxRecDepth 20000 in
theorem in_X3_follows_X3 : ∀ w ∈ u_ws RX3 TX3 14, w ∈ wsX3_follows := by decide +kernel
def f_X3_follows_L81 (a_1 : Int32) (v_drafted : Int32) (v_holding : Int32) (v_open : Int32) (v_digits : Int32) (v_draft : Nat → Int32) (v_held : Nat → Int32) : Option (Int32 × Int32 × Int32 × Int32 × Int32 × Int32 × (Nat → Int32) × (Nat → Int32)) :=
  kb2 (f_X3_hold a_1 v_holding v_held) fun w_39 w_40 =>
  some (1, v_drafted, w_39, v_open, v_digits, 1, v_draft, w_40)

def f_X3_follows_L60 (a_1 : Int32) (x2 : Int32) (y1 : Int32) (v_drafted : Int32) (v_holding : Int32) (v_open : Int32) (v_digits : Int32) (v_wantsOperand : Int32) (v_draft : Nat → Int32) (v_held : Nat → Int32) : Option (Int32 × Int32 × Int32 × Int32 × Int32 × Int32 × (Nat → Int32) × (Nat → Int32)) :=
  kb3 (f_X3_closeFrom y1 v_drafted v_holding v_draft v_held) fun w_29 w_30 w_31 =>
  if x2 = 3 then
    kb (f_X3_lastHeld w_30 v_held) fun r_34 =>
    kb (f_X3_rankOf r_34) fun r_36 =>
    if r_36 = 3 then
      some (0, w_29, w_30, v_open, v_digits, v_wantsOperand, w_31, v_held)
    else
      f_X3_follows_L81 a_1 w_29 w_30 v_open v_digits w_31 v_held
  else
    f_X3_follows_L81 a_1 w_29 w_30 v_open v_digits w_31 v_held

def f_X3_follows (a_1 : Int32) (v_drafted : Int32) (v_holding : Int32) (v_open : Int32) (v_digits : Int32) (v_wantsOperand : Int32) (v_draft : Nat → Int32) (v_held : Nat → Int32) : Option (Int32 × Int32 × Int32 × Int32 × Int32 × Int32 × (Nat → Int32) × (Nat → Int32)) :=
  kb (f_X3_isDigit a_1) fun r_2 =>
  if r_2 = 0 then
    kb4 (f_X3_closeNots v_drafted v_holding v_open v_draft v_held) fun w_5 w_6 w_7 w_8 =>
    if a_1 = 41 then
      kb5 (f_X3_closeParenthesis w_5 w_6 w_7 w_8 v_held) fun r_16 w_17 w_18 w_19 w_20 =>
      chb r_16 <|
      some (r_16, w_17, w_18, w_19, 0, v_wantsOperand, w_20, v_held)
    else
      kb (f_X3_rankOf a_1) fun r_11 =>
      if r_11 = 0 then
        some (0, w_5, w_6, w_7, 0, v_wantsOperand, w_8, v_held)
      else
        if r_11 = 3 then
          nm (r_11 + 1 : Int32) fun t_14 =>
          f_X3_follows_L60 a_1 r_11 t_14 w_5 w_6 w_7 0 v_wantsOperand w_8 v_held
        else
          f_X3_follows_L60 a_1 r_11 r_11 w_5 w_6 w_7 0 v_wantsOperand w_8 v_held
  else
    nm (a_1 - 48 : Int32) fun t_22 =>
    kb3 (f_X3_addDigit t_22 v_drafted v_digits v_draft) fun r_24 w_25 w_26 =>
    chb r_24 <|
    some (r_24, v_drafted, v_holding, v_open, w_25, v_wantsOperand, w_26, v_held)

abbrev rm_X3_follows : Room := { frames := 4, cells := 0, slots := 0, locals := 83 }
set_option maxHeartbeats 4000000 in
set_option maxRecDepth 100000 in
theorem c_X3_follows (l : Launch) (D : va_G) (c : Nat → ClassId) (q_this q_steps q_stack q_answers q_draft q_held : Nat) (s_names : Nat) (a_1 : Int32) (v_length : Int32) (v_side : Int32) (v_round : Int32) (v_drafted : Int32) (v_holding : Int32) (v_open : Int32) (v_digits : Int32) (v_wantsOperand : Int32) (v_draft : Nat → Int32) (v_held : Nat → Int32) (o_r : Int32) (o_v_drafted : Int32) (o_v_holding : Int32) (o_v_open : Int32) (o_v_digits : Int32) (o_v_wantsOperand : Int32) (o_v_draft : Nat → Int32) (o_v_held : Nat → Int32) (h : f_X3_follows a_1 v_drafted v_holding v_open v_digits v_wantsOperand v_draft v_held = some (o_r, o_v_drafted, o_v_holding, o_v_open, o_v_digits, o_v_wantsOperand, o_v_draft, o_v_held)) : gMI l yX3_follows wsX3_follows rm_X3_follows D c [.ref q_this, .int a_1] [(q_this, .inr (3, [.ref (c (10 + s_names)), .ref q_steps, .int v_length, .ref q_stack, .ref q_answers, .int v_side, .int v_round, .ref q_draft, .int v_drafted, .ref q_held, .int v_holding, .int v_open, .int v_digits, .int v_wantsOperand])), (q_draft, .inl (c 0, 50, .inl v_draft)), (q_held, .inl (c 0, 50, .inl v_held))] [(q_this, .inr (3, [.ref (c (10 + s_names)), .ref q_steps, .int v_length, .ref q_stack, .ref q_answers, .int v_side, .int v_round, .ref q_draft, .int o_v_drafted, .ref q_held, .int o_v_holding, .int o_v_open, .int o_v_digits, .int o_v_wantsOperand])), (q_draft, .inl (c 0, 50, .inl o_v_draft)), (q_held, .inl (c 0, 50, .inl o_v_held))] o_r := by
  refine gMI_of (cc := cX3_follows) (maxL := 3) (rt := (some .boolean)) (by decide +kernel) rfl (Nat.le_of_ble_eq_true rfl) ?_
  intro p e s m below meth co A hF hK hX hP hD hA hS ls hl
  obtain ⟨hx, hb, hr, hts, hown, hlocks, hml⟩ := id hF
  have hl : lv_has ls 3 [(0, .ref q_this), (1, .int a_1)] := hl
  have t_L81 : ∀ (v_drafted : Int32) (v_holding : Int32) (v_open : Int32) (v_digits : Int32) (v_wantsOperand : Int32) (v_draft : Nat → Int32) (v_held : Nat → Int32) (H : Heap) (locs : List Loc), va_P D gcl [(q_this, .inr (3, [.ref (c (10 + s_names)), .ref q_steps, .int v_length, .ref q_stack, .ref q_answers, .int v_side, .int v_round, .ref q_draft, .int v_drafted, .ref q_held, .int v_holding, .int v_open, .int v_digits, .int v_wantsOperand])), (q_draft, .inl (c 0, 50, .inl v_draft)), (q_held, .inl (c 0, 50, .inl v_held))] H → va_D A [(q_this, .inr (3, [.ref (c (10 + s_names)), .ref q_steps, .int v_length, .ref q_stack, .ref q_answers, .int v_side, .int v_round, .ref q_draft, .int v_drafted, .ref q_held, .int v_holding, .int v_open, .int v_digits, .int v_wantsOperand])), (q_draft, .inl (c 0, 50, .inl v_draft)), (q_held, .inl (c 0, 50, .inl v_held))] → va_S A s.heap H locs → ∀ ls, lv_has ls 3 [(0, .ref q_this), (1, .int a_1)] → f_X3_follows_L81 a_1 v_drafted v_holding v_open v_digits v_draft v_held = some (o_r, o_v_drafted, o_v_holding, o_v_open, o_v_digits, o_v_wantsOperand, o_v_draft, o_v_held) → W p l e (headSpec wsX3_follows rm_X3_follows).room s m [.ref q_this, .int a_1].toArray below meth co H locs 0 0 (gQI D [(q_this, .inr (3, [.ref (c (10 + s_names)), .ref q_steps, .int v_length, .ref q_stack, .ref q_answers, .int v_side, .int v_round, .ref q_draft, .int o_v_drafted, .ref q_held, .int o_v_holding, .int o_v_open, .int o_v_digits, .int o_v_wantsOperand])), (q_draft, .inl (c 0, 50, .inl o_v_draft)), (q_held, .inl (c 0, 50, .inl o_v_held))] o_r A below [.ref q_this, .int a_1] s) (F0 m 81 ls []) := by
    intro  v_drafted v_holding v_open v_digits v_wantsOperand v_draft v_held H locs hP hD hS ls hl h
    unfold f_X3_follows_L81 at h
    refine lv_aload_n hx hb dX3_follows_81 rfl (lv_at hl 0 rfl) ?_
    refine lv_iload_n hx hb dX3_follows_82 rfl (lv_at hl 1 rfl) ?_
    replace h := kb2_ok h
    obtain ⟨w_39, w_40, hc_38, h⟩ := h
    refine gCallV (isC := [0, 2]) (wc := [(q_this, .inr (3, [.ref (c (10 + s_names)), .ref q_steps, .int v_length, .ref q_stack, .ref q_answers, .int v_side, .int v_round, .ref q_draft, .int v_drafted, .ref q_held, .int v_holding, .int v_open, .int v_digits, .int v_wantsOperand])), (q_held, .inl (c 0, 50, .inl v_held))]) (w1 := [(q_this, .inr (3, [.ref (c (10 + s_names)), .ref q_steps, .int v_length, .ref q_stack, .ref q_answers, .int v_side, .int v_round, .ref q_draft, .int v_drafted, .ref q_held, .int w_39, .int v_open, .int v_digits, .int v_wantsOperand])), (q_held, .inl (c 0, 50, .inl w_40))]) (ws2 := [(q_this, .inr (3, [.ref (c (10 + s_names)), .ref q_steps, .int v_length, .ref q_stack, .ref q_answers, .int v_side, .int v_round, .ref q_draft, .int v_drafted, .ref q_held, .int w_39, .int v_open, .int v_digits, .int v_wantsOperand])), (q_draft, .inl (c 0, 50, .inl v_draft)), (q_held, .inl (c 0, 50, .inl w_40))]) (ms := [(some 0), none, (some 1)]) hP hD hS hA ⟨rfl, rfl, trivial⟩ (by decide +kernel) ⟨rfl, rfl, rfl, trivial⟩ (va_runV (rm := rm_X3_hold) (ws := wsX3_hold) (As := [.int a_1]) (rest := []) (gFix hF) (c_X3_hold l D c q_this q_steps q_stack q_answers q_draft q_held s_names a_1 v_length v_side v_round v_drafted v_holding v_open v_digits v_wantsOperand v_held w_39 w_40 hc_38 H.size) (cwV 1 hts gX3_follows_X3_hold rfl rfl rfl (by decide +kernel) ⟨Nat.le_of_ble_eq_true rfl, Nat.le_of_ble_eq_true rfl⟩) (gPreV (wc := [(q_this, .inr (3, [.ref (c (10 + s_names)), .ref q_steps, .int v_length, .ref q_stack, .ref q_answers, .int v_side, .int v_round, .ref q_draft, .int v_drafted, .ref q_held, .int v_holding, .int v_open, .int v_digits, .int v_wantsOperand])), (q_held, .inl (c 0, 50, .inl v_held))]) (q := (RX3, TX3, 14)) (ci := 3) (q0 := 0) (isC := [0, 2]) hK hX hS hA hP hD ⟨rfl, rfl, trivial⟩ (by decide +kernel) rfl rfl) rfl rfl hl.1 rfl (lv_room (Nat.le_of_ble_eq_true rfl)) dX3_follows_83 ⟨Nat.le_of_ble_eq_true rfl, Nat.le_of_ble_eq_true rfl⟩) (fun H locs hP hD hS => ?_)
    refine lv_aload_n hx hb dX3_follows_86 rfl (lv_at hl 0 rfl) ?_
    refine lv_iconst (v := 1) hx hb dX3_follows_87 (by decide) ?_
    refine va_put (D := D) (ci := 3) (v := .int 1) (ty := .boolean) (C := RX3) (T := TX3) (N := 14) hx hb hts in_X3_follows_X3 tyX3 tyX3_ok nmX3 hown hK.1 hP hD hS 0 rfl rfl 13 (by decide) (hts (.fieldLink RX3 90 "PaperBubbles$Law" "wantsOperand" "Z") (List.mem_of_getElem? (i := 2) rfl)) (fun _ h9 => h9) rfl (by decide +kernel) rfl rfl (Nat.le_of_ble_eq_true rfl) dX3_follows_88 (fun H locs hP hD hS => ?_)
    have hP : va_P D gcl [(q_this, .inr (3, [.ref (c (10 + s_names)), .ref q_steps, .int v_length, .ref q_stack, .ref q_answers, .int v_side, .int v_round, .ref q_draft, .int v_drafted, .ref q_held, .int w_39, .int v_open, .int v_digits, .int 1])), (q_draft, .inl (c 0, 50, .inl v_draft)), (q_held, .inl (c 0, 50, .inl w_40))] H := hP
    have hD : va_D A [(q_this, .inr (3, [.ref (c (10 + s_names)), .ref q_steps, .int v_length, .ref q_stack, .ref q_answers, .int v_side, .int v_round, .ref q_draft, .int v_drafted, .ref q_held, .int w_39, .int v_open, .int v_digits, .int 1])), (q_draft, .inl (c 0, 50, .inl v_draft)), (q_held, .inl (c 0, 50, .inl w_40))] := hD
    refine lv_iconst (v := 1) hx hb dX3_follows_91 (by decide) ?_
    replace h := so8 h
    obtain ⟨z0, z1, z2, z3, z4, z5, z6, z7⟩ := h
    subst z0 z1 z2 z3 z4 z5 z6 z7
    exact gIret hF hP hD hS rfl dX3_follows_92
  have t_L60 : ∀ (x2 : Int32) (y1 : Int32) (v_drafted : Int32) (v_holding : Int32) (v_open : Int32) (v_digits : Int32) (v_wantsOperand : Int32) (v_draft : Nat → Int32) (v_held : Nat → Int32) (H : Heap) (locs : List Loc), va_P D gcl [(q_this, .inr (3, [.ref (c (10 + s_names)), .ref q_steps, .int v_length, .ref q_stack, .ref q_answers, .int v_side, .int v_round, .ref q_draft, .int v_drafted, .ref q_held, .int v_holding, .int v_open, .int v_digits, .int v_wantsOperand])), (q_draft, .inl (c 0, 50, .inl v_draft)), (q_held, .inl (c 0, 50, .inl v_held))] H → va_D A [(q_this, .inr (3, [.ref (c (10 + s_names)), .ref q_steps, .int v_length, .ref q_stack, .ref q_answers, .int v_side, .int v_round, .ref q_draft, .int v_drafted, .ref q_held, .int v_holding, .int v_open, .int v_digits, .int v_wantsOperand])), (q_draft, .inl (c 0, 50, .inl v_draft)), (q_held, .inl (c 0, 50, .inl v_held))] → va_S A s.heap H locs → ∀ ls, lv_has ls 3 [(0, .ref q_this), (1, .int a_1), (2, .int x2)] → f_X3_follows_L60 a_1 x2 y1 v_drafted v_holding v_open v_digits v_wantsOperand v_draft v_held = some (o_r, o_v_drafted, o_v_holding, o_v_open, o_v_digits, o_v_wantsOperand, o_v_draft, o_v_held) → W p l e (headSpec wsX3_follows rm_X3_follows).room s m [.ref q_this, .int a_1].toArray below meth co H locs 0 0 (gQI D [(q_this, .inr (3, [.ref (c (10 + s_names)), .ref q_steps, .int v_length, .ref q_stack, .ref q_answers, .int v_side, .int v_round, .ref q_draft, .int o_v_drafted, .ref q_held, .int o_v_holding, .int o_v_open, .int o_v_digits, .int o_v_wantsOperand])), (q_draft, .inl (c 0, 50, .inl o_v_draft)), (q_held, .inl (c 0, 50, .inl o_v_held))] o_r A below [.ref q_this, .int a_1] s) (F0 m 60 ls [.int y1, .ref q_this]) := by
    intro  x2 y1 v_drafted v_holding v_open v_digits v_wantsOperand v_draft v_held H locs hP hD hS ls hl h
    unfold f_X3_follows_L60 at h
    replace h := kb3_ok h
    obtain ⟨w_29, w_30, w_31, hc_28, h⟩ := h
    refine gCallV (isC := [0, 1, 2]) (wc := [(q_this, .inr (3, [.ref (c (10 + s_names)), .ref q_steps, .int v_length, .ref q_stack, .ref q_answers, .int v_side, .int v_round, .ref q_draft, .int v_drafted, .ref q_held, .int v_holding, .int v_open, .int v_digits, .int v_wantsOperand])), (q_draft, .inl (c 0, 50, .inl v_draft)), (q_held, .inl (c 0, 50, .inl v_held))]) (w1 := [(q_this, .inr (3, [.ref (c (10 + s_names)), .ref q_steps, .int v_length, .ref q_stack, .ref q_answers, .int v_side, .int v_round, .ref q_draft, .int w_29, .ref q_held, .int w_30, .int v_open, .int v_digits, .int v_wantsOperand])), (q_draft, .inl (c 0, 50, .inl w_31)), (q_held, .inl (c 0, 50, .inl v_held))]) (ws2 := [(q_this, .inr (3, [.ref (c (10 + s_names)), .ref q_steps, .int v_length, .ref q_stack, .ref q_answers, .int v_side, .int v_round, .ref q_draft, .int w_29, .ref q_held, .int w_30, .int v_open, .int v_digits, .int v_wantsOperand])), (q_draft, .inl (c 0, 50, .inl w_31)), (q_held, .inl (c 0, 50, .inl v_held))]) (ms := [(some 0), (some 1), (some 2)]) hP hD hS hA ⟨rfl, rfl, rfl, trivial⟩ (by decide +kernel) ⟨rfl, rfl, rfl, trivial⟩ (va_runV (rm := rm_X3_closeFrom) (ws := wsX3_closeFrom) (As := [.int y1]) (rest := []) (gFix hF) (c_X3_closeFrom l D c q_this q_steps q_stack q_answers q_draft q_held s_names y1 v_length v_side v_round v_drafted v_holding v_open v_digits v_wantsOperand v_draft v_held w_29 w_30 w_31 hc_28 H.size) (cwV 1 hts gX3_follows_X3_closeFrom rfl rfl rfl (by decide +kernel) ⟨Nat.le_of_ble_eq_true rfl, Nat.le_of_ble_eq_true rfl⟩) (gPreV (wc := [(q_this, .inr (3, [.ref (c (10 + s_names)), .ref q_steps, .int v_length, .ref q_stack, .ref q_answers, .int v_side, .int v_round, .ref q_draft, .int v_drafted, .ref q_held, .int v_holding, .int v_open, .int v_digits, .int v_wantsOperand])), (q_draft, .inl (c 0, 50, .inl v_draft)), (q_held, .inl (c 0, 50, .inl v_held))]) (q := (RX3, TX3, 14)) (ci := 3) (q0 := 0) (isC := [0, 1, 2]) hK hX hS hA hP hD ⟨rfl, rfl, rfl, trivial⟩ (by decide +kernel) rfl rfl) rfl rfl hl.1 rfl (lv_room (Nat.le_of_ble_eq_true rfl)) dX3_follows_60 ⟨Nat.le_of_ble_eq_true rfl, Nat.le_of_ble_eq_true rfl⟩) (fun H locs hP hD hS => ?_)
    refine lv_iload_n hx hb dX3_follows_63 rfl (lv_at hl 2 rfl) ?_
    refine lv_iconst (v := 3) hx hb dX3_follows_64 (by decide) ?_
    refine lv_icmp_ne (tgt := 81) hx hb dX3_follows_65 (by decide) (fun c_32 => ?_) (fun c_32 => ?_)
    · replace h := it_f c_32 h
      exact t_L81 w_29 w_30 v_open v_digits v_wantsOperand w_31 v_held H locs hP hD hS ls (lv_sub hl [0, 1] rfl) h
    · replace h := it_t c_32 h
      refine lv_aload_n hx hb dX3_follows_68 rfl (lv_at hl 0 rfl) ?_
      replace h := kb_ok h
      obtain ⟨r_34, hc_33, h⟩ := h
      refine gCallIr (isC := [0, 2]) (wc := [(q_this, .inr (3, [.ref (c (10 + s_names)), .ref q_steps, .int v_length, .ref q_stack, .ref q_answers, .int v_side, .int v_round, .ref q_draft, .int w_29, .ref q_held, .int w_30, .int v_open, .int v_digits, .int v_wantsOperand])), (q_held, .inl (c 0, 50, .inl v_held))]) hP hD hS hA ⟨rfl, rfl, trivial⟩ (va_runV (rm := rm_X3_lastHeld) (ws := wsX3_lastHeld) (As := []) (rest := []) (gFix hF) (c_X3_lastHeld l D c q_this q_steps q_stack q_answers q_draft q_held s_names v_length v_side v_round w_29 w_30 v_open v_digits v_wantsOperand v_held r_34 hc_33 H.size) (cwV 0 hts gX3_follows_X3_lastHeld rfl rfl rfl (by decide +kernel) ⟨Nat.le_of_ble_eq_true rfl, Nat.le_of_ble_eq_true rfl⟩) (gPreV (wc := [(q_this, .inr (3, [.ref (c (10 + s_names)), .ref q_steps, .int v_length, .ref q_stack, .ref q_answers, .int v_side, .int v_round, .ref q_draft, .int w_29, .ref q_held, .int w_30, .int v_open, .int v_digits, .int v_wantsOperand])), (q_held, .inl (c 0, 50, .inl v_held))]) (q := (RX3, TX3, 14)) (ci := 3) (q0 := 0) (isC := [0, 2]) hK hX hS hA hP hD ⟨rfl, rfl, trivial⟩ (by decide +kernel) rfl rfl) rfl rfl hl.1 rfl (lv_room (Nat.le_of_ble_eq_true rfl)) dX3_follows_69 ⟨Nat.le_of_ble_eq_true rfl, Nat.le_of_ble_eq_true rfl⟩) (fun H locs hP hS => ?_)
      replace h := kb_ok h
      obtain ⟨r_36, hc_35, h⟩ := h
      refine gCallIr (isC := []) (wc := []) hP hD hS hA trivial (va_runS (rm := rm_X3_rankOf) (ws := wsX3_rankOf) (As := [.int r_34]) (rest := []) (gFix hF) (c_X3_rankOf l D c r_34 r_36 hc_35 H.size) (va_cwS 1 hts gX3_follows_X3_rankOf rfl rfl rfl (by decide +kernel) ⟨Nat.le_of_ble_eq_true rfl, Nat.le_of_ble_eq_true rfl⟩) (gPreS (wc := []) (isC := []) hK hX hS hA hP hD trivial (by decide +kernel)) rfl rfl hl.1 rfl (lv_room (Nat.le_of_ble_eq_true rfl)) dX3_follows_72 ⟨Nat.le_of_ble_eq_true rfl, Nat.le_of_ble_eq_true rfl⟩) (fun H locs hP hS => ?_)
      refine lv_iconst (v := 3) hx hb dX3_follows_75 (by decide) ?_
      refine lv_icmp_ne (tgt := 81) hx hb dX3_follows_76 (by decide) (fun c_37 => ?_) (fun c_37 => ?_)
      · replace h := it_f c_37 h
        exact t_L81 w_29 w_30 v_open v_digits v_wantsOperand w_31 v_held H locs hP hD hS ls (lv_sub hl [0, 1] rfl) h
      · replace h := it_t c_37 h
        refine lv_iconst (v := 0) hx hb dX3_follows_79 (by decide) ?_
        replace h := so8 h
        obtain ⟨z0, z1, z2, z3, z4, z5, z6, z7⟩ := h
        subst z0 z1 z2 z3 z4 z5 z6 z7
        exact gIret hF hP hD hS rfl dX3_follows_80
  unfold f_X3_follows at h
  refine lv_iload_n hx hb dX3_follows_0 rfl (lv_at hl 1 rfl) ?_
  replace h := kb_ok h
  obtain ⟨r_2, hc_1, h⟩ := h
  refine gCallIr (isC := []) (wc := []) hP hD hS hA trivial (va_runS (rm := rm_X3_isDigit) (ws := wsX3_isDigit) (As := [.int a_1]) (rest := []) (gFix hF) (c_X3_isDigit l D c a_1 r_2 hc_1 s.heap.size) (va_cwS 1 hts gX3_follows_X3_isDigit rfl rfl rfl (by decide +kernel) ⟨Nat.le_of_ble_eq_true rfl, Nat.le_of_ble_eq_true rfl⟩) (gPreS (wc := []) (isC := []) hK hX hS hA hP hD trivial (by decide +kernel)) rfl rfl hl.1 rfl (lv_room (Nat.le_of_ble_eq_true rfl)) dX3_follows_1 ⟨Nat.le_of_ble_eq_true rfl, Nat.le_of_ble_eq_true rfl⟩) (fun H locs hP hS => ?_)
  refine lv_if_eq (tgt := 16) hx hb dX3_follows_4 (by decide) (fun c_3 => ?_) (fun c_3 => ?_)
  · replace h := it_t c_3 h
    refine lv_aload_n hx hb dX3_follows_16 rfl (lv_at hl 0 rfl) ?_
    refine lv_iconst (v := 0) hx hb dX3_follows_17 (by decide) ?_
    refine va_put (D := D) (ci := 3) (v := .int 0) (ty := .int) (C := RX3) (T := TX3) (N := 14) hx hb hts in_X3_follows_X3 tyX3 tyX3_ok nmX3 hown hK.1 hP hD hS 0 rfl rfl 12 (by decide) (hts (.fieldLink RX3 87 "PaperBubbles$Law" "digits" "I") (List.mem_of_getElem? (i := 1) rfl)) (fun _ h9 => h9) rfl (by decide +kernel) rfl rfl (Nat.le_of_ble_eq_true rfl) dX3_follows_18 (fun H locs hP hD hS => ?_)
    have hP : va_P D gcl [(q_this, .inr (3, [.ref (c (10 + s_names)), .ref q_steps, .int v_length, .ref q_stack, .ref q_answers, .int v_side, .int v_round, .ref q_draft, .int v_drafted, .ref q_held, .int v_holding, .int v_open, .int 0, .int v_wantsOperand])), (q_draft, .inl (c 0, 50, .inl v_draft)), (q_held, .inl (c 0, 50, .inl v_held))] H := hP
    have hD : va_D A [(q_this, .inr (3, [.ref (c (10 + s_names)), .ref q_steps, .int v_length, .ref q_stack, .ref q_answers, .int v_side, .int v_round, .ref q_draft, .int v_drafted, .ref q_held, .int v_holding, .int v_open, .int 0, .int v_wantsOperand])), (q_draft, .inl (c 0, 50, .inl v_draft)), (q_held, .inl (c 0, 50, .inl v_held))] := hD
    refine lv_aload_n hx hb dX3_follows_21 rfl (lv_at hl 0 rfl) ?_
    replace h := kb4_ok h
    obtain ⟨w_5, w_6, w_7, w_8, hc_4, h⟩ := h
    refine gCallV (isC := [0, 1, 2]) (wc := [(q_this, .inr (3, [.ref (c (10 + s_names)), .ref q_steps, .int v_length, .ref q_stack, .ref q_answers, .int v_side, .int v_round, .ref q_draft, .int v_drafted, .ref q_held, .int v_holding, .int v_open, .int 0, .int v_wantsOperand])), (q_draft, .inl (c 0, 50, .inl v_draft)), (q_held, .inl (c 0, 50, .inl v_held))]) (w1 := [(q_this, .inr (3, [.ref (c (10 + s_names)), .ref q_steps, .int v_length, .ref q_stack, .ref q_answers, .int v_side, .int v_round, .ref q_draft, .int w_5, .ref q_held, .int w_6, .int w_7, .int 0, .int v_wantsOperand])), (q_draft, .inl (c 0, 50, .inl w_8)), (q_held, .inl (c 0, 50, .inl v_held))]) (ws2 := [(q_this, .inr (3, [.ref (c (10 + s_names)), .ref q_steps, .int v_length, .ref q_stack, .ref q_answers, .int v_side, .int v_round, .ref q_draft, .int w_5, .ref q_held, .int w_6, .int w_7, .int 0, .int v_wantsOperand])), (q_draft, .inl (c 0, 50, .inl w_8)), (q_held, .inl (c 0, 50, .inl v_held))]) (ms := [(some 0), (some 1), (some 2)]) hP hD hS hA ⟨rfl, rfl, rfl, trivial⟩ (by decide +kernel) ⟨rfl, rfl, rfl, trivial⟩ (va_runV (rm := rm_X3_closeNots) (ws := wsX3_closeNots) (As := []) (rest := []) (gFix hF) (c_X3_closeNots l D c q_this q_steps q_stack q_answers q_draft q_held s_names v_length v_side v_round v_drafted v_holding v_open 0 v_wantsOperand v_draft v_held w_5 w_6 w_7 w_8 hc_4 H.size) (cwV 0 hts gX3_follows_X3_closeNots rfl rfl rfl (by decide +kernel) ⟨Nat.le_of_ble_eq_true rfl, Nat.le_of_ble_eq_true rfl⟩) (gPreV (wc := [(q_this, .inr (3, [.ref (c (10 + s_names)), .ref q_steps, .int v_length, .ref q_stack, .ref q_answers, .int v_side, .int v_round, .ref q_draft, .int v_drafted, .ref q_held, .int v_holding, .int v_open, .int 0, .int v_wantsOperand])), (q_draft, .inl (c 0, 50, .inl v_draft)), (q_held, .inl (c 0, 50, .inl v_held))]) (q := (RX3, TX3, 14)) (ci := 3) (q0 := 0) (isC := [0, 1, 2]) hK hX hS hA hP hD ⟨rfl, rfl, rfl, trivial⟩ (by decide +kernel) rfl rfl) rfl rfl hl.1 rfl (lv_room (Nat.le_of_ble_eq_true rfl)) dX3_follows_22 ⟨Nat.le_of_ble_eq_true rfl, Nat.le_of_ble_eq_true rfl⟩) (fun H locs hP hD hS => ?_)
    refine lv_iload_n hx hb dX3_follows_25 rfl (lv_at hl 1 rfl) ?_
    refine lv_bipush (v := 41) hx hb dX3_follows_26 (by decide) ?_
    refine lv_icmp_ne (tgt := 36) hx hb dX3_follows_28 (by decide) (fun c_9 => ?_) (fun c_9 => ?_)
    · replace h := it_f c_9 h
      refine lv_iload_n hx hb dX3_follows_36 rfl (lv_at hl 1 rfl) ?_
      replace h := kb_ok h
      obtain ⟨r_11, hc_10, h⟩ := h
      refine gCallIr (isC := []) (wc := []) hP hD hS hA trivial (va_runS (rm := rm_X3_rankOf) (ws := wsX3_rankOf) (As := [.int a_1]) (rest := []) (gFix hF) (c_X3_rankOf l D c a_1 r_11 hc_10 H.size) (va_cwS 1 hts gX3_follows_X3_rankOf rfl rfl rfl (by decide +kernel) ⟨Nat.le_of_ble_eq_true rfl, Nat.le_of_ble_eq_true rfl⟩) (gPreS (wc := []) (isC := []) hK hX hS hA hP hD trivial (by decide +kernel)) rfl rfl hl.1 rfl (lv_room (Nat.le_of_ble_eq_true rfl)) dX3_follows_37 ⟨Nat.le_of_ble_eq_true rfl, Nat.le_of_ble_eq_true rfl⟩) (fun H locs hP hS => ?_)
      refine lv_istore_n (lv' := [(2, .int r_11), (0, .ref q_this), (1, .int a_1)]) hx hb dX3_follows_40 rfl hl (by decide) rfl (fun ls hl => ?_)
      refine lv_iload_n hx hb dX3_follows_41 rfl (lv_at hl 0 rfl) ?_
      refine lv_if_ne (tgt := 47) hx hb dX3_follows_42 (by decide) (fun c_12 => ?_) (fun c_12 => ?_)
      · replace h := it_f c_12 h
        refine lv_aload_n hx hb dX3_follows_47 rfl (lv_at hl 1 rfl) ?_
        refine lv_iload_n hx hb dX3_follows_48 rfl (lv_at hl 0 rfl) ?_
        refine lv_iconst (v := 3) hx hb dX3_follows_49 (by decide) ?_
        refine lv_icmp_ne (tgt := 59) hx hb dX3_follows_50 (by decide) (fun c_13 => ?_) (fun c_13 => ?_)
        · replace h := it_f c_13 h
          refine lv_iload_n hx hb dX3_follows_59 rfl (lv_at hl 0 rfl) ?_
          exact t_L60 r_11 r_11 w_5 w_6 w_7 0 v_wantsOperand w_8 v_held H locs hP hD hS ls (lv_sub hl [1, 2, 0] rfl) h
        · replace h := it_t c_13 h
          refine lv_iload_n hx hb dX3_follows_53 rfl (lv_at hl 0 rfl) ?_
          refine lv_iconst (v := 1) hx hb dX3_follows_54 (by decide) ?_
          refine lv_iadd hx hb dX3_follows_55 ?_
          replace h := nm_ok h
          obtain ⟨t_14, et_14, h⟩ := h
          refine gTop et_14 ?_
          refine lv_goto (tgt := 60) hx hb dX3_follows_56 (by decide) ?_
          exact t_L60 r_11 t_14 w_5 w_6 w_7 0 v_wantsOperand w_8 v_held H locs hP hD hS ls (lv_sub hl [1, 2, 0] rfl) h
      · replace h := it_t c_12 h
        refine lv_iconst (v := 0) hx hb dX3_follows_45 (by decide) ?_
        replace h := so8 h
        obtain ⟨z0, z1, z2, z3, z4, z5, z6, z7⟩ := h
        subst z0 z1 z2 z3 z4 z5 z6 z7
        exact gIret hF hP hD hS rfl dX3_follows_46
    · replace h := it_t c_9 h
      refine lv_aload_n hx hb dX3_follows_31 rfl (lv_at hl 0 rfl) ?_
      replace h := kb5_ok h
      obtain ⟨r_16, w_17, w_18, w_19, w_20, hc_15, h⟩ := h
      refine gCallI (isC := [0, 1, 2]) (wc := [(q_this, .inr (3, [.ref (c (10 + s_names)), .ref q_steps, .int v_length, .ref q_stack, .ref q_answers, .int v_side, .int v_round, .ref q_draft, .int w_5, .ref q_held, .int w_6, .int w_7, .int 0, .int v_wantsOperand])), (q_draft, .inl (c 0, 50, .inl w_8)), (q_held, .inl (c 0, 50, .inl v_held))]) (w1 := [(q_this, .inr (3, [.ref (c (10 + s_names)), .ref q_steps, .int v_length, .ref q_stack, .ref q_answers, .int v_side, .int v_round, .ref q_draft, .int w_17, .ref q_held, .int w_18, .int w_19, .int 0, .int v_wantsOperand])), (q_draft, .inl (c 0, 50, .inl w_20)), (q_held, .inl (c 0, 50, .inl v_held))]) (ws2 := [(q_this, .inr (3, [.ref (c (10 + s_names)), .ref q_steps, .int v_length, .ref q_stack, .ref q_answers, .int v_side, .int v_round, .ref q_draft, .int w_17, .ref q_held, .int w_18, .int w_19, .int 0, .int v_wantsOperand])), (q_draft, .inl (c 0, 50, .inl w_20)), (q_held, .inl (c 0, 50, .inl v_held))]) (ms := [(some 0), (some 1), (some 2)]) hP hD hS hA ⟨rfl, rfl, rfl, trivial⟩ (by decide +kernel) ⟨rfl, rfl, rfl, trivial⟩ (va_runV (rm := rm_X3_closeParenthesis) (ws := wsX3_closeParenthesis) (As := []) (rest := []) (gFix hF) (c_X3_closeParenthesis l D c q_this q_steps q_stack q_answers q_draft q_held s_names v_length v_side v_round w_5 w_6 w_7 0 v_wantsOperand w_8 v_held r_16 w_17 w_18 w_19 w_20 hc_15 H.size) (cwV 0 hts gX3_follows_X3_closeParenthesis rfl rfl rfl (by decide +kernel) ⟨Nat.le_of_ble_eq_true rfl, Nat.le_of_ble_eq_true rfl⟩) (gPreV (wc := [(q_this, .inr (3, [.ref (c (10 + s_names)), .ref q_steps, .int v_length, .ref q_stack, .ref q_answers, .int v_side, .int v_round, .ref q_draft, .int w_5, .ref q_held, .int w_6, .int w_7, .int 0, .int v_wantsOperand])), (q_draft, .inl (c 0, 50, .inl w_8)), (q_held, .inl (c 0, 50, .inl v_held))]) (q := (RX3, TX3, 14)) (ci := 3) (q0 := 0) (isC := [0, 1, 2]) hK hX hS hA hP hD ⟨rfl, rfl, rfl, trivial⟩ (by decide +kernel) rfl rfl) rfl rfl hl.1 rfl (lv_room (Nat.le_of_ble_eq_true rfl)) dX3_follows_32 ⟨Nat.le_of_ble_eq_true rfl, Nat.le_of_ble_eq_true rfl⟩) (fun H locs hP hD hS => ?_)
      replace h := chb_ok h
      obtain ⟨hz_21, h⟩ := h
      replace h := so8 h
      obtain ⟨z0, z1, z2, z3, z4, z5, z6, z7⟩ := h
      subst z0 z1 z2 z3 z4 z5 z6 z7
      exact gIret hF hP hD hS (chb_n hz_21) dX3_follows_35
  · replace h := it_f c_3 h
    refine lv_aload_n hx hb dX3_follows_7 rfl (lv_at hl 0 rfl) ?_
    refine lv_iload_n hx hb dX3_follows_8 rfl (lv_at hl 1 rfl) ?_
    refine lv_bipush (v := 48) hx hb dX3_follows_9 (by decide) ?_
    refine lv_isub hx hb dX3_follows_11 ?_
    replace h := nm_ok h
    obtain ⟨t_22, et_22, h⟩ := h
    refine gTop et_22 ?_
    replace h := kb3_ok h
    obtain ⟨r_24, w_25, w_26, hc_23, h⟩ := h
    refine gCallI (isC := [0, 1]) (wc := [(q_this, .inr (3, [.ref (c (10 + s_names)), .ref q_steps, .int v_length, .ref q_stack, .ref q_answers, .int v_side, .int v_round, .ref q_draft, .int v_drafted, .ref q_held, .int v_holding, .int v_open, .int v_digits, .int v_wantsOperand])), (q_draft, .inl (c 0, 50, .inl v_draft))]) (w1 := [(q_this, .inr (3, [.ref (c (10 + s_names)), .ref q_steps, .int v_length, .ref q_stack, .ref q_answers, .int v_side, .int v_round, .ref q_draft, .int v_drafted, .ref q_held, .int v_holding, .int v_open, .int w_25, .int v_wantsOperand])), (q_draft, .inl (c 0, 50, .inl w_26))]) (ws2 := [(q_this, .inr (3, [.ref (c (10 + s_names)), .ref q_steps, .int v_length, .ref q_stack, .ref q_answers, .int v_side, .int v_round, .ref q_draft, .int v_drafted, .ref q_held, .int v_holding, .int v_open, .int w_25, .int v_wantsOperand])), (q_draft, .inl (c 0, 50, .inl w_26)), (q_held, .inl (c 0, 50, .inl v_held))]) (ms := [(some 0), (some 1), none]) hP hD hS hA ⟨rfl, rfl, trivial⟩ (by decide +kernel) ⟨rfl, rfl, rfl, trivial⟩ (va_runV (rm := rm_X3_addDigit) (ws := wsX3_addDigit) (As := [.int t_22]) (rest := []) (gFix hF) (c_X3_addDigit l D c q_this q_steps q_stack q_answers q_draft q_held s_names t_22 v_length v_side v_round v_drafted v_holding v_open v_digits v_wantsOperand v_draft r_24 w_25 w_26 hc_23 H.size) (cwV 1 hts gX3_follows_X3_addDigit rfl rfl rfl (by decide +kernel) ⟨Nat.le_of_ble_eq_true rfl, Nat.le_of_ble_eq_true rfl⟩) (gPreV (wc := [(q_this, .inr (3, [.ref (c (10 + s_names)), .ref q_steps, .int v_length, .ref q_stack, .ref q_answers, .int v_side, .int v_round, .ref q_draft, .int v_drafted, .ref q_held, .int v_holding, .int v_open, .int v_digits, .int v_wantsOperand])), (q_draft, .inl (c 0, 50, .inl v_draft))]) (q := (RX3, TX3, 14)) (ci := 3) (q0 := 0) (isC := [0, 1]) hK hX hS hA hP hD ⟨rfl, rfl, trivial⟩ (by decide +kernel) rfl rfl) rfl rfl hl.1 rfl (lv_room (Nat.le_of_ble_eq_true rfl)) dX3_follows_12 ⟨Nat.le_of_ble_eq_true rfl, Nat.le_of_ble_eq_true rfl⟩) (fun H locs hP hD hS => ?_)
    replace h := chb_ok h
    obtain ⟨hz_27, h⟩ := h
    replace h := so8 h
    obtain ⟨z0, z1, z2, z3, z4, z5, z6, z7⟩ := h
    subst z0 z1 z2 z3 z4 z5 z6 z7
    exact gIret hF hP hD hS (chb_n hz_27) dX3_follows_15
set_option maxRecDepth 20000 in
theorem in_X3_read_X3 : ∀ w ∈ u_ws RX3 TX3 14, w ∈ wsX3_read := by decide +kernel
def f_X3_read_L77 (a_2 : Int32) (v_length : Int32) (v_round : Int32) (v_drafted : Int32) (v_holding : Int32) (v_open : Int32) (v_digits : Int32) (v_wantsOperand : Int32) (v_draft : Nat → Int32) (v_held : Nat → Int32) (v_steps : Nat → Int32) : Option (Int32 × Int32 × Int32 × Int32 × Int32 × Int32 × Int32 × Int32 × (Nat → Int32) × (Nat → Int32) × (Nat → Int32)) :=
  kb4 (f_X3_closeNots v_drafted v_holding v_open v_draft v_held) fun w_27 w_28 w_29 w_30 =>
  kb3 (f_X3_closeFrom 1 w_27 w_28 w_30 v_held) fun w_32 w_33 w_34 =>
  if v_wantsOperand = 0 then
    if w_33 ≤ 0 then
      chc 0 0 50 50 50 <|
      nm (va_cpy w_34 v_steps (0 : Int32).toNatClampNeg (0 : Int32).toNatClampNeg (50 : Int32).toNatClampNeg) fun w_42 =>
      nm (v_round + 1 : Int32) fun t_43 =>
      some ((-1), w_32, t_43, w_32, w_33, w_29, v_digits, v_wantsOperand, w_34, v_held, w_42)
    else
      some (a_2, v_length, v_round, w_32, w_33, w_29, v_digits, v_wantsOperand, w_34, v_held, v_steps)
  else
    some (a_2, v_length, v_round, w_32, w_33, w_29, v_digits, v_wantsOperand, w_34, v_held, v_steps)

def f_X3_read_L62 (kk_L27 : Int32 → Int32 → Int32 → Int32 → Int32 → Int32 → Int32 → Int32 → (Nat → Int32) → (Nat → Int32) → (Nat → Int32) → Option (Int32 × Int32 × Int32 × Int32 × Int32 × Int32 × Int32 × Int32 × (Nat → Int32) × (Nat → Int32) × (Nat → Int32))) (a_2 : Int32) (s_names : Nat) (v_p1 : Nat → Int32) (x3 : Int32) (y0 : Int32) (v_length : Int32) (v_round : Int32) (v_drafted : Int32) (v_holding : Int32) (v_open : Int32) (v_digits : Int32) (v_wantsOperand : Int32) (v_draft : Nat → Int32) (v_held : Nat → Int32) (v_steps : Nat → Int32) : Option (Int32 × Int32 × Int32 × Int32 × Int32 × Int32 × Int32 × Int32 × (Nat → Int32) × (Nat → Int32) × (Nat → Int32)) :=
  if y0 = 0 then
    some (x3, v_length, v_round, v_drafted, v_holding, v_open, v_digits, v_wantsOperand, v_draft, v_held, v_steps)
  else
    nm (x3 + 1 : Int32) fun t_45 =>
    kk_L27 t_45 v_length v_round v_drafted v_holding v_open v_digits v_wantsOperand v_draft v_held v_steps

def f_X3_read_L27 (a_2 : Int32) (s_names : Nat) (v_p1 : Nat → Int32) : Nat → Int32 → Int32 → Int32 → Int32 → Int32 → Int32 → Int32 → Int32 → (Nat → Int32) → (Nat → Int32) → (Nat → Int32) → Option (Int32 × Int32 × Int32 × Int32 × Int32 × Int32 × Int32 × Int32 × (Nat → Int32) × (Nat → Int32) × (Nat → Int32))
  | 0, _, _, _, _, _, _, _, _, _, _, _ => none
  | n + 1, x3, v_length, v_round, v_drafted, v_holding, v_open, v_digits, v_wantsOperand, v_draft, v_held, v_steps =>
    if a_2 ≤ x3 then
      f_X3_read_L77 a_2 v_length v_round v_drafted v_holding v_open v_digits v_wantsOperand v_draft v_held v_steps
    else
      if 50 ≤ x3 then
        f_X3_read_L77 a_2 v_length v_round v_drafted v_holding v_open v_digits v_wantsOperand v_draft v_held v_steps
      else
        if v_wantsOperand = 0 then
          chi x3 50 <|
          nm (v_p1 x3.toNatClampNeg : Int32) fun t_5 =>
          kb8 (f_X3_follows t_5 v_drafted v_holding v_open v_digits v_wantsOperand v_draft v_held) fun r_7 w_8 w_9 w_10 w_11 w_12 w_13 w_14 =>
          f_X3_read_L62 (f_X3_read_L27 a_2 s_names v_p1 n) a_2 s_names v_p1 x3 r_7 v_length v_round w_8 w_9 w_10 w_11 w_12 w_13 w_14 v_steps
        else
          chi x3 50 <|
          nm (v_p1 x3.toNatClampNeg : Int32) fun t_16 =>
          kb8 (f_X3_begins t_16 s_names v_drafted v_holding v_open v_digits v_wantsOperand v_draft v_held) fun r_18 w_19 w_20 w_21 w_22 w_23 w_24 w_25 =>
          f_X3_read_L62 (f_X3_read_L27 a_2 s_names v_p1 n) a_2 s_names v_p1 x3 r_18 v_length v_round w_19 w_20 w_21 w_22 w_23 w_24 w_25 v_steps

def f_X3_read (a_2 : Int32) (s_names : Nat) (v_length : Int32) (v_round : Int32) (v_drafted : Int32) (v_holding : Int32) (v_open : Int32) (v_digits : Int32) (v_wantsOperand : Int32) (v_draft : Nat → Int32) (v_held : Nat → Int32) (v_steps : Nat → Int32) (v_p1 : Nat → Int32) : Option (Int32 × Int32 × Int32 × Int32 × Int32 × Int32 × Int32 × Int32 × (Nat → Int32) × (Nat → Int32) × (Nat → Int32)) :=
  f_X3_read_L27 a_2 s_names v_p1 gFuel 0 v_length v_round 0 0 0 0 1 v_draft v_held v_steps

abbrev rm_X3_read : Room := { frames := 5, cells := 0, slots := 0, locals := 113 }
set_option maxHeartbeats 4000000 in
set_option maxRecDepth 100000 in
theorem c_X3_read (l : Launch) (D : va_G) (c : Nat → ClassId) (q_this q_p1 q_steps q_stack q_answers q_draft q_held : Nat) (s_names : Nat) (a_2 : Int32) (v_length : Int32) (v_side : Int32) (v_round : Int32) (v_drafted : Int32) (v_holding : Int32) (v_open : Int32) (v_digits : Int32) (v_wantsOperand : Int32) (v_draft : Nat → Int32) (v_held : Nat → Int32) (v_steps : Nat → Int32) (v_p1 : Nat → Int32) (o_r : Int32) (o_v_length : Int32) (o_v_round : Int32) (o_v_drafted : Int32) (o_v_holding : Int32) (o_v_open : Int32) (o_v_digits : Int32) (o_v_wantsOperand : Int32) (o_v_draft : Nat → Int32) (o_v_held : Nat → Int32) (o_v_steps : Nat → Int32) (h : f_X3_read a_2 s_names v_length v_round v_drafted v_holding v_open v_digits v_wantsOperand v_draft v_held v_steps v_p1 = some (o_r, o_v_length, o_v_round, o_v_drafted, o_v_holding, o_v_open, o_v_digits, o_v_wantsOperand, o_v_draft, o_v_held, o_v_steps)) : gMI l yX3_read wsX3_read rm_X3_read D c [.ref q_this, .ref q_p1, .int a_2] [(q_this, .inr (3, [.ref (c (10 + s_names)), .ref q_steps, .int v_length, .ref q_stack, .ref q_answers, .int v_side, .int v_round, .ref q_draft, .int v_drafted, .ref q_held, .int v_holding, .int v_open, .int v_digits, .int v_wantsOperand])), (q_draft, .inl (c 0, 50, .inl v_draft)), (q_held, .inl (c 0, 50, .inl v_held)), (q_steps, .inl (c 0, 50, .inl v_steps)), (q_p1, .inl (c 0, 50, .inl v_p1))] [(q_this, .inr (3, [.ref (c (10 + s_names)), .ref q_steps, .int o_v_length, .ref q_stack, .ref q_answers, .int v_side, .int o_v_round, .ref q_draft, .int o_v_drafted, .ref q_held, .int o_v_holding, .int o_v_open, .int o_v_digits, .int o_v_wantsOperand])), (q_draft, .inl (c 0, 50, .inl o_v_draft)), (q_held, .inl (c 0, 50, .inl o_v_held)), (q_steps, .inl (c 0, 50, .inl o_v_steps)), (q_p1, .inl (c 0, 50, .inl v_p1))] o_r := by
  refine gMI_of (cc := cX3_read) (maxL := 5) (rt := (some .int)) (by decide +kernel) rfl (Nat.le_of_ble_eq_true rfl) ?_
  intro p e s m below meth co A hF hK hX hP hD hA hS ls hl
  obtain ⟨hx, hb, hr, hts, hown, hlocks, hml⟩ := id hF
  have hl : lv_has ls 5 [(0, .ref q_this), (1, .ref q_p1), (2, .int a_2)] := hl
  have t_L77 : ∀ (v_length : Int32) (v_round : Int32) (v_drafted : Int32) (v_holding : Int32) (v_open : Int32) (v_digits : Int32) (v_wantsOperand : Int32) (v_draft : Nat → Int32) (v_held : Nat → Int32) (v_steps : Nat → Int32) (H : Heap) (locs : List Loc), va_P D gcl [(q_this, .inr (3, [.ref (c (10 + s_names)), .ref q_steps, .int v_length, .ref q_stack, .ref q_answers, .int v_side, .int v_round, .ref q_draft, .int v_drafted, .ref q_held, .int v_holding, .int v_open, .int v_digits, .int v_wantsOperand])), (q_draft, .inl (c 0, 50, .inl v_draft)), (q_held, .inl (c 0, 50, .inl v_held)), (q_steps, .inl (c 0, 50, .inl v_steps)), (q_p1, .inl (c 0, 50, .inl v_p1))] H → va_D A [(q_this, .inr (3, [.ref (c (10 + s_names)), .ref q_steps, .int v_length, .ref q_stack, .ref q_answers, .int v_side, .int v_round, .ref q_draft, .int v_drafted, .ref q_held, .int v_holding, .int v_open, .int v_digits, .int v_wantsOperand])), (q_draft, .inl (c 0, 50, .inl v_draft)), (q_held, .inl (c 0, 50, .inl v_held)), (q_steps, .inl (c 0, 50, .inl v_steps)), (q_p1, .inl (c 0, 50, .inl v_p1))] → va_S A s.heap H locs → ∀ ls, lv_has ls 5 [(0, .ref q_this), (2, .int a_2)] → f_X3_read_L77 a_2 v_length v_round v_drafted v_holding v_open v_digits v_wantsOperand v_draft v_held v_steps = some (o_r, o_v_length, o_v_round, o_v_drafted, o_v_holding, o_v_open, o_v_digits, o_v_wantsOperand, o_v_draft, o_v_held, o_v_steps) → W p l e (headSpec wsX3_read rm_X3_read).room s m [.ref q_this, .ref q_p1, .int a_2].toArray below meth co H locs 0 0 (gQI D [(q_this, .inr (3, [.ref (c (10 + s_names)), .ref q_steps, .int o_v_length, .ref q_stack, .ref q_answers, .int v_side, .int o_v_round, .ref q_draft, .int o_v_drafted, .ref q_held, .int o_v_holding, .int o_v_open, .int o_v_digits, .int o_v_wantsOperand])), (q_draft, .inl (c 0, 50, .inl o_v_draft)), (q_held, .inl (c 0, 50, .inl o_v_held)), (q_steps, .inl (c 0, 50, .inl o_v_steps)), (q_p1, .inl (c 0, 50, .inl v_p1))] o_r A below [.ref q_this, .ref q_p1, .int a_2] s) (F0 m 77 ls []) := by
    intro  v_length v_round v_drafted v_holding v_open v_digits v_wantsOperand v_draft v_held v_steps H locs hP hD hS ls hl h
    unfold f_X3_read_L77 at h
    refine lv_aload_n hx hb dX3_read_77 rfl (lv_at hl 0 rfl) ?_
    replace h := kb4_ok h
    obtain ⟨w_27, w_28, w_29, w_30, hc_26, h⟩ := h
    refine gCallV (isC := [0, 1, 2]) (wc := [(q_this, .inr (3, [.ref (c (10 + s_names)), .ref q_steps, .int v_length, .ref q_stack, .ref q_answers, .int v_side, .int v_round, .ref q_draft, .int v_drafted, .ref q_held, .int v_holding, .int v_open, .int v_digits, .int v_wantsOperand])), (q_draft, .inl (c 0, 50, .inl v_draft)), (q_held, .inl (c 0, 50, .inl v_held))]) (w1 := [(q_this, .inr (3, [.ref (c (10 + s_names)), .ref q_steps, .int v_length, .ref q_stack, .ref q_answers, .int v_side, .int v_round, .ref q_draft, .int w_27, .ref q_held, .int w_28, .int w_29, .int v_digits, .int v_wantsOperand])), (q_draft, .inl (c 0, 50, .inl w_30)), (q_held, .inl (c 0, 50, .inl v_held))]) (ws2 := [(q_this, .inr (3, [.ref (c (10 + s_names)), .ref q_steps, .int v_length, .ref q_stack, .ref q_answers, .int v_side, .int v_round, .ref q_draft, .int w_27, .ref q_held, .int w_28, .int w_29, .int v_digits, .int v_wantsOperand])), (q_draft, .inl (c 0, 50, .inl w_30)), (q_held, .inl (c 0, 50, .inl v_held)), (q_steps, .inl (c 0, 50, .inl v_steps)), (q_p1, .inl (c 0, 50, .inl v_p1))]) (ms := [(some 0), (some 1), (some 2), none, none]) hP hD hS hA ⟨rfl, rfl, rfl, trivial⟩ (by decide +kernel) ⟨rfl, rfl, rfl, rfl, rfl, trivial⟩ (va_runV (rm := rm_X3_closeNots) (ws := wsX3_closeNots) (As := []) (rest := []) (gFix hF) (c_X3_closeNots l D c q_this q_steps q_stack q_answers q_draft q_held s_names v_length v_side v_round v_drafted v_holding v_open v_digits v_wantsOperand v_draft v_held w_27 w_28 w_29 w_30 hc_26 H.size) (cwV 0 hts gX3_read_X3_closeNots rfl rfl rfl (by decide +kernel) ⟨Nat.le_of_ble_eq_true rfl, Nat.le_of_ble_eq_true rfl⟩) (gPreV (wc := [(q_this, .inr (3, [.ref (c (10 + s_names)), .ref q_steps, .int v_length, .ref q_stack, .ref q_answers, .int v_side, .int v_round, .ref q_draft, .int v_drafted, .ref q_held, .int v_holding, .int v_open, .int v_digits, .int v_wantsOperand])), (q_draft, .inl (c 0, 50, .inl v_draft)), (q_held, .inl (c 0, 50, .inl v_held))]) (q := (RX3, TX3, 14)) (ci := 3) (q0 := 0) (isC := [0, 1, 2]) hK hX hS hA hP hD ⟨rfl, rfl, rfl, trivial⟩ (by decide +kernel) rfl rfl) rfl rfl hl.1 rfl (lv_room (Nat.le_of_ble_eq_true rfl)) dX3_read_78 ⟨Nat.le_of_ble_eq_true rfl, Nat.le_of_ble_eq_true rfl⟩) (fun H locs hP hD hS => ?_)
    refine lv_aload_n hx hb dX3_read_81 rfl (lv_at hl 0 rfl) ?_
    refine lv_iconst (v := 1) hx hb dX3_read_82 (by decide) ?_
    replace h := kb3_ok h
    obtain ⟨w_32, w_33, w_34, hc_31, h⟩ := h
    refine gCallV (isC := [0, 1, 2]) (wc := [(q_this, .inr (3, [.ref (c (10 + s_names)), .ref q_steps, .int v_length, .ref q_stack, .ref q_answers, .int v_side, .int v_round, .ref q_draft, .int w_27, .ref q_held, .int w_28, .int w_29, .int v_digits, .int v_wantsOperand])), (q_draft, .inl (c 0, 50, .inl w_30)), (q_held, .inl (c 0, 50, .inl v_held))]) (w1 := [(q_this, .inr (3, [.ref (c (10 + s_names)), .ref q_steps, .int v_length, .ref q_stack, .ref q_answers, .int v_side, .int v_round, .ref q_draft, .int w_32, .ref q_held, .int w_33, .int w_29, .int v_digits, .int v_wantsOperand])), (q_draft, .inl (c 0, 50, .inl w_34)), (q_held, .inl (c 0, 50, .inl v_held))]) (ws2 := [(q_this, .inr (3, [.ref (c (10 + s_names)), .ref q_steps, .int v_length, .ref q_stack, .ref q_answers, .int v_side, .int v_round, .ref q_draft, .int w_32, .ref q_held, .int w_33, .int w_29, .int v_digits, .int v_wantsOperand])), (q_draft, .inl (c 0, 50, .inl w_34)), (q_held, .inl (c 0, 50, .inl v_held)), (q_steps, .inl (c 0, 50, .inl v_steps)), (q_p1, .inl (c 0, 50, .inl v_p1))]) (ms := [(some 0), (some 1), (some 2), none, none]) hP hD hS hA ⟨rfl, rfl, rfl, trivial⟩ (by decide +kernel) ⟨rfl, rfl, rfl, rfl, rfl, trivial⟩ (va_runV (rm := rm_X3_closeFrom) (ws := wsX3_closeFrom) (As := [.int 1]) (rest := []) (gFix hF) (c_X3_closeFrom l D c q_this q_steps q_stack q_answers q_draft q_held s_names 1 v_length v_side v_round w_27 w_28 w_29 v_digits v_wantsOperand w_30 v_held w_32 w_33 w_34 hc_31 H.size) (cwV 1 hts gX3_read_X3_closeFrom rfl rfl rfl (by decide +kernel) ⟨Nat.le_of_ble_eq_true rfl, Nat.le_of_ble_eq_true rfl⟩) (gPreV (wc := [(q_this, .inr (3, [.ref (c (10 + s_names)), .ref q_steps, .int v_length, .ref q_stack, .ref q_answers, .int v_side, .int v_round, .ref q_draft, .int w_27, .ref q_held, .int w_28, .int w_29, .int v_digits, .int v_wantsOperand])), (q_draft, .inl (c 0, 50, .inl w_30)), (q_held, .inl (c 0, 50, .inl v_held))]) (q := (RX3, TX3, 14)) (ci := 3) (q0 := 0) (isC := [0, 1, 2]) hK hX hS hA hP hD ⟨rfl, rfl, rfl, trivial⟩ (by decide +kernel) rfl rfl) rfl rfl hl.1 rfl (lv_room (Nat.le_of_ble_eq_true rfl)) dX3_read_83 ⟨Nat.le_of_ble_eq_true rfl, Nat.le_of_ble_eq_true rfl⟩) (fun H locs hP hD hS => ?_)
    refine lv_aload_n hx hb dX3_read_86 rfl (lv_at hl 0 rfl) ?_
    refine va_get (D := D) (ci := 3) (v := .int v_wantsOperand) (C := RX3) (T := TX3) (N := 14) hx hb hts in_X3_read_X3 hown hK.1 hP 0 rfl rfl 13 (by decide) (hts (.fieldLink RX3 90 "PaperBubbles$Law" "wantsOperand" "Z") (List.mem_of_getElem? (i := 5) rfl)) (fun _ h9 => h9) rfl dX3_read_87 ?_
    refine lv_if_ne (tgt := 100) hx hb dX3_read_90 (by decide) (fun c_35 => ?_) (fun c_35 => ?_)
    · replace h := it_f c_35 h
      refine lv_iload_n hx hb dX3_read_100 rfl (lv_at hl 1 rfl) ?_
      replace h := so11 h
      obtain ⟨z0, z1, z2, z3, z4, z5, z6, z7, z8, z9, z10⟩ := h
      subst z0 z1 z2 z3 z4 z5 z6 z7 z8 z9 z10
      exact gIret hF hP hD hS rfl dX3_read_101
    · replace h := it_t c_35 h
      refine lv_aload_n hx hb dX3_read_93 rfl (lv_at hl 0 rfl) ?_
      refine va_get (D := D) (ci := 3) (v := .int w_33) (C := RX3) (T := TX3) (N := 14) hx hb hts in_X3_read_X3 hown hK.1 hP 0 rfl rfl 10 (by decide) (hts (.fieldLink RX3 81 "PaperBubbles$Law" "holding" "I") (List.mem_of_getElem? (i := 2) rfl)) (fun _ h9 => h9) rfl dX3_read_94 ?_
      refine lv_if_le (tgt := 102) hx hb dX3_read_97 (by decide) (fun c_36 => ?_) (fun c_36 => ?_)
      · replace h := it_t c_36 h
        refine lv_aload_n hx hb dX3_read_102 rfl (lv_at hl 0 rfl) ?_
        refine lv_aload_n hx hb dX3_read_103 rfl (lv_at hl 0 rfl) ?_
        refine va_get (D := D) (ci := 3) (v := .int w_32) (C := RX3) (T := TX3) (N := 14) hx hb hts in_X3_read_X3 hown hK.1 hP 0 rfl rfl 8 (by decide) (hts (.fieldLink RX3 78 "PaperBubbles$Law" "drafted" "I") (List.mem_of_getElem? (i := 1) rfl)) (fun _ h9 => h9) rfl dX3_read_104 ?_
        refine va_put (D := D) (ci := 3) (v := .int w_32) (ty := .int) (C := RX3) (T := TX3) (N := 14) hx hb hts in_X3_read_X3 tyX3 tyX3_ok nmX3 hown hK.1 hP hD hS 0 rfl rfl 2 (by decide) (hts (.fieldLink RX3 36 "PaperBubbles$Law" "length" "I") (List.mem_of_getElem? (i := 6) rfl)) (fun _ h9 => h9) rfl (by decide +kernel) rfl rfl (Nat.le_of_ble_eq_true rfl) dX3_read_107 (fun H locs hP hD hS => ?_)
        have hP : va_P D gcl [(q_this, .inr (3, [.ref (c (10 + s_names)), .ref q_steps, .int w_32, .ref q_stack, .ref q_answers, .int v_side, .int v_round, .ref q_draft, .int w_32, .ref q_held, .int w_33, .int w_29, .int v_digits, .int v_wantsOperand])), (q_draft, .inl (c 0, 50, .inl w_34)), (q_held, .inl (c 0, 50, .inl v_held)), (q_steps, .inl (c 0, 50, .inl v_steps)), (q_p1, .inl (c 0, 50, .inl v_p1))] H := hP
        have hD : va_D A [(q_this, .inr (3, [.ref (c (10 + s_names)), .ref q_steps, .int w_32, .ref q_stack, .ref q_answers, .int v_side, .int v_round, .ref q_draft, .int w_32, .ref q_held, .int w_33, .int w_29, .int v_digits, .int v_wantsOperand])), (q_draft, .inl (c 0, 50, .inl w_34)), (q_held, .inl (c 0, 50, .inl v_held)), (q_steps, .inl (c 0, 50, .inl v_steps)), (q_p1, .inl (c 0, 50, .inl v_p1))] := hD
        refine lv_aload_n hx hb dX3_read_110 rfl (lv_at hl 0 rfl) ?_
        refine va_get (D := D) (ci := 3) (v := .ref q_draft) (C := RX3) (T := TX3) (N := 14) hx hb hts in_X3_read_X3 hown hK.1 hP 0 rfl rfl 7 (by decide) (hts (.fieldLink RX3 22 "PaperBubbles$Law" "draft" "[I") (List.mem_of_getElem? (i := 7) rfl)) (fun _ h9 => h9) rfl dX3_read_111 ?_
        refine lv_iconst (v := 0) hx hb dX3_read_114 (by decide) ?_
        refine lv_aload_n hx hb dX3_read_115 rfl (lv_at hl 0 rfl) ?_
        refine va_get (D := D) (ci := 3) (v := .ref q_steps) (C := RX3) (T := TX3) (N := 14) hx hb hts in_X3_read_X3 hown hK.1 hP 0 rfl rfl 1 (by decide) (hts (.fieldLink RX3 9 "PaperBubbles$Law" "steps" "[I") (List.mem_of_getElem? (i := 8) rfl)) (fun _ h9 => h9) rfl dX3_read_116 ?_
        refine lv_iconst (v := 0) hx hb dX3_read_119 (by decide) ?_
        refine lv_bipush (v := 50) hx hb dX3_read_120 (by decide) ?_
        replace h := chc_ok h
        obtain ⟨hz_37, hz_38, hz_39, hz_40, hz_41, h⟩ := h
        replace h := nm_ok h
        obtain ⟨w_42, ew_42, h⟩ := h
        refine va_copyi hx hb (by rw [hml]; exact hl.1.symm) hown (hts (.methodLink RX3 45 arraycopyName) (List.mem_of_getElem? (i := 9) rfl)) (hts (.native arraycopyName) (List.mem_of_getElem? (i := 10) rfl)) (hts (.static arraycopyName) (List.mem_of_getElem? (i := 11) rfl)) (hts (.initialized "java/lang/System") (List.mem_of_getElem? (i := 12) rfl)) hK.1 hP hD hS 1 3 0 0 rfl rfl rfl rfl rfl hz_37 hz_38 hz_39 hz_40 hz_41 (fun _ _ => rfl) (Nat.le_of_ble_eq_true rfl) (by decide +kernel) dX3_read_122 (fun H locs hP hD hS => ?_)
        have hP : va_P D gcl [(q_this, .inr (3, [.ref (c (10 + s_names)), .ref q_steps, .int w_32, .ref q_stack, .ref q_answers, .int v_side, .int v_round, .ref q_draft, .int w_32, .ref q_held, .int w_33, .int w_29, .int v_digits, .int v_wantsOperand])), (q_draft, .inl (c 0, 50, .inl w_34)), (q_held, .inl (c 0, 50, .inl v_held)), (q_steps, .inl (c 0, 50, .inl w_42)), (q_p1, .inl (c 0, 50, .inl v_p1))] H := by subst ew_42; exact hP
        have hD : va_D A [(q_this, .inr (3, [.ref (c (10 + s_names)), .ref q_steps, .int w_32, .ref q_stack, .ref q_answers, .int v_side, .int v_round, .ref q_draft, .int w_32, .ref q_held, .int w_33, .int w_29, .int v_digits, .int v_wantsOperand])), (q_draft, .inl (c 0, 50, .inl w_34)), (q_held, .inl (c 0, 50, .inl v_held)), (q_steps, .inl (c 0, 50, .inl w_42)), (q_p1, .inl (c 0, 50, .inl v_p1))] := by subst ew_42; exact hD
        refine lv_aload_n hx hb dX3_read_125 rfl (lv_at hl 0 rfl) ?_
        refine lv_dup hx hb dX3_read_126 rfl ?_
        refine va_get (D := D) (ci := 3) (v := .int v_round) (C := RX3) (T := TX3) (N := 14) hx hb hts in_X3_read_X3 hown hK.1 hP 0 rfl rfl 6 (by decide) (hts (.fieldLink RX3 18 "PaperBubbles$Law" "round" "I") (List.mem_of_getElem? (i := 13) rfl)) (fun _ h9 => h9) rfl dX3_read_127 ?_
        refine lv_iconst (v := 1) hx hb dX3_read_130 (by decide) ?_
        refine lv_iadd hx hb dX3_read_131 ?_
        replace h := nm_ok h
        obtain ⟨t_43, et_43, h⟩ := h
        refine gTop et_43 ?_
        refine va_put (D := D) (ci := 3) (v := .int t_43) (ty := .int) (C := RX3) (T := TX3) (N := 14) hx hb hts in_X3_read_X3 tyX3 tyX3_ok nmX3 hown hK.1 hP hD hS 0 rfl rfl 6 (by decide) (hts (.fieldLink RX3 18 "PaperBubbles$Law" "round" "I") (List.mem_of_getElem? (i := 13) rfl)) (fun _ h9 => h9) rfl (by decide +kernel) rfl rfl (Nat.le_of_ble_eq_true rfl) dX3_read_132 (fun H locs hP hD hS => ?_)
        have hP : va_P D gcl [(q_this, .inr (3, [.ref (c (10 + s_names)), .ref q_steps, .int w_32, .ref q_stack, .ref q_answers, .int v_side, .int t_43, .ref q_draft, .int w_32, .ref q_held, .int w_33, .int w_29, .int v_digits, .int v_wantsOperand])), (q_draft, .inl (c 0, 50, .inl w_34)), (q_held, .inl (c 0, 50, .inl v_held)), (q_steps, .inl (c 0, 50, .inl w_42)), (q_p1, .inl (c 0, 50, .inl v_p1))] H := hP
        have hD : va_D A [(q_this, .inr (3, [.ref (c (10 + s_names)), .ref q_steps, .int w_32, .ref q_stack, .ref q_answers, .int v_side, .int t_43, .ref q_draft, .int w_32, .ref q_held, .int w_33, .int w_29, .int v_digits, .int v_wantsOperand])), (q_draft, .inl (c 0, 50, .inl w_34)), (q_held, .inl (c 0, 50, .inl v_held)), (q_steps, .inl (c 0, 50, .inl w_42)), (q_p1, .inl (c 0, 50, .inl v_p1))] := hD
        refine lv_iconst (v := (-1)) hx hb dX3_read_135 (by decide) ?_
        replace h := so11 h
        obtain ⟨z0, z1, z2, z3, z4, z5, z6, z7, z8, z9, z10⟩ := h
        subst z0 z1 z2 z3 z4 z5 z6 z7 z8 z9 z10
        exact gIret hF hP hD hS rfl dX3_read_136
      · replace h := it_f c_36 h
        refine lv_iload_n hx hb dX3_read_100 rfl (lv_at hl 1 rfl) ?_
        replace h := so11 h
        obtain ⟨z0, z1, z2, z3, z4, z5, z6, z7, z8, z9, z10⟩ := h
        subst z0 z1 z2 z3 z4 z5 z6 z7 z8 z9 z10
        exact gIret hF hP hD hS rfl dX3_read_101
  have t_L62 : ∀ (kk_L27 : Int32 → Int32 → Int32 → Int32 → Int32 → Int32 → Int32 → Int32 → (Nat → Int32) → (Nat → Int32) → (Nat → Int32) → Option (Int32 × Int32 × Int32 × Int32 × Int32 × Int32 × Int32 × Int32 × (Nat → Int32) × (Nat → Int32) × (Nat → Int32))), (∀ (x3 : Int32) (v_length : Int32) (v_round : Int32) (v_drafted : Int32) (v_holding : Int32) (v_open : Int32) (v_digits : Int32) (v_wantsOperand : Int32) (v_draft : Nat → Int32) (v_held : Nat → Int32) (v_steps : Nat → Int32) (H : Heap) (locs : List Loc), va_P D gcl [(q_this, .inr (3, [.ref (c (10 + s_names)), .ref q_steps, .int v_length, .ref q_stack, .ref q_answers, .int v_side, .int v_round, .ref q_draft, .int v_drafted, .ref q_held, .int v_holding, .int v_open, .int v_digits, .int v_wantsOperand])), (q_draft, .inl (c 0, 50, .inl v_draft)), (q_held, .inl (c 0, 50, .inl v_held)), (q_steps, .inl (c 0, 50, .inl v_steps)), (q_p1, .inl (c 0, 50, .inl v_p1))] H → va_D A [(q_this, .inr (3, [.ref (c (10 + s_names)), .ref q_steps, .int v_length, .ref q_stack, .ref q_answers, .int v_side, .int v_round, .ref q_draft, .int v_drafted, .ref q_held, .int v_holding, .int v_open, .int v_digits, .int v_wantsOperand])), (q_draft, .inl (c 0, 50, .inl v_draft)), (q_held, .inl (c 0, 50, .inl v_held)), (q_steps, .inl (c 0, 50, .inl v_steps)), (q_p1, .inl (c 0, 50, .inl v_p1))] → va_S A s.heap H locs → ∀ ls, lv_has ls 5 [(0, .ref q_this), (1, .ref q_p1), (2, .int a_2), (3, .int x3)] → kk_L27 x3 v_length v_round v_drafted v_holding v_open v_digits v_wantsOperand v_draft v_held v_steps = some (o_r, o_v_length, o_v_round, o_v_drafted, o_v_holding, o_v_open, o_v_digits, o_v_wantsOperand, o_v_draft, o_v_held, o_v_steps) → W p l e (headSpec wsX3_read rm_X3_read).room s m [.ref q_this, .ref q_p1, .int a_2].toArray below meth co H locs 0 0 (gQI D [(q_this, .inr (3, [.ref (c (10 + s_names)), .ref q_steps, .int o_v_length, .ref q_stack, .ref q_answers, .int v_side, .int o_v_round, .ref q_draft, .int o_v_drafted, .ref q_held, .int o_v_holding, .int o_v_open, .int o_v_digits, .int o_v_wantsOperand])), (q_draft, .inl (c 0, 50, .inl o_v_draft)), (q_held, .inl (c 0, 50, .inl o_v_held)), (q_steps, .inl (c 0, 50, .inl o_v_steps)), (q_p1, .inl (c 0, 50, .inl v_p1))] o_r A below [.ref q_this, .ref q_p1, .int a_2] s) (F0 m 27 ls [])) → ∀ (x3 : Int32) (y0 : Int32) (v_length : Int32) (v_round : Int32) (v_drafted : Int32) (v_holding : Int32) (v_open : Int32) (v_digits : Int32) (v_wantsOperand : Int32) (v_draft : Nat → Int32) (v_held : Nat → Int32) (v_steps : Nat → Int32) (H : Heap) (locs : List Loc), va_P D gcl [(q_this, .inr (3, [.ref (c (10 + s_names)), .ref q_steps, .int v_length, .ref q_stack, .ref q_answers, .int v_side, .int v_round, .ref q_draft, .int v_drafted, .ref q_held, .int v_holding, .int v_open, .int v_digits, .int v_wantsOperand])), (q_draft, .inl (c 0, 50, .inl v_draft)), (q_held, .inl (c 0, 50, .inl v_held)), (q_steps, .inl (c 0, 50, .inl v_steps)), (q_p1, .inl (c 0, 50, .inl v_p1))] H → va_D A [(q_this, .inr (3, [.ref (c (10 + s_names)), .ref q_steps, .int v_length, .ref q_stack, .ref q_answers, .int v_side, .int v_round, .ref q_draft, .int v_drafted, .ref q_held, .int v_holding, .int v_open, .int v_digits, .int v_wantsOperand])), (q_draft, .inl (c 0, 50, .inl v_draft)), (q_held, .inl (c 0, 50, .inl v_held)), (q_steps, .inl (c 0, 50, .inl v_steps)), (q_p1, .inl (c 0, 50, .inl v_p1))] → va_S A s.heap H locs → ∀ ls, lv_has ls 5 [(0, .ref q_this), (1, .ref q_p1), (2, .int a_2), (3, .int x3)] → f_X3_read_L62 kk_L27 a_2 s_names v_p1 x3 y0 v_length v_round v_drafted v_holding v_open v_digits v_wantsOperand v_draft v_held v_steps = some (o_r, o_v_length, o_v_round, o_v_drafted, o_v_holding, o_v_open, o_v_digits, o_v_wantsOperand, o_v_draft, o_v_held, o_v_steps) → W p l e (headSpec wsX3_read rm_X3_read).room s m [.ref q_this, .ref q_p1, .int a_2].toArray below meth co H locs 0 0 (gQI D [(q_this, .inr (3, [.ref (c (10 + s_names)), .ref q_steps, .int o_v_length, .ref q_stack, .ref q_answers, .int v_side, .int o_v_round, .ref q_draft, .int o_v_drafted, .ref q_held, .int o_v_holding, .int o_v_open, .int o_v_digits, .int o_v_wantsOperand])), (q_draft, .inl (c 0, 50, .inl o_v_draft)), (q_held, .inl (c 0, 50, .inl o_v_held)), (q_steps, .inl (c 0, 50, .inl o_v_steps)), (q_p1, .inl (c 0, 50, .inl v_p1))] o_r A below [.ref q_this, .ref q_p1, .int a_2] s) (F0 m 62 ls [.int y0]) := by
    intro kk_L27 hkk_L27 x3 y0 v_length v_round v_drafted v_holding v_open v_digits v_wantsOperand v_draft v_held v_steps H locs hP hD hS ls hl h
    unfold f_X3_read_L62 at h
    refine lv_istore (lv' := [(4, .int y0), (0, .ref q_this), (1, .ref q_p1), (2, .int a_2), (3, .int x3)]) hx hb dX3_read_62 hl (by decide) rfl (fun ls hl => ?_)
    refine lv_iload hx hb dX3_read_64 (lv_at hl 0 rfl) ?_
    refine lv_if_ne (tgt := 71) hx hb dX3_read_66 (by decide) (fun c_44 => ?_) (fun c_44 => ?_)
    · replace h := it_f c_44 h
      replace h := nm_ok h
      obtain ⟨t_45, et_45, h⟩ := h
      refine lv_iinc (v := t_45) (lv' := [(3, .int t_45), (4, .int y0), (0, .ref q_this), (1, .ref q_p1), (2, .int a_2)]) hx hb dX3_read_71 hl (k := 4) rfl (by rw [et_45]; rfl) (by decide) rfl (fun ls hl => ?_)
      refine lv_goto (tgt := 27) hx hb dX3_read_74 (by decide) ?_
      exact hkk_L27 t_45 v_length v_round v_drafted v_holding v_open v_digits v_wantsOperand v_draft v_held v_steps H locs hP hD hS ls (lv_sub hl [2, 3, 4, 0] rfl) h
    · replace h := it_t c_44 h
      refine lv_iload_n hx hb dX3_read_69 rfl (lv_at hl 4 rfl) ?_
      replace h := so11 h
      obtain ⟨z0, z1, z2, z3, z4, z5, z6, z7, z8, z9, z10⟩ := h
      subst z0 z1 z2 z3 z4 z5 z6 z7 z8 z9 z10
      exact gIret hF hP hD hS rfl dX3_read_70
  have t_L27 : ∀ (n : Nat), ∀ (x3 : Int32) (v_length : Int32) (v_round : Int32) (v_drafted : Int32) (v_holding : Int32) (v_open : Int32) (v_digits : Int32) (v_wantsOperand : Int32) (v_draft : Nat → Int32) (v_held : Nat → Int32) (v_steps : Nat → Int32) (H : Heap) (locs : List Loc), va_P D gcl [(q_this, .inr (3, [.ref (c (10 + s_names)), .ref q_steps, .int v_length, .ref q_stack, .ref q_answers, .int v_side, .int v_round, .ref q_draft, .int v_drafted, .ref q_held, .int v_holding, .int v_open, .int v_digits, .int v_wantsOperand])), (q_draft, .inl (c 0, 50, .inl v_draft)), (q_held, .inl (c 0, 50, .inl v_held)), (q_steps, .inl (c 0, 50, .inl v_steps)), (q_p1, .inl (c 0, 50, .inl v_p1))] H → va_D A [(q_this, .inr (3, [.ref (c (10 + s_names)), .ref q_steps, .int v_length, .ref q_stack, .ref q_answers, .int v_side, .int v_round, .ref q_draft, .int v_drafted, .ref q_held, .int v_holding, .int v_open, .int v_digits, .int v_wantsOperand])), (q_draft, .inl (c 0, 50, .inl v_draft)), (q_held, .inl (c 0, 50, .inl v_held)), (q_steps, .inl (c 0, 50, .inl v_steps)), (q_p1, .inl (c 0, 50, .inl v_p1))] → va_S A s.heap H locs → ∀ ls, lv_has ls 5 [(0, .ref q_this), (1, .ref q_p1), (2, .int a_2), (3, .int x3)] → f_X3_read_L27 a_2 s_names v_p1 n x3 v_length v_round v_drafted v_holding v_open v_digits v_wantsOperand v_draft v_held v_steps = some (o_r, o_v_length, o_v_round, o_v_drafted, o_v_holding, o_v_open, o_v_digits, o_v_wantsOperand, o_v_draft, o_v_held, o_v_steps) → W p l e (headSpec wsX3_read rm_X3_read).room s m [.ref q_this, .ref q_p1, .int a_2].toArray below meth co H locs 0 0 (gQI D [(q_this, .inr (3, [.ref (c (10 + s_names)), .ref q_steps, .int o_v_length, .ref q_stack, .ref q_answers, .int v_side, .int o_v_round, .ref q_draft, .int o_v_drafted, .ref q_held, .int o_v_holding, .int o_v_open, .int o_v_digits, .int o_v_wantsOperand])), (q_draft, .inl (c 0, 50, .inl o_v_draft)), (q_held, .inl (c 0, 50, .inl o_v_held)), (q_steps, .inl (c 0, 50, .inl o_v_steps)), (q_p1, .inl (c 0, 50, .inl v_p1))] o_r A below [.ref q_this, .ref q_p1, .int a_2] s) (F0 m 27 ls []) := by
    intro n
    induction n with
    | zero => intro x3 v_length v_round v_drafted v_holding v_open v_digits v_wantsOperand v_draft v_held v_steps H locs hP hD hS ls hl h; exact no_ok h
    | succ n ih =>
      intro x3 v_length v_round v_drafted v_holding v_open v_digits v_wantsOperand v_draft v_held v_steps H locs hP hD hS ls hl h
      rw [f_X3_read_L27] at h
      refine lv_iload_n hx hb dX3_read_27 rfl (lv_at hl 3 rfl) ?_
      refine lv_iload_n hx hb dX3_read_28 rfl (lv_at hl 2 rfl) ?_
      refine lv_icmp_ge (tgt := 77) hx hb dX3_read_29 (by decide) (fun c_1 => ?_) (fun c_1 => ?_)
      · replace h := it_t c_1 h
        exact t_L77 v_length v_round v_drafted v_holding v_open v_digits v_wantsOperand v_draft v_held v_steps H locs hP hD hS ls (lv_sub hl [0, 2] rfl) h
      · replace h := it_f c_1 h
        refine lv_iload_n hx hb dX3_read_32 rfl (lv_at hl 3 rfl) ?_
        refine lv_aload_n hx hb dX3_read_33 rfl (lv_at hl 1 rfl) ?_
        refine va_alen (v := 50) hx hb hK.1 hP 4 0 rfl rfl rfl dX3_read_34 ?_
        refine lv_icmp_ge (tgt := 77) hx hb dX3_read_35 (by decide) (fun c_2 => ?_) (fun c_2 => ?_)
        · replace h := it_t c_2 h
          exact t_L77 v_length v_round v_drafted v_holding v_open v_digits v_wantsOperand v_draft v_held v_steps H locs hP hD hS ls (lv_sub hl [0, 2] rfl) h
        · replace h := it_f c_2 h
          refine lv_aload_n hx hb dX3_read_38 rfl (lv_at hl 0 rfl) ?_
          refine va_get (D := D) (ci := 3) (v := .int v_wantsOperand) (C := RX3) (T := TX3) (N := 14) hx hb hts in_X3_read_X3 hown hK.1 hP 0 rfl rfl 13 (by decide) (hts (.fieldLink RX3 90 "PaperBubbles$Law" "wantsOperand" "Z") (List.mem_of_getElem? (i := 5) rfl)) (fun _ h9 => h9) rfl dX3_read_39 ?_
          refine lv_if_eq (tgt := 55) hx hb dX3_read_42 (by decide) (fun c_3 => ?_) (fun c_3 => ?_)
          · replace h := it_t c_3 h
            refine lv_aload_n hx hb dX3_read_55 rfl (lv_at hl 0 rfl) ?_
            refine lv_aload_n hx hb dX3_read_56 rfl (lv_at hl 1 rfl) ?_
            refine lv_iload_n hx hb dX3_read_57 rfl (lv_at hl 3 rfl) ?_
            replace h := chi_ok h
            obtain ⟨hi_4, h⟩ := h
            refine va_iald hx hb hK.1 hP 4 0 rfl rfl hi_4 dX3_read_58 ?_
            replace h := nm_ok h
            obtain ⟨t_5, et_5, h⟩ := h
            refine gTop et_5 ?_
            replace h := kb8_ok h
            obtain ⟨r_7, w_8, w_9, w_10, w_11, w_12, w_13, w_14, hc_6, h⟩ := h
            refine gCallI (isC := [0, 1, 2]) (wc := [(q_this, .inr (3, [.ref (c (10 + s_names)), .ref q_steps, .int v_length, .ref q_stack, .ref q_answers, .int v_side, .int v_round, .ref q_draft, .int v_drafted, .ref q_held, .int v_holding, .int v_open, .int v_digits, .int v_wantsOperand])), (q_draft, .inl (c 0, 50, .inl v_draft)), (q_held, .inl (c 0, 50, .inl v_held))]) (w1 := [(q_this, .inr (3, [.ref (c (10 + s_names)), .ref q_steps, .int v_length, .ref q_stack, .ref q_answers, .int v_side, .int v_round, .ref q_draft, .int w_8, .ref q_held, .int w_9, .int w_10, .int w_11, .int w_12])), (q_draft, .inl (c 0, 50, .inl w_13)), (q_held, .inl (c 0, 50, .inl w_14))]) (ws2 := [(q_this, .inr (3, [.ref (c (10 + s_names)), .ref q_steps, .int v_length, .ref q_stack, .ref q_answers, .int v_side, .int v_round, .ref q_draft, .int w_8, .ref q_held, .int w_9, .int w_10, .int w_11, .int w_12])), (q_draft, .inl (c 0, 50, .inl w_13)), (q_held, .inl (c 0, 50, .inl w_14)), (q_steps, .inl (c 0, 50, .inl v_steps)), (q_p1, .inl (c 0, 50, .inl v_p1))]) (ms := [(some 0), (some 1), (some 2), none, none]) hP hD hS hA ⟨rfl, rfl, rfl, trivial⟩ (by decide +kernel) ⟨rfl, rfl, rfl, rfl, rfl, trivial⟩ (va_runV (rm := rm_X3_follows) (ws := wsX3_follows) (As := [.int t_5]) (rest := []) (gFix hF) (c_X3_follows l D c q_this q_steps q_stack q_answers q_draft q_held s_names t_5 v_length v_side v_round v_drafted v_holding v_open v_digits v_wantsOperand v_draft v_held r_7 w_8 w_9 w_10 w_11 w_12 w_13 w_14 hc_6 H.size) (cwV 1 hts gX3_read_X3_follows rfl rfl rfl (by decide +kernel) ⟨Nat.le_of_ble_eq_true rfl, Nat.le_of_ble_eq_true rfl⟩) (gPreV (wc := [(q_this, .inr (3, [.ref (c (10 + s_names)), .ref q_steps, .int v_length, .ref q_stack, .ref q_answers, .int v_side, .int v_round, .ref q_draft, .int v_drafted, .ref q_held, .int v_holding, .int v_open, .int v_digits, .int v_wantsOperand])), (q_draft, .inl (c 0, 50, .inl v_draft)), (q_held, .inl (c 0, 50, .inl v_held))]) (q := (RX3, TX3, 14)) (ci := 3) (q0 := 0) (isC := [0, 1, 2]) hK hX hS hA hP hD ⟨rfl, rfl, rfl, trivial⟩ (by decide +kernel) rfl rfl) rfl rfl hl.1 rfl (lv_room (Nat.le_of_ble_eq_true rfl)) dX3_read_59 ⟨Nat.le_of_ble_eq_true rfl, Nat.le_of_ble_eq_true rfl⟩) (fun H locs hP hD hS => ?_)
            exact t_L62 _ ih x3 r_7 v_length v_round w_8 w_9 w_10 w_11 w_12 w_13 w_14 v_steps H locs hP hD hS ls (lv_sub hl [0, 1, 2, 3] rfl) h
          · replace h := it_f c_3 h
            refine lv_aload_n hx hb dX3_read_45 rfl (lv_at hl 0 rfl) ?_
            refine lv_aload_n hx hb dX3_read_46 rfl (lv_at hl 1 rfl) ?_
            refine lv_iload_n hx hb dX3_read_47 rfl (lv_at hl 3 rfl) ?_
            replace h := chi_ok h
            obtain ⟨hi_15, h⟩ := h
            refine va_iald hx hb hK.1 hP 4 0 rfl rfl hi_15 dX3_read_48 ?_
            replace h := nm_ok h
            obtain ⟨t_16, et_16, h⟩ := h
            refine gTop et_16 ?_
            replace h := kb8_ok h
            obtain ⟨r_18, w_19, w_20, w_21, w_22, w_23, w_24, w_25, hc_17, h⟩ := h
            refine gCallI (isC := [0, 1, 2]) (wc := [(q_this, .inr (3, [.ref (c (10 + s_names)), .ref q_steps, .int v_length, .ref q_stack, .ref q_answers, .int v_side, .int v_round, .ref q_draft, .int v_drafted, .ref q_held, .int v_holding, .int v_open, .int v_digits, .int v_wantsOperand])), (q_draft, .inl (c 0, 50, .inl v_draft)), (q_held, .inl (c 0, 50, .inl v_held))]) (w1 := [(q_this, .inr (3, [.ref (c (10 + s_names)), .ref q_steps, .int v_length, .ref q_stack, .ref q_answers, .int v_side, .int v_round, .ref q_draft, .int w_19, .ref q_held, .int w_20, .int w_21, .int w_22, .int w_23])), (q_draft, .inl (c 0, 50, .inl w_24)), (q_held, .inl (c 0, 50, .inl w_25))]) (ws2 := [(q_this, .inr (3, [.ref (c (10 + s_names)), .ref q_steps, .int v_length, .ref q_stack, .ref q_answers, .int v_side, .int v_round, .ref q_draft, .int w_19, .ref q_held, .int w_20, .int w_21, .int w_22, .int w_23])), (q_draft, .inl (c 0, 50, .inl w_24)), (q_held, .inl (c 0, 50, .inl w_25)), (q_steps, .inl (c 0, 50, .inl v_steps)), (q_p1, .inl (c 0, 50, .inl v_p1))]) (ms := [(some 0), (some 1), (some 2), none, none]) hP hD hS hA ⟨rfl, rfl, rfl, trivial⟩ (by decide +kernel) ⟨rfl, rfl, rfl, rfl, rfl, trivial⟩ (va_runV (rm := rm_X3_begins) (ws := wsX3_begins) (As := [.int t_16]) (rest := []) (gFix hF) (c_X3_begins l D c q_this q_steps q_stack q_answers q_draft q_held s_names t_16 v_length v_side v_round v_drafted v_holding v_open v_digits v_wantsOperand v_draft v_held r_18 w_19 w_20 w_21 w_22 w_23 w_24 w_25 hc_17 H.size) (cwV 1 hts gX3_read_X3_begins rfl rfl rfl (by decide +kernel) ⟨Nat.le_of_ble_eq_true rfl, Nat.le_of_ble_eq_true rfl⟩) (gPreV (wc := [(q_this, .inr (3, [.ref (c (10 + s_names)), .ref q_steps, .int v_length, .ref q_stack, .ref q_answers, .int v_side, .int v_round, .ref q_draft, .int v_drafted, .ref q_held, .int v_holding, .int v_open, .int v_digits, .int v_wantsOperand])), (q_draft, .inl (c 0, 50, .inl v_draft)), (q_held, .inl (c 0, 50, .inl v_held))]) (q := (RX3, TX3, 14)) (ci := 3) (q0 := 0) (isC := [0, 1, 2]) hK hX hS hA hP hD ⟨rfl, rfl, rfl, trivial⟩ (by decide +kernel) rfl rfl) rfl rfl hl.1 rfl (lv_room (Nat.le_of_ble_eq_true rfl)) dX3_read_49 ⟨Nat.le_of_ble_eq_true rfl, Nat.le_of_ble_eq_true rfl⟩) (fun H locs hP hD hS => ?_)
            refine lv_goto (tgt := 62) hx hb dX3_read_52 (by decide) ?_
            exact t_L62 _ ih x3 r_18 v_length v_round w_19 w_20 w_21 w_22 w_23 w_24 w_25 v_steps H locs hP hD hS ls (lv_sub hl [0, 1, 2, 3] rfl) h
  unfold f_X3_read at h
  refine lv_aload_n hx hb dX3_read_0 rfl (lv_at hl 0 rfl) ?_
  refine lv_iconst (v := 0) hx hb dX3_read_1 (by decide) ?_
  refine va_put (D := D) (ci := 3) (v := .int 0) (ty := .int) (C := RX3) (T := TX3) (N := 14) hx hb hts in_X3_read_X3 tyX3 tyX3_ok nmX3 hown hK.1 hP hD hS 0 rfl rfl 8 (by decide) (hts (.fieldLink RX3 78 "PaperBubbles$Law" "drafted" "I") (List.mem_of_getElem? (i := 1) rfl)) (fun _ h9 => h9) rfl (by decide +kernel) rfl rfl (Nat.le_of_ble_eq_true rfl) dX3_read_2 (fun H locs hP hD hS => ?_)
  have hP : va_P D gcl [(q_this, .inr (3, [.ref (c (10 + s_names)), .ref q_steps, .int v_length, .ref q_stack, .ref q_answers, .int v_side, .int v_round, .ref q_draft, .int 0, .ref q_held, .int v_holding, .int v_open, .int v_digits, .int v_wantsOperand])), (q_draft, .inl (c 0, 50, .inl v_draft)), (q_held, .inl (c 0, 50, .inl v_held)), (q_steps, .inl (c 0, 50, .inl v_steps)), (q_p1, .inl (c 0, 50, .inl v_p1))] H := hP
  have hD : va_D A [(q_this, .inr (3, [.ref (c (10 + s_names)), .ref q_steps, .int v_length, .ref q_stack, .ref q_answers, .int v_side, .int v_round, .ref q_draft, .int 0, .ref q_held, .int v_holding, .int v_open, .int v_digits, .int v_wantsOperand])), (q_draft, .inl (c 0, 50, .inl v_draft)), (q_held, .inl (c 0, 50, .inl v_held)), (q_steps, .inl (c 0, 50, .inl v_steps)), (q_p1, .inl (c 0, 50, .inl v_p1))] := hD
  refine lv_aload_n hx hb dX3_read_5 rfl (lv_at hl 0 rfl) ?_
  refine lv_iconst (v := 0) hx hb dX3_read_6 (by decide) ?_
  refine va_put (D := D) (ci := 3) (v := .int 0) (ty := .int) (C := RX3) (T := TX3) (N := 14) hx hb hts in_X3_read_X3 tyX3 tyX3_ok nmX3 hown hK.1 hP hD hS 0 rfl rfl 10 (by decide) (hts (.fieldLink RX3 81 "PaperBubbles$Law" "holding" "I") (List.mem_of_getElem? (i := 2) rfl)) (fun _ h9 => h9) rfl (by decide +kernel) rfl rfl (Nat.le_of_ble_eq_true rfl) dX3_read_7 (fun H locs hP hD hS => ?_)
  have hP : va_P D gcl [(q_this, .inr (3, [.ref (c (10 + s_names)), .ref q_steps, .int v_length, .ref q_stack, .ref q_answers, .int v_side, .int v_round, .ref q_draft, .int 0, .ref q_held, .int 0, .int v_open, .int v_digits, .int v_wantsOperand])), (q_draft, .inl (c 0, 50, .inl v_draft)), (q_held, .inl (c 0, 50, .inl v_held)), (q_steps, .inl (c 0, 50, .inl v_steps)), (q_p1, .inl (c 0, 50, .inl v_p1))] H := hP
  have hD : va_D A [(q_this, .inr (3, [.ref (c (10 + s_names)), .ref q_steps, .int v_length, .ref q_stack, .ref q_answers, .int v_side, .int v_round, .ref q_draft, .int 0, .ref q_held, .int 0, .int v_open, .int v_digits, .int v_wantsOperand])), (q_draft, .inl (c 0, 50, .inl v_draft)), (q_held, .inl (c 0, 50, .inl v_held)), (q_steps, .inl (c 0, 50, .inl v_steps)), (q_p1, .inl (c 0, 50, .inl v_p1))] := hD
  refine lv_aload_n hx hb dX3_read_10 rfl (lv_at hl 0 rfl) ?_
  refine lv_iconst (v := 0) hx hb dX3_read_11 (by decide) ?_
  refine va_put (D := D) (ci := 3) (v := .int 0) (ty := .int) (C := RX3) (T := TX3) (N := 14) hx hb hts in_X3_read_X3 tyX3 tyX3_ok nmX3 hown hK.1 hP hD hS 0 rfl rfl 11 (by decide) (hts (.fieldLink RX3 84 "PaperBubbles$Law" "open" "I") (List.mem_of_getElem? (i := 3) rfl)) (fun _ h9 => h9) rfl (by decide +kernel) rfl rfl (Nat.le_of_ble_eq_true rfl) dX3_read_12 (fun H locs hP hD hS => ?_)
  have hP : va_P D gcl [(q_this, .inr (3, [.ref (c (10 + s_names)), .ref q_steps, .int v_length, .ref q_stack, .ref q_answers, .int v_side, .int v_round, .ref q_draft, .int 0, .ref q_held, .int 0, .int 0, .int v_digits, .int v_wantsOperand])), (q_draft, .inl (c 0, 50, .inl v_draft)), (q_held, .inl (c 0, 50, .inl v_held)), (q_steps, .inl (c 0, 50, .inl v_steps)), (q_p1, .inl (c 0, 50, .inl v_p1))] H := hP
  have hD : va_D A [(q_this, .inr (3, [.ref (c (10 + s_names)), .ref q_steps, .int v_length, .ref q_stack, .ref q_answers, .int v_side, .int v_round, .ref q_draft, .int 0, .ref q_held, .int 0, .int 0, .int v_digits, .int v_wantsOperand])), (q_draft, .inl (c 0, 50, .inl v_draft)), (q_held, .inl (c 0, 50, .inl v_held)), (q_steps, .inl (c 0, 50, .inl v_steps)), (q_p1, .inl (c 0, 50, .inl v_p1))] := hD
  refine lv_aload_n hx hb dX3_read_15 rfl (lv_at hl 0 rfl) ?_
  refine lv_iconst (v := 0) hx hb dX3_read_16 (by decide) ?_
  refine va_put (D := D) (ci := 3) (v := .int 0) (ty := .int) (C := RX3) (T := TX3) (N := 14) hx hb hts in_X3_read_X3 tyX3 tyX3_ok nmX3 hown hK.1 hP hD hS 0 rfl rfl 12 (by decide) (hts (.fieldLink RX3 87 "PaperBubbles$Law" "digits" "I") (List.mem_of_getElem? (i := 4) rfl)) (fun _ h9 => h9) rfl (by decide +kernel) rfl rfl (Nat.le_of_ble_eq_true rfl) dX3_read_17 (fun H locs hP hD hS => ?_)
  have hP : va_P D gcl [(q_this, .inr (3, [.ref (c (10 + s_names)), .ref q_steps, .int v_length, .ref q_stack, .ref q_answers, .int v_side, .int v_round, .ref q_draft, .int 0, .ref q_held, .int 0, .int 0, .int 0, .int v_wantsOperand])), (q_draft, .inl (c 0, 50, .inl v_draft)), (q_held, .inl (c 0, 50, .inl v_held)), (q_steps, .inl (c 0, 50, .inl v_steps)), (q_p1, .inl (c 0, 50, .inl v_p1))] H := hP
  have hD : va_D A [(q_this, .inr (3, [.ref (c (10 + s_names)), .ref q_steps, .int v_length, .ref q_stack, .ref q_answers, .int v_side, .int v_round, .ref q_draft, .int 0, .ref q_held, .int 0, .int 0, .int 0, .int v_wantsOperand])), (q_draft, .inl (c 0, 50, .inl v_draft)), (q_held, .inl (c 0, 50, .inl v_held)), (q_steps, .inl (c 0, 50, .inl v_steps)), (q_p1, .inl (c 0, 50, .inl v_p1))] := hD
  refine lv_aload_n hx hb dX3_read_20 rfl (lv_at hl 0 rfl) ?_
  refine lv_iconst (v := 1) hx hb dX3_read_21 (by decide) ?_
  refine va_put (D := D) (ci := 3) (v := .int 1) (ty := .boolean) (C := RX3) (T := TX3) (N := 14) hx hb hts in_X3_read_X3 tyX3 tyX3_ok nmX3 hown hK.1 hP hD hS 0 rfl rfl 13 (by decide) (hts (.fieldLink RX3 90 "PaperBubbles$Law" "wantsOperand" "Z") (List.mem_of_getElem? (i := 5) rfl)) (fun _ h9 => h9) rfl (by decide +kernel) rfl rfl (Nat.le_of_ble_eq_true rfl) dX3_read_22 (fun H locs hP hD hS => ?_)
  have hP : va_P D gcl [(q_this, .inr (3, [.ref (c (10 + s_names)), .ref q_steps, .int v_length, .ref q_stack, .ref q_answers, .int v_side, .int v_round, .ref q_draft, .int 0, .ref q_held, .int 0, .int 0, .int 0, .int 1])), (q_draft, .inl (c 0, 50, .inl v_draft)), (q_held, .inl (c 0, 50, .inl v_held)), (q_steps, .inl (c 0, 50, .inl v_steps)), (q_p1, .inl (c 0, 50, .inl v_p1))] H := hP
  have hD : va_D A [(q_this, .inr (3, [.ref (c (10 + s_names)), .ref q_steps, .int v_length, .ref q_stack, .ref q_answers, .int v_side, .int v_round, .ref q_draft, .int 0, .ref q_held, .int 0, .int 0, .int 0, .int 1])), (q_draft, .inl (c 0, 50, .inl v_draft)), (q_held, .inl (c 0, 50, .inl v_held)), (q_steps, .inl (c 0, 50, .inl v_steps)), (q_p1, .inl (c 0, 50, .inl v_p1))] := hD
  refine lv_iconst (v := 0) hx hb dX3_read_25 (by decide) ?_
  refine lv_istore_n (lv' := [(3, .int 0), (0, .ref q_this), (1, .ref q_p1), (2, .int a_2)]) hx hb dX3_read_26 rfl hl (by decide) rfl (fun ls hl => ?_)
  exact t_L27 gFuel 0 v_length v_round 0 0 0 0 1 v_draft v_held v_steps H locs hP hD hS ls (lv_sub hl [1, 2, 3, 0] rfl) h
set_option maxRecDepth 20000 in
theorem in_X11_text_X11 : ∀ w ∈ u_ws RX11 TX11 11, w ∈ wsX11_text := by decide +kernel
set_option maxRecDepth 20000 in
theorem in_X11_text_X7 : ∀ w ∈ u_ws RX7 TX7 11, w ∈ wsX11_text := by decide +kernel
def f_X11_text (a_1 : Int32) (s_now_moved_names : Nat) (s_now_seen_names : Nat) (v_errors : Nat → Int32) (v_now_tapeLength : Int32) (v_now_moved_length : Int32) (v_now_moved_round : Int32) (v_now_moved_drafted : Int32) (v_now_moved_holding : Int32) (v_now_moved_open : Int32) (v_now_moved_digits : Int32) (v_now_moved_wantsOperand : Int32) (v_now_moved_draft : Nat → Int32) (v_now_moved_held : Nat → Int32) (v_now_moved_steps : Nat → Int32) (v_now_seen_length : Int32) (v_now_seen_round : Int32) (v_now_seen_drafted : Int32) (v_now_seen_holding : Int32) (v_now_seen_open : Int32) (v_now_seen_digits : Int32) (v_now_seen_wantsOperand : Int32) (v_now_seen_draft : Nat → Int32) (v_now_seen_held : Nat → Int32) (v_now_seen_steps : Nat → Int32) (v_now_tape : Nat → Int32) : Option (Int32 × (Nat → Int32) × Int32 × Int32 × Int32 × Int32 × Int32 × Int32 × Int32 × Int32 × (Nat → Int32) × (Nat → Int32) × (Nat → Int32) × Int32 × Int32 × Int32 × Int32 × Int32 × Int32 × Int32 × (Nat → Int32) × (Nat → Int32) × (Nat → Int32)) :=
  kb (f_X11_isUse a_1) fun r_2 =>
  if r_2 = 0 then
    kb2 (f_X11_error 1 v_errors) fun r_34 w_35 =>
    some (r_34, w_35, v_now_tapeLength, v_now_moved_length, v_now_moved_round, v_now_moved_drafted, v_now_moved_holding, v_now_moved_open, v_now_moved_digits, v_now_moved_wantsOperand, v_now_moved_draft, v_now_moved_held, v_now_moved_steps, v_now_seen_length, v_now_seen_round, v_now_seen_drafted, v_now_seen_holding, v_now_seen_open, v_now_seen_digits, v_now_seen_wantsOperand, v_now_seen_draft, v_now_seen_held, v_now_seen_steps)
  else
    kb (f_X11_lawOf a_1) fun r_5 =>
    if r_5 = 0 then
      kb11 (f_X3_read v_now_tapeLength s_now_moved_names v_now_moved_length v_now_moved_round v_now_moved_drafted v_now_moved_holding v_now_moved_open v_now_moved_digits v_now_moved_wantsOperand v_now_moved_draft v_now_moved_held v_now_moved_steps v_now_tape) fun r_8 w_9 w_10 w_11 w_12 w_13 w_14 w_15 w_16 w_17 w_18 =>
      if 0 ≤ r_8 then
        some ((-10) - r_8, v_errors, 0, w_9, w_10, w_11, w_12, w_13, w_14, w_15, w_16, w_17, w_18, v_now_seen_length, v_now_seen_round, v_now_seen_drafted, v_now_seen_holding, v_now_seen_open, v_now_seen_digits, v_now_seen_wantsOperand, v_now_seen_draft, v_now_seen_held, v_now_seen_steps)
      else
        some (1, v_errors, 0, w_9, w_10, w_11, w_12, w_13, w_14, w_15, w_16, w_17, w_18, v_now_seen_length, v_now_seen_round, v_now_seen_drafted, v_now_seen_holding, v_now_seen_open, v_now_seen_digits, v_now_seen_wantsOperand, v_now_seen_draft, v_now_seen_held, v_now_seen_steps)
    else
      kb11 (f_X3_read v_now_tapeLength s_now_seen_names v_now_seen_length v_now_seen_round v_now_seen_drafted v_now_seen_holding v_now_seen_open v_now_seen_digits v_now_seen_wantsOperand v_now_seen_draft v_now_seen_held v_now_seen_steps v_now_tape) fun r_21 w_22 w_23 w_24 w_25 w_26 w_27 w_28 w_29 w_30 w_31 =>
      if 0 ≤ r_21 then
        some ((-10) - r_21, v_errors, 0, v_now_moved_length, v_now_moved_round, v_now_moved_drafted, v_now_moved_holding, v_now_moved_open, v_now_moved_digits, v_now_moved_wantsOperand, v_now_moved_draft, v_now_moved_held, v_now_moved_steps, w_22, w_23, w_24, w_25, w_26, w_27, w_28, w_29, w_30, w_31)
      else
        some (1, v_errors, 0, v_now_moved_length, v_now_moved_round, v_now_moved_drafted, v_now_moved_holding, v_now_moved_open, v_now_moved_digits, v_now_moved_wantsOperand, v_now_moved_draft, v_now_moved_held, v_now_moved_steps, w_22, w_23, w_24, w_25, w_26, w_27, w_28, w_29, w_30, w_31)

abbrev rm_X11_text : Room := { frames := 6, cells := 0, slots := 0, locals := 137 }
set_option maxHeartbeats 4000000 in
set_option maxRecDepth 100000 in
theorem c_X11_text (l : Launch) (D : va_G) (c : Nat → ClassId) (q_this q_now q_kept q_kinds q_voice q_thought q_further q_errors q_sheetBits q_sheetLength q_numbers q_now_wall q_now_kind q_now_m q_now_tape q_now_moved q_now_seen q_now_told q_now_moved_steps q_now_moved_stack q_now_moved_answers q_now_moved_draft q_now_moved_held q_now_seen_steps q_now_seen_stack q_now_seen_answers q_now_seen_draft q_now_seen_held : Nat) (s_now_moved_names : Nat) (s_now_seen_names : Nat) (a_1 : Int32) (v_images : Int32) (v_errors : Nat → Int32) (v_now_tools : Int32) (v_now_tapeLength : Int32) (v_now_z : Int32) (v_now_waiting : Int32) (v_now_moved_length : Int32) (v_now_moved_side : Int32) (v_now_moved_round : Int32) (v_now_moved_drafted : Int32) (v_now_moved_holding : Int32) (v_now_moved_open : Int32) (v_now_moved_digits : Int32) (v_now_moved_wantsOperand : Int32) (v_now_moved_draft : Nat → Int32) (v_now_moved_held : Nat → Int32) (v_now_moved_steps : Nat → Int32) (v_now_seen_length : Int32) (v_now_seen_side : Int32) (v_now_seen_round : Int32) (v_now_seen_drafted : Int32) (v_now_seen_holding : Int32) (v_now_seen_open : Int32) (v_now_seen_digits : Int32) (v_now_seen_wantsOperand : Int32) (v_now_seen_draft : Nat → Int32) (v_now_seen_held : Nat → Int32) (v_now_seen_steps : Nat → Int32) (v_now_tape : Nat → Int32) (o_r : Int32) (o_v_errors : Nat → Int32) (o_v_now_tapeLength : Int32) (o_v_now_moved_length : Int32) (o_v_now_moved_round : Int32) (o_v_now_moved_drafted : Int32) (o_v_now_moved_holding : Int32) (o_v_now_moved_open : Int32) (o_v_now_moved_digits : Int32) (o_v_now_moved_wantsOperand : Int32) (o_v_now_moved_draft : Nat → Int32) (o_v_now_moved_held : Nat → Int32) (o_v_now_moved_steps : Nat → Int32) (o_v_now_seen_length : Int32) (o_v_now_seen_round : Int32) (o_v_now_seen_drafted : Int32) (o_v_now_seen_holding : Int32) (o_v_now_seen_open : Int32) (o_v_now_seen_digits : Int32) (o_v_now_seen_wantsOperand : Int32) (o_v_now_seen_draft : Nat → Int32) (o_v_now_seen_held : Nat → Int32) (o_v_now_seen_steps : Nat → Int32) (h : f_X11_text a_1 s_now_moved_names s_now_seen_names v_errors v_now_tapeLength v_now_moved_length v_now_moved_round v_now_moved_drafted v_now_moved_holding v_now_moved_open v_now_moved_digits v_now_moved_wantsOperand v_now_moved_draft v_now_moved_held v_now_moved_steps v_now_seen_length v_now_seen_round v_now_seen_drafted v_now_seen_holding v_now_seen_open v_now_seen_digits v_now_seen_wantsOperand v_now_seen_draft v_now_seen_held v_now_seen_steps v_now_tape = some (o_r, o_v_errors, o_v_now_tapeLength, o_v_now_moved_length, o_v_now_moved_round, o_v_now_moved_drafted, o_v_now_moved_holding, o_v_now_moved_open, o_v_now_moved_digits, o_v_now_moved_wantsOperand, o_v_now_moved_draft, o_v_now_moved_held, o_v_now_moved_steps, o_v_now_seen_length, o_v_now_seen_round, o_v_now_seen_drafted, o_v_now_seen_holding, o_v_now_seen_open, o_v_now_seen_digits, o_v_now_seen_wantsOperand, o_v_now_seen_draft, o_v_now_seen_held, o_v_now_seen_steps)) : gMI l yX11_text wsX11_text rm_X11_text D c [.ref q_this, .int a_1] [(q_this, .inr (11, [.ref q_now, .ref q_kept, .int v_images, .ref q_kinds, .ref q_voice, .ref q_thought, .ref q_further, .ref q_errors, .ref q_sheetBits, .ref q_sheetLength, .ref q_numbers])), (q_errors, .inl (c 0, 6, .inl v_errors)), (q_now, .inr (7, [.ref q_now_wall, .int v_now_tools, .ref q_now_kind, .ref q_now_m, .ref q_now_tape, .int v_now_tapeLength, .ref q_now_moved, .ref q_now_seen, .int v_now_z, .ref q_now_told, .int v_now_waiting])), (q_now_moved, .inr (3, [.ref (c (10 + s_now_moved_names)), .ref q_now_moved_steps, .int v_now_moved_length, .ref q_now_moved_stack, .ref q_now_moved_answers, .int v_now_moved_side, .int v_now_moved_round, .ref q_now_moved_draft, .int v_now_moved_drafted, .ref q_now_moved_held, .int v_now_moved_holding, .int v_now_moved_open, .int v_now_moved_digits, .int v_now_moved_wantsOperand])), (q_now_moved_draft, .inl (c 0, 50, .inl v_now_moved_draft)), (q_now_moved_held, .inl (c 0, 50, .inl v_now_moved_held)), (q_now_moved_steps, .inl (c 0, 50, .inl v_now_moved_steps)), (q_now_seen, .inr (3, [.ref (c (10 + s_now_seen_names)), .ref q_now_seen_steps, .int v_now_seen_length, .ref q_now_seen_stack, .ref q_now_seen_answers, .int v_now_seen_side, .int v_now_seen_round, .ref q_now_seen_draft, .int v_now_seen_drafted, .ref q_now_seen_held, .int v_now_seen_holding, .int v_now_seen_open, .int v_now_seen_digits, .int v_now_seen_wantsOperand])), (q_now_seen_draft, .inl (c 0, 50, .inl v_now_seen_draft)), (q_now_seen_held, .inl (c 0, 50, .inl v_now_seen_held)), (q_now_seen_steps, .inl (c 0, 50, .inl v_now_seen_steps)), (q_now_tape, .inl (c 0, 50, .inl v_now_tape))] [(q_this, .inr (11, [.ref q_now, .ref q_kept, .int v_images, .ref q_kinds, .ref q_voice, .ref q_thought, .ref q_further, .ref q_errors, .ref q_sheetBits, .ref q_sheetLength, .ref q_numbers])), (q_errors, .inl (c 0, 6, .inl o_v_errors)), (q_now, .inr (7, [.ref q_now_wall, .int v_now_tools, .ref q_now_kind, .ref q_now_m, .ref q_now_tape, .int o_v_now_tapeLength, .ref q_now_moved, .ref q_now_seen, .int v_now_z, .ref q_now_told, .int v_now_waiting])), (q_now_moved, .inr (3, [.ref (c (10 + s_now_moved_names)), .ref q_now_moved_steps, .int o_v_now_moved_length, .ref q_now_moved_stack, .ref q_now_moved_answers, .int v_now_moved_side, .int o_v_now_moved_round, .ref q_now_moved_draft, .int o_v_now_moved_drafted, .ref q_now_moved_held, .int o_v_now_moved_holding, .int o_v_now_moved_open, .int o_v_now_moved_digits, .int o_v_now_moved_wantsOperand])), (q_now_moved_draft, .inl (c 0, 50, .inl o_v_now_moved_draft)), (q_now_moved_held, .inl (c 0, 50, .inl o_v_now_moved_held)), (q_now_moved_steps, .inl (c 0, 50, .inl o_v_now_moved_steps)), (q_now_seen, .inr (3, [.ref (c (10 + s_now_seen_names)), .ref q_now_seen_steps, .int o_v_now_seen_length, .ref q_now_seen_stack, .ref q_now_seen_answers, .int v_now_seen_side, .int o_v_now_seen_round, .ref q_now_seen_draft, .int o_v_now_seen_drafted, .ref q_now_seen_held, .int o_v_now_seen_holding, .int o_v_now_seen_open, .int o_v_now_seen_digits, .int o_v_now_seen_wantsOperand])), (q_now_seen_draft, .inl (c 0, 50, .inl o_v_now_seen_draft)), (q_now_seen_held, .inl (c 0, 50, .inl o_v_now_seen_held)), (q_now_seen_steps, .inl (c 0, 50, .inl o_v_now_seen_steps)), (q_now_tape, .inl (c 0, 50, .inl v_now_tape))] o_r := by
  refine gMI_of (cc := cX11_text) (maxL := 3) (rt := (some .int)) (by decide +kernel) rfl (Nat.le_of_ble_eq_true rfl) ?_
  intro p e s m below meth co A hF hK hX hP hD hA hS ls hl
  obtain ⟨hx, hb, hr, hts, hown, hlocks, hml⟩ := id hF
  have hl : lv_has ls 3 [(0, .ref q_this), (1, .int a_1)] := hl
  unfold f_X11_text at h
  refine lv_iload_n hx hb dX11_text_0 rfl (lv_at hl 1 rfl) ?_
  replace h := kb_ok h
  obtain ⟨r_2, hc_1, h⟩ := h
  refine gCallIr (isC := []) (wc := []) hP hD hS hA trivial (va_runS (rm := rm_X11_isUse) (ws := wsX11_isUse) (As := [.int a_1]) (rest := []) (gFix hF) (c_X11_isUse l D c a_1 r_2 hc_1 s.heap.size) (va_cwS 1 hts gX11_text_X11_isUse rfl rfl rfl (by decide +kernel) ⟨Nat.le_of_ble_eq_true rfl, Nat.le_of_ble_eq_true rfl⟩) (gPreS (wc := []) (isC := []) hK hX hS hA hP hD trivial (by decide +kernel)) rfl rfl hl.1 rfl (lv_room (Nat.le_of_ble_eq_true rfl)) dX11_text_1 ⟨Nat.le_of_ble_eq_true rfl, Nat.le_of_ble_eq_true rfl⟩) (fun H locs hP hS => ?_)
  refine lv_if_ne (tgt := 13) hx hb dX11_text_4 (by decide) (fun c_3 => ?_) (fun c_3 => ?_)
  · replace h := it_f c_3 h
    refine lv_aload_n hx hb dX11_text_13 rfl (lv_at hl 0 rfl) ?_
    refine lv_iload_n hx hb dX11_text_14 rfl (lv_at hl 1 rfl) ?_
    replace h := kb_ok h
    obtain ⟨r_5, hc_4, h⟩ := h
    refine gCallRr (isC := [0, 2]) (wc := [(q_this, .inr (11, [.ref q_now, .ref q_kept, .int v_images, .ref q_kinds, .ref q_voice, .ref q_thought, .ref q_further, .ref q_errors, .ref q_sheetBits, .ref q_sheetLength, .ref q_numbers])), (q_now, .inr (7, [.ref q_now_wall, .int v_now_tools, .ref q_now_kind, .ref q_now_m, .ref q_now_tape, .int v_now_tapeLength, .ref q_now_moved, .ref q_now_seen, .int v_now_z, .ref q_now_told, .int v_now_waiting]))]) hP hD hS hA ⟨rfl, rfl, trivial⟩ (va_runV (rm := rm_X11_lawOf) (ws := wsX11_lawOf) (As := [.int a_1]) (rest := []) (gFix hF) (c_X11_lawOf l D c q_this q_now q_kept q_kinds q_voice q_thought q_further q_errors q_sheetBits q_sheetLength q_numbers q_now_wall q_now_kind q_now_m q_now_tape q_now_moved q_now_seen q_now_told a_1 v_images v_now_tools v_now_tapeLength v_now_z v_now_waiting r_5 hc_4 H.size) (cwV 1 hts gX11_text_X11_lawOf rfl rfl rfl (by decide +kernel) ⟨Nat.le_of_ble_eq_true rfl, Nat.le_of_ble_eq_true rfl⟩) (gPreV (wc := [(q_this, .inr (11, [.ref q_now, .ref q_kept, .int v_images, .ref q_kinds, .ref q_voice, .ref q_thought, .ref q_further, .ref q_errors, .ref q_sheetBits, .ref q_sheetLength, .ref q_numbers])), (q_now, .inr (7, [.ref q_now_wall, .int v_now_tools, .ref q_now_kind, .ref q_now_m, .ref q_now_tape, .int v_now_tapeLength, .ref q_now_moved, .ref q_now_seen, .int v_now_z, .ref q_now_told, .int v_now_waiting]))]) (q := (RX11, TX11, 11)) (ci := 11) (q0 := 0) (isC := [0, 2]) hK hX hS hA hP hD ⟨rfl, rfl, trivial⟩ (by decide +kernel) rfl rfl) rfl rfl hl.1 rfl (lv_room (Nat.le_of_ble_eq_true rfl)) dX11_text_15 ⟨Nat.le_of_ble_eq_true rfl, Nat.le_of_ble_eq_true rfl⟩) (fun H locs hP hS => ?_)
    by_cases c_6 : r_5 = 0
    · replace h := it_t c_6 h
      refine gTopR (if_pos c_6).symm ?_
      refine lv_aload_n hx hb dX11_text_18 rfl (lv_at hl 0 rfl) ?_
      refine va_get (D := D) (ci := 11) (v := .ref q_now) (C := RX11) (T := TX11) (N := 11) hx hb hts in_X11_text_X11 hown hK.1 hP 0 rfl rfl 0 (by decide) (hts (.fieldLink RX11 14 "PaperBubbles" "now" "LPaperBubbles$State;") (List.mem_of_getElem? (i := 1) rfl)) (fun _ h9 => h9) rfl dX11_text_19 ?_
      refine va_getN (D := D) (ci := 7) (v := .ref q_now_tape) (C := RX7) (T := TX7) (N := 11) hx hb hts in_X11_text_X7 hown hK.1 hP 2 rfl rfl 4 (by decide) (va_Nw.use rfl (hK.2 (.fieldLinkNest "PaperBubbles" 187 "PaperBubbles$State" "tape" "[I" "PaperBubbles") (List.mem_of_getElem? (i := 9) rfl))) (fun _ h9 => h9) rfl dX11_text_22 ?_
      refine lv_aload_n hx hb dX11_text_25 rfl (lv_at hl 0 rfl) ?_
      refine va_get (D := D) (ci := 11) (v := .ref q_now) (C := RX11) (T := TX11) (N := 11) hx hb hts in_X11_text_X11 hown hK.1 hP 0 rfl rfl 0 (by decide) (hts (.fieldLink RX11 14 "PaperBubbles" "now" "LPaperBubbles$State;") (List.mem_of_getElem? (i := 1) rfl)) (fun _ h9 => h9) rfl dX11_text_26 ?_
      refine va_getN (D := D) (ci := 7) (v := .int v_now_tapeLength) (C := RX7) (T := TX7) (N := 11) hx hb hts in_X11_text_X7 hown hK.1 hP 2 rfl rfl 5 (by decide) (va_Nw.use rfl (hK.2 (.fieldLinkNest "PaperBubbles" 173 "PaperBubbles$State" "tapeLength" "I" "PaperBubbles") (List.mem_of_getElem? (i := 8) rfl))) (fun _ h9 => h9) rfl dX11_text_29 ?_
      replace h := kb11_ok h
      obtain ⟨r_8, w_9, w_10, w_11, w_12, w_13, w_14, w_15, w_16, w_17, w_18, hc_7, h⟩ := h
      refine gCallI (isC := [3, 4, 5, 6, 11]) (wc := [(q_now_moved, .inr (3, [.ref (c (10 + s_now_moved_names)), .ref q_now_moved_steps, .int v_now_moved_length, .ref q_now_moved_stack, .ref q_now_moved_answers, .int v_now_moved_side, .int v_now_moved_round, .ref q_now_moved_draft, .int v_now_moved_drafted, .ref q_now_moved_held, .int v_now_moved_holding, .int v_now_moved_open, .int v_now_moved_digits, .int v_now_moved_wantsOperand])), (q_now_moved_draft, .inl (c 0, 50, .inl v_now_moved_draft)), (q_now_moved_held, .inl (c 0, 50, .inl v_now_moved_held)), (q_now_moved_steps, .inl (c 0, 50, .inl v_now_moved_steps)), (q_now_tape, .inl (c 0, 50, .inl v_now_tape))]) (w1 := [(q_now_moved, .inr (3, [.ref (c (10 + s_now_moved_names)), .ref q_now_moved_steps, .int w_9, .ref q_now_moved_stack, .ref q_now_moved_answers, .int v_now_moved_side, .int w_10, .ref q_now_moved_draft, .int w_11, .ref q_now_moved_held, .int w_12, .int w_13, .int w_14, .int w_15])), (q_now_moved_draft, .inl (c 0, 50, .inl w_16)), (q_now_moved_held, .inl (c 0, 50, .inl w_17)), (q_now_moved_steps, .inl (c 0, 50, .inl w_18)), (q_now_tape, .inl (c 0, 50, .inl v_now_tape))]) (ws2 := [(q_this, .inr (11, [.ref q_now, .ref q_kept, .int v_images, .ref q_kinds, .ref q_voice, .ref q_thought, .ref q_further, .ref q_errors, .ref q_sheetBits, .ref q_sheetLength, .ref q_numbers])), (q_errors, .inl (c 0, 6, .inl v_errors)), (q_now, .inr (7, [.ref q_now_wall, .int v_now_tools, .ref q_now_kind, .ref q_now_m, .ref q_now_tape, .int v_now_tapeLength, .ref q_now_moved, .ref q_now_seen, .int v_now_z, .ref q_now_told, .int v_now_waiting])), (q_now_moved, .inr (3, [.ref (c (10 + s_now_moved_names)), .ref q_now_moved_steps, .int w_9, .ref q_now_moved_stack, .ref q_now_moved_answers, .int v_now_moved_side, .int w_10, .ref q_now_moved_draft, .int w_11, .ref q_now_moved_held, .int w_12, .int w_13, .int w_14, .int w_15])), (q_now_moved_draft, .inl (c 0, 50, .inl w_16)), (q_now_moved_held, .inl (c 0, 50, .inl w_17)), (q_now_moved_steps, .inl (c 0, 50, .inl w_18)), (q_now_seen, .inr (3, [.ref (c (10 + s_now_seen_names)), .ref q_now_seen_steps, .int v_now_seen_length, .ref q_now_seen_stack, .ref q_now_seen_answers, .int v_now_seen_side, .int v_now_seen_round, .ref q_now_seen_draft, .int v_now_seen_drafted, .ref q_now_seen_held, .int v_now_seen_holding, .int v_now_seen_open, .int v_now_seen_digits, .int v_now_seen_wantsOperand])), (q_now_seen_draft, .inl (c 0, 50, .inl v_now_seen_draft)), (q_now_seen_held, .inl (c 0, 50, .inl v_now_seen_held)), (q_now_seen_steps, .inl (c 0, 50, .inl v_now_seen_steps)), (q_now_tape, .inl (c 0, 50, .inl v_now_tape))]) (ms := [none, none, none, (some 0), (some 1), (some 2), (some 3), none, none, none, none, (some 4)]) hP hD hS hA ⟨rfl, rfl, rfl, rfl, rfl, trivial⟩ (by decide +kernel) ⟨rfl, rfl, rfl, rfl, rfl, rfl, rfl, rfl, rfl, rfl, rfl, rfl, trivial⟩ (va_runV (rm := rm_X3_read) (ws := wsX3_read) (As := [.ref q_now_tape, .int v_now_tapeLength]) (rest := []) (gFix hF) (c_X3_read l D c q_now_moved q_now_tape q_now_moved_steps q_now_moved_stack q_now_moved_answers q_now_moved_draft q_now_moved_held s_now_moved_names v_now_tapeLength v_now_moved_length v_now_moved_side v_now_moved_round v_now_moved_drafted v_now_moved_holding v_now_moved_open v_now_moved_digits v_now_moved_wantsOperand v_now_moved_draft v_now_moved_held v_now_moved_steps v_now_tape r_8 w_9 w_10 w_11 w_12 w_13 w_14 w_15 w_16 w_17 w_18 hc_7 H.size) (cwV 2 hts gX11_text_X3_read rfl rfl rfl (by decide +kernel) ⟨Nat.le_of_ble_eq_true rfl, Nat.le_of_ble_eq_true rfl⟩) (gPreV (wc := [(q_now_moved, .inr (3, [.ref (c (10 + s_now_moved_names)), .ref q_now_moved_steps, .int v_now_moved_length, .ref q_now_moved_stack, .ref q_now_moved_answers, .int v_now_moved_side, .int v_now_moved_round, .ref q_now_moved_draft, .int v_now_moved_drafted, .ref q_now_moved_held, .int v_now_moved_holding, .int v_now_moved_open, .int v_now_moved_digits, .int v_now_moved_wantsOperand])), (q_now_moved_draft, .inl (c 0, 50, .inl v_now_moved_draft)), (q_now_moved_held, .inl (c 0, 50, .inl v_now_moved_held)), (q_now_moved_steps, .inl (c 0, 50, .inl v_now_moved_steps)), (q_now_tape, .inl (c 0, 50, .inl v_now_tape))]) (q := (RX3, TX3, 14)) (ci := 3) (q0 := 3) (isC := [3, 4, 5, 6, 11]) hK hX hS hA hP hD ⟨rfl, rfl, rfl, rfl, rfl, trivial⟩ (by decide +kernel) rfl rfl) rfl rfl hl.1 rfl (lv_room (Nat.le_of_ble_eq_true rfl)) dX11_text_32 ⟨Nat.le_of_ble_eq_true rfl, Nat.le_of_ble_eq_true rfl⟩) (fun H locs hP hD hS => ?_)
      refine lv_istore_n (lv' := [(2, .int r_8), (0, .ref q_this), (1, .int a_1)]) hx hb dX11_text_35 rfl hl (by decide) rfl (fun ls hl => ?_)
      refine lv_aload_n hx hb dX11_text_36 rfl (lv_at hl 1 rfl) ?_
      refine va_get (D := D) (ci := 11) (v := .ref q_now) (C := RX11) (T := TX11) (N := 11) hx hb hts in_X11_text_X11 hown hK.1 hP 0 rfl rfl 0 (by decide) (hts (.fieldLink RX11 14 "PaperBubbles" "now" "LPaperBubbles$State;") (List.mem_of_getElem? (i := 1) rfl)) (fun _ h9 => h9) rfl dX11_text_37 ?_
      refine lv_iconst (v := 0) hx hb dX11_text_40 (by decide) ?_
      refine va_putN (D := D) (ci := 7) (v := .int 0) (ty := .int) (C := RX7) (T := TX7) (N := 11) hx hb hts in_X11_text_X7 tyX7 tyX7_ok nmX7 hown hK.1 hP hD hS 2 rfl rfl 5 (by decide) (va_Nw.use rfl (hK.2 (.fieldLinkNest "PaperBubbles" 173 "PaperBubbles$State" "tapeLength" "I" "PaperBubbles") (List.mem_of_getElem? (i := 8) rfl))) (fun _ h9 => h9) rfl (by decide +kernel) rfl rfl (Nat.le_of_ble_eq_true rfl) dX11_text_41 (fun H locs hP hD hS => ?_)
      have hP : va_P D gcl [(q_this, .inr (11, [.ref q_now, .ref q_kept, .int v_images, .ref q_kinds, .ref q_voice, .ref q_thought, .ref q_further, .ref q_errors, .ref q_sheetBits, .ref q_sheetLength, .ref q_numbers])), (q_errors, .inl (c 0, 6, .inl v_errors)), (q_now, .inr (7, [.ref q_now_wall, .int v_now_tools, .ref q_now_kind, .ref q_now_m, .ref q_now_tape, .int 0, .ref q_now_moved, .ref q_now_seen, .int v_now_z, .ref q_now_told, .int v_now_waiting])), (q_now_moved, .inr (3, [.ref (c (10 + s_now_moved_names)), .ref q_now_moved_steps, .int w_9, .ref q_now_moved_stack, .ref q_now_moved_answers, .int v_now_moved_side, .int w_10, .ref q_now_moved_draft, .int w_11, .ref q_now_moved_held, .int w_12, .int w_13, .int w_14, .int w_15])), (q_now_moved_draft, .inl (c 0, 50, .inl w_16)), (q_now_moved_held, .inl (c 0, 50, .inl w_17)), (q_now_moved_steps, .inl (c 0, 50, .inl w_18)), (q_now_seen, .inr (3, [.ref (c (10 + s_now_seen_names)), .ref q_now_seen_steps, .int v_now_seen_length, .ref q_now_seen_stack, .ref q_now_seen_answers, .int v_now_seen_side, .int v_now_seen_round, .ref q_now_seen_draft, .int v_now_seen_drafted, .ref q_now_seen_held, .int v_now_seen_holding, .int v_now_seen_open, .int v_now_seen_digits, .int v_now_seen_wantsOperand])), (q_now_seen_draft, .inl (c 0, 50, .inl v_now_seen_draft)), (q_now_seen_held, .inl (c 0, 50, .inl v_now_seen_held)), (q_now_seen_steps, .inl (c 0, 50, .inl v_now_seen_steps)), (q_now_tape, .inl (c 0, 50, .inl v_now_tape))] H := hP
      have hD : va_D A [(q_this, .inr (11, [.ref q_now, .ref q_kept, .int v_images, .ref q_kinds, .ref q_voice, .ref q_thought, .ref q_further, .ref q_errors, .ref q_sheetBits, .ref q_sheetLength, .ref q_numbers])), (q_errors, .inl (c 0, 6, .inl v_errors)), (q_now, .inr (7, [.ref q_now_wall, .int v_now_tools, .ref q_now_kind, .ref q_now_m, .ref q_now_tape, .int 0, .ref q_now_moved, .ref q_now_seen, .int v_now_z, .ref q_now_told, .int v_now_waiting])), (q_now_moved, .inr (3, [.ref (c (10 + s_now_moved_names)), .ref q_now_moved_steps, .int w_9, .ref q_now_moved_stack, .ref q_now_moved_answers, .int v_now_moved_side, .int w_10, .ref q_now_moved_draft, .int w_11, .ref q_now_moved_held, .int w_12, .int w_13, .int w_14, .int w_15])), (q_now_moved_draft, .inl (c 0, 50, .inl w_16)), (q_now_moved_held, .inl (c 0, 50, .inl w_17)), (q_now_moved_steps, .inl (c 0, 50, .inl w_18)), (q_now_seen, .inr (3, [.ref (c (10 + s_now_seen_names)), .ref q_now_seen_steps, .int v_now_seen_length, .ref q_now_seen_stack, .ref q_now_seen_answers, .int v_now_seen_side, .int v_now_seen_round, .ref q_now_seen_draft, .int v_now_seen_drafted, .ref q_now_seen_held, .int v_now_seen_holding, .int v_now_seen_open, .int v_now_seen_digits, .int v_now_seen_wantsOperand])), (q_now_seen_draft, .inl (c 0, 50, .inl v_now_seen_draft)), (q_now_seen_held, .inl (c 0, 50, .inl v_now_seen_held)), (q_now_seen_steps, .inl (c 0, 50, .inl v_now_seen_steps)), (q_now_tape, .inl (c 0, 50, .inl v_now_tape))] := hD
      refine lv_iload_n hx hb dX11_text_44 rfl (lv_at hl 0 rfl) ?_
      refine lv_if_ge (tgt := 52) hx hb dX11_text_45 (by decide) (fun c_19 => ?_) (fun c_19 => ?_)
      · replace h := it_t c_19 h
        refine lv_bipush (v := (-10)) hx hb dX11_text_52 (by decide) ?_
        refine lv_iload_n hx hb dX11_text_54 rfl (lv_at hl 0 rfl) ?_
        refine lv_isub hx hb dX11_text_55 ?_
        replace h := so23 h
        obtain ⟨z0, z1, z2, z3, z4, z5, z6, z7, z8, z9, z10, z11, z12, z13, z14, z15, z16, z17, z18, z19, z20, z21, z22⟩ := h
        subst z0 z1 z2 z3 z4 z5 z6 z7 z8 z9 z10 z11 z12 z13 z14 z15 z16 z17 z18 z19 z20 z21 z22
        exact gIret hF hP hD hS rfl dX11_text_56
      · replace h := it_f c_19 h
        refine lv_iconst (v := 1) hx hb dX11_text_48 (by decide) ?_
        refine lv_goto (tgt := 56) hx hb dX11_text_49 (by decide) ?_
        replace h := so23 h
        obtain ⟨z0, z1, z2, z3, z4, z5, z6, z7, z8, z9, z10, z11, z12, z13, z14, z15, z16, z17, z18, z19, z20, z21, z22⟩ := h
        subst z0 z1 z2 z3 z4 z5 z6 z7 z8 z9 z10 z11 z12 z13 z14 z15 z16 z17 z18 z19 z20 z21 z22
        exact gIret hF hP hD hS rfl dX11_text_56
    · replace h := it_f c_6 h
      refine gTopR (if_neg c_6).symm ?_
      refine lv_aload_n hx hb dX11_text_18 rfl (lv_at hl 0 rfl) ?_
      refine va_get (D := D) (ci := 11) (v := .ref q_now) (C := RX11) (T := TX11) (N := 11) hx hb hts in_X11_text_X11 hown hK.1 hP 0 rfl rfl 0 (by decide) (hts (.fieldLink RX11 14 "PaperBubbles" "now" "LPaperBubbles$State;") (List.mem_of_getElem? (i := 1) rfl)) (fun _ h9 => h9) rfl dX11_text_19 ?_
      refine va_getN (D := D) (ci := 7) (v := .ref q_now_tape) (C := RX7) (T := TX7) (N := 11) hx hb hts in_X11_text_X7 hown hK.1 hP 2 rfl rfl 4 (by decide) (va_Nw.use rfl (hK.2 (.fieldLinkNest "PaperBubbles" 187 "PaperBubbles$State" "tape" "[I" "PaperBubbles") (List.mem_of_getElem? (i := 9) rfl))) (fun _ h9 => h9) rfl dX11_text_22 ?_
      refine lv_aload_n hx hb dX11_text_25 rfl (lv_at hl 0 rfl) ?_
      refine va_get (D := D) (ci := 11) (v := .ref q_now) (C := RX11) (T := TX11) (N := 11) hx hb hts in_X11_text_X11 hown hK.1 hP 0 rfl rfl 0 (by decide) (hts (.fieldLink RX11 14 "PaperBubbles" "now" "LPaperBubbles$State;") (List.mem_of_getElem? (i := 1) rfl)) (fun _ h9 => h9) rfl dX11_text_26 ?_
      refine va_getN (D := D) (ci := 7) (v := .int v_now_tapeLength) (C := RX7) (T := TX7) (N := 11) hx hb hts in_X11_text_X7 hown hK.1 hP 2 rfl rfl 5 (by decide) (va_Nw.use rfl (hK.2 (.fieldLinkNest "PaperBubbles" 173 "PaperBubbles$State" "tapeLength" "I" "PaperBubbles") (List.mem_of_getElem? (i := 8) rfl))) (fun _ h9 => h9) rfl dX11_text_29 ?_
      replace h := kb11_ok h
      obtain ⟨r_21, w_22, w_23, w_24, w_25, w_26, w_27, w_28, w_29, w_30, w_31, hc_20, h⟩ := h
      refine gCallI (isC := [7, 8, 9, 10, 11]) (wc := [(q_now_seen, .inr (3, [.ref (c (10 + s_now_seen_names)), .ref q_now_seen_steps, .int v_now_seen_length, .ref q_now_seen_stack, .ref q_now_seen_answers, .int v_now_seen_side, .int v_now_seen_round, .ref q_now_seen_draft, .int v_now_seen_drafted, .ref q_now_seen_held, .int v_now_seen_holding, .int v_now_seen_open, .int v_now_seen_digits, .int v_now_seen_wantsOperand])), (q_now_seen_draft, .inl (c 0, 50, .inl v_now_seen_draft)), (q_now_seen_held, .inl (c 0, 50, .inl v_now_seen_held)), (q_now_seen_steps, .inl (c 0, 50, .inl v_now_seen_steps)), (q_now_tape, .inl (c 0, 50, .inl v_now_tape))]) (w1 := [(q_now_seen, .inr (3, [.ref (c (10 + s_now_seen_names)), .ref q_now_seen_steps, .int w_22, .ref q_now_seen_stack, .ref q_now_seen_answers, .int v_now_seen_side, .int w_23, .ref q_now_seen_draft, .int w_24, .ref q_now_seen_held, .int w_25, .int w_26, .int w_27, .int w_28])), (q_now_seen_draft, .inl (c 0, 50, .inl w_29)), (q_now_seen_held, .inl (c 0, 50, .inl w_30)), (q_now_seen_steps, .inl (c 0, 50, .inl w_31)), (q_now_tape, .inl (c 0, 50, .inl v_now_tape))]) (ws2 := [(q_this, .inr (11, [.ref q_now, .ref q_kept, .int v_images, .ref q_kinds, .ref q_voice, .ref q_thought, .ref q_further, .ref q_errors, .ref q_sheetBits, .ref q_sheetLength, .ref q_numbers])), (q_errors, .inl (c 0, 6, .inl v_errors)), (q_now, .inr (7, [.ref q_now_wall, .int v_now_tools, .ref q_now_kind, .ref q_now_m, .ref q_now_tape, .int v_now_tapeLength, .ref q_now_moved, .ref q_now_seen, .int v_now_z, .ref q_now_told, .int v_now_waiting])), (q_now_moved, .inr (3, [.ref (c (10 + s_now_moved_names)), .ref q_now_moved_steps, .int v_now_moved_length, .ref q_now_moved_stack, .ref q_now_moved_answers, .int v_now_moved_side, .int v_now_moved_round, .ref q_now_moved_draft, .int v_now_moved_drafted, .ref q_now_moved_held, .int v_now_moved_holding, .int v_now_moved_open, .int v_now_moved_digits, .int v_now_moved_wantsOperand])), (q_now_moved_draft, .inl (c 0, 50, .inl v_now_moved_draft)), (q_now_moved_held, .inl (c 0, 50, .inl v_now_moved_held)), (q_now_moved_steps, .inl (c 0, 50, .inl v_now_moved_steps)), (q_now_seen, .inr (3, [.ref (c (10 + s_now_seen_names)), .ref q_now_seen_steps, .int w_22, .ref q_now_seen_stack, .ref q_now_seen_answers, .int v_now_seen_side, .int w_23, .ref q_now_seen_draft, .int w_24, .ref q_now_seen_held, .int w_25, .int w_26, .int w_27, .int w_28])), (q_now_seen_draft, .inl (c 0, 50, .inl w_29)), (q_now_seen_held, .inl (c 0, 50, .inl w_30)), (q_now_seen_steps, .inl (c 0, 50, .inl w_31)), (q_now_tape, .inl (c 0, 50, .inl v_now_tape))]) (ms := [none, none, none, none, none, none, none, (some 0), (some 1), (some 2), (some 3), (some 4)]) hP hD hS hA ⟨rfl, rfl, rfl, rfl, rfl, trivial⟩ (by decide +kernel) ⟨rfl, rfl, rfl, rfl, rfl, rfl, rfl, rfl, rfl, rfl, rfl, rfl, trivial⟩ (va_runV (rm := rm_X3_read) (ws := wsX3_read) (As := [.ref q_now_tape, .int v_now_tapeLength]) (rest := []) (gFix hF) (c_X3_read l D c q_now_seen q_now_tape q_now_seen_steps q_now_seen_stack q_now_seen_answers q_now_seen_draft q_now_seen_held s_now_seen_names v_now_tapeLength v_now_seen_length v_now_seen_side v_now_seen_round v_now_seen_drafted v_now_seen_holding v_now_seen_open v_now_seen_digits v_now_seen_wantsOperand v_now_seen_draft v_now_seen_held v_now_seen_steps v_now_tape r_21 w_22 w_23 w_24 w_25 w_26 w_27 w_28 w_29 w_30 w_31 hc_20 H.size) (cwV 2 hts gX11_text_X3_read rfl rfl rfl (by decide +kernel) ⟨Nat.le_of_ble_eq_true rfl, Nat.le_of_ble_eq_true rfl⟩) (gPreV (wc := [(q_now_seen, .inr (3, [.ref (c (10 + s_now_seen_names)), .ref q_now_seen_steps, .int v_now_seen_length, .ref q_now_seen_stack, .ref q_now_seen_answers, .int v_now_seen_side, .int v_now_seen_round, .ref q_now_seen_draft, .int v_now_seen_drafted, .ref q_now_seen_held, .int v_now_seen_holding, .int v_now_seen_open, .int v_now_seen_digits, .int v_now_seen_wantsOperand])), (q_now_seen_draft, .inl (c 0, 50, .inl v_now_seen_draft)), (q_now_seen_held, .inl (c 0, 50, .inl v_now_seen_held)), (q_now_seen_steps, .inl (c 0, 50, .inl v_now_seen_steps)), (q_now_tape, .inl (c 0, 50, .inl v_now_tape))]) (q := (RX3, TX3, 14)) (ci := 3) (q0 := 7) (isC := [7, 8, 9, 10, 11]) hK hX hS hA hP hD ⟨rfl, rfl, rfl, rfl, rfl, trivial⟩ (by decide +kernel) rfl rfl) rfl rfl hl.1 rfl (lv_room (Nat.le_of_ble_eq_true rfl)) dX11_text_32 ⟨Nat.le_of_ble_eq_true rfl, Nat.le_of_ble_eq_true rfl⟩) (fun H locs hP hD hS => ?_)
      refine lv_istore_n (lv' := [(2, .int r_21), (0, .ref q_this), (1, .int a_1)]) hx hb dX11_text_35 rfl hl (by decide) rfl (fun ls hl => ?_)
      refine lv_aload_n hx hb dX11_text_36 rfl (lv_at hl 1 rfl) ?_
      refine va_get (D := D) (ci := 11) (v := .ref q_now) (C := RX11) (T := TX11) (N := 11) hx hb hts in_X11_text_X11 hown hK.1 hP 0 rfl rfl 0 (by decide) (hts (.fieldLink RX11 14 "PaperBubbles" "now" "LPaperBubbles$State;") (List.mem_of_getElem? (i := 1) rfl)) (fun _ h9 => h9) rfl dX11_text_37 ?_
      refine lv_iconst (v := 0) hx hb dX11_text_40 (by decide) ?_
      refine va_putN (D := D) (ci := 7) (v := .int 0) (ty := .int) (C := RX7) (T := TX7) (N := 11) hx hb hts in_X11_text_X7 tyX7 tyX7_ok nmX7 hown hK.1 hP hD hS 2 rfl rfl 5 (by decide) (va_Nw.use rfl (hK.2 (.fieldLinkNest "PaperBubbles" 173 "PaperBubbles$State" "tapeLength" "I" "PaperBubbles") (List.mem_of_getElem? (i := 8) rfl))) (fun _ h9 => h9) rfl (by decide +kernel) rfl rfl (Nat.le_of_ble_eq_true rfl) dX11_text_41 (fun H locs hP hD hS => ?_)
      have hP : va_P D gcl [(q_this, .inr (11, [.ref q_now, .ref q_kept, .int v_images, .ref q_kinds, .ref q_voice, .ref q_thought, .ref q_further, .ref q_errors, .ref q_sheetBits, .ref q_sheetLength, .ref q_numbers])), (q_errors, .inl (c 0, 6, .inl v_errors)), (q_now, .inr (7, [.ref q_now_wall, .int v_now_tools, .ref q_now_kind, .ref q_now_m, .ref q_now_tape, .int 0, .ref q_now_moved, .ref q_now_seen, .int v_now_z, .ref q_now_told, .int v_now_waiting])), (q_now_moved, .inr (3, [.ref (c (10 + s_now_moved_names)), .ref q_now_moved_steps, .int v_now_moved_length, .ref q_now_moved_stack, .ref q_now_moved_answers, .int v_now_moved_side, .int v_now_moved_round, .ref q_now_moved_draft, .int v_now_moved_drafted, .ref q_now_moved_held, .int v_now_moved_holding, .int v_now_moved_open, .int v_now_moved_digits, .int v_now_moved_wantsOperand])), (q_now_moved_draft, .inl (c 0, 50, .inl v_now_moved_draft)), (q_now_moved_held, .inl (c 0, 50, .inl v_now_moved_held)), (q_now_moved_steps, .inl (c 0, 50, .inl v_now_moved_steps)), (q_now_seen, .inr (3, [.ref (c (10 + s_now_seen_names)), .ref q_now_seen_steps, .int w_22, .ref q_now_seen_stack, .ref q_now_seen_answers, .int v_now_seen_side, .int w_23, .ref q_now_seen_draft, .int w_24, .ref q_now_seen_held, .int w_25, .int w_26, .int w_27, .int w_28])), (q_now_seen_draft, .inl (c 0, 50, .inl w_29)), (q_now_seen_held, .inl (c 0, 50, .inl w_30)), (q_now_seen_steps, .inl (c 0, 50, .inl w_31)), (q_now_tape, .inl (c 0, 50, .inl v_now_tape))] H := hP
      have hD : va_D A [(q_this, .inr (11, [.ref q_now, .ref q_kept, .int v_images, .ref q_kinds, .ref q_voice, .ref q_thought, .ref q_further, .ref q_errors, .ref q_sheetBits, .ref q_sheetLength, .ref q_numbers])), (q_errors, .inl (c 0, 6, .inl v_errors)), (q_now, .inr (7, [.ref q_now_wall, .int v_now_tools, .ref q_now_kind, .ref q_now_m, .ref q_now_tape, .int 0, .ref q_now_moved, .ref q_now_seen, .int v_now_z, .ref q_now_told, .int v_now_waiting])), (q_now_moved, .inr (3, [.ref (c (10 + s_now_moved_names)), .ref q_now_moved_steps, .int v_now_moved_length, .ref q_now_moved_stack, .ref q_now_moved_answers, .int v_now_moved_side, .int v_now_moved_round, .ref q_now_moved_draft, .int v_now_moved_drafted, .ref q_now_moved_held, .int v_now_moved_holding, .int v_now_moved_open, .int v_now_moved_digits, .int v_now_moved_wantsOperand])), (q_now_moved_draft, .inl (c 0, 50, .inl v_now_moved_draft)), (q_now_moved_held, .inl (c 0, 50, .inl v_now_moved_held)), (q_now_moved_steps, .inl (c 0, 50, .inl v_now_moved_steps)), (q_now_seen, .inr (3, [.ref (c (10 + s_now_seen_names)), .ref q_now_seen_steps, .int w_22, .ref q_now_seen_stack, .ref q_now_seen_answers, .int v_now_seen_side, .int w_23, .ref q_now_seen_draft, .int w_24, .ref q_now_seen_held, .int w_25, .int w_26, .int w_27, .int w_28])), (q_now_seen_draft, .inl (c 0, 50, .inl w_29)), (q_now_seen_held, .inl (c 0, 50, .inl w_30)), (q_now_seen_steps, .inl (c 0, 50, .inl w_31)), (q_now_tape, .inl (c 0, 50, .inl v_now_tape))] := hD
      refine lv_iload_n hx hb dX11_text_44 rfl (lv_at hl 0 rfl) ?_
      refine lv_if_ge (tgt := 52) hx hb dX11_text_45 (by decide) (fun c_32 => ?_) (fun c_32 => ?_)
      · replace h := it_t c_32 h
        refine lv_bipush (v := (-10)) hx hb dX11_text_52 (by decide) ?_
        refine lv_iload_n hx hb dX11_text_54 rfl (lv_at hl 0 rfl) ?_
        refine lv_isub hx hb dX11_text_55 ?_
        replace h := so23 h
        obtain ⟨z0, z1, z2, z3, z4, z5, z6, z7, z8, z9, z10, z11, z12, z13, z14, z15, z16, z17, z18, z19, z20, z21, z22⟩ := h
        subst z0 z1 z2 z3 z4 z5 z6 z7 z8 z9 z10 z11 z12 z13 z14 z15 z16 z17 z18 z19 z20 z21 z22
        exact gIret hF hP hD hS rfl dX11_text_56
      · replace h := it_f c_32 h
        refine lv_iconst (v := 1) hx hb dX11_text_48 (by decide) ?_
        refine lv_goto (tgt := 56) hx hb dX11_text_49 (by decide) ?_
        replace h := so23 h
        obtain ⟨z0, z1, z2, z3, z4, z5, z6, z7, z8, z9, z10, z11, z12, z13, z14, z15, z16, z17, z18, z19, z20, z21, z22⟩ := h
        subst z0 z1 z2 z3 z4 z5 z6 z7 z8 z9 z10 z11 z12 z13 z14 z15 z16 z17 z18 z19 z20 z21 z22
        exact gIret hF hP hD hS rfl dX11_text_56
  · replace h := it_t c_3 h
    refine lv_aload_n hx hb dX11_text_7 rfl (lv_at hl 0 rfl) ?_
    refine lv_iconst (v := 1) hx hb dX11_text_8 (by decide) ?_
    replace h := kb2_ok h
    obtain ⟨r_34, w_35, hc_33, h⟩ := h
    refine gCallI (isC := [0, 1]) (wc := [(q_this, .inr (11, [.ref q_now, .ref q_kept, .int v_images, .ref q_kinds, .ref q_voice, .ref q_thought, .ref q_further, .ref q_errors, .ref q_sheetBits, .ref q_sheetLength, .ref q_numbers])), (q_errors, .inl (c 0, 6, .inl v_errors))]) (w1 := [(q_this, .inr (11, [.ref q_now, .ref q_kept, .int v_images, .ref q_kinds, .ref q_voice, .ref q_thought, .ref q_further, .ref q_errors, .ref q_sheetBits, .ref q_sheetLength, .ref q_numbers])), (q_errors, .inl (c 0, 6, .inl w_35))]) (ws2 := [(q_this, .inr (11, [.ref q_now, .ref q_kept, .int v_images, .ref q_kinds, .ref q_voice, .ref q_thought, .ref q_further, .ref q_errors, .ref q_sheetBits, .ref q_sheetLength, .ref q_numbers])), (q_errors, .inl (c 0, 6, .inl w_35)), (q_now, .inr (7, [.ref q_now_wall, .int v_now_tools, .ref q_now_kind, .ref q_now_m, .ref q_now_tape, .int v_now_tapeLength, .ref q_now_moved, .ref q_now_seen, .int v_now_z, .ref q_now_told, .int v_now_waiting])), (q_now_moved, .inr (3, [.ref (c (10 + s_now_moved_names)), .ref q_now_moved_steps, .int v_now_moved_length, .ref q_now_moved_stack, .ref q_now_moved_answers, .int v_now_moved_side, .int v_now_moved_round, .ref q_now_moved_draft, .int v_now_moved_drafted, .ref q_now_moved_held, .int v_now_moved_holding, .int v_now_moved_open, .int v_now_moved_digits, .int v_now_moved_wantsOperand])), (q_now_moved_draft, .inl (c 0, 50, .inl v_now_moved_draft)), (q_now_moved_held, .inl (c 0, 50, .inl v_now_moved_held)), (q_now_moved_steps, .inl (c 0, 50, .inl v_now_moved_steps)), (q_now_seen, .inr (3, [.ref (c (10 + s_now_seen_names)), .ref q_now_seen_steps, .int v_now_seen_length, .ref q_now_seen_stack, .ref q_now_seen_answers, .int v_now_seen_side, .int v_now_seen_round, .ref q_now_seen_draft, .int v_now_seen_drafted, .ref q_now_seen_held, .int v_now_seen_holding, .int v_now_seen_open, .int v_now_seen_digits, .int v_now_seen_wantsOperand])), (q_now_seen_draft, .inl (c 0, 50, .inl v_now_seen_draft)), (q_now_seen_held, .inl (c 0, 50, .inl v_now_seen_held)), (q_now_seen_steps, .inl (c 0, 50, .inl v_now_seen_steps)), (q_now_tape, .inl (c 0, 50, .inl v_now_tape))]) (ms := [(some 0), (some 1), none, none, none, none, none, none, none, none, none, none]) hP hD hS hA ⟨rfl, rfl, trivial⟩ (by decide +kernel) ⟨rfl, rfl, rfl, rfl, rfl, rfl, rfl, rfl, rfl, rfl, rfl, rfl, trivial⟩ (va_runV (rm := rm_X11_error) (ws := wsX11_error) (As := [.int 1]) (rest := []) (gFix hF) (c_X11_error l D c q_this q_now q_kept q_kinds q_voice q_thought q_further q_errors q_sheetBits q_sheetLength q_numbers 1 v_images v_errors r_34 w_35 hc_33 H.size) (cwV 1 hts gX11_text_X11_error rfl rfl rfl (by decide +kernel) ⟨Nat.le_of_ble_eq_true rfl, Nat.le_of_ble_eq_true rfl⟩) (gPreV (wc := [(q_this, .inr (11, [.ref q_now, .ref q_kept, .int v_images, .ref q_kinds, .ref q_voice, .ref q_thought, .ref q_further, .ref q_errors, .ref q_sheetBits, .ref q_sheetLength, .ref q_numbers])), (q_errors, .inl (c 0, 6, .inl v_errors))]) (q := (RX11, TX11, 11)) (ci := 11) (q0 := 0) (isC := [0, 1]) hK hX hS hA hP hD ⟨rfl, rfl, trivial⟩ (by decide +kernel) rfl rfl) rfl rfl hl.1 rfl (lv_room (Nat.le_of_ble_eq_true rfl)) dX11_text_9 ⟨Nat.le_of_ble_eq_true rfl, Nat.le_of_ble_eq_true rfl⟩) (fun H locs hP hD hS => ?_)
    replace h := so23 h
    obtain ⟨z0, z1, z2, z3, z4, z5, z6, z7, z8, z9, z10, z11, z12, z13, z14, z15, z16, z17, z18, z19, z20, z21, z22⟩ := h
    subst z0 z1 z2 z3 z4 z5 z6 z7 z8 z9 z10 z11 z12 z13 z14 z15 z16 z17 z18 z19 z20 z21 z22
    exact gIret hF hP hD hS rfl dX11_text_12
set_option maxRecDepth 20000 in
theorem in_X11_told_X11 : ∀ w ∈ u_ws RX11 TX11 11, w ∈ wsX11_told := by decide +kernel
def f_X11_told (a_1 : Int32) (v_errors : Nat → Int32) : Option (Int32 × (Nat → Int32)) :=
  kb (f_X11_within a_1 1 5) fun r_2 =>
  if r_2 = 0 then
    kb2 (f_X11_error 1 v_errors) fun r_5 w_6 =>
    some (r_5, w_6)
  else
    chi a_1 6 <|
    nm (v_errors a_1.toNatClampNeg : Int32) fun t_8 =>
    some (t_8, v_errors)

abbrev rm_X11_told : Room := { frames := 2, cells := 0, slots := 0, locals := 43 }
set_option maxHeartbeats 4000000 in
set_option maxRecDepth 100000 in
theorem c_X11_told (l : Launch) (D : va_G) (c : Nat → ClassId) (q_this q_now q_kept q_kinds q_voice q_thought q_further q_errors q_sheetBits q_sheetLength q_numbers : Nat) (a_1 : Int32) (v_images : Int32) (v_errors : Nat → Int32) (o_r : Int32) (o_v_errors : Nat → Int32) (h : f_X11_told a_1 v_errors = some (o_r, o_v_errors)) : gMI l yX11_told wsX11_told rm_X11_told D c [.ref q_this, .int a_1] [(q_this, .inr (11, [.ref q_now, .ref q_kept, .int v_images, .ref q_kinds, .ref q_voice, .ref q_thought, .ref q_further, .ref q_errors, .ref q_sheetBits, .ref q_sheetLength, .ref q_numbers])), (q_errors, .inl (c 0, 6, .inl v_errors))] [(q_this, .inr (11, [.ref q_now, .ref q_kept, .int v_images, .ref q_kinds, .ref q_voice, .ref q_thought, .ref q_further, .ref q_errors, .ref q_sheetBits, .ref q_sheetLength, .ref q_numbers])), (q_errors, .inl (c 0, 6, .inl o_v_errors))] o_r := by
  refine gMI_of (cc := cX11_told) (maxL := 2) (rt := (some .int)) (by decide +kernel) rfl (Nat.le_of_ble_eq_true rfl) ?_
  intro p e s m below meth co A hF hK hX hP hD hA hS ls hl
  obtain ⟨hx, hb, hr, hts, hown, hlocks, hml⟩ := id hF
  have hl : lv_has ls 2 [(0, .ref q_this), (1, .int a_1)] := hl
  unfold f_X11_told at h
  refine lv_iload_n hx hb dX11_told_0 rfl (lv_at hl 1 rfl) ?_
  refine lv_iconst (v := 1) hx hb dX11_told_1 (by decide) ?_
  refine lv_iconst (v := 5) hx hb dX11_told_2 (by decide) ?_
  replace h := kb_ok h
  obtain ⟨r_2, hc_1, h⟩ := h
  refine gCallIr (isC := []) (wc := []) hP hD hS hA trivial (va_runS (rm := rm_X11_within) (ws := wsX11_within) (As := [.int a_1, .int 1, .int 5]) (rest := []) (gFix hF) (c_X11_within l D c a_1 1 5 r_2 hc_1 s.heap.size) (va_cwS 3 hts gX11_told_X11_within rfl rfl rfl (by decide +kernel) ⟨Nat.le_of_ble_eq_true rfl, Nat.le_of_ble_eq_true rfl⟩) (gPreS (wc := []) (isC := []) hK hX hS hA hP hD trivial (by decide +kernel)) rfl rfl hl.1 rfl (lv_room (Nat.le_of_ble_eq_true rfl)) dX11_told_3 ⟨Nat.le_of_ble_eq_true rfl, Nat.le_of_ble_eq_true rfl⟩) (fun H locs hP hS => ?_)
  refine lv_if_eq (tgt := 18) hx hb dX11_told_6 (by decide) (fun c_3 => ?_) (fun c_3 => ?_)
  · replace h := it_t c_3 h
    refine lv_aload_n hx hb dX11_told_18 rfl (lv_at hl 0 rfl) ?_
    refine lv_iconst (v := 1) hx hb dX11_told_19 (by decide) ?_
    replace h := kb2_ok h
    obtain ⟨r_5, w_6, hc_4, h⟩ := h
    refine gCallI (isC := [0, 1]) (wc := [(q_this, .inr (11, [.ref q_now, .ref q_kept, .int v_images, .ref q_kinds, .ref q_voice, .ref q_thought, .ref q_further, .ref q_errors, .ref q_sheetBits, .ref q_sheetLength, .ref q_numbers])), (q_errors, .inl (c 0, 6, .inl v_errors))]) (w1 := [(q_this, .inr (11, [.ref q_now, .ref q_kept, .int v_images, .ref q_kinds, .ref q_voice, .ref q_thought, .ref q_further, .ref q_errors, .ref q_sheetBits, .ref q_sheetLength, .ref q_numbers])), (q_errors, .inl (c 0, 6, .inl w_6))]) (ws2 := [(q_this, .inr (11, [.ref q_now, .ref q_kept, .int v_images, .ref q_kinds, .ref q_voice, .ref q_thought, .ref q_further, .ref q_errors, .ref q_sheetBits, .ref q_sheetLength, .ref q_numbers])), (q_errors, .inl (c 0, 6, .inl w_6))]) (ms := [(some 0), (some 1)]) hP hD hS hA ⟨rfl, rfl, trivial⟩ (by decide +kernel) ⟨rfl, rfl, trivial⟩ (va_runV (rm := rm_X11_error) (ws := wsX11_error) (As := [.int 1]) (rest := []) (gFix hF) (c_X11_error l D c q_this q_now q_kept q_kinds q_voice q_thought q_further q_errors q_sheetBits q_sheetLength q_numbers 1 v_images v_errors r_5 w_6 hc_4 H.size) (cwV 1 hts gX11_told_X11_error rfl rfl rfl (by decide +kernel) ⟨Nat.le_of_ble_eq_true rfl, Nat.le_of_ble_eq_true rfl⟩) (gPreV (wc := [(q_this, .inr (11, [.ref q_now, .ref q_kept, .int v_images, .ref q_kinds, .ref q_voice, .ref q_thought, .ref q_further, .ref q_errors, .ref q_sheetBits, .ref q_sheetLength, .ref q_numbers])), (q_errors, .inl (c 0, 6, .inl v_errors))]) (q := (RX11, TX11, 11)) (ci := 11) (q0 := 0) (isC := [0, 1]) hK hX hS hA hP hD ⟨rfl, rfl, trivial⟩ (by decide +kernel) rfl rfl) rfl rfl hl.1 rfl (lv_room (Nat.le_of_ble_eq_true rfl)) dX11_told_20 ⟨Nat.le_of_ble_eq_true rfl, Nat.le_of_ble_eq_true rfl⟩) (fun H locs hP hD hS => ?_)
    replace h := so2 h
    obtain ⟨z0, z1⟩ := h
    subst z0 z1
    exact gIret hF hP hD hS rfl dX11_told_23
  · replace h := it_f c_3 h
    refine lv_aload_n hx hb dX11_told_9 rfl (lv_at hl 0 rfl) ?_
    refine va_get (D := D) (ci := 11) (v := .ref q_errors) (C := RX11) (T := TX11) (N := 11) hx hb hts in_X11_told_X11 hown hK.1 hP 0 rfl rfl 7 (by decide) (hts (.fieldLink RX11 63 "PaperBubbles" "errors" "[I") (List.mem_of_getElem? (i := 1) rfl)) (fun _ h9 => h9) rfl dX11_told_10 ?_
    refine lv_iload_n hx hb dX11_told_13 rfl (lv_at hl 1 rfl) ?_
    replace h := chi_ok h
    obtain ⟨hi_7, h⟩ := h
    refine va_iald hx hb hK.1 hP 1 0 rfl rfl hi_7 dX11_told_14 ?_
    replace h := nm_ok h
    obtain ⟨t_8, et_8, h⟩ := h
    refine gTop et_8 ?_
    refine lv_goto (tgt := 23) hx hb dX11_told_15 (by decide) ?_
    replace h := so2 h
    obtain ⟨z0, z1⟩ := h
    subst z0 z1
    exact gIret hF hP hD hS rfl dX11_told_23
set_option maxRecDepth 20000 in
theorem in_X11_tool_X11 : ∀ w ∈ u_ws RX11 TX11 11, w ∈ wsX11_tool := by decide +kernel
set_option maxRecDepth 20000 in
theorem in_X11_tool_X7 : ∀ w ∈ u_ws RX7 TX7 11, w ∈ wsX11_tool := by decide +kernel
def f_X11_tool (a_1 : Int32) (v_errors : Nat → Int32) (v_now_tools : Int32) (v_now_kind : Nat → Int32) (v_now_m : Nat → Int32) : Option (Int32 × (Nat → Int32) × Int32 × (Nat → Int32) × (Nat → Int32)) :=
  kb (f_X11_within a_1 0 69) fun r_2 =>
  if r_2 = 0 then
    kb2 (f_X11_error 1 v_errors) fun r_20 w_21 =>
    some (r_20, w_21, v_now_tools, v_now_kind, v_now_m)
  else
    kb (f_X11_within v_now_tools 0 5) fun r_5 =>
    if r_5 = 0 then
      kb2 (f_X11_error 4 v_errors) fun r_17 w_18 =>
      some (r_17, w_18, v_now_tools, v_now_kind, v_now_m)
    else
      chz 10 <|
      nm (a_1 / 10 : Int32) fun t_8 =>
      chi v_now_tools 6 <|
      nm (upd v_now_kind v_now_tools.toNatClampNeg t_8) fun w_10 =>
      chz 10 <|
      nm (a_1 - a_1 / 10 * 10 : Int32) fun t_12 =>
      chi v_now_tools 6 <|
      nm (upd v_now_m v_now_tools.toNatClampNeg t_12) fun w_14 =>
      nm (v_now_tools + 1 : Int32) fun t_15 =>
      some (v_now_tools, v_errors, t_15, w_10, w_14)

abbrev rm_X11_tool : Room := { frames := 2, cells := 0, slots := 0, locals := 43 }
set_option maxHeartbeats 4000000 in
set_option maxRecDepth 100000 in
theorem c_X11_tool (l : Launch) (D : va_G) (c : Nat → ClassId) (q_this q_now q_kept q_kinds q_voice q_thought q_further q_errors q_sheetBits q_sheetLength q_numbers q_now_wall q_now_kind q_now_m q_now_tape q_now_moved q_now_seen q_now_told : Nat) (a_1 : Int32) (v_images : Int32) (v_errors : Nat → Int32) (v_now_tools : Int32) (v_now_tapeLength : Int32) (v_now_z : Int32) (v_now_waiting : Int32) (v_now_kind : Nat → Int32) (v_now_m : Nat → Int32) (o_r : Int32) (o_v_errors : Nat → Int32) (o_v_now_tools : Int32) (o_v_now_kind : Nat → Int32) (o_v_now_m : Nat → Int32) (h : f_X11_tool a_1 v_errors v_now_tools v_now_kind v_now_m = some (o_r, o_v_errors, o_v_now_tools, o_v_now_kind, o_v_now_m)) : gMI l yX11_tool wsX11_tool rm_X11_tool D c [.ref q_this, .int a_1] [(q_this, .inr (11, [.ref q_now, .ref q_kept, .int v_images, .ref q_kinds, .ref q_voice, .ref q_thought, .ref q_further, .ref q_errors, .ref q_sheetBits, .ref q_sheetLength, .ref q_numbers])), (q_errors, .inl (c 0, 6, .inl v_errors)), (q_now, .inr (7, [.ref q_now_wall, .int v_now_tools, .ref q_now_kind, .ref q_now_m, .ref q_now_tape, .int v_now_tapeLength, .ref q_now_moved, .ref q_now_seen, .int v_now_z, .ref q_now_told, .int v_now_waiting])), (q_now_kind, .inl (c 0, 6, .inl v_now_kind)), (q_now_m, .inl (c 0, 6, .inl v_now_m))] [(q_this, .inr (11, [.ref q_now, .ref q_kept, .int v_images, .ref q_kinds, .ref q_voice, .ref q_thought, .ref q_further, .ref q_errors, .ref q_sheetBits, .ref q_sheetLength, .ref q_numbers])), (q_errors, .inl (c 0, 6, .inl o_v_errors)), (q_now, .inr (7, [.ref q_now_wall, .int o_v_now_tools, .ref q_now_kind, .ref q_now_m, .ref q_now_tape, .int v_now_tapeLength, .ref q_now_moved, .ref q_now_seen, .int v_now_z, .ref q_now_told, .int v_now_waiting])), (q_now_kind, .inl (c 0, 6, .inl o_v_now_kind)), (q_now_m, .inl (c 0, 6, .inl o_v_now_m))] o_r := by
  refine gMI_of (cc := cX11_tool) (maxL := 3) (rt := (some .int)) (by decide +kernel) rfl (Nat.le_of_ble_eq_true rfl) ?_
  intro p e s m below meth co A hF hK hX hP hD hA hS ls hl
  obtain ⟨hx, hb, hr, hts, hown, hlocks, hml⟩ := id hF
  have hl : lv_has ls 3 [(0, .ref q_this), (1, .int a_1)] := hl
  unfold f_X11_tool at h
  refine lv_iload_n hx hb dX11_tool_0 rfl (lv_at hl 1 rfl) ?_
  refine lv_iconst (v := 0) hx hb dX11_tool_1 (by decide) ?_
  refine lv_bipush (v := 69) hx hb dX11_tool_2 (by decide) ?_
  replace h := kb_ok h
  obtain ⟨r_2, hc_1, h⟩ := h
  refine gCallIr (isC := []) (wc := []) hP hD hS hA trivial (va_runS (rm := rm_X11_within) (ws := wsX11_within) (As := [.int a_1, .int 0, .int 69]) (rest := []) (gFix hF) (c_X11_within l D c a_1 0 69 r_2 hc_1 s.heap.size) (va_cwS 3 hts gX11_tool_X11_within rfl rfl rfl (by decide +kernel) ⟨Nat.le_of_ble_eq_true rfl, Nat.le_of_ble_eq_true rfl⟩) (gPreS (wc := []) (isC := []) hK hX hS hA hP hD trivial (by decide +kernel)) rfl rfl hl.1 rfl (lv_room (Nat.le_of_ble_eq_true rfl)) dX11_tool_4 ⟨Nat.le_of_ble_eq_true rfl, Nat.le_of_ble_eq_true rfl⟩) (fun H locs hP hS => ?_)
  refine lv_if_ne (tgt := 16) hx hb dX11_tool_7 (by decide) (fun c_3 => ?_) (fun c_3 => ?_)
  · replace h := it_f c_3 h
    refine lv_aload_n hx hb dX11_tool_16 rfl (lv_at hl 0 rfl) ?_
    refine va_get (D := D) (ci := 11) (v := .ref q_now) (C := RX11) (T := TX11) (N := 11) hx hb hts in_X11_tool_X11 hown hK.1 hP 0 rfl rfl 0 (by decide) (hts (.fieldLink RX11 14 "PaperBubbles" "now" "LPaperBubbles$State;") (List.mem_of_getElem? (i := 1) rfl)) (fun _ h9 => h9) rfl dX11_tool_17 ?_
    refine va_getN (D := D) (ci := 7) (v := .int v_now_tools) (C := RX7) (T := TX7) (N := 11) hx hb hts in_X11_tool_X7 hown hK.1 hP 2 rfl rfl 1 (by decide) (va_Nw.use rfl (hK.2 (.fieldLinkNest "PaperBubbles" 132 "PaperBubbles$State" "tools" "I" "PaperBubbles") (List.mem_of_getElem? (i := 4) rfl))) (fun _ h9 => h9) rfl dX11_tool_20 ?_
    refine lv_istore_n (lv' := [(2, .int v_now_tools), (0, .ref q_this), (1, .int a_1)]) hx hb dX11_tool_23 rfl hl (by decide) rfl (fun ls hl => ?_)
    refine lv_iload_n hx hb dX11_tool_24 rfl (lv_at hl 0 rfl) ?_
    refine lv_iconst (v := 0) hx hb dX11_tool_25 (by decide) ?_
    refine lv_iconst (v := 5) hx hb dX11_tool_26 (by decide) ?_
    replace h := kb_ok h
    obtain ⟨r_5, hc_4, h⟩ := h
    refine gCallIr (isC := []) (wc := []) hP hD hS hA trivial (va_runS (rm := rm_X11_within) (ws := wsX11_within) (As := [.int v_now_tools, .int 0, .int 5]) (rest := []) (gFix hF) (c_X11_within l D c v_now_tools 0 5 r_5 hc_4 H.size) (va_cwS 3 hts gX11_tool_X11_within rfl rfl rfl (by decide +kernel) ⟨Nat.le_of_ble_eq_true rfl, Nat.le_of_ble_eq_true rfl⟩) (gPreS (wc := []) (isC := []) hK hX hS hA hP hD trivial (by decide +kernel)) rfl rfl hl.1 rfl (lv_room (Nat.le_of_ble_eq_true rfl)) dX11_tool_27 ⟨Nat.le_of_ble_eq_true rfl, Nat.le_of_ble_eq_true rfl⟩) (fun H locs hP hS => ?_)
    refine lv_if_ne (tgt := 39) hx hb dX11_tool_30 (by decide) (fun c_6 => ?_) (fun c_6 => ?_)
    · replace h := it_f c_6 h
      refine lv_aload_n hx hb dX11_tool_39 rfl (lv_at hl 1 rfl) ?_
      refine va_get (D := D) (ci := 11) (v := .ref q_now) (C := RX11) (T := TX11) (N := 11) hx hb hts in_X11_tool_X11 hown hK.1 hP 0 rfl rfl 0 (by decide) (hts (.fieldLink RX11 14 "PaperBubbles" "now" "LPaperBubbles$State;") (List.mem_of_getElem? (i := 1) rfl)) (fun _ h9 => h9) rfl dX11_tool_40 ?_
      refine va_getN (D := D) (ci := 7) (v := .ref q_now_kind) (C := RX7) (T := TX7) (N := 11) hx hb hts in_X11_tool_X7 hown hK.1 hP 2 rfl rfl 2 (by decide) (va_Nw.use rfl (hK.2 (.fieldLinkNest "PaperBubbles" 136 "PaperBubbles$State" "kind" "[I" "PaperBubbles") (List.mem_of_getElem? (i := 5) rfl))) (fun _ h9 => h9) rfl dX11_tool_43 ?_
      refine lv_iload_n hx hb dX11_tool_46 rfl (lv_at hl 0 rfl) ?_
      refine lv_iload_n hx hb dX11_tool_47 rfl (lv_at hl 2 rfl) ?_
      refine lv_bipush (v := 10) hx hb dX11_tool_48 (by decide) ?_
      replace h := chz_ok h
      obtain ⟨hz_7, h⟩ := h
      refine lv_idiv hx hb dX11_tool_50 hz_7 ?_
      replace h := nm_ok h
      obtain ⟨t_8, et_8, h⟩ := h
      refine gTop et_8 ?_
      replace h := chi_ok h
      obtain ⟨hi_9, h⟩ := h
      replace h := nm_ok h
      obtain ⟨w_10, ew_10, h⟩ := h
      refine va_iast hx hb hK.1 hP hD hS 3 0 rfl rfl hi_9 dX11_tool_51 (fun H locs hP hD hS => ?_)
      have hP : va_P D gcl [(q_this, .inr (11, [.ref q_now, .ref q_kept, .int v_images, .ref q_kinds, .ref q_voice, .ref q_thought, .ref q_further, .ref q_errors, .ref q_sheetBits, .ref q_sheetLength, .ref q_numbers])), (q_errors, .inl (c 0, 6, .inl v_errors)), (q_now, .inr (7, [.ref q_now_wall, .int v_now_tools, .ref q_now_kind, .ref q_now_m, .ref q_now_tape, .int v_now_tapeLength, .ref q_now_moved, .ref q_now_seen, .int v_now_z, .ref q_now_told, .int v_now_waiting])), (q_now_kind, .inl (c 0, 6, .inl w_10)), (q_now_m, .inl (c 0, 6, .inl v_now_m))] H := by subst ew_10; exact hP
      have hD : va_D A [(q_this, .inr (11, [.ref q_now, .ref q_kept, .int v_images, .ref q_kinds, .ref q_voice, .ref q_thought, .ref q_further, .ref q_errors, .ref q_sheetBits, .ref q_sheetLength, .ref q_numbers])), (q_errors, .inl (c 0, 6, .inl v_errors)), (q_now, .inr (7, [.ref q_now_wall, .int v_now_tools, .ref q_now_kind, .ref q_now_m, .ref q_now_tape, .int v_now_tapeLength, .ref q_now_moved, .ref q_now_seen, .int v_now_z, .ref q_now_told, .int v_now_waiting])), (q_now_kind, .inl (c 0, 6, .inl w_10)), (q_now_m, .inl (c 0, 6, .inl v_now_m))] := by subst ew_10; exact hD
      refine lv_aload_n hx hb dX11_tool_52 rfl (lv_at hl 1 rfl) ?_
      refine va_get (D := D) (ci := 11) (v := .ref q_now) (C := RX11) (T := TX11) (N := 11) hx hb hts in_X11_tool_X11 hown hK.1 hP 0 rfl rfl 0 (by decide) (hts (.fieldLink RX11 14 "PaperBubbles" "now" "LPaperBubbles$State;") (List.mem_of_getElem? (i := 1) rfl)) (fun _ h9 => h9) rfl dX11_tool_53 ?_
      refine va_getN (D := D) (ci := 7) (v := .ref q_now_m) (C := RX7) (T := TX7) (N := 11) hx hb hts in_X11_tool_X7 hown hK.1 hP 2 rfl rfl 3 (by decide) (va_Nw.use rfl (hK.2 (.fieldLinkNest "PaperBubbles" 139 "PaperBubbles$State" "m" "[I" "PaperBubbles") (List.mem_of_getElem? (i := 6) rfl))) (fun _ h9 => h9) rfl dX11_tool_56 ?_
      refine lv_iload_n hx hb dX11_tool_59 rfl (lv_at hl 0 rfl) ?_
      refine lv_iload_n hx hb dX11_tool_60 rfl (lv_at hl 2 rfl) ?_
      refine lv_bipush (v := 10) hx hb dX11_tool_61 (by decide) ?_
      replace h := chz_ok h
      obtain ⟨hz_11, h⟩ := h
      refine lv_irem hx hb dX11_tool_63 hz_11 ?_
      replace h := nm_ok h
      obtain ⟨t_12, et_12, h⟩ := h
      refine gTop et_12 ?_
      replace h := chi_ok h
      obtain ⟨hi_13, h⟩ := h
      replace h := nm_ok h
      obtain ⟨w_14, ew_14, h⟩ := h
      refine va_iast hx hb hK.1 hP hD hS 4 0 rfl rfl hi_13 dX11_tool_64 (fun H locs hP hD hS => ?_)
      have hP : va_P D gcl [(q_this, .inr (11, [.ref q_now, .ref q_kept, .int v_images, .ref q_kinds, .ref q_voice, .ref q_thought, .ref q_further, .ref q_errors, .ref q_sheetBits, .ref q_sheetLength, .ref q_numbers])), (q_errors, .inl (c 0, 6, .inl v_errors)), (q_now, .inr (7, [.ref q_now_wall, .int v_now_tools, .ref q_now_kind, .ref q_now_m, .ref q_now_tape, .int v_now_tapeLength, .ref q_now_moved, .ref q_now_seen, .int v_now_z, .ref q_now_told, .int v_now_waiting])), (q_now_kind, .inl (c 0, 6, .inl w_10)), (q_now_m, .inl (c 0, 6, .inl w_14))] H := by subst ew_14; exact hP
      have hD : va_D A [(q_this, .inr (11, [.ref q_now, .ref q_kept, .int v_images, .ref q_kinds, .ref q_voice, .ref q_thought, .ref q_further, .ref q_errors, .ref q_sheetBits, .ref q_sheetLength, .ref q_numbers])), (q_errors, .inl (c 0, 6, .inl v_errors)), (q_now, .inr (7, [.ref q_now_wall, .int v_now_tools, .ref q_now_kind, .ref q_now_m, .ref q_now_tape, .int v_now_tapeLength, .ref q_now_moved, .ref q_now_seen, .int v_now_z, .ref q_now_told, .int v_now_waiting])), (q_now_kind, .inl (c 0, 6, .inl w_10)), (q_now_m, .inl (c 0, 6, .inl w_14))] := by subst ew_14; exact hD
      refine lv_aload_n hx hb dX11_tool_65 rfl (lv_at hl 1 rfl) ?_
      refine va_get (D := D) (ci := 11) (v := .ref q_now) (C := RX11) (T := TX11) (N := 11) hx hb hts in_X11_tool_X11 hown hK.1 hP 0 rfl rfl 0 (by decide) (hts (.fieldLink RX11 14 "PaperBubbles" "now" "LPaperBubbles$State;") (List.mem_of_getElem? (i := 1) rfl)) (fun _ h9 => h9) rfl dX11_tool_66 ?_
      refine lv_iload_n hx hb dX11_tool_69 rfl (lv_at hl 0 rfl) ?_
      refine lv_iconst (v := 1) hx hb dX11_tool_70 (by decide) ?_
      refine lv_iadd hx hb dX11_tool_71 ?_
      replace h := nm_ok h
      obtain ⟨t_15, et_15, h⟩ := h
      refine gTop et_15 ?_
      refine va_putN (D := D) (ci := 7) (v := .int t_15) (ty := .int) (C := RX7) (T := TX7) (N := 11) hx hb hts in_X11_tool_X7 tyX7 tyX7_ok nmX7 hown hK.1 hP hD hS 2 rfl rfl 1 (by decide) (va_Nw.use rfl (hK.2 (.fieldLinkNest "PaperBubbles" 132 "PaperBubbles$State" "tools" "I" "PaperBubbles") (List.mem_of_getElem? (i := 4) rfl))) (fun _ h9 => h9) rfl (by decide +kernel) rfl rfl (Nat.le_of_ble_eq_true rfl) dX11_tool_72 (fun H locs hP hD hS => ?_)
      have hP : va_P D gcl [(q_this, .inr (11, [.ref q_now, .ref q_kept, .int v_images, .ref q_kinds, .ref q_voice, .ref q_thought, .ref q_further, .ref q_errors, .ref q_sheetBits, .ref q_sheetLength, .ref q_numbers])), (q_errors, .inl (c 0, 6, .inl v_errors)), (q_now, .inr (7, [.ref q_now_wall, .int t_15, .ref q_now_kind, .ref q_now_m, .ref q_now_tape, .int v_now_tapeLength, .ref q_now_moved, .ref q_now_seen, .int v_now_z, .ref q_now_told, .int v_now_waiting])), (q_now_kind, .inl (c 0, 6, .inl w_10)), (q_now_m, .inl (c 0, 6, .inl w_14))] H := hP
      have hD : va_D A [(q_this, .inr (11, [.ref q_now, .ref q_kept, .int v_images, .ref q_kinds, .ref q_voice, .ref q_thought, .ref q_further, .ref q_errors, .ref q_sheetBits, .ref q_sheetLength, .ref q_numbers])), (q_errors, .inl (c 0, 6, .inl v_errors)), (q_now, .inr (7, [.ref q_now_wall, .int t_15, .ref q_now_kind, .ref q_now_m, .ref q_now_tape, .int v_now_tapeLength, .ref q_now_moved, .ref q_now_seen, .int v_now_z, .ref q_now_told, .int v_now_waiting])), (q_now_kind, .inl (c 0, 6, .inl w_10)), (q_now_m, .inl (c 0, 6, .inl w_14))] := hD
      refine lv_iload_n hx hb dX11_tool_75 rfl (lv_at hl 0 rfl) ?_
      replace h := so5 h
      obtain ⟨z0, z1, z2, z3, z4⟩ := h
      subst z0 z1 z2 z3 z4
      exact gIret hF hP hD hS rfl dX11_tool_76
    · replace h := it_t c_6 h
      refine lv_aload_n hx hb dX11_tool_33 rfl (lv_at hl 1 rfl) ?_
      refine lv_iconst (v := 4) hx hb dX11_tool_34 (by decide) ?_
      replace h := kb2_ok h
      obtain ⟨r_17, w_18, hc_16, h⟩ := h
      refine gCallI (isC := [0, 1]) (wc := [(q_this, .inr (11, [.ref q_now, .ref q_kept, .int v_images, .ref q_kinds, .ref q_voice, .ref q_thought, .ref q_further, .ref q_errors, .ref q_sheetBits, .ref q_sheetLength, .ref q_numbers])), (q_errors, .inl (c 0, 6, .inl v_errors))]) (w1 := [(q_this, .inr (11, [.ref q_now, .ref q_kept, .int v_images, .ref q_kinds, .ref q_voice, .ref q_thought, .ref q_further, .ref q_errors, .ref q_sheetBits, .ref q_sheetLength, .ref q_numbers])), (q_errors, .inl (c 0, 6, .inl w_18))]) (ws2 := [(q_this, .inr (11, [.ref q_now, .ref q_kept, .int v_images, .ref q_kinds, .ref q_voice, .ref q_thought, .ref q_further, .ref q_errors, .ref q_sheetBits, .ref q_sheetLength, .ref q_numbers])), (q_errors, .inl (c 0, 6, .inl w_18)), (q_now, .inr (7, [.ref q_now_wall, .int v_now_tools, .ref q_now_kind, .ref q_now_m, .ref q_now_tape, .int v_now_tapeLength, .ref q_now_moved, .ref q_now_seen, .int v_now_z, .ref q_now_told, .int v_now_waiting])), (q_now_kind, .inl (c 0, 6, .inl v_now_kind)), (q_now_m, .inl (c 0, 6, .inl v_now_m))]) (ms := [(some 0), (some 1), none, none, none]) hP hD hS hA ⟨rfl, rfl, trivial⟩ (by decide +kernel) ⟨rfl, rfl, rfl, rfl, rfl, trivial⟩ (va_runV (rm := rm_X11_error) (ws := wsX11_error) (As := [.int 4]) (rest := []) (gFix hF) (c_X11_error l D c q_this q_now q_kept q_kinds q_voice q_thought q_further q_errors q_sheetBits q_sheetLength q_numbers 4 v_images v_errors r_17 w_18 hc_16 H.size) (cwV 1 hts gX11_tool_X11_error rfl rfl rfl (by decide +kernel) ⟨Nat.le_of_ble_eq_true rfl, Nat.le_of_ble_eq_true rfl⟩) (gPreV (wc := [(q_this, .inr (11, [.ref q_now, .ref q_kept, .int v_images, .ref q_kinds, .ref q_voice, .ref q_thought, .ref q_further, .ref q_errors, .ref q_sheetBits, .ref q_sheetLength, .ref q_numbers])), (q_errors, .inl (c 0, 6, .inl v_errors))]) (q := (RX11, TX11, 11)) (ci := 11) (q0 := 0) (isC := [0, 1]) hK hX hS hA hP hD ⟨rfl, rfl, trivial⟩ (by decide +kernel) rfl rfl) rfl rfl hl.1 rfl (lv_room (Nat.le_of_ble_eq_true rfl)) dX11_tool_35 ⟨Nat.le_of_ble_eq_true rfl, Nat.le_of_ble_eq_true rfl⟩) (fun H locs hP hD hS => ?_)
      replace h := so5 h
      obtain ⟨z0, z1, z2, z3, z4⟩ := h
      subst z0 z1 z2 z3 z4
      exact gIret hF hP hD hS rfl dX11_tool_38
  · replace h := it_t c_3 h
    refine lv_aload_n hx hb dX11_tool_10 rfl (lv_at hl 0 rfl) ?_
    refine lv_iconst (v := 1) hx hb dX11_tool_11 (by decide) ?_
    replace h := kb2_ok h
    obtain ⟨r_20, w_21, hc_19, h⟩ := h
    refine gCallI (isC := [0, 1]) (wc := [(q_this, .inr (11, [.ref q_now, .ref q_kept, .int v_images, .ref q_kinds, .ref q_voice, .ref q_thought, .ref q_further, .ref q_errors, .ref q_sheetBits, .ref q_sheetLength, .ref q_numbers])), (q_errors, .inl (c 0, 6, .inl v_errors))]) (w1 := [(q_this, .inr (11, [.ref q_now, .ref q_kept, .int v_images, .ref q_kinds, .ref q_voice, .ref q_thought, .ref q_further, .ref q_errors, .ref q_sheetBits, .ref q_sheetLength, .ref q_numbers])), (q_errors, .inl (c 0, 6, .inl w_21))]) (ws2 := [(q_this, .inr (11, [.ref q_now, .ref q_kept, .int v_images, .ref q_kinds, .ref q_voice, .ref q_thought, .ref q_further, .ref q_errors, .ref q_sheetBits, .ref q_sheetLength, .ref q_numbers])), (q_errors, .inl (c 0, 6, .inl w_21)), (q_now, .inr (7, [.ref q_now_wall, .int v_now_tools, .ref q_now_kind, .ref q_now_m, .ref q_now_tape, .int v_now_tapeLength, .ref q_now_moved, .ref q_now_seen, .int v_now_z, .ref q_now_told, .int v_now_waiting])), (q_now_kind, .inl (c 0, 6, .inl v_now_kind)), (q_now_m, .inl (c 0, 6, .inl v_now_m))]) (ms := [(some 0), (some 1), none, none, none]) hP hD hS hA ⟨rfl, rfl, trivial⟩ (by decide +kernel) ⟨rfl, rfl, rfl, rfl, rfl, trivial⟩ (va_runV (rm := rm_X11_error) (ws := wsX11_error) (As := [.int 1]) (rest := []) (gFix hF) (c_X11_error l D c q_this q_now q_kept q_kinds q_voice q_thought q_further q_errors q_sheetBits q_sheetLength q_numbers 1 v_images v_errors r_20 w_21 hc_19 H.size) (cwV 1 hts gX11_tool_X11_error rfl rfl rfl (by decide +kernel) ⟨Nat.le_of_ble_eq_true rfl, Nat.le_of_ble_eq_true rfl⟩) (gPreV (wc := [(q_this, .inr (11, [.ref q_now, .ref q_kept, .int v_images, .ref q_kinds, .ref q_voice, .ref q_thought, .ref q_further, .ref q_errors, .ref q_sheetBits, .ref q_sheetLength, .ref q_numbers])), (q_errors, .inl (c 0, 6, .inl v_errors))]) (q := (RX11, TX11, 11)) (ci := 11) (q0 := 0) (isC := [0, 1]) hK hX hS hA hP hD ⟨rfl, rfl, trivial⟩ (by decide +kernel) rfl rfl) rfl rfl hl.1 rfl (lv_room (Nat.le_of_ble_eq_true rfl)) dX11_tool_12 ⟨Nat.le_of_ble_eq_true rfl, Nat.le_of_ble_eq_true rfl⟩) (fun H locs hP hD hS => ?_)
    replace h := so5 h
    obtain ⟨z0, z1, z2, z3, z4⟩ := h
    subst z0 z1 z2 z3 z4
    exact gIret hF hP hD hS rfl dX11_tool_15
set_option maxRecDepth 20000 in
theorem in_X11_trace_X11 : ∀ w ∈ u_ws RX11 TX11 11, w ∈ wsX11_trace := by decide +kernel
set_option maxRecDepth 20000 in
theorem in_X11_trace_X9 : ∀ w ∈ u_ws RX9 TX9 4, w ∈ wsX11_trace := by decide +kernel
def f_X11_trace_L35 (v_errors : Nat → Int32) : Option (Int32 × (Nat → Int32)) :=
  kb2 (f_X11_error 2 v_errors) fun r_9 w_10 =>
  some (r_9, w_10)

def f_X11_trace (a_1 : Int32) (v_errors : Nat → Int32) (v_voice_length : Int32) (v_voice_bodies : Nat → Int32) : Option (Int32 × (Nat → Int32)) :=
  nm (v_voice_length - 1 : Int32) fun t_1 =>
  kb (f_X11_within a_1 0 t_1) fun r_3 =>
  if r_3 = 0 then
    f_X11_trace_L35 v_errors
  else
    if 40 ≤ a_1 then
      f_X11_trace_L35 v_errors
    else
      chi a_1 40 <|
      nm (v_voice_bodies a_1.toNatClampNeg : Int32) fun t_7 =>
      some (t_7, v_errors)

abbrev rm_X11_trace : Room := { frames := 2, cells := 0, slots := 0, locals := 43 }
set_option maxHeartbeats 4000000 in
set_option maxRecDepth 100000 in
theorem c_X11_trace (l : Launch) (D : va_G) (c : Nat → ClassId) (q_this q_now q_kept q_kinds q_voice q_thought q_further q_errors q_sheetBits q_sheetLength q_numbers q_voice_bodies : Nat) (a_1 : Int32) (v_images : Int32) (v_errors : Nat → Int32) (v_voice_n : Int32) (v_voice_m : Int32) (v_voice_length : Int32) (v_voice_bodies : Nat → Int32) (o_r : Int32) (o_v_errors : Nat → Int32) (h : f_X11_trace a_1 v_errors v_voice_length v_voice_bodies = some (o_r, o_v_errors)) : gMI l yX11_trace wsX11_trace rm_X11_trace D c [.ref q_this, .int a_1] [(q_this, .inr (11, [.ref q_now, .ref q_kept, .int v_images, .ref q_kinds, .ref q_voice, .ref q_thought, .ref q_further, .ref q_errors, .ref q_sheetBits, .ref q_sheetLength, .ref q_numbers])), (q_errors, .inl (c 0, 6, .inl v_errors)), (q_voice, .inr (9, [.int v_voice_n, .int v_voice_m, .ref q_voice_bodies, .int v_voice_length])), (q_voice_bodies, .inl (c 0, 40, .inl v_voice_bodies))] [(q_this, .inr (11, [.ref q_now, .ref q_kept, .int v_images, .ref q_kinds, .ref q_voice, .ref q_thought, .ref q_further, .ref q_errors, .ref q_sheetBits, .ref q_sheetLength, .ref q_numbers])), (q_errors, .inl (c 0, 6, .inl o_v_errors)), (q_voice, .inr (9, [.int v_voice_n, .int v_voice_m, .ref q_voice_bodies, .int v_voice_length])), (q_voice_bodies, .inl (c 0, 40, .inl v_voice_bodies))] o_r := by
  refine gMI_of (cc := cX11_trace) (maxL := 2) (rt := (some .int)) (by decide +kernel) rfl (Nat.le_of_ble_eq_true rfl) ?_
  intro p e s m below meth co A hF hK hX hP hD hA hS ls hl
  obtain ⟨hx, hb, hr, hts, hown, hlocks, hml⟩ := id hF
  have hl : lv_has ls 2 [(0, .ref q_this), (1, .int a_1)] := hl
  have t_L35 : ∀ (v_errors : Nat → Int32) (H : Heap) (locs : List Loc), va_P D gcl [(q_this, .inr (11, [.ref q_now, .ref q_kept, .int v_images, .ref q_kinds, .ref q_voice, .ref q_thought, .ref q_further, .ref q_errors, .ref q_sheetBits, .ref q_sheetLength, .ref q_numbers])), (q_errors, .inl (c 0, 6, .inl v_errors)), (q_voice, .inr (9, [.int v_voice_n, .int v_voice_m, .ref q_voice_bodies, .int v_voice_length])), (q_voice_bodies, .inl (c 0, 40, .inl v_voice_bodies))] H → va_D A [(q_this, .inr (11, [.ref q_now, .ref q_kept, .int v_images, .ref q_kinds, .ref q_voice, .ref q_thought, .ref q_further, .ref q_errors, .ref q_sheetBits, .ref q_sheetLength, .ref q_numbers])), (q_errors, .inl (c 0, 6, .inl v_errors)), (q_voice, .inr (9, [.int v_voice_n, .int v_voice_m, .ref q_voice_bodies, .int v_voice_length])), (q_voice_bodies, .inl (c 0, 40, .inl v_voice_bodies))] → va_S A s.heap H locs → ∀ ls, lv_has ls 2 [(0, .ref q_this)] → f_X11_trace_L35 v_errors = some (o_r, o_v_errors) → W p l e (headSpec wsX11_trace rm_X11_trace).room s m [.ref q_this, .int a_1].toArray below meth co H locs 0 0 (gQI D [(q_this, .inr (11, [.ref q_now, .ref q_kept, .int v_images, .ref q_kinds, .ref q_voice, .ref q_thought, .ref q_further, .ref q_errors, .ref q_sheetBits, .ref q_sheetLength, .ref q_numbers])), (q_errors, .inl (c 0, 6, .inl o_v_errors)), (q_voice, .inr (9, [.int v_voice_n, .int v_voice_m, .ref q_voice_bodies, .int v_voice_length])), (q_voice_bodies, .inl (c 0, 40, .inl v_voice_bodies))] o_r A below [.ref q_this, .int a_1] s) (F0 m 35 ls []) := by
    intro  v_errors H locs hP hD hS ls hl h
    unfold f_X11_trace_L35 at h
    refine lv_aload_n hx hb dX11_trace_35 rfl (lv_at hl 0 rfl) ?_
    refine lv_iconst (v := 2) hx hb dX11_trace_36 (by decide) ?_
    replace h := kb2_ok h
    obtain ⟨r_9, w_10, hc_8, h⟩ := h
    refine gCallI (isC := [0, 1]) (wc := [(q_this, .inr (11, [.ref q_now, .ref q_kept, .int v_images, .ref q_kinds, .ref q_voice, .ref q_thought, .ref q_further, .ref q_errors, .ref q_sheetBits, .ref q_sheetLength, .ref q_numbers])), (q_errors, .inl (c 0, 6, .inl v_errors))]) (w1 := [(q_this, .inr (11, [.ref q_now, .ref q_kept, .int v_images, .ref q_kinds, .ref q_voice, .ref q_thought, .ref q_further, .ref q_errors, .ref q_sheetBits, .ref q_sheetLength, .ref q_numbers])), (q_errors, .inl (c 0, 6, .inl w_10))]) (ws2 := [(q_this, .inr (11, [.ref q_now, .ref q_kept, .int v_images, .ref q_kinds, .ref q_voice, .ref q_thought, .ref q_further, .ref q_errors, .ref q_sheetBits, .ref q_sheetLength, .ref q_numbers])), (q_errors, .inl (c 0, 6, .inl w_10)), (q_voice, .inr (9, [.int v_voice_n, .int v_voice_m, .ref q_voice_bodies, .int v_voice_length])), (q_voice_bodies, .inl (c 0, 40, .inl v_voice_bodies))]) (ms := [(some 0), (some 1), none, none]) hP hD hS hA ⟨rfl, rfl, trivial⟩ (by decide +kernel) ⟨rfl, rfl, rfl, rfl, trivial⟩ (va_runV (rm := rm_X11_error) (ws := wsX11_error) (As := [.int 2]) (rest := []) (gFix hF) (c_X11_error l D c q_this q_now q_kept q_kinds q_voice q_thought q_further q_errors q_sheetBits q_sheetLength q_numbers 2 v_images v_errors r_9 w_10 hc_8 H.size) (cwV 1 hts gX11_trace_X11_error rfl rfl rfl (by decide +kernel) ⟨Nat.le_of_ble_eq_true rfl, Nat.le_of_ble_eq_true rfl⟩) (gPreV (wc := [(q_this, .inr (11, [.ref q_now, .ref q_kept, .int v_images, .ref q_kinds, .ref q_voice, .ref q_thought, .ref q_further, .ref q_errors, .ref q_sheetBits, .ref q_sheetLength, .ref q_numbers])), (q_errors, .inl (c 0, 6, .inl v_errors))]) (q := (RX11, TX11, 11)) (ci := 11) (q0 := 0) (isC := [0, 1]) hK hX hS hA hP hD ⟨rfl, rfl, trivial⟩ (by decide +kernel) rfl rfl) rfl rfl hl.1 rfl (lv_room (Nat.le_of_ble_eq_true rfl)) dX11_trace_37 ⟨Nat.le_of_ble_eq_true rfl, Nat.le_of_ble_eq_true rfl⟩) (fun H locs hP hD hS => ?_)
    replace h := so2 h
    obtain ⟨z0, z1⟩ := h
    subst z0 z1
    exact gIret hF hP hD hS rfl dX11_trace_40
  unfold f_X11_trace at h
  refine lv_iload_n hx hb dX11_trace_0 rfl (lv_at hl 1 rfl) ?_
  refine lv_iconst (v := 0) hx hb dX11_trace_1 (by decide) ?_
  refine lv_aload_n hx hb dX11_trace_2 rfl (lv_at hl 0 rfl) ?_
  refine va_get (D := D) (ci := 11) (v := .ref q_voice) (C := RX11) (T := TX11) (N := 11) hx hb hts in_X11_trace_X11 hown hK.1 hP 0 rfl rfl 4 (by decide) (hts (.fieldLink RX11 49 "PaperBubbles" "voice" "LPaperBubbles$Voice;") (List.mem_of_getElem? (i := 1) rfl)) (fun _ h9 => h9) rfl dX11_trace_3 ?_
  refine va_getN (D := D) (ci := 9) (v := .int v_voice_length) (C := RX9) (T := TX9) (N := 4) hx hb hts in_X11_trace_X9 hown hK.1 hP 2 rfl rfl 3 (by decide) (va_Nw.use rfl (hK.2 (.fieldLinkNest "PaperBubbles" 279 "PaperBubbles$Voice" "length" "I" "PaperBubbles") (List.mem_of_getElem? (i := 12) rfl))) (fun _ h9 => h9) rfl dX11_trace_6 ?_
  refine lv_iconst (v := 1) hx hb dX11_trace_9 (by decide) ?_
  refine lv_isub hx hb dX11_trace_10 ?_
  replace h := nm_ok h
  obtain ⟨t_1, et_1, h⟩ := h
  refine gTop et_1 ?_
  replace h := kb_ok h
  obtain ⟨r_3, hc_2, h⟩ := h
  refine gCallIr (isC := []) (wc := []) hP hD hS hA trivial (va_runS (rm := rm_X11_within) (ws := wsX11_within) (As := [.int a_1, .int 0, .int t_1]) (rest := []) (gFix hF) (c_X11_within l D c a_1 0 t_1 r_3 hc_2 s.heap.size) (va_cwS 3 hts gX11_trace_X11_within rfl rfl rfl (by decide +kernel) ⟨Nat.le_of_ble_eq_true rfl, Nat.le_of_ble_eq_true rfl⟩) (gPreS (wc := []) (isC := []) hK hX hS hA hP hD trivial (by decide +kernel)) rfl rfl hl.1 rfl (lv_room (Nat.le_of_ble_eq_true rfl)) dX11_trace_11 ⟨Nat.le_of_ble_eq_true rfl, Nat.le_of_ble_eq_true rfl⟩) (fun H locs hP hS => ?_)
  refine lv_if_eq (tgt := 35) hx hb dX11_trace_14 (by decide) (fun c_4 => ?_) (fun c_4 => ?_)
  · replace h := it_t c_4 h
    exact t_L35 v_errors H locs hP hD hS ls (lv_sub hl [0] rfl) h
  · replace h := it_f c_4 h
    refine lv_iload_n hx hb dX11_trace_17 rfl (lv_at hl 1 rfl) ?_
    refine lv_bipush (v := 40) hx hb dX11_trace_18 (by decide) ?_
    refine lv_icmp_ge (tgt := 35) hx hb dX11_trace_20 (by decide) (fun c_5 => ?_) (fun c_5 => ?_)
    · replace h := it_t c_5 h
      exact t_L35 v_errors H locs hP hD hS ls (lv_sub hl [0] rfl) h
    · replace h := it_f c_5 h
      refine lv_aload_n hx hb dX11_trace_23 rfl (lv_at hl 0 rfl) ?_
      refine va_get (D := D) (ci := 11) (v := .ref q_voice) (C := RX11) (T := TX11) (N := 11) hx hb hts in_X11_trace_X11 hown hK.1 hP 0 rfl rfl 4 (by decide) (hts (.fieldLink RX11 49 "PaperBubbles" "voice" "LPaperBubbles$Voice;") (List.mem_of_getElem? (i := 1) rfl)) (fun _ h9 => h9) rfl dX11_trace_24 ?_
      refine va_getN (D := D) (ci := 9) (v := .ref q_voice_bodies) (C := RX9) (T := TX9) (N := 4) hx hb hts in_X11_trace_X9 hown hK.1 hP 2 rfl rfl 2 (by decide) (va_Nw.use rfl (hK.2 (.fieldLinkNest "PaperBubbles" 282 "PaperBubbles$Voice" "bodies" "[I" "PaperBubbles") (List.mem_of_getElem? (i := 13) rfl))) (fun _ h9 => h9) rfl dX11_trace_27 ?_
      refine lv_iload_n hx hb dX11_trace_30 rfl (lv_at hl 1 rfl) ?_
      replace h := chi_ok h
      obtain ⟨hi_6, h⟩ := h
      refine va_iald hx hb hK.1 hP 3 0 rfl rfl hi_6 dX11_trace_31 ?_
      replace h := nm_ok h
      obtain ⟨t_7, et_7, h⟩ := h
      refine gTop et_7 ?_
      refine lv_goto (tgt := 40) hx hb dX11_trace_32 (by decide) ?_
      replace h := so2 h
      obtain ⟨z0, z1⟩ := h
      subst z0 z1
      exact gIret hF hP hD hS rfl dX11_trace_40
set_option maxRecDepth 20000 in
theorem in_X9_start_X9 : ∀ w ∈ u_ws RX9 TX9 4, w ∈ wsX9_start := by decide +kernel
def f_X9_start (a_1 : Int32) (a_2 : Int32) (v_n : Int32) (v_m : Int32) (v_length : Int32) : Option (Int32 × Int32 × Int32) :=
  some (a_1, a_2, 0)

abbrev rm_X9_start : Room := { frames := 0, cells := 0, slots := 0, locals := 0 }
set_option maxHeartbeats 4000000 in
set_option maxRecDepth 100000 in
theorem c_X9_start (l : Launch) (D : va_G) (c : Nat → ClassId) (q_this q_bodies : Nat) (a_1 : Int32) (a_2 : Int32) (v_n : Int32) (v_m : Int32) (v_length : Int32) (o_v_n : Int32) (o_v_m : Int32) (o_v_length : Int32) (h : f_X9_start a_1 a_2 v_n v_m v_length = some (o_v_n, o_v_m, o_v_length)) : gMV l yX9_start wsX9_start rm_X9_start D c [.ref q_this, .int a_1, .int a_2] [(q_this, .inr (9, [.int v_n, .int v_m, .ref q_bodies, .int v_length]))] [(q_this, .inr (9, [.int o_v_n, .int o_v_m, .ref q_bodies, .int o_v_length]))] := by
  refine gMV_of (cc := cX9_start) (maxL := 3) (rt := none) (by decide +kernel) rfl (Nat.le_of_ble_eq_true rfl) ?_
  intro p e s m below meth co A hF hK hX hP hD hA hS ls hl
  obtain ⟨hx, hb, hr, hts, hown, hlocks, hml⟩ := id hF
  have hl : lv_has ls 3 [(0, .ref q_this), (1, .int a_1), (2, .int a_2)] := hl
  unfold f_X9_start at h
  refine lv_aload_n hx hb dX9_start_0 rfl (lv_at hl 0 rfl) ?_
  refine lv_iload_n hx hb dX9_start_1 rfl (lv_at hl 1 rfl) ?_
  refine va_put (D := D) (ci := 9) (v := .int a_1) (ty := .int) (C := RX9) (T := TX9) (N := 4) hx hb hts in_X9_start_X9 tyX9 tyX9_ok nmX9 hown hK.1 hP hD hS 0 rfl rfl 0 (by decide) (hts (.fieldLink RX9 15 "PaperBubbles$Voice" "n" "I") (List.mem_of_getElem? (i := 1) rfl)) (fun _ h9 => h9) rfl (by decide +kernel) rfl rfl (Nat.le_of_ble_eq_true rfl) dX9_start_2 (fun H locs hP hD hS => ?_)
  have hP : va_P D gcl [(q_this, .inr (9, [.int a_1, .int v_m, .ref q_bodies, .int v_length]))] H := hP
  have hD : va_D A [(q_this, .inr (9, [.int a_1, .int v_m, .ref q_bodies, .int v_length]))] := hD
  refine lv_aload_n hx hb dX9_start_5 rfl (lv_at hl 0 rfl) ?_
  refine lv_iload_n hx hb dX9_start_6 rfl (lv_at hl 2 rfl) ?_
  refine va_put (D := D) (ci := 9) (v := .int a_2) (ty := .int) (C := RX9) (T := TX9) (N := 4) hx hb hts in_X9_start_X9 tyX9 tyX9_ok nmX9 hown hK.1 hP hD hS 0 rfl rfl 1 (by decide) (hts (.fieldLink RX9 19 "PaperBubbles$Voice" "m" "I") (List.mem_of_getElem? (i := 2) rfl)) (fun _ h9 => h9) rfl (by decide +kernel) rfl rfl (Nat.le_of_ble_eq_true rfl) dX9_start_7 (fun H locs hP hD hS => ?_)
  have hP : va_P D gcl [(q_this, .inr (9, [.int a_1, .int a_2, .ref q_bodies, .int v_length]))] H := hP
  have hD : va_D A [(q_this, .inr (9, [.int a_1, .int a_2, .ref q_bodies, .int v_length]))] := hD
  refine lv_aload_n hx hb dX9_start_10 rfl (lv_at hl 0 rfl) ?_
  refine lv_iconst (v := 0) hx hb dX9_start_11 (by decide) ?_
  refine va_put (D := D) (ci := 9) (v := .int 0) (ty := .int) (C := RX9) (T := TX9) (N := 4) hx hb hts in_X9_start_X9 tyX9 tyX9_ok nmX9 hown hK.1 hP hD hS 0 rfl rfl 3 (by decide) (hts (.fieldLink RX9 22 "PaperBubbles$Voice" "length" "I") (List.mem_of_getElem? (i := 3) rfl)) (fun _ h9 => h9) rfl (by decide +kernel) rfl rfl (Nat.le_of_ble_eq_true rfl) dX9_start_12 (fun H locs hP hD hS => ?_)
  have hP : va_P D gcl [(q_this, .inr (9, [.int a_1, .int a_2, .ref q_bodies, .int 0]))] H := hP
  have hD : va_D A [(q_this, .inr (9, [.int a_1, .int a_2, .ref q_bodies, .int 0]))] := hD
  replace h := so3 h
  obtain ⟨z0, z1, z2⟩ := h
  subst z0 z1 z2
  exact gVret hF hP hD hS dX9_start_15
def f_X8_sayMoves_X8 (a_1 : Int32) (v_p2_n : Int32) (v_p2_m : Int32) (v_p2_length : Int32) (v_p2_bodies : Nat → Int32) : Option (Int32 × Int32 × (Nat → Int32)) :=
  kb2 (f_X9_begin 10 v_p2_length v_p2_bodies) fun w_2 w_3 =>
  some (a_1 + v_p2_n, w_2, w_3)

abbrev rm_X8_sayMoves_X8 : Room := { frames := 1, cells := 0, slots := 0, locals := 21 }
set_option maxHeartbeats 4000000 in
set_option maxRecDepth 100000 in
theorem c_X8_sayMoves_X8 (l : Launch) (D : va_G) (c : Nat → ClassId) (q_this q_p2 q_p2_bodies : Nat) (a_1 : Int32) (v_p2_n : Int32) (v_p2_m : Int32) (v_p2_length : Int32) (v_p2_bodies : Nat → Int32) (o_r : Int32) (o_v_p2_length : Int32) (o_v_p2_bodies : Nat → Int32) (h : f_X8_sayMoves_X8 a_1 v_p2_n v_p2_m v_p2_length v_p2_bodies = some (o_r, o_v_p2_length, o_v_p2_bodies)) : gMI l yX8_sayMoves wsX8_sayMoves rm_X8_sayMoves_X8 D c [.ref q_this, .int a_1, .ref q_p2] [(q_this, .inr (8, [])), (q_p2, .inr (9, [.int v_p2_n, .int v_p2_m, .ref q_p2_bodies, .int v_p2_length])), (q_p2_bodies, .inl (c 0, 40, .inl v_p2_bodies))] [(q_this, .inr (8, [])), (q_p2, .inr (9, [.int v_p2_n, .int v_p2_m, .ref q_p2_bodies, .int o_v_p2_length])), (q_p2_bodies, .inl (c 0, 40, .inl o_v_p2_bodies))] o_r := by
  refine gMI_of (cc := cX8_sayMoves) (maxL := 3) (rt := (some .int)) (by decide +kernel) rfl (Nat.le_of_ble_eq_true rfl) ?_
  intro p e s m below meth co A hF hK hX hP hD hA hS ls hl
  obtain ⟨hx, hb, hr, hts, hown, hlocks, hml⟩ := id hF
  have hl : lv_has ls 3 [(0, .ref q_this), (1, .int a_1), (2, .ref q_p2)] := hl
  unfold f_X8_sayMoves_X8 at h
  refine lv_aload_n hx hb dX8_sayMoves_0 rfl (lv_at hl 2 rfl) ?_
  refine lv_bipush (v := 10) hx hb dX8_sayMoves_1 (by decide) ?_
  replace h := kb2_ok h
  obtain ⟨w_2, w_3, hc_1, h⟩ := h
  refine gCallV (isC := [1, 2]) (wc := [(q_p2, .inr (9, [.int v_p2_n, .int v_p2_m, .ref q_p2_bodies, .int v_p2_length])), (q_p2_bodies, .inl (c 0, 40, .inl v_p2_bodies))]) (w1 := [(q_p2, .inr (9, [.int v_p2_n, .int v_p2_m, .ref q_p2_bodies, .int w_2])), (q_p2_bodies, .inl (c 0, 40, .inl w_3))]) (ws2 := [(q_this, .inr (8, [])), (q_p2, .inr (9, [.int v_p2_n, .int v_p2_m, .ref q_p2_bodies, .int w_2])), (q_p2_bodies, .inl (c 0, 40, .inl w_3))]) (ms := [none, (some 0), (some 1)]) hP hD hS hA ⟨rfl, rfl, trivial⟩ (by decide +kernel) ⟨rfl, rfl, rfl, trivial⟩ (va_runV (rm := rm_X9_begin) (ws := wsX9_begin) (As := [.int 10]) (rest := []) (gFix hF) (c_X9_begin l D c q_p2 q_p2_bodies 10 v_p2_n v_p2_m v_p2_length v_p2_bodies w_2 w_3 hc_1 s.heap.size) (cwV 1 hts gX8_sayMoves_X9_begin rfl rfl rfl (by decide +kernel) ⟨Nat.le_of_ble_eq_true rfl, Nat.le_of_ble_eq_true rfl⟩) (gPreV (wc := [(q_p2, .inr (9, [.int v_p2_n, .int v_p2_m, .ref q_p2_bodies, .int v_p2_length])), (q_p2_bodies, .inl (c 0, 40, .inl v_p2_bodies))]) (q := (RX9, TX9, 4)) (ci := 9) (q0 := 1) (isC := [1, 2]) hK hX hS hA hP hD ⟨rfl, rfl, trivial⟩ (by decide +kernel) rfl rfl) rfl rfl hl.1 rfl (lv_room (Nat.le_of_ble_eq_true rfl)) dX8_sayMoves_3 ⟨Nat.le_of_ble_eq_true rfl, Nat.le_of_ble_eq_true rfl⟩) (fun H locs hP hD hS => ?_)
  refine lv_iload_n hx hb dX8_sayMoves_6 rfl (lv_at hl 1 rfl) ?_
  refine lv_aload_n hx hb dX8_sayMoves_7 rfl (lv_at hl 2 rfl) ?_
  refine va_getN (D := D) (ci := 9) (v := .int v_p2_n) (C := RX9) (T := TX9) (N := 4) hx hb hts in_X8_sayMoves_X9 hown hK.1 hP 1 rfl rfl 0 (by decide) (va_Nw.use rfl (hK.2 (.fieldLinkNest "PaperBubbles$Tool" 13 "PaperBubbles$Voice" "n" "I" "PaperBubbles") (List.mem_of_getElem? (i := 20) rfl))) (fun _ h9 => h9) rfl dX8_sayMoves_8 ?_
  refine lv_iadd hx hb dX8_sayMoves_11 ?_
  replace h := so3 h
  obtain ⟨z0, z1, z2⟩ := h
  subst z0 z1 z2
  exact gIret hF hP hD hS rfl dX8_sayMoves_12
def f_X8_sayLets_X8 (a_1 : Int32) (v_p2_n : Int32) (v_p2_m : Int32) (v_p2_length : Int32) (v_p2_bodies : Nat → Int32) : Option (Int32 × Int32 × (Nat → Int32)) :=
  kb2 (f_X9_begin 11 v_p2_length v_p2_bodies) fun w_2 w_3 =>
  kb3 (f_X8_sayMoves_X8 a_1 v_p2_n v_p2_m w_2 w_3) fun r_5 w_6 w_7 =>
  some (r_5 * 2, w_6, w_7)

abbrev rm_X8_sayLets_X8 : Room := { frames := 2, cells := 0, slots := 0, locals := 43 }
set_option maxHeartbeats 4000000 in
set_option maxRecDepth 100000 in
theorem c_X8_sayLets_X8 (l : Launch) (D : va_G) (c : Nat → ClassId) (q_this q_p2 q_p2_bodies : Nat) (a_1 : Int32) (v_p2_n : Int32) (v_p2_m : Int32) (v_p2_length : Int32) (v_p2_bodies : Nat → Int32) (o_r : Int32) (o_v_p2_length : Int32) (o_v_p2_bodies : Nat → Int32) (h : f_X8_sayLets_X8 a_1 v_p2_n v_p2_m v_p2_length v_p2_bodies = some (o_r, o_v_p2_length, o_v_p2_bodies)) : gMI l yX8_sayLets wsX8_sayLets rm_X8_sayLets_X8 D c [.ref q_this, .int a_1, .ref q_p2] [(q_this, .inr (8, [])), (q_p2, .inr (9, [.int v_p2_n, .int v_p2_m, .ref q_p2_bodies, .int v_p2_length])), (q_p2_bodies, .inl (c 0, 40, .inl v_p2_bodies))] [(q_this, .inr (8, [])), (q_p2, .inr (9, [.int v_p2_n, .int v_p2_m, .ref q_p2_bodies, .int o_v_p2_length])), (q_p2_bodies, .inl (c 0, 40, .inl o_v_p2_bodies))] o_r := by
  refine gMI_of (cc := cX8_sayLets) (maxL := 3) (rt := (some .int)) (by decide +kernel) rfl (Nat.le_of_ble_eq_true rfl) ?_
  intro p e s m below meth co A hF hK hX hP hD hA hS ls hl
  obtain ⟨hx, hb, hr, hts, hown, hlocks, hml⟩ := id hF
  have hl : lv_has ls 3 [(0, .ref q_this), (1, .int a_1), (2, .ref q_p2)] := hl
  unfold f_X8_sayLets_X8 at h
  refine lv_aload_n hx hb dX8_sayLets_0 rfl (lv_at hl 2 rfl) ?_
  refine lv_bipush (v := 11) hx hb dX8_sayLets_1 (by decide) ?_
  replace h := kb2_ok h
  obtain ⟨w_2, w_3, hc_1, h⟩ := h
  refine gCallV (isC := [1, 2]) (wc := [(q_p2, .inr (9, [.int v_p2_n, .int v_p2_m, .ref q_p2_bodies, .int v_p2_length])), (q_p2_bodies, .inl (c 0, 40, .inl v_p2_bodies))]) (w1 := [(q_p2, .inr (9, [.int v_p2_n, .int v_p2_m, .ref q_p2_bodies, .int w_2])), (q_p2_bodies, .inl (c 0, 40, .inl w_3))]) (ws2 := [(q_this, .inr (8, [])), (q_p2, .inr (9, [.int v_p2_n, .int v_p2_m, .ref q_p2_bodies, .int w_2])), (q_p2_bodies, .inl (c 0, 40, .inl w_3))]) (ms := [none, (some 0), (some 1)]) hP hD hS hA ⟨rfl, rfl, trivial⟩ (by decide +kernel) ⟨rfl, rfl, rfl, trivial⟩ (va_runV (rm := rm_X9_begin) (ws := wsX9_begin) (As := [.int 11]) (rest := []) (gFix hF) (c_X9_begin l D c q_p2 q_p2_bodies 11 v_p2_n v_p2_m v_p2_length v_p2_bodies w_2 w_3 hc_1 s.heap.size) (cwV 1 hts gX8_sayLets_X9_begin rfl rfl rfl (by decide +kernel) ⟨Nat.le_of_ble_eq_true rfl, Nat.le_of_ble_eq_true rfl⟩) (gPreV (wc := [(q_p2, .inr (9, [.int v_p2_n, .int v_p2_m, .ref q_p2_bodies, .int v_p2_length])), (q_p2_bodies, .inl (c 0, 40, .inl v_p2_bodies))]) (q := (RX9, TX9, 4)) (ci := 9) (q0 := 1) (isC := [1, 2]) hK hX hS hA hP hD ⟨rfl, rfl, trivial⟩ (by decide +kernel) rfl rfl) rfl rfl hl.1 rfl (lv_room (Nat.le_of_ble_eq_true rfl)) dX8_sayLets_3 ⟨Nat.le_of_ble_eq_true rfl, Nat.le_of_ble_eq_true rfl⟩) (fun H locs hP hD hS => ?_)
  refine lv_aload_n hx hb dX8_sayLets_6 rfl (lv_at hl 0 rfl) ?_
  refine lv_iload_n hx hb dX8_sayLets_7 rfl (lv_at hl 1 rfl) ?_
  refine lv_aload_n hx hb dX8_sayLets_8 rfl (lv_at hl 2 rfl) ?_
  replace h := kb3_ok h
  obtain ⟨r_5, w_6, w_7, hc_4, h⟩ := h
  refine gCallI (isC := [0, 1, 2]) (wc := [(q_this, .inr (8, [])), (q_p2, .inr (9, [.int v_p2_n, .int v_p2_m, .ref q_p2_bodies, .int w_2])), (q_p2_bodies, .inl (c 0, 40, .inl w_3))]) (w1 := [(q_this, .inr (8, [])), (q_p2, .inr (9, [.int v_p2_n, .int v_p2_m, .ref q_p2_bodies, .int w_6])), (q_p2_bodies, .inl (c 0, 40, .inl w_7))]) (ws2 := [(q_this, .inr (8, [])), (q_p2, .inr (9, [.int v_p2_n, .int v_p2_m, .ref q_p2_bodies, .int w_6])), (q_p2_bodies, .inl (c 0, 40, .inl w_7))]) (ms := [(some 0), (some 1), (some 2)]) hP hD hS hA ⟨rfl, rfl, rfl, trivial⟩ (by decide +kernel) ⟨rfl, rfl, rfl, trivial⟩ (va_runV (rm := rm_X8_sayMoves_X8) (ws := wsX8_sayMoves) (As := [.int a_1, .ref q_p2]) (rest := []) (gFix hF) (c_X8_sayMoves_X8 l D c q_this q_p2 q_p2_bodies a_1 v_p2_n v_p2_m w_2 w_3 r_5 w_6 w_7 hc_4 H.size) (cwV 2 hts gX8_sayLets_X8_sayMoves rfl rfl rfl (by decide +kernel) ⟨Nat.le_of_ble_eq_true rfl, Nat.le_of_ble_eq_true rfl⟩) (gPreV (wc := [(q_this, .inr (8, [])), (q_p2, .inr (9, [.int v_p2_n, .int v_p2_m, .ref q_p2_bodies, .int w_2])), (q_p2_bodies, .inl (c 0, 40, .inl w_3))]) (q := (RX8, TX8, 0)) (ci := 8) (q0 := 0) (isC := [0, 1, 2]) hK hX hS hA hP hD ⟨rfl, rfl, rfl, trivial⟩ (by decide +kernel) rfl rfl) rfl rfl hl.1 rfl (lv_room (Nat.le_of_ble_eq_true rfl)) dX8_sayLets_9 ⟨Nat.le_of_ble_eq_true rfl, Nat.le_of_ble_eq_true rfl⟩) (fun H locs hP hD hS => ?_)
  refine lv_iconst (v := 2) hx hb dX8_sayLets_12 (by decide) ?_
  refine lv_imul hx hb dX8_sayLets_13 ?_
  replace h := so3 h
  obtain ⟨z0, z1, z2⟩ := h
  subst z0 z1 z2
  exact gIret hF hP hD hS rfl dX8_sayLets_14
def f_X8_sayLets_X0 (a_1 : Int32) (v_p2_n : Int32) (v_p2_m : Int32) (v_p2_length : Int32) (v_p2_bodies : Nat → Int32) : Option (Int32 × Int32 × (Nat → Int32)) :=
  kb2 (f_X9_begin 11 v_p2_length v_p2_bodies) fun w_2 w_3 =>
  kb3 (f_X0_sayMoves_X0 a_1 v_p2_n v_p2_m w_2 w_3) fun r_5 w_6 w_7 =>
  some (r_5 * 2, w_6, w_7)

abbrev rm_X8_sayLets_X0 : Room := { frames := 3, cells := 0, slots := 0, locals := 65 }
set_option maxHeartbeats 4000000 in
set_option maxRecDepth 100000 in
theorem c_X8_sayLets_X0 (l : Launch) (D : va_G) (c : Nat → ClassId) (q_this q_p2 q_p2_bodies : Nat) (a_1 : Int32) (v_p2_n : Int32) (v_p2_m : Int32) (v_p2_length : Int32) (v_p2_bodies : Nat → Int32) (o_r : Int32) (o_v_p2_length : Int32) (o_v_p2_bodies : Nat → Int32) (h : f_X8_sayLets_X0 a_1 v_p2_n v_p2_m v_p2_length v_p2_bodies = some (o_r, o_v_p2_length, o_v_p2_bodies)) : gMI l yX8_sayLets wsX8_sayLets rm_X8_sayLets_X0 D c [.ref q_this, .int a_1, .ref q_p2] [(q_this, .inr (0, [])), (q_p2, .inr (9, [.int v_p2_n, .int v_p2_m, .ref q_p2_bodies, .int v_p2_length])), (q_p2_bodies, .inl (c 0, 40, .inl v_p2_bodies))] [(q_this, .inr (0, [])), (q_p2, .inr (9, [.int v_p2_n, .int v_p2_m, .ref q_p2_bodies, .int o_v_p2_length])), (q_p2_bodies, .inl (c 0, 40, .inl o_v_p2_bodies))] o_r := by
  refine gMI_of (cc := cX8_sayLets) (maxL := 3) (rt := (some .int)) (by decide +kernel) rfl (Nat.le_of_ble_eq_true rfl) ?_
  intro p e s m below meth co A hF hK hX hP hD hA hS ls hl
  obtain ⟨hx, hb, hr, hts, hown, hlocks, hml⟩ := id hF
  have hl : lv_has ls 3 [(0, .ref q_this), (1, .int a_1), (2, .ref q_p2)] := hl
  unfold f_X8_sayLets_X0 at h
  refine lv_aload_n hx hb dX8_sayLets_0 rfl (lv_at hl 2 rfl) ?_
  refine lv_bipush (v := 11) hx hb dX8_sayLets_1 (by decide) ?_
  replace h := kb2_ok h
  obtain ⟨w_2, w_3, hc_1, h⟩ := h
  refine gCallV (isC := [1, 2]) (wc := [(q_p2, .inr (9, [.int v_p2_n, .int v_p2_m, .ref q_p2_bodies, .int v_p2_length])), (q_p2_bodies, .inl (c 0, 40, .inl v_p2_bodies))]) (w1 := [(q_p2, .inr (9, [.int v_p2_n, .int v_p2_m, .ref q_p2_bodies, .int w_2])), (q_p2_bodies, .inl (c 0, 40, .inl w_3))]) (ws2 := [(q_this, .inr (0, [])), (q_p2, .inr (9, [.int v_p2_n, .int v_p2_m, .ref q_p2_bodies, .int w_2])), (q_p2_bodies, .inl (c 0, 40, .inl w_3))]) (ms := [none, (some 0), (some 1)]) hP hD hS hA ⟨rfl, rfl, trivial⟩ (by decide +kernel) ⟨rfl, rfl, rfl, trivial⟩ (va_runV (rm := rm_X9_begin) (ws := wsX9_begin) (As := [.int 11]) (rest := []) (gFix hF) (c_X9_begin l D c q_p2 q_p2_bodies 11 v_p2_n v_p2_m v_p2_length v_p2_bodies w_2 w_3 hc_1 s.heap.size) (cwV 1 hts gX8_sayLets_X9_begin rfl rfl rfl (by decide +kernel) ⟨Nat.le_of_ble_eq_true rfl, Nat.le_of_ble_eq_true rfl⟩) (gPreV (wc := [(q_p2, .inr (9, [.int v_p2_n, .int v_p2_m, .ref q_p2_bodies, .int v_p2_length])), (q_p2_bodies, .inl (c 0, 40, .inl v_p2_bodies))]) (q := (RX9, TX9, 4)) (ci := 9) (q0 := 1) (isC := [1, 2]) hK hX hS hA hP hD ⟨rfl, rfl, trivial⟩ (by decide +kernel) rfl rfl) rfl rfl hl.1 rfl (lv_room (Nat.le_of_ble_eq_true rfl)) dX8_sayLets_3 ⟨Nat.le_of_ble_eq_true rfl, Nat.le_of_ble_eq_true rfl⟩) (fun H locs hP hD hS => ?_)
  refine lv_aload_n hx hb dX8_sayLets_6 rfl (lv_at hl 0 rfl) ?_
  refine lv_iload_n hx hb dX8_sayLets_7 rfl (lv_at hl 1 rfl) ?_
  refine lv_aload_n hx hb dX8_sayLets_8 rfl (lv_at hl 2 rfl) ?_
  replace h := kb3_ok h
  obtain ⟨r_5, w_6, w_7, hc_4, h⟩ := h
  refine gCallI (isC := [0, 1, 2]) (wc := [(q_this, .inr (0, [])), (q_p2, .inr (9, [.int v_p2_n, .int v_p2_m, .ref q_p2_bodies, .int w_2])), (q_p2_bodies, .inl (c 0, 40, .inl w_3))]) (w1 := [(q_this, .inr (0, [])), (q_p2, .inr (9, [.int v_p2_n, .int v_p2_m, .ref q_p2_bodies, .int w_6])), (q_p2_bodies, .inl (c 0, 40, .inl w_7))]) (ws2 := [(q_this, .inr (0, [])), (q_p2, .inr (9, [.int v_p2_n, .int v_p2_m, .ref q_p2_bodies, .int w_6])), (q_p2_bodies, .inl (c 0, 40, .inl w_7))]) (ms := [(some 0), (some 1), (some 2)]) hP hD hS hA ⟨rfl, rfl, rfl, trivial⟩ (by decide +kernel) ⟨rfl, rfl, rfl, trivial⟩ (va_runU (rm := rm_X0_sayMoves_X0) (ws := wsX0_sayMoves) (As := [.int a_1, .ref q_p2]) (rest := []) (gFix hF) (c_X0_sayMoves_X0 l D c q_this q_p2 q_p2_bodies a_1 v_p2_n v_p2_m w_2 w_3 r_5 w_6 w_7 hc_4 H.size) (va_cwO 2 hts gX8_sayLets_X0_sayMoves_u17X0 rfl rfl rfl (List.mem_of_getElem? (i := 20) (rfl : wsX8_sayLets[20]? = some (.code yX8_sayMoves cX8_sayMoves 3 (some .int)))) (by decide +kernel) ⟨Nat.le_of_ble_eq_true rfl, Nat.le_of_ble_eq_true rfl⟩) (gPreV (wc := [(q_this, .inr (0, [])), (q_p2, .inr (9, [.int v_p2_n, .int v_p2_m, .ref q_p2_bodies, .int w_2])), (q_p2_bodies, .inl (c 0, 40, .inl w_3))]) (q := (RX0, TX0, 0)) (ci := 0) (q0 := 0) (isC := [0, 1, 2]) hK hX hS hA hP hD ⟨rfl, rfl, rfl, trivial⟩ (by decide +kernel) rfl rfl) rfl rfl hl.1 rfl (lv_room (Nat.le_of_ble_eq_true rfl)) dX8_sayLets_9 ⟨Nat.le_of_ble_eq_true rfl, Nat.le_of_ble_eq_true rfl⟩) (fun H locs hP hD hS => ?_)
  refine lv_iconst (v := 2) hx hb dX8_sayLets_12 (by decide) ?_
  refine lv_imul hx hb dX8_sayLets_13 ?_
  replace h := so3 h
  obtain ⟨z0, z1, z2⟩ := h
  subst z0 z1 z2
  exact gIret hF hP hD hS rfl dX8_sayLets_14
