set_option maxRecDepth 20000 in
theorem in_X10_isLit_X10 : ∀ w ∈ u_ws RX10 TX10 11, w ∈ wsX10_isLit := by decide +kernel
abbrev rm_X10_isLit : Room := { frames := 3, cells := 0, slots := 0, locals := 65 }
set_option maxHeartbeats 4000000 in
set_option maxRecDepth 100000 in
theorem c_X10_isLit (l : Launch) (D : va_G) (c : Nat → ClassId) (q_this q_air q_paste q_open q_met q_line : Nat) (a_1 : Int32) (a_2 : Int32) (v_rows : Int32) (v_columns : Int32) (v_holes : Int32) (v_out : Int32) (v_night : Int32) (v_inLine : Int32) (v_air : Nat → Int32) (o_r : Int32) (h : f_X10_isLit a_1 a_2 v_rows v_columns v_air = some o_r) : gMI l yX10_isLit wsX10_isLit rm_X10_isLit D c [.ref q_this, .int a_1, .int a_2] [(q_this, .inr (10, [.int v_rows, .int v_columns, .ref q_air, .ref q_paste, .ref q_open, .int v_holes, .int v_out, .int v_night, .ref q_met, .ref q_line, .int v_inLine])), (q_air, .inl (c 0, 25, .inl v_air))] [(q_this, .inr (10, [.int v_rows, .int v_columns, .ref q_air, .ref q_paste, .ref q_open, .int v_holes, .int v_out, .int v_night, .ref q_met, .ref q_line, .int v_inLine])), (q_air, .inl (c 0, 25, .inl v_air))] o_r := by
  refine gMI_of (cc := cX10_isLit) (maxL := 5) (rt := (some .boolean)) (by decide +kernel) rfl (Nat.le_of_ble_eq_true rfl) ?_
  intro p e s m below meth co A hF hK hX hP hD hA hS ls hl
  obtain ⟨hx, hb, hr, hts, hown, hlocks, hml⟩ := id hF
  have hl : lv_has ls 5 [(0, .ref q_this), (1, .int a_1), (2, .int a_2)] := hl
  have t_L54 : ∀ (H : Heap) (locs : List Loc), va_P D gcl [(q_this, .inr (10, [.int v_rows, .int v_columns, .ref q_air, .ref q_paste, .ref q_open, .int v_holes, .int v_out, .int v_night, .ref q_met, .ref q_line, .int v_inLine])), (q_air, .inl (c 0, 25, .inl v_air))] H → va_D A [(q_this, .inr (10, [.int v_rows, .int v_columns, .ref q_air, .ref q_paste, .ref q_open, .int v_holes, .int v_out, .int v_night, .ref q_met, .ref q_line, .int v_inLine])), (q_air, .inl (c 0, 25, .inl v_air))] → va_S A s.heap H locs → ∀ ls, lv_has ls 5 [(0, .ref q_this), (1, .int a_1)] → f_X10_isLit_L54 a_1 v_air = some o_r → W p l e (headSpec wsX10_isLit rm_X10_isLit).room s m [.ref q_this, .int a_1, .int a_2].toArray below meth co H locs 0 0 (gQI D [(q_this, .inr (10, [.int v_rows, .int v_columns, .ref q_air, .ref q_paste, .ref q_open, .int v_holes, .int v_out, .int v_night, .ref q_met, .ref q_line, .int v_inLine])), (q_air, .inl (c 0, 25, .inl v_air))] o_r A below [.ref q_this, .int a_1, .int a_2] s) (F0 m 54 ls []) := by
    intro  H locs hP hD hS ls hl h
    unfold f_X10_isLit_L54 at h
    refine lv_aload_n hx hb dX10_isLit_54 rfl (lv_at hl 0 rfl) ?_
    refine va_get (D := D) (ci := 10) (v := .ref q_air) (C := RX10) (T := TX10) (N := 11) hx hb hts in_X10_isLit_X10 hown hK.1 hP 0 rfl rfl 2 (by decide) (hts (.fieldLink RX10 18 "PaperBubbles$Wall" "air" "[I") (List.mem_of_getElem? (i := 1) rfl)) (fun _ h9 => h9) rfl dX10_isLit_55 ?_
    refine lv_iload_n hx hb dX10_isLit_58 rfl (lv_at hl 1 rfl) ?_
    replace h := chi_ok h
    obtain ⟨hi_14, h⟩ := h
    refine va_iald hx hb hK.1 hP 1 0 rfl rfl hi_14 dX10_isLit_59 ?_
    refine lv_if_le (tgt := 67) hx hb dX10_isLit_60 (by decide) (fun c_15 => ?_) (fun c_15 => ?_)
    · replace h := it_t c_15 h
      refine lv_iconst (v := 0) hx hb dX10_isLit_67 (by decide) ?_
      replace h := so1 h
      subst h
      exact gIret hF hP hD hS rfl dX10_isLit_68
    · replace h := it_f c_15 h
      refine lv_iconst (v := 1) hx hb dX10_isLit_63 (by decide) ?_
      refine lv_goto (tgt := 68) hx hb dX10_isLit_64 (by decide) ?_
      replace h := so1 h
      subst h
      exact gIret hF hP hD hS rfl dX10_isLit_68
  have t_L10 : ∀ (n : Nat), ∀ (x3 : Int32) (x4 : Int32) (H : Heap) (locs : List Loc), va_P D gcl [(q_this, .inr (10, [.int v_rows, .int v_columns, .ref q_air, .ref q_paste, .ref q_open, .int v_holes, .int v_out, .int v_night, .ref q_met, .ref q_line, .int v_inLine])), (q_air, .inl (c 0, 25, .inl v_air))] H → va_D A [(q_this, .inr (10, [.int v_rows, .int v_columns, .ref q_air, .ref q_paste, .ref q_open, .int v_holes, .int v_out, .int v_night, .ref q_met, .ref q_line, .int v_inLine])), (q_air, .inl (c 0, 25, .inl v_air))] → va_S A s.heap H locs → ∀ ls, lv_has ls 5 [(0, .ref q_this), (1, .int a_1), (2, .int a_2), (3, .int x3), (4, .int x4)] → f_X10_isLit_L10 a_1 a_2 v_rows v_columns v_air n x3 x4 = some o_r → W p l e (headSpec wsX10_isLit rm_X10_isLit).room s m [.ref q_this, .int a_1, .int a_2].toArray below meth co H locs 0 0 (gQI D [(q_this, .inr (10, [.int v_rows, .int v_columns, .ref q_air, .ref q_paste, .ref q_open, .int v_holes, .int v_out, .int v_night, .ref q_met, .ref q_line, .int v_inLine])), (q_air, .inl (c 0, 25, .inl v_air))] o_r A below [.ref q_this, .int a_1, .int a_2] s) (F0 m 10 ls []) := by
    intro n
    induction n with
    | zero => intro x3 x4 H locs hP hD hS ls hl h; exact no_ok h
    | succ n ih =>
      intro x3 x4 H locs hP hD hS ls hl h
      rw [f_X10_isLit_L10] at h
      refine lv_iload hx hb dX10_isLit_10 (lv_at hl 4 rfl) ?_
      refine lv_iconst (v := 5) hx hb dX10_isLit_12 (by decide) ?_
      refine lv_icmp_ge (tgt := 54) hx hb dX10_isLit_13 (by decide) (fun c_3 => ?_) (fun c_3 => ?_)
      · replace h := it_t c_3 h
        exact t_L54  H locs hP hD hS ls (lv_sub hl [0, 1] rfl) h
      · replace h := it_f c_3 h
        refine lv_aload_n hx hb dX10_isLit_16 rfl (lv_at hl 0 rfl) ?_
        refine lv_iload_n hx hb dX10_isLit_17 rfl (lv_at hl 3 rfl) ?_
        replace h := kb_ok h
        obtain ⟨r_5, hc_4, h⟩ := h
        refine gCallIr (isC := [0]) (wc := [(q_this, .inr (10, [.int v_rows, .int v_columns, .ref q_air, .ref q_paste, .ref q_open, .int v_holes, .int v_out, .int v_night, .ref q_met, .ref q_line, .int v_inLine]))]) hP hD hS hA ⟨rfl, trivial⟩ (va_runV (rm := rm_X10_has) (ws := wsX10_has) (As := [.int x3]) (rest := []) (gFix hF) (c_X10_has l D c q_this q_air q_paste q_open q_met q_line x3 v_rows v_columns v_holes v_out v_night v_inLine r_5 hc_4 H.size) (cwV 1 hts gX10_isLit_X10_has rfl rfl rfl (by decide +kernel) ⟨Nat.le_of_ble_eq_true rfl, Nat.le_of_ble_eq_true rfl⟩) (gPreV (wc := [(q_this, .inr (10, [.int v_rows, .int v_columns, .ref q_air, .ref q_paste, .ref q_open, .int v_holes, .int v_out, .int v_night, .ref q_met, .ref q_line, .int v_inLine]))]) (q := (RX10, TX10, 11)) (ci := 10) (q0 := 0) (isC := [0]) hK hX hS hA hP hD ⟨rfl, trivial⟩ (by decide +kernel) rfl rfl) rfl rfl hl.1 rfl (lv_room (Nat.le_of_ble_eq_true rfl)) dX10_isLit_18 ⟨Nat.le_of_ble_eq_true rfl, Nat.le_of_ble_eq_true rfl⟩) (fun H locs hP hS => ?_)
        refine lv_if_eq (tgt := 54) hx hb dX10_isLit_21 (by decide) (fun c_6 => ?_) (fun c_6 => ?_)
        · replace h := it_t c_6 h
          exact t_L54  H locs hP hD hS ls (lv_sub hl [0, 1] rfl) h
        · replace h := it_f c_6 h
          refine lv_aload_n hx hb dX10_isLit_24 rfl (lv_at hl 0 rfl) ?_
          refine va_get (D := D) (ci := 10) (v := .ref q_air) (C := RX10) (T := TX10) (N := 11) hx hb hts in_X10_isLit_X10 hown hK.1 hP 0 rfl rfl 2 (by decide) (hts (.fieldLink RX10 18 "PaperBubbles$Wall" "air" "[I") (List.mem_of_getElem? (i := 1) rfl)) (fun _ h9 => h9) rfl dX10_isLit_25 ?_
          refine lv_iload_n hx hb dX10_isLit_28 rfl (lv_at hl 3 rfl) ?_
          replace h := chi_ok h
          obtain ⟨hi_7, h⟩ := h
          refine va_iald hx hb hK.1 hP 1 0 rfl rfl hi_7 dX10_isLit_29 ?_
          replace h := nm_ok h
          obtain ⟨t_8, et_8, h⟩ := h
          refine gTop et_8 ?_
          refine lv_aload_n hx hb dX10_isLit_30 rfl (lv_at hl 0 rfl) ?_
          refine va_get (D := D) (ci := 10) (v := .ref q_air) (C := RX10) (T := TX10) (N := 11) hx hb hts in_X10_isLit_X10 hown hK.1 hP 0 rfl rfl 2 (by decide) (hts (.fieldLink RX10 18 "PaperBubbles$Wall" "air" "[I") (List.mem_of_getElem? (i := 1) rfl)) (fun _ h9 => h9) rfl dX10_isLit_31 ?_
          refine lv_iload_n hx hb dX10_isLit_34 rfl (lv_at hl 1 rfl) ?_
          replace h := chi_ok h
          obtain ⟨hi_9, h⟩ := h
          refine va_iald hx hb hK.1 hP 1 0 rfl rfl hi_9 dX10_isLit_35 ?_
          refine lv_icmp_lt (tgt := 41) hx hb dX10_isLit_36 (by decide) (fun c_10 => ?_) (fun c_10 => ?_)
          · replace h := it_t c_10 h
            refine lv_aload_n hx hb dX10_isLit_41 rfl (lv_at hl 0 rfl) ?_
            refine lv_iload_n hx hb dX10_isLit_42 rfl (lv_at hl 3 rfl) ?_
            refine lv_iload_n hx hb dX10_isLit_43 rfl (lv_at hl 2 rfl) ?_
            replace h := kb_ok h
            obtain ⟨r_12, hc_11, h⟩ := h
            refine gCallIr (isC := [0]) (wc := [(q_this, .inr (10, [.int v_rows, .int v_columns, .ref q_air, .ref q_paste, .ref q_open, .int v_holes, .int v_out, .int v_night, .ref q_met, .ref q_line, .int v_inLine]))]) hP hD hS hA ⟨rfl, trivial⟩ (va_runV (rm := rm_X10_beside) (ws := wsX10_beside) (As := [.int x3, .int a_2]) (rest := []) (gFix hF) (c_X10_beside l D c q_this q_air q_paste q_open q_met q_line x3 a_2 v_rows v_columns v_holes v_out v_night v_inLine r_12 hc_11 H.size) (cwV 2 hts gX10_isLit_X10_beside rfl rfl rfl (by decide +kernel) ⟨Nat.le_of_ble_eq_true rfl, Nat.le_of_ble_eq_true rfl⟩) (gPreV (wc := [(q_this, .inr (10, [.int v_rows, .int v_columns, .ref q_air, .ref q_paste, .ref q_open, .int v_holes, .int v_out, .int v_night, .ref q_met, .ref q_line, .int v_inLine]))]) (q := (RX10, TX10, 11)) (ci := 10) (q0 := 0) (isC := [0]) hK hX hS hA hP hD ⟨rfl, trivial⟩ (by decide +kernel) rfl rfl) rfl rfl hl.1 rfl (lv_room (Nat.le_of_ble_eq_true rfl)) dX10_isLit_44 ⟨Nat.le_of_ble_eq_true rfl, Nat.le_of_ble_eq_true rfl⟩) (fun H locs hP hS => ?_)
            refine lv_istore_n (lv' := [(3, .int r_12), (0, .ref q_this), (1, .int a_1), (2, .int a_2), (4, .int x4)]) hx hb dX10_isLit_47 rfl hl (by decide) rfl (fun ls hl => ?_)
            replace h := nm_ok h
            obtain ⟨t_13, et_13, h⟩ := h
            refine lv_iinc (v := t_13) (lv' := [(4, .int t_13), (3, .int r_12), (0, .ref q_this), (1, .int a_1), (2, .int a_2)]) hx hb dX10_isLit_48 hl (k := 4) rfl (by rw [et_13]; rfl) (by decide) rfl (fun ls hl => ?_)
            refine lv_goto (tgt := 10) hx hb dX10_isLit_51 (by decide) ?_
            exact ih r_12 t_13 H locs hP hD hS ls (lv_sub hl [2, 3, 4, 1, 0] rfl) h
          · replace h := it_f c_10 h
            refine lv_iconst (v := 0) hx hb dX10_isLit_39 (by decide) ?_
            replace h := so1 h
            subst h
            exact gIret hF hP hD hS rfl dX10_isLit_40
  unfold f_X10_isLit at h
  refine lv_aload_n hx hb dX10_isLit_0 rfl (lv_at hl 0 rfl) ?_
  refine lv_iload_n hx hb dX10_isLit_1 rfl (lv_at hl 1 rfl) ?_
  refine lv_iload_n hx hb dX10_isLit_2 rfl (lv_at hl 2 rfl) ?_
  replace h := kb_ok h
  obtain ⟨r_2, hc_1, h⟩ := h
  refine gCallIr (isC := [0]) (wc := [(q_this, .inr (10, [.int v_rows, .int v_columns, .ref q_air, .ref q_paste, .ref q_open, .int v_holes, .int v_out, .int v_night, .ref q_met, .ref q_line, .int v_inLine]))]) hP hD hS hA ⟨rfl, trivial⟩ (va_runV (rm := rm_X10_beside) (ws := wsX10_beside) (As := [.int a_1, .int a_2]) (rest := []) (gFix hF) (c_X10_beside l D c q_this q_air q_paste q_open q_met q_line a_1 a_2 v_rows v_columns v_holes v_out v_night v_inLine r_2 hc_1 s.heap.size) (cwV 2 hts gX10_isLit_X10_beside rfl rfl rfl (by decide +kernel) ⟨Nat.le_of_ble_eq_true rfl, Nat.le_of_ble_eq_true rfl⟩) (gPreV (wc := [(q_this, .inr (10, [.int v_rows, .int v_columns, .ref q_air, .ref q_paste, .ref q_open, .int v_holes, .int v_out, .int v_night, .ref q_met, .ref q_line, .int v_inLine]))]) (q := (RX10, TX10, 11)) (ci := 10) (q0 := 0) (isC := [0]) hK hX hS hA hP hD ⟨rfl, trivial⟩ (by decide +kernel) rfl rfl) rfl rfl hl.1 rfl (lv_room (Nat.le_of_ble_eq_true rfl)) dX10_isLit_3 ⟨Nat.le_of_ble_eq_true rfl, Nat.le_of_ble_eq_true rfl⟩) (fun H locs hP hS => ?_)
  refine lv_istore_n (lv' := [(3, .int r_2), (0, .ref q_this), (1, .int a_1), (2, .int a_2)]) hx hb dX10_isLit_6 rfl hl (by decide) rfl (fun ls hl => ?_)
  refine lv_iconst (v := 0) hx hb dX10_isLit_7 (by decide) ?_
  refine lv_istore (lv' := [(4, .int 0), (3, .int r_2), (0, .ref q_this), (1, .int a_1), (2, .int a_2)]) hx hb dX10_isLit_8 hl (by decide) rfl (fun ls hl => ?_)
  exact t_L10 gFuel r_2 0 H locs hP hD hS ls (lv_sub hl [2, 3, 4, 1, 0] rfl) h
abbrev rm_X11_within : Room := { frames := 0, cells := 0, slots := 0, locals := 0 }
set_option maxHeartbeats 4000000 in
set_option maxRecDepth 100000 in
theorem c_X11_within (l : Launch) (D : va_G) (c : Nat → ClassId) (a_0 : Int32) (a_1 : Int32) (a_2 : Int32) (o_r : Int32) (h : f_X11_within a_0 a_1 a_2 = some o_r) : gMI l yX11_within wsX11_within rm_X11_within D c [.int a_0, .int a_1, .int a_2] [] [] o_r := by
  refine gMI_of (cc := cX11_within) (maxL := 3) (rt := (some .boolean)) (by decide +kernel) rfl (Nat.le_of_ble_eq_true rfl) ?_
  intro p e s m below meth co A hF hK hX hP hD hA hS ls hl
  obtain ⟨hx, hb, hr, hts, hown, hlocks, hml⟩ := id hF
  have hl : lv_has ls 3 [(0, .int a_0), (1, .int a_1), (2, .int a_2)] := hl
  unfold f_X11_within at h
  refine lv_iload_n hx hb dX11_within_0 rfl (lv_at hl 0 rfl) ?_
  refine lv_iload_n hx hb dX11_within_1 rfl (lv_at hl 1 rfl) ?_
  refine lv_icmp_lt (tgt := 14) hx hb dX11_within_2 (by decide) (fun c_1 => ?_) (fun c_1 => ?_)
  · replace h := it_t c_1 h
    refine lv_iconst (v := 0) hx hb dX11_within_14 (by decide) ?_
    replace h := so1 h
    subst h
    exact gIret hF hP hD hS rfl dX11_within_15
  · replace h := it_f c_1 h
    refine lv_iload_n hx hb dX11_within_5 rfl (lv_at hl 0 rfl) ?_
    refine lv_iload_n hx hb dX11_within_6 rfl (lv_at hl 2 rfl) ?_
    refine lv_icmp_gt (tgt := 14) hx hb dX11_within_7 (by decide) (fun c_2 => ?_) (fun c_2 => ?_)
    · replace h := it_t c_2 h
      refine lv_iconst (v := 0) hx hb dX11_within_14 (by decide) ?_
      replace h := so1 h
      subst h
      exact gIret hF hP hD hS rfl dX11_within_15
    · replace h := it_f c_2 h
      refine lv_iconst (v := 1) hx hb dX11_within_10 (by decide) ?_
      refine lv_goto (tgt := 15) hx hb dX11_within_11 (by decide) ?_
      replace h := so1 h
      subst h
      exact gIret hF hP hD hS rfl dX11_within_15
abbrev rm_X11_isWay : Room := { frames := 1, cells := 0, slots := 0, locals := 22 }
set_option maxHeartbeats 4000000 in
set_option maxRecDepth 100000 in
theorem c_X11_isWay (l : Launch) (D : va_G) (c : Nat → ClassId) (a_0 : Int32) (o_r : Int32) (h : f_X11_isWay a_0 = some o_r) : gMI l yX11_isWay wsX11_isWay rm_X11_isWay D c [.int a_0] [] [] o_r := by
  refine gMI_of (cc := cX11_isWay) (maxL := 1) (rt := (some .boolean)) (by decide +kernel) rfl (Nat.le_of_ble_eq_true rfl) ?_
  intro p e s m below meth co A hF hK hX hP hD hA hS ls hl
  obtain ⟨hx, hb, hr, hts, hown, hlocks, hml⟩ := id hF
  have hl : lv_has ls 1 [(0, .int a_0)] := hl
  unfold f_X11_isWay at h
  refine lv_iload_n hx hb dX11_isWay_0 rfl (lv_at hl 0 rfl) ?_
  refine lv_iconst (v := 0) hx hb dX11_isWay_1 (by decide) ?_
  refine lv_iconst (v := 3) hx hb dX11_isWay_2 (by decide) ?_
  replace h := kb_ok h
  obtain ⟨r_2, hc_1, h⟩ := h
  refine gCallIr (isC := []) (wc := []) hP hD hS hA trivial (va_runS (rm := rm_X11_within) (ws := wsX11_within) (As := [.int a_0, .int 0, .int 3]) (rest := []) (gFix hF) (c_X11_within l D c a_0 0 3 r_2 hc_1 s.heap.size) (va_cwS 3 hts gX11_isWay_X11_within rfl rfl rfl (by decide +kernel) ⟨Nat.le_of_ble_eq_true rfl, Nat.le_of_ble_eq_true rfl⟩) (gPreS (wc := []) (isC := []) hK hX hS hA hP hD trivial (by decide +kernel)) rfl rfl hl.1 rfl (lv_room (Nat.le_of_ble_eq_true rfl)) dX11_isWay_3 ⟨Nat.le_of_ble_eq_true rfl, Nat.le_of_ble_eq_true rfl⟩) (fun H locs hP hS => ?_)
  replace h := chb_ok h
  obtain ⟨hz_3, h⟩ := h
  replace h := so1 h
  subst h
  exact gIret hF hP hD hS (chb_n hz_3) dX11_isWay_6
set_option maxRecDepth 20000 in
theorem in_X10_isOpen_X10 : ∀ w ∈ u_ws RX10 TX10 11, w ∈ wsX10_isOpen := by decide +kernel
abbrev rm_X10_isOpen : Room := { frames := 2, cells := 0, slots := 0, locals := 42 }
set_option maxHeartbeats 4000000 in
set_option maxRecDepth 100000 in
theorem c_X10_isOpen (l : Launch) (D : va_G) (c : Nat → ClassId) (q_this q_air q_paste q_open q_met q_line : Nat) (a_1 : Int32) (v_rows : Int32) (v_columns : Int32) (v_holes : Int32) (v_out : Int32) (v_night : Int32) (v_inLine : Int32) (v_open : Nat → Int32) (o_r : Int32) (h : f_X10_isOpen a_1 v_open = some o_r) : gMI l yX10_isOpen wsX10_isOpen rm_X10_isOpen D c [.ref q_this, .int a_1] [(q_this, .inr (10, [.int v_rows, .int v_columns, .ref q_air, .ref q_paste, .ref q_open, .int v_holes, .int v_out, .int v_night, .ref q_met, .ref q_line, .int v_inLine])), (q_open, .inl (c 0, 4, .inl v_open))] [(q_this, .inr (10, [.int v_rows, .int v_columns, .ref q_air, .ref q_paste, .ref q_open, .int v_holes, .int v_out, .int v_night, .ref q_met, .ref q_line, .int v_inLine])), (q_open, .inl (c 0, 4, .inl v_open))] o_r := by
  refine gMI_of (cc := cX10_isOpen) (maxL := 2) (rt := (some .boolean)) (by decide +kernel) rfl (Nat.le_of_ble_eq_true rfl) ?_
  intro p e s m below meth co A hF hK hX hP hD hA hS ls hl
  obtain ⟨hx, hb, hr, hts, hown, hlocks, hml⟩ := id hF
  have hl : lv_has ls 2 [(0, .ref q_this), (1, .int a_1)] := hl
  unfold f_X10_isOpen at h
  refine lv_iload_n hx hb dX10_isOpen_0 rfl (lv_at hl 1 rfl) ?_
  replace h := kb_ok h
  obtain ⟨r_2, hc_1, h⟩ := h
  refine gCallIr (isC := []) (wc := []) hP hD hS hA trivial (va_runSN (rm := rm_X11_isWay) (ws := wsX11_isWay) (As := [.int a_1]) (rest := []) (gFix hF) (c_X11_isWay l D c a_1 r_2 hc_1 s.heap.size) ⟨(va_cnB 1 hts gX10_isOpen_X11_isWay_n59 rfl rfl rfl (hK.2 (.methodLinkNest "PaperBubbles$Wall" 59 ⟨"PaperBubbles", "isWay", "(I)Z"⟩ "PaperBubbles") (List.mem_of_getElem? (i := 38) rfl)) (hts (.initialized RX11) (List.mem_of_getElem? (i := 3) rfl)) (by decide +kernel) ⟨Nat.le_of_ble_eq_true rfl, Nat.le_of_ble_eq_true rfl⟩), (hts (.static yX11_isWay) (List.mem_of_getElem? (i := 2) rfl)), trivial⟩ (gPreS (wc := []) (isC := []) hK hX hS hA hP hD trivial (by decide +kernel)) rfl rfl hl.1 rfl (lv_room (Nat.le_of_ble_eq_true rfl)) dX10_isOpen_1 ⟨Nat.le_of_ble_eq_true rfl, Nat.le_of_ble_eq_true rfl⟩) (fun H locs hP hS => ?_)
  refine lv_if_eq (tgt := 21) hx hb dX10_isOpen_4 (by decide) (fun c_3 => ?_) (fun c_3 => ?_)
  · replace h := it_t c_3 h
    refine lv_iconst (v := 0) hx hb dX10_isOpen_21 (by decide) ?_
    replace h := so1 h
    subst h
    exact gIret hF hP hD hS rfl dX10_isOpen_22
  · replace h := it_f c_3 h
    refine lv_aload_n hx hb dX10_isOpen_7 rfl (lv_at hl 0 rfl) ?_
    refine va_get (D := D) (ci := 10) (v := .ref q_open) (C := RX10) (T := TX10) (N := 11) hx hb hts in_X10_isOpen_X10 hown hK.1 hP 0 rfl rfl 4 (by decide) (hts (.fieldLink RX10 25 "PaperBubbles$Wall" "open" "[I") (List.mem_of_getElem? (i := 1) rfl)) (fun _ h9 => h9) rfl dX10_isOpen_8 ?_
    refine lv_iload_n hx hb dX10_isOpen_11 rfl (lv_at hl 1 rfl) ?_
    replace h := chi_ok h
    obtain ⟨hi_4, h⟩ := h
    refine va_iald hx hb hK.1 hP 1 0 rfl rfl hi_4 dX10_isOpen_12 ?_
    replace h := nm_ok h
    obtain ⟨t_5, et_5, h⟩ := h
    refine gTop et_5 ?_
    refine lv_iconst (v := 1) hx hb dX10_isOpen_13 (by decide) ?_
    refine lv_icmp_ne (tgt := 21) hx hb dX10_isOpen_14 (by decide) (fun c_6 => ?_) (fun c_6 => ?_)
    · replace h := it_f c_6 h
      refine lv_iconst (v := 0) hx hb dX10_isOpen_21 (by decide) ?_
      replace h := so1 h
      subst h
      exact gIret hF hP hD hS rfl dX10_isOpen_22
    · replace h := it_t c_6 h
      refine lv_iconst (v := 1) hx hb dX10_isOpen_17 (by decide) ?_
      refine lv_goto (tgt := 22) hx hb dX10_isOpen_18 (by decide) ?_
      replace h := so1 h
      subst h
      exact gIret hF hP hD hS rfl dX10_isOpen_22
set_option maxRecDepth 20000 in
theorem in_X10_lay_X10 : ∀ w ∈ u_ws RX10 TX10 11, w ∈ wsX10_lay := by decide +kernel
abbrev rm_X10_lay : Room := { frames := 1, cells := 0, slots := 0, locals := 23 }
set_option maxHeartbeats 4000000 in
set_option maxRecDepth 100000 in
theorem c_X10_lay (l : Launch) (D : va_G) (c : Nat → ClassId) (q_this q_air q_paste q_open q_met q_line : Nat) (a_1 : Int32) (a_2 : Int32) (v_rows : Int32) (v_columns : Int32) (v_holes : Int32) (v_out : Int32) (v_night : Int32) (v_inLine : Int32) (v_air : Nat → Int32) (v_paste : Nat → Int32) (o_v_rows : Int32) (o_v_columns : Int32) (o_v_air : Nat → Int32) (o_v_paste : Nat → Int32) (h : f_X10_lay a_1 a_2 v_rows v_columns v_air v_paste = some (o_v_rows, o_v_columns, o_v_air, o_v_paste)) : gMV l yX10_lay wsX10_lay rm_X10_lay D c [.ref q_this, .int a_1, .int a_2] [(q_this, .inr (10, [.int v_rows, .int v_columns, .ref q_air, .ref q_paste, .ref q_open, .int v_holes, .int v_out, .int v_night, .ref q_met, .ref q_line, .int v_inLine])), (q_air, .inl (c 0, 25, .inl v_air)), (q_paste, .inl (c 0, 25, .inl v_paste))] [(q_this, .inr (10, [.int o_v_rows, .int o_v_columns, .ref q_air, .ref q_paste, .ref q_open, .int v_holes, .int v_out, .int v_night, .ref q_met, .ref q_line, .int v_inLine])), (q_air, .inl (c 0, 25, .inl o_v_air)), (q_paste, .inl (c 0, 25, .inl o_v_paste))] := by
  refine gMV_of (cc := cX10_lay) (maxL := 3) (rt := none) (by decide +kernel) rfl (Nat.le_of_ble_eq_true rfl) ?_
  intro p e s m below meth co A hF hK hX hP hD hA hS ls hl
  obtain ⟨hx, hb, hr, hts, hown, hlocks, hml⟩ := id hF
  have hl : lv_has ls 3 [(0, .ref q_this), (1, .int a_1), (2, .int a_2)] := hl
  unfold f_X10_lay at h
  refine lv_aload_n hx hb dX10_lay_0 rfl (lv_at hl 0 rfl) ?_
  refine lv_iload_n hx hb dX10_lay_1 rfl (lv_at hl 1 rfl) ?_
  refine va_put (D := D) (ci := 10) (v := .int a_1) (ty := .int) (C := RX10) (T := TX10) (N := 11) hx hb hts in_X10_lay_X10 tyX10 tyX10_ok nmX10 hown hK.1 hP hD hS 0 rfl rfl 0 (by decide) (hts (.fieldLink RX10 9 "PaperBubbles$Wall" "rows" "I") (List.mem_of_getElem? (i := 1) rfl)) (fun _ h9 => h9) rfl (by decide +kernel) rfl rfl (Nat.le_of_ble_eq_true rfl) dX10_lay_2 (fun H locs hP hD hS => ?_)
  have hP : va_P D gcl [(q_this, .inr (10, [.int a_1, .int v_columns, .ref q_air, .ref q_paste, .ref q_open, .int v_holes, .int v_out, .int v_night, .ref q_met, .ref q_line, .int v_inLine])), (q_air, .inl (c 0, 25, .inl v_air)), (q_paste, .inl (c 0, 25, .inl v_paste))] H := hP
  have hD : va_D A [(q_this, .inr (10, [.int a_1, .int v_columns, .ref q_air, .ref q_paste, .ref q_open, .int v_holes, .int v_out, .int v_night, .ref q_met, .ref q_line, .int v_inLine])), (q_air, .inl (c 0, 25, .inl v_air)), (q_paste, .inl (c 0, 25, .inl v_paste))] := hD
  refine lv_aload_n hx hb dX10_lay_5 rfl (lv_at hl 0 rfl) ?_
  refine lv_iload_n hx hb dX10_lay_6 rfl (lv_at hl 2 rfl) ?_
  refine va_put (D := D) (ci := 10) (v := .int a_2) (ty := .int) (C := RX10) (T := TX10) (N := 11) hx hb hts in_X10_lay_X10 tyX10 tyX10_ok nmX10 hown hK.1 hP hD hS 0 rfl rfl 1 (by decide) (hts (.fieldLink RX10 15 "PaperBubbles$Wall" "columns" "I") (List.mem_of_getElem? (i := 2) rfl)) (fun _ h9 => h9) rfl (by decide +kernel) rfl rfl (Nat.le_of_ble_eq_true rfl) dX10_lay_7 (fun H locs hP hD hS => ?_)
  have hP : va_P D gcl [(q_this, .inr (10, [.int a_1, .int a_2, .ref q_air, .ref q_paste, .ref q_open, .int v_holes, .int v_out, .int v_night, .ref q_met, .ref q_line, .int v_inLine])), (q_air, .inl (c 0, 25, .inl v_air)), (q_paste, .inl (c 0, 25, .inl v_paste))] H := hP
  have hD : va_D A [(q_this, .inr (10, [.int a_1, .int a_2, .ref q_air, .ref q_paste, .ref q_open, .int v_holes, .int v_out, .int v_night, .ref q_met, .ref q_line, .int v_inLine])), (q_air, .inl (c 0, 25, .inl v_air)), (q_paste, .inl (c 0, 25, .inl v_paste))] := hD
  refine lv_aload_n hx hb dX10_lay_10 rfl (lv_at hl 0 rfl) ?_
  refine va_get (D := D) (ci := 10) (v := .ref q_air) (C := RX10) (T := TX10) (N := 11) hx hb hts in_X10_lay_X10 hown hK.1 hP 0 rfl rfl 2 (by decide) (hts (.fieldLink RX10 18 "PaperBubbles$Wall" "air" "[I") (List.mem_of_getElem? (i := 3) rfl)) (fun _ h9 => h9) rfl dX10_lay_11 ?_
  refine lv_iconst (v := 0) hx hb dX10_lay_14 (by decide) ?_
  replace h := kb_ok h
  obtain ⟨w_2, hc_1, h⟩ := h
  refine gCallV (isC := [1]) (wc := [(q_air, .inl (c 0, 25, .inl v_air))]) (w1 := [(q_air, .inl (c 0, 25, .inl w_2))]) (ws2 := [(q_this, .inr (10, [.int a_1, .int a_2, .ref q_air, .ref q_paste, .ref q_open, .int v_holes, .int v_out, .int v_night, .ref q_met, .ref q_line, .int v_inLine])), (q_air, .inl (c 0, 25, .inl w_2)), (q_paste, .inl (c 0, 25, .inl v_paste))]) (ms := [none, (some 0), none]) hP hD hS hA ⟨rfl, trivial⟩ (by decide +kernel) ⟨rfl, rfl, rfl, trivial⟩ (va_runS (rm := rm_J7_fill_53178) (ws := wsJ7_fill_53178) (As := [.ref q_air, .int 0]) (rest := []) (gFix hF) (c_J7_fill_53178 l D c q_air 25 0 v_air w_2 hc_1 H.size) (va_cwS 2 hts gX10_lay_J7_fill_53178 rfl rfl rfl (by decide +kernel) ⟨Nat.le_of_ble_eq_true rfl, Nat.le_of_ble_eq_true rfl⟩) (gPreS (wc := [(q_air, .inl (c 0, 25, .inl v_air))]) (isC := [1]) hK hX hS hA hP hD ⟨rfl, trivial⟩ (by decide +kernel)) rfl rfl hl.1 rfl (lv_room (Nat.le_of_ble_eq_true rfl)) dX10_lay_15 ⟨Nat.le_of_ble_eq_true rfl, Nat.le_of_ble_eq_true rfl⟩) (fun H locs hP hD hS => ?_)
  refine lv_aload_n hx hb dX10_lay_18 rfl (lv_at hl 0 rfl) ?_
  refine va_get (D := D) (ci := 10) (v := .ref q_paste) (C := RX10) (T := TX10) (N := 11) hx hb hts in_X10_lay_X10 hown hK.1 hP 0 rfl rfl 3 (by decide) (hts (.fieldLink RX10 22 "PaperBubbles$Wall" "paste" "[I") (List.mem_of_getElem? (i := 4) rfl)) (fun _ h9 => h9) rfl dX10_lay_19 ?_
  refine lv_iconst (v := 5) hx hb dX10_lay_22 (by decide) ?_
  replace h := kb_ok h
  obtain ⟨w_4, hc_3, h⟩ := h
  refine gCallV (isC := [2]) (wc := [(q_paste, .inl (c 0, 25, .inl v_paste))]) (w1 := [(q_paste, .inl (c 0, 25, .inl w_4))]) (ws2 := [(q_this, .inr (10, [.int a_1, .int a_2, .ref q_air, .ref q_paste, .ref q_open, .int v_holes, .int v_out, .int v_night, .ref q_met, .ref q_line, .int v_inLine])), (q_air, .inl (c 0, 25, .inl w_2)), (q_paste, .inl (c 0, 25, .inl w_4))]) (ms := [none, none, (some 0)]) hP hD hS hA ⟨rfl, trivial⟩ (by decide +kernel) ⟨rfl, rfl, rfl, trivial⟩ (va_runS (rm := rm_J7_fill_53178) (ws := wsJ7_fill_53178) (As := [.ref q_paste, .int 5]) (rest := []) (gFix hF) (c_J7_fill_53178 l D c q_paste 25 5 v_paste w_4 hc_3 H.size) (va_cwS 2 hts gX10_lay_J7_fill_53178 rfl rfl rfl (by decide +kernel) ⟨Nat.le_of_ble_eq_true rfl, Nat.le_of_ble_eq_true rfl⟩) (gPreS (wc := [(q_paste, .inl (c 0, 25, .inl v_paste))]) (isC := [2]) hK hX hS hA hP hD ⟨rfl, trivial⟩ (by decide +kernel)) rfl rfl hl.1 rfl (lv_room (Nat.le_of_ble_eq_true rfl)) dX10_lay_23 ⟨Nat.le_of_ble_eq_true rfl, Nat.le_of_ble_eq_true rfl⟩) (fun H locs hP hD hS => ?_)
  replace h := so4 h
  obtain ⟨z0, z1, z2, z3⟩ := h
  subst z0 z1 z2 z3
  exact gVret hF hP hD hS dX10_lay_26
set_option maxRecDepth 20000 in
theorem in_X10_openBits_X10 : ∀ w ∈ u_ws RX10 TX10 11, w ∈ wsX10_openBits := by decide +kernel
abbrev rm_X10_openBits : Room := { frames := 0, cells := 0, slots := 0, locals := 0 }
set_option maxHeartbeats 4000000 in
set_option maxRecDepth 100000 in
theorem c_X10_openBits (l : Launch) (D : va_G) (c : Nat → ClassId) (q_this q_air q_paste q_open q_met q_line : Nat) (v_rows : Int32) (v_columns : Int32) (v_holes : Int32) (v_out : Int32) (v_night : Int32) (v_inLine : Int32) (v_open : Nat → Int32) (o_r : Int32) (h : f_X10_openBits v_open = some o_r) : gMI l yX10_openBits wsX10_openBits rm_X10_openBits D c [.ref q_this] [(q_this, .inr (10, [.int v_rows, .int v_columns, .ref q_air, .ref q_paste, .ref q_open, .int v_holes, .int v_out, .int v_night, .ref q_met, .ref q_line, .int v_inLine])), (q_open, .inl (c 0, 4, .inl v_open))] [(q_this, .inr (10, [.int v_rows, .int v_columns, .ref q_air, .ref q_paste, .ref q_open, .int v_holes, .int v_out, .int v_night, .ref q_met, .ref q_line, .int v_inLine])), (q_open, .inl (c 0, 4, .inl v_open))] o_r := by
  refine gMI_of (cc := cX10_openBits) (maxL := 3) (rt := (some .int)) (by decide +kernel) rfl (Nat.le_of_ble_eq_true rfl) ?_
  intro p e s m below meth co A hF hK hX hP hD hA hS ls hl
  obtain ⟨hx, hb, hr, hts, hown, hlocks, hml⟩ := id hF
  have hl : lv_has ls 3 [(0, .ref q_this)] := hl
  have t_L4 : ∀ (n : Nat), ∀ (x1 : Int32) (x2 : Int32) (H : Heap) (locs : List Loc), va_P D gcl [(q_this, .inr (10, [.int v_rows, .int v_columns, .ref q_air, .ref q_paste, .ref q_open, .int v_holes, .int v_out, .int v_night, .ref q_met, .ref q_line, .int v_inLine])), (q_open, .inl (c 0, 4, .inl v_open))] H → va_D A [(q_this, .inr (10, [.int v_rows, .int v_columns, .ref q_air, .ref q_paste, .ref q_open, .int v_holes, .int v_out, .int v_night, .ref q_met, .ref q_line, .int v_inLine])), (q_open, .inl (c 0, 4, .inl v_open))] → va_S A s.heap H locs → ∀ ls, lv_has ls 3 [(0, .ref q_this), (1, .int x1), (2, .int x2)] → f_X10_openBits_L4 v_open n x1 x2 = some o_r → W p l e (headSpec wsX10_openBits rm_X10_openBits).room s m [.ref q_this].toArray below meth co H locs 0 0 (gQI D [(q_this, .inr (10, [.int v_rows, .int v_columns, .ref q_air, .ref q_paste, .ref q_open, .int v_holes, .int v_out, .int v_night, .ref q_met, .ref q_line, .int v_inLine])), (q_open, .inl (c 0, 4, .inl v_open))] o_r A below [.ref q_this] s) (F0 m 4 ls []) := by
    intro n
    induction n with
    | zero => intro x1 x2 H locs hP hD hS ls hl h; exact no_ok h
    | succ n ih =>
      intro x1 x2 H locs hP hD hS ls hl h
      rw [f_X10_openBits_L4] at h
      refine lv_iload_n hx hb dX10_openBits_4 rfl (lv_at hl 2 rfl) ?_
      refine lv_iconst (v := 4) hx hb dX10_openBits_5 (by decide) ?_
      refine lv_icmp_ge (tgt := 26) hx hb dX10_openBits_6 (by decide) (fun c_1 => ?_) (fun c_1 => ?_)
      · replace h := it_t c_1 h
        refine lv_iload_n hx hb dX10_openBits_26 rfl (lv_at hl 1 rfl) ?_
        replace h := so1 h
        subst h
        exact gIret hF hP hD hS rfl dX10_openBits_27
      · replace h := it_f c_1 h
        refine lv_iload_n hx hb dX10_openBits_9 rfl (lv_at hl 1 rfl) ?_
        refine lv_aload_n hx hb dX10_openBits_10 rfl (lv_at hl 0 rfl) ?_
        refine va_get (D := D) (ci := 10) (v := .ref q_open) (C := RX10) (T := TX10) (N := 11) hx hb hts in_X10_openBits_X10 hown hK.1 hP 0 rfl rfl 4 (by decide) (hts (.fieldLink RX10 25 "PaperBubbles$Wall" "open" "[I") (List.mem_of_getElem? (i := 1) rfl)) (fun _ h9 => h9) rfl dX10_openBits_11 ?_
        refine lv_iload_n hx hb dX10_openBits_14 rfl (lv_at hl 2 rfl) ?_
        replace h := chi_ok h
        obtain ⟨hi_2, h⟩ := h
        refine va_iald hx hb hK.1 hP 1 0 rfl rfl hi_2 dX10_openBits_15 ?_
        replace h := nm_ok h
        obtain ⟨t_3, et_3, h⟩ := h
        refine gTop et_3 ?_
        refine lv_iload_n hx hb dX10_openBits_16 rfl (lv_at hl 2 rfl) ?_
        refine lv_ishl hx hb dX10_openBits_17 ?_
        refine lv_ior hx hb dX10_openBits_18 ?_
        replace h := nm_ok h
        obtain ⟨t_4, et_4, h⟩ := h
        refine gTop et_4 ?_
        refine lv_istore_n (lv' := [(1, .int t_4), (0, .ref q_this), (2, .int x2)]) hx hb dX10_openBits_19 rfl hl (by decide) rfl (fun ls hl => ?_)
        replace h := nm_ok h
        obtain ⟨t_5, et_5, h⟩ := h
        refine lv_iinc (v := t_5) (lv' := [(2, .int t_5), (1, .int t_4), (0, .ref q_this)]) hx hb dX10_openBits_20 hl (k := 2) rfl (by rw [et_5]; rfl) (by decide) rfl (fun ls hl => ?_)
        refine lv_goto (tgt := 4) hx hb dX10_openBits_23 (by decide) ?_
        exact ih t_4 t_5 H locs hP hD hS ls (lv_sub hl [2, 1, 0] rfl) h
  unfold f_X10_openBits at h
  refine lv_iconst (v := 0) hx hb dX10_openBits_0 (by decide) ?_
  refine lv_istore_n (lv' := [(1, .int 0), (0, .ref q_this)]) hx hb dX10_openBits_1 rfl hl (by decide) rfl (fun ls hl => ?_)
  refine lv_iconst (v := 0) hx hb dX10_openBits_2 (by decide) ?_
  refine lv_istore_n (lv' := [(2, .int 0), (1, .int 0), (0, .ref q_this)]) hx hb dX10_openBits_3 rfl hl (by decide) rfl (fun ls hl => ?_)
  exact t_L4 gFuel 0 0 s.heap [] hP hD hS ls (lv_sub hl [2, 1, 0] rfl) h
set_option maxRecDepth 20000 in
theorem in_X10_passNight_X10 : ∀ w ∈ u_ws RX10 TX10 11, w ∈ wsX10_passNight := by decide +kernel
abbrev rm_X10_passNight : Room := { frames := 1, cells := 0, slots := 0, locals := 21 }
set_option maxHeartbeats 4000000 in
set_option maxRecDepth 100000 in
theorem c_X10_passNight (l : Launch) (D : va_G) (c : Nat → ClassId) (q_this q_air q_paste q_open q_met q_line : Nat) (v_rows : Int32) (v_columns : Int32) (v_holes : Int32) (v_out : Int32) (v_night : Int32) (v_inLine : Int32) (v_air : Nat → Int32) (v_paste : Nat → Int32) (o_v_night : Int32) (o_v_air : Nat → Int32) (o_v_paste : Nat → Int32) (h : f_X10_passNight v_rows v_columns v_night v_air v_paste = some (o_v_night, o_v_air, o_v_paste)) : gMV l yX10_passNight wsX10_passNight rm_X10_passNight D c [.ref q_this] [(q_this, .inr (10, [.int v_rows, .int v_columns, .ref q_air, .ref q_paste, .ref q_open, .int v_holes, .int v_out, .int v_night, .ref q_met, .ref q_line, .int v_inLine])), (q_air, .inl (c 0, 25, .inl v_air)), (q_paste, .inl (c 0, 25, .inl v_paste))] [(q_this, .inr (10, [.int v_rows, .int v_columns, .ref q_air, .ref q_paste, .ref q_open, .int v_holes, .int v_out, .int o_v_night, .ref q_met, .ref q_line, .int v_inLine])), (q_air, .inl (c 0, 25, .inl o_v_air)), (q_paste, .inl (c 0, 25, .inl o_v_paste))] := by
  refine gMV_of (cc := cX10_passNight) (maxL := 2) (rt := none) (by decide +kernel) rfl (Nat.le_of_ble_eq_true rfl) ?_
  intro p e s m below meth co A hF hK hX hP hD hA hS ls hl
  obtain ⟨hx, hb, hr, hts, hown, hlocks, hml⟩ := id hF
  have hl : lv_has ls 2 [(0, .ref q_this)] := hl
  have t_L63 : ∀ (v_night : Int32) (v_air : Nat → Int32) (v_paste : Nat → Int32) (H : Heap) (locs : List Loc), va_P D gcl [(q_this, .inr (10, [.int v_rows, .int v_columns, .ref q_air, .ref q_paste, .ref q_open, .int v_holes, .int v_out, .int v_night, .ref q_met, .ref q_line, .int v_inLine])), (q_air, .inl (c 0, 25, .inl v_air)), (q_paste, .inl (c 0, 25, .inl v_paste))] H → va_D A [(q_this, .inr (10, [.int v_rows, .int v_columns, .ref q_air, .ref q_paste, .ref q_open, .int v_holes, .int v_out, .int v_night, .ref q_met, .ref q_line, .int v_inLine])), (q_air, .inl (c 0, 25, .inl v_air)), (q_paste, .inl (c 0, 25, .inl v_paste))] → va_S A s.heap H locs → ∀ ls, lv_has ls 2 [(0, .ref q_this)] → f_X10_passNight_L63 v_night v_air v_paste = some (o_v_night, o_v_air, o_v_paste) → W p l e (headSpec wsX10_passNight rm_X10_passNight).room s m [.ref q_this].toArray below meth co H locs 0 0 (gQV D [(q_this, .inr (10, [.int v_rows, .int v_columns, .ref q_air, .ref q_paste, .ref q_open, .int v_holes, .int v_out, .int o_v_night, .ref q_met, .ref q_line, .int v_inLine])), (q_air, .inl (c 0, 25, .inl o_v_air)), (q_paste, .inl (c 0, 25, .inl o_v_paste))] A below [.ref q_this] s) (F0 m 63 ls []) := by
    intro  v_night v_air v_paste H locs hP hD hS ls hl h
    unfold f_X10_passNight_L63 at h
    refine lv_aload_n hx hb dX10_passNight_63 rfl (lv_at hl 0 rfl) ?_
    refine lv_dup hx hb dX10_passNight_64 rfl ?_
    refine va_get (D := D) (ci := 10) (v := .int v_night) (C := RX10) (T := TX10) (N := 11) hx hb hts in_X10_passNight_X10 hown hK.1 hP 0 rfl rfl 7 (by decide) (hts (.fieldLink RX10 56 "PaperBubbles$Wall" "night" "I") (List.mem_of_getElem? (i := 7) rfl)) (fun _ h9 => h9) rfl dX10_passNight_65 ?_
    refine lv_iconst (v := 1) hx hb dX10_passNight_68 (by decide) ?_
    refine lv_iadd hx hb dX10_passNight_69 ?_
    replace h := nm_ok h
    obtain ⟨t_19, et_19, h⟩ := h
    refine gTop et_19 ?_
    refine va_put (D := D) (ci := 10) (v := .int t_19) (ty := .int) (C := RX10) (T := TX10) (N := 11) hx hb hts in_X10_passNight_X10 tyX10 tyX10_ok nmX10 hown hK.1 hP hD hS 0 rfl rfl 7 (by decide) (hts (.fieldLink RX10 56 "PaperBubbles$Wall" "night" "I") (List.mem_of_getElem? (i := 7) rfl)) (fun _ h9 => h9) rfl (by decide +kernel) rfl rfl (Nat.le_of_ble_eq_true rfl) dX10_passNight_70 (fun H locs hP hD hS => ?_)
    have hP : va_P D gcl [(q_this, .inr (10, [.int v_rows, .int v_columns, .ref q_air, .ref q_paste, .ref q_open, .int v_holes, .int v_out, .int t_19, .ref q_met, .ref q_line, .int v_inLine])), (q_air, .inl (c 0, 25, .inl v_air)), (q_paste, .inl (c 0, 25, .inl v_paste))] H := hP
    have hD : va_D A [(q_this, .inr (10, [.int v_rows, .int v_columns, .ref q_air, .ref q_paste, .ref q_open, .int v_holes, .int v_out, .int t_19, .ref q_met, .ref q_line, .int v_inLine])), (q_air, .inl (c 0, 25, .inl v_air)), (q_paste, .inl (c 0, 25, .inl v_paste))] := hD
    replace h := so3 h
    obtain ⟨z0, z1, z2⟩ := h
    subst z0 z1 z2
    exact gVret hF hP hD hS dX10_passNight_73
  have t_L2 : ∀ (n : Nat), ∀ (x1 : Int32) (v_night : Int32) (v_air : Nat → Int32) (v_paste : Nat → Int32) (H : Heap) (locs : List Loc), va_P D gcl [(q_this, .inr (10, [.int v_rows, .int v_columns, .ref q_air, .ref q_paste, .ref q_open, .int v_holes, .int v_out, .int v_night, .ref q_met, .ref q_line, .int v_inLine])), (q_air, .inl (c 0, 25, .inl v_air)), (q_paste, .inl (c 0, 25, .inl v_paste))] H → va_D A [(q_this, .inr (10, [.int v_rows, .int v_columns, .ref q_air, .ref q_paste, .ref q_open, .int v_holes, .int v_out, .int v_night, .ref q_met, .ref q_line, .int v_inLine])), (q_air, .inl (c 0, 25, .inl v_air)), (q_paste, .inl (c 0, 25, .inl v_paste))] → va_S A s.heap H locs → ∀ ls, lv_has ls 2 [(0, .ref q_this), (1, .int x1)] → f_X10_passNight_L2 v_rows v_columns n x1 v_night v_air v_paste = some (o_v_night, o_v_air, o_v_paste) → W p l e (headSpec wsX10_passNight rm_X10_passNight).room s m [.ref q_this].toArray below meth co H locs 0 0 (gQV D [(q_this, .inr (10, [.int v_rows, .int v_columns, .ref q_air, .ref q_paste, .ref q_open, .int v_holes, .int v_out, .int o_v_night, .ref q_met, .ref q_line, .int v_inLine])), (q_air, .inl (c 0, 25, .inl o_v_air)), (q_paste, .inl (c 0, 25, .inl o_v_paste))] A below [.ref q_this] s) (F0 m 2 ls []) := by
    intro n
    induction n with
    | zero => intro x1 v_night v_air v_paste H locs hP hD hS ls hl h; exact no_ok h
    | succ n ih =>
      intro x1 v_night v_air v_paste H locs hP hD hS ls hl h
      rw [f_X10_passNight_L2] at h
      refine lv_iload_n hx hb dX10_passNight_2 rfl (lv_at hl 1 rfl) ?_
      refine lv_bipush (v := 25) hx hb dX10_passNight_3 (by decide) ?_
      refine lv_icmp_ge (tgt := 63) hx hb dX10_passNight_5 (by decide) (fun c_1 => ?_) (fun c_1 => ?_)
      · replace h := it_t c_1 h
        exact t_L63 v_night v_air v_paste H locs hP hD hS ls (lv_sub hl [0] rfl) h
      · replace h := it_f c_1 h
        refine lv_aload_n hx hb dX10_passNight_8 rfl (lv_at hl 0 rfl) ?_
        refine lv_iload_n hx hb dX10_passNight_9 rfl (lv_at hl 1 rfl) ?_
        replace h := kb_ok h
        obtain ⟨r_3, hc_2, h⟩ := h
        refine gCallIr (isC := [0]) (wc := [(q_this, .inr (10, [.int v_rows, .int v_columns, .ref q_air, .ref q_paste, .ref q_open, .int v_holes, .int v_out, .int v_night, .ref q_met, .ref q_line, .int v_inLine]))]) hP hD hS hA ⟨rfl, trivial⟩ (va_runV (rm := rm_X10_has) (ws := wsX10_has) (As := [.int x1]) (rest := []) (gFix hF) (c_X10_has l D c q_this q_air q_paste q_open q_met q_line x1 v_rows v_columns v_holes v_out v_night v_inLine r_3 hc_2 H.size) (cwV 1 hts gX10_passNight_X10_has rfl rfl rfl (by decide +kernel) ⟨Nat.le_of_ble_eq_true rfl, Nat.le_of_ble_eq_true rfl⟩) (gPreV (wc := [(q_this, .inr (10, [.int v_rows, .int v_columns, .ref q_air, .ref q_paste, .ref q_open, .int v_holes, .int v_out, .int v_night, .ref q_met, .ref q_line, .int v_inLine]))]) (q := (RX10, TX10, 11)) (ci := 10) (q0 := 0) (isC := [0]) hK hX hS hA hP hD ⟨rfl, trivial⟩ (by decide +kernel) rfl rfl) rfl rfl hl.1 rfl (lv_room (Nat.le_of_ble_eq_true rfl)) dX10_passNight_10 ⟨Nat.le_of_ble_eq_true rfl, Nat.le_of_ble_eq_true rfl⟩) (fun H locs hP hS => ?_)
        refine lv_if_eq (tgt := 63) hx hb dX10_passNight_13 (by decide) (fun c_4 => ?_) (fun c_4 => ?_)
        · replace h := it_t c_4 h
          exact t_L63 v_night v_air v_paste H locs hP hD hS ls (lv_sub hl [0] rfl) h
        · replace h := it_f c_4 h
          refine lv_aload_n hx hb dX10_passNight_16 rfl (lv_at hl 0 rfl) ?_
          refine va_get (D := D) (ci := 10) (v := .ref q_air) (C := RX10) (T := TX10) (N := 11) hx hb hts in_X10_passNight_X10 hown hK.1 hP 0 rfl rfl 2 (by decide) (hts (.fieldLink RX10 18 "PaperBubbles$Wall" "air" "[I") (List.mem_of_getElem? (i := 1) rfl)) (fun _ h9 => h9) rfl dX10_passNight_17 ?_
          refine lv_iload_n hx hb dX10_passNight_20 rfl (lv_at hl 1 rfl) ?_
          refine lv_iconst (v := 0) hx hb dX10_passNight_21 (by decide) ?_
          refine lv_aload_n hx hb dX10_passNight_22 rfl (lv_at hl 0 rfl) ?_
          refine va_get (D := D) (ci := 10) (v := .ref q_air) (C := RX10) (T := TX10) (N := 11) hx hb hts in_X10_passNight_X10 hown hK.1 hP 0 rfl rfl 2 (by decide) (hts (.fieldLink RX10 18 "PaperBubbles$Wall" "air" "[I") (List.mem_of_getElem? (i := 1) rfl)) (fun _ h9 => h9) rfl dX10_passNight_23 ?_
          refine lv_iload_n hx hb dX10_passNight_26 rfl (lv_at hl 1 rfl) ?_
          replace h := chi_ok h
          obtain ⟨hi_5, h⟩ := h
          refine va_iald hx hb hK.1 hP 1 0 rfl rfl hi_5 dX10_passNight_27 ?_
          replace h := nm_ok h
          obtain ⟨t_6, et_6, h⟩ := h
          refine gTop et_6 ?_
          refine lv_aload_n hx hb dX10_passNight_28 rfl (lv_at hl 0 rfl) ?_
          refine va_get (D := D) (ci := 10) (v := .ref q_paste) (C := RX10) (T := TX10) (N := 11) hx hb hts in_X10_passNight_X10 hown hK.1 hP 0 rfl rfl 3 (by decide) (hts (.fieldLink RX10 22 "PaperBubbles$Wall" "paste" "[I") (List.mem_of_getElem? (i := 2) rfl)) (fun _ h9 => h9) rfl dX10_passNight_29 ?_
          refine lv_iload_n hx hb dX10_passNight_32 rfl (lv_at hl 1 rfl) ?_
          replace h := chi_ok h
          obtain ⟨hi_7, h⟩ := h
          refine va_iald hx hb hK.1 hP 2 0 rfl rfl hi_7 dX10_passNight_33 ?_
          refine lv_isub hx hb dX10_passNight_34 ?_
          replace h := nm_ok h
          obtain ⟨t_8, et_8, h⟩ := h
          refine gTop et_8 ?_
          refine va_mmax hx hb (by rw [hml]; exact hl.1.symm) hown (hts (.methodLink RX10 117 Lib.Math.max.name) (List.mem_of_getElem? (i := 3) rfl)) (hts (.static Lib.Math.max.name) (List.mem_of_getElem? (i := 4) rfl)) (hts (.initialized "java/lang/Math") (List.mem_of_getElem? (i := 5) rfl)) (hts (.code Lib.Math.max.name Lib.Math.max.code 2 (some .int)) (List.mem_of_getElem? (i := 6) rfl)) (Nat.le_of_ble_eq_true rfl) (by first | exact Nat.le_of_ble_eq_true rfl | decide) (Nat.le_of_ble_eq_true rfl) (Nat.le_of_ble_eq_true rfl) dX10_passNight_35 ?_
          replace h := nm_ok h
          obtain ⟨t_9, et_9, h⟩ := h
          refine gTop et_9 ?_
          replace h := chi_ok h
          obtain ⟨hi_10, h⟩ := h
          replace h := nm_ok h
          obtain ⟨w_11, ew_11, h⟩ := h
          refine va_iast hx hb hK.1 hP hD hS 1 0 rfl rfl hi_10 dX10_passNight_38 (fun H locs hP hD hS => ?_)
          have hP : va_P D gcl [(q_this, .inr (10, [.int v_rows, .int v_columns, .ref q_air, .ref q_paste, .ref q_open, .int v_holes, .int v_out, .int v_night, .ref q_met, .ref q_line, .int v_inLine])), (q_air, .inl (c 0, 25, .inl w_11)), (q_paste, .inl (c 0, 25, .inl v_paste))] H := by subst ew_11; exact hP
          have hD : va_D A [(q_this, .inr (10, [.int v_rows, .int v_columns, .ref q_air, .ref q_paste, .ref q_open, .int v_holes, .int v_out, .int v_night, .ref q_met, .ref q_line, .int v_inLine])), (q_air, .inl (c 0, 25, .inl w_11)), (q_paste, .inl (c 0, 25, .inl v_paste))] := by subst ew_11; exact hD
          refine lv_aload_n hx hb dX10_passNight_39 rfl (lv_at hl 0 rfl) ?_
          refine va_get (D := D) (ci := 10) (v := .ref q_paste) (C := RX10) (T := TX10) (N := 11) hx hb hts in_X10_passNight_X10 hown hK.1 hP 0 rfl rfl 3 (by decide) (hts (.fieldLink RX10 22 "PaperBubbles$Wall" "paste" "[I") (List.mem_of_getElem? (i := 2) rfl)) (fun _ h9 => h9) rfl dX10_passNight_40 ?_
          refine lv_iload_n hx hb dX10_passNight_43 rfl (lv_at hl 1 rfl) ?_
          refine lv_iconst (v := 0) hx hb dX10_passNight_44 (by decide) ?_
          refine lv_aload_n hx hb dX10_passNight_45 rfl (lv_at hl 0 rfl) ?_
          refine va_get (D := D) (ci := 10) (v := .ref q_paste) (C := RX10) (T := TX10) (N := 11) hx hb hts in_X10_passNight_X10 hown hK.1 hP 0 rfl rfl 3 (by decide) (hts (.fieldLink RX10 22 "PaperBubbles$Wall" "paste" "[I") (List.mem_of_getElem? (i := 2) rfl)) (fun _ h9 => h9) rfl dX10_passNight_46 ?_
          refine lv_iload_n hx hb dX10_passNight_49 rfl (lv_at hl 1 rfl) ?_
          replace h := chi_ok h
          obtain ⟨hi_12, h⟩ := h
          refine va_iald hx hb hK.1 hP 2 0 rfl rfl hi_12 dX10_passNight_50 ?_
          replace h := nm_ok h
          obtain ⟨t_13, et_13, h⟩ := h
          refine gTop et_13 ?_
          refine lv_iconst (v := 1) hx hb dX10_passNight_51 (by decide) ?_
          refine lv_isub hx hb dX10_passNight_52 ?_
          replace h := nm_ok h
          obtain ⟨t_14, et_14, h⟩ := h
          refine gTop et_14 ?_
          refine va_mmax hx hb (by rw [hml]; exact hl.1.symm) hown (hts (.methodLink RX10 117 Lib.Math.max.name) (List.mem_of_getElem? (i := 3) rfl)) (hts (.static Lib.Math.max.name) (List.mem_of_getElem? (i := 4) rfl)) (hts (.initialized "java/lang/Math") (List.mem_of_getElem? (i := 5) rfl)) (hts (.code Lib.Math.max.name Lib.Math.max.code 2 (some .int)) (List.mem_of_getElem? (i := 6) rfl)) (Nat.le_of_ble_eq_true rfl) (by first | exact Nat.le_of_ble_eq_true rfl | decide) (Nat.le_of_ble_eq_true rfl) (Nat.le_of_ble_eq_true rfl) dX10_passNight_53 ?_
          replace h := nm_ok h
          obtain ⟨t_15, et_15, h⟩ := h
          refine gTop et_15 ?_
          replace h := chi_ok h
          obtain ⟨hi_16, h⟩ := h
          replace h := nm_ok h
          obtain ⟨w_17, ew_17, h⟩ := h
          refine va_iast hx hb hK.1 hP hD hS 2 0 rfl rfl hi_16 dX10_passNight_56 (fun H locs hP hD hS => ?_)
          have hP : va_P D gcl [(q_this, .inr (10, [.int v_rows, .int v_columns, .ref q_air, .ref q_paste, .ref q_open, .int v_holes, .int v_out, .int v_night, .ref q_met, .ref q_line, .int v_inLine])), (q_air, .inl (c 0, 25, .inl w_11)), (q_paste, .inl (c 0, 25, .inl w_17))] H := by subst ew_17; exact hP
          have hD : va_D A [(q_this, .inr (10, [.int v_rows, .int v_columns, .ref q_air, .ref q_paste, .ref q_open, .int v_holes, .int v_out, .int v_night, .ref q_met, .ref q_line, .int v_inLine])), (q_air, .inl (c 0, 25, .inl w_11)), (q_paste, .inl (c 0, 25, .inl w_17))] := by subst ew_17; exact hD
          replace h := nm_ok h
          obtain ⟨t_18, et_18, h⟩ := h
          refine lv_iinc (v := t_18) (lv' := [(1, .int t_18), (0, .ref q_this)]) hx hb dX10_passNight_57 hl (k := 1) rfl (by rw [et_18]; rfl) (by decide) rfl (fun ls hl => ?_)
          refine lv_goto (tgt := 2) hx hb dX10_passNight_60 (by decide) ?_
          exact ih t_18 v_night w_11 w_17 H locs hP hD hS ls (lv_sub hl [1, 0] rfl) h
  unfold f_X10_passNight at h
  refine lv_iconst (v := 0) hx hb dX10_passNight_0 (by decide) ?_
  refine lv_istore_n (lv' := [(1, .int 0), (0, .ref q_this)]) hx hb dX10_passNight_1 rfl hl (by decide) rfl (fun ls hl => ?_)
  exact t_L2 gFuel 0 v_night v_air v_paste s.heap [] hP hD hS ls (lv_sub hl [1, 0] rfl) h
set_option maxRecDepth 20000 in
theorem in_X3_placeOf_X3 : ∀ w ∈ u_ws RX3 TX3 14, w ∈ wsX3_placeOf := by decide +kernel
abbrev rm_X3_placeOf : Room := { frames := 1, cells := 0, slots := 0, locals := 22 }
set_option maxHeartbeats 4000000 in
set_option maxRecDepth 100000 in
theorem c_X3_placeOf (l : Launch) (D : va_G) (c : Nat → ClassId) (q_this q_steps q_stack q_answers q_draft q_held : Nat) (s_names : Nat) (a_1 : Int32) (a_2 : Int32) (a_3 : Int32) (v_length : Int32) (v_side : Int32) (v_round : Int32) (v_drafted : Int32) (v_holding : Int32) (v_open : Int32) (v_digits : Int32) (v_wantsOperand : Int32) (o_r : Int32) (h : f_X3_placeOf a_1 a_2 a_3 v_side = some o_r) : gMI l yX3_placeOf wsX3_placeOf rm_X3_placeOf D c [.ref q_this, .int a_1, .int a_2, .int a_3] [(q_this, .inr (3, [.ref (c (10 + s_names)), .ref q_steps, .int v_length, .ref q_stack, .ref q_answers, .int v_side, .int v_round, .ref q_draft, .int v_drafted, .ref q_held, .int v_holding, .int v_open, .int v_digits, .int v_wantsOperand]))] [(q_this, .inr (3, [.ref (c (10 + s_names)), .ref q_steps, .int v_length, .ref q_stack, .ref q_answers, .int v_side, .int v_round, .ref q_draft, .int v_drafted, .ref q_held, .int v_holding, .int v_open, .int v_digits, .int v_wantsOperand]))] o_r := by
  refine gMI_of (cc := cX3_placeOf) (maxL := 4) (rt := (some .int)) (by decide +kernel) rfl (Nat.le_of_ble_eq_true rfl) ?_
  intro p e s m below meth co A hF hK hX hP hD hA hS ls hl
  obtain ⟨hx, hb, hr, hts, hown, hlocks, hml⟩ := id hF
  have hl : lv_has ls 4 [(0, .ref q_this), (1, .int a_1), (2, .int a_2), (3, .int a_3)] := hl
  unfold f_X3_placeOf at h
  refine lv_iload_n hx hb dX3_placeOf_0 rfl (lv_at hl 1 rfl) ?_
  refine lv_iconst (v := 0) hx hb dX3_placeOf_1 (by decide) ?_
  refine lv_bipush (v := 99) hx hb dX3_placeOf_2 (by decide) ?_
  replace h := kb_ok h
  obtain ⟨r_2, hc_1, h⟩ := h
  refine gCallIr (isC := []) (wc := []) hP hD hS hA trivial (va_runSN (rm := rm_X11_within) (ws := wsX11_within) (As := [.int a_1, .int 0, .int 99]) (rest := []) (gFix hF) (c_X11_within l D c a_1 0 99 r_2 hc_1 s.heap.size) ⟨(va_cnB 3 hts gX3_placeOf_X11_within_n58 rfl rfl rfl (hK.2 (.methodLinkNest "PaperBubbles$Law" 58 ⟨"PaperBubbles", "within", "(III)Z"⟩ "PaperBubbles") (List.mem_of_getElem? (i := 33) rfl)) (hts (.initialized RX11) (List.mem_of_getElem? (i := 3) rfl)) (by decide +kernel) ⟨Nat.le_of_ble_eq_true rfl, Nat.le_of_ble_eq_true rfl⟩), (hts (.static yX11_within) (List.mem_of_getElem? (i := 2) rfl)), trivial⟩ (gPreS (wc := []) (isC := []) hK hX hS hA hP hD trivial (by decide +kernel)) rfl rfl hl.1 rfl (lv_room (Nat.le_of_ble_eq_true rfl)) dX3_placeOf_4 ⟨Nat.le_of_ble_eq_true rfl, Nat.le_of_ble_eq_true rfl⟩) (fun H locs hP hS => ?_)
  refine lv_if_eq (tgt := 38) hx hb dX3_placeOf_7 (by decide) (fun c_3 => ?_) (fun c_3 => ?_)
  · replace h := it_t c_3 h
    refine lv_iconst (v := (-1)) hx hb dX3_placeOf_38 (by decide) ?_
    replace h := so1 h
    subst h
    exact gIret hF hP hD hS rfl dX3_placeOf_39
  · replace h := it_f c_3 h
    refine lv_iload_n hx hb dX3_placeOf_10 rfl (lv_at hl 2 rfl) ?_
    refine lv_iconst (v := 0) hx hb dX3_placeOf_11 (by decide) ?_
    refine lv_aload_n hx hb dX3_placeOf_12 rfl (lv_at hl 0 rfl) ?_
    refine va_get (D := D) (ci := 3) (v := .int v_side) (C := RX3) (T := TX3) (N := 14) hx hb hts in_X3_placeOf_X3 hown hK.1 hP 0 rfl rfl 5 (by decide) (hts (.fieldLink RX3 39 "PaperBubbles$Law" "side" "I") (List.mem_of_getElem? (i := 1) rfl)) (fun _ h9 => h9) rfl dX3_placeOf_13 ?_
    refine lv_iconst (v := 1) hx hb dX3_placeOf_16 (by decide) ?_
    refine lv_isub hx hb dX3_placeOf_17 ?_
    replace h := nm_ok h
    obtain ⟨t_4, et_4, h⟩ := h
    refine gTop et_4 ?_
    replace h := kb_ok h
    obtain ⟨r_6, hc_5, h⟩ := h
    refine gCallIr (isC := []) (wc := []) hP hD hS hA trivial (va_runSN (rm := rm_X11_within) (ws := wsX11_within) (As := [.int a_2, .int 0, .int t_4]) (rest := []) (gFix hF) (c_X11_within l D c a_2 0 t_4 r_6 hc_5 H.size) ⟨(va_cnB 3 hts gX3_placeOf_X11_within_n58 rfl rfl rfl (hK.2 (.methodLinkNest "PaperBubbles$Law" 58 ⟨"PaperBubbles", "within", "(III)Z"⟩ "PaperBubbles") (List.mem_of_getElem? (i := 33) rfl)) (hts (.initialized RX11) (List.mem_of_getElem? (i := 3) rfl)) (by decide +kernel) ⟨Nat.le_of_ble_eq_true rfl, Nat.le_of_ble_eq_true rfl⟩), (hts (.static yX11_within) (List.mem_of_getElem? (i := 2) rfl)), trivial⟩ (gPreS (wc := []) (isC := []) hK hX hS hA hP hD trivial (by decide +kernel)) rfl rfl hl.1 rfl (lv_room (Nat.le_of_ble_eq_true rfl)) dX3_placeOf_18 ⟨Nat.le_of_ble_eq_true rfl, Nat.le_of_ble_eq_true rfl⟩) (fun H locs hP hS => ?_)
    refine lv_if_eq (tgt := 38) hx hb dX3_placeOf_21 (by decide) (fun c_7 => ?_) (fun c_7 => ?_)
    · replace h := it_t c_7 h
      refine lv_iconst (v := (-1)) hx hb dX3_placeOf_38 (by decide) ?_
      replace h := so1 h
      subst h
      exact gIret hF hP hD hS rfl dX3_placeOf_39
    · replace h := it_f c_7 h
      refine lv_iload_n hx hb dX3_placeOf_24 rfl (lv_at hl 3 rfl) ?_
      refine lv_iconst (v := 0) hx hb dX3_placeOf_25 (by decide) ?_
      refine lv_aload_n hx hb dX3_placeOf_26 rfl (lv_at hl 0 rfl) ?_
      refine va_get (D := D) (ci := 3) (v := .int v_side) (C := RX3) (T := TX3) (N := 14) hx hb hts in_X3_placeOf_X3 hown hK.1 hP 0 rfl rfl 5 (by decide) (hts (.fieldLink RX3 39 "PaperBubbles$Law" "side" "I") (List.mem_of_getElem? (i := 1) rfl)) (fun _ h9 => h9) rfl dX3_placeOf_27 ?_
      refine lv_iconst (v := 1) hx hb dX3_placeOf_30 (by decide) ?_
      refine lv_isub hx hb dX3_placeOf_31 ?_
      replace h := nm_ok h
      obtain ⟨t_8, et_8, h⟩ := h
      refine gTop et_8 ?_
      replace h := kb_ok h
      obtain ⟨r_10, hc_9, h⟩ := h
      refine gCallIr (isC := []) (wc := []) hP hD hS hA trivial (va_runSN (rm := rm_X11_within) (ws := wsX11_within) (As := [.int a_3, .int 0, .int t_8]) (rest := []) (gFix hF) (c_X11_within l D c a_3 0 t_8 r_10 hc_9 H.size) ⟨(va_cnB 3 hts gX3_placeOf_X11_within_n58 rfl rfl rfl (hK.2 (.methodLinkNest "PaperBubbles$Law" 58 ⟨"PaperBubbles", "within", "(III)Z"⟩ "PaperBubbles") (List.mem_of_getElem? (i := 33) rfl)) (hts (.initialized RX11) (List.mem_of_getElem? (i := 3) rfl)) (by decide +kernel) ⟨Nat.le_of_ble_eq_true rfl, Nat.le_of_ble_eq_true rfl⟩), (hts (.static yX11_within) (List.mem_of_getElem? (i := 2) rfl)), trivial⟩ (gPreS (wc := []) (isC := []) hK hX hS hA hP hD trivial (by decide +kernel)) rfl rfl hl.1 rfl (lv_room (Nat.le_of_ble_eq_true rfl)) dX3_placeOf_32 ⟨Nat.le_of_ble_eq_true rfl, Nat.le_of_ble_eq_true rfl⟩) (fun H locs hP hS => ?_)
      refine lv_if_ne (tgt := 40) hx hb dX3_placeOf_35 (by decide) (fun c_11 => ?_) (fun c_11 => ?_)
      · replace h := it_f c_11 h
        refine lv_iload_n hx hb dX3_placeOf_40 rfl (lv_at hl 1 rfl) ?_
        refine lv_aload_n hx hb dX3_placeOf_41 rfl (lv_at hl 0 rfl) ?_
        refine va_get (D := D) (ci := 3) (v := .int v_side) (C := RX3) (T := TX3) (N := 14) hx hb hts in_X3_placeOf_X3 hown hK.1 hP 0 rfl rfl 5 (by decide) (hts (.fieldLink RX3 39 "PaperBubbles$Law" "side" "I") (List.mem_of_getElem? (i := 1) rfl)) (fun _ h9 => h9) rfl dX3_placeOf_42 ?_
        refine lv_imul hx hb dX3_placeOf_45 ?_
        replace h := nm_ok h
        obtain ⟨t_12, et_12, h⟩ := h
        refine gTop et_12 ?_
        refine lv_iload_n hx hb dX3_placeOf_46 rfl (lv_at hl 2 rfl) ?_
        refine lv_iadd hx hb dX3_placeOf_47 ?_
        replace h := nm_ok h
        obtain ⟨t_13, et_13, h⟩ := h
        refine gTop et_13 ?_
        refine lv_aload_n hx hb dX3_placeOf_48 rfl (lv_at hl 0 rfl) ?_
        refine va_get (D := D) (ci := 3) (v := .int v_side) (C := RX3) (T := TX3) (N := 14) hx hb hts in_X3_placeOf_X3 hown hK.1 hP 0 rfl rfl 5 (by decide) (hts (.fieldLink RX3 39 "PaperBubbles$Law" "side" "I") (List.mem_of_getElem? (i := 1) rfl)) (fun _ h9 => h9) rfl dX3_placeOf_49 ?_
        refine lv_imul hx hb dX3_placeOf_52 ?_
        replace h := nm_ok h
        obtain ⟨t_14, et_14, h⟩ := h
        refine gTop et_14 ?_
        refine lv_iload_n hx hb dX3_placeOf_53 rfl (lv_at hl 3 rfl) ?_
        refine lv_iadd hx hb dX3_placeOf_54 ?_
        replace h := so1 h
        subst h
        exact gIret hF hP hD hS rfl dX3_placeOf_55
      · replace h := it_t c_11 h
        refine lv_iconst (v := (-1)) hx hb dX3_placeOf_38 (by decide) ?_
        replace h := so1 h
        subst h
        exact gIret hF hP hD hS rfl dX3_placeOf_39
abbrev rm_X3_joined : Room := { frames := 0, cells := 0, slots := 0, locals := 0 }
set_option maxHeartbeats 4000000 in
set_option maxRecDepth 100000 in
theorem c_X3_joined (l : Launch) (D : va_G) (c : Nat → ClassId) (a_0 : Int32) (a_1 : Int32) (a_2 : Int32) (o_r : Int32) (h : f_X3_joined a_0 a_1 a_2 = some o_r) : gMI l yX3_joined wsX3_joined rm_X3_joined D c [.int a_0, .int a_1, .int a_2] [] [] o_r := by
  refine gMI_of (cc := cX3_joined) (maxL := 3) (rt := (some .int)) (by decide +kernel) rfl (Nat.le_of_ble_eq_true rfl) ?_
  intro p e s m below meth co A hF hK hX hP hD hA hS ls hl
  obtain ⟨hx, hb, hr, hts, hown, hlocks, hml⟩ := id hF
  have hl : lv_has ls 3 [(0, .int a_0), (1, .int a_1), (2, .int a_2)] := hl
  have t_L203 : ∀ (H : Heap) (locs : List Loc), va_P D gcl [] H → va_D A [] → va_S A s.heap H locs → ∀ ls, lv_has ls 3 [(1, .int a_1), (2, .int a_2)] → f_X3_joined_L203 a_1 a_2 = some o_r → W p l e (headSpec wsX3_joined rm_X3_joined).room s m [.int a_0, .int a_1, .int a_2].toArray below meth co H locs 0 0 (gQI D [] o_r A below [.int a_0, .int a_1, .int a_2] s) (F0 m 203 ls []) := by
    intro  H locs hP hD hS ls hl h
    unfold f_X3_joined_L203 at h
    refine lv_iload_n hx hb dX3_joined_203 rfl (lv_at hl 0 rfl) ?_
    refine lv_if_ne (tgt := 211) hx hb dX3_joined_204 (by decide) (fun c_36 => ?_) (fun c_36 => ?_)
    · replace h := it_f c_36 h
      refine lv_iconst (v := 1) hx hb dX3_joined_211 (by decide) ?_
      refine lv_goto (tgt := 216) hx hb dX3_joined_212 (by decide) ?_
      replace h := so1 h
      subst h
      exact gIret hF hP hD hS rfl dX3_joined_216
    · replace h := it_t c_36 h
      refine lv_iload_n hx hb dX3_joined_207 rfl (lv_at hl 1 rfl) ?_
      refine lv_if_eq (tgt := 215) hx hb dX3_joined_208 (by decide) (fun c_37 => ?_) (fun c_37 => ?_)
      · replace h := it_t c_37 h
        refine lv_iconst (v := 0) hx hb dX3_joined_215 (by decide) ?_
        replace h := so1 h
        subst h
        exact gIret hF hP hD hS rfl dX3_joined_216
      · replace h := it_f c_37 h
        refine lv_iconst (v := 1) hx hb dX3_joined_211 (by decide) ?_
        refine lv_goto (tgt := 216) hx hb dX3_joined_212 (by decide) ?_
        replace h := so1 h
        subst h
        exact gIret hF hP hD hS rfl dX3_joined_216
  unfold f_X3_joined at h
  refine lv_iload_n hx hb dX3_joined_0 rfl (lv_at hl 0 rfl) ?_
  by_cases c_1 : a_0 = 37
  · replace h := it_t c_1 h
    refine lv_tableIn (x := a_0) (off := 143) (tgt := 144) hx hb dX3_joined_1 (by rw [c_1]; decide) (by rw [c_1]; decide) (by rw [c_1]; rfl) (by decide) ?_
    refine lv_iload_n hx hb dX3_joined_144 rfl (lv_at hl 2 rfl) ?_
    refine lv_if_ne (tgt := 152) hx hb dX3_joined_145 (by decide) (fun c_2 => ?_) (fun c_2 => ?_)
    · replace h := it_f c_2 h
      refine lv_iload_n hx hb dX3_joined_152 rfl (lv_at hl 1 rfl) ?_
      refine lv_iload_n hx hb dX3_joined_153 rfl (lv_at hl 2 rfl) ?_
      replace h := chz_ok h
      obtain ⟨hz_3, h⟩ := h
      refine lv_irem hx hb dX3_joined_154 hz_3 ?_
      replace h := so1 h
      subst h
      exact gIret hF hP hD hS rfl dX3_joined_155
    · replace h := it_t c_2 h
      refine lv_iconst (v := 0) hx hb dX3_joined_148 (by decide) ?_
      refine lv_goto (tgt := 155) hx hb dX3_joined_149 (by decide) ?_
      replace h := so1 h
      subst h
      exact gIret hF hP hD hS rfl dX3_joined_155
  · replace h := it_f c_1 h
    by_cases c_4 : a_0 = 38
    · replace h := it_t c_4 h
      refine lv_tableIn (x := a_0) (off := 188) (tgt := 189) hx hb dX3_joined_1 (by rw [c_4]; decide) (by rw [c_4]; decide) (by rw [c_4]; rfl) (by decide) ?_
      refine lv_iload_n hx hb dX3_joined_189 rfl (lv_at hl 1 rfl) ?_
      refine lv_if_eq (tgt := 201) hx hb dX3_joined_190 (by decide) (fun c_5 => ?_) (fun c_5 => ?_)
      · replace h := it_t c_5 h
        refine lv_iconst (v := 0) hx hb dX3_joined_201 (by decide) ?_
        replace h := so1 h
        subst h
        exact gIret hF hP hD hS rfl dX3_joined_202
      · replace h := it_f c_5 h
        refine lv_iload_n hx hb dX3_joined_193 rfl (lv_at hl 2 rfl) ?_
        refine lv_if_eq (tgt := 201) hx hb dX3_joined_194 (by decide) (fun c_6 => ?_) (fun c_6 => ?_)
        · replace h := it_t c_6 h
          refine lv_iconst (v := 0) hx hb dX3_joined_201 (by decide) ?_
          replace h := so1 h
          subst h
          exact gIret hF hP hD hS rfl dX3_joined_202
        · replace h := it_f c_6 h
          refine lv_iconst (v := 1) hx hb dX3_joined_197 (by decide) ?_
          refine lv_goto (tgt := 202) hx hb dX3_joined_198 (by decide) ?_
          replace h := so1 h
          subst h
          exact gIret hF hP hD hS rfl dX3_joined_202
    · replace h := it_f c_4 h
      by_cases c_7 : a_0 = 39
      · replace h := it_t c_7 h
        refine lv_tableIn (x := a_0) (off := 202) (tgt := 203) hx hb dX3_joined_1 (by rw [c_7]; decide) (by rw [c_7]; decide) (by rw [c_7]; rfl) (by decide) ?_
        exact t_L203  s.heap [] hP hD hS ls (lv_sub hl [1, 2] rfl) h
      · replace h := it_f c_7 h
        by_cases c_8 : a_0 = 40
        · replace h := it_t c_8 h
          refine lv_tableIn (x := a_0) (off := 202) (tgt := 203) hx hb dX3_joined_1 (by rw [c_8]; decide) (by rw [c_8]; decide) (by rw [c_8]; rfl) (by decide) ?_
          exact t_L203  s.heap [] hP hD hS ls (lv_sub hl [1, 2] rfl) h
        · replace h := it_f c_8 h
          by_cases c_9 : a_0 = 41
          · replace h := it_t c_9 h
            refine lv_tableIn (x := a_0) (off := 202) (tgt := 203) hx hb dX3_joined_1 (by rw [c_9]; decide) (by rw [c_9]; decide) (by rw [c_9]; rfl) (by decide) ?_
            exact t_L203  s.heap [] hP hD hS ls (lv_sub hl [1, 2] rfl) h
          · replace h := it_f c_9 h
            by_cases c_10 : a_0 = 42
            · replace h := it_t c_10 h
              refine lv_tableIn (x := a_0) (off := 127) (tgt := 128) hx hb dX3_joined_1 (by rw [c_10]; decide) (by rw [c_10]; decide) (by rw [c_10]; rfl) (by decide) ?_
              refine lv_iload_n hx hb dX3_joined_128 rfl (lv_at hl 1 rfl) ?_
              refine lv_iload_n hx hb dX3_joined_129 rfl (lv_at hl 2 rfl) ?_
              refine lv_imul hx hb dX3_joined_130 ?_
              replace h := so1 h
              subst h
              exact gIret hF hP hD hS rfl dX3_joined_131
            · replace h := it_f c_10 h
              by_cases c_11 : a_0 = 43
              · replace h := it_t c_11 h
                refine lv_tableIn (x := a_0) (off := 119) (tgt := 120) hx hb dX3_joined_1 (by rw [c_11]; decide) (by rw [c_11]; decide) (by rw [c_11]; rfl) (by decide) ?_
                refine lv_iload_n hx hb dX3_joined_120 rfl (lv_at hl 1 rfl) ?_
                refine lv_iload_n hx hb dX3_joined_121 rfl (lv_at hl 2 rfl) ?_
                refine lv_iadd hx hb dX3_joined_122 ?_
                replace h := so1 h
                subst h
                exact gIret hF hP hD hS rfl dX3_joined_123
              · replace h := it_f c_11 h
                by_cases c_12 : a_0 = 44
                · replace h := it_t c_12 h
                  refine lv_tableIn (x := a_0) (off := 202) (tgt := 203) hx hb dX3_joined_1 (by rw [c_12]; decide) (by rw [c_12]; decide) (by rw [c_12]; rfl) (by decide) ?_
                  exact t_L203  s.heap [] hP hD hS ls (lv_sub hl [1, 2] rfl) h
                · replace h := it_f c_12 h
                  by_cases c_13 : a_0 = 45
                  · replace h := it_t c_13 h
                    refine lv_tableIn (x := a_0) (off := 123) (tgt := 124) hx hb dX3_joined_1 (by rw [c_13]; decide) (by rw [c_13]; decide) (by rw [c_13]; rfl) (by decide) ?_
                    refine lv_iload_n hx hb dX3_joined_124 rfl (lv_at hl 1 rfl) ?_
                    refine lv_iload_n hx hb dX3_joined_125 rfl (lv_at hl 2 rfl) ?_
                    refine lv_isub hx hb dX3_joined_126 ?_
                    replace h := so1 h
                    subst h
                    exact gIret hF hP hD hS rfl dX3_joined_127
                  · replace h := it_f c_13 h
                    by_cases c_14 : a_0 = 46
                    · replace h := it_t c_14 h
                      refine lv_tableIn (x := a_0) (off := 202) (tgt := 203) hx hb dX3_joined_1 (by rw [c_14]; decide) (by rw [c_14]; decide) (by rw [c_14]; rfl) (by decide) ?_
                      exact t_L203  s.heap [] hP hD hS ls (lv_sub hl [1, 2] rfl) h
                    · replace h := it_f c_14 h
                      by_cases c_15 : a_0 = 47
                      · replace h := it_t c_15 h
                        refine lv_tableIn (x := a_0) (off := 131) (tgt := 132) hx hb dX3_joined_1 (by rw [c_15]; decide) (by rw [c_15]; decide) (by rw [c_15]; rfl) (by decide) ?_
                        refine lv_iload_n hx hb dX3_joined_132 rfl (lv_at hl 2 rfl) ?_
                        refine lv_if_ne (tgt := 140) hx hb dX3_joined_133 (by decide) (fun c_16 => ?_) (fun c_16 => ?_)
                        · replace h := it_f c_16 h
                          refine lv_iload_n hx hb dX3_joined_140 rfl (lv_at hl 1 rfl) ?_
                          refine lv_iload_n hx hb dX3_joined_141 rfl (lv_at hl 2 rfl) ?_
                          replace h := chz_ok h
                          obtain ⟨hz_17, h⟩ := h
                          refine lv_idiv hx hb dX3_joined_142 hz_17 ?_
                          replace h := so1 h
                          subst h
                          exact gIret hF hP hD hS rfl dX3_joined_143
                        · replace h := it_t c_16 h
                          refine lv_iconst (v := 0) hx hb dX3_joined_136 (by decide) ?_
                          refine lv_goto (tgt := 143) hx hb dX3_joined_137 (by decide) ?_
                          replace h := so1 h
                          subst h
                          exact gIret hF hP hD hS rfl dX3_joined_143
                      · replace h := it_f c_15 h
                        by_cases c_18 : a_0 = 48
                        · replace h := it_t c_18 h
                          refine lv_tableIn (x := a_0) (off := 202) (tgt := 203) hx hb dX3_joined_1 (by rw [c_18]; decide) (by rw [c_18]; decide) (by rw [c_18]; rfl) (by decide) ?_
                          exact t_L203  s.heap [] hP hD hS ls (lv_sub hl [1, 2] rfl) h
                        · replace h := it_f c_18 h
                          by_cases c_19 : a_0 = 49
                          · replace h := it_t c_19 h
                            refine lv_tableIn (x := a_0) (off := 202) (tgt := 203) hx hb dX3_joined_1 (by rw [c_19]; decide) (by rw [c_19]; decide) (by rw [c_19]; rfl) (by decide) ?_
                            exact t_L203  s.heap [] hP hD hS ls (lv_sub hl [1, 2] rfl) h
                          · replace h := it_f c_19 h
                            by_cases c_20 : a_0 = 50
                            · replace h := it_t c_20 h
                              refine lv_tableIn (x := a_0) (off := 202) (tgt := 203) hx hb dX3_joined_1 (by rw [c_20]; decide) (by rw [c_20]; decide) (by rw [c_20]; rfl) (by decide) ?_
                              exact t_L203  s.heap [] hP hD hS ls (lv_sub hl [1, 2] rfl) h
                            · replace h := it_f c_20 h
                              by_cases c_21 : a_0 = 51
                              · replace h := it_t c_21 h
                                refine lv_tableIn (x := a_0) (off := 202) (tgt := 203) hx hb dX3_joined_1 (by rw [c_21]; decide) (by rw [c_21]; decide) (by rw [c_21]; rfl) (by decide) ?_
                                exact t_L203  s.heap [] hP hD hS ls (lv_sub hl [1, 2] rfl) h
                              · replace h := it_f c_21 h
                                by_cases c_22 : a_0 = 52
                                · replace h := it_t c_22 h
                                  refine lv_tableIn (x := a_0) (off := 202) (tgt := 203) hx hb dX3_joined_1 (by rw [c_22]; decide) (by rw [c_22]; decide) (by rw [c_22]; rfl) (by decide) ?_
                                  exact t_L203  s.heap [] hP hD hS ls (lv_sub hl [1, 2] rfl) h
                                · replace h := it_f c_22 h
                                  by_cases c_23 : a_0 = 53
                                  · replace h := it_t c_23 h
                                    refine lv_tableIn (x := a_0) (off := 202) (tgt := 203) hx hb dX3_joined_1 (by rw [c_23]; decide) (by rw [c_23]; decide) (by rw [c_23]; rfl) (by decide) ?_
                                    exact t_L203  s.heap [] hP hD hS ls (lv_sub hl [1, 2] rfl) h
                                  · replace h := it_f c_23 h
                                    by_cases c_24 : a_0 = 54
                                    · replace h := it_t c_24 h
                                      refine lv_tableIn (x := a_0) (off := 202) (tgt := 203) hx hb dX3_joined_1 (by rw [c_24]; decide) (by rw [c_24]; decide) (by rw [c_24]; rfl) (by decide) ?_
                                      exact t_L203  s.heap [] hP hD hS ls (lv_sub hl [1, 2] rfl) h
                                    · replace h := it_f c_24 h
                                      by_cases c_25 : a_0 = 55
                                      · replace h := it_t c_25 h
                                        refine lv_tableIn (x := a_0) (off := 202) (tgt := 203) hx hb dX3_joined_1 (by rw [c_25]; decide) (by rw [c_25]; decide) (by rw [c_25]; rfl) (by decide) ?_
                                        exact t_L203  s.heap [] hP hD hS ls (lv_sub hl [1, 2] rfl) h
                                      · replace h := it_f c_25 h
                                        by_cases c_26 : a_0 = 56
                                        · replace h := it_t c_26 h
                                          refine lv_tableIn (x := a_0) (off := 202) (tgt := 203) hx hb dX3_joined_1 (by rw [c_26]; decide) (by rw [c_26]; decide) (by rw [c_26]; rfl) (by decide) ?_
                                          exact t_L203  s.heap [] hP hD hS ls (lv_sub hl [1, 2] rfl) h
                                        · replace h := it_f c_26 h
                                          by_cases c_27 : a_0 = 57
                                          · replace h := it_t c_27 h
                                            refine lv_tableIn (x := a_0) (off := 202) (tgt := 203) hx hb dX3_joined_1 (by rw [c_27]; decide) (by rw [c_27]; decide) (by rw [c_27]; rfl) (by decide) ?_
                                            exact t_L203  s.heap [] hP hD hS ls (lv_sub hl [1, 2] rfl) h
                                          · replace h := it_f c_27 h
                                            by_cases c_28 : a_0 = 58
                                            · replace h := it_t c_28 h
                                              refine lv_tableIn (x := a_0) (off := 202) (tgt := 203) hx hb dX3_joined_1 (by rw [c_28]; decide) (by rw [c_28]; decide) (by rw [c_28]; rfl) (by decide) ?_
                                              exact t_L203  s.heap [] hP hD hS ls (lv_sub hl [1, 2] rfl) h
                                            · replace h := it_f c_28 h
                                              by_cases c_29 : a_0 = 59
                                              · replace h := it_t c_29 h
                                                refine lv_tableIn (x := a_0) (off := 202) (tgt := 203) hx hb dX3_joined_1 (by rw [c_29]; decide) (by rw [c_29]; decide) (by rw [c_29]; rfl) (by decide) ?_
                                                exact t_L203  s.heap [] hP hD hS ls (lv_sub hl [1, 2] rfl) h
                                              · replace h := it_f c_29 h
                                                by_cases c_30 : a_0 = 60
                                                · replace h := it_t c_30 h
                                                  refine lv_tableIn (x := a_0) (off := 155) (tgt := 156) hx hb dX3_joined_1 (by rw [c_30]; decide) (by rw [c_30]; decide) (by rw [c_30]; rfl) (by decide) ?_
                                                  refine lv_iload_n hx hb dX3_joined_156 rfl (lv_at hl 1 rfl) ?_
                                                  refine lv_iload_n hx hb dX3_joined_157 rfl (lv_at hl 2 rfl) ?_
                                                  refine lv_icmp_ge (tgt := 165) hx hb dX3_joined_158 (by decide) (fun c_31 => ?_) (fun c_31 => ?_)
                                                  · replace h := it_t c_31 h
                                                    refine lv_iconst (v := 0) hx hb dX3_joined_165 (by decide) ?_
                                                    replace h := so1 h
                                                    subst h
                                                    exact gIret hF hP hD hS rfl dX3_joined_166
                                                  · replace h := it_f c_31 h
                                                    refine lv_iconst (v := 1) hx hb dX3_joined_161 (by decide) ?_
                                                    refine lv_goto (tgt := 166) hx hb dX3_joined_162 (by decide) ?_
                                                    replace h := so1 h
                                                    subst h
                                                    exact gIret hF hP hD hS rfl dX3_joined_166
                                                · replace h := it_f c_30 h
                                                  by_cases c_32 : a_0 = 61
                                                  · replace h := it_t c_32 h
                                                    refine lv_tableIn (x := a_0) (off := 166) (tgt := 167) hx hb dX3_joined_1 (by rw [c_32]; decide) (by rw [c_32]; decide) (by rw [c_32]; rfl) (by decide) ?_
                                                    refine lv_iload_n hx hb dX3_joined_167 rfl (lv_at hl 1 rfl) ?_
                                                    refine lv_iload_n hx hb dX3_joined_168 rfl (lv_at hl 2 rfl) ?_
                                                    refine lv_icmp_ne (tgt := 176) hx hb dX3_joined_169 (by decide) (fun c_33 => ?_) (fun c_33 => ?_)
                                                    · replace h := it_f c_33 h
                                                      refine lv_iconst (v := 0) hx hb dX3_joined_176 (by decide) ?_
                                                      replace h := so1 h
                                                      subst h
                                                      exact gIret hF hP hD hS rfl dX3_joined_177
                                                    · replace h := it_t c_33 h
                                                      refine lv_iconst (v := 1) hx hb dX3_joined_172 (by decide) ?_
                                                      refine lv_goto (tgt := 177) hx hb dX3_joined_173 (by decide) ?_
                                                      replace h := so1 h
                                                      subst h
                                                      exact gIret hF hP hD hS rfl dX3_joined_177
                                                  · replace h := it_f c_32 h
                                                    by_cases c_34 : a_0 = 62
                                                    · replace h := it_t c_34 h
                                                      refine lv_tableIn (x := a_0) (off := 177) (tgt := 178) hx hb dX3_joined_1 (by rw [c_34]; decide) (by rw [c_34]; decide) (by rw [c_34]; rfl) (by decide) ?_
                                                      refine lv_iload_n hx hb dX3_joined_178 rfl (lv_at hl 1 rfl) ?_
                                                      refine lv_iload_n hx hb dX3_joined_179 rfl (lv_at hl 2 rfl) ?_
                                                      refine lv_icmp_le (tgt := 187) hx hb dX3_joined_180 (by decide) (fun c_35 => ?_) (fun c_35 => ?_)
                                                      · replace h := it_t c_35 h
                                                        refine lv_iconst (v := 0) hx hb dX3_joined_187 (by decide) ?_
                                                        replace h := so1 h
                                                        subst h
                                                        exact gIret hF hP hD hS rfl dX3_joined_188
                                                      · replace h := it_f c_35 h
                                                        refine lv_iconst (v := 1) hx hb dX3_joined_183 (by decide) ?_
                                                        refine lv_goto (tgt := 188) hx hb dX3_joined_184 (by decide) ?_
                                                        replace h := so1 h
                                                        subst h
                                                        exact gIret hF hP hD hS rfl dX3_joined_188
                                                    · replace h := it_f c_34 h
                                                      refine lv_tableOut (x := a_0) (tgt := 203) hx hb dX3_joined_1 (by have q0 := gNe (z := 37) (by decide) c_1; have q1 := gNe (z := 38) (by decide) c_4; have q2 := gNe (z := 39) (by decide) c_7; have q3 := gNe (z := 40) (by decide) c_8; have q4 := gNe (z := 41) (by decide) c_9; have q5 := gNe (z := 42) (by decide) c_10; have q6 := gNe (z := 43) (by decide) c_11; have q7 := gNe (z := 44) (by decide) c_12; have q8 := gNe (z := 45) (by decide) c_13; have q9 := gNe (z := 46) (by decide) c_14; have q10 := gNe (z := 47) (by decide) c_15; have q11 := gNe (z := 48) (by decide) c_18; have q12 := gNe (z := 49) (by decide) c_19; have q13 := gNe (z := 50) (by decide) c_20; have q14 := gNe (z := 51) (by decide) c_21; have q15 := gNe (z := 52) (by decide) c_22; have q16 := gNe (z := 53) (by decide) c_23; have q17 := gNe (z := 54) (by decide) c_24; have q18 := gNe (z := 55) (by decide) c_25; have q19 := gNe (z := 56) (by decide) c_26; have q20 := gNe (z := 57) (by decide) c_27; have q21 := gNe (z := 58) (by decide) c_28; have q22 := gNe (z := 59) (by decide) c_29; have q23 := gNe (z := 60) (by decide) c_30; have q24 := gNe (z := 61) (by decide) c_32; have q25 := gNe (z := 62) (by decide) c_34; omega) (by decide) ?_
                                                      exact t_L203  s.heap [] hP hD hS ls (lv_sub hl [1, 2] rfl) h
