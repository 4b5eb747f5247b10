set_option maxRecDepth 20000 in
theorem in_X10_columnOf_X10 : ∀ w ∈ u_ws RX10 TX10 11, w ∈ wsX10_columnOf := by decide +kernel
abbrev rm_X10_columnOf : Room := { frames := 0, cells := 0, slots := 0, locals := 0 }
set_option maxHeartbeats 4000000 in
set_option maxRecDepth 100000 in
theorem c_X10_columnOf (l : Launch) (D : va_G) (c : Nat → ClassId) (q_this q_air q_paste q_open q_met q_line : Nat) (a_1 : Int32) (v_rows : Int32) (v_columns : Int32) (v_holes : Int32) (v_out : Int32) (v_night : Int32) (v_inLine : Int32) (o_r : Int32) (h : f_X10_columnOf a_1 v_columns = some o_r) : gMI l yX10_columnOf wsX10_columnOf rm_X10_columnOf D c [.ref q_this, .int a_1] [(q_this, .inr (10, [.int v_rows, .int v_columns, .ref q_air, .ref q_paste, .ref q_open, .int v_holes, .int v_out, .int v_night, .ref q_met, .ref q_line, .int v_inLine]))] [(q_this, .inr (10, [.int v_rows, .int v_columns, .ref q_air, .ref q_paste, .ref q_open, .int v_holes, .int v_out, .int v_night, .ref q_met, .ref q_line, .int v_inLine]))] o_r := by
  refine gMI_of (cc := cX10_columnOf) (maxL := 2) (rt := (some .int)) (by decide +kernel) rfl (Nat.le_of_ble_eq_true rfl) ?_
  intro p e s m below meth co A hF hK hX hP hD hA hS ls hl
  obtain ⟨hx, hb, hr, hts, hown, hlocks, hml⟩ := id hF
  have hl : lv_has ls 2 [(0, .ref q_this), (1, .int a_1)] := hl
  unfold f_X10_columnOf at h
  refine lv_aload_n hx hb dX10_columnOf_0 rfl (lv_at hl 0 rfl) ?_
  refine va_get (D := D) (ci := 10) (v := .int v_columns) (C := RX10) (T := TX10) (N := 11) hx hb hts in_X10_columnOf_X10 hown hK.1 hP 0 rfl rfl 1 (by decide) (hts (.fieldLink RX10 15 "PaperBubbles$Wall" "columns" "I") (List.mem_of_getElem? (i := 1) rfl)) (fun _ h9 => h9) rfl dX10_columnOf_1 ?_
  refine lv_if_le (tgt := 16) hx hb dX10_columnOf_4 (by decide) (fun c_1 => ?_) (fun c_1 => ?_)
  · replace h := it_t c_1 h
    refine lv_iconst (v := 0) hx hb dX10_columnOf_16 (by decide) ?_
    replace h := so1 h
    subst h
    exact gIret hF hP hD hS rfl dX10_columnOf_17
  · replace h := it_f c_1 h
    refine lv_iload_n hx hb dX10_columnOf_7 rfl (lv_at hl 1 rfl) ?_
    refine lv_aload_n hx hb dX10_columnOf_8 rfl (lv_at hl 0 rfl) ?_
    refine va_get (D := D) (ci := 10) (v := .int v_columns) (C := RX10) (T := TX10) (N := 11) hx hb hts in_X10_columnOf_X10 hown hK.1 hP 0 rfl rfl 1 (by decide) (hts (.fieldLink RX10 15 "PaperBubbles$Wall" "columns" "I") (List.mem_of_getElem? (i := 1) rfl)) (fun _ h9 => h9) rfl dX10_columnOf_9 ?_
    replace h := chz_ok h
    obtain ⟨hz_2, h⟩ := h
    refine lv_irem hx hb dX10_columnOf_12 hz_2 ?_
    replace h := nm_ok h
    obtain ⟨t_3, et_3, h⟩ := h
    refine gTop et_3 ?_
    refine lv_goto (tgt := 17) hx hb dX10_columnOf_13 (by decide) ?_
    replace h := so1 h
    subst h
    exact gIret hF hP hD hS rfl dX10_columnOf_17
set_option maxRecDepth 20000 in
theorem in_X10_rowOf_X10 : ∀ w ∈ u_ws RX10 TX10 11, w ∈ wsX10_rowOf := by decide +kernel
abbrev rm_X10_rowOf : Room := { frames := 0, cells := 0, slots := 0, locals := 0 }
set_option maxHeartbeats 4000000 in
set_option maxRecDepth 100000 in
theorem c_X10_rowOf (l : Launch) (D : va_G) (c : Nat → ClassId) (q_this q_air q_paste q_open q_met q_line : Nat) (a_1 : Int32) (v_rows : Int32) (v_columns : Int32) (v_holes : Int32) (v_out : Int32) (v_night : Int32) (v_inLine : Int32) (o_r : Int32) (h : f_X10_rowOf a_1 v_columns = some o_r) : gMI l yX10_rowOf wsX10_rowOf rm_X10_rowOf D c [.ref q_this, .int a_1] [(q_this, .inr (10, [.int v_rows, .int v_columns, .ref q_air, .ref q_paste, .ref q_open, .int v_holes, .int v_out, .int v_night, .ref q_met, .ref q_line, .int v_inLine]))] [(q_this, .inr (10, [.int v_rows, .int v_columns, .ref q_air, .ref q_paste, .ref q_open, .int v_holes, .int v_out, .int v_night, .ref q_met, .ref q_line, .int v_inLine]))] o_r := by
  refine gMI_of (cc := cX10_rowOf) (maxL := 2) (rt := (some .int)) (by decide +kernel) rfl (Nat.le_of_ble_eq_true rfl) ?_
  intro p e s m below meth co A hF hK hX hP hD hA hS ls hl
  obtain ⟨hx, hb, hr, hts, hown, hlocks, hml⟩ := id hF
  have hl : lv_has ls 2 [(0, .ref q_this), (1, .int a_1)] := hl
  unfold f_X10_rowOf at h
  refine lv_aload_n hx hb dX10_rowOf_0 rfl (lv_at hl 0 rfl) ?_
  refine va_get (D := D) (ci := 10) (v := .int v_columns) (C := RX10) (T := TX10) (N := 11) hx hb hts in_X10_rowOf_X10 hown hK.1 hP 0 rfl rfl 1 (by decide) (hts (.fieldLink RX10 15 "PaperBubbles$Wall" "columns" "I") (List.mem_of_getElem? (i := 1) rfl)) (fun _ h9 => h9) rfl dX10_rowOf_1 ?_
  refine lv_if_le (tgt := 16) hx hb dX10_rowOf_4 (by decide) (fun c_1 => ?_) (fun c_1 => ?_)
  · replace h := it_t c_1 h
    refine lv_iconst (v := 0) hx hb dX10_rowOf_16 (by decide) ?_
    replace h := so1 h
    subst h
    exact gIret hF hP hD hS rfl dX10_rowOf_17
  · replace h := it_f c_1 h
    refine lv_iload_n hx hb dX10_rowOf_7 rfl (lv_at hl 1 rfl) ?_
    refine lv_aload_n hx hb dX10_rowOf_8 rfl (lv_at hl 0 rfl) ?_
    refine va_get (D := D) (ci := 10) (v := .int v_columns) (C := RX10) (T := TX10) (N := 11) hx hb hts in_X10_rowOf_X10 hown hK.1 hP 0 rfl rfl 1 (by decide) (hts (.fieldLink RX10 15 "PaperBubbles$Wall" "columns" "I") (List.mem_of_getElem? (i := 1) rfl)) (fun _ h9 => h9) rfl dX10_rowOf_9 ?_
    replace h := chz_ok h
    obtain ⟨hz_2, h⟩ := h
    refine lv_idiv hx hb dX10_rowOf_12 hz_2 ?_
    replace h := nm_ok h
    obtain ⟨t_3, et_3, h⟩ := h
    refine gTop et_3 ?_
    refine lv_goto (tgt := 17) hx hb dX10_rowOf_13 (by decide) ?_
    replace h := so1 h
    subst h
    exact gIret hF hP hD hS rfl dX10_rowOf_17
set_option maxRecDepth 20000 in
theorem in_X10_cellsAhead_X10 : ∀ w ∈ u_ws RX10 TX10 11, w ∈ wsX10_cellsAhead := by decide +kernel
abbrev rm_X10_cellsAhead : Room := { frames := 1, cells := 0, slots := 0, locals := 21 }
set_option maxHeartbeats 4000000 in
set_option maxRecDepth 100000 in
theorem c_X10_cellsAhead (l : Launch) (D : va_G) (c : Nat → ClassId) (q_this q_air q_paste q_open q_met q_line : Nat) (a_1 : Int32) (a_2 : Int32) (v_rows : Int32) (v_columns : Int32) (v_holes : Int32) (v_out : Int32) (v_night : Int32) (v_inLine : Int32) (o_r : Int32) (h : f_X10_cellsAhead a_1 a_2 v_rows v_columns = some o_r) : gMI l yX10_cellsAhead wsX10_cellsAhead rm_X10_cellsAhead D c [.ref q_this, .int a_1, .int a_2] [(q_this, .inr (10, [.int v_rows, .int v_columns, .ref q_air, .ref q_paste, .ref q_open, .int v_holes, .int v_out, .int v_night, .ref q_met, .ref q_line, .int v_inLine]))] [(q_this, .inr (10, [.int v_rows, .int v_columns, .ref q_air, .ref q_paste, .ref q_open, .int v_holes, .int v_out, .int v_night, .ref q_met, .ref q_line, .int v_inLine]))] o_r := by
  refine gMI_of (cc := cX10_cellsAhead) (maxL := 3) (rt := (some .int)) (by decide +kernel) rfl (Nat.le_of_ble_eq_true rfl) ?_
  intro p e s m below meth co A hF hK hX hP hD hA hS ls hl
  obtain ⟨hx, hb, hr, hts, hown, hlocks, hml⟩ := id hF
  have hl : lv_has ls 3 [(0, .ref q_this), (1, .int a_1), (2, .int a_2)] := hl
  unfold f_X10_cellsAhead at h
  refine lv_iload_n hx hb dX10_cellsAhead_0 rfl (lv_at hl 2 rfl) ?_
  by_cases c_1 : a_2 = 0
  · replace h := it_t c_1 h
    refine lv_tableIn (x := a_2) (off := 27) (tgt := 28) hx hb dX10_cellsAhead_1 (by rw [c_1]; decide) (by rw [c_1]; decide) (by rw [c_1]; rfl) (by decide) ?_
    refine lv_aload_n hx hb dX10_cellsAhead_28 rfl (lv_at hl 0 rfl) ?_
    refine lv_iload_n hx hb dX10_cellsAhead_29 rfl (lv_at hl 1 rfl) ?_
    replace h := kb_ok h
    obtain ⟨r_3, hc_2, h⟩ := h
    refine gCallIr (isC := [0]) (wc := [(q_this, .inr (10, [.int v_rows, .int v_columns, .ref q_air, .ref q_paste, .ref q_open, .int v_holes, .int v_out, .int v_night, .ref q_met, .ref q_line, .int v_inLine]))]) hP hD hS hA ⟨rfl, trivial⟩ (va_runV (rm := rm_X10_rowOf) (ws := wsX10_rowOf) (As := [.int a_1]) (rest := []) (gFix hF) (c_X10_rowOf l D c q_this q_air q_paste q_open q_met q_line a_1 v_rows v_columns v_holes v_out v_night v_inLine r_3 hc_2 s.heap.size) (cwV 1 hts gX10_cellsAhead_X10_rowOf rfl rfl rfl (by decide +kernel) ⟨Nat.le_of_ble_eq_true rfl, Nat.le_of_ble_eq_true rfl⟩) (gPreV (wc := [(q_this, .inr (10, [.int v_rows, .int v_columns, .ref q_air, .ref q_paste, .ref q_open, .int v_holes, .int v_out, .int v_night, .ref q_met, .ref q_line, .int v_inLine]))]) (q := (RX10, TX10, 11)) (ci := 10) (q0 := 0) (isC := [0]) hK hX hS hA hP hD ⟨rfl, trivial⟩ (by decide +kernel) rfl rfl) rfl rfl hl.1 rfl (lv_room (Nat.le_of_ble_eq_true rfl)) dX10_cellsAhead_30 ⟨Nat.le_of_ble_eq_true rfl, Nat.le_of_ble_eq_true rfl⟩) (fun H locs hP hS => ?_)
    replace h := so1 h
    subst h
    exact gIret hF hP hD hS rfl dX10_cellsAhead_33
  · replace h := it_f c_1 h
    by_cases c_4 : a_2 = 1
    · replace h := it_t c_4 h
      refine lv_tableIn (x := a_2) (off := 33) (tgt := 34) hx hb dX10_cellsAhead_1 (by rw [c_4]; decide) (by rw [c_4]; decide) (by rw [c_4]; rfl) (by decide) ?_
      refine lv_aload_n hx hb dX10_cellsAhead_34 rfl (lv_at hl 0 rfl) ?_
      refine va_get (D := D) (ci := 10) (v := .int v_columns) (C := RX10) (T := TX10) (N := 11) hx hb hts in_X10_cellsAhead_X10 hown hK.1 hP 0 rfl rfl 1 (by decide) (hts (.fieldLink RX10 15 "PaperBubbles$Wall" "columns" "I") (List.mem_of_getElem? (i := 1) rfl)) (fun _ h9 => h9) rfl dX10_cellsAhead_35 ?_
      refine lv_iconst (v := 1) hx hb dX10_cellsAhead_38 (by decide) ?_
      refine lv_isub hx hb dX10_cellsAhead_39 ?_
      replace h := nm_ok h
      obtain ⟨t_5, et_5, h⟩ := h
      refine gTop et_5 ?_
      refine lv_aload_n hx hb dX10_cellsAhead_40 rfl (lv_at hl 0 rfl) ?_
      refine lv_iload_n hx hb dX10_cellsAhead_41 rfl (lv_at hl 1 rfl) ?_
      replace h := kb_ok h
      obtain ⟨r_7, hc_6, h⟩ := h
      refine gCallIr (isC := [0]) (wc := [(q_this, .inr (10, [.int v_rows, .int v_columns, .ref q_air, .ref q_paste, .ref q_open, .int v_holes, .int v_out, .int v_night, .ref q_met, .ref q_line, .int v_inLine]))]) hP hD hS hA ⟨rfl, trivial⟩ (va_runV (rm := rm_X10_columnOf) (ws := wsX10_columnOf) (As := [.int a_1]) (rest := [.int t_5]) (gFix hF) (c_X10_columnOf l D c q_this q_air q_paste q_open q_met q_line a_1 v_rows v_columns v_holes v_out v_night v_inLine r_7 hc_6 s.heap.size) (cwV 1 hts gX10_cellsAhead_X10_columnOf rfl rfl rfl (by decide +kernel) ⟨Nat.le_of_ble_eq_true rfl, Nat.le_of_ble_eq_true rfl⟩) (gPreV (wc := [(q_this, .inr (10, [.int v_rows, .int v_columns, .ref q_air, .ref q_paste, .ref q_open, .int v_holes, .int v_out, .int v_night, .ref q_met, .ref q_line, .int v_inLine]))]) (q := (RX10, TX10, 11)) (ci := 10) (q0 := 0) (isC := [0]) hK hX hS hA hP hD ⟨rfl, trivial⟩ (by decide +kernel) rfl rfl) rfl rfl hl.1 rfl (lv_room (Nat.le_of_ble_eq_true rfl)) dX10_cellsAhead_42 ⟨Nat.le_of_ble_eq_true rfl, Nat.le_of_ble_eq_true rfl⟩) (fun H locs hP hS => ?_)
      refine lv_isub hx hb dX10_cellsAhead_45 ?_
      replace h := so1 h
      subst h
      exact gIret hF hP hD hS rfl dX10_cellsAhead_46
    · replace h := it_f c_4 h
      by_cases c_8 : a_2 = 2
      · replace h := it_t c_8 h
        refine lv_tableIn (x := a_2) (off := 46) (tgt := 47) hx hb dX10_cellsAhead_1 (by rw [c_8]; decide) (by rw [c_8]; decide) (by rw [c_8]; rfl) (by decide) ?_
        refine lv_aload_n hx hb dX10_cellsAhead_47 rfl (lv_at hl 0 rfl) ?_
        refine va_get (D := D) (ci := 10) (v := .int v_rows) (C := RX10) (T := TX10) (N := 11) hx hb hts in_X10_cellsAhead_X10 hown hK.1 hP 0 rfl rfl 0 (by decide) (hts (.fieldLink RX10 9 "PaperBubbles$Wall" "rows" "I") (List.mem_of_getElem? (i := 2) rfl)) (fun _ h9 => h9) rfl dX10_cellsAhead_48 ?_
        refine lv_iconst (v := 1) hx hb dX10_cellsAhead_51 (by decide) ?_
        refine lv_isub hx hb dX10_cellsAhead_52 ?_
        replace h := nm_ok h
        obtain ⟨t_9, et_9, h⟩ := h
        refine gTop et_9 ?_
        refine lv_aload_n hx hb dX10_cellsAhead_53 rfl (lv_at hl 0 rfl) ?_
        refine lv_iload_n hx hb dX10_cellsAhead_54 rfl (lv_at hl 1 rfl) ?_
        replace h := kb_ok h
        obtain ⟨r_11, hc_10, h⟩ := h
        refine gCallIr (isC := [0]) (wc := [(q_this, .inr (10, [.int v_rows, .int v_columns, .ref q_air, .ref q_paste, .ref q_open, .int v_holes, .int v_out, .int v_night, .ref q_met, .ref q_line, .int v_inLine]))]) hP hD hS hA ⟨rfl, trivial⟩ (va_runV (rm := rm_X10_rowOf) (ws := wsX10_rowOf) (As := [.int a_1]) (rest := [.int t_9]) (gFix hF) (c_X10_rowOf l D c q_this q_air q_paste q_open q_met q_line a_1 v_rows v_columns v_holes v_out v_night v_inLine r_11 hc_10 s.heap.size) (cwV 1 hts gX10_cellsAhead_X10_rowOf rfl rfl rfl (by decide +kernel) ⟨Nat.le_of_ble_eq_true rfl, Nat.le_of_ble_eq_true rfl⟩) (gPreV (wc := [(q_this, .inr (10, [.int v_rows, .int v_columns, .ref q_air, .ref q_paste, .ref q_open, .int v_holes, .int v_out, .int v_night, .ref q_met, .ref q_line, .int v_inLine]))]) (q := (RX10, TX10, 11)) (ci := 10) (q0 := 0) (isC := [0]) hK hX hS hA hP hD ⟨rfl, trivial⟩ (by decide +kernel) rfl rfl) rfl rfl hl.1 rfl (lv_room (Nat.le_of_ble_eq_true rfl)) dX10_cellsAhead_55 ⟨Nat.le_of_ble_eq_true rfl, Nat.le_of_ble_eq_true rfl⟩) (fun H locs hP hS => ?_)
        refine lv_isub hx hb dX10_cellsAhead_58 ?_
        replace h := so1 h
        subst h
        exact gIret hF hP hD hS rfl dX10_cellsAhead_59
      · replace h := it_f c_8 h
        refine lv_tableOut (x := a_2) (tgt := 60) hx hb dX10_cellsAhead_1 (by have q0 := gNe (z := 0) (by decide) c_1; have q1 := gNe (z := 1) (by decide) c_4; have q2 := gNe (z := 2) (by decide) c_8; omega) (by decide) ?_
        refine lv_aload_n hx hb dX10_cellsAhead_60 rfl (lv_at hl 0 rfl) ?_
        refine lv_iload_n hx hb dX10_cellsAhead_61 rfl (lv_at hl 1 rfl) ?_
        replace h := kb_ok h
        obtain ⟨r_13, hc_12, h⟩ := h
        refine gCallIr (isC := [0]) (wc := [(q_this, .inr (10, [.int v_rows, .int v_columns, .ref q_air, .ref q_paste, .ref q_open, .int v_holes, .int v_out, .int v_night, .ref q_met, .ref q_line, .int v_inLine]))]) hP hD hS hA ⟨rfl, trivial⟩ (va_runV (rm := rm_X10_columnOf) (ws := wsX10_columnOf) (As := [.int a_1]) (rest := []) (gFix hF) (c_X10_columnOf l D c q_this q_air q_paste q_open q_met q_line a_1 v_rows v_columns v_holes v_out v_night v_inLine r_13 hc_12 s.heap.size) (cwV 1 hts gX10_cellsAhead_X10_columnOf rfl rfl rfl (by decide +kernel) ⟨Nat.le_of_ble_eq_true rfl, Nat.le_of_ble_eq_true rfl⟩) (gPreV (wc := [(q_this, .inr (10, [.int v_rows, .int v_columns, .ref q_air, .ref q_paste, .ref q_open, .int v_holes, .int v_out, .int v_night, .ref q_met, .ref q_line, .int v_inLine]))]) (q := (RX10, TX10, 11)) (ci := 10) (q0 := 0) (isC := [0]) hK hX hS hA hP hD ⟨rfl, trivial⟩ (by decide +kernel) rfl rfl) rfl rfl hl.1 rfl (lv_room (Nat.le_of_ble_eq_true rfl)) dX10_cellsAhead_62 ⟨Nat.le_of_ble_eq_true rfl, Nat.le_of_ble_eq_true rfl⟩) (fun H locs hP hS => ?_)
        replace h := so1 h
        subst h
        exact gIret hF hP hD hS rfl dX10_cellsAhead_65
set_option maxRecDepth 20000 in
theorem in_X10_beside_X10 : ∀ w ∈ u_ws RX10 TX10 11, w ∈ wsX10_beside := by decide +kernel
abbrev rm_X10_beside : Room := { frames := 2, cells := 0, slots := 0, locals := 43 }
set_option maxHeartbeats 4000000 in
set_option maxRecDepth 100000 in
theorem c_X10_beside (l : Launch) (D : va_G) (c : Nat → ClassId) (q_this q_air q_paste q_open q_met q_line : Nat) (a_1 : Int32) (a_2 : Int32) (v_rows : Int32) (v_columns : Int32) (v_holes : Int32) (v_out : Int32) (v_night : Int32) (v_inLine : Int32) (o_r : Int32) (h : f_X10_beside a_1 a_2 v_rows v_columns = some o_r) : gMI l yX10_beside wsX10_beside rm_X10_beside D c [.ref q_this, .int a_1, .int a_2] [(q_this, .inr (10, [.int v_rows, .int v_columns, .ref q_air, .ref q_paste, .ref q_open, .int v_holes, .int v_out, .int v_night, .ref q_met, .ref q_line, .int v_inLine]))] [(q_this, .inr (10, [.int v_rows, .int v_columns, .ref q_air, .ref q_paste, .ref q_open, .int v_holes, .int v_out, .int v_night, .ref q_met, .ref q_line, .int v_inLine]))] o_r := by
  refine gMI_of (cc := cX10_beside) (maxL := 3) (rt := (some .int)) (by decide +kernel) rfl (Nat.le_of_ble_eq_true rfl) ?_
  intro p e s m below meth co A hF hK hX hP hD hA hS ls hl
  obtain ⟨hx, hb, hr, hts, hown, hlocks, hml⟩ := id hF
  have hl : lv_has ls 3 [(0, .ref q_this), (1, .int a_1), (2, .int a_2)] := hl
  unfold f_X10_beside at h
  refine lv_aload_n hx hb dX10_beside_0 rfl (lv_at hl 0 rfl) ?_
  refine lv_iload_n hx hb dX10_beside_1 rfl (lv_at hl 1 rfl) ?_
  refine lv_iload_n hx hb dX10_beside_2 rfl (lv_at hl 2 rfl) ?_
  replace h := kb_ok h
  obtain ⟨r_2, hc_1, h⟩ := h
  refine gCallIr (isC := [0]) (wc := [(q_this, .inr (10, [.int v_rows, .int v_columns, .ref q_air, .ref q_paste, .ref q_open, .int v_holes, .int v_out, .int v_night, .ref q_met, .ref q_line, .int v_inLine]))]) hP hD hS hA ⟨rfl, trivial⟩ (va_runV (rm := rm_X10_cellsAhead) (ws := wsX10_cellsAhead) (As := [.int a_1, .int a_2]) (rest := []) (gFix hF) (c_X10_cellsAhead l D c q_this q_air q_paste q_open q_met q_line a_1 a_2 v_rows v_columns v_holes v_out v_night v_inLine r_2 hc_1 s.heap.size) (cwV 2 hts gX10_beside_X10_cellsAhead rfl rfl rfl (by decide +kernel) ⟨Nat.le_of_ble_eq_true rfl, Nat.le_of_ble_eq_true rfl⟩) (gPreV (wc := [(q_this, .inr (10, [.int v_rows, .int v_columns, .ref q_air, .ref q_paste, .ref q_open, .int v_holes, .int v_out, .int v_night, .ref q_met, .ref q_line, .int v_inLine]))]) (q := (RX10, TX10, 11)) (ci := 10) (q0 := 0) (isC := [0]) hK hX hS hA hP hD ⟨rfl, trivial⟩ (by decide +kernel) rfl rfl) rfl rfl hl.1 rfl (lv_room (Nat.le_of_ble_eq_true rfl)) dX10_beside_3 ⟨Nat.le_of_ble_eq_true rfl, Nat.le_of_ble_eq_true rfl⟩) (fun H locs hP hS => ?_)
  refine lv_if_gt (tgt := 11) hx hb dX10_beside_6 (by decide) (fun c_3 => ?_) (fun c_3 => ?_)
  · replace h := it_t c_3 h
    refine lv_iload_n hx hb dX10_beside_11 rfl (lv_at hl 2 rfl) ?_
    by_cases c_4 : a_2 = 0
    · replace h := it_t c_4 h
      refine lv_tableIn (x := a_2) (off := 28) (tgt := 40) hx hb dX10_beside_12 (by rw [c_4]; decide) (by rw [c_4]; decide) (by rw [c_4]; rfl) (by decide) ?_
      refine lv_iload_n hx hb dX10_beside_40 rfl (lv_at hl 1 rfl) ?_
      refine lv_aload_n hx hb dX10_beside_41 rfl (lv_at hl 0 rfl) ?_
      refine va_get (D := D) (ci := 10) (v := .int v_columns) (C := RX10) (T := TX10) (N := 11) hx hb hts in_X10_beside_X10 hown hK.1 hP 0 rfl rfl 1 (by decide) (hts (.fieldLink RX10 15 "PaperBubbles$Wall" "columns" "I") (List.mem_of_getElem? (i := 1) rfl)) (fun _ h9 => h9) rfl dX10_beside_42 ?_
      refine lv_isub hx hb dX10_beside_45 ?_
      replace h := so1 h
      subst h
      exact gIret hF hP hD hS rfl dX10_beside_46
    · replace h := it_f c_4 h
      by_cases c_5 : a_2 = 1
      · replace h := it_t c_5 h
        refine lv_tableIn (x := a_2) (off := 35) (tgt := 47) hx hb dX10_beside_12 (by rw [c_5]; decide) (by rw [c_5]; decide) (by rw [c_5]; rfl) (by decide) ?_
        refine lv_iload_n hx hb dX10_beside_47 rfl (lv_at hl 1 rfl) ?_
        refine lv_iconst (v := 1) hx hb dX10_beside_48 (by decide) ?_
        refine lv_iadd hx hb dX10_beside_49 ?_
        replace h := so1 h
        subst h
        exact gIret hF hP hD hS rfl dX10_beside_50
      · replace h := it_f c_5 h
        by_cases c_6 : a_2 = 2
        · replace h := it_t c_6 h
          refine lv_tableIn (x := a_2) (off := 39) (tgt := 51) hx hb dX10_beside_12 (by rw [c_6]; decide) (by rw [c_6]; decide) (by rw [c_6]; rfl) (by decide) ?_
          refine lv_iload_n hx hb dX10_beside_51 rfl (lv_at hl 1 rfl) ?_
          refine lv_aload_n hx hb dX10_beside_52 rfl (lv_at hl 0 rfl) ?_
          refine va_get (D := D) (ci := 10) (v := .int v_columns) (C := RX10) (T := TX10) (N := 11) hx hb hts in_X10_beside_X10 hown hK.1 hP 0 rfl rfl 1 (by decide) (hts (.fieldLink RX10 15 "PaperBubbles$Wall" "columns" "I") (List.mem_of_getElem? (i := 1) rfl)) (fun _ h9 => h9) rfl dX10_beside_53 ?_
          refine lv_iadd hx hb dX10_beside_56 ?_
          replace h := so1 h
          subst h
          exact gIret hF hP hD hS rfl dX10_beside_57
        · replace h := it_f c_6 h
          refine lv_tableOut (x := a_2) (tgt := 58) hx hb dX10_beside_12 (by have q0 := gNe (z := 0) (by decide) c_4; have q1 := gNe (z := 1) (by decide) c_5; have q2 := gNe (z := 2) (by decide) c_6; omega) (by decide) ?_
          refine lv_iload_n hx hb dX10_beside_58 rfl (lv_at hl 1 rfl) ?_
          refine lv_iconst (v := 1) hx hb dX10_beside_59 (by decide) ?_
          refine lv_isub hx hb dX10_beside_60 ?_
          replace h := so1 h
          subst h
          exact gIret hF hP hD hS rfl dX10_beside_61
  · replace h := it_f c_3 h
    refine lv_iconst (v := (-1)) hx hb dX10_beside_9 (by decide) ?_
    replace h := so1 h
    subst h
    exact gIret hF hP hD hS rfl dX10_beside_10
set_option maxRecDepth 20000 in
theorem in_X10_meet_X10 : ∀ w ∈ u_ws RX10 TX10 11, w ∈ wsX10_meet := by decide +kernel
abbrev rm_X10_meet : Room := { frames := 1, cells := 0, slots := 0, locals := 21 }
set_option maxHeartbeats 4000000 in
set_option maxRecDepth 100000 in
theorem c_X10_meet (l : Launch) (D : va_G) (c : Nat → ClassId) (q_this q_air q_paste q_open q_met q_line : Nat) (a_1 : Int32) (v_rows : Int32) (v_columns : Int32) (v_holes : Int32) (v_out : Int32) (v_night : Int32) (v_inLine : Int32) (v_air : Nat → Int32) (v_line : Nat → Int32) (v_met : Nat → Int32) (o_v_inLine : Int32) (o_v_line : Nat → Int32) (o_v_met : Nat → Int32) (h : f_X10_meet a_1 v_rows v_columns v_inLine v_air v_line v_met = some (o_v_inLine, o_v_line, o_v_met)) : gMV l yX10_meet wsX10_meet rm_X10_meet D c [.ref q_this, .int a_1] [(q_this, .inr (10, [.int v_rows, .int v_columns, .ref q_air, .ref q_paste, .ref q_open, .int v_holes, .int v_out, .int v_night, .ref q_met, .ref q_line, .int v_inLine])), (q_air, .inl (c 0, 25, .inl v_air)), (q_line, .inl (c 0, 25, .inl v_line)), (q_met, .inl (c 0, 25, .inl v_met))] [(q_this, .inr (10, [.int v_rows, .int v_columns, .ref q_air, .ref q_paste, .ref q_open, .int v_holes, .int v_out, .int v_night, .ref q_met, .ref q_line, .int o_v_inLine])), (q_air, .inl (c 0, 25, .inl v_air)), (q_line, .inl (c 0, 25, .inl o_v_line)), (q_met, .inl (c 0, 25, .inl o_v_met))] := by
  refine gMV_of (cc := cX10_meet) (maxL := 2) (rt := none) (by decide +kernel) rfl (Nat.le_of_ble_eq_true rfl) ?_
  intro p e s m below meth co A hF hK hX hP hD hA hS ls hl
  obtain ⟨hx, hb, hr, hts, hown, hlocks, hml⟩ := id hF
  have hl : lv_has ls 2 [(0, .ref q_this), (1, .int a_1)] := hl
  unfold f_X10_meet at h
  refine lv_aload_n hx hb dX10_meet_0 rfl (lv_at hl 0 rfl) ?_
  refine lv_iload_n hx hb dX10_meet_1 rfl (lv_at hl 1 rfl) ?_
  replace h := kb_ok h
  obtain ⟨r_2, hc_1, h⟩ := h
  refine gCallIr (isC := [0]) (wc := [(q_this, .inr (10, [.int v_rows, .int v_columns, .ref q_air, .ref q_paste, .ref q_open, .int v_holes, .int v_out, .int v_night, .ref q_met, .ref q_line, .int v_inLine]))]) hP hD hS hA ⟨rfl, trivial⟩ (va_runV (rm := rm_X10_has) (ws := wsX10_has) (As := [.int a_1]) (rest := []) (gFix hF) (c_X10_has l D c q_this q_air q_paste q_open q_met q_line a_1 v_rows v_columns v_holes v_out v_night v_inLine r_2 hc_1 s.heap.size) (cwV 1 hts gX10_meet_X10_has rfl rfl rfl (by decide +kernel) ⟨Nat.le_of_ble_eq_true rfl, Nat.le_of_ble_eq_true rfl⟩) (gPreV (wc := [(q_this, .inr (10, [.int v_rows, .int v_columns, .ref q_air, .ref q_paste, .ref q_open, .int v_holes, .int v_out, .int v_night, .ref q_met, .ref q_line, .int v_inLine]))]) (q := (RX10, TX10, 11)) (ci := 10) (q0 := 0) (isC := [0]) hK hX hS hA hP hD ⟨rfl, trivial⟩ (by decide +kernel) rfl rfl) rfl rfl hl.1 rfl (lv_room (Nat.le_of_ble_eq_true rfl)) dX10_meet_2 ⟨Nat.le_of_ble_eq_true rfl, Nat.le_of_ble_eq_true rfl⟩) (fun H locs hP hS => ?_)
  refine lv_if_eq (tgt := 62) hx hb dX10_meet_5 (by decide) (fun c_3 => ?_) (fun c_3 => ?_)
  · replace h := it_t c_3 h
    replace h := so3 h
    obtain ⟨z0, z1, z2⟩ := h
    subst z0 z1 z2
    exact gVret hF hP hD hS dX10_meet_62
  · replace h := it_f c_3 h
    refine lv_aload_n hx hb dX10_meet_8 rfl (lv_at hl 0 rfl) ?_
    refine va_get (D := D) (ci := 10) (v := .ref q_air) (C := RX10) (T := TX10) (N := 11) hx hb hts in_X10_meet_X10 hown hK.1 hP 0 rfl rfl 2 (by decide) (hts (.fieldLink RX10 18 "PaperBubbles$Wall" "air" "[I") (List.mem_of_getElem? (i := 1) rfl)) (fun _ h9 => h9) rfl dX10_meet_9 ?_
    refine lv_iload_n hx hb dX10_meet_12 rfl (lv_at hl 1 rfl) ?_
    replace h := chi_ok h
    obtain ⟨hi_4, h⟩ := h
    refine va_iald hx hb hK.1 hP 1 0 rfl rfl hi_4 dX10_meet_13 ?_
    refine lv_if_le (tgt := 62) hx hb dX10_meet_14 (by decide) (fun c_5 => ?_) (fun c_5 => ?_)
    · replace h := it_t c_5 h
      replace h := so3 h
      obtain ⟨z0, z1, z2⟩ := h
      subst z0 z1 z2
      exact gVret hF hP hD hS dX10_meet_62
    · replace h := it_f c_5 h
      refine lv_aload_n hx hb dX10_meet_17 rfl (lv_at hl 0 rfl) ?_
      refine va_get (D := D) (ci := 10) (v := .ref q_met) (C := RX10) (T := TX10) (N := 11) hx hb hts in_X10_meet_X10 hown hK.1 hP 0 rfl rfl 8 (by decide) (hts (.fieldLink RX10 28 "PaperBubbles$Wall" "met" "[I") (List.mem_of_getElem? (i := 2) rfl)) (fun _ h9 => h9) rfl dX10_meet_18 ?_
      refine lv_iload_n hx hb dX10_meet_21 rfl (lv_at hl 1 rfl) ?_
      replace h := chi_ok h
      obtain ⟨hi_6, h⟩ := h
      refine va_iald hx hb hK.1 hP 3 0 rfl rfl hi_6 dX10_meet_22 ?_
      refine lv_if_ne (tgt := 62) hx hb dX10_meet_23 (by decide) (fun c_7 => ?_) (fun c_7 => ?_)
      · replace h := it_f c_7 h
        replace h := so3 h
        obtain ⟨z0, z1, z2⟩ := h
        subst z0 z1 z2
        exact gVret hF hP hD hS dX10_meet_62
      · replace h := it_t c_7 h
        refine lv_aload_n hx hb dX10_meet_26 rfl (lv_at hl 0 rfl) ?_
        refine va_get (D := D) (ci := 10) (v := .int v_inLine) (C := RX10) (T := TX10) (N := 11) hx hb hts in_X10_meet_X10 hown hK.1 hP 0 rfl rfl 10 (by decide) (hts (.fieldLink RX10 123 "PaperBubbles$Wall" "inLine" "I") (List.mem_of_getElem? (i := 3) rfl)) (fun _ h9 => h9) rfl dX10_meet_27 ?_
        refine lv_bipush (v := 25) hx hb dX10_meet_30 (by decide) ?_
        refine lv_icmp_ge (tgt := 62) hx hb dX10_meet_32 (by decide) (fun c_8 => ?_) (fun c_8 => ?_)
        · replace h := it_t c_8 h
          replace h := so3 h
          obtain ⟨z0, z1, z2⟩ := h
          subst z0 z1 z2
          exact gVret hF hP hD hS dX10_meet_62
        · replace h := it_f c_8 h
          refine lv_aload_n hx hb dX10_meet_35 rfl (lv_at hl 0 rfl) ?_
          refine va_get (D := D) (ci := 10) (v := .ref q_met) (C := RX10) (T := TX10) (N := 11) hx hb hts in_X10_meet_X10 hown hK.1 hP 0 rfl rfl 8 (by decide) (hts (.fieldLink RX10 28 "PaperBubbles$Wall" "met" "[I") (List.mem_of_getElem? (i := 2) rfl)) (fun _ h9 => h9) rfl dX10_meet_36 ?_
          refine lv_iload_n hx hb dX10_meet_39 rfl (lv_at hl 1 rfl) ?_
          refine lv_iconst (v := 1) hx hb dX10_meet_40 (by decide) ?_
          replace h := chi_ok h
          obtain ⟨hi_9, h⟩ := h
          replace h := nm_ok h
          obtain ⟨w_10, ew_10, h⟩ := h
          refine va_iast hx hb hK.1 hP hD hS 3 0 rfl rfl hi_9 dX10_meet_41 (fun H locs hP hD hS => ?_)
          have hP : va_P D gcl [(q_this, .inr (10, [.int v_rows, .int v_columns, .ref q_air, .ref q_paste, .ref q_open, .int v_holes, .int v_out, .int v_night, .ref q_met, .ref q_line, .int v_inLine])), (q_air, .inl (c 0, 25, .inl v_air)), (q_line, .inl (c 0, 25, .inl v_line)), (q_met, .inl (c 0, 25, .inl w_10))] H := by subst ew_10; exact hP
          have hD : va_D A [(q_this, .inr (10, [.int v_rows, .int v_columns, .ref q_air, .ref q_paste, .ref q_open, .int v_holes, .int v_out, .int v_night, .ref q_met, .ref q_line, .int v_inLine])), (q_air, .inl (c 0, 25, .inl v_air)), (q_line, .inl (c 0, 25, .inl v_line)), (q_met, .inl (c 0, 25, .inl w_10))] := by subst ew_10; exact hD
          refine lv_aload_n hx hb dX10_meet_42 rfl (lv_at hl 0 rfl) ?_
          refine va_get (D := D) (ci := 10) (v := .ref q_line) (C := RX10) (T := TX10) (N := 11) hx hb hts in_X10_meet_X10 hown hK.1 hP 0 rfl rfl 9 (by decide) (hts (.fieldLink RX10 31 "PaperBubbles$Wall" "line" "[I") (List.mem_of_getElem? (i := 4) rfl)) (fun _ h9 => h9) rfl dX10_meet_43 ?_
          refine lv_aload_n hx hb dX10_meet_46 rfl (lv_at hl 0 rfl) ?_
          refine va_get (D := D) (ci := 10) (v := .int v_inLine) (C := RX10) (T := TX10) (N := 11) hx hb hts in_X10_meet_X10 hown hK.1 hP 0 rfl rfl 10 (by decide) (hts (.fieldLink RX10 123 "PaperBubbles$Wall" "inLine" "I") (List.mem_of_getElem? (i := 3) rfl)) (fun _ h9 => h9) rfl dX10_meet_47 ?_
          refine lv_iload_n hx hb dX10_meet_50 rfl (lv_at hl 1 rfl) ?_
          replace h := chi_ok h
          obtain ⟨hi_11, h⟩ := h
          replace h := nm_ok h
          obtain ⟨w_12, ew_12, h⟩ := h
          refine va_iast hx hb hK.1 hP hD hS 2 0 rfl rfl hi_11 dX10_meet_51 (fun H locs hP hD hS => ?_)
          have hP : va_P D gcl [(q_this, .inr (10, [.int v_rows, .int v_columns, .ref q_air, .ref q_paste, .ref q_open, .int v_holes, .int v_out, .int v_night, .ref q_met, .ref q_line, .int v_inLine])), (q_air, .inl (c 0, 25, .inl v_air)), (q_line, .inl (c 0, 25, .inl w_12)), (q_met, .inl (c 0, 25, .inl w_10))] H := by subst ew_12; exact hP
          have hD : va_D A [(q_this, .inr (10, [.int v_rows, .int v_columns, .ref q_air, .ref q_paste, .ref q_open, .int v_holes, .int v_out, .int v_night, .ref q_met, .ref q_line, .int v_inLine])), (q_air, .inl (c 0, 25, .inl v_air)), (q_line, .inl (c 0, 25, .inl w_12)), (q_met, .inl (c 0, 25, .inl w_10))] := by subst ew_12; exact hD
          refine lv_aload_n hx hb dX10_meet_52 rfl (lv_at hl 0 rfl) ?_
          refine lv_dup hx hb dX10_meet_53 rfl ?_
          refine va_get (D := D) (ci := 10) (v := .int v_inLine) (C := RX10) (T := TX10) (N := 11) hx hb hts in_X10_meet_X10 hown hK.1 hP 0 rfl rfl 10 (by decide) (hts (.fieldLink RX10 123 "PaperBubbles$Wall" "inLine" "I") (List.mem_of_getElem? (i := 3) rfl)) (fun _ h9 => h9) rfl dX10_meet_54 ?_
          refine lv_iconst (v := 1) hx hb dX10_meet_57 (by decide) ?_
          refine lv_iadd hx hb dX10_meet_58 ?_
          replace h := nm_ok h
          obtain ⟨t_13, et_13, h⟩ := h
          refine gTop et_13 ?_
          refine va_put (D := D) (ci := 10) (v := .int t_13) (ty := .int) (C := RX10) (T := TX10) (N := 11) hx hb hts in_X10_meet_X10 tyX10 tyX10_ok nmX10 hown hK.1 hP hD hS 0 rfl rfl 10 (by decide) (hts (.fieldLink RX10 123 "PaperBubbles$Wall" "inLine" "I") (List.mem_of_getElem? (i := 3) rfl)) (fun _ h9 => h9) rfl (by decide +kernel) rfl rfl (Nat.le_of_ble_eq_true rfl) dX10_meet_59 (fun H locs hP hD hS => ?_)
          have hP : va_P D gcl [(q_this, .inr (10, [.int v_rows, .int v_columns, .ref q_air, .ref q_paste, .ref q_open, .int v_holes, .int v_out, .int v_night, .ref q_met, .ref q_line, .int t_13])), (q_air, .inl (c 0, 25, .inl v_air)), (q_line, .inl (c 0, 25, .inl w_12)), (q_met, .inl (c 0, 25, .inl w_10))] H := hP
          have hD : va_D A [(q_this, .inr (10, [.int v_rows, .int v_columns, .ref q_air, .ref q_paste, .ref q_open, .int v_holes, .int v_out, .int v_night, .ref q_met, .ref q_line, .int t_13])), (q_air, .inl (c 0, 25, .inl v_air)), (q_line, .inl (c 0, 25, .inl w_12)), (q_met, .inl (c 0, 25, .inl w_10))] := hD
          replace h := so3 h
          obtain ⟨z0, z1, z2⟩ := h
          subst z0 z1 z2
          exact gVret hF hP hD hS dX10_meet_62
set_option maxRecDepth 20000 in
theorem in_X10_meetBubble_X10 : ∀ w ∈ u_ws RX10 TX10 11, w ∈ wsX10_meetBubble := by decide +kernel
abbrev rm_X10_meetBubble : Room := { frames := 3, cells := 0, slots := 0, locals := 65 }
set_option maxHeartbeats 4000000 in
set_option maxRecDepth 100000 in
theorem c_X10_meetBubble (l : Launch) (D : va_G) (c : Nat → ClassId) (q_this q_air q_paste q_open q_met q_line : Nat) (a_1 : Int32) (v_rows : Int32) (v_columns : Int32) (v_holes : Int32) (v_out : Int32) (v_night : Int32) (v_inLine : Int32) (v_air : Nat → Int32) (v_line : Nat → Int32) (v_met : Nat → Int32) (o_r : Int32) (o_v_inLine : Int32) (o_v_line : Nat → Int32) (o_v_met : Nat → Int32) (h : f_X10_meetBubble a_1 v_rows v_columns v_inLine v_air v_line v_met = some (o_r, o_v_inLine, o_v_line, o_v_met)) : gMI l yX10_meetBubble wsX10_meetBubble rm_X10_meetBubble D c [.ref q_this, .int a_1] [(q_this, .inr (10, [.int v_rows, .int v_columns, .ref q_air, .ref q_paste, .ref q_open, .int v_holes, .int v_out, .int v_night, .ref q_met, .ref q_line, .int v_inLine])), (q_air, .inl (c 0, 25, .inl v_air)), (q_line, .inl (c 0, 25, .inl v_line)), (q_met, .inl (c 0, 25, .inl v_met))] [(q_this, .inr (10, [.int v_rows, .int v_columns, .ref q_air, .ref q_paste, .ref q_open, .int v_holes, .int v_out, .int v_night, .ref q_met, .ref q_line, .int o_v_inLine])), (q_air, .inl (c 0, 25, .inl v_air)), (q_line, .inl (c 0, 25, .inl o_v_line)), (q_met, .inl (c 0, 25, .inl o_v_met))] o_r := by
  refine gMI_of (cc := cX10_meetBubble) (maxL := 5) (rt := (some .int)) (by decide +kernel) rfl (Nat.le_of_ble_eq_true rfl) ?_
  intro p e s m below meth co A hF hK hX hP hD hA hS ls hl
  obtain ⟨hx, hb, hr, hts, hown, hlocks, hml⟩ := id hF
  have hl : lv_has ls 5 [(0, .ref q_this), (1, .int a_1)] := hl
  have t_L45 : ∀ (kk_L14 : Int32 → Int32 → Int32 → (Nat → Int32) → (Nat → Int32) → Option (Int32 × Int32 × (Nat → Int32) × (Nat → Int32))), (∀ (x2 : Int32) (x3 : Int32) (v_inLine : Int32) (v_line : Nat → Int32) (v_met : Nat → Int32) (H : Heap) (locs : List Loc), va_P D gcl [(q_this, .inr (10, [.int v_rows, .int v_columns, .ref q_air, .ref q_paste, .ref q_open, .int v_holes, .int v_out, .int v_night, .ref q_met, .ref q_line, .int v_inLine])), (q_air, .inl (c 0, 25, .inl v_air)), (q_line, .inl (c 0, 25, .inl v_line)), (q_met, .inl (c 0, 25, .inl v_met))] H → va_D A [(q_this, .inr (10, [.int v_rows, .int v_columns, .ref q_air, .ref q_paste, .ref q_open, .int v_holes, .int v_out, .int v_night, .ref q_met, .ref q_line, .int v_inLine])), (q_air, .inl (c 0, 25, .inl v_air)), (q_line, .inl (c 0, 25, .inl v_line)), (q_met, .inl (c 0, 25, .inl v_met))] → va_S A s.heap H locs → ∀ ls, lv_has ls 5 [(0, .ref q_this), (2, .int x2), (3, .int x3)] → kk_L14 x2 x3 v_inLine v_line v_met = some (o_r, o_v_inLine, o_v_line, o_v_met) → W p l e (headSpec wsX10_meetBubble rm_X10_meetBubble).room s m [.ref q_this, .int a_1].toArray below meth co H locs 0 0 (gQI D [(q_this, .inr (10, [.int v_rows, .int v_columns, .ref q_air, .ref q_paste, .ref q_open, .int v_holes, .int v_out, .int v_night, .ref q_met, .ref q_line, .int o_v_inLine])), (q_air, .inl (c 0, 25, .inl v_air)), (q_line, .inl (c 0, 25, .inl o_v_line)), (q_met, .inl (c 0, 25, .inl o_v_met))] o_r A below [.ref q_this, .int a_1] s) (F0 m 14 ls [])) → ∀ (n : Nat), ∀ (x2 : Int32) (x3 : Int32) (x4 : Int32) (v_inLine : Int32) (v_line : Nat → Int32) (v_met : Nat → Int32) (H : Heap) (locs : List Loc), va_P D gcl [(q_this, .inr (10, [.int v_rows, .int v_columns, .ref q_air, .ref q_paste, .ref q_open, .int v_holes, .int v_out, .int v_night, .ref q_met, .ref q_line, .int v_inLine])), (q_air, .inl (c 0, 25, .inl v_air)), (q_line, .inl (c 0, 25, .inl v_line)), (q_met, .inl (c 0, 25, .inl v_met))] H → va_D A [(q_this, .inr (10, [.int v_rows, .int v_columns, .ref q_air, .ref q_paste, .ref q_open, .int v_holes, .int v_out, .int v_night, .ref q_met, .ref q_line, .int v_inLine])), (q_air, .inl (c 0, 25, .inl v_air)), (q_line, .inl (c 0, 25, .inl v_line)), (q_met, .inl (c 0, 25, .inl v_met))] → va_S A s.heap H locs → ∀ ls, lv_has ls 5 [(0, .ref q_this), (2, .int x2), (3, .int x3), (4, .int x4)] → f_X10_meetBubble_L45 kk_L14 v_rows v_columns v_air n x2 x3 x4 v_inLine v_line v_met = some (o_r, o_v_inLine, o_v_line, o_v_met) → W p l e (headSpec wsX10_meetBubble rm_X10_meetBubble).room s m [.ref q_this, .int a_1].toArray below meth co H locs 0 0 (gQI D [(q_this, .inr (10, [.int v_rows, .int v_columns, .ref q_air, .ref q_paste, .ref q_open, .int v_holes, .int v_out, .int v_night, .ref q_met, .ref q_line, .int o_v_inLine])), (q_air, .inl (c 0, 25, .inl v_air)), (q_line, .inl (c 0, 25, .inl o_v_line)), (q_met, .inl (c 0, 25, .inl o_v_met))] o_r A below [.ref q_this, .int a_1] s) (F0 m 45 ls []) := by
    intro kk_L14 hkk_L14
    intro n
    induction n with
    | zero => intro x2 x3 x4 v_inLine v_line v_met H locs hP hD hS ls hl h; exact no_ok h
    | succ n ih =>
      intro x2 x3 x4 v_inLine v_line v_met H locs hP hD hS ls hl h
      rw [f_X10_meetBubble_L45] at h
      refine lv_iload hx hb dX10_meetBubble_45 (lv_at hl 3 rfl) ?_
      refine lv_iconst (v := 4) hx hb dX10_meetBubble_47 (by decide) ?_
      refine lv_icmp_ge (tgt := 73) hx hb dX10_meetBubble_48 (by decide) (fun c_11 => ?_) (fun c_11 => ?_)
      · replace h := it_t c_11 h
        replace h := nm_ok h
        obtain ⟨t_12, et_12, h⟩ := h
        refine lv_iinc (v := t_12) (lv' := [(3, .int t_12), (0, .ref q_this), (2, .int x2), (4, .int x4)]) hx hb dX10_meetBubble_73 hl (k := 2) rfl (by rw [et_12]; rfl) (by decide) rfl (fun ls hl => ?_)
        refine lv_goto (tgt := 14) hx hb dX10_meetBubble_76 (by decide) ?_
        exact hkk_L14 x2 t_12 v_inLine v_line v_met H locs hP hD hS ls (lv_sub hl [1, 2, 0] rfl) h
      · replace h := it_f c_11 h
        refine lv_aload_n hx hb dX10_meetBubble_51 rfl (lv_at hl 0 rfl) ?_
        refine lv_aload_n hx hb dX10_meetBubble_52 rfl (lv_at hl 0 rfl) ?_
        refine lv_aload_n hx hb dX10_meetBubble_53 rfl (lv_at hl 0 rfl) ?_
        refine va_get (D := D) (ci := 10) (v := .ref q_line) (C := RX10) (T := TX10) (N := 11) hx hb hts in_X10_meetBubble_X10 hown hK.1 hP 0 rfl rfl 9 (by decide) (hts (.fieldLink RX10 31 "PaperBubbles$Wall" "line" "[I") (List.mem_of_getElem? (i := 3) rfl)) (fun _ h9 => h9) rfl dX10_meetBubble_54 ?_
        refine lv_iload_n hx hb dX10_meetBubble_57 rfl (lv_at hl 2 rfl) ?_
        replace h := chi_ok h
        obtain ⟨hi_13, h⟩ := h
        refine va_iald hx hb hK.1 hP 2 0 rfl rfl hi_13 dX10_meetBubble_58 ?_
        replace h := nm_ok h
        obtain ⟨t_14, et_14, h⟩ := h
        refine gTop et_14 ?_
        refine lv_iload hx hb dX10_meetBubble_59 (lv_at hl 3 rfl) ?_
        replace h := kb_ok h
        obtain ⟨r_16, hc_15, h⟩ := h
        refine gCallIr (isC := [0]) (wc := [(q_this, .inr (10, [.int v_rows, .int v_columns, .ref q_air, .ref q_paste, .ref q_open, .int v_holes, .int v_out, .int v_night, .ref q_met, .ref q_line, .int v_inLine]))]) hP hD hS hA ⟨rfl, trivial⟩ (va_runV (rm := rm_X10_beside) (ws := wsX10_beside) (As := [.int t_14, .int x4]) (rest := [.ref q_this]) (gFix hF) (c_X10_beside l D c q_this q_air q_paste q_open q_met q_line t_14 x4 v_rows v_columns v_holes v_out v_night v_inLine r_16 hc_15 H.size) (cwV 2 hts gX10_meetBubble_X10_beside rfl rfl rfl (by decide +kernel) ⟨Nat.le_of_ble_eq_true rfl, Nat.le_of_ble_eq_true rfl⟩) (gPreV (wc := [(q_this, .inr (10, [.int v_rows, .int v_columns, .ref q_air, .ref q_paste, .ref q_open, .int v_holes, .int v_out, .int v_night, .ref q_met, .ref q_line, .int v_inLine]))]) (q := (RX10, TX10, 11)) (ci := 10) (q0 := 0) (isC := [0]) hK hX hS hA hP hD ⟨rfl, trivial⟩ (by decide +kernel) rfl rfl) rfl rfl hl.1 rfl (lv_room (Nat.le_of_ble_eq_true rfl)) dX10_meetBubble_61 ⟨Nat.le_of_ble_eq_true rfl, Nat.le_of_ble_eq_true rfl⟩) (fun H locs hP hS => ?_)
        replace h := kb3_ok h
        obtain ⟨w_18, w_19, w_20, hc_17, h⟩ := h
        refine gCallV (isC := [0, 1, 2, 3]) (wc := [(q_this, .inr (10, [.int v_rows, .int v_columns, .ref q_air, .ref q_paste, .ref q_open, .int v_holes, .int v_out, .int v_night, .ref q_met, .ref q_line, .int v_inLine])), (q_air, .inl (c 0, 25, .inl v_air)), (q_line, .inl (c 0, 25, .inl v_line)), (q_met, .inl (c 0, 25, .inl v_met))]) (w1 := [(q_this, .inr (10, [.int v_rows, .int v_columns, .ref q_air, .ref q_paste, .ref q_open, .int v_holes, .int v_out, .int v_night, .ref q_met, .ref q_line, .int w_18])), (q_air, .inl (c 0, 25, .inl v_air)), (q_line, .inl (c 0, 25, .inl w_19)), (q_met, .inl (c 0, 25, .inl w_20))]) (ws2 := [(q_this, .inr (10, [.int v_rows, .int v_columns, .ref q_air, .ref q_paste, .ref q_open, .int v_holes, .int v_out, .int v_night, .ref q_met, .ref q_line, .int w_18])), (q_air, .inl (c 0, 25, .inl v_air)), (q_line, .inl (c 0, 25, .inl w_19)), (q_met, .inl (c 0, 25, .inl w_20))]) (ms := [(some 0), (some 1), (some 2), (some 3)]) hP hD hS hA ⟨rfl, rfl, rfl, rfl, trivial⟩ (by decide +kernel) ⟨rfl, rfl, rfl, rfl, trivial⟩ (va_runV (rm := rm_X10_meet) (ws := wsX10_meet) (As := [.int r_16]) (rest := []) (gFix hF) (c_X10_meet l D c q_this q_air q_paste q_open q_met q_line r_16 v_rows v_columns v_holes v_out v_night v_inLine v_air v_line v_met w_18 w_19 w_20 hc_17 H.size) (cwV 1 hts gX10_meetBubble_X10_meet rfl rfl rfl (by decide +kernel) ⟨Nat.le_of_ble_eq_true rfl, Nat.le_of_ble_eq_true rfl⟩) (gPreV (wc := [(q_this, .inr (10, [.int v_rows, .int v_columns, .ref q_air, .ref q_paste, .ref q_open, .int v_holes, .int v_out, .int v_night, .ref q_met, .ref q_line, .int v_inLine])), (q_air, .inl (c 0, 25, .inl v_air)), (q_line, .inl (c 0, 25, .inl v_line)), (q_met, .inl (c 0, 25, .inl v_met))]) (q := (RX10, TX10, 11)) (ci := 10) (q0 := 0) (isC := [0, 1, 2, 3]) hK hX hS hA hP hD ⟨rfl, rfl, rfl, rfl, trivial⟩ (by decide +kernel) rfl rfl) rfl rfl hl.1 rfl (lv_room (Nat.le_of_ble_eq_true rfl)) dX10_meetBubble_64 ⟨Nat.le_of_ble_eq_true rfl, Nat.le_of_ble_eq_true rfl⟩) (fun H locs hP hD hS => ?_)
        replace h := nm_ok h
        obtain ⟨t_21, et_21, h⟩ := h
        refine lv_iinc (v := t_21) (lv' := [(4, .int t_21), (0, .ref q_this), (2, .int x2), (3, .int x3)]) hx hb dX10_meetBubble_67 hl (k := 3) rfl (by rw [et_21]; rfl) (by decide) rfl (fun ls hl => ?_)
        refine lv_goto (tgt := 45) hx hb dX10_meetBubble_70 (by decide) ?_
        exact ih x2 x3 t_21 w_18 w_19 w_20 H locs hP hD hS ls (lv_sub hl [1, 2, 3, 0] rfl) h
  have t_L14 : ∀ (n : Nat), ∀ (x2 : Int32) (x3 : Int32) (v_inLine : Int32) (v_line : Nat → Int32) (v_met : Nat → Int32) (H : Heap) (locs : List Loc), va_P D gcl [(q_this, .inr (10, [.int v_rows, .int v_columns, .ref q_air, .ref q_paste, .ref q_open, .int v_holes, .int v_out, .int v_night, .ref q_met, .ref q_line, .int v_inLine])), (q_air, .inl (c 0, 25, .inl v_air)), (q_line, .inl (c 0, 25, .inl v_line)), (q_met, .inl (c 0, 25, .inl v_met))] H → va_D A [(q_this, .inr (10, [.int v_rows, .int v_columns, .ref q_air, .ref q_paste, .ref q_open, .int v_holes, .int v_out, .int v_night, .ref q_met, .ref q_line, .int v_inLine])), (q_air, .inl (c 0, 25, .inl v_air)), (q_line, .inl (c 0, 25, .inl v_line)), (q_met, .inl (c 0, 25, .inl v_met))] → va_S A s.heap H locs → ∀ ls, lv_has ls 5 [(0, .ref q_this), (2, .int x2), (3, .int x3)] → f_X10_meetBubble_L14 v_rows v_columns v_air n x2 x3 v_inLine v_line v_met = some (o_r, o_v_inLine, o_v_line, o_v_met) → W p l e (headSpec wsX10_meetBubble rm_X10_meetBubble).room s m [.ref q_this, .int a_1].toArray below meth co H locs 0 0 (gQI D [(q_this, .inr (10, [.int v_rows, .int v_columns, .ref q_air, .ref q_paste, .ref q_open, .int v_holes, .int v_out, .int v_night, .ref q_met, .ref q_line, .int o_v_inLine])), (q_air, .inl (c 0, 25, .inl v_air)), (q_line, .inl (c 0, 25, .inl o_v_line)), (q_met, .inl (c 0, 25, .inl o_v_met))] o_r A below [.ref q_this, .int a_1] s) (F0 m 14 ls []) := by
    intro n
    induction n with
    | zero => intro x2 x3 v_inLine v_line v_met H locs hP hD hS ls hl h; exact no_ok h
    | succ n ih =>
      intro x2 x3 v_inLine v_line v_met H locs hP hD hS ls hl h
      rw [f_X10_meetBubble_L14] at h
      refine lv_iload_n hx hb dX10_meetBubble_14 rfl (lv_at hl 2 rfl) ?_
      refine lv_aload_n hx hb dX10_meetBubble_15 rfl (lv_at hl 0 rfl) ?_
      refine va_get (D := D) (ci := 10) (v := .int v_inLine) (C := RX10) (T := TX10) (N := 11) hx hb hts in_X10_meetBubble_X10 hown hK.1 hP 0 rfl rfl 10 (by decide) (hts (.fieldLink RX10 123 "PaperBubbles$Wall" "inLine" "I") (List.mem_of_getElem? (i := 1) rfl)) (fun _ h9 => h9) rfl dX10_meetBubble_16 ?_
      refine lv_icmp_ge (tgt := 79) hx hb dX10_meetBubble_19 (by decide) (fun c_5 => ?_) (fun c_5 => ?_)
      · replace h := it_t c_5 h
        refine lv_iload_n hx hb dX10_meetBubble_79 rfl (lv_at hl 1 rfl) ?_
        replace h := so4 h
        obtain ⟨z0, z1, z2, z3⟩ := h
        subst z0 z1 z2 z3
        exact gIret hF hP hD hS rfl dX10_meetBubble_80
      · replace h := it_f c_5 h
        refine lv_iload_n hx hb dX10_meetBubble_22 rfl (lv_at hl 2 rfl) ?_
        refine lv_bipush (v := 25) hx hb dX10_meetBubble_23 (by decide) ?_
        refine lv_icmp_ge (tgt := 79) hx hb dX10_meetBubble_25 (by decide) (fun c_6 => ?_) (fun c_6 => ?_)
        · replace h := it_t c_6 h
          refine lv_iload_n hx hb dX10_meetBubble_79 rfl (lv_at hl 1 rfl) ?_
          replace h := so4 h
          obtain ⟨z0, z1, z2, z3⟩ := h
          subst z0 z1 z2 z3
          exact gIret hF hP hD hS rfl dX10_meetBubble_80
        · replace h := it_f c_6 h
          refine lv_iload_n hx hb dX10_meetBubble_28 rfl (lv_at hl 1 rfl) ?_
          refine lv_aload_n hx hb dX10_meetBubble_29 rfl (lv_at hl 0 rfl) ?_
          refine va_get (D := D) (ci := 10) (v := .ref q_air) (C := RX10) (T := TX10) (N := 11) hx hb hts in_X10_meetBubble_X10 hown hK.1 hP 0 rfl rfl 2 (by decide) (hts (.fieldLink RX10 18 "PaperBubbles$Wall" "air" "[I") (List.mem_of_getElem? (i := 2) rfl)) (fun _ h9 => h9) rfl dX10_meetBubble_30 ?_
          refine lv_aload_n hx hb dX10_meetBubble_33 rfl (lv_at hl 0 rfl) ?_
          refine va_get (D := D) (ci := 10) (v := .ref q_line) (C := RX10) (T := TX10) (N := 11) hx hb hts in_X10_meetBubble_X10 hown hK.1 hP 0 rfl rfl 9 (by decide) (hts (.fieldLink RX10 31 "PaperBubbles$Wall" "line" "[I") (List.mem_of_getElem? (i := 3) rfl)) (fun _ h9 => h9) rfl dX10_meetBubble_34 ?_
          refine lv_iload_n hx hb dX10_meetBubble_37 rfl (lv_at hl 2 rfl) ?_
          replace h := chi_ok h
          obtain ⟨hi_7, h⟩ := h
          refine va_iald hx hb hK.1 hP 2 0 rfl rfl hi_7 dX10_meetBubble_38 ?_
          replace h := nm_ok h
          obtain ⟨t_8, et_8, h⟩ := h
          refine gTop et_8 ?_
          replace h := chi_ok h
          obtain ⟨hi_9, h⟩ := h
          refine va_iald hx hb hK.1 hP 1 0 rfl rfl hi_9 dX10_meetBubble_39 ?_
          refine lv_iadd hx hb dX10_meetBubble_40 ?_
          replace h := nm_ok h
          obtain ⟨t_10, et_10, h⟩ := h
          refine gTop et_10 ?_
          refine lv_istore_n (lv' := [(2, .int t_10), (0, .ref q_this), (3, .int x3)]) hx hb dX10_meetBubble_41 rfl hl (by decide) rfl (fun ls hl => ?_)
          refine lv_iconst (v := 0) hx hb dX10_meetBubble_42 (by decide) ?_
          refine lv_istore (lv' := [(4, .int 0), (2, .int t_10), (0, .ref q_this), (3, .int x3)]) hx hb dX10_meetBubble_43 hl (by decide) rfl (fun ls hl => ?_)
          exact t_L45 _ ih gFuel t_10 x3 0 v_inLine v_line v_met H locs hP hD hS ls (lv_sub hl [2, 1, 3, 0] rfl) h
  unfold f_X10_meetBubble at h
  refine lv_aload_n hx hb dX10_meetBubble_0 rfl (lv_at hl 0 rfl) ?_
  refine lv_iconst (v := 0) hx hb dX10_meetBubble_1 (by decide) ?_
  refine va_put (D := D) (ci := 10) (v := .int 0) (ty := .int) (C := RX10) (T := TX10) (N := 11) hx hb hts in_X10_meetBubble_X10 tyX10 tyX10_ok nmX10 hown hK.1 hP hD hS 0 rfl rfl 10 (by decide) (hts (.fieldLink RX10 123 "PaperBubbles$Wall" "inLine" "I") (List.mem_of_getElem? (i := 1) rfl)) (fun _ h9 => h9) rfl (by decide +kernel) rfl rfl (Nat.le_of_ble_eq_true rfl) dX10_meetBubble_2 (fun H locs hP hD hS => ?_)
  have hP : va_P D gcl [(q_this, .inr (10, [.int v_rows, .int v_columns, .ref q_air, .ref q_paste, .ref q_open, .int v_holes, .int v_out, .int v_night, .ref q_met, .ref q_line, .int 0])), (q_air, .inl (c 0, 25, .inl v_air)), (q_line, .inl (c 0, 25, .inl v_line)), (q_met, .inl (c 0, 25, .inl v_met))] H := hP
  have hD : va_D A [(q_this, .inr (10, [.int v_rows, .int v_columns, .ref q_air, .ref q_paste, .ref q_open, .int v_holes, .int v_out, .int v_night, .ref q_met, .ref q_line, .int 0])), (q_air, .inl (c 0, 25, .inl v_air)), (q_line, .inl (c 0, 25, .inl v_line)), (q_met, .inl (c 0, 25, .inl v_met))] := hD
  refine lv_aload_n hx hb dX10_meetBubble_5 rfl (lv_at hl 0 rfl) ?_
  refine lv_iload_n hx hb dX10_meetBubble_6 rfl (lv_at hl 1 rfl) ?_
  replace h := kb3_ok h
  obtain ⟨w_2, w_3, w_4, hc_1, h⟩ := h
  refine gCallV (isC := [0, 1, 2, 3]) (wc := [(q_this, .inr (10, [.int v_rows, .int v_columns, .ref q_air, .ref q_paste, .ref q_open, .int v_holes, .int v_out, .int v_night, .ref q_met, .ref q_line, .int 0])), (q_air, .inl (c 0, 25, .inl v_air)), (q_line, .inl (c 0, 25, .inl v_line)), (q_met, .inl (c 0, 25, .inl v_met))]) (w1 := [(q_this, .inr (10, [.int v_rows, .int v_columns, .ref q_air, .ref q_paste, .ref q_open, .int v_holes, .int v_out, .int v_night, .ref q_met, .ref q_line, .int w_2])), (q_air, .inl (c 0, 25, .inl v_air)), (q_line, .inl (c 0, 25, .inl w_3)), (q_met, .inl (c 0, 25, .inl w_4))]) (ws2 := [(q_this, .inr (10, [.int v_rows, .int v_columns, .ref q_air, .ref q_paste, .ref q_open, .int v_holes, .int v_out, .int v_night, .ref q_met, .ref q_line, .int w_2])), (q_air, .inl (c 0, 25, .inl v_air)), (q_line, .inl (c 0, 25, .inl w_3)), (q_met, .inl (c 0, 25, .inl w_4))]) (ms := [(some 0), (some 1), (some 2), (some 3)]) hP hD hS hA ⟨rfl, rfl, rfl, rfl, trivial⟩ (by decide +kernel) ⟨rfl, rfl, rfl, rfl, trivial⟩ (va_runV (rm := rm_X10_meet) (ws := wsX10_meet) (As := [.int a_1]) (rest := []) (gFix hF) (c_X10_meet l D c q_this q_air q_paste q_open q_met q_line a_1 v_rows v_columns v_holes v_out v_night 0 v_air v_line v_met w_2 w_3 w_4 hc_1 H.size) (cwV 1 hts gX10_meetBubble_X10_meet rfl rfl rfl (by decide +kernel) ⟨Nat.le_of_ble_eq_true rfl, Nat.le_of_ble_eq_true rfl⟩) (gPreV (wc := [(q_this, .inr (10, [.int v_rows, .int v_columns, .ref q_air, .ref q_paste, .ref q_open, .int v_holes, .int v_out, .int v_night, .ref q_met, .ref q_line, .int 0])), (q_air, .inl (c 0, 25, .inl v_air)), (q_line, .inl (c 0, 25, .inl v_line)), (q_met, .inl (c 0, 25, .inl v_met))]) (q := (RX10, TX10, 11)) (ci := 10) (q0 := 0) (isC := [0, 1, 2, 3]) hK hX hS hA hP hD ⟨rfl, rfl, rfl, rfl, trivial⟩ (by decide +kernel) rfl rfl) rfl rfl hl.1 rfl (lv_room (Nat.le_of_ble_eq_true rfl)) dX10_meetBubble_7 ⟨Nat.le_of_ble_eq_true rfl, Nat.le_of_ble_eq_true rfl⟩) (fun H locs hP hD hS => ?_)
  refine lv_iconst (v := 0) hx hb dX10_meetBubble_10 (by decide) ?_
  refine lv_istore_n (lv' := [(2, .int 0), (0, .ref q_this), (1, .int a_1)]) hx hb dX10_meetBubble_11 rfl hl (by decide) rfl (fun ls hl => ?_)
  refine lv_iconst (v := 0) hx hb dX10_meetBubble_12 (by decide) ?_
  refine lv_istore_n (lv' := [(3, .int 0), (2, .int 0), (0, .ref q_this), (1, .int a_1)]) hx hb dX10_meetBubble_13 rfl hl (by decide) rfl (fun ls hl => ?_)
  exact t_L14 gFuel 0 0 w_2 w_3 w_4 H locs hP hD hS ls (lv_sub hl [2, 1, 0] rfl) h
set_option maxRecDepth 20000 in
theorem in_X10_cellOfBiggest_X10 : ∀ w ∈ u_ws RX10 TX10 11, w ∈ wsX10_cellOfBiggest := by decide +kernel
abbrev rm_X10_cellOfBiggest : Room := { frames := 4, cells := 0, slots := 0, locals := 89 }
set_option maxHeartbeats 4000000 in
set_option maxRecDepth 100000 in
theorem c_X10_cellOfBiggest (l : Launch) (D : va_G) (c : Nat → ClassId) (q_this q_air q_paste q_open q_met q_line : Nat) (v_rows : Int32) (v_columns : Int32) (v_holes : Int32) (v_out : Int32) (v_night : Int32) (v_inLine : Int32) (v_air : Nat → Int32) (v_line : Nat → Int32) (v_met : Nat → Int32) (o_r : Int32) (o_v_inLine : Int32) (o_v_line : Nat → Int32) (o_v_met : Nat → Int32) (h : f_X10_cellOfBiggest v_rows v_columns v_inLine v_air v_line v_met = some (o_r, o_v_inLine, o_v_line, o_v_met)) : gMI l yX10_cellOfBiggest wsX10_cellOfBiggest rm_X10_cellOfBiggest D c [.ref q_this] [(q_this, .inr (10, [.int v_rows, .int v_columns, .ref q_air, .ref q_paste, .ref q_open, .int v_holes, .int v_out, .int v_night, .ref q_met, .ref q_line, .int v_inLine])), (q_air, .inl (c 0, 25, .inl v_air)), (q_line, .inl (c 0, 25, .inl v_line)), (q_met, .inl (c 0, 25, .inl v_met))] [(q_this, .inr (10, [.int v_rows, .int v_columns, .ref q_air, .ref q_paste, .ref q_open, .int v_holes, .int v_out, .int v_night, .ref q_met, .ref q_line, .int o_v_inLine])), (q_air, .inl (c 0, 25, .inl v_air)), (q_line, .inl (c 0, 25, .inl o_v_line)), (q_met, .inl (c 0, 25, .inl o_v_met))] o_r := by
  refine gMI_of (cc := cX10_cellOfBiggest) (maxL := 5) (rt := (some .int)) (by decide +kernel) rfl (Nat.le_of_ble_eq_true rfl) ?_
  intro p e s m below meth co A hF hK hX hP hD hA hS ls hl
  obtain ⟨hx, hb, hr, hts, hown, hlocks, hml⟩ := id hF
  have hl : lv_has ls 5 [(0, .ref q_this)] := hl
  have t_L14 : ∀ (n : Nat), ∀ (x1 : Int32) (x2 : Int32) (x3 : Int32) (v_inLine : Int32) (v_line : Nat → Int32) (v_met : Nat → Int32) (H : Heap) (locs : List Loc), va_P D gcl [(q_this, .inr (10, [.int v_rows, .int v_columns, .ref q_air, .ref q_paste, .ref q_open, .int v_holes, .int v_out, .int v_night, .ref q_met, .ref q_line, .int v_inLine])), (q_air, .inl (c 0, 25, .inl v_air)), (q_line, .inl (c 0, 25, .inl v_line)), (q_met, .inl (c 0, 25, .inl v_met))] H → va_D A [(q_this, .inr (10, [.int v_rows, .int v_columns, .ref q_air, .ref q_paste, .ref q_open, .int v_holes, .int v_out, .int v_night, .ref q_met, .ref q_line, .int v_inLine])), (q_air, .inl (c 0, 25, .inl v_air)), (q_line, .inl (c 0, 25, .inl v_line)), (q_met, .inl (c 0, 25, .inl v_met))] → va_S A s.heap H locs → ∀ ls, lv_has ls 5 [(0, .ref q_this), (1, .int x1), (2, .int x2), (3, .int x3)] → f_X10_cellOfBiggest_L14 v_rows v_columns v_air n x1 x2 x3 v_inLine v_line v_met = some (o_r, o_v_inLine, o_v_line, o_v_met) → W p l e (headSpec wsX10_cellOfBiggest rm_X10_cellOfBiggest).room s m [.ref q_this].toArray below meth co H locs 0 0 (gQI D [(q_this, .inr (10, [.int v_rows, .int v_columns, .ref q_air, .ref q_paste, .ref q_open, .int v_holes, .int v_out, .int v_night, .ref q_met, .ref q_line, .int o_v_inLine])), (q_air, .inl (c 0, 25, .inl v_air)), (q_line, .inl (c 0, 25, .inl o_v_line)), (q_met, .inl (c 0, 25, .inl o_v_met))] o_r A below [.ref q_this] s) (F0 m 14 ls []) := by
    intro n
    induction n with
    | zero => intro x1 x2 x3 v_inLine v_line v_met H locs hP hD hS ls hl h; exact no_ok h
    | succ n ih =>
      intro x1 x2 x3 v_inLine v_line v_met H locs hP hD hS ls hl h
      rw [f_X10_cellOfBiggest_L14] at h
      refine lv_iload_n hx hb dX10_cellOfBiggest_14 rfl (lv_at hl 3 rfl) ?_
      refine lv_bipush (v := 25) hx hb dX10_cellOfBiggest_15 (by decide) ?_
      refine lv_icmp_ge (tgt := 52) hx hb dX10_cellOfBiggest_17 (by decide) (fun c_3 => ?_) (fun c_3 => ?_)
      · replace h := it_t c_3 h
        refine lv_iload_n hx hb dX10_cellOfBiggest_52 rfl (lv_at hl 2 rfl) ?_
        replace h := so4 h
        obtain ⟨z0, z1, z2, z3⟩ := h
        subst z0 z1 z2 z3
        exact gIret hF hP hD hS rfl dX10_cellOfBiggest_53
      · replace h := it_f c_3 h
        refine lv_aload_n hx hb dX10_cellOfBiggest_20 rfl (lv_at hl 0 rfl) ?_
        refine lv_iload_n hx hb dX10_cellOfBiggest_21 rfl (lv_at hl 3 rfl) ?_
        replace h := kb_ok h
        obtain ⟨r_5, hc_4, h⟩ := h
        refine gCallIr (isC := [0]) (wc := [(q_this, .inr (10, [.int v_rows, .int v_columns, .ref q_air, .ref q_paste, .ref q_open, .int v_holes, .int v_out, .int v_night, .ref q_met, .ref q_line, .int v_inLine]))]) hP hD hS hA ⟨rfl, trivial⟩ (va_runV (rm := rm_X10_has) (ws := wsX10_has) (As := [.int x3]) (rest := []) (gFix hF) (c_X10_has l D c q_this q_air q_paste q_open q_met q_line x3 v_rows v_columns v_holes v_out v_night v_inLine r_5 hc_4 H.size) (cwV 1 hts gX10_cellOfBiggest_X10_has rfl rfl rfl (by decide +kernel) ⟨Nat.le_of_ble_eq_true rfl, Nat.le_of_ble_eq_true rfl⟩) (gPreV (wc := [(q_this, .inr (10, [.int v_rows, .int v_columns, .ref q_air, .ref q_paste, .ref q_open, .int v_holes, .int v_out, .int v_night, .ref q_met, .ref q_line, .int v_inLine]))]) (q := (RX10, TX10, 11)) (ci := 10) (q0 := 0) (isC := [0]) hK hX hS hA hP hD ⟨rfl, trivial⟩ (by decide +kernel) rfl rfl) rfl rfl hl.1 rfl (lv_room (Nat.le_of_ble_eq_true rfl)) dX10_cellOfBiggest_22 ⟨Nat.le_of_ble_eq_true rfl, Nat.le_of_ble_eq_true rfl⟩) (fun H locs hP hS => ?_)
        refine lv_if_eq (tgt := 52) hx hb dX10_cellOfBiggest_25 (by decide) (fun c_6 => ?_) (fun c_6 => ?_)
        · replace h := it_t c_6 h
          refine lv_iload_n hx hb dX10_cellOfBiggest_52 rfl (lv_at hl 2 rfl) ?_
          replace h := so4 h
          obtain ⟨z0, z1, z2, z3⟩ := h
          subst z0 z1 z2 z3
          exact gIret hF hP hD hS rfl dX10_cellOfBiggest_53
        · replace h := it_f c_6 h
          refine lv_aload_n hx hb dX10_cellOfBiggest_28 rfl (lv_at hl 0 rfl) ?_
          refine lv_iload_n hx hb dX10_cellOfBiggest_29 rfl (lv_at hl 3 rfl) ?_
          replace h := kb4_ok h
          obtain ⟨r_8, w_9, w_10, w_11, hc_7, h⟩ := h
          refine gCallI (isC := [0, 1, 2, 3]) (wc := [(q_this, .inr (10, [.int v_rows, .int v_columns, .ref q_air, .ref q_paste, .ref q_open, .int v_holes, .int v_out, .int v_night, .ref q_met, .ref q_line, .int v_inLine])), (q_air, .inl (c 0, 25, .inl v_air)), (q_line, .inl (c 0, 25, .inl v_line)), (q_met, .inl (c 0, 25, .inl v_met))]) (w1 := [(q_this, .inr (10, [.int v_rows, .int v_columns, .ref q_air, .ref q_paste, .ref q_open, .int v_holes, .int v_out, .int v_night, .ref q_met, .ref q_line, .int w_9])), (q_air, .inl (c 0, 25, .inl v_air)), (q_line, .inl (c 0, 25, .inl w_10)), (q_met, .inl (c 0, 25, .inl w_11))]) (ws2 := [(q_this, .inr (10, [.int v_rows, .int v_columns, .ref q_air, .ref q_paste, .ref q_open, .int v_holes, .int v_out, .int v_night, .ref q_met, .ref q_line, .int w_9])), (q_air, .inl (c 0, 25, .inl v_air)), (q_line, .inl (c 0, 25, .inl w_10)), (q_met, .inl (c 0, 25, .inl w_11))]) (ms := [(some 0), (some 1), (some 2), (some 3)]) hP hD hS hA ⟨rfl, rfl, rfl, rfl, trivial⟩ (by decide +kernel) ⟨rfl, rfl, rfl, rfl, trivial⟩ (va_runV (rm := rm_X10_meetBubble) (ws := wsX10_meetBubble) (As := [.int x3]) (rest := []) (gFix hF) (c_X10_meetBubble l D c q_this q_air q_paste q_open q_met q_line x3 v_rows v_columns v_holes v_out v_night v_inLine v_air v_line v_met r_8 w_9 w_10 w_11 hc_7 H.size) (cwV 1 hts gX10_cellOfBiggest_X10_meetBubble rfl rfl rfl (by decide +kernel) ⟨Nat.le_of_ble_eq_true rfl, Nat.le_of_ble_eq_true rfl⟩) (gPreV (wc := [(q_this, .inr (10, [.int v_rows, .int v_columns, .ref q_air, .ref q_paste, .ref q_open, .int v_holes, .int v_out, .int v_night, .ref q_met, .ref q_line, .int v_inLine])), (q_air, .inl (c 0, 25, .inl v_air)), (q_line, .inl (c 0, 25, .inl v_line)), (q_met, .inl (c 0, 25, .inl v_met))]) (q := (RX10, TX10, 11)) (ci := 10) (q0 := 0) (isC := [0, 1, 2, 3]) hK hX hS hA hP hD ⟨rfl, rfl, rfl, rfl, trivial⟩ (by decide +kernel) rfl rfl) rfl rfl hl.1 rfl (lv_room (Nat.le_of_ble_eq_true rfl)) dX10_cellOfBiggest_30 ⟨Nat.le_of_ble_eq_true rfl, Nat.le_of_ble_eq_true rfl⟩) (fun H locs hP hD hS => ?_)
          refine lv_istore (lv' := [(4, .int r_8), (0, .ref q_this), (1, .int x1), (2, .int x2), (3, .int x3)]) hx hb dX10_cellOfBiggest_33 hl (by decide) rfl (fun ls hl => ?_)
          refine lv_iload hx hb dX10_cellOfBiggest_35 (lv_at hl 0 rfl) ?_
          refine lv_iload_n hx hb dX10_cellOfBiggest_37 rfl (lv_at hl 2 rfl) ?_
          refine lv_icmp_le (tgt := 46) hx hb dX10_cellOfBiggest_38 (by decide) (fun c_12 => ?_) (fun c_12 => ?_)
          · replace h := it_t c_12 h
            replace h := nm_ok h
            obtain ⟨t_13, et_13, h⟩ := h
            refine lv_iinc (v := t_13) (lv' := [(3, .int t_13), (4, .int r_8), (0, .ref q_this), (1, .int x1), (2, .int x2)]) hx hb dX10_cellOfBiggest_46 hl (k := 4) rfl (by rw [et_13]; rfl) (by decide) rfl (fun ls hl => ?_)
            refine lv_goto (tgt := 14) hx hb dX10_cellOfBiggest_49 (by decide) ?_
            exact ih x1 x2 t_13 w_9 w_10 w_11 H locs hP hD hS ls (lv_sub hl [2, 3, 4, 0] rfl) h
          · replace h := it_f c_12 h
            refine lv_iload hx hb dX10_cellOfBiggest_41 (lv_at hl 0 rfl) ?_
            refine lv_istore_n (lv' := [(1, .int r_8), (4, .int r_8), (0, .ref q_this), (2, .int x2), (3, .int x3)]) hx hb dX10_cellOfBiggest_43 rfl hl (by decide) rfl (fun ls hl => ?_)
            refine lv_iload_n hx hb dX10_cellOfBiggest_44 rfl (lv_at hl 4 rfl) ?_
            refine lv_istore_n (lv' := [(2, .int x3), (1, .int r_8), (4, .int r_8), (0, .ref q_this), (3, .int x3)]) hx hb dX10_cellOfBiggest_45 rfl hl (by decide) rfl (fun ls hl => ?_)
            replace h := nm_ok h
            obtain ⟨t_14, et_14, h⟩ := h
            refine lv_iinc (v := t_14) (lv' := [(3, .int t_14), (2, .int x3), (1, .int r_8), (4, .int r_8), (0, .ref q_this)]) hx hb dX10_cellOfBiggest_46 hl (k := 4) rfl (by rw [et_14]; rfl) (by decide) rfl (fun ls hl => ?_)
            refine lv_goto (tgt := 14) hx hb dX10_cellOfBiggest_49 (by decide) ?_
            exact ih r_8 x3 t_14 w_9 w_10 w_11 H locs hP hD hS ls (lv_sub hl [4, 2, 1, 0] rfl) h
  unfold f_X10_cellOfBiggest at h
  refine lv_aload_n hx hb dX10_cellOfBiggest_0 rfl (lv_at hl 0 rfl) ?_
  refine va_get (D := D) (ci := 10) (v := .ref q_met) (C := RX10) (T := TX10) (N := 11) hx hb hts in_X10_cellOfBiggest_X10 hown hK.1 hP 0 rfl rfl 8 (by decide) (hts (.fieldLink RX10 28 "PaperBubbles$Wall" "met" "[I") (List.mem_of_getElem? (i := 1) rfl)) (fun _ h9 => h9) rfl dX10_cellOfBiggest_1 ?_
  refine lv_iconst (v := 0) hx hb dX10_cellOfBiggest_4 (by decide) ?_
  replace h := kb_ok h
  obtain ⟨w_2, hc_1, h⟩ := h
  refine gCallV (isC := [3]) (wc := [(q_met, .inl (c 0, 25, .inl v_met))]) (w1 := [(q_met, .inl (c 0, 25, .inl w_2))]) (ws2 := [(q_this, .inr (10, [.int v_rows, .int v_columns, .ref q_air, .ref q_paste, .ref q_open, .int v_holes, .int v_out, .int v_night, .ref q_met, .ref q_line, .int v_inLine])), (q_air, .inl (c 0, 25, .inl v_air)), (q_line, .inl (c 0, 25, .inl v_line)), (q_met, .inl (c 0, 25, .inl w_2))]) (ms := [none, none, none, (some 0)]) hP hD hS hA ⟨rfl, trivial⟩ (by decide +kernel) ⟨rfl, rfl, rfl, rfl, trivial⟩ (va_runS (rm := rm_J7_fill_53178) (ws := wsJ7_fill_53178) (As := [.ref q_met, .int 0]) (rest := []) (gFix hF) (c_J7_fill_53178 l D c q_met 25 0 v_met w_2 hc_1 s.heap.size) (va_cwS 2 hts gX10_cellOfBiggest_J7_fill_53178 rfl rfl rfl (by decide +kernel) ⟨Nat.le_of_ble_eq_true rfl, Nat.le_of_ble_eq_true rfl⟩) (gPreS (wc := [(q_met, .inl (c 0, 25, .inl v_met))]) (isC := [3]) hK hX hS hA hP hD ⟨rfl, trivial⟩ (by decide +kernel)) rfl rfl hl.1 rfl (lv_room (Nat.le_of_ble_eq_true rfl)) dX10_cellOfBiggest_5 ⟨Nat.le_of_ble_eq_true rfl, Nat.le_of_ble_eq_true rfl⟩) (fun H locs hP hD hS => ?_)
  refine lv_iconst (v := 0) hx hb dX10_cellOfBiggest_8 (by decide) ?_
  refine lv_istore_n (lv' := [(1, .int 0), (0, .ref q_this)]) hx hb dX10_cellOfBiggest_9 rfl hl (by decide) rfl (fun ls hl => ?_)
  refine lv_iconst (v := (-1)) hx hb dX10_cellOfBiggest_10 (by decide) ?_
  refine lv_istore_n (lv' := [(2, .int (-1)), (1, .int 0), (0, .ref q_this)]) hx hb dX10_cellOfBiggest_11 rfl hl (by decide) rfl (fun ls hl => ?_)
  refine lv_iconst (v := 0) hx hb dX10_cellOfBiggest_12 (by decide) ?_
  refine lv_istore_n (lv' := [(3, .int 0), (2, .int (-1)), (1, .int 0), (0, .ref q_this)]) hx hb dX10_cellOfBiggest_13 rfl hl (by decide) rfl (fun ls hl => ?_)
  exact t_L14 gFuel 0 (-1) 0 v_inLine v_line w_2 H locs hP hD hS ls (lv_sub hl [3, 2, 1, 0] rfl) h
set_option maxRecDepth 20000 in
theorem in_X10_cells_X10 : ∀ w ∈ u_ws RX10 TX10 11, w ∈ wsX10_cells := by decide +kernel
abbrev rm_X10_cells : Room := { frames := 0, cells := 0, slots := 0, locals := 0 }
set_option maxHeartbeats 4000000 in
set_option maxRecDepth 100000 in
theorem c_X10_cells (l : Launch) (D : va_G) (c : Nat → ClassId) (q_this q_air q_paste q_open q_met q_line : Nat) (v_rows : Int32) (v_columns : Int32) (v_holes : Int32) (v_out : Int32) (v_night : Int32) (v_inLine : Int32) (o_r : Int32) (h : f_X10_cells v_rows v_columns = some o_r) : gMI l yX10_cells wsX10_cells rm_X10_cells D c [.ref q_this] [(q_this, .inr (10, [.int v_rows, .int v_columns, .ref q_air, .ref q_paste, .ref q_open, .int v_holes, .int v_out, .int v_night, .ref q_met, .ref q_line, .int v_inLine]))] [(q_this, .inr (10, [.int v_rows, .int v_columns, .ref q_air, .ref q_paste, .ref q_open, .int v_holes, .int v_out, .int v_night, .ref q_met, .ref q_line, .int v_inLine]))] o_r := by
  refine gMI_of (cc := cX10_cells) (maxL := 1) (rt := (some .int)) (by decide +kernel) rfl (Nat.le_of_ble_eq_true rfl) ?_
  intro p e s m below meth co A hF hK hX hP hD hA hS ls hl
  obtain ⟨hx, hb, hr, hts, hown, hlocks, hml⟩ := id hF
  have hl : lv_has ls 1 [(0, .ref q_this)] := hl
  unfold f_X10_cells at h
  refine lv_aload_n hx hb dX10_cells_0 rfl (lv_at hl 0 rfl) ?_
  refine va_get (D := D) (ci := 10) (v := .int v_rows) (C := RX10) (T := TX10) (N := 11) hx hb hts in_X10_cells_X10 hown hK.1 hP 0 rfl rfl 0 (by decide) (hts (.fieldLink RX10 9 "PaperBubbles$Wall" "rows" "I") (List.mem_of_getElem? (i := 1) rfl)) (fun _ h9 => h9) rfl dX10_cells_1 ?_
  refine lv_aload_n hx hb dX10_cells_4 rfl (lv_at hl 0 rfl) ?_
  refine va_get (D := D) (ci := 10) (v := .int v_columns) (C := RX10) (T := TX10) (N := 11) hx hb hts in_X10_cells_X10 hown hK.1 hP 0 rfl rfl 1 (by decide) (hts (.fieldLink RX10 15 "PaperBubbles$Wall" "columns" "I") (List.mem_of_getElem? (i := 2) rfl)) (fun _ h9 => h9) rfl dX10_cells_5 ?_
  refine lv_imul hx hb dX10_cells_8 ?_
  replace h := so1 h
  subst h
  exact gIret hF hP hD hS rfl dX10_cells_9
set_option maxRecDepth 20000 in
theorem in_X10_cellsWithAir_X10 : ∀ w ∈ u_ws RX10 TX10 11, w ∈ wsX10_cellsWithAir := by decide +kernel
abbrev rm_X10_cellsWithAir : Room := { frames := 1, cells := 0, slots := 0, locals := 21 }
set_option maxHeartbeats 4000000 in
set_option maxRecDepth 100000 in
theorem c_X10_cellsWithAir (l : Launch) (D : va_G) (c : Nat → ClassId) (q_this q_air q_paste q_open q_met q_line : Nat) (v_rows : Int32) (v_columns : Int32) (v_holes : Int32) (v_out : Int32) (v_night : Int32) (v_inLine : Int32) (v_air : Nat → Int32) (o_r : Int32) (h : f_X10_cellsWithAir v_rows v_columns v_air = some o_r) : gMI l yX10_cellsWithAir wsX10_cellsWithAir rm_X10_cellsWithAir D c [.ref q_this] [(q_this, .inr (10, [.int v_rows, .int v_columns, .ref q_air, .ref q_paste, .ref q_open, .int v_holes, .int v_out, .int v_night, .ref q_met, .ref q_line, .int v_inLine])), (q_air, .inl (c 0, 25, .inl v_air))] [(q_this, .inr (10, [.int v_rows, .int v_columns, .ref q_air, .ref q_paste, .ref q_open, .int v_holes, .int v_out, .int v_night, .ref q_met, .ref q_line, .int v_inLine])), (q_air, .inl (c 0, 25, .inl v_air))] o_r := by
  refine gMI_of (cc := cX10_cellsWithAir) (maxL := 3) (rt := (some .int)) (by decide +kernel) rfl (Nat.le_of_ble_eq_true rfl) ?_
  intro p e s m below meth co A hF hK hX hP hD hA hS ls hl
  obtain ⟨hx, hb, hr, hts, hown, hlocks, hml⟩ := id hF
  have hl : lv_has ls 3 [(0, .ref q_this)] := hl
  have t_L4 : ∀ (n : Nat), ∀ (x1 : Int32) (x2 : Int32) (H : Heap) (locs : List Loc), va_P D gcl [(q_this, .inr (10, [.int v_rows, .int v_columns, .ref q_air, .ref q_paste, .ref q_open, .int v_holes, .int v_out, .int v_night, .ref q_met, .ref q_line, .int v_inLine])), (q_air, .inl (c 0, 25, .inl v_air))] H → va_D A [(q_this, .inr (10, [.int v_rows, .int v_columns, .ref q_air, .ref q_paste, .ref q_open, .int v_holes, .int v_out, .int v_night, .ref q_met, .ref q_line, .int v_inLine])), (q_air, .inl (c 0, 25, .inl v_air))] → va_S A s.heap H locs → ∀ ls, lv_has ls 3 [(0, .ref q_this), (1, .int x1), (2, .int x2)] → f_X10_cellsWithAir_L4 v_rows v_columns v_air n x1 x2 = some o_r → W p l e (headSpec wsX10_cellsWithAir rm_X10_cellsWithAir).room s m [.ref q_this].toArray below meth co H locs 0 0 (gQI D [(q_this, .inr (10, [.int v_rows, .int v_columns, .ref q_air, .ref q_paste, .ref q_open, .int v_holes, .int v_out, .int v_night, .ref q_met, .ref q_line, .int v_inLine])), (q_air, .inl (c 0, 25, .inl v_air))] o_r A below [.ref q_this] s) (F0 m 4 ls []) := by
    intro n
    induction n with
    | zero => intro x1 x2 H locs hP hD hS ls hl h; exact no_ok h
    | succ n ih =>
      intro x1 x2 H locs hP hD hS ls hl h
      rw [f_X10_cellsWithAir_L4] at h
      refine lv_iload_n hx hb dX10_cellsWithAir_4 rfl (lv_at hl 2 rfl) ?_
      refine lv_bipush (v := 25) hx hb dX10_cellsWithAir_5 (by decide) ?_
      refine lv_icmp_ge (tgt := 36) hx hb dX10_cellsWithAir_7 (by decide) (fun c_1 => ?_) (fun c_1 => ?_)
      · replace h := it_t c_1 h
        refine lv_iload_n hx hb dX10_cellsWithAir_36 rfl (lv_at hl 1 rfl) ?_
        replace h := so1 h
        subst h
        exact gIret hF hP hD hS rfl dX10_cellsWithAir_37
      · replace h := it_f c_1 h
        refine lv_aload_n hx hb dX10_cellsWithAir_10 rfl (lv_at hl 0 rfl) ?_
        refine lv_iload_n hx hb dX10_cellsWithAir_11 rfl (lv_at hl 2 rfl) ?_
        replace h := kb_ok h
        obtain ⟨r_3, hc_2, h⟩ := h
        refine gCallIr (isC := [0]) (wc := [(q_this, .inr (10, [.int v_rows, .int v_columns, .ref q_air, .ref q_paste, .ref q_open, .int v_holes, .int v_out, .int v_night, .ref q_met, .ref q_line, .int v_inLine]))]) hP hD hS hA ⟨rfl, trivial⟩ (va_runV (rm := rm_X10_has) (ws := wsX10_has) (As := [.int x2]) (rest := []) (gFix hF) (c_X10_has l D c q_this q_air q_paste q_open q_met q_line x2 v_rows v_columns v_holes v_out v_night v_inLine r_3 hc_2 H.size) (cwV 1 hts gX10_cellsWithAir_X10_has rfl rfl rfl (by decide +kernel) ⟨Nat.le_of_ble_eq_true rfl, Nat.le_of_ble_eq_true rfl⟩) (gPreV (wc := [(q_this, .inr (10, [.int v_rows, .int v_columns, .ref q_air, .ref q_paste, .ref q_open, .int v_holes, .int v_out, .int v_night, .ref q_met, .ref q_line, .int v_inLine]))]) (q := (RX10, TX10, 11)) (ci := 10) (q0 := 0) (isC := [0]) hK hX hS hA hP hD ⟨rfl, trivial⟩ (by decide +kernel) rfl rfl) rfl rfl hl.1 rfl (lv_room (Nat.le_of_ble_eq_true rfl)) dX10_cellsWithAir_12 ⟨Nat.le_of_ble_eq_true rfl, Nat.le_of_ble_eq_true rfl⟩) (fun H locs hP hS => ?_)
        refine lv_if_eq (tgt := 36) hx hb dX10_cellsWithAir_15 (by decide) (fun c_4 => ?_) (fun c_4 => ?_)
        · replace h := it_t c_4 h
          refine lv_iload_n hx hb dX10_cellsWithAir_36 rfl (lv_at hl 1 rfl) ?_
          replace h := so1 h
          subst h
          exact gIret hF hP hD hS rfl dX10_cellsWithAir_37
        · replace h := it_f c_4 h
          refine lv_aload_n hx hb dX10_cellsWithAir_18 rfl (lv_at hl 0 rfl) ?_
          refine va_get (D := D) (ci := 10) (v := .ref q_air) (C := RX10) (T := TX10) (N := 11) hx hb hts in_X10_cellsWithAir_X10 hown hK.1 hP 0 rfl rfl 2 (by decide) (hts (.fieldLink RX10 18 "PaperBubbles$Wall" "air" "[I") (List.mem_of_getElem? (i := 1) rfl)) (fun _ h9 => h9) rfl dX10_cellsWithAir_19 ?_
          refine lv_iload_n hx hb dX10_cellsWithAir_22 rfl (lv_at hl 2 rfl) ?_
          replace h := chi_ok h
          obtain ⟨hi_5, h⟩ := h
          refine va_iald hx hb hK.1 hP 1 0 rfl rfl hi_5 dX10_cellsWithAir_23 ?_
          refine lv_if_le (tgt := 30) hx hb dX10_cellsWithAir_24 (by decide) (fun c_6 => ?_) (fun c_6 => ?_)
          · replace h := it_t c_6 h
            replace h := nm_ok h
            obtain ⟨t_7, et_7, h⟩ := h
            refine lv_iinc (v := t_7) (lv' := [(2, .int t_7), (0, .ref q_this), (1, .int x1)]) hx hb dX10_cellsWithAir_30 hl (k := 2) rfl (by rw [et_7]; rfl) (by decide) rfl (fun ls hl => ?_)
            refine lv_goto (tgt := 4) hx hb dX10_cellsWithAir_33 (by decide) ?_
            exact ih x1 t_7 H locs hP hD hS ls (lv_sub hl [1, 2, 0] rfl) h
          · replace h := it_f c_6 h
            replace h := nm_ok h
            obtain ⟨t_8, et_8, h⟩ := h
            refine lv_iinc (v := t_8) (lv' := [(1, .int t_8), (0, .ref q_this), (2, .int x2)]) hx hb dX10_cellsWithAir_27 hl (k := 1) rfl (by rw [et_8]; rfl) (by decide) rfl (fun ls hl => ?_)
            replace h := nm_ok h
            obtain ⟨t_9, et_9, h⟩ := h
            refine lv_iinc (v := t_9) (lv' := [(2, .int t_9), (1, .int t_8), (0, .ref q_this)]) hx hb dX10_cellsWithAir_30 hl (k := 2) rfl (by rw [et_9]; rfl) (by decide) rfl (fun ls hl => ?_)
            refine lv_goto (tgt := 4) hx hb dX10_cellsWithAir_33 (by decide) ?_
            exact ih t_8 t_9 H locs hP hD hS ls (lv_sub hl [2, 1, 0] rfl) h
  unfold f_X10_cellsWithAir at h
  refine lv_iconst (v := 0) hx hb dX10_cellsWithAir_0 (by decide) ?_
  refine lv_istore_n (lv' := [(1, .int 0), (0, .ref q_this)]) hx hb dX10_cellsWithAir_1 rfl hl (by decide) rfl (fun ls hl => ?_)
  refine lv_iconst (v := 0) hx hb dX10_cellsWithAir_2 (by decide) ?_
  refine lv_istore_n (lv' := [(2, .int 0), (1, .int 0), (0, .ref q_this)]) hx hb dX10_cellsWithAir_3 rfl hl (by decide) rfl (fun ls hl => ?_)
  exact t_L4 gFuel 0 0 s.heap [] hP hD hS ls (lv_sub hl [2, 1, 0] rfl) h
set_option maxRecDepth 20000 in
theorem in_X10_copy_X10 : ∀ w ∈ u_ws RX10 TX10 11, w ∈ wsX10_copy := by decide +kernel
abbrev rm_X10_copy : Room := { frames := 2, cells := 0, slots := 0, locals := 81 }
set_option maxHeartbeats 4000000 in
set_option maxRecDepth 100000 in
theorem c_X10_copy (l : Launch) (D : va_G) (c : Nat → ClassId) (q_this q_p1 q_air q_paste q_open q_met q_line q_p1_air q_p1_paste q_p1_open q_p1_met q_p1_line : Nat) (v_rows : Int32) (v_columns : Int32) (v_holes : Int32) (v_out : Int32) (v_night : Int32) (v_inLine : Int32) (v_air : Nat → Int32) (v_open : Nat → Int32) (v_paste : Nat → Int32) (v_p1_rows : Int32) (v_p1_columns : Int32) (v_p1_holes : Int32) (v_p1_out : Int32) (v_p1_night : Int32) (v_p1_inLine : Int32) (v_p1_air : Nat → Int32) (v_p1_open : Nat → Int32) (v_p1_paste : Nat → Int32) (o_v_rows : Int32) (o_v_columns : Int32) (o_v_holes : Int32) (o_v_out : Int32) (o_v_night : Int32) (o_v_air : Nat → Int32) (o_v_open : Nat → Int32) (o_v_paste : Nat → Int32) (h : f_X10_copy v_rows v_columns v_holes v_out v_night v_air v_open v_paste v_p1_rows v_p1_columns v_p1_holes v_p1_out v_p1_night v_p1_air v_p1_open v_p1_paste = some (o_v_rows, o_v_columns, o_v_holes, o_v_out, o_v_night, o_v_air, o_v_open, o_v_paste)) : gMV l yX10_copy wsX10_copy rm_X10_copy D c [.ref q_this, .ref q_p1] [(q_this, .inr (10, [.int v_rows, .int v_columns, .ref q_air, .ref q_paste, .ref q_open, .int v_holes, .int v_out, .int v_night, .ref q_met, .ref q_line, .int v_inLine])), (q_air, .inl (c 0, 25, .inl v_air)), (q_open, .inl (c 0, 4, .inl v_open)), (q_paste, .inl (c 0, 25, .inl v_paste)), (q_p1, .inr (10, [.int v_p1_rows, .int v_p1_columns, .ref q_p1_air, .ref q_p1_paste, .ref q_p1_open, .int v_p1_holes, .int v_p1_out, .int v_p1_night, .ref q_p1_met, .ref q_p1_line, .int v_p1_inLine])), (q_p1_air, .inl (c 0, 25, .inl v_p1_air)), (q_p1_open, .inl (c 0, 4, .inl v_p1_open)), (q_p1_paste, .inl (c 0, 25, .inl v_p1_paste))] [(q_this, .inr (10, [.int o_v_rows, .int o_v_columns, .ref q_air, .ref q_paste, .ref q_open, .int o_v_holes, .int o_v_out, .int o_v_night, .ref q_met, .ref q_line, .int v_inLine])), (q_air, .inl (c 0, 25, .inl o_v_air)), (q_open, .inl (c 0, 4, .inl o_v_open)), (q_paste, .inl (c 0, 25, .inl o_v_paste)), (q_p1, .inr (10, [.int v_p1_rows, .int v_p1_columns, .ref q_p1_air, .ref q_p1_paste, .ref q_p1_open, .int v_p1_holes, .int v_p1_out, .int v_p1_night, .ref q_p1_met, .ref q_p1_line, .int v_p1_inLine])), (q_p1_air, .inl (c 0, 25, .inl v_p1_air)), (q_p1_open, .inl (c 0, 4, .inl v_p1_open)), (q_p1_paste, .inl (c 0, 25, .inl v_p1_paste))] := by
  refine gMV_of (cc := cX10_copy) (maxL := 2) (rt := none) (by decide +kernel) rfl (Nat.le_of_ble_eq_true rfl) ?_
  intro p e s m below meth co A hF hK hX hP hD hA hS ls hl
  obtain ⟨hx, hb, hr, hts, hown, hlocks, hml⟩ := id hF
  have hl : lv_has ls 2 [(0, .ref q_this), (1, .ref q_p1)] := hl
  unfold f_X10_copy at h
  refine lv_aload_n hx hb dX10_copy_0 rfl (lv_at hl 0 rfl) ?_
  refine lv_aload_n hx hb dX10_copy_1 rfl (lv_at hl 1 rfl) ?_
  refine va_get (D := D) (ci := 10) (v := .int v_p1_rows) (C := RX10) (T := TX10) (N := 11) hx hb hts in_X10_copy_X10 hown hK.1 hP 4 rfl rfl 0 (by decide) (hts (.fieldLink RX10 9 "PaperBubbles$Wall" "rows" "I") (List.mem_of_getElem? (i := 1) rfl)) (fun _ h9 => h9) rfl dX10_copy_2 ?_
  refine va_put (D := D) (ci := 10) (v := .int v_p1_rows) (ty := .int) (C := RX10) (T := TX10) (N := 11) hx hb hts in_X10_copy_X10 tyX10 tyX10_ok nmX10 hown hK.1 hP hD hS 0 rfl rfl 0 (by decide) (hts (.fieldLink RX10 9 "PaperBubbles$Wall" "rows" "I") (List.mem_of_getElem? (i := 1) rfl)) (fun _ h9 => h9) rfl (by decide +kernel) rfl rfl (Nat.le_of_ble_eq_true rfl) dX10_copy_5 (fun H locs hP hD hS => ?_)
  have hP : va_P D gcl [(q_this, .inr (10, [.int v_p1_rows, .int v_columns, .ref q_air, .ref q_paste, .ref q_open, .int v_holes, .int v_out, .int v_night, .ref q_met, .ref q_line, .int v_inLine])), (q_air, .inl (c 0, 25, .inl v_air)), (q_open, .inl (c 0, 4, .inl v_open)), (q_paste, .inl (c 0, 25, .inl v_paste)), (q_p1, .inr (10, [.int v_p1_rows, .int v_p1_columns, .ref q_p1_air, .ref q_p1_paste, .ref q_p1_open, .int v_p1_holes, .int v_p1_out, .int v_p1_night, .ref q_p1_met, .ref q_p1_line, .int v_p1_inLine])), (q_p1_air, .inl (c 0, 25, .inl v_p1_air)), (q_p1_open, .inl (c 0, 4, .inl v_p1_open)), (q_p1_paste, .inl (c 0, 25, .inl v_p1_paste))] H := hP
  have hD : va_D A [(q_this, .inr (10, [.int v_p1_rows, .int v_columns, .ref q_air, .ref q_paste, .ref q_open, .int v_holes, .int v_out, .int v_night, .ref q_met, .ref q_line, .int v_inLine])), (q_air, .inl (c 0, 25, .inl v_air)), (q_open, .inl (c 0, 4, .inl v_open)), (q_paste, .inl (c 0, 25, .inl v_paste)), (q_p1, .inr (10, [.int v_p1_rows, .int v_p1_columns, .ref q_p1_air, .ref q_p1_paste, .ref q_p1_open, .int v_p1_holes, .int v_p1_out, .int v_p1_night, .ref q_p1_met, .ref q_p1_line, .int v_p1_inLine])), (q_p1_air, .inl (c 0, 25, .inl v_p1_air)), (q_p1_open, .inl (c 0, 4, .inl v_p1_open)), (q_p1_paste, .inl (c 0, 25, .inl v_p1_paste))] := hD
  refine lv_aload_n hx hb dX10_copy_8 rfl (lv_at hl 0 rfl) ?_
  refine lv_aload_n hx hb dX10_copy_9 rfl (lv_at hl 1 rfl) ?_
  refine va_get (D := D) (ci := 10) (v := .int v_p1_columns) (C := RX10) (T := TX10) (N := 11) hx hb hts in_X10_copy_X10 hown hK.1 hP 4 rfl rfl 1 (by decide) (hts (.fieldLink RX10 15 "PaperBubbles$Wall" "columns" "I") (List.mem_of_getElem? (i := 2) rfl)) (fun _ h9 => h9) rfl dX10_copy_10 ?_
  refine va_put (D := D) (ci := 10) (v := .int v_p1_columns) (ty := .int) (C := RX10) (T := TX10) (N := 11) hx hb hts in_X10_copy_X10 tyX10 tyX10_ok nmX10 hown hK.1 hP hD hS 0 rfl rfl 1 (by decide) (hts (.fieldLink RX10 15 "PaperBubbles$Wall" "columns" "I") (List.mem_of_getElem? (i := 2) rfl)) (fun _ h9 => h9) rfl (by decide +kernel) rfl rfl (Nat.le_of_ble_eq_true rfl) dX10_copy_13 (fun H locs hP hD hS => ?_)
  have hP : va_P D gcl [(q_this, .inr (10, [.int v_p1_rows, .int v_p1_columns, .ref q_air, .ref q_paste, .ref q_open, .int v_holes, .int v_out, .int v_night, .ref q_met, .ref q_line, .int v_inLine])), (q_air, .inl (c 0, 25, .inl v_air)), (q_open, .inl (c 0, 4, .inl v_open)), (q_paste, .inl (c 0, 25, .inl v_paste)), (q_p1, .inr (10, [.int v_p1_rows, .int v_p1_columns, .ref q_p1_air, .ref q_p1_paste, .ref q_p1_open, .int v_p1_holes, .int v_p1_out, .int v_p1_night, .ref q_p1_met, .ref q_p1_line, .int v_p1_inLine])), (q_p1_air, .inl (c 0, 25, .inl v_p1_air)), (q_p1_open, .inl (c 0, 4, .inl v_p1_open)), (q_p1_paste, .inl (c 0, 25, .inl v_p1_paste))] H := hP
  have hD : va_D A [(q_this, .inr (10, [.int v_p1_rows, .int v_p1_columns, .ref q_air, .ref q_paste, .ref q_open, .int v_holes, .int v_out, .int v_night, .ref q_met, .ref q_line, .int v_inLine])), (q_air, .inl (c 0, 25, .inl v_air)), (q_open, .inl (c 0, 4, .inl v_open)), (q_paste, .inl (c 0, 25, .inl v_paste)), (q_p1, .inr (10, [.int v_p1_rows, .int v_p1_columns, .ref q_p1_air, .ref q_p1_paste, .ref q_p1_open, .int v_p1_holes, .int v_p1_out, .int v_p1_night, .ref q_p1_met, .ref q_p1_line, .int v_p1_inLine])), (q_p1_air, .inl (c 0, 25, .inl v_p1_air)), (q_p1_open, .inl (c 0, 4, .inl v_p1_open)), (q_p1_paste, .inl (c 0, 25, .inl v_p1_paste))] := hD
  refine lv_aload_n hx hb dX10_copy_16 rfl (lv_at hl 0 rfl) ?_
  refine lv_aload_n hx hb dX10_copy_17 rfl (lv_at hl 1 rfl) ?_
  replace h := kb_ok h
  obtain ⟨w_2, hc_1, h⟩ := h
  refine gCallV (isC := [0, 1, 4, 5]) (wc := [(q_this, .inr (10, [.int v_p1_rows, .int v_p1_columns, .ref q_air, .ref q_paste, .ref q_open, .int v_holes, .int v_out, .int v_night, .ref q_met, .ref q_line, .int v_inLine])), (q_air, .inl (c 0, 25, .inl v_air)), (q_p1, .inr (10, [.int v_p1_rows, .int v_p1_columns, .ref q_p1_air, .ref q_p1_paste, .ref q_p1_open, .int v_p1_holes, .int v_p1_out, .int v_p1_night, .ref q_p1_met, .ref q_p1_line, .int v_p1_inLine])), (q_p1_air, .inl (c 0, 25, .inl v_p1_air))]) (w1 := [(q_this, .inr (10, [.int v_p1_rows, .int v_p1_columns, .ref q_air, .ref q_paste, .ref q_open, .int v_holes, .int v_out, .int v_night, .ref q_met, .ref q_line, .int v_inLine])), (q_air, .inl (c 0, 25, .inl w_2)), (q_p1, .inr (10, [.int v_p1_rows, .int v_p1_columns, .ref q_p1_air, .ref q_p1_paste, .ref q_p1_open, .int v_p1_holes, .int v_p1_out, .int v_p1_night, .ref q_p1_met, .ref q_p1_line, .int v_p1_inLine])), (q_p1_air, .inl (c 0, 25, .inl v_p1_air))]) (ws2 := [(q_this, .inr (10, [.int v_p1_rows, .int v_p1_columns, .ref q_air, .ref q_paste, .ref q_open, .int v_holes, .int v_out, .int v_night, .ref q_met, .ref q_line, .int v_inLine])), (q_air, .inl (c 0, 25, .inl w_2)), (q_open, .inl (c 0, 4, .inl v_open)), (q_paste, .inl (c 0, 25, .inl v_paste)), (q_p1, .inr (10, [.int v_p1_rows, .int v_p1_columns, .ref q_p1_air, .ref q_p1_paste, .ref q_p1_open, .int v_p1_holes, .int v_p1_out, .int v_p1_night, .ref q_p1_met, .ref q_p1_line, .int v_p1_inLine])), (q_p1_air, .inl (c 0, 25, .inl v_p1_air)), (q_p1_open, .inl (c 0, 4, .inl v_p1_open)), (q_p1_paste, .inl (c 0, 25, .inl v_p1_paste))]) (ms := [(some 0), (some 1), none, none, (some 2), (some 3), none, none]) hP hD hS hA ⟨rfl, rfl, rfl, rfl, trivial⟩ (by decide +kernel) ⟨rfl, rfl, rfl, rfl, rfl, rfl, rfl, rfl, trivial⟩ (va_runV (rm := rm_X10_airAs) (ws := wsX10_airAs) (As := [.ref q_p1]) (rest := []) (gFix hF) (c_X10_airAs l D c q_this q_p1 q_air q_paste q_open q_met q_line q_p1_air q_p1_paste q_p1_open q_p1_met q_p1_line v_p1_rows v_p1_columns v_holes v_out v_night v_inLine v_air v_p1_rows v_p1_columns v_p1_holes v_p1_out v_p1_night v_p1_inLine v_p1_air w_2 hc_1 H.size) (cwV 1 hts gX10_copy_X10_airAs rfl rfl rfl (by decide +kernel) ⟨Nat.le_of_ble_eq_true rfl, Nat.le_of_ble_eq_true rfl⟩) (gPreV (wc := [(q_this, .inr (10, [.int v_p1_rows, .int v_p1_columns, .ref q_air, .ref q_paste, .ref q_open, .int v_holes, .int v_out, .int v_night, .ref q_met, .ref q_line, .int v_inLine])), (q_air, .inl (c 0, 25, .inl v_air)), (q_p1, .inr (10, [.int v_p1_rows, .int v_p1_columns, .ref q_p1_air, .ref q_p1_paste, .ref q_p1_open, .int v_p1_holes, .int v_p1_out, .int v_p1_night, .ref q_p1_met, .ref q_p1_line, .int v_p1_inLine])), (q_p1_air, .inl (c 0, 25, .inl v_p1_air))]) (q := (RX10, TX10, 11)) (ci := 10) (q0 := 0) (isC := [0, 1, 4, 5]) hK hX hS hA hP hD ⟨rfl, rfl, rfl, rfl, trivial⟩ (by decide +kernel) rfl rfl) rfl rfl hl.1 rfl (lv_room (Nat.le_of_ble_eq_true rfl)) dX10_copy_18 ⟨Nat.le_of_ble_eq_true rfl, Nat.le_of_ble_eq_true rfl⟩) (fun H locs hP hD hS => ?_)
  refine lv_aload_n hx hb dX10_copy_21 rfl (lv_at hl 1 rfl) ?_
  refine va_get (D := D) (ci := 10) (v := .ref q_p1_paste) (C := RX10) (T := TX10) (N := 11) hx hb hts in_X10_copy_X10 hown hK.1 hP 4 rfl rfl 3 (by decide) (hts (.fieldLink RX10 22 "PaperBubbles$Wall" "paste" "[I") (List.mem_of_getElem? (i := 3) rfl)) (fun _ h9 => h9) rfl dX10_copy_22 ?_
  refine lv_iconst (v := 0) hx hb dX10_copy_25 (by decide) ?_
  refine lv_aload_n hx hb dX10_copy_26 rfl (lv_at hl 0 rfl) ?_
  refine va_get (D := D) (ci := 10) (v := .ref q_paste) (C := RX10) (T := TX10) (N := 11) hx hb hts in_X10_copy_X10 hown hK.1 hP 0 rfl rfl 3 (by decide) (hts (.fieldLink RX10 22 "PaperBubbles$Wall" "paste" "[I") (List.mem_of_getElem? (i := 3) rfl)) (fun _ h9 => h9) rfl dX10_copy_27 ?_
  refine lv_iconst (v := 0) hx hb dX10_copy_30 (by decide) ?_
  refine lv_bipush (v := 25) hx hb dX10_copy_31 (by decide) ?_
  replace h := chc_ok h
  obtain ⟨hz_3, hz_4, hz_5, hz_6, hz_7, h⟩ := h
  replace h := nm_ok h
  obtain ⟨w_8, ew_8, h⟩ := h
  refine va_copyi hx hb (by rw [hml]; exact hl.1.symm) hown (hts (.methodLink RX10 44 arraycopyName) (List.mem_of_getElem? (i := 4) rfl)) (hts (.native arraycopyName) (List.mem_of_getElem? (i := 5) rfl)) (hts (.static arraycopyName) (List.mem_of_getElem? (i := 6) rfl)) (hts (.initialized "java/lang/System") (List.mem_of_getElem? (i := 7) rfl)) hK.1 hP hD hS 7 3 0 0 rfl rfl rfl rfl rfl hz_3 hz_4 hz_5 hz_6 hz_7 (fun _ _ => rfl) (Nat.le_of_ble_eq_true rfl) (by decide +kernel) dX10_copy_33 (fun H locs hP hD hS => ?_)
  have hP : va_P D gcl [(q_this, .inr (10, [.int v_p1_rows, .int v_p1_columns, .ref q_air, .ref q_paste, .ref q_open, .int v_holes, .int v_out, .int v_night, .ref q_met, .ref q_line, .int v_inLine])), (q_air, .inl (c 0, 25, .inl w_2)), (q_open, .inl (c 0, 4, .inl v_open)), (q_paste, .inl (c 0, 25, .inl w_8)), (q_p1, .inr (10, [.int v_p1_rows, .int v_p1_columns, .ref q_p1_air, .ref q_p1_paste, .ref q_p1_open, .int v_p1_holes, .int v_p1_out, .int v_p1_night, .ref q_p1_met, .ref q_p1_line, .int v_p1_inLine])), (q_p1_air, .inl (c 0, 25, .inl v_p1_air)), (q_p1_open, .inl (c 0, 4, .inl v_p1_open)), (q_p1_paste, .inl (c 0, 25, .inl v_p1_paste))] H := by subst ew_8; exact hP
  have hD : va_D A [(q_this, .inr (10, [.int v_p1_rows, .int v_p1_columns, .ref q_air, .ref q_paste, .ref q_open, .int v_holes, .int v_out, .int v_night, .ref q_met, .ref q_line, .int v_inLine])), (q_air, .inl (c 0, 25, .inl w_2)), (q_open, .inl (c 0, 4, .inl v_open)), (q_paste, .inl (c 0, 25, .inl w_8)), (q_p1, .inr (10, [.int v_p1_rows, .int v_p1_columns, .ref q_p1_air, .ref q_p1_paste, .ref q_p1_open, .int v_p1_holes, .int v_p1_out, .int v_p1_night, .ref q_p1_met, .ref q_p1_line, .int v_p1_inLine])), (q_p1_air, .inl (c 0, 25, .inl v_p1_air)), (q_p1_open, .inl (c 0, 4, .inl v_p1_open)), (q_p1_paste, .inl (c 0, 25, .inl v_p1_paste))] := by subst ew_8; exact hD
  refine lv_aload_n hx hb dX10_copy_36 rfl (lv_at hl 1 rfl) ?_
  refine va_get (D := D) (ci := 10) (v := .ref q_p1_open) (C := RX10) (T := TX10) (N := 11) hx hb hts in_X10_copy_X10 hown hK.1 hP 4 rfl rfl 4 (by decide) (hts (.fieldLink RX10 25 "PaperBubbles$Wall" "open" "[I") (List.mem_of_getElem? (i := 8) rfl)) (fun _ h9 => h9) rfl dX10_copy_37 ?_
  refine lv_iconst (v := 0) hx hb dX10_copy_40 (by decide) ?_
  refine lv_aload_n hx hb dX10_copy_41 rfl (lv_at hl 0 rfl) ?_
  refine va_get (D := D) (ci := 10) (v := .ref q_open) (C := RX10) (T := TX10) (N := 11) hx hb hts in_X10_copy_X10 hown hK.1 hP 0 rfl rfl 4 (by decide) (hts (.fieldLink RX10 25 "PaperBubbles$Wall" "open" "[I") (List.mem_of_getElem? (i := 8) rfl)) (fun _ h9 => h9) rfl dX10_copy_42 ?_
  refine lv_iconst (v := 0) hx hb dX10_copy_45 (by decide) ?_
  refine lv_iconst (v := 4) hx hb dX10_copy_46 (by decide) ?_
  replace h := chc_ok h
  obtain ⟨hz_9, hz_10, hz_11, hz_12, hz_13, h⟩ := h
  replace h := nm_ok h
  obtain ⟨w_14, ew_14, h⟩ := h
  refine va_copyi hx hb (by rw [hml]; exact hl.1.symm) hown (hts (.methodLink RX10 44 arraycopyName) (List.mem_of_getElem? (i := 4) rfl)) (hts (.native arraycopyName) (List.mem_of_getElem? (i := 5) rfl)) (hts (.static arraycopyName) (List.mem_of_getElem? (i := 6) rfl)) (hts (.initialized "java/lang/System") (List.mem_of_getElem? (i := 7) rfl)) hK.1 hP hD hS 6 2 0 0 rfl rfl rfl rfl rfl hz_9 hz_10 hz_11 hz_12 hz_13 (fun _ _ => rfl) (Nat.le_of_ble_eq_true rfl) (by decide +kernel) dX10_copy_47 (fun H locs hP hD hS => ?_)
  have hP : va_P D gcl [(q_this, .inr (10, [.int v_p1_rows, .int v_p1_columns, .ref q_air, .ref q_paste, .ref q_open, .int v_holes, .int v_out, .int v_night, .ref q_met, .ref q_line, .int v_inLine])), (q_air, .inl (c 0, 25, .inl w_2)), (q_open, .inl (c 0, 4, .inl w_14)), (q_paste, .inl (c 0, 25, .inl w_8)), (q_p1, .inr (10, [.int v_p1_rows, .int v_p1_columns, .ref q_p1_air, .ref q_p1_paste, .ref q_p1_open, .int v_p1_holes, .int v_p1_out, .int v_p1_night, .ref q_p1_met, .ref q_p1_line, .int v_p1_inLine])), (q_p1_air, .inl (c 0, 25, .inl v_p1_air)), (q_p1_open, .inl (c 0, 4, .inl v_p1_open)), (q_p1_paste, .inl (c 0, 25, .inl v_p1_paste))] H := by subst ew_14; exact hP
  have hD : va_D A [(q_this, .inr (10, [.int v_p1_rows, .int v_p1_columns, .ref q_air, .ref q_paste, .ref q_open, .int v_holes, .int v_out, .int v_night, .ref q_met, .ref q_line, .int v_inLine])), (q_air, .inl (c 0, 25, .inl w_2)), (q_open, .inl (c 0, 4, .inl w_14)), (q_paste, .inl (c 0, 25, .inl w_8)), (q_p1, .inr (10, [.int v_p1_rows, .int v_p1_columns, .ref q_p1_air, .ref q_p1_paste, .ref q_p1_open, .int v_p1_holes, .int v_p1_out, .int v_p1_night, .ref q_p1_met, .ref q_p1_line, .int v_p1_inLine])), (q_p1_air, .inl (c 0, 25, .inl v_p1_air)), (q_p1_open, .inl (c 0, 4, .inl v_p1_open)), (q_p1_paste, .inl (c 0, 25, .inl v_p1_paste))] := by subst ew_14; exact hD
  refine lv_aload_n hx hb dX10_copy_50 rfl (lv_at hl 0 rfl) ?_
  refine lv_aload_n hx hb dX10_copy_51 rfl (lv_at hl 1 rfl) ?_
  refine va_get (D := D) (ci := 10) (v := .int v_p1_holes) (C := RX10) (T := TX10) (N := 11) hx hb hts in_X10_copy_X10 hown hK.1 hP 4 rfl rfl 5 (by decide) (hts (.fieldLink RX10 50 "PaperBubbles$Wall" "holes" "I") (List.mem_of_getElem? (i := 9) rfl)) (fun _ h9 => h9) rfl dX10_copy_52 ?_
  refine va_put (D := D) (ci := 10) (v := .int v_p1_holes) (ty := .int) (C := RX10) (T := TX10) (N := 11) hx hb hts in_X10_copy_X10 tyX10 tyX10_ok nmX10 hown hK.1 hP hD hS 0 rfl rfl 5 (by decide) (hts (.fieldLink RX10 50 "PaperBubbles$Wall" "holes" "I") (List.mem_of_getElem? (i := 9) rfl)) (fun _ h9 => h9) rfl (by decide +kernel) rfl rfl (Nat.le_of_ble_eq_true rfl) dX10_copy_55 (fun H locs hP hD hS => ?_)
  have hP : va_P D gcl [(q_this, .inr (10, [.int v_p1_rows, .int v_p1_columns, .ref q_air, .ref q_paste, .ref q_open, .int v_p1_holes, .int v_out, .int v_night, .ref q_met, .ref q_line, .int v_inLine])), (q_air, .inl (c 0, 25, .inl w_2)), (q_open, .inl (c 0, 4, .inl w_14)), (q_paste, .inl (c 0, 25, .inl w_8)), (q_p1, .inr (10, [.int v_p1_rows, .int v_p1_columns, .ref q_p1_air, .ref q_p1_paste, .ref q_p1_open, .int v_p1_holes, .int v_p1_out, .int v_p1_night, .ref q_p1_met, .ref q_p1_line, .int v_p1_inLine])), (q_p1_air, .inl (c 0, 25, .inl v_p1_air)), (q_p1_open, .inl (c 0, 4, .inl v_p1_open)), (q_p1_paste, .inl (c 0, 25, .inl v_p1_paste))] H := hP
  have hD : va_D A [(q_this, .inr (10, [.int v_p1_rows, .int v_p1_columns, .ref q_air, .ref q_paste, .ref q_open, .int v_p1_holes, .int v_out, .int v_night, .ref q_met, .ref q_line, .int v_inLine])), (q_air, .inl (c 0, 25, .inl w_2)), (q_open, .inl (c 0, 4, .inl w_14)), (q_paste, .inl (c 0, 25, .inl w_8)), (q_p1, .inr (10, [.int v_p1_rows, .int v_p1_columns, .ref q_p1_air, .ref q_p1_paste, .ref q_p1_open, .int v_p1_holes, .int v_p1_out, .int v_p1_night, .ref q_p1_met, .ref q_p1_line, .int v_p1_inLine])), (q_p1_air, .inl (c 0, 25, .inl v_p1_air)), (q_p1_open, .inl (c 0, 4, .inl v_p1_open)), (q_p1_paste, .inl (c 0, 25, .inl v_p1_paste))] := hD
  refine lv_aload_n hx hb dX10_copy_58 rfl (lv_at hl 0 rfl) ?_
  refine lv_aload_n hx hb dX10_copy_59 rfl (lv_at hl 1 rfl) ?_
  refine va_get (D := D) (ci := 10) (v := .int v_p1_out) (C := RX10) (T := TX10) (N := 11) hx hb hts in_X10_copy_X10 hown hK.1 hP 4 rfl rfl 6 (by decide) (hts (.fieldLink RX10 53 "PaperBubbles$Wall" "out" "I") (List.mem_of_getElem? (i := 10) rfl)) (fun _ h9 => h9) rfl dX10_copy_60 ?_
  refine va_put (D := D) (ci := 10) (v := .int v_p1_out) (ty := .int) (C := RX10) (T := TX10) (N := 11) hx hb hts in_X10_copy_X10 tyX10 tyX10_ok nmX10 hown hK.1 hP hD hS 0 rfl rfl 6 (by decide) (hts (.fieldLink RX10 53 "PaperBubbles$Wall" "out" "I") (List.mem_of_getElem? (i := 10) rfl)) (fun _ h9 => h9) rfl (by decide +kernel) rfl rfl (Nat.le_of_ble_eq_true rfl) dX10_copy_63 (fun H locs hP hD hS => ?_)
  have hP : va_P D gcl [(q_this, .inr (10, [.int v_p1_rows, .int v_p1_columns, .ref q_air, .ref q_paste, .ref q_open, .int v_p1_holes, .int v_p1_out, .int v_night, .ref q_met, .ref q_line, .int v_inLine])), (q_air, .inl (c 0, 25, .inl w_2)), (q_open, .inl (c 0, 4, .inl w_14)), (q_paste, .inl (c 0, 25, .inl w_8)), (q_p1, .inr (10, [.int v_p1_rows, .int v_p1_columns, .ref q_p1_air, .ref q_p1_paste, .ref q_p1_open, .int v_p1_holes, .int v_p1_out, .int v_p1_night, .ref q_p1_met, .ref q_p1_line, .int v_p1_inLine])), (q_p1_air, .inl (c 0, 25, .inl v_p1_air)), (q_p1_open, .inl (c 0, 4, .inl v_p1_open)), (q_p1_paste, .inl (c 0, 25, .inl v_p1_paste))] H := hP
  have hD : va_D A [(q_this, .inr (10, [.int v_p1_rows, .int v_p1_columns, .ref q_air, .ref q_paste, .ref q_open, .int v_p1_holes, .int v_p1_out, .int v_night, .ref q_met, .ref q_line, .int v_inLine])), (q_air, .inl (c 0, 25, .inl w_2)), (q_open, .inl (c 0, 4, .inl w_14)), (q_paste, .inl (c 0, 25, .inl w_8)), (q_p1, .inr (10, [.int v_p1_rows, .int v_p1_columns, .ref q_p1_air, .ref q_p1_paste, .ref q_p1_open, .int v_p1_holes, .int v_p1_out, .int v_p1_night, .ref q_p1_met, .ref q_p1_line, .int v_p1_inLine])), (q_p1_air, .inl (c 0, 25, .inl v_p1_air)), (q_p1_open, .inl (c 0, 4, .inl v_p1_open)), (q_p1_paste, .inl (c 0, 25, .inl v_p1_paste))] := hD
  refine lv_aload_n hx hb dX10_copy_66 rfl (lv_at hl 0 rfl) ?_
  refine lv_aload_n hx hb dX10_copy_67 rfl (lv_at hl 1 rfl) ?_
  refine va_get (D := D) (ci := 10) (v := .int v_p1_night) (C := RX10) (T := TX10) (N := 11) hx hb hts in_X10_copy_X10 hown hK.1 hP 4 rfl rfl 7 (by decide) (hts (.fieldLink RX10 56 "PaperBubbles$Wall" "night" "I") (List.mem_of_getElem? (i := 11) rfl)) (fun _ h9 => h9) rfl dX10_copy_68 ?_
  refine va_put (D := D) (ci := 10) (v := .int v_p1_night) (ty := .int) (C := RX10) (T := TX10) (N := 11) hx hb hts in_X10_copy_X10 tyX10 tyX10_ok nmX10 hown hK.1 hP hD hS 0 rfl rfl 7 (by decide) (hts (.fieldLink RX10 56 "PaperBubbles$Wall" "night" "I") (List.mem_of_getElem? (i := 11) rfl)) (fun _ h9 => h9) rfl (by decide +kernel) rfl rfl (Nat.le_of_ble_eq_true rfl) dX10_copy_71 (fun H locs hP hD hS => ?_)
  have hP : va_P D gcl [(q_this, .inr (10, [.int v_p1_rows, .int v_p1_columns, .ref q_air, .ref q_paste, .ref q_open, .int v_p1_holes, .int v_p1_out, .int v_p1_night, .ref q_met, .ref q_line, .int v_inLine])), (q_air, .inl (c 0, 25, .inl w_2)), (q_open, .inl (c 0, 4, .inl w_14)), (q_paste, .inl (c 0, 25, .inl w_8)), (q_p1, .inr (10, [.int v_p1_rows, .int v_p1_columns, .ref q_p1_air, .ref q_p1_paste, .ref q_p1_open, .int v_p1_holes, .int v_p1_out, .int v_p1_night, .ref q_p1_met, .ref q_p1_line, .int v_p1_inLine])), (q_p1_air, .inl (c 0, 25, .inl v_p1_air)), (q_p1_open, .inl (c 0, 4, .inl v_p1_open)), (q_p1_paste, .inl (c 0, 25, .inl v_p1_paste))] H := hP
  have hD : va_D A [(q_this, .inr (10, [.int v_p1_rows, .int v_p1_columns, .ref q_air, .ref q_paste, .ref q_open, .int v_p1_holes, .int v_p1_out, .int v_p1_night, .ref q_met, .ref q_line, .int v_inLine])), (q_air, .inl (c 0, 25, .inl w_2)), (q_open, .inl (c 0, 4, .inl w_14)), (q_paste, .inl (c 0, 25, .inl w_8)), (q_p1, .inr (10, [.int v_p1_rows, .int v_p1_columns, .ref q_p1_air, .ref q_p1_paste, .ref q_p1_open, .int v_p1_holes, .int v_p1_out, .int v_p1_night, .ref q_p1_met, .ref q_p1_line, .int v_p1_inLine])), (q_p1_air, .inl (c 0, 25, .inl v_p1_air)), (q_p1_open, .inl (c 0, 4, .inl v_p1_open)), (q_p1_paste, .inl (c 0, 25, .inl v_p1_paste))] := hD
  replace h := so8 h
  obtain ⟨z0, z1, z2, z3, z4, z5, z6, z7⟩ := h
  subst z0 z1 z2 z3 z4 z5 z6 z7
  exact gVret hF hP hD hS dX10_copy_74
set_option maxRecDepth 20000 in
theorem in_X10_countBubbles_X10 : ∀ w ∈ u_ws RX10 TX10 11, w ∈ wsX10_countBubbles := by decide +kernel
abbrev rm_X10_countBubbles : Room := { frames := 4, cells := 0, slots := 0, locals := 89 }
set_option maxHeartbeats 4000000 in
set_option maxRecDepth 100000 in
theorem c_X10_countBubbles (l : Launch) (D : va_G) (c : Nat → ClassId) (q_this q_air q_paste q_open q_met q_line : Nat) (v_rows : Int32) (v_columns : Int32) (v_holes : Int32) (v_out : Int32) (v_night : Int32) (v_inLine : Int32) (v_air : Nat → Int32) (v_line : Nat → Int32) (v_met : Nat → Int32) (o_r : Int32) (o_v_inLine : Int32) (o_v_line : Nat → Int32) (o_v_met : Nat → Int32) (h : f_X10_countBubbles v_rows v_columns v_inLine v_air v_line v_met = some (o_r, o_v_inLine, o_v_line, o_v_met)) : gMI l yX10_countBubbles wsX10_countBubbles rm_X10_countBubbles D c [.ref q_this] [(q_this, .inr (10, [.int v_rows, .int v_columns, .ref q_air, .ref q_paste, .ref q_open, .int v_holes, .int v_out, .int v_night, .ref q_met, .ref q_line, .int v_inLine])), (q_air, .inl (c 0, 25, .inl v_air)), (q_line, .inl (c 0, 25, .inl v_line)), (q_met, .inl (c 0, 25, .inl v_met))] [(q_this, .inr (10, [.int v_rows, .int v_columns, .ref q_air, .ref q_paste, .ref q_open, .int v_holes, .int v_out, .int v_night, .ref q_met, .ref q_line, .int o_v_inLine])), (q_air, .inl (c 0, 25, .inl v_air)), (q_line, .inl (c 0, 25, .inl o_v_line)), (q_met, .inl (c 0, 25, .inl o_v_met))] o_r := by
  refine gMI_of (cc := cX10_countBubbles) (maxL := 3) (rt := (some .int)) (by decide +kernel) rfl (Nat.le_of_ble_eq_true rfl) ?_
  intro p e s m below meth co A hF hK hX hP hD hA hS ls hl
  obtain ⟨hx, hb, hr, hts, hown, hlocks, hml⟩ := id hF
  have hl : lv_has ls 3 [(0, .ref q_this)] := hl
  have t_L12 : ∀ (n : Nat), ∀ (x1 : Int32) (x2 : Int32) (v_inLine : Int32) (v_line : Nat → Int32) (v_met : Nat → Int32) (H : Heap) (locs : List Loc), va_P D gcl [(q_this, .inr (10, [.int v_rows, .int v_columns, .ref q_air, .ref q_paste, .ref q_open, .int v_holes, .int v_out, .int v_night, .ref q_met, .ref q_line, .int v_inLine])), (q_air, .inl (c 0, 25, .inl v_air)), (q_line, .inl (c 0, 25, .inl v_line)), (q_met, .inl (c 0, 25, .inl v_met))] H → va_D A [(q_this, .inr (10, [.int v_rows, .int v_columns, .ref q_air, .ref q_paste, .ref q_open, .int v_holes, .int v_out, .int v_night, .ref q_met, .ref q_line, .int v_inLine])), (q_air, .inl (c 0, 25, .inl v_air)), (q_line, .inl (c 0, 25, .inl v_line)), (q_met, .inl (c 0, 25, .inl v_met))] → va_S A s.heap H locs → ∀ ls, lv_has ls 3 [(0, .ref q_this), (1, .int x1), (2, .int x2)] → f_X10_countBubbles_L12 v_rows v_columns v_air n x1 x2 v_inLine v_line v_met = some (o_r, o_v_inLine, o_v_line, o_v_met) → W p l e (headSpec wsX10_countBubbles rm_X10_countBubbles).room s m [.ref q_this].toArray below meth co H locs 0 0 (gQI D [(q_this, .inr (10, [.int v_rows, .int v_columns, .ref q_air, .ref q_paste, .ref q_open, .int v_holes, .int v_out, .int v_night, .ref q_met, .ref q_line, .int o_v_inLine])), (q_air, .inl (c 0, 25, .inl v_air)), (q_line, .inl (c 0, 25, .inl o_v_line)), (q_met, .inl (c 0, 25, .inl o_v_met))] o_r A below [.ref q_this] s) (F0 m 12 ls []) := by
    intro n
    induction n with
    | zero => intro x1 x2 v_inLine v_line v_met H locs hP hD hS ls hl h; exact no_ok h
    | succ n ih =>
      intro x1 x2 v_inLine v_line v_met H locs hP hD hS ls hl h
      rw [f_X10_countBubbles_L12] at h
      refine lv_iload_n hx hb dX10_countBubbles_12 rfl (lv_at hl 2 rfl) ?_
      refine lv_bipush (v := 25) hx hb dX10_countBubbles_13 (by decide) ?_
      refine lv_icmp_ge (tgt := 43) hx hb dX10_countBubbles_15 (by decide) (fun c_3 => ?_) (fun c_3 => ?_)
      · replace h := it_t c_3 h
        refine lv_iload_n hx hb dX10_countBubbles_43 rfl (lv_at hl 1 rfl) ?_
        replace h := so4 h
        obtain ⟨z0, z1, z2, z3⟩ := h
        subst z0 z1 z2 z3
        exact gIret hF hP hD hS rfl dX10_countBubbles_44
      · replace h := it_f c_3 h
        refine lv_aload_n hx hb dX10_countBubbles_18 rfl (lv_at hl 0 rfl) ?_
        refine lv_iload_n hx hb dX10_countBubbles_19 rfl (lv_at hl 2 rfl) ?_
        replace h := kb_ok h
        obtain ⟨r_5, hc_4, h⟩ := h
        refine gCallIr (isC := [0]) (wc := [(q_this, .inr (10, [.int v_rows, .int v_columns, .ref q_air, .ref q_paste, .ref q_open, .int v_holes, .int v_out, .int v_night, .ref q_met, .ref q_line, .int v_inLine]))]) hP hD hS hA ⟨rfl, trivial⟩ (va_runV (rm := rm_X10_has) (ws := wsX10_has) (As := [.int x2]) (rest := []) (gFix hF) (c_X10_has l D c q_this q_air q_paste q_open q_met q_line x2 v_rows v_columns v_holes v_out v_night v_inLine r_5 hc_4 H.size) (cwV 1 hts gX10_countBubbles_X10_has rfl rfl rfl (by decide +kernel) ⟨Nat.le_of_ble_eq_true rfl, Nat.le_of_ble_eq_true rfl⟩) (gPreV (wc := [(q_this, .inr (10, [.int v_rows, .int v_columns, .ref q_air, .ref q_paste, .ref q_open, .int v_holes, .int v_out, .int v_night, .ref q_met, .ref q_line, .int v_inLine]))]) (q := (RX10, TX10, 11)) (ci := 10) (q0 := 0) (isC := [0]) hK hX hS hA hP hD ⟨rfl, trivial⟩ (by decide +kernel) rfl rfl) rfl rfl hl.1 rfl (lv_room (Nat.le_of_ble_eq_true rfl)) dX10_countBubbles_20 ⟨Nat.le_of_ble_eq_true rfl, Nat.le_of_ble_eq_true rfl⟩) (fun H locs hP hS => ?_)
        refine lv_if_eq (tgt := 43) hx hb dX10_countBubbles_23 (by decide) (fun c_6 => ?_) (fun c_6 => ?_)
        · replace h := it_t c_6 h
          refine lv_iload_n hx hb dX10_countBubbles_43 rfl (lv_at hl 1 rfl) ?_
          replace h := so4 h
          obtain ⟨z0, z1, z2, z3⟩ := h
          subst z0 z1 z2 z3
          exact gIret hF hP hD hS rfl dX10_countBubbles_44
        · replace h := it_f c_6 h
          refine lv_aload_n hx hb dX10_countBubbles_26 rfl (lv_at hl 0 rfl) ?_
          refine lv_iload_n hx hb dX10_countBubbles_27 rfl (lv_at hl 2 rfl) ?_
          replace h := kb4_ok h
          obtain ⟨r_8, w_9, w_10, w_11, hc_7, h⟩ := h
          refine gCallI (isC := [0, 1, 2, 3]) (wc := [(q_this, .inr (10, [.int v_rows, .int v_columns, .ref q_air, .ref q_paste, .ref q_open, .int v_holes, .int v_out, .int v_night, .ref q_met, .ref q_line, .int v_inLine])), (q_air, .inl (c 0, 25, .inl v_air)), (q_line, .inl (c 0, 25, .inl v_line)), (q_met, .inl (c 0, 25, .inl v_met))]) (w1 := [(q_this, .inr (10, [.int v_rows, .int v_columns, .ref q_air, .ref q_paste, .ref q_open, .int v_holes, .int v_out, .int v_night, .ref q_met, .ref q_line, .int w_9])), (q_air, .inl (c 0, 25, .inl v_air)), (q_line, .inl (c 0, 25, .inl w_10)), (q_met, .inl (c 0, 25, .inl w_11))]) (ws2 := [(q_this, .inr (10, [.int v_rows, .int v_columns, .ref q_air, .ref q_paste, .ref q_open, .int v_holes, .int v_out, .int v_night, .ref q_met, .ref q_line, .int w_9])), (q_air, .inl (c 0, 25, .inl v_air)), (q_line, .inl (c 0, 25, .inl w_10)), (q_met, .inl (c 0, 25, .inl w_11))]) (ms := [(some 0), (some 1), (some 2), (some 3)]) hP hD hS hA ⟨rfl, rfl, rfl, rfl, trivial⟩ (by decide +kernel) ⟨rfl, rfl, rfl, rfl, trivial⟩ (va_runV (rm := rm_X10_meetBubble) (ws := wsX10_meetBubble) (As := [.int x2]) (rest := []) (gFix hF) (c_X10_meetBubble l D c q_this q_air q_paste q_open q_met q_line x2 v_rows v_columns v_holes v_out v_night v_inLine v_air v_line v_met r_8 w_9 w_10 w_11 hc_7 H.size) (cwV 1 hts gX10_countBubbles_X10_meetBubble rfl rfl rfl (by decide +kernel) ⟨Nat.le_of_ble_eq_true rfl, Nat.le_of_ble_eq_true rfl⟩) (gPreV (wc := [(q_this, .inr (10, [.int v_rows, .int v_columns, .ref q_air, .ref q_paste, .ref q_open, .int v_holes, .int v_out, .int v_night, .ref q_met, .ref q_line, .int v_inLine])), (q_air, .inl (c 0, 25, .inl v_air)), (q_line, .inl (c 0, 25, .inl v_line)), (q_met, .inl (c 0, 25, .inl v_met))]) (q := (RX10, TX10, 11)) (ci := 10) (q0 := 0) (isC := [0, 1, 2, 3]) hK hX hS hA hP hD ⟨rfl, rfl, rfl, rfl, trivial⟩ (by decide +kernel) rfl rfl) rfl rfl hl.1 rfl (lv_room (Nat.le_of_ble_eq_true rfl)) dX10_countBubbles_28 ⟨Nat.le_of_ble_eq_true rfl, Nat.le_of_ble_eq_true rfl⟩) (fun H locs hP hD hS => ?_)
          refine lv_if_le (tgt := 37) hx hb dX10_countBubbles_31 (by decide) (fun c_12 => ?_) (fun c_12 => ?_)
          · replace h := it_t c_12 h
            replace h := nm_ok h
            obtain ⟨t_13, et_13, h⟩ := h
            refine lv_iinc (v := t_13) (lv' := [(2, .int t_13), (0, .ref q_this), (1, .int x1)]) hx hb dX10_countBubbles_37 hl (k := 2) rfl (by rw [et_13]; rfl) (by decide) rfl (fun ls hl => ?_)
            refine lv_goto (tgt := 12) hx hb dX10_countBubbles_40 (by decide) ?_
            exact ih x1 t_13 w_9 w_10 w_11 H locs hP hD hS ls (lv_sub hl [1, 2, 0] rfl) h
          · replace h := it_f c_12 h
            replace h := nm_ok h
            obtain ⟨t_14, et_14, h⟩ := h
            refine lv_iinc (v := t_14) (lv' := [(1, .int t_14), (0, .ref q_this), (2, .int x2)]) hx hb dX10_countBubbles_34 hl (k := 1) rfl (by rw [et_14]; rfl) (by decide) rfl (fun ls hl => ?_)
            replace h := nm_ok h
            obtain ⟨t_15, et_15, h⟩ := h
            refine lv_iinc (v := t_15) (lv' := [(2, .int t_15), (1, .int t_14), (0, .ref q_this)]) hx hb dX10_countBubbles_37 hl (k := 2) rfl (by rw [et_15]; rfl) (by decide) rfl (fun ls hl => ?_)
            refine lv_goto (tgt := 12) hx hb dX10_countBubbles_40 (by decide) ?_
            exact ih t_14 t_15 w_9 w_10 w_11 H locs hP hD hS ls (lv_sub hl [2, 1, 0] rfl) h
  unfold f_X10_countBubbles at h
  refine lv_aload_n hx hb dX10_countBubbles_0 rfl (lv_at hl 0 rfl) ?_
  refine va_get (D := D) (ci := 10) (v := .ref q_met) (C := RX10) (T := TX10) (N := 11) hx hb hts in_X10_countBubbles_X10 hown hK.1 hP 0 rfl rfl 8 (by decide) (hts (.fieldLink RX10 28 "PaperBubbles$Wall" "met" "[I") (List.mem_of_getElem? (i := 1) rfl)) (fun _ h9 => h9) rfl dX10_countBubbles_1 ?_
  refine lv_iconst (v := 0) hx hb dX10_countBubbles_4 (by decide) ?_
  replace h := kb_ok h
  obtain ⟨w_2, hc_1, h⟩ := h
  refine gCallV (isC := [3]) (wc := [(q_met, .inl (c 0, 25, .inl v_met))]) (w1 := [(q_met, .inl (c 0, 25, .inl w_2))]) (ws2 := [(q_this, .inr (10, [.int v_rows, .int v_columns, .ref q_air, .ref q_paste, .ref q_open, .int v_holes, .int v_out, .int v_night, .ref q_met, .ref q_line, .int v_inLine])), (q_air, .inl (c 0, 25, .inl v_air)), (q_line, .inl (c 0, 25, .inl v_line)), (q_met, .inl (c 0, 25, .inl w_2))]) (ms := [none, none, none, (some 0)]) hP hD hS hA ⟨rfl, trivial⟩ (by decide +kernel) ⟨rfl, rfl, rfl, rfl, trivial⟩ (va_runS (rm := rm_J7_fill_53178) (ws := wsJ7_fill_53178) (As := [.ref q_met, .int 0]) (rest := []) (gFix hF) (c_J7_fill_53178 l D c q_met 25 0 v_met w_2 hc_1 s.heap.size) (va_cwS 2 hts gX10_countBubbles_J7_fill_53178 rfl rfl rfl (by decide +kernel) ⟨Nat.le_of_ble_eq_true rfl, Nat.le_of_ble_eq_true rfl⟩) (gPreS (wc := [(q_met, .inl (c 0, 25, .inl v_met))]) (isC := [3]) hK hX hS hA hP hD ⟨rfl, trivial⟩ (by decide +kernel)) rfl rfl hl.1 rfl (lv_room (Nat.le_of_ble_eq_true rfl)) dX10_countBubbles_5 ⟨Nat.le_of_ble_eq_true rfl, Nat.le_of_ble_eq_true rfl⟩) (fun H locs hP hD hS => ?_)
  refine lv_iconst (v := 0) hx hb dX10_countBubbles_8 (by decide) ?_
  refine lv_istore_n (lv' := [(1, .int 0), (0, .ref q_this)]) hx hb dX10_countBubbles_9 rfl hl (by decide) rfl (fun ls hl => ?_)
  refine lv_iconst (v := 0) hx hb dX10_countBubbles_10 (by decide) ?_
  refine lv_istore_n (lv' := [(2, .int 0), (1, .int 0), (0, .ref q_this)]) hx hb dX10_countBubbles_11 rfl hl (by decide) rfl (fun ls hl => ?_)
  exact t_L12 gFuel 0 0 v_inLine v_line w_2 H locs hP hD hS ls (lv_sub hl [2, 1, 0] rfl) h
set_option maxRecDepth 20000 in
theorem in_X10_goesOut_X10 : ∀ w ∈ u_ws RX10 TX10 11, w ∈ wsX10_goesOut := by decide +kernel
abbrev rm_X10_goesOut : Room := { frames := 1, cells := 0, slots := 0, locals := 21 }
set_option maxHeartbeats 4000000 in
set_option maxRecDepth 100000 in
theorem c_X10_goesOut (l : Launch) (D : va_G) (c : Nat → ClassId) (q_this q_air q_paste q_open q_met q_line : Nat) (a_1 : Int32) (v_rows : Int32) (v_columns : Int32) (v_holes : Int32) (v_out : Int32) (v_night : Int32) (v_inLine : Int32) (o_v_out : Int32) (h : f_X10_goesOut a_1 v_out = some o_v_out) : gMV l yX10_goesOut wsX10_goesOut rm_X10_goesOut D c [.ref q_this, .int a_1] [(q_this, .inr (10, [.int v_rows, .int v_columns, .ref q_air, .ref q_paste, .ref q_open, .int v_holes, .int v_out, .int v_night, .ref q_met, .ref q_line, .int v_inLine]))] [(q_this, .inr (10, [.int v_rows, .int v_columns, .ref q_air, .ref q_paste, .ref q_open, .int v_holes, .int o_v_out, .int v_night, .ref q_met, .ref q_line, .int v_inLine]))] := by
  refine gMV_of (cc := cX10_goesOut) (maxL := 2) (rt := none) (by decide +kernel) rfl (Nat.le_of_ble_eq_true rfl) ?_
  intro p e s m below meth co A hF hK hX hP hD hA hS ls hl
  obtain ⟨hx, hb, hr, hts, hown, hlocks, hml⟩ := id hF
  have hl : lv_has ls 2 [(0, .ref q_this), (1, .int a_1)] := hl
  unfold f_X10_goesOut at h
  refine lv_aload_n hx hb dX10_goesOut_0 rfl (lv_at hl 0 rfl) ?_
  refine lv_ldc (v := 99999) hx hb hown (hts (.constant RX10 91 (99999)) (List.mem_of_getElem? (i := 1) rfl)) dX10_goesOut_1 ?_
  refine lv_aload_n hx hb dX10_goesOut_3 rfl (lv_at hl 0 rfl) ?_
  refine va_get (D := D) (ci := 10) (v := .int v_out) (C := RX10) (T := TX10) (N := 11) hx hb hts in_X10_goesOut_X10 hown hK.1 hP 0 rfl rfl 6 (by decide) (hts (.fieldLink RX10 53 "PaperBubbles$Wall" "out" "I") (List.mem_of_getElem? (i := 2) rfl)) (fun _ h9 => h9) rfl dX10_goesOut_4 ?_
  refine lv_iload_n hx hb dX10_goesOut_7 rfl (lv_at hl 1 rfl) ?_
  refine lv_iadd hx hb dX10_goesOut_8 ?_
  replace h := nm_ok h
  obtain ⟨t_1, et_1, h⟩ := h
  refine gTop et_1 ?_
  refine va_mmin hx hb (by rw [hml]; exact hl.1.symm) hown (hts (.methodLink RX10 82 Lib.Math.min.name) (List.mem_of_getElem? (i := 3) rfl)) (hts (.static Lib.Math.min.name) (List.mem_of_getElem? (i := 4) rfl)) (hts (.initialized "java/lang/Math") (List.mem_of_getElem? (i := 5) rfl)) (hts (.code Lib.Math.min.name Lib.Math.min.code 2 (some .int)) (List.mem_of_getElem? (i := 6) rfl)) (Nat.le_of_ble_eq_true rfl) (by first | exact Nat.le_of_ble_eq_true rfl | decide) (Nat.le_of_ble_eq_true rfl) (Nat.le_of_ble_eq_true rfl) dX10_goesOut_9 ?_
  replace h := nm_ok h
  obtain ⟨t_2, et_2, h⟩ := h
  refine gTop et_2 ?_
  refine va_put (D := D) (ci := 10) (v := .int t_2) (ty := .int) (C := RX10) (T := TX10) (N := 11) hx hb hts in_X10_goesOut_X10 tyX10 tyX10_ok nmX10 hown hK.1 hP hD hS 0 rfl rfl 6 (by decide) (hts (.fieldLink RX10 53 "PaperBubbles$Wall" "out" "I") (List.mem_of_getElem? (i := 2) rfl)) (fun _ h9 => h9) rfl (by decide +kernel) rfl rfl (Nat.le_of_ble_eq_true rfl) dX10_goesOut_12 (fun H locs hP hD hS => ?_)
  have hP : va_P D gcl [(q_this, .inr (10, [.int v_rows, .int v_columns, .ref q_air, .ref q_paste, .ref q_open, .int v_holes, .int t_2, .int v_night, .ref q_met, .ref q_line, .int v_inLine]))] H := hP
  have hD : va_D A [(q_this, .inr (10, [.int v_rows, .int v_columns, .ref q_air, .ref q_paste, .ref q_open, .int v_holes, .int t_2, .int v_night, .ref q_met, .ref q_line, .int v_inLine]))] := hD
  replace h := so1 h
  subst h
  exact gVret hF hP hD hS dX10_goesOut_15
