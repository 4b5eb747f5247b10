set_option maxRecDepth 20000 in
theorem in_X10_cellOfBiggest_X10 : ∀ w ∈ u_ws RX10 TX10 11, w ∈ wsX10_cellOfBiggest := by decide +kernel
def f_X10_cellOfBiggest_L14 (v_rows : Int32) (v_columns : Int32) (v_air : Nat → Int32) : Nat → Int32 → Int32 → Int32 → Int32 → (Nat → Int32) → (Nat → Int32) → Option (Int32 × Int32 × (Nat → Int32) × (Nat → Int32))
  | 0, _, _, _, _, _, _ => none
  | n + 1, x1, x2, x3, v_inLine, v_line, v_met =>
    if 25 ≤ x3 then
      some (x2, v_inLine, v_line, v_met)
    else
      kb (f_X10_has x3 v_rows v_columns) fun r_5 =>
      if r_5 = 0 then
        some (x2, v_inLine, v_line, v_met)
      else
        kb4 (f_X10_meetBubble x3 v_rows v_columns v_inLine v_air v_line v_met) fun r_8 w_9 w_10 w_11 =>
        if r_8 ≤ x1 then
          nm (x3 + 1) fun t_13 =>
          f_X10_cellOfBiggest_L14 v_rows v_columns v_air n x1 x2 t_13 w_9 w_10 w_11
        else
          nm (x3 + 1) fun t_14 =>
          f_X10_cellOfBiggest_L14 v_rows v_columns v_air n r_8 x3 t_14 w_9 w_10 w_11

def f_X10_cellOfBiggest (v_rows : Int32) (v_columns : Int32) (v_inLine : Int32) (v_air : Nat → Int32) (v_line : Nat → Int32) (v_met : Nat → Int32) : Option (Int32 × Int32 × (Nat → Int32) × (Nat → Int32)) :=
  kb (f_J7_fill_53178 0 25 v_met) fun w_2 =>
  f_X10_cellOfBiggest_L14 v_rows v_columns v_air gFuel 0 (-1) 0 v_inLine v_line w_2

abbrev rm_X10_cellOfBiggest : Room := { frames := 4, cells := 0, slots := 0, locals := 89 }
set_option maxHeartbeats 4000000 in
set_option maxRecDepth 100000 in
theorem c_X10_cellOfBiggest (l : Launch) (D : va_G) (c : Nat → ClassId) (q_this q_air q_paste q_open q_met q_line : Nat) (v_rows : Int32) (v_columns : Int32) (v_holes : Int32) (v_out : Int32) (v_night : Int32) (v_inLine : Int32) (v_air : Nat → Int32) (v_line : Nat → Int32) (v_met : Nat → Int32) (o_r : Int32) (o_v_inLine : Int32) (o_v_line : Nat → Int32) (o_v_met : Nat → Int32) (h : f_X10_cellOfBiggest v_rows v_columns v_inLine v_air v_line v_met = some (o_r, o_v_inLine, o_v_line, o_v_met)) : gMI l yX10_cellOfBiggest wsX10_cellOfBiggest rm_X10_cellOfBiggest D c [.ref q_this] [(q_this, .inr (10, [.int v_rows, .int v_columns, .ref q_air, .ref q_paste, .ref q_open, .int v_holes, .int v_out, .int v_night, .ref q_met, .ref q_line, .int v_inLine])), (q_air, .inl (c 0, 25, .inl v_air)), (q_line, .inl (c 0, 25, .inl v_line)), (q_met, .inl (c 0, 25, .inl v_met))] [(q_this, .inr (10, [.int v_rows, .int v_columns, .ref q_air, .ref q_paste, .ref q_open, .int v_holes, .int v_out, .int v_night, .ref q_met, .ref q_line, .int o_v_inLine])), (q_air, .inl (c 0, 25, .inl v_air)), (q_line, .inl (c 0, 25, .inl o_v_line)), (q_met, .inl (c 0, 25, .inl o_v_met))] o_r := by
  refine gMI_of (cc := cX10_cellOfBiggest) (maxL := 5) (rt := (some .int)) (by decide +kernel) rfl (Nat.le_of_ble_eq_true rfl) ?_
  intro p e s m below meth co A hF hK hX hP hD hA hS ls hl
  obtain ⟨hx, hb, hr, hts, hown, hlocks, hml⟩ := id hF
  have hl : lv_has ls 5 [(0, .ref q_this)] := hl
  have t_L14 : ∀ (n : Nat), ∀ (x1 : Int32) (x2 : Int32) (x3 : Int32) (v_inLine : Int32) (v_line : Nat → Int32) (v_met : Nat → Int32) (H : Heap) (locs : List Loc), va_P D gcl [(q_this, .inr (10, [.int v_rows, .int v_columns, .ref q_air, .ref q_paste, .ref q_open, .int v_holes, .int v_out, .int v_night, .ref q_met, .ref q_line, .int v_inLine])), (q_air, .inl (c 0, 25, .inl v_air)), (q_line, .inl (c 0, 25, .inl v_line)), (q_met, .inl (c 0, 25, .inl v_met))] H → va_D A [(q_this, .inr (10, [.int v_rows, .int v_columns, .ref q_air, .ref q_paste, .ref q_open, .int v_holes, .int v_out, .int v_night, .ref q_met, .ref q_line, .int v_inLine])), (q_air, .inl (c 0, 25, .inl v_air)), (q_line, .inl (c 0, 25, .inl v_line)), (q_met, .inl (c 0, 25, .inl v_met))] → va_S A s.heap H locs → ∀ ls, lv_has ls 5 [(0, .ref q_this), (1, .int x1), (2, .int x2), (3, .int x3)] → f_X10_cellOfBiggest_L14 v_rows v_columns v_air n x1 x2 x3 v_inLine v_line v_met = some (o_r, o_v_inLine, o_v_line, o_v_met) → W p l e (headSpec wsX10_cellOfBiggest rm_X10_cellOfBiggest).room s m [.ref q_this].toArray below meth co H locs 0 0 (gQI D [(q_this, .inr (10, [.int v_rows, .int v_columns, .ref q_air, .ref q_paste, .ref q_open, .int v_holes, .int v_out, .int v_night, .ref q_met, .ref q_line, .int o_v_inLine])), (q_air, .inl (c 0, 25, .inl v_air)), (q_line, .inl (c 0, 25, .inl o_v_line)), (q_met, .inl (c 0, 25, .inl o_v_met))] o_r A below [.ref q_this] s) (F0 m 14 ls []) := by
    intro n
    induction n with
    | zero => intro x1 x2 x3 v_inLine v_line v_met H locs hP hD hS ls hl h; exact no_ok h
    | succ n ih =>
      intro x1 x2 x3 v_inLine v_line v_met H locs hP hD hS ls hl h
      rw [f_X10_cellOfBiggest_L14] at h
      refine lv_iload_n hx hb dX10_cellOfBiggest_14 rfl (lv_at hl 3 rfl) ?_
      refine lv_bipush (v := 25) hx hb dX10_cellOfBiggest_15 (by decide) ?_
      refine lv_icmp_ge (tgt := 52) hx hb dX10_cellOfBiggest_17 (by decide) (fun c_3 => ?_) (fun c_3 => ?_)
      · have h := it_t c_3 h
        refine lv_iload_n hx hb dX10_cellOfBiggest_52 rfl (lv_at hl 2 rfl) ?_
        cases h
        exact gIret hF hP hD hS rfl dX10_cellOfBiggest_53
      · have h := it_f c_3 h
        refine lv_aload_n hx hb dX10_cellOfBiggest_20 rfl (lv_at hl 0 rfl) ?_
        refine lv_iload_n hx hb dX10_cellOfBiggest_21 rfl (lv_at hl 3 rfl) ?_
        obtain ⟨r_5, hc_4, h⟩ := kb_ok h
        refine gCallI (isC := [0]) (wc := [(q_this, .inr (10, [.int v_rows, .int v_columns, .ref q_air, .ref q_paste, .ref q_open, .int v_holes, .int v_out, .int v_night, .ref q_met, .ref q_line, .int v_inLine]))]) (w1 := [(q_this, .inr (10, [.int v_rows, .int v_columns, .ref q_air, .ref q_paste, .ref q_open, .int v_holes, .int v_out, .int v_night, .ref q_met, .ref q_line, .int v_inLine]))]) hP hD hS hA rfl rfl (va_runV (rm := rm_X10_has) (ws := wsX10_has) (As := [.int x3]) (rest := []) (gFix hF) (c_X10_has l D c q_this q_air q_paste q_open q_met q_line x3 v_rows v_columns v_holes v_out v_night v_inLine r_5 hc_4 H.size) (cwV 1 hts gX10_cellOfBiggest_X10_has rfl rfl rfl (by decide +kernel) ⟨Nat.le_of_ble_eq_true rfl, Nat.le_of_ble_eq_true rfl⟩) (gPreV (wc := [(q_this, .inr (10, [.int v_rows, .int v_columns, .ref q_air, .ref q_paste, .ref q_open, .int v_holes, .int v_out, .int v_night, .ref q_met, .ref q_line, .int v_inLine]))]) (q := (RX10, TX10, 11)) (ci := 10) (q0 := 0) (isC := [0]) hK hX hS hA hP hD rfl (by decide) rfl rfl) rfl rfl hl.1 rfl (lv_room (Nat.le_of_ble_eq_true rfl)) dX10_cellOfBiggest_22 ⟨Nat.le_of_ble_eq_true rfl, Nat.le_of_ble_eq_true rfl⟩) (fun H locs hP hD hS => ?_)
        have hP : va_P D gcl [(q_this, .inr (10, [.int v_rows, .int v_columns, .ref q_air, .ref q_paste, .ref q_open, .int v_holes, .int v_out, .int v_night, .ref q_met, .ref q_line, .int v_inLine])), (q_air, .inl (c 0, 25, .inl v_air)), (q_line, .inl (c 0, 25, .inl v_line)), (q_met, .inl (c 0, 25, .inl v_met))] H := hP
        have hD : va_D A [(q_this, .inr (10, [.int v_rows, .int v_columns, .ref q_air, .ref q_paste, .ref q_open, .int v_holes, .int v_out, .int v_night, .ref q_met, .ref q_line, .int v_inLine])), (q_air, .inl (c 0, 25, .inl v_air)), (q_line, .inl (c 0, 25, .inl v_line)), (q_met, .inl (c 0, 25, .inl v_met))] := hD
        refine lv_if_eq (tgt := 52) hx hb dX10_cellOfBiggest_25 (by decide) (fun c_6 => ?_) (fun c_6 => ?_)
        · have h := it_t c_6 h
          refine lv_iload_n hx hb dX10_cellOfBiggest_52 rfl (lv_at hl 2 rfl) ?_
          cases h
          exact gIret hF hP hD hS rfl dX10_cellOfBiggest_53
        · have h := it_f c_6 h
          refine lv_aload_n hx hb dX10_cellOfBiggest_28 rfl (lv_at hl 0 rfl) ?_
          refine lv_iload_n hx hb dX10_cellOfBiggest_29 rfl (lv_at hl 3 rfl) ?_
          obtain ⟨r_8, w_9, w_10, w_11, hc_7, h⟩ := kb4_ok h
          refine gCallI (isC := [0, 1, 2, 3]) (wc := [(q_this, .inr (10, [.int v_rows, .int v_columns, .ref q_air, .ref q_paste, .ref q_open, .int v_holes, .int v_out, .int v_night, .ref q_met, .ref q_line, .int v_inLine])), (q_air, .inl (c 0, 25, .inl v_air)), (q_line, .inl (c 0, 25, .inl v_line)), (q_met, .inl (c 0, 25, .inl v_met))]) (w1 := [(q_this, .inr (10, [.int v_rows, .int v_columns, .ref q_air, .ref q_paste, .ref q_open, .int v_holes, .int v_out, .int v_night, .ref q_met, .ref q_line, .int w_9])), (q_air, .inl (c 0, 25, .inl v_air)), (q_line, .inl (c 0, 25, .inl w_10)), (q_met, .inl (c 0, 25, .inl w_11))]) hP hD hS hA rfl rfl (va_runV (rm := rm_X10_meetBubble) (ws := wsX10_meetBubble) (As := [.int x3]) (rest := []) (gFix hF) (c_X10_meetBubble l D c q_this q_air q_paste q_open q_met q_line x3 v_rows v_columns v_holes v_out v_night v_inLine v_air v_line v_met r_8 w_9 w_10 w_11 hc_7 H.size) (cwV 1 hts gX10_cellOfBiggest_X10_meetBubble rfl rfl rfl (by decide +kernel) ⟨Nat.le_of_ble_eq_true rfl, Nat.le_of_ble_eq_true rfl⟩) (gPreV (wc := [(q_this, .inr (10, [.int v_rows, .int v_columns, .ref q_air, .ref q_paste, .ref q_open, .int v_holes, .int v_out, .int v_night, .ref q_met, .ref q_line, .int v_inLine])), (q_air, .inl (c 0, 25, .inl v_air)), (q_line, .inl (c 0, 25, .inl v_line)), (q_met, .inl (c 0, 25, .inl v_met))]) (q := (RX10, TX10, 11)) (ci := 10) (q0 := 0) (isC := [0, 1, 2, 3]) hK hX hS hA hP hD rfl (by decide) rfl rfl) rfl rfl hl.1 rfl (lv_room (Nat.le_of_ble_eq_true rfl)) dX10_cellOfBiggest_30 ⟨Nat.le_of_ble_eq_true rfl, Nat.le_of_ble_eq_true rfl⟩) (fun H locs hP hD hS => ?_)
          have hP : va_P D gcl [(q_this, .inr (10, [.int v_rows, .int v_columns, .ref q_air, .ref q_paste, .ref q_open, .int v_holes, .int v_out, .int v_night, .ref q_met, .ref q_line, .int w_9])), (q_air, .inl (c 0, 25, .inl v_air)), (q_line, .inl (c 0, 25, .inl w_10)), (q_met, .inl (c 0, 25, .inl w_11))] H := hP
          have hD : va_D A [(q_this, .inr (10, [.int v_rows, .int v_columns, .ref q_air, .ref q_paste, .ref q_open, .int v_holes, .int v_out, .int v_night, .ref q_met, .ref q_line, .int w_9])), (q_air, .inl (c 0, 25, .inl v_air)), (q_line, .inl (c 0, 25, .inl w_10)), (q_met, .inl (c 0, 25, .inl w_11))] := hD
          refine lv_istore (lv' := [(4, .int r_8), (0, .ref q_this), (1, .int x1), (2, .int x2), (3, .int x3)]) hx hb dX10_cellOfBiggest_33 hl (by decide) rfl (fun ls hl => ?_)
          refine lv_iload hx hb dX10_cellOfBiggest_35 (lv_at hl 0 rfl) ?_
          refine lv_iload_n hx hb dX10_cellOfBiggest_37 rfl (lv_at hl 2 rfl) ?_
          refine lv_icmp_le (tgt := 46) hx hb dX10_cellOfBiggest_38 (by decide) (fun c_12 => ?_) (fun c_12 => ?_)
          · have h := it_t c_12 h
            obtain ⟨t_13, et_13, h⟩ := nm_ok h
            refine lv_iinc (v := t_13) (lv' := [(3, .int t_13), (4, .int r_8), (0, .ref q_this), (1, .int x1), (2, .int x2)]) hx hb dX10_cellOfBiggest_46 hl (k := 4) rfl (by rw [et_13]; rfl) (by decide) rfl (fun ls hl => ?_)
            refine lv_goto (tgt := 14) hx hb dX10_cellOfBiggest_49 (by decide) ?_
            exact ih x1 x2 t_13 w_9 w_10 w_11 H locs hP hD hS ls (lv_sub hl [2, 3, 4, 0] rfl) h
          · have h := it_f c_12 h
            refine lv_iload hx hb dX10_cellOfBiggest_41 (lv_at hl 0 rfl) ?_
            refine lv_istore_n (lv' := [(1, .int r_8), (4, .int r_8), (0, .ref q_this), (2, .int x2), (3, .int x3)]) hx hb dX10_cellOfBiggest_43 rfl hl (by decide) rfl (fun ls hl => ?_)
            refine lv_iload_n hx hb dX10_cellOfBiggest_44 rfl (lv_at hl 4 rfl) ?_
            refine lv_istore_n (lv' := [(2, .int x3), (1, .int r_8), (4, .int r_8), (0, .ref q_this), (3, .int x3)]) hx hb dX10_cellOfBiggest_45 rfl hl (by decide) rfl (fun ls hl => ?_)
            obtain ⟨t_14, et_14, h⟩ := nm_ok h
            refine lv_iinc (v := t_14) (lv' := [(3, .int t_14), (2, .int x3), (1, .int r_8), (4, .int r_8), (0, .ref q_this)]) hx hb dX10_cellOfBiggest_46 hl (k := 4) rfl (by rw [et_14]; rfl) (by decide) rfl (fun ls hl => ?_)
            refine lv_goto (tgt := 14) hx hb dX10_cellOfBiggest_49 (by decide) ?_
            exact ih r_8 x3 t_14 w_9 w_10 w_11 H locs hP hD hS ls (lv_sub hl [4, 2, 1, 0] rfl) h
  unfold f_X10_cellOfBiggest at h
  refine lv_aload_n hx hb dX10_cellOfBiggest_0 rfl (lv_at hl 0 rfl) ?_
  refine va_get (D := D) (ci := 10) (v := .ref q_met) (C := RX10) (T := TX10) (N := 11) hx hb hts in_X10_cellOfBiggest_X10 hown hK.1 hP 0 rfl rfl 8 (by decide) (hts (.fieldLink RX10 28 "PaperBubbles$Wall" "met" "[I") (List.mem_of_getElem? (i := 1) rfl)) (fun _ h9 => h9) rfl dX10_cellOfBiggest_1 ?_
  refine lv_iconst (v := 0) hx hb dX10_cellOfBiggest_4 (by decide) ?_
  obtain ⟨w_2, hc_1, h⟩ := kb_ok h
  refine gCallV (isC := [3]) (wc := [(q_met, .inl (c 0, 25, .inl v_met))]) (w1 := [(q_met, .inl (c 0, 25, .inl w_2))]) hP hD hS hA rfl rfl (va_runS (rm := rm_J7_fill_53178) (ws := wsJ7_fill_53178) (As := [.ref q_met, .int 0]) (rest := []) (gFix hF) (c_J7_fill_53178 l D c q_met 25 0 v_met w_2 hc_1 s.heap.size) (va_cwS 2 hts gX10_cellOfBiggest_J7_fill_53178 rfl rfl rfl (by decide +kernel) ⟨Nat.le_of_ble_eq_true rfl, Nat.le_of_ble_eq_true rfl⟩) (gPreS (wc := [(q_met, .inl (c 0, 25, .inl v_met))]) (isC := [3]) hK hX hS hA hP hD rfl (by decide)) rfl rfl hl.1 rfl (lv_room (Nat.le_of_ble_eq_true rfl)) dX10_cellOfBiggest_5 ⟨Nat.le_of_ble_eq_true rfl, Nat.le_of_ble_eq_true rfl⟩) (fun H locs hP hD hS => ?_)
  have hP : va_P D gcl [(q_this, .inr (10, [.int v_rows, .int v_columns, .ref q_air, .ref q_paste, .ref q_open, .int v_holes, .int v_out, .int v_night, .ref q_met, .ref q_line, .int v_inLine])), (q_air, .inl (c 0, 25, .inl v_air)), (q_line, .inl (c 0, 25, .inl v_line)), (q_met, .inl (c 0, 25, .inl w_2))] H := hP
  have hD : va_D A [(q_this, .inr (10, [.int v_rows, .int v_columns, .ref q_air, .ref q_paste, .ref q_open, .int v_holes, .int v_out, .int v_night, .ref q_met, .ref q_line, .int v_inLine])), (q_air, .inl (c 0, 25, .inl v_air)), (q_line, .inl (c 0, 25, .inl v_line)), (q_met, .inl (c 0, 25, .inl w_2))] := hD
  refine lv_iconst (v := 0) hx hb dX10_cellOfBiggest_8 (by decide) ?_
  refine lv_istore_n (lv' := [(1, .int 0), (0, .ref q_this)]) hx hb dX10_cellOfBiggest_9 rfl hl (by decide) rfl (fun ls hl => ?_)
  refine lv_iconst (v := (-1)) hx hb dX10_cellOfBiggest_10 (by decide) ?_
  refine lv_istore_n (lv' := [(2, .int (-1)), (1, .int 0), (0, .ref q_this)]) hx hb dX10_cellOfBiggest_11 rfl hl (by decide) rfl (fun ls hl => ?_)
  refine lv_iconst (v := 0) hx hb dX10_cellOfBiggest_12 (by decide) ?_
  refine lv_istore_n (lv' := [(3, .int 0), (2, .int (-1)), (1, .int 0), (0, .ref q_this)]) hx hb dX10_cellOfBiggest_13 rfl hl (by decide) rfl (fun ls hl => ?_)
  exact t_L14 gFuel 0 (-1) 0 v_inLine v_line w_2 H locs hP hD hS ls (lv_sub hl [3, 2, 1, 0] rfl) h
set_option maxRecDepth 20000 in
theorem in_X10_cells_X10 : ∀ w ∈ u_ws RX10 TX10 11, w ∈ wsX10_cells := by decide +kernel
def f_X10_cells (v_rows : Int32) (v_columns : Int32) : Option (Int32) :=
  some (v_rows * v_columns)

abbrev rm_X10_cells : Room := { frames := 0, cells := 0, slots := 0, locals := 0 }
set_option maxHeartbeats 4000000 in
set_option maxRecDepth 100000 in
theorem c_X10_cells (l : Launch) (D : va_G) (c : Nat → ClassId) (q_this q_air q_paste q_open q_met q_line : Nat) (v_rows : Int32) (v_columns : Int32) (v_holes : Int32) (v_out : Int32) (v_night : Int32) (v_inLine : Int32) (o_r : Int32) (h : f_X10_cells v_rows v_columns = some o_r) : gMI l yX10_cells wsX10_cells rm_X10_cells D c [.ref q_this] [(q_this, .inr (10, [.int v_rows, .int v_columns, .ref q_air, .ref q_paste, .ref q_open, .int v_holes, .int v_out, .int v_night, .ref q_met, .ref q_line, .int v_inLine]))] [(q_this, .inr (10, [.int v_rows, .int v_columns, .ref q_air, .ref q_paste, .ref q_open, .int v_holes, .int v_out, .int v_night, .ref q_met, .ref q_line, .int v_inLine]))] o_r := by
  refine gMI_of (cc := cX10_cells) (maxL := 1) (rt := (some .int)) (by decide +kernel) rfl (Nat.le_of_ble_eq_true rfl) ?_
  intro p e s m below meth co A hF hK hX hP hD hA hS ls hl
  obtain ⟨hx, hb, hr, hts, hown, hlocks, hml⟩ := id hF
  have hl : lv_has ls 1 [(0, .ref q_this)] := hl
  unfold f_X10_cells at h
  refine lv_aload_n hx hb dX10_cells_0 rfl (lv_at hl 0 rfl) ?_
  refine va_get (D := D) (ci := 10) (v := .int v_rows) (C := RX10) (T := TX10) (N := 11) hx hb hts in_X10_cells_X10 hown hK.1 hP 0 rfl rfl 0 (by decide) (hts (.fieldLink RX10 9 "PaperBubbles$Wall" "rows" "I") (List.mem_of_getElem? (i := 1) rfl)) (fun _ h9 => h9) rfl dX10_cells_1 ?_
  refine lv_aload_n hx hb dX10_cells_4 rfl (lv_at hl 0 rfl) ?_
  refine va_get (D := D) (ci := 10) (v := .int v_columns) (C := RX10) (T := TX10) (N := 11) hx hb hts in_X10_cells_X10 hown hK.1 hP 0 rfl rfl 1 (by decide) (hts (.fieldLink RX10 15 "PaperBubbles$Wall" "columns" "I") (List.mem_of_getElem? (i := 2) rfl)) (fun _ h9 => h9) rfl dX10_cells_5 ?_
  refine lv_imul hx hb dX10_cells_8 ?_
  cases h
  exact gIret hF hP hD hS rfl dX10_cells_9
set_option maxRecDepth 20000 in
theorem in_X10_cellsWithAir_X10 : ∀ w ∈ u_ws RX10 TX10 11, w ∈ wsX10_cellsWithAir := by decide +kernel
def f_X10_cellsWithAir_L4 (v_rows : Int32) (v_columns : Int32) (v_air : Nat → Int32) : Nat → Int32 → Int32 → Option (Int32)
  | 0, _, _ => none
  | n + 1, x1, x2 =>
    if 25 ≤ x2 then
      some x1
    else
      kb (f_X10_has x2 v_rows v_columns) fun r_3 =>
      if r_3 = 0 then
        some x1
      else
        chi x2 25 <|
        if (v_air x2.toNatClampNeg) ≤ 0 then
          nm (x2 + 1) fun t_7 =>
          f_X10_cellsWithAir_L4 v_rows v_columns v_air n x1 t_7
        else
          nm (x1 + 1) fun t_8 =>
          nm (x2 + 1) fun t_9 =>
          f_X10_cellsWithAir_L4 v_rows v_columns v_air n t_8 t_9

def f_X10_cellsWithAir (v_rows : Int32) (v_columns : Int32) (v_air : Nat → Int32) : Option (Int32) :=
  f_X10_cellsWithAir_L4 v_rows v_columns v_air gFuel 0 0

abbrev rm_X10_cellsWithAir : Room := { frames := 1, cells := 0, slots := 0, locals := 21 }
set_option maxHeartbeats 4000000 in
set_option maxRecDepth 100000 in
theorem c_X10_cellsWithAir (l : Launch) (D : va_G) (c : Nat → ClassId) (q_this q_air q_paste q_open q_met q_line : Nat) (v_rows : Int32) (v_columns : Int32) (v_holes : Int32) (v_out : Int32) (v_night : Int32) (v_inLine : Int32) (v_air : Nat → Int32) (o_r : Int32) (h : f_X10_cellsWithAir v_rows v_columns v_air = some o_r) : gMI l yX10_cellsWithAir wsX10_cellsWithAir rm_X10_cellsWithAir D c [.ref q_this] [(q_this, .inr (10, [.int v_rows, .int v_columns, .ref q_air, .ref q_paste, .ref q_open, .int v_holes, .int v_out, .int v_night, .ref q_met, .ref q_line, .int v_inLine])), (q_air, .inl (c 0, 25, .inl v_air))] [(q_this, .inr (10, [.int v_rows, .int v_columns, .ref q_air, .ref q_paste, .ref q_open, .int v_holes, .int v_out, .int v_night, .ref q_met, .ref q_line, .int v_inLine])), (q_air, .inl (c 0, 25, .inl v_air))] o_r := by
  refine gMI_of (cc := cX10_cellsWithAir) (maxL := 3) (rt := (some .int)) (by decide +kernel) rfl (Nat.le_of_ble_eq_true rfl) ?_
  intro p e s m below meth co A hF hK hX hP hD hA hS ls hl
  obtain ⟨hx, hb, hr, hts, hown, hlocks, hml⟩ := id hF
  have hl : lv_has ls 3 [(0, .ref q_this)] := hl
  have t_L4 : ∀ (n : Nat), ∀ (x1 : Int32) (x2 : Int32) (H : Heap) (locs : List Loc), va_P D gcl [(q_this, .inr (10, [.int v_rows, .int v_columns, .ref q_air, .ref q_paste, .ref q_open, .int v_holes, .int v_out, .int v_night, .ref q_met, .ref q_line, .int v_inLine])), (q_air, .inl (c 0, 25, .inl v_air))] H → va_D A [(q_this, .inr (10, [.int v_rows, .int v_columns, .ref q_air, .ref q_paste, .ref q_open, .int v_holes, .int v_out, .int v_night, .ref q_met, .ref q_line, .int v_inLine])), (q_air, .inl (c 0, 25, .inl v_air))] → va_S A s.heap H locs → ∀ ls, lv_has ls 3 [(0, .ref q_this), (1, .int x1), (2, .int x2)] → f_X10_cellsWithAir_L4 v_rows v_columns v_air n x1 x2 = some o_r → W p l e (headSpec wsX10_cellsWithAir rm_X10_cellsWithAir).room s m [.ref q_this].toArray below meth co H locs 0 0 (gQI D [(q_this, .inr (10, [.int v_rows, .int v_columns, .ref q_air, .ref q_paste, .ref q_open, .int v_holes, .int v_out, .int v_night, .ref q_met, .ref q_line, .int v_inLine])), (q_air, .inl (c 0, 25, .inl v_air))] o_r A below [.ref q_this] s) (F0 m 4 ls []) := by
    intro n
    induction n with
    | zero => intro x1 x2 H locs hP hD hS ls hl h; exact no_ok h
    | succ n ih =>
      intro x1 x2 H locs hP hD hS ls hl h
      rw [f_X10_cellsWithAir_L4] at h
      refine lv_iload_n hx hb dX10_cellsWithAir_4 rfl (lv_at hl 2 rfl) ?_
      refine lv_bipush (v := 25) hx hb dX10_cellsWithAir_5 (by decide) ?_
      refine lv_icmp_ge (tgt := 36) hx hb dX10_cellsWithAir_7 (by decide) (fun c_1 => ?_) (fun c_1 => ?_)
      · have h := it_t c_1 h
        refine lv_iload_n hx hb dX10_cellsWithAir_36 rfl (lv_at hl 1 rfl) ?_
        cases h
        exact gIret hF hP hD hS rfl dX10_cellsWithAir_37
      · have h := it_f c_1 h
        refine lv_aload_n hx hb dX10_cellsWithAir_10 rfl (lv_at hl 0 rfl) ?_
        refine lv_iload_n hx hb dX10_cellsWithAir_11 rfl (lv_at hl 2 rfl) ?_
        obtain ⟨r_3, hc_2, h⟩ := kb_ok h
        refine gCallI (isC := [0]) (wc := [(q_this, .inr (10, [.int v_rows, .int v_columns, .ref q_air, .ref q_paste, .ref q_open, .int v_holes, .int v_out, .int v_night, .ref q_met, .ref q_line, .int v_inLine]))]) (w1 := [(q_this, .inr (10, [.int v_rows, .int v_columns, .ref q_air, .ref q_paste, .ref q_open, .int v_holes, .int v_out, .int v_night, .ref q_met, .ref q_line, .int v_inLine]))]) hP hD hS hA rfl rfl (va_runV (rm := rm_X10_has) (ws := wsX10_has) (As := [.int x2]) (rest := []) (gFix hF) (c_X10_has l D c q_this q_air q_paste q_open q_met q_line x2 v_rows v_columns v_holes v_out v_night v_inLine r_3 hc_2 H.size) (cwV 1 hts gX10_cellsWithAir_X10_has rfl rfl rfl (by decide +kernel) ⟨Nat.le_of_ble_eq_true rfl, Nat.le_of_ble_eq_true rfl⟩) (gPreV (wc := [(q_this, .inr (10, [.int v_rows, .int v_columns, .ref q_air, .ref q_paste, .ref q_open, .int v_holes, .int v_out, .int v_night, .ref q_met, .ref q_line, .int v_inLine]))]) (q := (RX10, TX10, 11)) (ci := 10) (q0 := 0) (isC := [0]) hK hX hS hA hP hD rfl (by decide) rfl rfl) rfl rfl hl.1 rfl (lv_room (Nat.le_of_ble_eq_true rfl)) dX10_cellsWithAir_12 ⟨Nat.le_of_ble_eq_true rfl, Nat.le_of_ble_eq_true rfl⟩) (fun H locs hP hD hS => ?_)
        have hP : va_P D gcl [(q_this, .inr (10, [.int v_rows, .int v_columns, .ref q_air, .ref q_paste, .ref q_open, .int v_holes, .int v_out, .int v_night, .ref q_met, .ref q_line, .int v_inLine])), (q_air, .inl (c 0, 25, .inl v_air))] H := hP
        have hD : va_D A [(q_this, .inr (10, [.int v_rows, .int v_columns, .ref q_air, .ref q_paste, .ref q_open, .int v_holes, .int v_out, .int v_night, .ref q_met, .ref q_line, .int v_inLine])), (q_air, .inl (c 0, 25, .inl v_air))] := hD
        refine lv_if_eq (tgt := 36) hx hb dX10_cellsWithAir_15 (by decide) (fun c_4 => ?_) (fun c_4 => ?_)
        · have h := it_t c_4 h
          refine lv_iload_n hx hb dX10_cellsWithAir_36 rfl (lv_at hl 1 rfl) ?_
          cases h
          exact gIret hF hP hD hS rfl dX10_cellsWithAir_37
        · have h := it_f c_4 h
          refine lv_aload_n hx hb dX10_cellsWithAir_18 rfl (lv_at hl 0 rfl) ?_
          refine va_get (D := D) (ci := 10) (v := .ref q_air) (C := RX10) (T := TX10) (N := 11) hx hb hts in_X10_cellsWithAir_X10 hown hK.1 hP 0 rfl rfl 2 (by decide) (hts (.fieldLink RX10 18 "PaperBubbles$Wall" "air" "[I") (List.mem_of_getElem? (i := 1) rfl)) (fun _ h9 => h9) rfl dX10_cellsWithAir_19 ?_
          refine lv_iload_n hx hb dX10_cellsWithAir_22 rfl (lv_at hl 2 rfl) ?_
          obtain ⟨hi_5, h⟩ := chi_ok h
          refine va_iald hx hb hK.1 hP 1 0 rfl rfl hi_5 dX10_cellsWithAir_23 ?_
          refine lv_if_le (tgt := 30) hx hb dX10_cellsWithAir_24 (by decide) (fun c_6 => ?_) (fun c_6 => ?_)
          · have h := it_t c_6 h
            obtain ⟨t_7, et_7, h⟩ := nm_ok h
            refine lv_iinc (v := t_7) (lv' := [(2, .int t_7), (0, .ref q_this), (1, .int x1)]) hx hb dX10_cellsWithAir_30 hl (k := 2) rfl (by rw [et_7]; rfl) (by decide) rfl (fun ls hl => ?_)
            refine lv_goto (tgt := 4) hx hb dX10_cellsWithAir_33 (by decide) ?_
            exact ih x1 t_7 H locs hP hD hS ls (lv_sub hl [1, 2, 0] rfl) h
          · have h := it_f c_6 h
            obtain ⟨t_8, et_8, h⟩ := nm_ok h
            refine lv_iinc (v := t_8) (lv' := [(1, .int t_8), (0, .ref q_this), (2, .int x2)]) hx hb dX10_cellsWithAir_27 hl (k := 1) rfl (by rw [et_8]; rfl) (by decide) rfl (fun ls hl => ?_)
            obtain ⟨t_9, et_9, h⟩ := nm_ok h
            refine lv_iinc (v := t_9) (lv' := [(2, .int t_9), (1, .int t_8), (0, .ref q_this)]) hx hb dX10_cellsWithAir_30 hl (k := 2) rfl (by rw [et_9]; rfl) (by decide) rfl (fun ls hl => ?_)
            refine lv_goto (tgt := 4) hx hb dX10_cellsWithAir_33 (by decide) ?_
            exact ih t_8 t_9 H locs hP hD hS ls (lv_sub hl [2, 1, 0] rfl) h
  unfold f_X10_cellsWithAir at h
  refine lv_iconst (v := 0) hx hb dX10_cellsWithAir_0 (by decide) ?_
  refine lv_istore_n (lv' := [(1, .int 0), (0, .ref q_this)]) hx hb dX10_cellsWithAir_1 rfl hl (by decide) rfl (fun ls hl => ?_)
  refine lv_iconst (v := 0) hx hb dX10_cellsWithAir_2 (by decide) ?_
  refine lv_istore_n (lv' := [(2, .int 0), (1, .int 0), (0, .ref q_this)]) hx hb dX10_cellsWithAir_3 rfl hl (by decide) rfl (fun ls hl => ?_)
  exact t_L4 gFuel 0 0 s.heap [] hP hD hS ls (lv_sub hl [2, 1, 0] rfl) h
set_option maxRecDepth 20000 in
theorem in_X10_copy_X10 : ∀ w ∈ u_ws RX10 TX10 11, w ∈ wsX10_copy := by decide +kernel
def f_X10_copy (v_rows : Int32) (v_columns : Int32) (v_holes : Int32) (v_out : Int32) (v_night : Int32) (v_air : Nat → Int32) (v_open : Nat → Int32) (v_paste : Nat → Int32) (v_p1_rows : Int32) (v_p1_columns : Int32) (v_p1_holes : Int32) (v_p1_out : Int32) (v_p1_night : Int32) (v_p1_air : Nat → Int32) (v_p1_open : Nat → Int32) (v_p1_paste : Nat → Int32) : Option (Int32 × Int32 × Int32 × Int32 × Int32 × (Nat → Int32) × (Nat → Int32) × (Nat → Int32)) :=
  kb (f_X10_airAs v_air v_p1_air) fun w_2 =>
  chc 0 0 25 25 25 <|
  nm (va_cpy v_p1_paste v_paste (0 : Int32).toNatClampNeg (0 : Int32).toNatClampNeg (25 : Int32).toNatClampNeg) fun w_8 =>
  chc 0 0 4 4 4 <|
  nm (va_cpy v_p1_open v_open (0 : Int32).toNatClampNeg (0 : Int32).toNatClampNeg (4 : Int32).toNatClampNeg) fun w_14 =>
  some (v_p1_rows, v_p1_columns, v_p1_holes, v_p1_out, v_p1_night, w_2, w_14, w_8)

abbrev rm_X10_copy : Room := { frames := 2, cells := 0, slots := 0, locals := 81 }
set_option maxHeartbeats 4000000 in
set_option maxRecDepth 100000 in
theorem c_X10_copy (l : Launch) (D : va_G) (c : Nat → ClassId) (q_this q_p1 q_air q_paste q_open q_met q_line q_p1_air q_p1_paste q_p1_open q_p1_met q_p1_line : Nat) (v_rows : Int32) (v_columns : Int32) (v_holes : Int32) (v_out : Int32) (v_night : Int32) (v_inLine : Int32) (v_air : Nat → Int32) (v_open : Nat → Int32) (v_paste : Nat → Int32) (v_p1_rows : Int32) (v_p1_columns : Int32) (v_p1_holes : Int32) (v_p1_out : Int32) (v_p1_night : Int32) (v_p1_inLine : Int32) (v_p1_air : Nat → Int32) (v_p1_open : Nat → Int32) (v_p1_paste : Nat → Int32) (o_v_rows : Int32) (o_v_columns : Int32) (o_v_holes : Int32) (o_v_out : Int32) (o_v_night : Int32) (o_v_air : Nat → Int32) (o_v_open : Nat → Int32) (o_v_paste : Nat → Int32) (h : f_X10_copy v_rows v_columns v_holes v_out v_night v_air v_open v_paste v_p1_rows v_p1_columns v_p1_holes v_p1_out v_p1_night v_p1_air v_p1_open v_p1_paste = some (o_v_rows, o_v_columns, o_v_holes, o_v_out, o_v_night, o_v_air, o_v_open, o_v_paste)) : gMV l yX10_copy wsX10_copy rm_X10_copy D c [.ref q_this, .ref q_p1] [(q_this, .inr (10, [.int v_rows, .int v_columns, .ref q_air, .ref q_paste, .ref q_open, .int v_holes, .int v_out, .int v_night, .ref q_met, .ref q_line, .int v_inLine])), (q_air, .inl (c 0, 25, .inl v_air)), (q_open, .inl (c 0, 4, .inl v_open)), (q_paste, .inl (c 0, 25, .inl v_paste)), (q_p1, .inr (10, [.int v_p1_rows, .int v_p1_columns, .ref q_p1_air, .ref q_p1_paste, .ref q_p1_open, .int v_p1_holes, .int v_p1_out, .int v_p1_night, .ref q_p1_met, .ref q_p1_line, .int v_p1_inLine])), (q_p1_air, .inl (c 0, 25, .inl v_p1_air)), (q_p1_open, .inl (c 0, 4, .inl v_p1_open)), (q_p1_paste, .inl (c 0, 25, .inl v_p1_paste))] [(q_this, .inr (10, [.int o_v_rows, .int o_v_columns, .ref q_air, .ref q_paste, .ref q_open, .int o_v_holes, .int o_v_out, .int o_v_night, .ref q_met, .ref q_line, .int v_inLine])), (q_air, .inl (c 0, 25, .inl o_v_air)), (q_open, .inl (c 0, 4, .inl o_v_open)), (q_paste, .inl (c 0, 25, .inl o_v_paste)), (q_p1, .inr (10, [.int v_p1_rows, .int v_p1_columns, .ref q_p1_air, .ref q_p1_paste, .ref q_p1_open, .int v_p1_holes, .int v_p1_out, .int v_p1_night, .ref q_p1_met, .ref q_p1_line, .int v_p1_inLine])), (q_p1_air, .inl (c 0, 25, .inl v_p1_air)), (q_p1_open, .inl (c 0, 4, .inl v_p1_open)), (q_p1_paste, .inl (c 0, 25, .inl v_p1_paste))] := by
  refine gMV_of (cc := cX10_copy) (maxL := 2) (rt := none) (by decide +kernel) rfl (Nat.le_of_ble_eq_true rfl) ?_
  intro p e s m below meth co A hF hK hX hP hD hA hS ls hl
  obtain ⟨hx, hb, hr, hts, hown, hlocks, hml⟩ := id hF
  have hl : lv_has ls 2 [(0, .ref q_this), (1, .ref q_p1)] := hl
  unfold f_X10_copy at h
  refine lv_aload_n hx hb dX10_copy_0 rfl (lv_at hl 0 rfl) ?_
  refine lv_aload_n hx hb dX10_copy_1 rfl (lv_at hl 1 rfl) ?_
  refine va_get (D := D) (ci := 10) (v := .int v_p1_rows) (C := RX10) (T := TX10) (N := 11) hx hb hts in_X10_copy_X10 hown hK.1 hP 4 rfl rfl 0 (by decide) (hts (.fieldLink RX10 9 "PaperBubbles$Wall" "rows" "I") (List.mem_of_getElem? (i := 1) rfl)) (fun _ h9 => h9) rfl dX10_copy_2 ?_
  refine va_put (D := D) (ci := 10) (v := .int v_p1_rows) (ty := .int) (C := RX10) (T := TX10) (N := 11) hx hb hts in_X10_copy_X10 tyX10 tyX10_ok nmX10 hown hK.1 hP hD hS 0 rfl rfl 0 (by decide) (hts (.fieldLink RX10 9 "PaperBubbles$Wall" "rows" "I") (List.mem_of_getElem? (i := 1) rfl)) (fun _ h9 => h9) rfl (by decide +kernel) rfl rfl (Nat.le_of_ble_eq_true rfl) dX10_copy_5 (fun H locs hP hD hS => ?_)
  have hP : va_P D gcl [(q_this, .inr (10, [.int v_p1_rows, .int v_columns, .ref q_air, .ref q_paste, .ref q_open, .int v_holes, .int v_out, .int v_night, .ref q_met, .ref q_line, .int v_inLine])), (q_air, .inl (c 0, 25, .inl v_air)), (q_open, .inl (c 0, 4, .inl v_open)), (q_paste, .inl (c 0, 25, .inl v_paste)), (q_p1, .inr (10, [.int v_p1_rows, .int v_p1_columns, .ref q_p1_air, .ref q_p1_paste, .ref q_p1_open, .int v_p1_holes, .int v_p1_out, .int v_p1_night, .ref q_p1_met, .ref q_p1_line, .int v_p1_inLine])), (q_p1_air, .inl (c 0, 25, .inl v_p1_air)), (q_p1_open, .inl (c 0, 4, .inl v_p1_open)), (q_p1_paste, .inl (c 0, 25, .inl v_p1_paste))] H := hP
  have hD : va_D A [(q_this, .inr (10, [.int v_p1_rows, .int v_columns, .ref q_air, .ref q_paste, .ref q_open, .int v_holes, .int v_out, .int v_night, .ref q_met, .ref q_line, .int v_inLine])), (q_air, .inl (c 0, 25, .inl v_air)), (q_open, .inl (c 0, 4, .inl v_open)), (q_paste, .inl (c 0, 25, .inl v_paste)), (q_p1, .inr (10, [.int v_p1_rows, .int v_p1_columns, .ref q_p1_air, .ref q_p1_paste, .ref q_p1_open, .int v_p1_holes, .int v_p1_out, .int v_p1_night, .ref q_p1_met, .ref q_p1_line, .int v_p1_inLine])), (q_p1_air, .inl (c 0, 25, .inl v_p1_air)), (q_p1_open, .inl (c 0, 4, .inl v_p1_open)), (q_p1_paste, .inl (c 0, 25, .inl v_p1_paste))] := hD
  refine lv_aload_n hx hb dX10_copy_8 rfl (lv_at hl 0 rfl) ?_
  refine lv_aload_n hx hb dX10_copy_9 rfl (lv_at hl 1 rfl) ?_
  refine va_get (D := D) (ci := 10) (v := .int v_p1_columns) (C := RX10) (T := TX10) (N := 11) hx hb hts in_X10_copy_X10 hown hK.1 hP 4 rfl rfl 1 (by decide) (hts (.fieldLink RX10 15 "PaperBubbles$Wall" "columns" "I") (List.mem_of_getElem? (i := 2) rfl)) (fun _ h9 => h9) rfl dX10_copy_10 ?_
  refine va_put (D := D) (ci := 10) (v := .int v_p1_columns) (ty := .int) (C := RX10) (T := TX10) (N := 11) hx hb hts in_X10_copy_X10 tyX10 tyX10_ok nmX10 hown hK.1 hP hD hS 0 rfl rfl 1 (by decide) (hts (.fieldLink RX10 15 "PaperBubbles$Wall" "columns" "I") (List.mem_of_getElem? (i := 2) rfl)) (fun _ h9 => h9) rfl (by decide +kernel) rfl rfl (Nat.le_of_ble_eq_true rfl) dX10_copy_13 (fun H locs hP hD hS => ?_)
  have hP : va_P D gcl [(q_this, .inr (10, [.int v_p1_rows, .int v_p1_columns, .ref q_air, .ref q_paste, .ref q_open, .int v_holes, .int v_out, .int v_night, .ref q_met, .ref q_line, .int v_inLine])), (q_air, .inl (c 0, 25, .inl v_air)), (q_open, .inl (c 0, 4, .inl v_open)), (q_paste, .inl (c 0, 25, .inl v_paste)), (q_p1, .inr (10, [.int v_p1_rows, .int v_p1_columns, .ref q_p1_air, .ref q_p1_paste, .ref q_p1_open, .int v_p1_holes, .int v_p1_out, .int v_p1_night, .ref q_p1_met, .ref q_p1_line, .int v_p1_inLine])), (q_p1_air, .inl (c 0, 25, .inl v_p1_air)), (q_p1_open, .inl (c 0, 4, .inl v_p1_open)), (q_p1_paste, .inl (c 0, 25, .inl v_p1_paste))] H := hP
  have hD : va_D A [(q_this, .inr (10, [.int v_p1_rows, .int v_p1_columns, .ref q_air, .ref q_paste, .ref q_open, .int v_holes, .int v_out, .int v_night, .ref q_met, .ref q_line, .int v_inLine])), (q_air, .inl (c 0, 25, .inl v_air)), (q_open, .inl (c 0, 4, .inl v_open)), (q_paste, .inl (c 0, 25, .inl v_paste)), (q_p1, .inr (10, [.int v_p1_rows, .int v_p1_columns, .ref q_p1_air, .ref q_p1_paste, .ref q_p1_open, .int v_p1_holes, .int v_p1_out, .int v_p1_night, .ref q_p1_met, .ref q_p1_line, .int v_p1_inLine])), (q_p1_air, .inl (c 0, 25, .inl v_p1_air)), (q_p1_open, .inl (c 0, 4, .inl v_p1_open)), (q_p1_paste, .inl (c 0, 25, .inl v_p1_paste))] := hD
  refine lv_aload_n hx hb dX10_copy_16 rfl (lv_at hl 0 rfl) ?_
  refine lv_aload_n hx hb dX10_copy_17 rfl (lv_at hl 1 rfl) ?_
  obtain ⟨w_2, hc_1, h⟩ := kb_ok h
  refine gCallV (isC := [0, 1, 4, 5]) (wc := [(q_this, .inr (10, [.int v_p1_rows, .int v_p1_columns, .ref q_air, .ref q_paste, .ref q_open, .int v_holes, .int v_out, .int v_night, .ref q_met, .ref q_line, .int v_inLine])), (q_air, .inl (c 0, 25, .inl v_air)), (q_p1, .inr (10, [.int v_p1_rows, .int v_p1_columns, .ref q_p1_air, .ref q_p1_paste, .ref q_p1_open, .int v_p1_holes, .int v_p1_out, .int v_p1_night, .ref q_p1_met, .ref q_p1_line, .int v_p1_inLine])), (q_p1_air, .inl (c 0, 25, .inl v_p1_air))]) (w1 := [(q_this, .inr (10, [.int v_p1_rows, .int v_p1_columns, .ref q_air, .ref q_paste, .ref q_open, .int v_holes, .int v_out, .int v_night, .ref q_met, .ref q_line, .int v_inLine])), (q_air, .inl (c 0, 25, .inl w_2)), (q_p1, .inr (10, [.int v_p1_rows, .int v_p1_columns, .ref q_p1_air, .ref q_p1_paste, .ref q_p1_open, .int v_p1_holes, .int v_p1_out, .int v_p1_night, .ref q_p1_met, .ref q_p1_line, .int v_p1_inLine])), (q_p1_air, .inl (c 0, 25, .inl v_p1_air))]) hP hD hS hA rfl rfl (va_runV (rm := rm_X10_airAs) (ws := wsX10_airAs) (As := [.ref q_p1]) (rest := []) (gFix hF) (c_X10_airAs l D c q_this q_p1 q_air q_paste q_open q_met q_line q_p1_air q_p1_paste q_p1_open q_p1_met q_p1_line v_p1_rows v_p1_columns v_holes v_out v_night v_inLine v_air v_p1_rows v_p1_columns v_p1_holes v_p1_out v_p1_night v_p1_inLine v_p1_air w_2 hc_1 H.size) (cwV 1 hts gX10_copy_X10_airAs rfl rfl rfl (by decide +kernel) ⟨Nat.le_of_ble_eq_true rfl, Nat.le_of_ble_eq_true rfl⟩) (gPreV (wc := [(q_this, .inr (10, [.int v_p1_rows, .int v_p1_columns, .ref q_air, .ref q_paste, .ref q_open, .int v_holes, .int v_out, .int v_night, .ref q_met, .ref q_line, .int v_inLine])), (q_air, .inl (c 0, 25, .inl v_air)), (q_p1, .inr (10, [.int v_p1_rows, .int v_p1_columns, .ref q_p1_air, .ref q_p1_paste, .ref q_p1_open, .int v_p1_holes, .int v_p1_out, .int v_p1_night, .ref q_p1_met, .ref q_p1_line, .int v_p1_inLine])), (q_p1_air, .inl (c 0, 25, .inl v_p1_air))]) (q := (RX10, TX10, 11)) (ci := 10) (q0 := 0) (isC := [0, 1, 4, 5]) hK hX hS hA hP hD rfl (by decide) rfl rfl) rfl rfl hl.1 rfl (lv_room (Nat.le_of_ble_eq_true rfl)) dX10_copy_18 ⟨Nat.le_of_ble_eq_true rfl, Nat.le_of_ble_eq_true rfl⟩) (fun H locs hP hD hS => ?_)
  have hP : va_P D gcl [(q_this, .inr (10, [.int v_p1_rows, .int v_p1_columns, .ref q_air, .ref q_paste, .ref q_open, .int v_holes, .int v_out, .int v_night, .ref q_met, .ref q_line, .int v_inLine])), (q_air, .inl (c 0, 25, .inl w_2)), (q_open, .inl (c 0, 4, .inl v_open)), (q_paste, .inl (c 0, 25, .inl v_paste)), (q_p1, .inr (10, [.int v_p1_rows, .int v_p1_columns, .ref q_p1_air, .ref q_p1_paste, .ref q_p1_open, .int v_p1_holes, .int v_p1_out, .int v_p1_night, .ref q_p1_met, .ref q_p1_line, .int v_p1_inLine])), (q_p1_air, .inl (c 0, 25, .inl v_p1_air)), (q_p1_open, .inl (c 0, 4, .inl v_p1_open)), (q_p1_paste, .inl (c 0, 25, .inl v_p1_paste))] H := hP
  have hD : va_D A [(q_this, .inr (10, [.int v_p1_rows, .int v_p1_columns, .ref q_air, .ref q_paste, .ref q_open, .int v_holes, .int v_out, .int v_night, .ref q_met, .ref q_line, .int v_inLine])), (q_air, .inl (c 0, 25, .inl w_2)), (q_open, .inl (c 0, 4, .inl v_open)), (q_paste, .inl (c 0, 25, .inl v_paste)), (q_p1, .inr (10, [.int v_p1_rows, .int v_p1_columns, .ref q_p1_air, .ref q_p1_paste, .ref q_p1_open, .int v_p1_holes, .int v_p1_out, .int v_p1_night, .ref q_p1_met, .ref q_p1_line, .int v_p1_inLine])), (q_p1_air, .inl (c 0, 25, .inl v_p1_air)), (q_p1_open, .inl (c 0, 4, .inl v_p1_open)), (q_p1_paste, .inl (c 0, 25, .inl v_p1_paste))] := hD
  refine lv_aload_n hx hb dX10_copy_21 rfl (lv_at hl 1 rfl) ?_
  refine va_get (D := D) (ci := 10) (v := .ref q_p1_paste) (C := RX10) (T := TX10) (N := 11) hx hb hts in_X10_copy_X10 hown hK.1 hP 4 rfl rfl 3 (by decide) (hts (.fieldLink RX10 22 "PaperBubbles$Wall" "paste" "[I") (List.mem_of_getElem? (i := 3) rfl)) (fun _ h9 => h9) rfl dX10_copy_22 ?_
  refine lv_iconst (v := 0) hx hb dX10_copy_25 (by decide) ?_
  refine lv_aload_n hx hb dX10_copy_26 rfl (lv_at hl 0 rfl) ?_
  refine va_get (D := D) (ci := 10) (v := .ref q_paste) (C := RX10) (T := TX10) (N := 11) hx hb hts in_X10_copy_X10 hown hK.1 hP 0 rfl rfl 3 (by decide) (hts (.fieldLink RX10 22 "PaperBubbles$Wall" "paste" "[I") (List.mem_of_getElem? (i := 3) rfl)) (fun _ h9 => h9) rfl dX10_copy_27 ?_
  refine lv_iconst (v := 0) hx hb dX10_copy_30 (by decide) ?_
  refine lv_bipush (v := 25) hx hb dX10_copy_31 (by decide) ?_
  obtain ⟨hz_3, hz_4, hz_5, hz_6, hz_7, h⟩ := chc_ok h
  obtain ⟨w_8, ew_8, h⟩ := nm_ok h
  refine va_copyi hx hb (by rw [hml]; exact hl.1.symm) hown (hts (.methodLink RX10 44 arraycopyName) (List.mem_of_getElem? (i := 4) rfl)) (hts (.native arraycopyName) (List.mem_of_getElem? (i := 5) rfl)) (hts (.static arraycopyName) (List.mem_of_getElem? (i := 6) rfl)) (hts (.initialized "java/lang/System") (List.mem_of_getElem? (i := 7) rfl)) hK.1 hP hD hS 7 3 0 0 rfl rfl rfl rfl rfl hz_3 hz_4 hz_5 hz_6 hz_7 (fun _ _ => rfl) (Nat.le_of_ble_eq_true rfl) (by decide +kernel) dX10_copy_33 (fun H locs hP hD hS => ?_)
  have hP : va_P D gcl [(q_this, .inr (10, [.int v_p1_rows, .int v_p1_columns, .ref q_air, .ref q_paste, .ref q_open, .int v_holes, .int v_out, .int v_night, .ref q_met, .ref q_line, .int v_inLine])), (q_air, .inl (c 0, 25, .inl w_2)), (q_open, .inl (c 0, 4, .inl v_open)), (q_paste, .inl (c 0, 25, .inl w_8)), (q_p1, .inr (10, [.int v_p1_rows, .int v_p1_columns, .ref q_p1_air, .ref q_p1_paste, .ref q_p1_open, .int v_p1_holes, .int v_p1_out, .int v_p1_night, .ref q_p1_met, .ref q_p1_line, .int v_p1_inLine])), (q_p1_air, .inl (c 0, 25, .inl v_p1_air)), (q_p1_open, .inl (c 0, 4, .inl v_p1_open)), (q_p1_paste, .inl (c 0, 25, .inl v_p1_paste))] H := by subst ew_8; exact hP
  have hD : va_D A [(q_this, .inr (10, [.int v_p1_rows, .int v_p1_columns, .ref q_air, .ref q_paste, .ref q_open, .int v_holes, .int v_out, .int v_night, .ref q_met, .ref q_line, .int v_inLine])), (q_air, .inl (c 0, 25, .inl w_2)), (q_open, .inl (c 0, 4, .inl v_open)), (q_paste, .inl (c 0, 25, .inl w_8)), (q_p1, .inr (10, [.int v_p1_rows, .int v_p1_columns, .ref q_p1_air, .ref q_p1_paste, .ref q_p1_open, .int v_p1_holes, .int v_p1_out, .int v_p1_night, .ref q_p1_met, .ref q_p1_line, .int v_p1_inLine])), (q_p1_air, .inl (c 0, 25, .inl v_p1_air)), (q_p1_open, .inl (c 0, 4, .inl v_p1_open)), (q_p1_paste, .inl (c 0, 25, .inl v_p1_paste))] := by subst ew_8; exact hD
  refine lv_aload_n hx hb dX10_copy_36 rfl (lv_at hl 1 rfl) ?_
  refine va_get (D := D) (ci := 10) (v := .ref q_p1_open) (C := RX10) (T := TX10) (N := 11) hx hb hts in_X10_copy_X10 hown hK.1 hP 4 rfl rfl 4 (by decide) (hts (.fieldLink RX10 25 "PaperBubbles$Wall" "open" "[I") (List.mem_of_getElem? (i := 8) rfl)) (fun _ h9 => h9) rfl dX10_copy_37 ?_
  refine lv_iconst (v := 0) hx hb dX10_copy_40 (by decide) ?_
  refine lv_aload_n hx hb dX10_copy_41 rfl (lv_at hl 0 rfl) ?_
  refine va_get (D := D) (ci := 10) (v := .ref q_open) (C := RX10) (T := TX10) (N := 11) hx hb hts in_X10_copy_X10 hown hK.1 hP 0 rfl rfl 4 (by decide) (hts (.fieldLink RX10 25 "PaperBubbles$Wall" "open" "[I") (List.mem_of_getElem? (i := 8) rfl)) (fun _ h9 => h9) rfl dX10_copy_42 ?_
  refine lv_iconst (v := 0) hx hb dX10_copy_45 (by decide) ?_
  refine lv_iconst (v := 4) hx hb dX10_copy_46 (by decide) ?_
  obtain ⟨hz_9, hz_10, hz_11, hz_12, hz_13, h⟩ := chc_ok h
  obtain ⟨w_14, ew_14, h⟩ := nm_ok h
  refine va_copyi hx hb (by rw [hml]; exact hl.1.symm) hown (hts (.methodLink RX10 44 arraycopyName) (List.mem_of_getElem? (i := 4) rfl)) (hts (.native arraycopyName) (List.mem_of_getElem? (i := 5) rfl)) (hts (.static arraycopyName) (List.mem_of_getElem? (i := 6) rfl)) (hts (.initialized "java/lang/System") (List.mem_of_getElem? (i := 7) rfl)) hK.1 hP hD hS 6 2 0 0 rfl rfl rfl rfl rfl hz_9 hz_10 hz_11 hz_12 hz_13 (fun _ _ => rfl) (Nat.le_of_ble_eq_true rfl) (by decide +kernel) dX10_copy_47 (fun H locs hP hD hS => ?_)
  have hP : va_P D gcl [(q_this, .inr (10, [.int v_p1_rows, .int v_p1_columns, .ref q_air, .ref q_paste, .ref q_open, .int v_holes, .int v_out, .int v_night, .ref q_met, .ref q_line, .int v_inLine])), (q_air, .inl (c 0, 25, .inl w_2)), (q_open, .inl (c 0, 4, .inl w_14)), (q_paste, .inl (c 0, 25, .inl w_8)), (q_p1, .inr (10, [.int v_p1_rows, .int v_p1_columns, .ref q_p1_air, .ref q_p1_paste, .ref q_p1_open, .int v_p1_holes, .int v_p1_out, .int v_p1_night, .ref q_p1_met, .ref q_p1_line, .int v_p1_inLine])), (q_p1_air, .inl (c 0, 25, .inl v_p1_air)), (q_p1_open, .inl (c 0, 4, .inl v_p1_open)), (q_p1_paste, .inl (c 0, 25, .inl v_p1_paste))] H := by subst ew_14; exact hP
  have hD : va_D A [(q_this, .inr (10, [.int v_p1_rows, .int v_p1_columns, .ref q_air, .ref q_paste, .ref q_open, .int v_holes, .int v_out, .int v_night, .ref q_met, .ref q_line, .int v_inLine])), (q_air, .inl (c 0, 25, .inl w_2)), (q_open, .inl (c 0, 4, .inl w_14)), (q_paste, .inl (c 0, 25, .inl w_8)), (q_p1, .inr (10, [.int v_p1_rows, .int v_p1_columns, .ref q_p1_air, .ref q_p1_paste, .ref q_p1_open, .int v_p1_holes, .int v_p1_out, .int v_p1_night, .ref q_p1_met, .ref q_p1_line, .int v_p1_inLine])), (q_p1_air, .inl (c 0, 25, .inl v_p1_air)), (q_p1_open, .inl (c 0, 4, .inl v_p1_open)), (q_p1_paste, .inl (c 0, 25, .inl v_p1_paste))] := by subst ew_14; exact hD
  refine lv_aload_n hx hb dX10_copy_50 rfl (lv_at hl 0 rfl) ?_
  refine lv_aload_n hx hb dX10_copy_51 rfl (lv_at hl 1 rfl) ?_
  refine va_get (D := D) (ci := 10) (v := .int v_p1_holes) (C := RX10) (T := TX10) (N := 11) hx hb hts in_X10_copy_X10 hown hK.1 hP 4 rfl rfl 5 (by decide) (hts (.fieldLink RX10 50 "PaperBubbles$Wall" "holes" "I") (List.mem_of_getElem? (i := 9) rfl)) (fun _ h9 => h9) rfl dX10_copy_52 ?_
  refine va_put (D := D) (ci := 10) (v := .int v_p1_holes) (ty := .int) (C := RX10) (T := TX10) (N := 11) hx hb hts in_X10_copy_X10 tyX10 tyX10_ok nmX10 hown hK.1 hP hD hS 0 rfl rfl 5 (by decide) (hts (.fieldLink RX10 50 "PaperBubbles$Wall" "holes" "I") (List.mem_of_getElem? (i := 9) rfl)) (fun _ h9 => h9) rfl (by decide +kernel) rfl rfl (Nat.le_of_ble_eq_true rfl) dX10_copy_55 (fun H locs hP hD hS => ?_)
  have hP : va_P D gcl [(q_this, .inr (10, [.int v_p1_rows, .int v_p1_columns, .ref q_air, .ref q_paste, .ref q_open, .int v_p1_holes, .int v_out, .int v_night, .ref q_met, .ref q_line, .int v_inLine])), (q_air, .inl (c 0, 25, .inl w_2)), (q_open, .inl (c 0, 4, .inl w_14)), (q_paste, .inl (c 0, 25, .inl w_8)), (q_p1, .inr (10, [.int v_p1_rows, .int v_p1_columns, .ref q_p1_air, .ref q_p1_paste, .ref q_p1_open, .int v_p1_holes, .int v_p1_out, .int v_p1_night, .ref q_p1_met, .ref q_p1_line, .int v_p1_inLine])), (q_p1_air, .inl (c 0, 25, .inl v_p1_air)), (q_p1_open, .inl (c 0, 4, .inl v_p1_open)), (q_p1_paste, .inl (c 0, 25, .inl v_p1_paste))] H := hP
  have hD : va_D A [(q_this, .inr (10, [.int v_p1_rows, .int v_p1_columns, .ref q_air, .ref q_paste, .ref q_open, .int v_p1_holes, .int v_out, .int v_night, .ref q_met, .ref q_line, .int v_inLine])), (q_air, .inl (c 0, 25, .inl w_2)), (q_open, .inl (c 0, 4, .inl w_14)), (q_paste, .inl (c 0, 25, .inl w_8)), (q_p1, .inr (10, [.int v_p1_rows, .int v_p1_columns, .ref q_p1_air, .ref q_p1_paste, .ref q_p1_open, .int v_p1_holes, .int v_p1_out, .int v_p1_night, .ref q_p1_met, .ref q_p1_line, .int v_p1_inLine])), (q_p1_air, .inl (c 0, 25, .inl v_p1_air)), (q_p1_open, .inl (c 0, 4, .inl v_p1_open)), (q_p1_paste, .inl (c 0, 25, .inl v_p1_paste))] := hD
  refine lv_aload_n hx hb dX10_copy_58 rfl (lv_at hl 0 rfl) ?_
  refine lv_aload_n hx hb dX10_copy_59 rfl (lv_at hl 1 rfl) ?_
  refine va_get (D := D) (ci := 10) (v := .int v_p1_out) (C := RX10) (T := TX10) (N := 11) hx hb hts in_X10_copy_X10 hown hK.1 hP 4 rfl rfl 6 (by decide) (hts (.fieldLink RX10 53 "PaperBubbles$Wall" "out" "I") (List.mem_of_getElem? (i := 10) rfl)) (fun _ h9 => h9) rfl dX10_copy_60 ?_
  refine va_put (D := D) (ci := 10) (v := .int v_p1_out) (ty := .int) (C := RX10) (T := TX10) (N := 11) hx hb hts in_X10_copy_X10 tyX10 tyX10_ok nmX10 hown hK.1 hP hD hS 0 rfl rfl 6 (by decide) (hts (.fieldLink RX10 53 "PaperBubbles$Wall" "out" "I") (List.mem_of_getElem? (i := 10) rfl)) (fun _ h9 => h9) rfl (by decide +kernel) rfl rfl (Nat.le_of_ble_eq_true rfl) dX10_copy_63 (fun H locs hP hD hS => ?_)
  have hP : va_P D gcl [(q_this, .inr (10, [.int v_p1_rows, .int v_p1_columns, .ref q_air, .ref q_paste, .ref q_open, .int v_p1_holes, .int v_p1_out, .int v_night, .ref q_met, .ref q_line, .int v_inLine])), (q_air, .inl (c 0, 25, .inl w_2)), (q_open, .inl (c 0, 4, .inl w_14)), (q_paste, .inl (c 0, 25, .inl w_8)), (q_p1, .inr (10, [.int v_p1_rows, .int v_p1_columns, .ref q_p1_air, .ref q_p1_paste, .ref q_p1_open, .int v_p1_holes, .int v_p1_out, .int v_p1_night, .ref q_p1_met, .ref q_p1_line, .int v_p1_inLine])), (q_p1_air, .inl (c 0, 25, .inl v_p1_air)), (q_p1_open, .inl (c 0, 4, .inl v_p1_open)), (q_p1_paste, .inl (c 0, 25, .inl v_p1_paste))] H := hP
  have hD : va_D A [(q_this, .inr (10, [.int v_p1_rows, .int v_p1_columns, .ref q_air, .ref q_paste, .ref q_open, .int v_p1_holes, .int v_p1_out, .int v_night, .ref q_met, .ref q_line, .int v_inLine])), (q_air, .inl (c 0, 25, .inl w_2)), (q_open, .inl (c 0, 4, .inl w_14)), (q_paste, .inl (c 0, 25, .inl w_8)), (q_p1, .inr (10, [.int v_p1_rows, .int v_p1_columns, .ref q_p1_air, .ref q_p1_paste, .ref q_p1_open, .int v_p1_holes, .int v_p1_out, .int v_p1_night, .ref q_p1_met, .ref q_p1_line, .int v_p1_inLine])), (q_p1_air, .inl (c 0, 25, .inl v_p1_air)), (q_p1_open, .inl (c 0, 4, .inl v_p1_open)), (q_p1_paste, .inl (c 0, 25, .inl v_p1_paste))] := hD
  refine lv_aload_n hx hb dX10_copy_66 rfl (lv_at hl 0 rfl) ?_
  refine lv_aload_n hx hb dX10_copy_67 rfl (lv_at hl 1 rfl) ?_
  refine va_get (D := D) (ci := 10) (v := .int v_p1_night) (C := RX10) (T := TX10) (N := 11) hx hb hts in_X10_copy_X10 hown hK.1 hP 4 rfl rfl 7 (by decide) (hts (.fieldLink RX10 56 "PaperBubbles$Wall" "night" "I") (List.mem_of_getElem? (i := 11) rfl)) (fun _ h9 => h9) rfl dX10_copy_68 ?_
  refine va_put (D := D) (ci := 10) (v := .int v_p1_night) (ty := .int) (C := RX10) (T := TX10) (N := 11) hx hb hts in_X10_copy_X10 tyX10 tyX10_ok nmX10 hown hK.1 hP hD hS 0 rfl rfl 7 (by decide) (hts (.fieldLink RX10 56 "PaperBubbles$Wall" "night" "I") (List.mem_of_getElem? (i := 11) rfl)) (fun _ h9 => h9) rfl (by decide +kernel) rfl rfl (Nat.le_of_ble_eq_true rfl) dX10_copy_71 (fun H locs hP hD hS => ?_)
  have hP : va_P D gcl [(q_this, .inr (10, [.int v_p1_rows, .int v_p1_columns, .ref q_air, .ref q_paste, .ref q_open, .int v_p1_holes, .int v_p1_out, .int v_p1_night, .ref q_met, .ref q_line, .int v_inLine])), (q_air, .inl (c 0, 25, .inl w_2)), (q_open, .inl (c 0, 4, .inl w_14)), (q_paste, .inl (c 0, 25, .inl w_8)), (q_p1, .inr (10, [.int v_p1_rows, .int v_p1_columns, .ref q_p1_air, .ref q_p1_paste, .ref q_p1_open, .int v_p1_holes, .int v_p1_out, .int v_p1_night, .ref q_p1_met, .ref q_p1_line, .int v_p1_inLine])), (q_p1_air, .inl (c 0, 25, .inl v_p1_air)), (q_p1_open, .inl (c 0, 4, .inl v_p1_open)), (q_p1_paste, .inl (c 0, 25, .inl v_p1_paste))] H := hP
  have hD : va_D A [(q_this, .inr (10, [.int v_p1_rows, .int v_p1_columns, .ref q_air, .ref q_paste, .ref q_open, .int v_p1_holes, .int v_p1_out, .int v_p1_night, .ref q_met, .ref q_line, .int v_inLine])), (q_air, .inl (c 0, 25, .inl w_2)), (q_open, .inl (c 0, 4, .inl w_14)), (q_paste, .inl (c 0, 25, .inl w_8)), (q_p1, .inr (10, [.int v_p1_rows, .int v_p1_columns, .ref q_p1_air, .ref q_p1_paste, .ref q_p1_open, .int v_p1_holes, .int v_p1_out, .int v_p1_night, .ref q_p1_met, .ref q_p1_line, .int v_p1_inLine])), (q_p1_air, .inl (c 0, 25, .inl v_p1_air)), (q_p1_open, .inl (c 0, 4, .inl v_p1_open)), (q_p1_paste, .inl (c 0, 25, .inl v_p1_paste))] := hD
  cases h
  exact gVret hF hP hD hS dX10_copy_74
set_option maxRecDepth 20000 in
theorem in_X10_countBubbles_X10 : ∀ w ∈ u_ws RX10 TX10 11, w ∈ wsX10_countBubbles := by decide +kernel
def f_X10_countBubbles_L12 (v_rows : Int32) (v_columns : Int32) (v_air : Nat → Int32) : Nat → Int32 → Int32 → Int32 → (Nat → Int32) → (Nat → Int32) → Option (Int32 × Int32 × (Nat → Int32) × (Nat → Int32))
  | 0, _, _, _, _, _ => none
  | n + 1, x1, x2, v_inLine, v_line, v_met =>
    if 25 ≤ x2 then
      some (x1, v_inLine, v_line, v_met)
    else
      kb (f_X10_has x2 v_rows v_columns) fun r_5 =>
      if r_5 = 0 then
        some (x1, v_inLine, v_line, v_met)
      else
        kb4 (f_X10_meetBubble x2 v_rows v_columns v_inLine v_air v_line v_met) fun r_8 w_9 w_10 w_11 =>
        if r_8 ≤ 0 then
          nm (x2 + 1) fun t_13 =>
          f_X10_countBubbles_L12 v_rows v_columns v_air n x1 t_13 w_9 w_10 w_11
        else
          nm (x1 + 1) fun t_14 =>
          nm (x2 + 1) fun t_15 =>
          f_X10_countBubbles_L12 v_rows v_columns v_air n t_14 t_15 w_9 w_10 w_11

def f_X10_countBubbles (v_rows : Int32) (v_columns : Int32) (v_inLine : Int32) (v_air : Nat → Int32) (v_line : Nat → Int32) (v_met : Nat → Int32) : Option (Int32 × Int32 × (Nat → Int32) × (Nat → Int32)) :=
  kb (f_J7_fill_53178 0 25 v_met) fun w_2 =>
  f_X10_countBubbles_L12 v_rows v_columns v_air gFuel 0 0 v_inLine v_line w_2

abbrev rm_X10_countBubbles : Room := { frames := 4, cells := 0, slots := 0, locals := 89 }
set_option maxHeartbeats 4000000 in
set_option maxRecDepth 100000 in
theorem c_X10_countBubbles (l : Launch) (D : va_G) (c : Nat → ClassId) (q_this q_air q_paste q_open q_met q_line : Nat) (v_rows : Int32) (v_columns : Int32) (v_holes : Int32) (v_out : Int32) (v_night : Int32) (v_inLine : Int32) (v_air : Nat → Int32) (v_line : Nat → Int32) (v_met : Nat → Int32) (o_r : Int32) (o_v_inLine : Int32) (o_v_line : Nat → Int32) (o_v_met : Nat → Int32) (h : f_X10_countBubbles v_rows v_columns v_inLine v_air v_line v_met = some (o_r, o_v_inLine, o_v_line, o_v_met)) : gMI l yX10_countBubbles wsX10_countBubbles rm_X10_countBubbles D c [.ref q_this] [(q_this, .inr (10, [.int v_rows, .int v_columns, .ref q_air, .ref q_paste, .ref q_open, .int v_holes, .int v_out, .int v_night, .ref q_met, .ref q_line, .int v_inLine])), (q_air, .inl (c 0, 25, .inl v_air)), (q_line, .inl (c 0, 25, .inl v_line)), (q_met, .inl (c 0, 25, .inl v_met))] [(q_this, .inr (10, [.int v_rows, .int v_columns, .ref q_air, .ref q_paste, .ref q_open, .int v_holes, .int v_out, .int v_night, .ref q_met, .ref q_line, .int o_v_inLine])), (q_air, .inl (c 0, 25, .inl v_air)), (q_line, .inl (c 0, 25, .inl o_v_line)), (q_met, .inl (c 0, 25, .inl o_v_met))] o_r := by
  refine gMI_of (cc := cX10_countBubbles) (maxL := 3) (rt := (some .int)) (by decide +kernel) rfl (Nat.le_of_ble_eq_true rfl) ?_
  intro p e s m below meth co A hF hK hX hP hD hA hS ls hl
  obtain ⟨hx, hb, hr, hts, hown, hlocks, hml⟩ := id hF
  have hl : lv_has ls 3 [(0, .ref q_this)] := hl
  have t_L12 : ∀ (n : Nat), ∀ (x1 : Int32) (x2 : Int32) (v_inLine : Int32) (v_line : Nat → Int32) (v_met : Nat → Int32) (H : Heap) (locs : List Loc), va_P D gcl [(q_this, .inr (10, [.int v_rows, .int v_columns, .ref q_air, .ref q_paste, .ref q_open, .int v_holes, .int v_out, .int v_night, .ref q_met, .ref q_line, .int v_inLine])), (q_air, .inl (c 0, 25, .inl v_air)), (q_line, .inl (c 0, 25, .inl v_line)), (q_met, .inl (c 0, 25, .inl v_met))] H → va_D A [(q_this, .inr (10, [.int v_rows, .int v_columns, .ref q_air, .ref q_paste, .ref q_open, .int v_holes, .int v_out, .int v_night, .ref q_met, .ref q_line, .int v_inLine])), (q_air, .inl (c 0, 25, .inl v_air)), (q_line, .inl (c 0, 25, .inl v_line)), (q_met, .inl (c 0, 25, .inl v_met))] → va_S A s.heap H locs → ∀ ls, lv_has ls 3 [(0, .ref q_this), (1, .int x1), (2, .int x2)] → f_X10_countBubbles_L12 v_rows v_columns v_air n x1 x2 v_inLine v_line v_met = some (o_r, o_v_inLine, o_v_line, o_v_met) → W p l e (headSpec wsX10_countBubbles rm_X10_countBubbles).room s m [.ref q_this].toArray below meth co H locs 0 0 (gQI D [(q_this, .inr (10, [.int v_rows, .int v_columns, .ref q_air, .ref q_paste, .ref q_open, .int v_holes, .int v_out, .int v_night, .ref q_met, .ref q_line, .int o_v_inLine])), (q_air, .inl (c 0, 25, .inl v_air)), (q_line, .inl (c 0, 25, .inl o_v_line)), (q_met, .inl (c 0, 25, .inl o_v_met))] o_r A below [.ref q_this] s) (F0 m 12 ls []) := by
    intro n
    induction n with
    | zero => intro x1 x2 v_inLine v_line v_met H locs hP hD hS ls hl h; exact no_ok h
    | succ n ih =>
      intro x1 x2 v_inLine v_line v_met H locs hP hD hS ls hl h
      rw [f_X10_countBubbles_L12] at h
      refine lv_iload_n hx hb dX10_countBubbles_12 rfl (lv_at hl 2 rfl) ?_
      refine lv_bipush (v := 25) hx hb dX10_countBubbles_13 (by decide) ?_
      refine lv_icmp_ge (tgt := 43) hx hb dX10_countBubbles_15 (by decide) (fun c_3 => ?_) (fun c_3 => ?_)
      · have h := it_t c_3 h
        refine lv_iload_n hx hb dX10_countBubbles_43 rfl (lv_at hl 1 rfl) ?_
        cases h
        exact gIret hF hP hD hS rfl dX10_countBubbles_44
      · have h := it_f c_3 h
        refine lv_aload_n hx hb dX10_countBubbles_18 rfl (lv_at hl 0 rfl) ?_
        refine lv_iload_n hx hb dX10_countBubbles_19 rfl (lv_at hl 2 rfl) ?_
        obtain ⟨r_5, hc_4, h⟩ := kb_ok h
        refine gCallI (isC := [0]) (wc := [(q_this, .inr (10, [.int v_rows, .int v_columns, .ref q_air, .ref q_paste, .ref q_open, .int v_holes, .int v_out, .int v_night, .ref q_met, .ref q_line, .int v_inLine]))]) (w1 := [(q_this, .inr (10, [.int v_rows, .int v_columns, .ref q_air, .ref q_paste, .ref q_open, .int v_holes, .int v_out, .int v_night, .ref q_met, .ref q_line, .int v_inLine]))]) hP hD hS hA rfl rfl (va_runV (rm := rm_X10_has) (ws := wsX10_has) (As := [.int x2]) (rest := []) (gFix hF) (c_X10_has l D c q_this q_air q_paste q_open q_met q_line x2 v_rows v_columns v_holes v_out v_night v_inLine r_5 hc_4 H.size) (cwV 1 hts gX10_countBubbles_X10_has rfl rfl rfl (by decide +kernel) ⟨Nat.le_of_ble_eq_true rfl, Nat.le_of_ble_eq_true rfl⟩) (gPreV (wc := [(q_this, .inr (10, [.int v_rows, .int v_columns, .ref q_air, .ref q_paste, .ref q_open, .int v_holes, .int v_out, .int v_night, .ref q_met, .ref q_line, .int v_inLine]))]) (q := (RX10, TX10, 11)) (ci := 10) (q0 := 0) (isC := [0]) hK hX hS hA hP hD rfl (by decide) rfl rfl) rfl rfl hl.1 rfl (lv_room (Nat.le_of_ble_eq_true rfl)) dX10_countBubbles_20 ⟨Nat.le_of_ble_eq_true rfl, Nat.le_of_ble_eq_true rfl⟩) (fun H locs hP hD hS => ?_)
        have hP : va_P D gcl [(q_this, .inr (10, [.int v_rows, .int v_columns, .ref q_air, .ref q_paste, .ref q_open, .int v_holes, .int v_out, .int v_night, .ref q_met, .ref q_line, .int v_inLine])), (q_air, .inl (c 0, 25, .inl v_air)), (q_line, .inl (c 0, 25, .inl v_line)), (q_met, .inl (c 0, 25, .inl v_met))] H := hP
        have hD : va_D A [(q_this, .inr (10, [.int v_rows, .int v_columns, .ref q_air, .ref q_paste, .ref q_open, .int v_holes, .int v_out, .int v_night, .ref q_met, .ref q_line, .int v_inLine])), (q_air, .inl (c 0, 25, .inl v_air)), (q_line, .inl (c 0, 25, .inl v_line)), (q_met, .inl (c 0, 25, .inl v_met))] := hD
        refine lv_if_eq (tgt := 43) hx hb dX10_countBubbles_23 (by decide) (fun c_6 => ?_) (fun c_6 => ?_)
        · have h := it_t c_6 h
          refine lv_iload_n hx hb dX10_countBubbles_43 rfl (lv_at hl 1 rfl) ?_
          cases h
          exact gIret hF hP hD hS rfl dX10_countBubbles_44
        · have h := it_f c_6 h
          refine lv_aload_n hx hb dX10_countBubbles_26 rfl (lv_at hl 0 rfl) ?_
          refine lv_iload_n hx hb dX10_countBubbles_27 rfl (lv_at hl 2 rfl) ?_
          obtain ⟨r_8, w_9, w_10, w_11, hc_7, h⟩ := kb4_ok h
          refine gCallI (isC := [0, 1, 2, 3]) (wc := [(q_this, .inr (10, [.int v_rows, .int v_columns, .ref q_air, .ref q_paste, .ref q_open, .int v_holes, .int v_out, .int v_night, .ref q_met, .ref q_line, .int v_inLine])), (q_air, .inl (c 0, 25, .inl v_air)), (q_line, .inl (c 0, 25, .inl v_line)), (q_met, .inl (c 0, 25, .inl v_met))]) (w1 := [(q_this, .inr (10, [.int v_rows, .int v_columns, .ref q_air, .ref q_paste, .ref q_open, .int v_holes, .int v_out, .int v_night, .ref q_met, .ref q_line, .int w_9])), (q_air, .inl (c 0, 25, .inl v_air)), (q_line, .inl (c 0, 25, .inl w_10)), (q_met, .inl (c 0, 25, .inl w_11))]) hP hD hS hA rfl rfl (va_runV (rm := rm_X10_meetBubble) (ws := wsX10_meetBubble) (As := [.int x2]) (rest := []) (gFix hF) (c_X10_meetBubble l D c q_this q_air q_paste q_open q_met q_line x2 v_rows v_columns v_holes v_out v_night v_inLine v_air v_line v_met r_8 w_9 w_10 w_11 hc_7 H.size) (cwV 1 hts gX10_countBubbles_X10_meetBubble rfl rfl rfl (by decide +kernel) ⟨Nat.le_of_ble_eq_true rfl, Nat.le_of_ble_eq_true rfl⟩) (gPreV (wc := [(q_this, .inr (10, [.int v_rows, .int v_columns, .ref q_air, .ref q_paste, .ref q_open, .int v_holes, .int v_out, .int v_night, .ref q_met, .ref q_line, .int v_inLine])), (q_air, .inl (c 0, 25, .inl v_air)), (q_line, .inl (c 0, 25, .inl v_line)), (q_met, .inl (c 0, 25, .inl v_met))]) (q := (RX10, TX10, 11)) (ci := 10) (q0 := 0) (isC := [0, 1, 2, 3]) hK hX hS hA hP hD rfl (by decide) rfl rfl) rfl rfl hl.1 rfl (lv_room (Nat.le_of_ble_eq_true rfl)) dX10_countBubbles_28 ⟨Nat.le_of_ble_eq_true rfl, Nat.le_of_ble_eq_true rfl⟩) (fun H locs hP hD hS => ?_)
          have hP : va_P D gcl [(q_this, .inr (10, [.int v_rows, .int v_columns, .ref q_air, .ref q_paste, .ref q_open, .int v_holes, .int v_out, .int v_night, .ref q_met, .ref q_line, .int w_9])), (q_air, .inl (c 0, 25, .inl v_air)), (q_line, .inl (c 0, 25, .inl w_10)), (q_met, .inl (c 0, 25, .inl w_11))] H := hP
          have hD : va_D A [(q_this, .inr (10, [.int v_rows, .int v_columns, .ref q_air, .ref q_paste, .ref q_open, .int v_holes, .int v_out, .int v_night, .ref q_met, .ref q_line, .int w_9])), (q_air, .inl (c 0, 25, .inl v_air)), (q_line, .inl (c 0, 25, .inl w_10)), (q_met, .inl (c 0, 25, .inl w_11))] := hD
          refine lv_if_le (tgt := 37) hx hb dX10_countBubbles_31 (by decide) (fun c_12 => ?_) (fun c_12 => ?_)
          · have h := it_t c_12 h
            obtain ⟨t_13, et_13, h⟩ := nm_ok h
            refine lv_iinc (v := t_13) (lv' := [(2, .int t_13), (0, .ref q_this), (1, .int x1)]) hx hb dX10_countBubbles_37 hl (k := 2) rfl (by rw [et_13]; rfl) (by decide) rfl (fun ls hl => ?_)
            refine lv_goto (tgt := 12) hx hb dX10_countBubbles_40 (by decide) ?_
            exact ih x1 t_13 w_9 w_10 w_11 H locs hP hD hS ls (lv_sub hl [1, 2, 0] rfl) h
          · have h := it_f c_12 h
            obtain ⟨t_14, et_14, h⟩ := nm_ok h
            refine lv_iinc (v := t_14) (lv' := [(1, .int t_14), (0, .ref q_this), (2, .int x2)]) hx hb dX10_countBubbles_34 hl (k := 1) rfl (by rw [et_14]; rfl) (by decide) rfl (fun ls hl => ?_)
            obtain ⟨t_15, et_15, h⟩ := nm_ok h
            refine lv_iinc (v := t_15) (lv' := [(2, .int t_15), (1, .int t_14), (0, .ref q_this)]) hx hb dX10_countBubbles_37 hl (k := 2) rfl (by rw [et_15]; rfl) (by decide) rfl (fun ls hl => ?_)
            refine lv_goto (tgt := 12) hx hb dX10_countBubbles_40 (by decide) ?_
            exact ih t_14 t_15 w_9 w_10 w_11 H locs hP hD hS ls (lv_sub hl [2, 1, 0] rfl) h
  unfold f_X10_countBubbles at h
  refine lv_aload_n hx hb dX10_countBubbles_0 rfl (lv_at hl 0 rfl) ?_
  refine va_get (D := D) (ci := 10) (v := .ref q_met) (C := RX10) (T := TX10) (N := 11) hx hb hts in_X10_countBubbles_X10 hown hK.1 hP 0 rfl rfl 8 (by decide) (hts (.fieldLink RX10 28 "PaperBubbles$Wall" "met" "[I") (List.mem_of_getElem? (i := 1) rfl)) (fun _ h9 => h9) rfl dX10_countBubbles_1 ?_
  refine lv_iconst (v := 0) hx hb dX10_countBubbles_4 (by decide) ?_
  obtain ⟨w_2, hc_1, h⟩ := kb_ok h
  refine gCallV (isC := [3]) (wc := [(q_met, .inl (c 0, 25, .inl v_met))]) (w1 := [(q_met, .inl (c 0, 25, .inl w_2))]) hP hD hS hA rfl rfl (va_runS (rm := rm_J7_fill_53178) (ws := wsJ7_fill_53178) (As := [.ref q_met, .int 0]) (rest := []) (gFix hF) (c_J7_fill_53178 l D c q_met 25 0 v_met w_2 hc_1 s.heap.size) (va_cwS 2 hts gX10_countBubbles_J7_fill_53178 rfl rfl rfl (by decide +kernel) ⟨Nat.le_of_ble_eq_true rfl, Nat.le_of_ble_eq_true rfl⟩) (gPreS (wc := [(q_met, .inl (c 0, 25, .inl v_met))]) (isC := [3]) hK hX hS hA hP hD rfl (by decide)) rfl rfl hl.1 rfl (lv_room (Nat.le_of_ble_eq_true rfl)) dX10_countBubbles_5 ⟨Nat.le_of_ble_eq_true rfl, Nat.le_of_ble_eq_true rfl⟩) (fun H locs hP hD hS => ?_)
  have hP : va_P D gcl [(q_this, .inr (10, [.int v_rows, .int v_columns, .ref q_air, .ref q_paste, .ref q_open, .int v_holes, .int v_out, .int v_night, .ref q_met, .ref q_line, .int v_inLine])), (q_air, .inl (c 0, 25, .inl v_air)), (q_line, .inl (c 0, 25, .inl v_line)), (q_met, .inl (c 0, 25, .inl w_2))] H := hP
  have hD : va_D A [(q_this, .inr (10, [.int v_rows, .int v_columns, .ref q_air, .ref q_paste, .ref q_open, .int v_holes, .int v_out, .int v_night, .ref q_met, .ref q_line, .int v_inLine])), (q_air, .inl (c 0, 25, .inl v_air)), (q_line, .inl (c 0, 25, .inl v_line)), (q_met, .inl (c 0, 25, .inl w_2))] := hD
  refine lv_iconst (v := 0) hx hb dX10_countBubbles_8 (by decide) ?_
  refine lv_istore_n (lv' := [(1, .int 0), (0, .ref q_this)]) hx hb dX10_countBubbles_9 rfl hl (by decide) rfl (fun ls hl => ?_)
  refine lv_iconst (v := 0) hx hb dX10_countBubbles_10 (by decide) ?_
  refine lv_istore_n (lv' := [(2, .int 0), (1, .int 0), (0, .ref q_this)]) hx hb dX10_countBubbles_11 rfl hl (by decide) rfl (fun ls hl => ?_)
  exact t_L12 gFuel 0 0 v_inLine v_line w_2 H locs hP hD hS ls (lv_sub hl [2, 1, 0] rfl) h
set_option maxRecDepth 20000 in
theorem in_X10_goesOut_X10 : ∀ w ∈ u_ws RX10 TX10 11, w ∈ wsX10_goesOut := by decide +kernel
def f_X10_goesOut (a_1 : Int32) (v_out : Int32) : Option (Int32) :=
  nm (v_out + a_1) fun t_1 =>
  nm (if t_1 < 99999 then t_1 else 99999) fun t_2 =>
  some t_2

abbrev rm_X10_goesOut : Room := { frames := 1, cells := 0, slots := 0, locals := 21 }
set_option maxHeartbeats 4000000 in
set_option maxRecDepth 100000 in
theorem c_X10_goesOut (l : Launch) (D : va_G) (c : Nat → ClassId) (q_this q_air q_paste q_open q_met q_line : Nat) (a_1 : Int32) (v_rows : Int32) (v_columns : Int32) (v_holes : Int32) (v_out : Int32) (v_night : Int32) (v_inLine : Int32) (o_v_out : Int32) (h : f_X10_goesOut a_1 v_out = some o_v_out) : gMV l yX10_goesOut wsX10_goesOut rm_X10_goesOut D c [.ref q_this, .int a_1] [(q_this, .inr (10, [.int v_rows, .int v_columns, .ref q_air, .ref q_paste, .ref q_open, .int v_holes, .int v_out, .int v_night, .ref q_met, .ref q_line, .int v_inLine]))] [(q_this, .inr (10, [.int v_rows, .int v_columns, .ref q_air, .ref q_paste, .ref q_open, .int v_holes, .int o_v_out, .int v_night, .ref q_met, .ref q_line, .int v_inLine]))] := by
  refine gMV_of (cc := cX10_goesOut) (maxL := 2) (rt := none) (by decide +kernel) rfl (Nat.le_of_ble_eq_true rfl) ?_
  intro p e s m below meth co A hF hK hX hP hD hA hS ls hl
  obtain ⟨hx, hb, hr, hts, hown, hlocks, hml⟩ := id hF
  have hl : lv_has ls 2 [(0, .ref q_this), (1, .int a_1)] := hl
  unfold f_X10_goesOut at h
  refine lv_aload_n hx hb dX10_goesOut_0 rfl (lv_at hl 0 rfl) ?_
  refine lv_ldc (v := 99999) hx hb hown (hts (.constant RX10 91 (99999)) (List.mem_of_getElem? (i := 1) rfl)) dX10_goesOut_1 ?_
  refine lv_aload_n hx hb dX10_goesOut_3 rfl (lv_at hl 0 rfl) ?_
  refine va_get (D := D) (ci := 10) (v := .int v_out) (C := RX10) (T := TX10) (N := 11) hx hb hts in_X10_goesOut_X10 hown hK.1 hP 0 rfl rfl 6 (by decide) (hts (.fieldLink RX10 53 "PaperBubbles$Wall" "out" "I") (List.mem_of_getElem? (i := 2) rfl)) (fun _ h9 => h9) rfl dX10_goesOut_4 ?_
  refine lv_iload_n hx hb dX10_goesOut_7 rfl (lv_at hl 1 rfl) ?_
  refine lv_iadd hx hb dX10_goesOut_8 ?_
  obtain ⟨t_1, et_1, h⟩ := nm_ok h
  refine gTop et_1 ?_
  refine va_mmin hx hb (by rw [hml]; exact hl.1.symm) hown (hts (.methodLink RX10 82 Lib.Math.min.name) (List.mem_of_getElem? (i := 3) rfl)) (hts (.static Lib.Math.min.name) (List.mem_of_getElem? (i := 4) rfl)) (hts (.initialized "java/lang/Math") (List.mem_of_getElem? (i := 5) rfl)) (hts (.code Lib.Math.min.name Lib.Math.min.code 2 (some .int)) (List.mem_of_getElem? (i := 6) rfl)) (Nat.le_of_ble_eq_true rfl) (by first | exact Nat.le_of_ble_eq_true rfl | decide) (Nat.le_of_ble_eq_true rfl) (Nat.le_of_ble_eq_true rfl) dX10_goesOut_9 ?_
  obtain ⟨t_2, et_2, h⟩ := nm_ok h
  refine gTop et_2 ?_
  refine va_put (D := D) (ci := 10) (v := .int t_2) (ty := .int) (C := RX10) (T := TX10) (N := 11) hx hb hts in_X10_goesOut_X10 tyX10 tyX10_ok nmX10 hown hK.1 hP hD hS 0 rfl rfl 6 (by decide) (hts (.fieldLink RX10 53 "PaperBubbles$Wall" "out" "I") (List.mem_of_getElem? (i := 2) rfl)) (fun _ h9 => h9) rfl (by decide +kernel) rfl rfl (Nat.le_of_ble_eq_true rfl) dX10_goesOut_12 (fun H locs hP hD hS => ?_)
  have hP : va_P D gcl [(q_this, .inr (10, [.int v_rows, .int v_columns, .ref q_air, .ref q_paste, .ref q_open, .int v_holes, .int t_2, .int v_night, .ref q_met, .ref q_line, .int v_inLine]))] H := hP
  have hD : va_D A [(q_this, .inr (10, [.int v_rows, .int v_columns, .ref q_air, .ref q_paste, .ref q_open, .int v_holes, .int t_2, .int v_night, .ref q_met, .ref q_line, .int v_inLine]))] := hD
  cases h
  exact gVret hF hP hD hS dX10_goesOut_15
set_option maxRecDepth 20000 in
theorem in_X10_isLit_X10 : ∀ w ∈ u_ws RX10 TX10 11, w ∈ wsX10_isLit := by decide +kernel
def f_X10_isLit_L54 (a_1 : Int32) (v_air : Nat → Int32) : Option (Int32) :=
  chi a_1 25 <|
  if (v_air a_1.toNatClampNeg) ≤ 0 then
    some 0
  else
    some 1

def f_X10_isLit_L10 (a_1 : Int32) (a_2 : Int32) (v_rows : Int32) (v_columns : Int32) (v_air : Nat → Int32) : Nat → Int32 → Int32 → Option (Int32)
  | 0, _, _ => none
  | n + 1, x3, x4 =>
    if 5 ≤ x4 then
      f_X10_isLit_L54 a_1 v_air
    else
      kb (f_X10_has x3 v_rows v_columns) fun r_5 =>
      if r_5 = 0 then
        f_X10_isLit_L54 a_1 v_air
      else
        chi x3 25 <|
        nm (v_air x3.toNatClampNeg) fun t_8 =>
        chi a_1 25 <|
        if t_8 < (v_air a_1.toNatClampNeg) then
          kb (f_X10_beside x3 a_2 v_rows v_columns) fun r_12 =>
          nm (x4 + 1) fun t_13 =>
          f_X10_isLit_L10 a_1 a_2 v_rows v_columns v_air n r_12 t_13
        else
          some 0

def f_X10_isLit (a_1 : Int32) (a_2 : Int32) (v_rows : Int32) (v_columns : Int32) (v_air : Nat → Int32) : Option (Int32) :=
  kb (f_X10_beside a_1 a_2 v_rows v_columns) fun r_2 =>
  f_X10_isLit_L10 a_1 a_2 v_rows v_columns v_air gFuel r_2 0

abbrev rm_X10_isLit : Room := { frames := 3, cells := 0, slots := 0, locals := 65 }
set_option maxHeartbeats 4000000 in
set_option maxRecDepth 100000 in
theorem c_X10_isLit (l : Launch) (D : va_G) (c : Nat → ClassId) (q_this q_air q_paste q_open q_met q_line : Nat) (a_1 : Int32) (a_2 : Int32) (v_rows : Int32) (v_columns : Int32) (v_holes : Int32) (v_out : Int32) (v_night : Int32) (v_inLine : Int32) (v_air : Nat → Int32) (o_r : Int32) (h : f_X10_isLit a_1 a_2 v_rows v_columns v_air = some o_r) : gMI l yX10_isLit wsX10_isLit rm_X10_isLit D c [.ref q_this, .int a_1, .int a_2] [(q_this, .inr (10, [.int v_rows, .int v_columns, .ref q_air, .ref q_paste, .ref q_open, .int v_holes, .int v_out, .int v_night, .ref q_met, .ref q_line, .int v_inLine])), (q_air, .inl (c 0, 25, .inl v_air))] [(q_this, .inr (10, [.int v_rows, .int v_columns, .ref q_air, .ref q_paste, .ref q_open, .int v_holes, .int v_out, .int v_night, .ref q_met, .ref q_line, .int v_inLine])), (q_air, .inl (c 0, 25, .inl v_air))] o_r := by
  refine gMI_of (cc := cX10_isLit) (maxL := 5) (rt := (some .boolean)) (by decide +kernel) rfl (Nat.le_of_ble_eq_true rfl) ?_
  intro p e s m below meth co A hF hK hX hP hD hA hS ls hl
  obtain ⟨hx, hb, hr, hts, hown, hlocks, hml⟩ := id hF
  have hl : lv_has ls 5 [(0, .ref q_this), (1, .int a_1), (2, .int a_2)] := hl
  have t_L54 : ∀ (H : Heap) (locs : List Loc), va_P D gcl [(q_this, .inr (10, [.int v_rows, .int v_columns, .ref q_air, .ref q_paste, .ref q_open, .int v_holes, .int v_out, .int v_night, .ref q_met, .ref q_line, .int v_inLine])), (q_air, .inl (c 0, 25, .inl v_air))] H → va_D A [(q_this, .inr (10, [.int v_rows, .int v_columns, .ref q_air, .ref q_paste, .ref q_open, .int v_holes, .int v_out, .int v_night, .ref q_met, .ref q_line, .int v_inLine])), (q_air, .inl (c 0, 25, .inl v_air))] → va_S A s.heap H locs → ∀ ls, lv_has ls 5 [(0, .ref q_this), (1, .int a_1)] → f_X10_isLit_L54 a_1 v_air = some o_r → W p l e (headSpec wsX10_isLit rm_X10_isLit).room s m [.ref q_this, .int a_1, .int a_2].toArray below meth co H locs 0 0 (gQI D [(q_this, .inr (10, [.int v_rows, .int v_columns, .ref q_air, .ref q_paste, .ref q_open, .int v_holes, .int v_out, .int v_night, .ref q_met, .ref q_line, .int v_inLine])), (q_air, .inl (c 0, 25, .inl v_air))] o_r A below [.ref q_this, .int a_1, .int a_2] s) (F0 m 54 ls []) := by
    intro  H locs hP hD hS ls hl h
    unfold f_X10_isLit_L54 at h
    refine lv_aload_n hx hb dX10_isLit_54 rfl (lv_at hl 0 rfl) ?_
    refine va_get (D := D) (ci := 10) (v := .ref q_air) (C := RX10) (T := TX10) (N := 11) hx hb hts in_X10_isLit_X10 hown hK.1 hP 0 rfl rfl 2 (by decide) (hts (.fieldLink RX10 18 "PaperBubbles$Wall" "air" "[I") (List.mem_of_getElem? (i := 1) rfl)) (fun _ h9 => h9) rfl dX10_isLit_55 ?_
    refine lv_iload_n hx hb dX10_isLit_58 rfl (lv_at hl 1 rfl) ?_
    obtain ⟨hi_14, h⟩ := chi_ok h
    refine va_iald hx hb hK.1 hP 1 0 rfl rfl hi_14 dX10_isLit_59 ?_
    refine lv_if_le (tgt := 67) hx hb dX10_isLit_60 (by decide) (fun c_15 => ?_) (fun c_15 => ?_)
    · have h := it_t c_15 h
      refine lv_iconst (v := 0) hx hb dX10_isLit_67 (by decide) ?_
      cases h
      exact gIret hF hP hD hS rfl dX10_isLit_68
    · have h := it_f c_15 h
      refine lv_iconst (v := 1) hx hb dX10_isLit_63 (by decide) ?_
      refine lv_goto (tgt := 68) hx hb dX10_isLit_64 (by decide) ?_
      cases h
      exact gIret hF hP hD hS rfl dX10_isLit_68
  have t_L10 : ∀ (n : Nat), ∀ (x3 : Int32) (x4 : Int32) (H : Heap) (locs : List Loc), va_P D gcl [(q_this, .inr (10, [.int v_rows, .int v_columns, .ref q_air, .ref q_paste, .ref q_open, .int v_holes, .int v_out, .int v_night, .ref q_met, .ref q_line, .int v_inLine])), (q_air, .inl (c 0, 25, .inl v_air))] H → va_D A [(q_this, .inr (10, [.int v_rows, .int v_columns, .ref q_air, .ref q_paste, .ref q_open, .int v_holes, .int v_out, .int v_night, .ref q_met, .ref q_line, .int v_inLine])), (q_air, .inl (c 0, 25, .inl v_air))] → va_S A s.heap H locs → ∀ ls, lv_has ls 5 [(0, .ref q_this), (1, .int a_1), (2, .int a_2), (3, .int x3), (4, .int x4)] → f_X10_isLit_L10 a_1 a_2 v_rows v_columns v_air n x3 x4 = some o_r → W p l e (headSpec wsX10_isLit rm_X10_isLit).room s m [.ref q_this, .int a_1, .int a_2].toArray below meth co H locs 0 0 (gQI D [(q_this, .inr (10, [.int v_rows, .int v_columns, .ref q_air, .ref q_paste, .ref q_open, .int v_holes, .int v_out, .int v_night, .ref q_met, .ref q_line, .int v_inLine])), (q_air, .inl (c 0, 25, .inl v_air))] o_r A below [.ref q_this, .int a_1, .int a_2] s) (F0 m 10 ls []) := by
    intro n
    induction n with
    | zero => intro x3 x4 H locs hP hD hS ls hl h; exact no_ok h
    | succ n ih =>
      intro x3 x4 H locs hP hD hS ls hl h
      rw [f_X10_isLit_L10] at h
      refine lv_iload hx hb dX10_isLit_10 (lv_at hl 4 rfl) ?_
      refine lv_iconst (v := 5) hx hb dX10_isLit_12 (by decide) ?_
      refine lv_icmp_ge (tgt := 54) hx hb dX10_isLit_13 (by decide) (fun c_3 => ?_) (fun c_3 => ?_)
      · have h := it_t c_3 h
        exact t_L54  H locs hP hD hS ls (lv_sub hl [0, 1] rfl) h
      · have h := it_f c_3 h
        refine lv_aload_n hx hb dX10_isLit_16 rfl (lv_at hl 0 rfl) ?_
        refine lv_iload_n hx hb dX10_isLit_17 rfl (lv_at hl 3 rfl) ?_
        obtain ⟨r_5, hc_4, h⟩ := kb_ok h
        refine gCallI (isC := [0]) (wc := [(q_this, .inr (10, [.int v_rows, .int v_columns, .ref q_air, .ref q_paste, .ref q_open, .int v_holes, .int v_out, .int v_night, .ref q_met, .ref q_line, .int v_inLine]))]) (w1 := [(q_this, .inr (10, [.int v_rows, .int v_columns, .ref q_air, .ref q_paste, .ref q_open, .int v_holes, .int v_out, .int v_night, .ref q_met, .ref q_line, .int v_inLine]))]) hP hD hS hA rfl rfl (va_runV (rm := rm_X10_has) (ws := wsX10_has) (As := [.int x3]) (rest := []) (gFix hF) (c_X10_has l D c q_this q_air q_paste q_open q_met q_line x3 v_rows v_columns v_holes v_out v_night v_inLine r_5 hc_4 H.size) (cwV 1 hts gX10_isLit_X10_has rfl rfl rfl (by decide +kernel) ⟨Nat.le_of_ble_eq_true rfl, Nat.le_of_ble_eq_true rfl⟩) (gPreV (wc := [(q_this, .inr (10, [.int v_rows, .int v_columns, .ref q_air, .ref q_paste, .ref q_open, .int v_holes, .int v_out, .int v_night, .ref q_met, .ref q_line, .int v_inLine]))]) (q := (RX10, TX10, 11)) (ci := 10) (q0 := 0) (isC := [0]) hK hX hS hA hP hD rfl (by decide) rfl rfl) rfl rfl hl.1 rfl (lv_room (Nat.le_of_ble_eq_true rfl)) dX10_isLit_18 ⟨Nat.le_of_ble_eq_true rfl, Nat.le_of_ble_eq_true rfl⟩) (fun H locs hP hD hS => ?_)
        have hP : va_P D gcl [(q_this, .inr (10, [.int v_rows, .int v_columns, .ref q_air, .ref q_paste, .ref q_open, .int v_holes, .int v_out, .int v_night, .ref q_met, .ref q_line, .int v_inLine])), (q_air, .inl (c 0, 25, .inl v_air))] H := hP
        have hD : va_D A [(q_this, .inr (10, [.int v_rows, .int v_columns, .ref q_air, .ref q_paste, .ref q_open, .int v_holes, .int v_out, .int v_night, .ref q_met, .ref q_line, .int v_inLine])), (q_air, .inl (c 0, 25, .inl v_air))] := hD
        refine lv_if_eq (tgt := 54) hx hb dX10_isLit_21 (by decide) (fun c_6 => ?_) (fun c_6 => ?_)
        · have h := it_t c_6 h
          exact t_L54  H locs hP hD hS ls (lv_sub hl [0, 1] rfl) h
        · have h := it_f c_6 h
          refine lv_aload_n hx hb dX10_isLit_24 rfl (lv_at hl 0 rfl) ?_
          refine va_get (D := D) (ci := 10) (v := .ref q_air) (C := RX10) (T := TX10) (N := 11) hx hb hts in_X10_isLit_X10 hown hK.1 hP 0 rfl rfl 2 (by decide) (hts (.fieldLink RX10 18 "PaperBubbles$Wall" "air" "[I") (List.mem_of_getElem? (i := 1) rfl)) (fun _ h9 => h9) rfl dX10_isLit_25 ?_
          refine lv_iload_n hx hb dX10_isLit_28 rfl (lv_at hl 3 rfl) ?_
          obtain ⟨hi_7, h⟩ := chi_ok h
          refine va_iald hx hb hK.1 hP 1 0 rfl rfl hi_7 dX10_isLit_29 ?_
          obtain ⟨t_8, et_8, h⟩ := nm_ok h
          refine gTop et_8 ?_
          refine lv_aload_n hx hb dX10_isLit_30 rfl (lv_at hl 0 rfl) ?_
          refine va_get (D := D) (ci := 10) (v := .ref q_air) (C := RX10) (T := TX10) (N := 11) hx hb hts in_X10_isLit_X10 hown hK.1 hP 0 rfl rfl 2 (by decide) (hts (.fieldLink RX10 18 "PaperBubbles$Wall" "air" "[I") (List.mem_of_getElem? (i := 1) rfl)) (fun _ h9 => h9) rfl dX10_isLit_31 ?_
          refine lv_iload_n hx hb dX10_isLit_34 rfl (lv_at hl 1 rfl) ?_
          obtain ⟨hi_9, h⟩ := chi_ok h
          refine va_iald hx hb hK.1 hP 1 0 rfl rfl hi_9 dX10_isLit_35 ?_
          refine lv_icmp_lt (tgt := 41) hx hb dX10_isLit_36 (by decide) (fun c_10 => ?_) (fun c_10 => ?_)
          · have h := it_t c_10 h
            refine lv_aload_n hx hb dX10_isLit_41 rfl (lv_at hl 0 rfl) ?_
            refine lv_iload_n hx hb dX10_isLit_42 rfl (lv_at hl 3 rfl) ?_
            refine lv_iload_n hx hb dX10_isLit_43 rfl (lv_at hl 2 rfl) ?_
            obtain ⟨r_12, hc_11, h⟩ := kb_ok h
            refine gCallI (isC := [0]) (wc := [(q_this, .inr (10, [.int v_rows, .int v_columns, .ref q_air, .ref q_paste, .ref q_open, .int v_holes, .int v_out, .int v_night, .ref q_met, .ref q_line, .int v_inLine]))]) (w1 := [(q_this, .inr (10, [.int v_rows, .int v_columns, .ref q_air, .ref q_paste, .ref q_open, .int v_holes, .int v_out, .int v_night, .ref q_met, .ref q_line, .int v_inLine]))]) hP hD hS hA rfl rfl (va_runV (rm := rm_X10_beside) (ws := wsX10_beside) (As := [.int x3, .int a_2]) (rest := []) (gFix hF) (c_X10_beside l D c q_this q_air q_paste q_open q_met q_line x3 a_2 v_rows v_columns v_holes v_out v_night v_inLine r_12 hc_11 H.size) (cwV 2 hts gX10_isLit_X10_beside rfl rfl rfl (by decide +kernel) ⟨Nat.le_of_ble_eq_true rfl, Nat.le_of_ble_eq_true rfl⟩) (gPreV (wc := [(q_this, .inr (10, [.int v_rows, .int v_columns, .ref q_air, .ref q_paste, .ref q_open, .int v_holes, .int v_out, .int v_night, .ref q_met, .ref q_line, .int v_inLine]))]) (q := (RX10, TX10, 11)) (ci := 10) (q0 := 0) (isC := [0]) hK hX hS hA hP hD rfl (by decide) rfl rfl) rfl rfl hl.1 rfl (lv_room (Nat.le_of_ble_eq_true rfl)) dX10_isLit_44 ⟨Nat.le_of_ble_eq_true rfl, Nat.le_of_ble_eq_true rfl⟩) (fun H locs hP hD hS => ?_)
            have hP : va_P D gcl [(q_this, .inr (10, [.int v_rows, .int v_columns, .ref q_air, .ref q_paste, .ref q_open, .int v_holes, .int v_out, .int v_night, .ref q_met, .ref q_line, .int v_inLine])), (q_air, .inl (c 0, 25, .inl v_air))] H := hP
            have hD : va_D A [(q_this, .inr (10, [.int v_rows, .int v_columns, .ref q_air, .ref q_paste, .ref q_open, .int v_holes, .int v_out, .int v_night, .ref q_met, .ref q_line, .int v_inLine])), (q_air, .inl (c 0, 25, .inl v_air))] := hD
            refine lv_istore_n (lv' := [(3, .int r_12), (0, .ref q_this), (1, .int a_1), (2, .int a_2), (4, .int x4)]) hx hb dX10_isLit_47 rfl hl (by decide) rfl (fun ls hl => ?_)
            obtain ⟨t_13, et_13, h⟩ := nm_ok h
            refine lv_iinc (v := t_13) (lv' := [(4, .int t_13), (3, .int r_12), (0, .ref q_this), (1, .int a_1), (2, .int a_2)]) hx hb dX10_isLit_48 hl (k := 4) rfl (by rw [et_13]; rfl) (by decide) rfl (fun ls hl => ?_)
            refine lv_goto (tgt := 10) hx hb dX10_isLit_51 (by decide) ?_
            exact ih r_12 t_13 H locs hP hD hS ls (lv_sub hl [2, 3, 4, 1, 0] rfl) h
          · have h := it_f c_10 h
            refine lv_iconst (v := 0) hx hb dX10_isLit_39 (by decide) ?_
            cases h
            exact gIret hF hP hD hS rfl dX10_isLit_40
  unfold f_X10_isLit at h
  refine lv_aload_n hx hb dX10_isLit_0 rfl (lv_at hl 0 rfl) ?_
  refine lv_iload_n hx hb dX10_isLit_1 rfl (lv_at hl 1 rfl) ?_
  refine lv_iload_n hx hb dX10_isLit_2 rfl (lv_at hl 2 rfl) ?_
  obtain ⟨r_2, hc_1, h⟩ := kb_ok h
  refine gCallI (isC := [0]) (wc := [(q_this, .inr (10, [.int v_rows, .int v_columns, .ref q_air, .ref q_paste, .ref q_open, .int v_holes, .int v_out, .int v_night, .ref q_met, .ref q_line, .int v_inLine]))]) (w1 := [(q_this, .inr (10, [.int v_rows, .int v_columns, .ref q_air, .ref q_paste, .ref q_open, .int v_holes, .int v_out, .int v_night, .ref q_met, .ref q_line, .int v_inLine]))]) hP hD hS hA rfl rfl (va_runV (rm := rm_X10_beside) (ws := wsX10_beside) (As := [.int a_1, .int a_2]) (rest := []) (gFix hF) (c_X10_beside l D c q_this q_air q_paste q_open q_met q_line a_1 a_2 v_rows v_columns v_holes v_out v_night v_inLine r_2 hc_1 s.heap.size) (cwV 2 hts gX10_isLit_X10_beside rfl rfl rfl (by decide +kernel) ⟨Nat.le_of_ble_eq_true rfl, Nat.le_of_ble_eq_true rfl⟩) (gPreV (wc := [(q_this, .inr (10, [.int v_rows, .int v_columns, .ref q_air, .ref q_paste, .ref q_open, .int v_holes, .int v_out, .int v_night, .ref q_met, .ref q_line, .int v_inLine]))]) (q := (RX10, TX10, 11)) (ci := 10) (q0 := 0) (isC := [0]) hK hX hS hA hP hD rfl (by decide) rfl rfl) rfl rfl hl.1 rfl (lv_room (Nat.le_of_ble_eq_true rfl)) dX10_isLit_3 ⟨Nat.le_of_ble_eq_true rfl, Nat.le_of_ble_eq_true rfl⟩) (fun H locs hP hD hS => ?_)
  have hP : va_P D gcl [(q_this, .inr (10, [.int v_rows, .int v_columns, .ref q_air, .ref q_paste, .ref q_open, .int v_holes, .int v_out, .int v_night, .ref q_met, .ref q_line, .int v_inLine])), (q_air, .inl (c 0, 25, .inl v_air))] H := hP
  have hD : va_D A [(q_this, .inr (10, [.int v_rows, .int v_columns, .ref q_air, .ref q_paste, .ref q_open, .int v_holes, .int v_out, .int v_night, .ref q_met, .ref q_line, .int v_inLine])), (q_air, .inl (c 0, 25, .inl v_air))] := hD
  refine lv_istore_n (lv' := [(3, .int r_2), (0, .ref q_this), (1, .int a_1), (2, .int a_2)]) hx hb dX10_isLit_6 rfl hl (by decide) rfl (fun ls hl => ?_)
  refine lv_iconst (v := 0) hx hb dX10_isLit_7 (by decide) ?_
  refine lv_istore (lv' := [(4, .int 0), (3, .int r_2), (0, .ref q_this), (1, .int a_1), (2, .int a_2)]) hx hb dX10_isLit_8 hl (by decide) rfl (fun ls hl => ?_)
  exact t_L10 gFuel r_2 0 H locs hP hD hS ls (lv_sub hl [2, 3, 4, 1, 0] rfl) h
def f_X11_within (a_0 : Int32) (a_1 : Int32) (a_2 : Int32) : Option (Int32) :=
  if a_0 < a_1 then
    some 0
  else
    if a_2 < a_0 then
      some 0
    else
      some 1

abbrev rm_X11_within : Room := { frames := 0, cells := 0, slots := 0, locals := 0 }
set_option maxHeartbeats 4000000 in
set_option maxRecDepth 100000 in
theorem c_X11_within (l : Launch) (D : va_G) (c : Nat → ClassId) (a_0 : Int32) (a_1 : Int32) (a_2 : Int32) (o_r : Int32) (h : f_X11_within a_0 a_1 a_2 = some o_r) : gMI l yX11_within wsX11_within rm_X11_within D c [.int a_0, .int a_1, .int a_2] [] [] o_r := by
  refine gMI_of (cc := cX11_within) (maxL := 3) (rt := (some .boolean)) (by decide +kernel) rfl (Nat.le_of_ble_eq_true rfl) ?_
  intro p e s m below meth co A hF hK hX hP hD hA hS ls hl
  obtain ⟨hx, hb, hr, hts, hown, hlocks, hml⟩ := id hF
  have hl : lv_has ls 3 [(0, .int a_0), (1, .int a_1), (2, .int a_2)] := hl
  unfold f_X11_within at h
  refine lv_iload_n hx hb dX11_within_0 rfl (lv_at hl 0 rfl) ?_
  refine lv_iload_n hx hb dX11_within_1 rfl (lv_at hl 1 rfl) ?_
  refine lv_icmp_lt (tgt := 14) hx hb dX11_within_2 (by decide) (fun c_1 => ?_) (fun c_1 => ?_)
  · have h := it_t c_1 h
    refine lv_iconst (v := 0) hx hb dX11_within_14 (by decide) ?_
    cases h
    exact gIret hF hP hD hS rfl dX11_within_15
  · have h := it_f c_1 h
    refine lv_iload_n hx hb dX11_within_5 rfl (lv_at hl 0 rfl) ?_
    refine lv_iload_n hx hb dX11_within_6 rfl (lv_at hl 2 rfl) ?_
    refine lv_icmp_gt (tgt := 14) hx hb dX11_within_7 (by decide) (fun c_2 => ?_) (fun c_2 => ?_)
    · have h := it_t c_2 h
      refine lv_iconst (v := 0) hx hb dX11_within_14 (by decide) ?_
      cases h
      exact gIret hF hP hD hS rfl dX11_within_15
    · have h := it_f c_2 h
      refine lv_iconst (v := 1) hx hb dX11_within_10 (by decide) ?_
      refine lv_goto (tgt := 15) hx hb dX11_within_11 (by decide) ?_
      cases h
      exact gIret hF hP hD hS rfl dX11_within_15
def f_X11_isWay (a_0 : Int32) : Option (Int32) :=
  kb (f_X11_within a_0 0 3) fun r_2 =>
  chb r_2 <|
  some r_2

abbrev rm_X11_isWay : Room := { frames := 1, cells := 0, slots := 0, locals := 22 }
set_option maxHeartbeats 4000000 in
set_option maxRecDepth 100000 in
theorem c_X11_isWay (l : Launch) (D : va_G) (c : Nat → ClassId) (a_0 : Int32) (o_r : Int32) (h : f_X11_isWay a_0 = some o_r) : gMI l yX11_isWay wsX11_isWay rm_X11_isWay D c [.int a_0] [] [] o_r := by
  refine gMI_of (cc := cX11_isWay) (maxL := 1) (rt := (some .boolean)) (by decide +kernel) rfl (Nat.le_of_ble_eq_true rfl) ?_
  intro p e s m below meth co A hF hK hX hP hD hA hS ls hl
  obtain ⟨hx, hb, hr, hts, hown, hlocks, hml⟩ := id hF
  have hl : lv_has ls 1 [(0, .int a_0)] := hl
  unfold f_X11_isWay at h
  refine lv_iload_n hx hb dX11_isWay_0 rfl (lv_at hl 0 rfl) ?_
  refine lv_iconst (v := 0) hx hb dX11_isWay_1 (by decide) ?_
  refine lv_iconst (v := 3) hx hb dX11_isWay_2 (by decide) ?_
  obtain ⟨r_2, hc_1, h⟩ := kb_ok h
  refine gCallI (isC := []) (wc := []) (w1 := []) hP hD hS hA rfl rfl (va_runS (rm := rm_X11_within) (ws := wsX11_within) (As := [.int a_0, .int 0, .int 3]) (rest := []) (gFix hF) (c_X11_within l D c a_0 0 3 r_2 hc_1 s.heap.size) (va_cwS 3 hts gX11_isWay_X11_within rfl rfl rfl (by decide +kernel) ⟨Nat.le_of_ble_eq_true rfl, Nat.le_of_ble_eq_true rfl⟩) (gPreS (wc := []) (isC := []) hK hX hS hA hP hD rfl (by decide)) rfl rfl hl.1 rfl (lv_room (Nat.le_of_ble_eq_true rfl)) dX11_isWay_3 ⟨Nat.le_of_ble_eq_true rfl, Nat.le_of_ble_eq_true rfl⟩) (fun H locs hP hD hS => ?_)
  have hP : va_P D gcl [] H := hP
  have hD : va_D A [] := hD
  obtain ⟨hz_3, h⟩ := chb_ok h
  cases h
  exact gIret hF hP hD hS (chb_n hz_3) dX11_isWay_6
set_option maxRecDepth 20000 in
theorem in_X10_isOpen_X10 : ∀ w ∈ u_ws RX10 TX10 11, w ∈ wsX10_isOpen := by decide +kernel
def f_X10_isOpen (a_1 : Int32) (v_open : Nat → Int32) : Option (Int32) :=
  kb (f_X11_isWay a_1) fun r_2 =>
  if r_2 = 0 then
    some 0
  else
    chi a_1 4 <|
    nm (v_open a_1.toNatClampNeg) fun t_5 =>
    if t_5 = 1 then
      some 1
    else
      some 0

abbrev rm_X10_isOpen : Room := { frames := 2, cells := 0, slots := 0, locals := 42 }
set_option maxHeartbeats 4000000 in
set_option maxRecDepth 100000 in
theorem c_X10_isOpen (l : Launch) (D : va_G) (c : Nat → ClassId) (q_this q_air q_paste q_open q_met q_line : Nat) (a_1 : Int32) (v_rows : Int32) (v_columns : Int32) (v_holes : Int32) (v_out : Int32) (v_night : Int32) (v_inLine : Int32) (v_open : Nat → Int32) (o_r : Int32) (h : f_X10_isOpen a_1 v_open = some o_r) : gMI l yX10_isOpen wsX10_isOpen rm_X10_isOpen D c [.ref q_this, .int a_1] [(q_this, .inr (10, [.int v_rows, .int v_columns, .ref q_air, .ref q_paste, .ref q_open, .int v_holes, .int v_out, .int v_night, .ref q_met, .ref q_line, .int v_inLine])), (q_open, .inl (c 0, 4, .inl v_open))] [(q_this, .inr (10, [.int v_rows, .int v_columns, .ref q_air, .ref q_paste, .ref q_open, .int v_holes, .int v_out, .int v_night, .ref q_met, .ref q_line, .int v_inLine])), (q_open, .inl (c 0, 4, .inl v_open))] o_r := by
  refine gMI_of (cc := cX10_isOpen) (maxL := 2) (rt := (some .boolean)) (by decide +kernel) rfl (Nat.le_of_ble_eq_true rfl) ?_
  intro p e s m below meth co A hF hK hX hP hD hA hS ls hl
  obtain ⟨hx, hb, hr, hts, hown, hlocks, hml⟩ := id hF
  have hl : lv_has ls 2 [(0, .ref q_this), (1, .int a_1)] := hl
  unfold f_X10_isOpen at h
  refine lv_iload_n hx hb dX10_isOpen_0 rfl (lv_at hl 1 rfl) ?_
  obtain ⟨r_2, hc_1, h⟩ := kb_ok h
  refine gCallI (isC := []) (wc := []) (w1 := []) hP hD hS hA rfl rfl (va_runSN (rm := rm_X11_isWay) (ws := wsX11_isWay) (As := [.int a_1]) (rest := []) (gFix hF) (c_X11_isWay l D c a_1 r_2 hc_1 s.heap.size) ⟨(va_cnB 1 hts gX10_isOpen_X11_isWay_n59 rfl rfl rfl (hK.2 (.methodLinkNest "PaperBubbles$Wall" 59 ⟨"PaperBubbles", "isWay", "(I)Z"⟩ "PaperBubbles") (List.mem_of_getElem? (i := 38) rfl)) (hts (.initialized RX11) (List.mem_of_getElem? (i := 3) rfl)) (by decide +kernel) ⟨Nat.le_of_ble_eq_true rfl, Nat.le_of_ble_eq_true rfl⟩), (hts (.static yX11_isWay) (List.mem_of_getElem? (i := 2) rfl)), trivial⟩ (gPreS (wc := []) (isC := []) hK hX hS hA hP hD rfl (by decide)) rfl rfl hl.1 rfl (lv_room (Nat.le_of_ble_eq_true rfl)) dX10_isOpen_1 ⟨Nat.le_of_ble_eq_true rfl, Nat.le_of_ble_eq_true rfl⟩) (fun H locs hP hD hS => ?_)
  have hP : va_P D gcl [(q_this, .inr (10, [.int v_rows, .int v_columns, .ref q_air, .ref q_paste, .ref q_open, .int v_holes, .int v_out, .int v_night, .ref q_met, .ref q_line, .int v_inLine])), (q_open, .inl (c 0, 4, .inl v_open))] H := hP
  have hD : va_D A [(q_this, .inr (10, [.int v_rows, .int v_columns, .ref q_air, .ref q_paste, .ref q_open, .int v_holes, .int v_out, .int v_night, .ref q_met, .ref q_line, .int v_inLine])), (q_open, .inl (c 0, 4, .inl v_open))] := hD
  refine lv_if_eq (tgt := 21) hx hb dX10_isOpen_4 (by decide) (fun c_3 => ?_) (fun c_3 => ?_)
  · have h := it_t c_3 h
    refine lv_iconst (v := 0) hx hb dX10_isOpen_21 (by decide) ?_
    cases h
    exact gIret hF hP hD hS rfl dX10_isOpen_22
  · have h := it_f c_3 h
    refine lv_aload_n hx hb dX10_isOpen_7 rfl (lv_at hl 0 rfl) ?_
    refine va_get (D := D) (ci := 10) (v := .ref q_open) (C := RX10) (T := TX10) (N := 11) hx hb hts in_X10_isOpen_X10 hown hK.1 hP 0 rfl rfl 4 (by decide) (hts (.fieldLink RX10 25 "PaperBubbles$Wall" "open" "[I") (List.mem_of_getElem? (i := 1) rfl)) (fun _ h9 => h9) rfl dX10_isOpen_8 ?_
    refine lv_iload_n hx hb dX10_isOpen_11 rfl (lv_at hl 1 rfl) ?_
    obtain ⟨hi_4, h⟩ := chi_ok h
    refine va_iald hx hb hK.1 hP 1 0 rfl rfl hi_4 dX10_isOpen_12 ?_
    obtain ⟨t_5, et_5, h⟩ := nm_ok h
    refine gTop et_5 ?_
    refine lv_iconst (v := 1) hx hb dX10_isOpen_13 (by decide) ?_
    refine lv_icmp_ne (tgt := 21) hx hb dX10_isOpen_14 (by decide) (fun c_6 => ?_) (fun c_6 => ?_)
    · have h := it_f c_6 h
      refine lv_iconst (v := 0) hx hb dX10_isOpen_21 (by decide) ?_
      cases h
      exact gIret hF hP hD hS rfl dX10_isOpen_22
    · have h := it_t c_6 h
      refine lv_iconst (v := 1) hx hb dX10_isOpen_17 (by decide) ?_
      refine lv_goto (tgt := 22) hx hb dX10_isOpen_18 (by decide) ?_
      cases h
      exact gIret hF hP hD hS rfl dX10_isOpen_22
set_option maxRecDepth 20000 in
theorem in_X10_lay_X10 : ∀ w ∈ u_ws RX10 TX10 11, w ∈ wsX10_lay := by decide +kernel
def f_X10_lay (a_1 : Int32) (a_2 : Int32) (v_rows : Int32) (v_columns : Int32) (v_air : Nat → Int32) (v_paste : Nat → Int32) : Option (Int32 × Int32 × (Nat → Int32) × (Nat → Int32)) :=
  kb (f_J7_fill_53178 0 25 v_air) fun w_2 =>
  kb (f_J7_fill_53178 5 25 v_paste) fun w_4 =>
  some (a_1, a_2, w_2, w_4)

abbrev rm_X10_lay : Room := { frames := 1, cells := 0, slots := 0, locals := 23 }
set_option maxHeartbeats 4000000 in
set_option maxRecDepth 100000 in
theorem c_X10_lay (l : Launch) (D : va_G) (c : Nat → ClassId) (q_this q_air q_paste q_open q_met q_line : Nat) (a_1 : Int32) (a_2 : Int32) (v_rows : Int32) (v_columns : Int32) (v_holes : Int32) (v_out : Int32) (v_night : Int32) (v_inLine : Int32) (v_air : Nat → Int32) (v_paste : Nat → Int32) (o_v_rows : Int32) (o_v_columns : Int32) (o_v_air : Nat → Int32) (o_v_paste : Nat → Int32) (h : f_X10_lay a_1 a_2 v_rows v_columns v_air v_paste = some (o_v_rows, o_v_columns, o_v_air, o_v_paste)) : gMV l yX10_lay wsX10_lay rm_X10_lay D c [.ref q_this, .int a_1, .int a_2] [(q_this, .inr (10, [.int v_rows, .int v_columns, .ref q_air, .ref q_paste, .ref q_open, .int v_holes, .int v_out, .int v_night, .ref q_met, .ref q_line, .int v_inLine])), (q_air, .inl (c 0, 25, .inl v_air)), (q_paste, .inl (c 0, 25, .inl v_paste))] [(q_this, .inr (10, [.int o_v_rows, .int o_v_columns, .ref q_air, .ref q_paste, .ref q_open, .int v_holes, .int v_out, .int v_night, .ref q_met, .ref q_line, .int v_inLine])), (q_air, .inl (c 0, 25, .inl o_v_air)), (q_paste, .inl (c 0, 25, .inl o_v_paste))] := by
  refine gMV_of (cc := cX10_lay) (maxL := 3) (rt := none) (by decide +kernel) rfl (Nat.le_of_ble_eq_true rfl) ?_
  intro p e s m below meth co A hF hK hX hP hD hA hS ls hl
  obtain ⟨hx, hb, hr, hts, hown, hlocks, hml⟩ := id hF
  have hl : lv_has ls 3 [(0, .ref q_this), (1, .int a_1), (2, .int a_2)] := hl
  unfold f_X10_lay at h
  refine lv_aload_n hx hb dX10_lay_0 rfl (lv_at hl 0 rfl) ?_
  refine lv_iload_n hx hb dX10_lay_1 rfl (lv_at hl 1 rfl) ?_
  refine va_put (D := D) (ci := 10) (v := .int a_1) (ty := .int) (C := RX10) (T := TX10) (N := 11) hx hb hts in_X10_lay_X10 tyX10 tyX10_ok nmX10 hown hK.1 hP hD hS 0 rfl rfl 0 (by decide) (hts (.fieldLink RX10 9 "PaperBubbles$Wall" "rows" "I") (List.mem_of_getElem? (i := 1) rfl)) (fun _ h9 => h9) rfl (by decide +kernel) rfl rfl (Nat.le_of_ble_eq_true rfl) dX10_lay_2 (fun H locs hP hD hS => ?_)
  have hP : va_P D gcl [(q_this, .inr (10, [.int a_1, .int v_columns, .ref q_air, .ref q_paste, .ref q_open, .int v_holes, .int v_out, .int v_night, .ref q_met, .ref q_line, .int v_inLine])), (q_air, .inl (c 0, 25, .inl v_air)), (q_paste, .inl (c 0, 25, .inl v_paste))] H := hP
  have hD : va_D A [(q_this, .inr (10, [.int a_1, .int v_columns, .ref q_air, .ref q_paste, .ref q_open, .int v_holes, .int v_out, .int v_night, .ref q_met, .ref q_line, .int v_inLine])), (q_air, .inl (c 0, 25, .inl v_air)), (q_paste, .inl (c 0, 25, .inl v_paste))] := hD
  refine lv_aload_n hx hb dX10_lay_5 rfl (lv_at hl 0 rfl) ?_
  refine lv_iload_n hx hb dX10_lay_6 rfl (lv_at hl 2 rfl) ?_
  refine va_put (D := D) (ci := 10) (v := .int a_2) (ty := .int) (C := RX10) (T := TX10) (N := 11) hx hb hts in_X10_lay_X10 tyX10 tyX10_ok nmX10 hown hK.1 hP hD hS 0 rfl rfl 1 (by decide) (hts (.fieldLink RX10 15 "PaperBubbles$Wall" "columns" "I") (List.mem_of_getElem? (i := 2) rfl)) (fun _ h9 => h9) rfl (by decide +kernel) rfl rfl (Nat.le_of_ble_eq_true rfl) dX10_lay_7 (fun H locs hP hD hS => ?_)
  have hP : va_P D gcl [(q_this, .inr (10, [.int a_1, .int a_2, .ref q_air, .ref q_paste, .ref q_open, .int v_holes, .int v_out, .int v_night, .ref q_met, .ref q_line, .int v_inLine])), (q_air, .inl (c 0, 25, .inl v_air)), (q_paste, .inl (c 0, 25, .inl v_paste))] H := hP
  have hD : va_D A [(q_this, .inr (10, [.int a_1, .int a_2, .ref q_air, .ref q_paste, .ref q_open, .int v_holes, .int v_out, .int v_night, .ref q_met, .ref q_line, .int v_inLine])), (q_air, .inl (c 0, 25, .inl v_air)), (q_paste, .inl (c 0, 25, .inl v_paste))] := hD
  refine lv_aload_n hx hb dX10_lay_10 rfl (lv_at hl 0 rfl) ?_
  refine va_get (D := D) (ci := 10) (v := .ref q_air) (C := RX10) (T := TX10) (N := 11) hx hb hts in_X10_lay_X10 hown hK.1 hP 0 rfl rfl 2 (by decide) (hts (.fieldLink RX10 18 "PaperBubbles$Wall" "air" "[I") (List.mem_of_getElem? (i := 3) rfl)) (fun _ h9 => h9) rfl dX10_lay_11 ?_
  refine lv_iconst (v := 0) hx hb dX10_lay_14 (by decide) ?_
  obtain ⟨w_2, hc_1, h⟩ := kb_ok h
  refine gCallV (isC := [1]) (wc := [(q_air, .inl (c 0, 25, .inl v_air))]) (w1 := [(q_air, .inl (c 0, 25, .inl w_2))]) hP hD hS hA rfl rfl (va_runS (rm := rm_J7_fill_53178) (ws := wsJ7_fill_53178) (As := [.ref q_air, .int 0]) (rest := []) (gFix hF) (c_J7_fill_53178 l D c q_air 25 0 v_air w_2 hc_1 H.size) (va_cwS 2 hts gX10_lay_J7_fill_53178 rfl rfl rfl (by decide +kernel) ⟨Nat.le_of_ble_eq_true rfl, Nat.le_of_ble_eq_true rfl⟩) (gPreS (wc := [(q_air, .inl (c 0, 25, .inl v_air))]) (isC := [1]) hK hX hS hA hP hD rfl (by decide)) rfl rfl hl.1 rfl (lv_room (Nat.le_of_ble_eq_true rfl)) dX10_lay_15 ⟨Nat.le_of_ble_eq_true rfl, Nat.le_of_ble_eq_true rfl⟩) (fun H locs hP hD hS => ?_)
  have hP : va_P D gcl [(q_this, .inr (10, [.int a_1, .int a_2, .ref q_air, .ref q_paste, .ref q_open, .int v_holes, .int v_out, .int v_night, .ref q_met, .ref q_line, .int v_inLine])), (q_air, .inl (c 0, 25, .inl w_2)), (q_paste, .inl (c 0, 25, .inl v_paste))] H := hP
  have hD : va_D A [(q_this, .inr (10, [.int a_1, .int a_2, .ref q_air, .ref q_paste, .ref q_open, .int v_holes, .int v_out, .int v_night, .ref q_met, .ref q_line, .int v_inLine])), (q_air, .inl (c 0, 25, .inl w_2)), (q_paste, .inl (c 0, 25, .inl v_paste))] := hD
  refine lv_aload_n hx hb dX10_lay_18 rfl (lv_at hl 0 rfl) ?_
  refine va_get (D := D) (ci := 10) (v := .ref q_paste) (C := RX10) (T := TX10) (N := 11) hx hb hts in_X10_lay_X10 hown hK.1 hP 0 rfl rfl 3 (by decide) (hts (.fieldLink RX10 22 "PaperBubbles$Wall" "paste" "[I") (List.mem_of_getElem? (i := 4) rfl)) (fun _ h9 => h9) rfl dX10_lay_19 ?_
  refine lv_iconst (v := 5) hx hb dX10_lay_22 (by decide) ?_
  obtain ⟨w_4, hc_3, h⟩ := kb_ok h
  refine gCallV (isC := [2]) (wc := [(q_paste, .inl (c 0, 25, .inl v_paste))]) (w1 := [(q_paste, .inl (c 0, 25, .inl w_4))]) hP hD hS hA rfl rfl (va_runS (rm := rm_J7_fill_53178) (ws := wsJ7_fill_53178) (As := [.ref q_paste, .int 5]) (rest := []) (gFix hF) (c_J7_fill_53178 l D c q_paste 25 5 v_paste w_4 hc_3 H.size) (va_cwS 2 hts gX10_lay_J7_fill_53178 rfl rfl rfl (by decide +kernel) ⟨Nat.le_of_ble_eq_true rfl, Nat.le_of_ble_eq_true rfl⟩) (gPreS (wc := [(q_paste, .inl (c 0, 25, .inl v_paste))]) (isC := [2]) hK hX hS hA hP hD rfl (by decide)) rfl rfl hl.1 rfl (lv_room (Nat.le_of_ble_eq_true rfl)) dX10_lay_23 ⟨Nat.le_of_ble_eq_true rfl, Nat.le_of_ble_eq_true rfl⟩) (fun H locs hP hD hS => ?_)
  have hP : va_P D gcl [(q_this, .inr (10, [.int a_1, .int a_2, .ref q_air, .ref q_paste, .ref q_open, .int v_holes, .int v_out, .int v_night, .ref q_met, .ref q_line, .int v_inLine])), (q_air, .inl (c 0, 25, .inl w_2)), (q_paste, .inl (c 0, 25, .inl w_4))] H := hP
  have hD : va_D A [(q_this, .inr (10, [.int a_1, .int a_2, .ref q_air, .ref q_paste, .ref q_open, .int v_holes, .int v_out, .int v_night, .ref q_met, .ref q_line, .int v_inLine])), (q_air, .inl (c 0, 25, .inl w_2)), (q_paste, .inl (c 0, 25, .inl w_4))] := hD
  cases h
  exact gVret hF hP hD hS dX10_lay_26
set_option maxRecDepth 20000 in
theorem in_X10_openBits_X10 : ∀ w ∈ u_ws RX10 TX10 11, w ∈ wsX10_openBits := by decide +kernel
def f_X10_openBits_L4 (v_open : Nat → Int32) : Nat → Int32 → Int32 → Option (Int32)
  | 0, _, _ => none
  | n + 1, x1, x2 =>
    if 4 ≤ x2 then
      some x1
    else
      chi x2 4 <|
      nm (v_open x2.toNatClampNeg) fun t_3 =>
      nm (x1 ||| (t_3 <<< (x2 &&& 31))) fun t_4 =>
      nm (x2 + 1) fun t_5 =>
      f_X10_openBits_L4 v_open n t_4 t_5

def f_X10_openBits (v_open : Nat → Int32) : Option (Int32) :=
  f_X10_openBits_L4 v_open gFuel 0 0

abbrev rm_X10_openBits : Room := { frames := 0, cells := 0, slots := 0, locals := 0 }
set_option maxHeartbeats 4000000 in
set_option maxRecDepth 100000 in
theorem c_X10_openBits (l : Launch) (D : va_G) (c : Nat → ClassId) (q_this q_air q_paste q_open q_met q_line : Nat) (v_rows : Int32) (v_columns : Int32) (v_holes : Int32) (v_out : Int32) (v_night : Int32) (v_inLine : Int32) (v_open : Nat → Int32) (o_r : Int32) (h : f_X10_openBits v_open = some o_r) : gMI l yX10_openBits wsX10_openBits rm_X10_openBits D c [.ref q_this] [(q_this, .inr (10, [.int v_rows, .int v_columns, .ref q_air, .ref q_paste, .ref q_open, .int v_holes, .int v_out, .int v_night, .ref q_met, .ref q_line, .int v_inLine])), (q_open, .inl (c 0, 4, .inl v_open))] [(q_this, .inr (10, [.int v_rows, .int v_columns, .ref q_air, .ref q_paste, .ref q_open, .int v_holes, .int v_out, .int v_night, .ref q_met, .ref q_line, .int v_inLine])), (q_open, .inl (c 0, 4, .inl v_open))] o_r := by
  refine gMI_of (cc := cX10_openBits) (maxL := 3) (rt := (some .int)) (by decide +kernel) rfl (Nat.le_of_ble_eq_true rfl) ?_
  intro p e s m below meth co A hF hK hX hP hD hA hS ls hl
  obtain ⟨hx, hb, hr, hts, hown, hlocks, hml⟩ := id hF
  have hl : lv_has ls 3 [(0, .ref q_this)] := hl
  have t_L4 : ∀ (n : Nat), ∀ (x1 : Int32) (x2 : Int32) (H : Heap) (locs : List Loc), va_P D gcl [(q_this, .inr (10, [.int v_rows, .int v_columns, .ref q_air, .ref q_paste, .ref q_open, .int v_holes, .int v_out, .int v_night, .ref q_met, .ref q_line, .int v_inLine])), (q_open, .inl (c 0, 4, .inl v_open))] H → va_D A [(q_this, .inr (10, [.int v_rows, .int v_columns, .ref q_air, .ref q_paste, .ref q_open, .int v_holes, .int v_out, .int v_night, .ref q_met, .ref q_line, .int v_inLine])), (q_open, .inl (c 0, 4, .inl v_open))] → va_S A s.heap H locs → ∀ ls, lv_has ls 3 [(0, .ref q_this), (1, .int x1), (2, .int x2)] → f_X10_openBits_L4 v_open n x1 x2 = some o_r → W p l e (headSpec wsX10_openBits rm_X10_openBits).room s m [.ref q_this].toArray below meth co H locs 0 0 (gQI D [(q_this, .inr (10, [.int v_rows, .int v_columns, .ref q_air, .ref q_paste, .ref q_open, .int v_holes, .int v_out, .int v_night, .ref q_met, .ref q_line, .int v_inLine])), (q_open, .inl (c 0, 4, .inl v_open))] o_r A below [.ref q_this] s) (F0 m 4 ls []) := by
    intro n
    induction n with
    | zero => intro x1 x2 H locs hP hD hS ls hl h; exact no_ok h
    | succ n ih =>
      intro x1 x2 H locs hP hD hS ls hl h
      rw [f_X10_openBits_L4] at h
      refine lv_iload_n hx hb dX10_openBits_4 rfl (lv_at hl 2 rfl) ?_
      refine lv_iconst (v := 4) hx hb dX10_openBits_5 (by decide) ?_
      refine lv_icmp_ge (tgt := 26) hx hb dX10_openBits_6 (by decide) (fun c_1 => ?_) (fun c_1 => ?_)
      · have h := it_t c_1 h
        refine lv_iload_n hx hb dX10_openBits_26 rfl (lv_at hl 1 rfl) ?_
        cases h
        exact gIret hF hP hD hS rfl dX10_openBits_27
      · have h := it_f c_1 h
        refine lv_iload_n hx hb dX10_openBits_9 rfl (lv_at hl 1 rfl) ?_
        refine lv_aload_n hx hb dX10_openBits_10 rfl (lv_at hl 0 rfl) ?_
        refine va_get (D := D) (ci := 10) (v := .ref q_open) (C := RX10) (T := TX10) (N := 11) hx hb hts in_X10_openBits_X10 hown hK.1 hP 0 rfl rfl 4 (by decide) (hts (.fieldLink RX10 25 "PaperBubbles$Wall" "open" "[I") (List.mem_of_getElem? (i := 1) rfl)) (fun _ h9 => h9) rfl dX10_openBits_11 ?_
        refine lv_iload_n hx hb dX10_openBits_14 rfl (lv_at hl 2 rfl) ?_
        obtain ⟨hi_2, h⟩ := chi_ok h
        refine va_iald hx hb hK.1 hP 1 0 rfl rfl hi_2 dX10_openBits_15 ?_
        obtain ⟨t_3, et_3, h⟩ := nm_ok h
        refine gTop et_3 ?_
        refine lv_iload_n hx hb dX10_openBits_16 rfl (lv_at hl 2 rfl) ?_
        refine lv_ishl hx hb dX10_openBits_17 ?_
        refine lv_ior hx hb dX10_openBits_18 ?_
        obtain ⟨t_4, et_4, h⟩ := nm_ok h
        refine gTop et_4 ?_
        refine lv_istore_n (lv' := [(1, .int t_4), (0, .ref q_this), (2, .int x2)]) hx hb dX10_openBits_19 rfl hl (by decide) rfl (fun ls hl => ?_)
        obtain ⟨t_5, et_5, h⟩ := nm_ok h
        refine lv_iinc (v := t_5) (lv' := [(2, .int t_5), (1, .int t_4), (0, .ref q_this)]) hx hb dX10_openBits_20 hl (k := 2) rfl (by rw [et_5]; rfl) (by decide) rfl (fun ls hl => ?_)
        refine lv_goto (tgt := 4) hx hb dX10_openBits_23 (by decide) ?_
        exact ih t_4 t_5 H locs hP hD hS ls (lv_sub hl [2, 1, 0] rfl) h
  unfold f_X10_openBits at h
  refine lv_iconst (v := 0) hx hb dX10_openBits_0 (by decide) ?_
  refine lv_istore_n (lv' := [(1, .int 0), (0, .ref q_this)]) hx hb dX10_openBits_1 rfl hl (by decide) rfl (fun ls hl => ?_)
  refine lv_iconst (v := 0) hx hb dX10_openBits_2 (by decide) ?_
  refine lv_istore_n (lv' := [(2, .int 0), (1, .int 0), (0, .ref q_this)]) hx hb dX10_openBits_3 rfl hl (by decide) rfl (fun ls hl => ?_)
  exact t_L4 gFuel 0 0 s.heap [] hP hD hS ls (lv_sub hl [2, 1, 0] rfl) h
set_option maxRecDepth 20000 in
theorem in_X10_passNight_X10 : ∀ w ∈ u_ws RX10 TX10 11, w ∈ wsX10_passNight := by decide +kernel
def f_X10_passNight_L63 (v_night : Int32) (v_air : Nat → Int32) (v_paste : Nat → Int32) : Option (Int32 × (Nat → Int32) × (Nat → Int32)) :=
  nm (v_night + 1) fun t_19 =>
  some (t_19, v_air, v_paste)

def f_X10_passNight_L2 (v_rows : Int32) (v_columns : Int32) : Nat → Int32 → Int32 → (Nat → Int32) → (Nat → Int32) → Option (Int32 × (Nat → Int32) × (Nat → Int32))
  | 0, _, _, _, _ => none
  | n + 1, x1, v_night, v_air, v_paste =>
    if 25 ≤ x1 then
      f_X10_passNight_L63 v_night v_air v_paste
    else
      kb (f_X10_has x1 v_rows v_columns) fun r_3 =>
      if r_3 = 0 then
        f_X10_passNight_L63 v_night v_air v_paste
      else
        chi x1 25 <|
        nm (v_air x1.toNatClampNeg) fun t_6 =>
        chi x1 25 <|
        nm (t_6 - (v_paste x1.toNatClampNeg)) fun t_8 =>
        nm (if 0 < t_8 then t_8 else 0) fun t_9 =>
        chi x1 25 <|
        nm (upd v_air x1.toNatClampNeg t_9) fun w_11 =>
        chi x1 25 <|
        nm (v_paste x1.toNatClampNeg) fun t_13 =>
        nm (t_13 - 1) fun t_14 =>
        nm (if 0 < t_14 then t_14 else 0) fun t_15 =>
        chi x1 25 <|
        nm (upd v_paste x1.toNatClampNeg t_15) fun w_17 =>
        nm (x1 + 1) fun t_18 =>
        f_X10_passNight_L2 v_rows v_columns n t_18 v_night w_11 w_17

def f_X10_passNight (v_rows : Int32) (v_columns : Int32) (v_night : Int32) (v_air : Nat → Int32) (v_paste : Nat → Int32) : Option (Int32 × (Nat → Int32) × (Nat → Int32)) :=
  f_X10_passNight_L2 v_rows v_columns gFuel 0 v_night v_air v_paste

abbrev rm_X10_passNight : Room := { frames := 1, cells := 0, slots := 0, locals := 21 }
set_option maxHeartbeats 4000000 in
set_option maxRecDepth 100000 in
theorem c_X10_passNight (l : Launch) (D : va_G) (c : Nat → ClassId) (q_this q_air q_paste q_open q_met q_line : Nat) (v_rows : Int32) (v_columns : Int32) (v_holes : Int32) (v_out : Int32) (v_night : Int32) (v_inLine : Int32) (v_air : Nat → Int32) (v_paste : Nat → Int32) (o_v_night : Int32) (o_v_air : Nat → Int32) (o_v_paste : Nat → Int32) (h : f_X10_passNight v_rows v_columns v_night v_air v_paste = some (o_v_night, o_v_air, o_v_paste)) : gMV l yX10_passNight wsX10_passNight rm_X10_passNight D c [.ref q_this] [(q_this, .inr (10, [.int v_rows, .int v_columns, .ref q_air, .ref q_paste, .ref q_open, .int v_holes, .int v_out, .int v_night, .ref q_met, .ref q_line, .int v_inLine])), (q_air, .inl (c 0, 25, .inl v_air)), (q_paste, .inl (c 0, 25, .inl v_paste))] [(q_this, .inr (10, [.int v_rows, .int v_columns, .ref q_air, .ref q_paste, .ref q_open, .int v_holes, .int v_out, .int o_v_night, .ref q_met, .ref q_line, .int v_inLine])), (q_air, .inl (c 0, 25, .inl o_v_air)), (q_paste, .inl (c 0, 25, .inl o_v_paste))] := by
  refine gMV_of (cc := cX10_passNight) (maxL := 2) (rt := none) (by decide +kernel) rfl (Nat.le_of_ble_eq_true rfl) ?_
  intro p e s m below meth co A hF hK hX hP hD hA hS ls hl
  obtain ⟨hx, hb, hr, hts, hown, hlocks, hml⟩ := id hF
  have hl : lv_has ls 2 [(0, .ref q_this)] := hl
  have t_L63 : ∀ (v_night : Int32) (v_air : Nat → Int32) (v_paste : Nat → Int32) (H : Heap) (locs : List Loc), va_P D gcl [(q_this, .inr (10, [.int v_rows, .int v_columns, .ref q_air, .ref q_paste, .ref q_open, .int v_holes, .int v_out, .int v_night, .ref q_met, .ref q_line, .int v_inLine])), (q_air, .inl (c 0, 25, .inl v_air)), (q_paste, .inl (c 0, 25, .inl v_paste))] H → va_D A [(q_this, .inr (10, [.int v_rows, .int v_columns, .ref q_air, .ref q_paste, .ref q_open, .int v_holes, .int v_out, .int v_night, .ref q_met, .ref q_line, .int v_inLine])), (q_air, .inl (c 0, 25, .inl v_air)), (q_paste, .inl (c 0, 25, .inl v_paste))] → va_S A s.heap H locs → ∀ ls, lv_has ls 2 [(0, .ref q_this)] → f_X10_passNight_L63 v_night v_air v_paste = some (o_v_night, o_v_air, o_v_paste) → W p l e (headSpec wsX10_passNight rm_X10_passNight).room s m [.ref q_this].toArray below meth co H locs 0 0 (gQV D [(q_this, .inr (10, [.int v_rows, .int v_columns, .ref q_air, .ref q_paste, .ref q_open, .int v_holes, .int v_out, .int o_v_night, .ref q_met, .ref q_line, .int v_inLine])), (q_air, .inl (c 0, 25, .inl o_v_air)), (q_paste, .inl (c 0, 25, .inl o_v_paste))] A below [.ref q_this] s) (F0 m 63 ls []) := by
    intro  v_night v_air v_paste H locs hP hD hS ls hl h
    unfold f_X10_passNight_L63 at h
    refine lv_aload_n hx hb dX10_passNight_63 rfl (lv_at hl 0 rfl) ?_
    refine lv_dup hx hb dX10_passNight_64 rfl ?_
    refine va_get (D := D) (ci := 10) (v := .int v_night) (C := RX10) (T := TX10) (N := 11) hx hb hts in_X10_passNight_X10 hown hK.1 hP 0 rfl rfl 7 (by decide) (hts (.fieldLink RX10 56 "PaperBubbles$Wall" "night" "I") (List.mem_of_getElem? (i := 7) rfl)) (fun _ h9 => h9) rfl dX10_passNight_65 ?_
    refine lv_iconst (v := 1) hx hb dX10_passNight_68 (by decide) ?_
    refine lv_iadd hx hb dX10_passNight_69 ?_
    obtain ⟨t_19, et_19, h⟩ := nm_ok h
    refine gTop et_19 ?_
    refine va_put (D := D) (ci := 10) (v := .int t_19) (ty := .int) (C := RX10) (T := TX10) (N := 11) hx hb hts in_X10_passNight_X10 tyX10 tyX10_ok nmX10 hown hK.1 hP hD hS 0 rfl rfl 7 (by decide) (hts (.fieldLink RX10 56 "PaperBubbles$Wall" "night" "I") (List.mem_of_getElem? (i := 7) rfl)) (fun _ h9 => h9) rfl (by decide +kernel) rfl rfl (Nat.le_of_ble_eq_true rfl) dX10_passNight_70 (fun H locs hP hD hS => ?_)
    have hP : va_P D gcl [(q_this, .inr (10, [.int v_rows, .int v_columns, .ref q_air, .ref q_paste, .ref q_open, .int v_holes, .int v_out, .int t_19, .ref q_met, .ref q_line, .int v_inLine])), (q_air, .inl (c 0, 25, .inl v_air)), (q_paste, .inl (c 0, 25, .inl v_paste))] H := hP
    have hD : va_D A [(q_this, .inr (10, [.int v_rows, .int v_columns, .ref q_air, .ref q_paste, .ref q_open, .int v_holes, .int v_out, .int t_19, .ref q_met, .ref q_line, .int v_inLine])), (q_air, .inl (c 0, 25, .inl v_air)), (q_paste, .inl (c 0, 25, .inl v_paste))] := hD
    cases h
    exact gVret hF hP hD hS dX10_passNight_73
  have t_L2 : ∀ (n : Nat), ∀ (x1 : Int32) (v_night : Int32) (v_air : Nat → Int32) (v_paste : Nat → Int32) (H : Heap) (locs : List Loc), va_P D gcl [(q_this, .inr (10, [.int v_rows, .int v_columns, .ref q_air, .ref q_paste, .ref q_open, .int v_holes, .int v_out, .int v_night, .ref q_met, .ref q_line, .int v_inLine])), (q_air, .inl (c 0, 25, .inl v_air)), (q_paste, .inl (c 0, 25, .inl v_paste))] H → va_D A [(q_this, .inr (10, [.int v_rows, .int v_columns, .ref q_air, .ref q_paste, .ref q_open, .int v_holes, .int v_out, .int v_night, .ref q_met, .ref q_line, .int v_inLine])), (q_air, .inl (c 0, 25, .inl v_air)), (q_paste, .inl (c 0, 25, .inl v_paste))] → va_S A s.heap H locs → ∀ ls, lv_has ls 2 [(0, .ref q_this), (1, .int x1)] → f_X10_passNight_L2 v_rows v_columns n x1 v_night v_air v_paste = some (o_v_night, o_v_air, o_v_paste) → W p l e (headSpec wsX10_passNight rm_X10_passNight).room s m [.ref q_this].toArray below meth co H locs 0 0 (gQV D [(q_this, .inr (10, [.int v_rows, .int v_columns, .ref q_air, .ref q_paste, .ref q_open, .int v_holes, .int v_out, .int o_v_night, .ref q_met, .ref q_line, .int v_inLine])), (q_air, .inl (c 0, 25, .inl o_v_air)), (q_paste, .inl (c 0, 25, .inl o_v_paste))] A below [.ref q_this] s) (F0 m 2 ls []) := by
    intro n
    induction n with
    | zero => intro x1 v_night v_air v_paste H locs hP hD hS ls hl h; exact no_ok h
    | succ n ih =>
      intro x1 v_night v_air v_paste H locs hP hD hS ls hl h
      rw [f_X10_passNight_L2] at h
      refine lv_iload_n hx hb dX10_passNight_2 rfl (lv_at hl 1 rfl) ?_
      refine lv_bipush (v := 25) hx hb dX10_passNight_3 (by decide) ?_
      refine lv_icmp_ge (tgt := 63) hx hb dX10_passNight_5 (by decide) (fun c_1 => ?_) (fun c_1 => ?_)
      · have h := it_t c_1 h
        exact t_L63 v_night v_air v_paste H locs hP hD hS ls (lv_sub hl [0] rfl) h
      · have h := it_f c_1 h
        refine lv_aload_n hx hb dX10_passNight_8 rfl (lv_at hl 0 rfl) ?_
        refine lv_iload_n hx hb dX10_passNight_9 rfl (lv_at hl 1 rfl) ?_
        obtain ⟨r_3, hc_2, h⟩ := kb_ok h
        refine gCallI (isC := [0]) (wc := [(q_this, .inr (10, [.int v_rows, .int v_columns, .ref q_air, .ref q_paste, .ref q_open, .int v_holes, .int v_out, .int v_night, .ref q_met, .ref q_line, .int v_inLine]))]) (w1 := [(q_this, .inr (10, [.int v_rows, .int v_columns, .ref q_air, .ref q_paste, .ref q_open, .int v_holes, .int v_out, .int v_night, .ref q_met, .ref q_line, .int v_inLine]))]) hP hD hS hA rfl rfl (va_runV (rm := rm_X10_has) (ws := wsX10_has) (As := [.int x1]) (rest := []) (gFix hF) (c_X10_has l D c q_this q_air q_paste q_open q_met q_line x1 v_rows v_columns v_holes v_out v_night v_inLine r_3 hc_2 H.size) (cwV 1 hts gX10_passNight_X10_has rfl rfl rfl (by decide +kernel) ⟨Nat.le_of_ble_eq_true rfl, Nat.le_of_ble_eq_true rfl⟩) (gPreV (wc := [(q_this, .inr (10, [.int v_rows, .int v_columns, .ref q_air, .ref q_paste, .ref q_open, .int v_holes, .int v_out, .int v_night, .ref q_met, .ref q_line, .int v_inLine]))]) (q := (RX10, TX10, 11)) (ci := 10) (q0 := 0) (isC := [0]) hK hX hS hA hP hD rfl (by decide) rfl rfl) rfl rfl hl.1 rfl (lv_room (Nat.le_of_ble_eq_true rfl)) dX10_passNight_10 ⟨Nat.le_of_ble_eq_true rfl, Nat.le_of_ble_eq_true rfl⟩) (fun H locs hP hD hS => ?_)
        have hP : va_P D gcl [(q_this, .inr (10, [.int v_rows, .int v_columns, .ref q_air, .ref q_paste, .ref q_open, .int v_holes, .int v_out, .int v_night, .ref q_met, .ref q_line, .int v_inLine])), (q_air, .inl (c 0, 25, .inl v_air)), (q_paste, .inl (c 0, 25, .inl v_paste))] H := hP
        have hD : va_D A [(q_this, .inr (10, [.int v_rows, .int v_columns, .ref q_air, .ref q_paste, .ref q_open, .int v_holes, .int v_out, .int v_night, .ref q_met, .ref q_line, .int v_inLine])), (q_air, .inl (c 0, 25, .inl v_air)), (q_paste, .inl (c 0, 25, .inl v_paste))] := hD
        refine lv_if_eq (tgt := 63) hx hb dX10_passNight_13 (by decide) (fun c_4 => ?_) (fun c_4 => ?_)
        · have h := it_t c_4 h
          exact t_L63 v_night v_air v_paste H locs hP hD hS ls (lv_sub hl [0] rfl) h
        · have h := it_f c_4 h
          refine lv_aload_n hx hb dX10_passNight_16 rfl (lv_at hl 0 rfl) ?_
          refine va_get (D := D) (ci := 10) (v := .ref q_air) (C := RX10) (T := TX10) (N := 11) hx hb hts in_X10_passNight_X10 hown hK.1 hP 0 rfl rfl 2 (by decide) (hts (.fieldLink RX10 18 "PaperBubbles$Wall" "air" "[I") (List.mem_of_getElem? (i := 1) rfl)) (fun _ h9 => h9) rfl dX10_passNight_17 ?_
          refine lv_iload_n hx hb dX10_passNight_20 rfl (lv_at hl 1 rfl) ?_
          refine lv_iconst (v := 0) hx hb dX10_passNight_21 (by decide) ?_
          refine lv_aload_n hx hb dX10_passNight_22 rfl (lv_at hl 0 rfl) ?_
          refine va_get (D := D) (ci := 10) (v := .ref q_air) (C := RX10) (T := TX10) (N := 11) hx hb hts in_X10_passNight_X10 hown hK.1 hP 0 rfl rfl 2 (by decide) (hts (.fieldLink RX10 18 "PaperBubbles$Wall" "air" "[I") (List.mem_of_getElem? (i := 1) rfl)) (fun _ h9 => h9) rfl dX10_passNight_23 ?_
          refine lv_iload_n hx hb dX10_passNight_26 rfl (lv_at hl 1 rfl) ?_
          obtain ⟨hi_5, h⟩ := chi_ok h
          refine va_iald hx hb hK.1 hP 1 0 rfl rfl hi_5 dX10_passNight_27 ?_
          obtain ⟨t_6, et_6, h⟩ := nm_ok h
          refine gTop et_6 ?_
          refine lv_aload_n hx hb dX10_passNight_28 rfl (lv_at hl 0 rfl) ?_
          refine va_get (D := D) (ci := 10) (v := .ref q_paste) (C := RX10) (T := TX10) (N := 11) hx hb hts in_X10_passNight_X10 hown hK.1 hP 0 rfl rfl 3 (by decide) (hts (.fieldLink RX10 22 "PaperBubbles$Wall" "paste" "[I") (List.mem_of_getElem? (i := 2) rfl)) (fun _ h9 => h9) rfl dX10_passNight_29 ?_
          refine lv_iload_n hx hb dX10_passNight_32 rfl (lv_at hl 1 rfl) ?_
          obtain ⟨hi_7, h⟩ := chi_ok h
          refine va_iald hx hb hK.1 hP 2 0 rfl rfl hi_7 dX10_passNight_33 ?_
          refine lv_isub hx hb dX10_passNight_34 ?_
          obtain ⟨t_8, et_8, h⟩ := nm_ok h
          refine gTop et_8 ?_
          refine va_mmax hx hb (by rw [hml]; exact hl.1.symm) hown (hts (.methodLink RX10 117 Lib.Math.max.name) (List.mem_of_getElem? (i := 3) rfl)) (hts (.static Lib.Math.max.name) (List.mem_of_getElem? (i := 4) rfl)) (hts (.initialized "java/lang/Math") (List.mem_of_getElem? (i := 5) rfl)) (hts (.code Lib.Math.max.name Lib.Math.max.code 2 (some .int)) (List.mem_of_getElem? (i := 6) rfl)) (Nat.le_of_ble_eq_true rfl) (by first | exact Nat.le_of_ble_eq_true rfl | decide) (Nat.le_of_ble_eq_true rfl) (Nat.le_of_ble_eq_true rfl) dX10_passNight_35 ?_
          obtain ⟨t_9, et_9, h⟩ := nm_ok h
          refine gTop et_9 ?_
          obtain ⟨hi_10, h⟩ := chi_ok h
          obtain ⟨w_11, ew_11, h⟩ := nm_ok h
          refine va_iast hx hb hK.1 hP hD hS 1 0 rfl rfl hi_10 dX10_passNight_38 (fun H locs hP hD hS => ?_)
          have hP : va_P D gcl [(q_this, .inr (10, [.int v_rows, .int v_columns, .ref q_air, .ref q_paste, .ref q_open, .int v_holes, .int v_out, .int v_night, .ref q_met, .ref q_line, .int v_inLine])), (q_air, .inl (c 0, 25, .inl w_11)), (q_paste, .inl (c 0, 25, .inl v_paste))] H := by subst ew_11; exact hP
          have hD : va_D A [(q_this, .inr (10, [.int v_rows, .int v_columns, .ref q_air, .ref q_paste, .ref q_open, .int v_holes, .int v_out, .int v_night, .ref q_met, .ref q_line, .int v_inLine])), (q_air, .inl (c 0, 25, .inl w_11)), (q_paste, .inl (c 0, 25, .inl v_paste))] := by subst ew_11; exact hD
          refine lv_aload_n hx hb dX10_passNight_39 rfl (lv_at hl 0 rfl) ?_
          refine va_get (D := D) (ci := 10) (v := .ref q_paste) (C := RX10) (T := TX10) (N := 11) hx hb hts in_X10_passNight_X10 hown hK.1 hP 0 rfl rfl 3 (by decide) (hts (.fieldLink RX10 22 "PaperBubbles$Wall" "paste" "[I") (List.mem_of_getElem? (i := 2) rfl)) (fun _ h9 => h9) rfl dX10_passNight_40 ?_
          refine lv_iload_n hx hb dX10_passNight_43 rfl (lv_at hl 1 rfl) ?_
          refine lv_iconst (v := 0) hx hb dX10_passNight_44 (by decide) ?_
          refine lv_aload_n hx hb dX10_passNight_45 rfl (lv_at hl 0 rfl) ?_
          refine va_get (D := D) (ci := 10) (v := .ref q_paste) (C := RX10) (T := TX10) (N := 11) hx hb hts in_X10_passNight_X10 hown hK.1 hP 0 rfl rfl 3 (by decide) (hts (.fieldLink RX10 22 "PaperBubbles$Wall" "paste" "[I") (List.mem_of_getElem? (i := 2) rfl)) (fun _ h9 => h9) rfl dX10_passNight_46 ?_
          refine lv_iload_n hx hb dX10_passNight_49 rfl (lv_at hl 1 rfl) ?_
          obtain ⟨hi_12, h⟩ := chi_ok h
          refine va_iald hx hb hK.1 hP 2 0 rfl rfl hi_12 dX10_passNight_50 ?_
          obtain ⟨t_13, et_13, h⟩ := nm_ok h
          refine gTop et_13 ?_
          refine lv_iconst (v := 1) hx hb dX10_passNight_51 (by decide) ?_
          refine lv_isub hx hb dX10_passNight_52 ?_
          obtain ⟨t_14, et_14, h⟩ := nm_ok h
          refine gTop et_14 ?_
          refine va_mmax hx hb (by rw [hml]; exact hl.1.symm) hown (hts (.methodLink RX10 117 Lib.Math.max.name) (List.mem_of_getElem? (i := 3) rfl)) (hts (.static Lib.Math.max.name) (List.mem_of_getElem? (i := 4) rfl)) (hts (.initialized "java/lang/Math") (List.mem_of_getElem? (i := 5) rfl)) (hts (.code Lib.Math.max.name Lib.Math.max.code 2 (some .int)) (List.mem_of_getElem? (i := 6) rfl)) (Nat.le_of_ble_eq_true rfl) (by first | exact Nat.le_of_ble_eq_true rfl | decide) (Nat.le_of_ble_eq_true rfl) (Nat.le_of_ble_eq_true rfl) dX10_passNight_53 ?_
          obtain ⟨t_15, et_15, h⟩ := nm_ok h
          refine gTop et_15 ?_
          obtain ⟨hi_16, h⟩ := chi_ok h
          obtain ⟨w_17, ew_17, h⟩ := nm_ok h
          refine va_iast hx hb hK.1 hP hD hS 2 0 rfl rfl hi_16 dX10_passNight_56 (fun H locs hP hD hS => ?_)
          have hP : va_P D gcl [(q_this, .inr (10, [.int v_rows, .int v_columns, .ref q_air, .ref q_paste, .ref q_open, .int v_holes, .int v_out, .int v_night, .ref q_met, .ref q_line, .int v_inLine])), (q_air, .inl (c 0, 25, .inl w_11)), (q_paste, .inl (c 0, 25, .inl w_17))] H := by subst ew_17; exact hP
          have hD : va_D A [(q_this, .inr (10, [.int v_rows, .int v_columns, .ref q_air, .ref q_paste, .ref q_open, .int v_holes, .int v_out, .int v_night, .ref q_met, .ref q_line, .int v_inLine])), (q_air, .inl (c 0, 25, .inl w_11)), (q_paste, .inl (c 0, 25, .inl w_17))] := by subst ew_17; exact hD
          obtain ⟨t_18, et_18, h⟩ := nm_ok h
          refine lv_iinc (v := t_18) (lv' := [(1, .int t_18), (0, .ref q_this)]) hx hb dX10_passNight_57 hl (k := 1) rfl (by rw [et_18]; rfl) (by decide) rfl (fun ls hl => ?_)
          refine lv_goto (tgt := 2) hx hb dX10_passNight_60 (by decide) ?_
          exact ih t_18 v_night w_11 w_17 H locs hP hD hS ls (lv_sub hl [1, 0] rfl) h
  unfold f_X10_passNight at h
  refine lv_iconst (v := 0) hx hb dX10_passNight_0 (by decide) ?_
  refine lv_istore_n (lv' := [(1, .int 0), (0, .ref q_this)]) hx hb dX10_passNight_1 rfl hl (by decide) rfl (fun ls hl => ?_)
  exact t_L2 gFuel 0 v_night v_air v_paste s.heap [] hP hD hS ls (lv_sub hl [1, 0] rfl) h
set_option maxRecDepth 20000 in
theorem in_X3_placeOf_X3 : ∀ w ∈ u_ws RX3 TX3 14, w ∈ wsX3_placeOf := by decide +kernel
def f_X3_placeOf (a_1 : Int32) (a_2 : Int32) (a_3 : Int32) (v_side : Int32) : Option (Int32) :=
  kb (f_X11_within a_1 0 99) fun r_2 =>
  if r_2 = 0 then
    some (-1)
  else
    nm (v_side - 1) fun t_4 =>
    kb (f_X11_within a_2 0 t_4) fun r_6 =>
    if r_6 = 0 then
      some (-1)
    else
      nm (v_side - 1) fun t_8 =>
      kb (f_X11_within a_3 0 t_8) fun r_10 =>
      if r_10 = 0 then
        some (-1)
      else
        nm (a_1 * v_side) fun t_12 =>
        nm (t_12 + a_2) fun t_13 =>
        nm (t_13 * v_side) fun t_14 =>
        some (t_14 + a_3)

abbrev rm_X3_placeOf : Room := { frames := 1, cells := 0, slots := 0, locals := 22 }
set_option maxHeartbeats 4000000 in
set_option maxRecDepth 100000 in
theorem c_X3_placeOf (l : Launch) (D : va_G) (c : Nat → ClassId) (q_this q_names q_steps q_stack q_answers q_draft q_held : Nat) (a_1 : Int32) (a_2 : Int32) (a_3 : Int32) (v_length : Int32) (v_side : Int32) (v_round : Int32) (v_drafted : Int32) (v_holding : Int32) (v_open : Int32) (v_digits : Int32) (v_wantsOperand : Int32) (o_r : Int32) (h : f_X3_placeOf a_1 a_2 a_3 v_side = some o_r) : gMI l yX3_placeOf wsX3_placeOf rm_X3_placeOf D c [.ref q_this, .int a_1, .int a_2, .int a_3] [(q_this, .inr (3, [.ref q_names, .ref q_steps, .int v_length, .ref q_stack, .ref q_answers, .int v_side, .int v_round, .ref q_draft, .int v_drafted, .ref q_held, .int v_holding, .int v_open, .int v_digits, .int v_wantsOperand]))] [(q_this, .inr (3, [.ref q_names, .ref q_steps, .int v_length, .ref q_stack, .ref q_answers, .int v_side, .int v_round, .ref q_draft, .int v_drafted, .ref q_held, .int v_holding, .int v_open, .int v_digits, .int v_wantsOperand]))] o_r := by
  refine gMI_of (cc := cX3_placeOf) (maxL := 4) (rt := (some .int)) (by decide +kernel) rfl (Nat.le_of_ble_eq_true rfl) ?_
  intro p e s m below meth co A hF hK hX hP hD hA hS ls hl
  obtain ⟨hx, hb, hr, hts, hown, hlocks, hml⟩ := id hF
  have hl : lv_has ls 4 [(0, .ref q_this), (1, .int a_1), (2, .int a_2), (3, .int a_3)] := hl
  unfold f_X3_placeOf at h
  refine lv_iload_n hx hb dX3_placeOf_0 rfl (lv_at hl 1 rfl) ?_
  refine lv_iconst (v := 0) hx hb dX3_placeOf_1 (by decide) ?_
  refine lv_bipush (v := 99) hx hb dX3_placeOf_2 (by decide) ?_
  obtain ⟨r_2, hc_1, h⟩ := kb_ok h
  refine gCallI (isC := []) (wc := []) (w1 := []) hP hD hS hA rfl rfl (va_runSN (rm := rm_X11_within) (ws := wsX11_within) (As := [.int a_1, .int 0, .int 99]) (rest := []) (gFix hF) (c_X11_within l D c a_1 0 99 r_2 hc_1 s.heap.size) ⟨(va_cnB 3 hts gX3_placeOf_X11_within_n58 rfl rfl rfl (hK.2 (.methodLinkNest "PaperBubbles$Law" 58 ⟨"PaperBubbles", "within", "(III)Z"⟩ "PaperBubbles") (List.mem_of_getElem? (i := 33) rfl)) (hts (.initialized RX11) (List.mem_of_getElem? (i := 3) rfl)) (by decide +kernel) ⟨Nat.le_of_ble_eq_true rfl, Nat.le_of_ble_eq_true rfl⟩), (hts (.static yX11_within) (List.mem_of_getElem? (i := 2) rfl)), trivial⟩ (gPreS (wc := []) (isC := []) hK hX hS hA hP hD rfl (by decide)) rfl rfl hl.1 rfl (lv_room (Nat.le_of_ble_eq_true rfl)) dX3_placeOf_4 ⟨Nat.le_of_ble_eq_true rfl, Nat.le_of_ble_eq_true rfl⟩) (fun H locs hP hD hS => ?_)
  have hP : va_P D gcl [(q_this, .inr (3, [.ref q_names, .ref q_steps, .int v_length, .ref q_stack, .ref q_answers, .int v_side, .int v_round, .ref q_draft, .int v_drafted, .ref q_held, .int v_holding, .int v_open, .int v_digits, .int v_wantsOperand]))] H := hP
  have hD : va_D A [(q_this, .inr (3, [.ref q_names, .ref q_steps, .int v_length, .ref q_stack, .ref q_answers, .int v_side, .int v_round, .ref q_draft, .int v_drafted, .ref q_held, .int v_holding, .int v_open, .int v_digits, .int v_wantsOperand]))] := hD
  refine lv_if_eq (tgt := 38) hx hb dX3_placeOf_7 (by decide) (fun c_3 => ?_) (fun c_3 => ?_)
  · have h := it_t c_3 h
    refine lv_iconst (v := (-1)) hx hb dX3_placeOf_38 (by decide) ?_
    cases h
    exact gIret hF hP hD hS rfl dX3_placeOf_39
  · have h := it_f c_3 h
    refine lv_iload_n hx hb dX3_placeOf_10 rfl (lv_at hl 2 rfl) ?_
    refine lv_iconst (v := 0) hx hb dX3_placeOf_11 (by decide) ?_
    refine lv_aload_n hx hb dX3_placeOf_12 rfl (lv_at hl 0 rfl) ?_
    refine va_get (D := D) (ci := 3) (v := .int v_side) (C := RX3) (T := TX3) (N := 14) hx hb hts in_X3_placeOf_X3 hown hK.1 hP 0 rfl rfl 5 (by decide) (hts (.fieldLink RX3 39 "PaperBubbles$Law" "side" "I") (List.mem_of_getElem? (i := 1) rfl)) (fun _ h9 => h9) rfl dX3_placeOf_13 ?_
    refine lv_iconst (v := 1) hx hb dX3_placeOf_16 (by decide) ?_
    refine lv_isub hx hb dX3_placeOf_17 ?_
    obtain ⟨t_4, et_4, h⟩ := nm_ok h
    refine gTop et_4 ?_
    obtain ⟨r_6, hc_5, h⟩ := kb_ok h
    refine gCallI (isC := []) (wc := []) (w1 := []) hP hD hS hA rfl rfl (va_runSN (rm := rm_X11_within) (ws := wsX11_within) (As := [.int a_2, .int 0, .int t_4]) (rest := []) (gFix hF) (c_X11_within l D c a_2 0 t_4 r_6 hc_5 H.size) ⟨(va_cnB 3 hts gX3_placeOf_X11_within_n58 rfl rfl rfl (hK.2 (.methodLinkNest "PaperBubbles$Law" 58 ⟨"PaperBubbles", "within", "(III)Z"⟩ "PaperBubbles") (List.mem_of_getElem? (i := 33) rfl)) (hts (.initialized RX11) (List.mem_of_getElem? (i := 3) rfl)) (by decide +kernel) ⟨Nat.le_of_ble_eq_true rfl, Nat.le_of_ble_eq_true rfl⟩), (hts (.static yX11_within) (List.mem_of_getElem? (i := 2) rfl)), trivial⟩ (gPreS (wc := []) (isC := []) hK hX hS hA hP hD rfl (by decide)) rfl rfl hl.1 rfl (lv_room (Nat.le_of_ble_eq_true rfl)) dX3_placeOf_18 ⟨Nat.le_of_ble_eq_true rfl, Nat.le_of_ble_eq_true rfl⟩) (fun H locs hP hD hS => ?_)
    have hP : va_P D gcl [(q_this, .inr (3, [.ref q_names, .ref q_steps, .int v_length, .ref q_stack, .ref q_answers, .int v_side, .int v_round, .ref q_draft, .int v_drafted, .ref q_held, .int v_holding, .int v_open, .int v_digits, .int v_wantsOperand]))] H := hP
    have hD : va_D A [(q_this, .inr (3, [.ref q_names, .ref q_steps, .int v_length, .ref q_stack, .ref q_answers, .int v_side, .int v_round, .ref q_draft, .int v_drafted, .ref q_held, .int v_holding, .int v_open, .int v_digits, .int v_wantsOperand]))] := hD
    refine lv_if_eq (tgt := 38) hx hb dX3_placeOf_21 (by decide) (fun c_7 => ?_) (fun c_7 => ?_)
    · have h := it_t c_7 h
      refine lv_iconst (v := (-1)) hx hb dX3_placeOf_38 (by decide) ?_
      cases h
      exact gIret hF hP hD hS rfl dX3_placeOf_39
    · have h := it_f c_7 h
      refine lv_iload_n hx hb dX3_placeOf_24 rfl (lv_at hl 3 rfl) ?_
      refine lv_iconst (v := 0) hx hb dX3_placeOf_25 (by decide) ?_
      refine lv_aload_n hx hb dX3_placeOf_26 rfl (lv_at hl 0 rfl) ?_
      refine va_get (D := D) (ci := 3) (v := .int v_side) (C := RX3) (T := TX3) (N := 14) hx hb hts in_X3_placeOf_X3 hown hK.1 hP 0 rfl rfl 5 (by decide) (hts (.fieldLink RX3 39 "PaperBubbles$Law" "side" "I") (List.mem_of_getElem? (i := 1) rfl)) (fun _ h9 => h9) rfl dX3_placeOf_27 ?_
      refine lv_iconst (v := 1) hx hb dX3_placeOf_30 (by decide) ?_
      refine lv_isub hx hb dX3_placeOf_31 ?_
      obtain ⟨t_8, et_8, h⟩ := nm_ok h
      refine gTop et_8 ?_
      obtain ⟨r_10, hc_9, h⟩ := kb_ok h
      refine gCallI (isC := []) (wc := []) (w1 := []) hP hD hS hA rfl rfl (va_runSN (rm := rm_X11_within) (ws := wsX11_within) (As := [.int a_3, .int 0, .int t_8]) (rest := []) (gFix hF) (c_X11_within l D c a_3 0 t_8 r_10 hc_9 H.size) ⟨(va_cnB 3 hts gX3_placeOf_X11_within_n58 rfl rfl rfl (hK.2 (.methodLinkNest "PaperBubbles$Law" 58 ⟨"PaperBubbles", "within", "(III)Z"⟩ "PaperBubbles") (List.mem_of_getElem? (i := 33) rfl)) (hts (.initialized RX11) (List.mem_of_getElem? (i := 3) rfl)) (by decide +kernel) ⟨Nat.le_of_ble_eq_true rfl, Nat.le_of_ble_eq_true rfl⟩), (hts (.static yX11_within) (List.mem_of_getElem? (i := 2) rfl)), trivial⟩ (gPreS (wc := []) (isC := []) hK hX hS hA hP hD rfl (by decide)) rfl rfl hl.1 rfl (lv_room (Nat.le_of_ble_eq_true rfl)) dX3_placeOf_32 ⟨Nat.le_of_ble_eq_true rfl, Nat.le_of_ble_eq_true rfl⟩) (fun H locs hP hD hS => ?_)
      have hP : va_P D gcl [(q_this, .inr (3, [.ref q_names, .ref q_steps, .int v_length, .ref q_stack, .ref q_answers, .int v_side, .int v_round, .ref q_draft, .int v_drafted, .ref q_held, .int v_holding, .int v_open, .int v_digits, .int v_wantsOperand]))] H := hP
      have hD : va_D A [(q_this, .inr (3, [.ref q_names, .ref q_steps, .int v_length, .ref q_stack, .ref q_answers, .int v_side, .int v_round, .ref q_draft, .int v_drafted, .ref q_held, .int v_holding, .int v_open, .int v_digits, .int v_wantsOperand]))] := hD
      refine lv_if_ne (tgt := 40) hx hb dX3_placeOf_35 (by decide) (fun c_11 => ?_) (fun c_11 => ?_)
      · have h := it_f c_11 h
        refine lv_iload_n hx hb dX3_placeOf_40 rfl (lv_at hl 1 rfl) ?_
        refine lv_aload_n hx hb dX3_placeOf_41 rfl (lv_at hl 0 rfl) ?_
        refine va_get (D := D) (ci := 3) (v := .int v_side) (C := RX3) (T := TX3) (N := 14) hx hb hts in_X3_placeOf_X3 hown hK.1 hP 0 rfl rfl 5 (by decide) (hts (.fieldLink RX3 39 "PaperBubbles$Law" "side" "I") (List.mem_of_getElem? (i := 1) rfl)) (fun _ h9 => h9) rfl dX3_placeOf_42 ?_
        refine lv_imul hx hb dX3_placeOf_45 ?_
        obtain ⟨t_12, et_12, h⟩ := nm_ok h
        refine gTop et_12 ?_
        refine lv_iload_n hx hb dX3_placeOf_46 rfl (lv_at hl 2 rfl) ?_
        refine lv_iadd hx hb dX3_placeOf_47 ?_
        obtain ⟨t_13, et_13, h⟩ := nm_ok h
        refine gTop et_13 ?_
        refine lv_aload_n hx hb dX3_placeOf_48 rfl (lv_at hl 0 rfl) ?_
        refine va_get (D := D) (ci := 3) (v := .int v_side) (C := RX3) (T := TX3) (N := 14) hx hb hts in_X3_placeOf_X3 hown hK.1 hP 0 rfl rfl 5 (by decide) (hts (.fieldLink RX3 39 "PaperBubbles$Law" "side" "I") (List.mem_of_getElem? (i := 1) rfl)) (fun _ h9 => h9) rfl dX3_placeOf_49 ?_
        refine lv_imul hx hb dX3_placeOf_52 ?_
        obtain ⟨t_14, et_14, h⟩ := nm_ok h
        refine gTop et_14 ?_
        refine lv_iload_n hx hb dX3_placeOf_53 rfl (lv_at hl 3 rfl) ?_
        refine lv_iadd hx hb dX3_placeOf_54 ?_
        cases h
        exact gIret hF hP hD hS rfl dX3_placeOf_55
      · have h := it_t c_11 h
        refine lv_iconst (v := (-1)) hx hb dX3_placeOf_38 (by decide) ?_
        cases h
        exact gIret hF hP hD hS rfl dX3_placeOf_39
