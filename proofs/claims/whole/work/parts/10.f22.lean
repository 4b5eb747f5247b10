def f_X12_goneWith_L8 (a_2 : Int32) : Nat → Int32 → Int32 → Int32 → Option (Int32)
  | 0, _, _, _ => none
  | n + 1, x3, x4, x5 =>
    if a_2 < x5 then
      some (-1)
    else
      if 0 < x3 then
        nm (x3 - x4 : Int32) fun t_3 =>
        if x4 ≤ 0 then
          nm (x4 - 0 : Int32) fun t_5 =>
          nm (x5 + 1 : Int32) fun t_6 =>
          f_X12_goneWith_L8 a_2 n t_3 t_5 t_6
        else
          nm (x4 - 1 : Int32) fun t_7 =>
          nm (x5 + 1 : Int32) fun t_8 =>
          f_X12_goneWith_L8 a_2 n t_3 t_7 t_8
      else
        some x5

def f_X12_goneWith (a_0 : Int32) (a_1 : Int32) (a_2 : Int32) : Option (Int32) :=
  f_X12_goneWith_L8 a_2 gFuel a_0 a_1 0

abbrev rm_X12_goneWith : Room := { frames := 0, cells := 0, slots := 0, locals := 0 }
set_option maxHeartbeats 4000000 in
set_option maxRecDepth 100000 in
theorem c_X12_goneWith (l : Launch) (D : va_G) (c : Nat → ClassId) (a_0 : Int32) (a_1 : Int32) (a_2 : Int32) (o_r : Int32) (h : f_X12_goneWith a_0 a_1 a_2 = some o_r) : gMI l yX12_goneWith wsX12_goneWith rm_X12_goneWith D c [.int a_0, .int a_1, .int a_2] [] [] o_r := by
  refine gMI_of (cc := cX12_goneWith) (maxL := 6) (rt := (some .int)) (by decide +kernel) rfl (Nat.le_of_ble_eq_true rfl) ?_
  intro p e s m below meth co A hF hK hX hP hD hA hS ls hl
  obtain ⟨hx, hb, hr, hts, hown, hlocks, hml⟩ := id hF
  have hl : lv_has ls 6 [(0, .int a_0), (1, .int a_1), (2, .int a_2)] := hl
  have t_L8 : ∀ (n : Nat), ∀ (x3 : Int32) (x4 : Int32) (x5 : Int32) (H : Heap) (locs : List Loc), va_P D gcl [] H → va_D A [] → va_S A s.heap H locs → ∀ ls, lv_has ls 6 [(2, .int a_2), (3, .int x3), (4, .int x4), (5, .int x5)] → f_X12_goneWith_L8 a_2 n x3 x4 x5 = some o_r → W p l e (headSpec wsX12_goneWith rm_X12_goneWith).room s m [.int a_0, .int a_1, .int a_2].toArray below meth co H locs 0 0 (gQI D [] o_r A below [.int a_0, .int a_1, .int a_2] s) (F0 m 8 ls []) := by
    intro n
    induction n with
    | zero => intro x3 x4 x5 H locs hP hD hS ls hl h; exact no_ok h
    | succ n ih =>
      intro x3 x4 x5 H locs hP hD hS ls hl h
      rw [f_X12_goneWith_L8] at h
      refine lv_iload hx hb dX12_goneWith_8 (lv_at hl 3 rfl) ?_
      refine lv_iload_n hx hb dX12_goneWith_10 rfl (lv_at hl 0 rfl) ?_
      refine lv_icmp_gt (tgt := 47) hx hb dX12_goneWith_11 (by decide) (fun c_1 => ?_) (fun c_1 => ?_)
      · replace h := it_t c_1 h
        refine lv_iconst (v := (-1)) hx hb dX12_goneWith_47 (by decide) ?_
        replace h := so1 h
        subst h
        exact gIret hF hP hD hS rfl dX12_goneWith_48
      · replace h := it_f c_1 h
        refine lv_iload_n hx hb dX12_goneWith_14 rfl (lv_at hl 1 rfl) ?_
        refine lv_if_gt (tgt := 21) hx hb dX12_goneWith_15 (by decide) (fun c_2 => ?_) (fun c_2 => ?_)
        · replace h := it_t c_2 h
          refine lv_iload_n hx hb dX12_goneWith_21 rfl (lv_at hl 1 rfl) ?_
          refine lv_iload hx hb dX12_goneWith_22 (lv_at hl 2 rfl) ?_
          refine lv_isub hx hb dX12_goneWith_24 ?_
          replace h := nm_ok h
          obtain ⟨t_3, et_3, h⟩ := h
          refine gTop et_3 ?_
          refine lv_istore_n (lv' := [(3, .int t_3), (2, .int a_2), (4, .int x4), (5, .int x5)]) hx hb dX12_goneWith_25 rfl hl (by decide) rfl (fun ls hl => ?_)
          refine lv_iload hx hb dX12_goneWith_26 (lv_at hl 2 rfl) ?_
          refine lv_iload hx hb dX12_goneWith_28 (lv_at hl 2 rfl) ?_
          refine lv_if_le (tgt := 37) hx hb dX12_goneWith_30 (by decide) (fun c_4 => ?_) (fun c_4 => ?_)
          · replace h := it_t c_4 h
            refine lv_iconst (v := 0) hx hb dX12_goneWith_37 (by decide) ?_
            refine lv_isub hx hb dX12_goneWith_38 ?_
            replace h := nm_ok h
            obtain ⟨t_5, et_5, h⟩ := h
            refine gTop et_5 ?_
            refine lv_istore (lv' := [(4, .int t_5), (3, .int t_3), (2, .int a_2), (5, .int x5)]) hx hb dX12_goneWith_39 hl (by decide) rfl (fun ls hl => ?_)
            replace h := nm_ok h
            obtain ⟨t_6, et_6, h⟩ := h
            refine lv_iinc (v := t_6) (lv' := [(5, .int t_6), (4, .int t_5), (3, .int t_3), (2, .int a_2)]) hx hb dX12_goneWith_41 hl (k := 3) rfl (by rw [et_6]; rfl) (by decide) rfl (fun ls hl => ?_)
            refine lv_goto (tgt := 8) hx hb dX12_goneWith_44 (by decide) ?_
            exact ih t_3 t_5 t_6 H locs hP hD hS ls (lv_sub hl [3, 2, 1, 0] rfl) h
          · replace h := it_f c_4 h
            refine lv_iconst (v := 1) hx hb dX12_goneWith_33 (by decide) ?_
            refine lv_goto (tgt := 38) hx hb dX12_goneWith_34 (by decide) ?_
            refine lv_isub hx hb dX12_goneWith_38 ?_
            replace h := nm_ok h
            obtain ⟨t_7, et_7, h⟩ := h
            refine gTop et_7 ?_
            refine lv_istore (lv' := [(4, .int t_7), (3, .int t_3), (2, .int a_2), (5, .int x5)]) hx hb dX12_goneWith_39 hl (by decide) rfl (fun ls hl => ?_)
            replace h := nm_ok h
            obtain ⟨t_8, et_8, h⟩ := h
            refine lv_iinc (v := t_8) (lv' := [(5, .int t_8), (4, .int t_7), (3, .int t_3), (2, .int a_2)]) hx hb dX12_goneWith_41 hl (k := 3) rfl (by rw [et_8]; rfl) (by decide) rfl (fun ls hl => ?_)
            refine lv_goto (tgt := 8) hx hb dX12_goneWith_44 (by decide) ?_
            exact ih t_3 t_7 t_8 H locs hP hD hS ls (lv_sub hl [3, 2, 1, 0] rfl) h
        · replace h := it_f c_2 h
          refine lv_iload hx hb dX12_goneWith_18 (lv_at hl 3 rfl) ?_
          replace h := so1 h
          subst h
          exact gIret hF hP hD hS rfl dX12_goneWith_20
  unfold f_X12_goneWith at h
  refine lv_iload_n hx hb dX12_goneWith_0 rfl (lv_at hl 0 rfl) ?_
  refine lv_istore_n (lv' := [(3, .int a_0), (0, .int a_0), (1, .int a_1), (2, .int a_2)]) hx hb dX12_goneWith_1 rfl hl (by decide) rfl (fun ls hl => ?_)
  refine lv_iload_n hx hb dX12_goneWith_2 rfl (lv_at hl 2 rfl) ?_
  refine lv_istore (lv' := [(4, .int a_1), (3, .int a_0), (0, .int a_0), (1, .int a_1), (2, .int a_2)]) hx hb dX12_goneWith_3 hl (by decide) rfl (fun ls hl => ?_)
  refine lv_iconst (v := 0) hx hb dX12_goneWith_5 (by decide) ?_
  refine lv_istore (lv' := [(5, .int 0), (4, .int a_1), (3, .int a_0), (0, .int a_0), (1, .int a_1), (2, .int a_2)]) hx hb dX12_goneWith_6 hl (by decide) rfl (fun ls hl => ?_)
  exact t_L8 gFuel a_0 a_1 0 s.heap [] hP hD hS ls (lv_sub hl [5, 2, 1, 0] rfl) h
set_option maxRecDepth 20000 in
theorem in_X12_goneBy_X12 : ∀ w ∈ u_ws RX12 TX12 26, w ∈ wsX12_goneBy := by decide +kernel
def f_X12_goneBy (a_1 : Int32) (v_d : Nat → Int32) (v_found : Nat → Int32) : Option (Int32 × (Nat → Int32)) :=
  kb (f_X12_isCell a_1 v_d) fun r_2 =>
  if r_2 = 0 then
    kb2 (f_X12_finds 1 v_found) fun r_17 w_18 =>
    some (r_17, w_18)
  else
    nm (10 + a_1 : Int32) fun t_4 =>
    chi t_4 244 <|
    nm (v_d t_4.toNatClampNeg : Int32) fun t_6 =>
    nm (35 + a_1 : Int32) fun t_7 =>
    chi t_7 244 <|
    nm (v_d t_7.toNatClampNeg : Int32) fun t_9 =>
    kb (f_X12_goneWith t_6 t_9 30) fun r_11 =>
    if 0 ≤ r_11 then
      some (r_11, v_found)
    else
      kb2 (f_X12_finds 2 v_found) fun r_14 w_15 =>
      some (r_14, w_15)

abbrev rm_X12_goneBy : Room := { frames := 2, cells := 0, slots := 0, locals := 46 }
set_option maxHeartbeats 4000000 in
set_option maxRecDepth 100000 in
theorem c_X12_goneBy (l : Launch) (D : va_G) (c : Nat → ClassId) (q_this q_d q_kept q_found q_aside q_names q_seenKept q_movedKept q_traced q_bitsOf q_sizeOf q_number q_lifted : Nat) (a_1 : Int32) (v_images : Int32) (v_base : Int32) (v_at : Int32) (v_size : Int32) (v_fault : Int32) (v_opened : Int32) (v_isSeen : Int32) (v_isKeeping : Int32) (v_bubbleMany : Int32) (v_bubbleMost : Int32) (v_bubbleCell : Int32) (v_bestShown : Int32) (v_traceMany : Int32) (v_who : Int32) (v_d : Nat → Int32) (v_found : Nat → Int32) (o_r : Int32) (o_v_found : Nat → Int32) (h : f_X12_goneBy a_1 v_d v_found = some (o_r, o_v_found)) : gMI l yX12_goneBy wsX12_goneBy rm_X12_goneBy D c [.ref q_this, .int a_1] [(q_this, .inr (12, [.ref q_d, .ref q_kept, .int v_images, .ref q_found, .ref q_aside, .int v_base, .int v_at, .int v_size, .int v_fault, .int v_opened, .int v_isSeen, .ref q_names, .ref q_seenKept, .ref q_movedKept, .int v_isKeeping, .int v_bubbleMany, .int v_bubbleMost, .int v_bubbleCell, .int v_bestShown, .ref q_traced, .int v_traceMany, .int v_who, .ref q_bitsOf, .ref q_sizeOf, .ref q_number, .ref q_lifted])), (q_d, .inl (c 0, 244, .inl v_d)), (q_found, .inl (c 0, 6, .inl v_found))] [(q_this, .inr (12, [.ref q_d, .ref q_kept, .int v_images, .ref q_found, .ref q_aside, .int v_base, .int v_at, .int v_size, .int v_fault, .int v_opened, .int v_isSeen, .ref q_names, .ref q_seenKept, .ref q_movedKept, .int v_isKeeping, .int v_bubbleMany, .int v_bubbleMost, .int v_bubbleCell, .int v_bestShown, .ref q_traced, .int v_traceMany, .int v_who, .ref q_bitsOf, .ref q_sizeOf, .ref q_number, .ref q_lifted])), (q_d, .inl (c 0, 244, .inl v_d)), (q_found, .inl (c 0, 6, .inl o_v_found))] o_r := by
  refine gMI_of (cc := cX12_goneBy) (maxL := 3) (rt := (some .int)) (by decide +kernel) rfl (Nat.le_of_ble_eq_true rfl) ?_
  intro p e s m below meth co A hF hK hX hP hD hA hS ls hl
  obtain ⟨hx, hb, hr, hts, hown, hlocks, hml⟩ := id hF
  have hl : lv_has ls 3 [(0, .ref q_this), (1, .int a_1)] := hl
  unfold f_X12_goneBy at h
  refine lv_aload_n hx hb dX12_goneBy_0 rfl (lv_at hl 0 rfl) ?_
  refine lv_iload_n hx hb dX12_goneBy_1 rfl (lv_at hl 1 rfl) ?_
  replace h := kb_ok h
  obtain ⟨r_2, hc_1, h⟩ := h
  refine gCallIr (isC := [0, 1]) (wc := [(q_this, .inr (12, [.ref q_d, .ref q_kept, .int v_images, .ref q_found, .ref q_aside, .int v_base, .int v_at, .int v_size, .int v_fault, .int v_opened, .int v_isSeen, .ref q_names, .ref q_seenKept, .ref q_movedKept, .int v_isKeeping, .int v_bubbleMany, .int v_bubbleMost, .int v_bubbleCell, .int v_bestShown, .ref q_traced, .int v_traceMany, .int v_who, .ref q_bitsOf, .ref q_sizeOf, .ref q_number, .ref q_lifted])), (q_d, .inl (c 0, 244, .inl v_d))]) hP hD hS hA ⟨rfl, rfl, trivial⟩ (va_runV (rm := rm_X12_isCell) (ws := wsX12_isCell) (As := [.int a_1]) (rest := []) (gFix hF) (c_X12_isCell l D c q_this q_d q_kept q_found q_aside q_names q_seenKept q_movedKept q_traced q_bitsOf q_sizeOf q_number q_lifted a_1 v_images v_base v_at v_size v_fault v_opened v_isSeen v_isKeeping v_bubbleMany v_bubbleMost v_bubbleCell v_bestShown v_traceMany v_who v_d r_2 hc_1 s.heap.size) (cwV 1 hts gX12_goneBy_X12_isCell rfl rfl rfl (by decide +kernel) ⟨Nat.le_of_ble_eq_true rfl, Nat.le_of_ble_eq_true rfl⟩) (gPreV (wc := [(q_this, .inr (12, [.ref q_d, .ref q_kept, .int v_images, .ref q_found, .ref q_aside, .int v_base, .int v_at, .int v_size, .int v_fault, .int v_opened, .int v_isSeen, .ref q_names, .ref q_seenKept, .ref q_movedKept, .int v_isKeeping, .int v_bubbleMany, .int v_bubbleMost, .int v_bubbleCell, .int v_bestShown, .ref q_traced, .int v_traceMany, .int v_who, .ref q_bitsOf, .ref q_sizeOf, .ref q_number, .ref q_lifted])), (q_d, .inl (c 0, 244, .inl v_d))]) (q := (RX12, TX12, 26)) (ci := 12) (q0 := 0) (isC := [0, 1]) hK hX hS hA hP hD ⟨rfl, rfl, trivial⟩ (by decide +kernel) rfl rfl) rfl rfl hl.1 rfl (lv_room (Nat.le_of_ble_eq_true rfl)) dX12_goneBy_2 ⟨Nat.le_of_ble_eq_true rfl, Nat.le_of_ble_eq_true rfl⟩) (fun H locs hP hS => ?_)
  refine lv_if_ne (tgt := 14) hx hb dX12_goneBy_5 (by decide) (fun c_3 => ?_) (fun c_3 => ?_)
  · replace h := it_f c_3 h
    refine lv_aload_n hx hb dX12_goneBy_14 rfl (lv_at hl 0 rfl) ?_
    refine va_get (D := D) (ci := 12) (v := .ref q_d) (C := RX12) (T := TX12) (N := 26) hx hb hts in_X12_goneBy_X12 hown hK.1 hP 0 rfl rfl 0 (by decide) (hts (.fieldLink RX12 7 "PaperBubblesModel" "d" "[I") (List.mem_of_getElem? (i := 1) rfl)) (fun _ h9 => h9) rfl dX12_goneBy_15 ?_
    refine lv_bipush (v := 10) hx hb dX12_goneBy_18 (by decide) ?_
    refine lv_iload_n hx hb dX12_goneBy_20 rfl (lv_at hl 1 rfl) ?_
    refine lv_iadd hx hb dX12_goneBy_21 ?_
    replace h := nm_ok h
    obtain ⟨t_4, et_4, h⟩ := h
    refine gTop et_4 ?_
    replace h := chi_ok h
    obtain ⟨hi_5, h⟩ := h
    refine va_iald hx hb hK.1 hP 1 0 rfl rfl hi_5 dX12_goneBy_22 ?_
    replace h := nm_ok h
    obtain ⟨t_6, et_6, h⟩ := h
    refine gTop et_6 ?_
    refine lv_aload_n hx hb dX12_goneBy_23 rfl (lv_at hl 0 rfl) ?_
    refine va_get (D := D) (ci := 12) (v := .ref q_d) (C := RX12) (T := TX12) (N := 26) hx hb hts in_X12_goneBy_X12 hown hK.1 hP 0 rfl rfl 0 (by decide) (hts (.fieldLink RX12 7 "PaperBubblesModel" "d" "[I") (List.mem_of_getElem? (i := 1) rfl)) (fun _ h9 => h9) rfl dX12_goneBy_24 ?_
    refine lv_bipush (v := 35) hx hb dX12_goneBy_27 (by decide) ?_
    refine lv_iload_n hx hb dX12_goneBy_29 rfl (lv_at hl 1 rfl) ?_
    refine lv_iadd hx hb dX12_goneBy_30 ?_
    replace h := nm_ok h
    obtain ⟨t_7, et_7, h⟩ := h
    refine gTop et_7 ?_
    replace h := chi_ok h
    obtain ⟨hi_8, h⟩ := h
    refine va_iald hx hb hK.1 hP 1 0 rfl rfl hi_8 dX12_goneBy_31 ?_
    replace h := nm_ok h
    obtain ⟨t_9, et_9, h⟩ := h
    refine gTop et_9 ?_
    refine lv_bipush (v := 30) hx hb dX12_goneBy_32 (by decide) ?_
    replace h := kb_ok h
    obtain ⟨r_11, hc_10, h⟩ := h
    refine gCallIr (isC := []) (wc := []) hP hD hS hA trivial (va_runS (rm := rm_X12_goneWith) (ws := wsX12_goneWith) (As := [.int t_6, .int t_9, .int 30]) (rest := []) (gFix hF) (c_X12_goneWith l D c t_6 t_9 30 r_11 hc_10 H.size) (va_cwS 3 hts gX12_goneBy_X12_goneWith rfl rfl rfl (by decide +kernel) ⟨Nat.le_of_ble_eq_true rfl, Nat.le_of_ble_eq_true rfl⟩) (gPreS (wc := []) (isC := []) hK hX hS hA hP hD trivial (by decide +kernel)) rfl rfl hl.1 rfl (lv_room (Nat.le_of_ble_eq_true rfl)) dX12_goneBy_34 ⟨Nat.le_of_ble_eq_true rfl, Nat.le_of_ble_eq_true rfl⟩) (fun H locs hP hS => ?_)
    refine lv_istore_n (lv' := [(2, .int r_11), (0, .ref q_this), (1, .int a_1)]) hx hb dX12_goneBy_37 rfl hl (by decide) rfl (fun ls hl => ?_)
    refine lv_iload_n hx hb dX12_goneBy_38 rfl (lv_at hl 0 rfl) ?_
    refine lv_if_ge (tgt := 50) hx hb dX12_goneBy_39 (by decide) (fun c_12 => ?_) (fun c_12 => ?_)
    · replace h := it_t c_12 h
      refine lv_iload_n hx hb dX12_goneBy_50 rfl (lv_at hl 0 rfl) ?_
      replace h := so2 h
      obtain ⟨z0, z1⟩ := h
      subst z0 z1
      exact gIret hF hP hD hS rfl dX12_goneBy_51
    · replace h := it_f c_12 h
      refine lv_aload_n hx hb dX12_goneBy_42 rfl (lv_at hl 1 rfl) ?_
      refine lv_iconst (v := 2) hx hb dX12_goneBy_43 (by decide) ?_
      replace h := kb2_ok h
      obtain ⟨r_14, w_15, hc_13, h⟩ := h
      refine gCallI (isC := [0, 2]) (wc := [(q_this, .inr (12, [.ref q_d, .ref q_kept, .int v_images, .ref q_found, .ref q_aside, .int v_base, .int v_at, .int v_size, .int v_fault, .int v_opened, .int v_isSeen, .ref q_names, .ref q_seenKept, .ref q_movedKept, .int v_isKeeping, .int v_bubbleMany, .int v_bubbleMost, .int v_bubbleCell, .int v_bestShown, .ref q_traced, .int v_traceMany, .int v_who, .ref q_bitsOf, .ref q_sizeOf, .ref q_number, .ref q_lifted])), (q_found, .inl (c 0, 6, .inl v_found))]) (w1 := [(q_this, .inr (12, [.ref q_d, .ref q_kept, .int v_images, .ref q_found, .ref q_aside, .int v_base, .int v_at, .int v_size, .int v_fault, .int v_opened, .int v_isSeen, .ref q_names, .ref q_seenKept, .ref q_movedKept, .int v_isKeeping, .int v_bubbleMany, .int v_bubbleMost, .int v_bubbleCell, .int v_bestShown, .ref q_traced, .int v_traceMany, .int v_who, .ref q_bitsOf, .ref q_sizeOf, .ref q_number, .ref q_lifted])), (q_found, .inl (c 0, 6, .inl w_15))]) (ws2 := [(q_this, .inr (12, [.ref q_d, .ref q_kept, .int v_images, .ref q_found, .ref q_aside, .int v_base, .int v_at, .int v_size, .int v_fault, .int v_opened, .int v_isSeen, .ref q_names, .ref q_seenKept, .ref q_movedKept, .int v_isKeeping, .int v_bubbleMany, .int v_bubbleMost, .int v_bubbleCell, .int v_bestShown, .ref q_traced, .int v_traceMany, .int v_who, .ref q_bitsOf, .ref q_sizeOf, .ref q_number, .ref q_lifted])), (q_d, .inl (c 0, 244, .inl v_d)), (q_found, .inl (c 0, 6, .inl w_15))]) (ms := [(some 0), none, (some 1)]) hP hD hS hA ⟨rfl, rfl, trivial⟩ (by decide +kernel) ⟨rfl, rfl, rfl, trivial⟩ (va_runV (rm := rm_X12_finds) (ws := wsX12_finds) (As := [.int 2]) (rest := []) (gFix hF) (c_X12_finds l D c q_this q_d q_kept q_found q_aside q_names q_seenKept q_movedKept q_traced q_bitsOf q_sizeOf q_number q_lifted 2 v_images v_base v_at v_size v_fault v_opened v_isSeen v_isKeeping v_bubbleMany v_bubbleMost v_bubbleCell v_bestShown v_traceMany v_who v_found r_14 w_15 hc_13 H.size) (cwV 1 hts gX12_goneBy_X12_finds rfl rfl rfl (by decide +kernel) ⟨Nat.le_of_ble_eq_true rfl, Nat.le_of_ble_eq_true rfl⟩) (gPreV (wc := [(q_this, .inr (12, [.ref q_d, .ref q_kept, .int v_images, .ref q_found, .ref q_aside, .int v_base, .int v_at, .int v_size, .int v_fault, .int v_opened, .int v_isSeen, .ref q_names, .ref q_seenKept, .ref q_movedKept, .int v_isKeeping, .int v_bubbleMany, .int v_bubbleMost, .int v_bubbleCell, .int v_bestShown, .ref q_traced, .int v_traceMany, .int v_who, .ref q_bitsOf, .ref q_sizeOf, .ref q_number, .ref q_lifted])), (q_found, .inl (c 0, 6, .inl v_found))]) (q := (RX12, TX12, 26)) (ci := 12) (q0 := 0) (isC := [0, 2]) hK hX hS hA hP hD ⟨rfl, rfl, trivial⟩ (by decide +kernel) rfl rfl) rfl rfl hl.1 rfl (lv_room (Nat.le_of_ble_eq_true rfl)) dX12_goneBy_44 ⟨Nat.le_of_ble_eq_true rfl, Nat.le_of_ble_eq_true rfl⟩) (fun H locs hP hD hS => ?_)
      refine lv_goto (tgt := 51) hx hb dX12_goneBy_47 (by decide) ?_
      replace h := so2 h
      obtain ⟨z0, z1⟩ := h
      subst z0 z1
      exact gIret hF hP hD hS rfl dX12_goneBy_51
  · replace h := it_t c_3 h
    refine lv_aload_n hx hb dX12_goneBy_8 rfl (lv_at hl 0 rfl) ?_
    refine lv_iconst (v := 1) hx hb dX12_goneBy_9 (by decide) ?_
    replace h := kb2_ok h
    obtain ⟨r_17, w_18, hc_16, h⟩ := h
    refine gCallI (isC := [0, 2]) (wc := [(q_this, .inr (12, [.ref q_d, .ref q_kept, .int v_images, .ref q_found, .ref q_aside, .int v_base, .int v_at, .int v_size, .int v_fault, .int v_opened, .int v_isSeen, .ref q_names, .ref q_seenKept, .ref q_movedKept, .int v_isKeeping, .int v_bubbleMany, .int v_bubbleMost, .int v_bubbleCell, .int v_bestShown, .ref q_traced, .int v_traceMany, .int v_who, .ref q_bitsOf, .ref q_sizeOf, .ref q_number, .ref q_lifted])), (q_found, .inl (c 0, 6, .inl v_found))]) (w1 := [(q_this, .inr (12, [.ref q_d, .ref q_kept, .int v_images, .ref q_found, .ref q_aside, .int v_base, .int v_at, .int v_size, .int v_fault, .int v_opened, .int v_isSeen, .ref q_names, .ref q_seenKept, .ref q_movedKept, .int v_isKeeping, .int v_bubbleMany, .int v_bubbleMost, .int v_bubbleCell, .int v_bestShown, .ref q_traced, .int v_traceMany, .int v_who, .ref q_bitsOf, .ref q_sizeOf, .ref q_number, .ref q_lifted])), (q_found, .inl (c 0, 6, .inl w_18))]) (ws2 := [(q_this, .inr (12, [.ref q_d, .ref q_kept, .int v_images, .ref q_found, .ref q_aside, .int v_base, .int v_at, .int v_size, .int v_fault, .int v_opened, .int v_isSeen, .ref q_names, .ref q_seenKept, .ref q_movedKept, .int v_isKeeping, .int v_bubbleMany, .int v_bubbleMost, .int v_bubbleCell, .int v_bestShown, .ref q_traced, .int v_traceMany, .int v_who, .ref q_bitsOf, .ref q_sizeOf, .ref q_number, .ref q_lifted])), (q_d, .inl (c 0, 244, .inl v_d)), (q_found, .inl (c 0, 6, .inl w_18))]) (ms := [(some 0), none, (some 1)]) hP hD hS hA ⟨rfl, rfl, trivial⟩ (by decide +kernel) ⟨rfl, rfl, rfl, trivial⟩ (va_runV (rm := rm_X12_finds) (ws := wsX12_finds) (As := [.int 1]) (rest := []) (gFix hF) (c_X12_finds l D c q_this q_d q_kept q_found q_aside q_names q_seenKept q_movedKept q_traced q_bitsOf q_sizeOf q_number q_lifted 1 v_images v_base v_at v_size v_fault v_opened v_isSeen v_isKeeping v_bubbleMany v_bubbleMost v_bubbleCell v_bestShown v_traceMany v_who v_found r_17 w_18 hc_16 H.size) (cwV 1 hts gX12_goneBy_X12_finds rfl rfl rfl (by decide +kernel) ⟨Nat.le_of_ble_eq_true rfl, Nat.le_of_ble_eq_true rfl⟩) (gPreV (wc := [(q_this, .inr (12, [.ref q_d, .ref q_kept, .int v_images, .ref q_found, .ref q_aside, .int v_base, .int v_at, .int v_size, .int v_fault, .int v_opened, .int v_isSeen, .ref q_names, .ref q_seenKept, .ref q_movedKept, .int v_isKeeping, .int v_bubbleMany, .int v_bubbleMost, .int v_bubbleCell, .int v_bestShown, .ref q_traced, .int v_traceMany, .int v_who, .ref q_bitsOf, .ref q_sizeOf, .ref q_number, .ref q_lifted])), (q_found, .inl (c 0, 6, .inl v_found))]) (q := (RX12, TX12, 26)) (ci := 12) (q0 := 0) (isC := [0, 2]) hK hX hS hA hP hD ⟨rfl, rfl, trivial⟩ (by decide +kernel) rfl rfl) rfl rfl hl.1 rfl (lv_room (Nat.le_of_ble_eq_true rfl)) dX12_goneBy_10 ⟨Nat.le_of_ble_eq_true rfl, Nat.le_of_ble_eq_true rfl⟩) (fun H locs hP hD hS => ?_)
    replace h := so2 h
    obtain ⟨z0, z1⟩ := h
    subst z0 z1
    exact gIret hF hP hD hS rfl dX12_goneBy_13
set_option maxRecDepth 20000 in
theorem in_X12_image_X12 : ∀ w ∈ u_ws RX12 TX12 26, w ∈ wsX12_image := by decide +kernel
def f_X12_image_L2 (v_d : Nat → Int32) : Nat → Int32 → Int32 → (Nat → Int32) → Option (Int32 × Int32 × (Nat → Int32))
  | 0, _, _, _ => none
  | n + 1, x1, v_images, v_kept =>
    if 244 ≤ x1 then
      nm (v_images + 1 : Int32) fun t_2 =>
      some (t_2, t_2, v_kept)
    else
      chi x1 244 <|
      nm (v_d x1.toNatClampNeg : Int32) fun t_4 =>
      chi x1 244 <|
      nm (upd v_kept x1.toNatClampNeg t_4) fun w_6 =>
      nm (x1 + 1 : Int32) fun t_7 =>
      f_X12_image_L2 v_d n t_7 v_images w_6

def f_X12_image (v_images : Int32) (v_d : Nat → Int32) (v_kept : Nat → Int32) : Option (Int32 × Int32 × (Nat → Int32)) :=
  f_X12_image_L2 v_d gFuel 0 v_images v_kept

abbrev rm_X12_image : Room := { frames := 0, cells := 0, slots := 0, locals := 0 }
set_option maxHeartbeats 4000000 in
set_option maxRecDepth 100000 in
theorem c_X12_image (l : Launch) (D : va_G) (c : Nat → ClassId) (q_this q_d q_kept q_found q_aside q_names q_seenKept q_movedKept q_traced q_bitsOf q_sizeOf q_number q_lifted : Nat) (v_images : Int32) (v_base : Int32) (v_at : Int32) (v_size : Int32) (v_fault : Int32) (v_opened : Int32) (v_isSeen : Int32) (v_isKeeping : Int32) (v_bubbleMany : Int32) (v_bubbleMost : Int32) (v_bubbleCell : Int32) (v_bestShown : Int32) (v_traceMany : Int32) (v_who : Int32) (v_d : Nat → Int32) (v_kept : Nat → Int32) (o_r : Int32) (o_v_images : Int32) (o_v_kept : Nat → Int32) (h : f_X12_image v_images v_d v_kept = some (o_r, o_v_images, o_v_kept)) : gMI l yX12_image wsX12_image rm_X12_image D c [.ref q_this] [(q_this, .inr (12, [.ref q_d, .ref q_kept, .int v_images, .ref q_found, .ref q_aside, .int v_base, .int v_at, .int v_size, .int v_fault, .int v_opened, .int v_isSeen, .ref q_names, .ref q_seenKept, .ref q_movedKept, .int v_isKeeping, .int v_bubbleMany, .int v_bubbleMost, .int v_bubbleCell, .int v_bestShown, .ref q_traced, .int v_traceMany, .int v_who, .ref q_bitsOf, .ref q_sizeOf, .ref q_number, .ref q_lifted])), (q_d, .inl (c 0, 244, .inl v_d)), (q_kept, .inl (c 0, 244, .inl v_kept))] [(q_this, .inr (12, [.ref q_d, .ref q_kept, .int o_v_images, .ref q_found, .ref q_aside, .int v_base, .int v_at, .int v_size, .int v_fault, .int v_opened, .int v_isSeen, .ref q_names, .ref q_seenKept, .ref q_movedKept, .int v_isKeeping, .int v_bubbleMany, .int v_bubbleMost, .int v_bubbleCell, .int v_bestShown, .ref q_traced, .int v_traceMany, .int v_who, .ref q_bitsOf, .ref q_sizeOf, .ref q_number, .ref q_lifted])), (q_d, .inl (c 0, 244, .inl v_d)), (q_kept, .inl (c 0, 244, .inl o_v_kept))] o_r := by
  refine gMI_of (cc := cX12_image) (maxL := 2) (rt := (some .int)) (by decide +kernel) rfl (Nat.le_of_ble_eq_true rfl) ?_
  intro p e s m below meth co A hF hK hX hP hD hA hS ls hl
  obtain ⟨hx, hb, hr, hts, hown, hlocks, hml⟩ := id hF
  have hl : lv_has ls 2 [(0, .ref q_this)] := hl
  have t_L2 : ∀ (n : Nat), ∀ (x1 : Int32) (v_images : Int32) (v_kept : Nat → Int32) (H : Heap) (locs : List Loc), va_P D gcl [(q_this, .inr (12, [.ref q_d, .ref q_kept, .int v_images, .ref q_found, .ref q_aside, .int v_base, .int v_at, .int v_size, .int v_fault, .int v_opened, .int v_isSeen, .ref q_names, .ref q_seenKept, .ref q_movedKept, .int v_isKeeping, .int v_bubbleMany, .int v_bubbleMost, .int v_bubbleCell, .int v_bestShown, .ref q_traced, .int v_traceMany, .int v_who, .ref q_bitsOf, .ref q_sizeOf, .ref q_number, .ref q_lifted])), (q_d, .inl (c 0, 244, .inl v_d)), (q_kept, .inl (c 0, 244, .inl v_kept))] H → va_D A [(q_this, .inr (12, [.ref q_d, .ref q_kept, .int v_images, .ref q_found, .ref q_aside, .int v_base, .int v_at, .int v_size, .int v_fault, .int v_opened, .int v_isSeen, .ref q_names, .ref q_seenKept, .ref q_movedKept, .int v_isKeeping, .int v_bubbleMany, .int v_bubbleMost, .int v_bubbleCell, .int v_bestShown, .ref q_traced, .int v_traceMany, .int v_who, .ref q_bitsOf, .ref q_sizeOf, .ref q_number, .ref q_lifted])), (q_d, .inl (c 0, 244, .inl v_d)), (q_kept, .inl (c 0, 244, .inl v_kept))] → va_S A s.heap H locs → ∀ ls, lv_has ls 2 [(0, .ref q_this), (1, .int x1)] → f_X12_image_L2 v_d n x1 v_images v_kept = some (o_r, o_v_images, o_v_kept) → W p l e (headSpec wsX12_image rm_X12_image).room s m [.ref q_this].toArray below meth co H locs 0 0 (gQI D [(q_this, .inr (12, [.ref q_d, .ref q_kept, .int o_v_images, .ref q_found, .ref q_aside, .int v_base, .int v_at, .int v_size, .int v_fault, .int v_opened, .int v_isSeen, .ref q_names, .ref q_seenKept, .ref q_movedKept, .int v_isKeeping, .int v_bubbleMany, .int v_bubbleMost, .int v_bubbleCell, .int v_bestShown, .ref q_traced, .int v_traceMany, .int v_who, .ref q_bitsOf, .ref q_sizeOf, .ref q_number, .ref q_lifted])), (q_d, .inl (c 0, 244, .inl v_d)), (q_kept, .inl (c 0, 244, .inl o_v_kept))] o_r A below [.ref q_this] s) (F0 m 2 ls []) := by
    intro n
    induction n with
    | zero => intro x1 v_images v_kept H locs hP hD hS ls hl h; exact no_ok h
    | succ n ih =>
      intro x1 v_images v_kept H locs hP hD hS ls hl h
      rw [f_X12_image_L2] at h
      refine lv_iload_n hx hb dX12_image_2 rfl (lv_at hl 1 rfl) ?_
      refine lv_sipush (v := 244) hx hb dX12_image_3 (by decide) ?_
      refine lv_icmp_ge (tgt := 27) hx hb dX12_image_6 (by decide) (fun c_1 => ?_) (fun c_1 => ?_)
      · replace h := it_t c_1 h
        refine lv_aload_n hx hb dX12_image_27 rfl (lv_at hl 0 rfl) ?_
        refine lv_dup hx hb dX12_image_28 rfl ?_
        refine va_get (D := D) (ci := 12) (v := .int v_images) (C := RX12) (T := TX12) (N := 26) hx hb hts in_X12_image_X12 hown hK.1 hP 0 rfl rfl 2 (by decide) (hts (.fieldLink RX12 283 "PaperBubblesModel" "images" "I") (List.mem_of_getElem? (i := 3) rfl)) (fun _ h9 => h9) rfl dX12_image_29 ?_
        refine lv_iconst (v := 1) hx hb dX12_image_32 (by decide) ?_
        refine lv_iadd hx hb dX12_image_33 ?_
        replace h := nm_ok h
        obtain ⟨t_2, et_2, h⟩ := h
        refine gTop et_2 ?_
        refine va_put (D := D) (ci := 12) (v := .int t_2) (ty := .int) (C := RX12) (T := TX12) (N := 26) hx hb hts in_X12_image_X12 tyX12 tyX12_ok nmX12 hown hK.1 hP hD hS 0 rfl rfl 2 (by decide) (hts (.fieldLink RX12 283 "PaperBubblesModel" "images" "I") (List.mem_of_getElem? (i := 3) rfl)) (fun _ h9 => h9) rfl (by decide +kernel) rfl rfl (Nat.le_of_ble_eq_true rfl) dX12_image_34 (fun H locs hP hD hS => ?_)
        have hP : va_P D gcl [(q_this, .inr (12, [.ref q_d, .ref q_kept, .int t_2, .ref q_found, .ref q_aside, .int v_base, .int v_at, .int v_size, .int v_fault, .int v_opened, .int v_isSeen, .ref q_names, .ref q_seenKept, .ref q_movedKept, .int v_isKeeping, .int v_bubbleMany, .int v_bubbleMost, .int v_bubbleCell, .int v_bestShown, .ref q_traced, .int v_traceMany, .int v_who, .ref q_bitsOf, .ref q_sizeOf, .ref q_number, .ref q_lifted])), (q_d, .inl (c 0, 244, .inl v_d)), (q_kept, .inl (c 0, 244, .inl v_kept))] H := hP
        have hD : va_D A [(q_this, .inr (12, [.ref q_d, .ref q_kept, .int t_2, .ref q_found, .ref q_aside, .int v_base, .int v_at, .int v_size, .int v_fault, .int v_opened, .int v_isSeen, .ref q_names, .ref q_seenKept, .ref q_movedKept, .int v_isKeeping, .int v_bubbleMany, .int v_bubbleMost, .int v_bubbleCell, .int v_bestShown, .ref q_traced, .int v_traceMany, .int v_who, .ref q_bitsOf, .ref q_sizeOf, .ref q_number, .ref q_lifted])), (q_d, .inl (c 0, 244, .inl v_d)), (q_kept, .inl (c 0, 244, .inl v_kept))] := hD
        refine lv_aload_n hx hb dX12_image_37 rfl (lv_at hl 0 rfl) ?_
        refine va_get (D := D) (ci := 12) (v := .int t_2) (C := RX12) (T := TX12) (N := 26) hx hb hts in_X12_image_X12 hown hK.1 hP 0 rfl rfl 2 (by decide) (hts (.fieldLink RX12 283 "PaperBubblesModel" "images" "I") (List.mem_of_getElem? (i := 3) rfl)) (fun _ h9 => h9) rfl dX12_image_38 ?_
        replace h := so3 h
        obtain ⟨z0, z1, z2⟩ := h
        subst z0 z1 z2
        exact gIret hF hP hD hS rfl dX12_image_41
      · replace h := it_f c_1 h
        refine lv_aload_n hx hb dX12_image_9 rfl (lv_at hl 0 rfl) ?_
        refine va_get (D := D) (ci := 12) (v := .ref q_kept) (C := RX12) (T := TX12) (N := 26) hx hb hts in_X12_image_X12 hown hK.1 hP 0 rfl rfl 1 (by decide) (hts (.fieldLink RX12 13 "PaperBubblesModel" "kept" "[I") (List.mem_of_getElem? (i := 1) rfl)) (fun _ h9 => h9) rfl dX12_image_10 ?_
        refine lv_iload_n hx hb dX12_image_13 rfl (lv_at hl 1 rfl) ?_
        refine lv_aload_n hx hb dX12_image_14 rfl (lv_at hl 0 rfl) ?_
        refine va_get (D := D) (ci := 12) (v := .ref q_d) (C := RX12) (T := TX12) (N := 26) hx hb hts in_X12_image_X12 hown hK.1 hP 0 rfl rfl 0 (by decide) (hts (.fieldLink RX12 7 "PaperBubblesModel" "d" "[I") (List.mem_of_getElem? (i := 2) rfl)) (fun _ h9 => h9) rfl dX12_image_15 ?_
        refine lv_iload_n hx hb dX12_image_18 rfl (lv_at hl 1 rfl) ?_
        replace h := chi_ok h
        obtain ⟨hi_3, h⟩ := h
        refine va_iald hx hb hK.1 hP 1 0 rfl rfl hi_3 dX12_image_19 ?_
        replace h := nm_ok h
        obtain ⟨t_4, et_4, h⟩ := h
        refine gTop et_4 ?_
        replace h := chi_ok h
        obtain ⟨hi_5, h⟩ := h
        replace h := nm_ok h
        obtain ⟨w_6, ew_6, h⟩ := h
        refine va_iast hx hb hK.1 hP hD hS 2 0 rfl rfl hi_5 dX12_image_20 (fun H locs hP hD hS => ?_)
        have hP : va_P D gcl [(q_this, .inr (12, [.ref q_d, .ref q_kept, .int v_images, .ref q_found, .ref q_aside, .int v_base, .int v_at, .int v_size, .int v_fault, .int v_opened, .int v_isSeen, .ref q_names, .ref q_seenKept, .ref q_movedKept, .int v_isKeeping, .int v_bubbleMany, .int v_bubbleMost, .int v_bubbleCell, .int v_bestShown, .ref q_traced, .int v_traceMany, .int v_who, .ref q_bitsOf, .ref q_sizeOf, .ref q_number, .ref q_lifted])), (q_d, .inl (c 0, 244, .inl v_d)), (q_kept, .inl (c 0, 244, .inl w_6))] H := by subst ew_6; exact hP
        have hD : va_D A [(q_this, .inr (12, [.ref q_d, .ref q_kept, .int v_images, .ref q_found, .ref q_aside, .int v_base, .int v_at, .int v_size, .int v_fault, .int v_opened, .int v_isSeen, .ref q_names, .ref q_seenKept, .ref q_movedKept, .int v_isKeeping, .int v_bubbleMany, .int v_bubbleMost, .int v_bubbleCell, .int v_bestShown, .ref q_traced, .int v_traceMany, .int v_who, .ref q_bitsOf, .ref q_sizeOf, .ref q_number, .ref q_lifted])), (q_d, .inl (c 0, 244, .inl v_d)), (q_kept, .inl (c 0, 244, .inl w_6))] := by subst ew_6; exact hD
        replace h := nm_ok h
        obtain ⟨t_7, et_7, h⟩ := h
        refine lv_iinc (v := t_7) (lv' := [(1, .int t_7), (0, .ref q_this)]) hx hb dX12_image_21 hl (k := 1) rfl (by rw [et_7]; rfl) (by decide) rfl (fun ls hl => ?_)
        refine lv_goto (tgt := 2) hx hb dX12_image_24 (by decide) ?_
        exact ih t_7 v_images w_6 H locs hP hD hS ls (lv_sub hl [1, 0] rfl) h
  unfold f_X12_image at h
  refine lv_iconst (v := 0) hx hb dX12_image_0 (by decide) ?_
  refine lv_istore_n (lv' := [(1, .int 0), (0, .ref q_this)]) hx hb dX12_image_1 rfl hl (by decide) rfl (fun ls hl => ?_)
  exact t_L2 gFuel 0 v_images v_kept s.heap [] hP hD hS ls (lv_sub hl [1, 0] rfl) h
set_option maxRecDepth 20000 in
theorem in_X12_judge_X12 : ∀ w ∈ u_ws RX12 TX12 26, w ∈ wsX12_judge := by decide +kernel
def f_X12_judge_L77 (a_1 : Int32) (v_d : Nat → Int32) (v_sizeOf : Nat → Int32) (x2 : Int32) (v_found : Nat → Int32) : Option (Int32 × (Nat → Int32)) :=
  chi a_1 4 <|
  if x2 = (v_sizeOf a_1.toNatClampNeg) then
    kb (f_X12_cells v_d) fun r_28 =>
    if x2 = r_28 then
      some ((-1), v_found)
    else
      some (x2, v_found)
  else
    some (x2, v_found)

def f_X12_judge_L30 (a_1 : Int32) (v_d : Nat → Int32) (v_number : Nat → Int32) (v_sizeOf : Nat → Int32) : Nat → Int32 → (Nat → Int32) → Option (Int32 × (Nat → Int32))
  | 0, _, _ => none
  | n + 1, x2, v_found =>
    chi a_1 4 <|
    if (v_sizeOf a_1.toNatClampNeg) ≤ x2 then
      f_X12_judge_L77 a_1 v_d v_sizeOf x2 v_found
    else
      kb (f_X12_cells v_d) fun r_15 =>
      if r_15 ≤ x2 then
        f_X12_judge_L77 a_1 v_d v_sizeOf x2 v_found
      else
        nm (40 * a_1 : Int32) fun t_17 =>
        nm (t_17 + x2 : Int32) fun t_18 =>
        chi t_18 160 <|
        nm (v_number t_18.toNatClampNeg : Int32) fun t_20 =>
        nm (10 + x2 : Int32) fun t_21 =>
        chi t_21 244 <|
        if t_20 = (v_d t_21.toNatClampNeg) then
          nm (x2 + 1 : Int32) fun t_24 =>
          f_X12_judge_L30 a_1 v_d v_number v_sizeOf n t_24 v_found
        else
          f_X12_judge_L77 a_1 v_d v_sizeOf x2 v_found

def f_X12_judge (a_1 : Int32) (v_bitsOf : Nat → Int32) (v_d : Nat → Int32) (v_found : Nat → Int32) (v_number : Nat → Int32) (v_sizeOf : Nat → Int32) : Option (Int32 × (Nat → Int32)) :=
  kb (f_X12_isSheet a_1) fun r_2 =>
  if r_2 = 0 then
    kb2 (f_X12_finds 1 v_found) fun r_10 w_11 =>
    some (r_10, w_11)
  else
    chi a_1 4 <|
    if (v_bitsOf a_1.toNatClampNeg) = 0 then
      kb2 (f_X12_finds 2 v_found) fun r_7 w_8 =>
      some (r_7, w_8)
    else
      f_X12_judge_L30 a_1 v_d v_number v_sizeOf gFuel 0 v_found

abbrev rm_X12_judge : Room := { frames := 2, cells := 0, slots := 0, locals := 45 }
set_option maxHeartbeats 4000000 in
set_option maxRecDepth 100000 in
theorem c_X12_judge (l : Launch) (D : va_G) (c : Nat → ClassId) (q_this q_d q_kept q_found q_aside q_names q_seenKept q_movedKept q_traced q_bitsOf q_sizeOf q_number q_lifted : Nat) (a_1 : Int32) (v_images : Int32) (v_base : Int32) (v_at : Int32) (v_size : Int32) (v_fault : Int32) (v_opened : Int32) (v_isSeen : Int32) (v_isKeeping : Int32) (v_bubbleMany : Int32) (v_bubbleMost : Int32) (v_bubbleCell : Int32) (v_bestShown : Int32) (v_traceMany : Int32) (v_who : Int32) (v_bitsOf : Nat → Int32) (v_d : Nat → Int32) (v_found : Nat → Int32) (v_number : Nat → Int32) (v_sizeOf : Nat → Int32) (o_r : Int32) (o_v_found : Nat → Int32) (h : f_X12_judge a_1 v_bitsOf v_d v_found v_number v_sizeOf = some (o_r, o_v_found)) : gMI l yX12_judge wsX12_judge rm_X12_judge D c [.ref q_this, .int a_1] [(q_this, .inr (12, [.ref q_d, .ref q_kept, .int v_images, .ref q_found, .ref q_aside, .int v_base, .int v_at, .int v_size, .int v_fault, .int v_opened, .int v_isSeen, .ref q_names, .ref q_seenKept, .ref q_movedKept, .int v_isKeeping, .int v_bubbleMany, .int v_bubbleMost, .int v_bubbleCell, .int v_bestShown, .ref q_traced, .int v_traceMany, .int v_who, .ref q_bitsOf, .ref q_sizeOf, .ref q_number, .ref q_lifted])), (q_bitsOf, .inl (c 0, 4, .inl v_bitsOf)), (q_d, .inl (c 0, 244, .inl v_d)), (q_found, .inl (c 0, 6, .inl v_found)), (q_number, .inl (c 0, 160, .inl v_number)), (q_sizeOf, .inl (c 0, 4, .inl v_sizeOf))] [(q_this, .inr (12, [.ref q_d, .ref q_kept, .int v_images, .ref q_found, .ref q_aside, .int v_base, .int v_at, .int v_size, .int v_fault, .int v_opened, .int v_isSeen, .ref q_names, .ref q_seenKept, .ref q_movedKept, .int v_isKeeping, .int v_bubbleMany, .int v_bubbleMost, .int v_bubbleCell, .int v_bestShown, .ref q_traced, .int v_traceMany, .int v_who, .ref q_bitsOf, .ref q_sizeOf, .ref q_number, .ref q_lifted])), (q_bitsOf, .inl (c 0, 4, .inl v_bitsOf)), (q_d, .inl (c 0, 244, .inl v_d)), (q_found, .inl (c 0, 6, .inl o_v_found)), (q_number, .inl (c 0, 160, .inl v_number)), (q_sizeOf, .inl (c 0, 4, .inl v_sizeOf))] o_r := by
  refine gMI_of (cc := cX12_judge) (maxL := 3) (rt := (some .int)) (by decide +kernel) rfl (Nat.le_of_ble_eq_true rfl) ?_
  intro p e s m below meth co A hF hK hX hP hD hA hS ls hl
  obtain ⟨hx, hb, hr, hts, hown, hlocks, hml⟩ := id hF
  have hl : lv_has ls 3 [(0, .ref q_this), (1, .int a_1)] := hl
  have t_L77 : ∀ (x2 : Int32) (v_found : Nat → Int32) (H : Heap) (locs : List Loc), va_P D gcl [(q_this, .inr (12, [.ref q_d, .ref q_kept, .int v_images, .ref q_found, .ref q_aside, .int v_base, .int v_at, .int v_size, .int v_fault, .int v_opened, .int v_isSeen, .ref q_names, .ref q_seenKept, .ref q_movedKept, .int v_isKeeping, .int v_bubbleMany, .int v_bubbleMost, .int v_bubbleCell, .int v_bestShown, .ref q_traced, .int v_traceMany, .int v_who, .ref q_bitsOf, .ref q_sizeOf, .ref q_number, .ref q_lifted])), (q_bitsOf, .inl (c 0, 4, .inl v_bitsOf)), (q_d, .inl (c 0, 244, .inl v_d)), (q_found, .inl (c 0, 6, .inl v_found)), (q_number, .inl (c 0, 160, .inl v_number)), (q_sizeOf, .inl (c 0, 4, .inl v_sizeOf))] H → va_D A [(q_this, .inr (12, [.ref q_d, .ref q_kept, .int v_images, .ref q_found, .ref q_aside, .int v_base, .int v_at, .int v_size, .int v_fault, .int v_opened, .int v_isSeen, .ref q_names, .ref q_seenKept, .ref q_movedKept, .int v_isKeeping, .int v_bubbleMany, .int v_bubbleMost, .int v_bubbleCell, .int v_bestShown, .ref q_traced, .int v_traceMany, .int v_who, .ref q_bitsOf, .ref q_sizeOf, .ref q_number, .ref q_lifted])), (q_bitsOf, .inl (c 0, 4, .inl v_bitsOf)), (q_d, .inl (c 0, 244, .inl v_d)), (q_found, .inl (c 0, 6, .inl v_found)), (q_number, .inl (c 0, 160, .inl v_number)), (q_sizeOf, .inl (c 0, 4, .inl v_sizeOf))] → va_S A s.heap H locs → ∀ ls, lv_has ls 3 [(0, .ref q_this), (1, .int a_1), (2, .int x2)] → f_X12_judge_L77 a_1 v_d v_sizeOf x2 v_found = some (o_r, o_v_found) → W p l e (headSpec wsX12_judge rm_X12_judge).room s m [.ref q_this, .int a_1].toArray below meth co H locs 0 0 (gQI D [(q_this, .inr (12, [.ref q_d, .ref q_kept, .int v_images, .ref q_found, .ref q_aside, .int v_base, .int v_at, .int v_size, .int v_fault, .int v_opened, .int v_isSeen, .ref q_names, .ref q_seenKept, .ref q_movedKept, .int v_isKeeping, .int v_bubbleMany, .int v_bubbleMost, .int v_bubbleCell, .int v_bestShown, .ref q_traced, .int v_traceMany, .int v_who, .ref q_bitsOf, .ref q_sizeOf, .ref q_number, .ref q_lifted])), (q_bitsOf, .inl (c 0, 4, .inl v_bitsOf)), (q_d, .inl (c 0, 244, .inl v_d)), (q_found, .inl (c 0, 6, .inl o_v_found)), (q_number, .inl (c 0, 160, .inl v_number)), (q_sizeOf, .inl (c 0, 4, .inl v_sizeOf))] o_r A below [.ref q_this, .int a_1] s) (F0 m 77 ls []) := by
    intro  x2 v_found H locs hP hD hS ls hl h
    unfold f_X12_judge_L77 at h
    refine lv_iload_n hx hb dX12_judge_77 rfl (lv_at hl 2 rfl) ?_
    refine lv_aload_n hx hb dX12_judge_78 rfl (lv_at hl 0 rfl) ?_
    refine va_get (D := D) (ci := 12) (v := .ref q_sizeOf) (C := RX12) (T := TX12) (N := 26) hx hb hts in_X12_judge_X12 hown hK.1 hP 0 rfl rfl 23 (by decide) (hts (.fieldLink RX12 37 "PaperBubblesModel" "sizeOf" "[I") (List.mem_of_getElem? (i := 2) rfl)) (fun _ h9 => h9) rfl dX12_judge_79 ?_
    refine lv_iload_n hx hb dX12_judge_82 rfl (lv_at hl 1 rfl) ?_
    replace h := chi_ok h
    obtain ⟨hi_25, h⟩ := h
    refine va_iald hx hb hK.1 hP 5 0 rfl rfl hi_25 dX12_judge_83 ?_
    refine lv_icmp_ne (tgt := 99) hx hb dX12_judge_84 (by decide) (fun c_26 => ?_) (fun c_26 => ?_)
    · replace h := it_f c_26 h
      refine lv_iload_n hx hb dX12_judge_99 rfl (lv_at hl 2 rfl) ?_
      replace h := so2 h
      obtain ⟨z0, z1⟩ := h
      subst z0 z1
      exact gIret hF hP hD hS rfl dX12_judge_100
    · replace h := it_t c_26 h
      refine lv_iload_n hx hb dX12_judge_87 rfl (lv_at hl 2 rfl) ?_
      refine lv_aload_n hx hb dX12_judge_88 rfl (lv_at hl 0 rfl) ?_
      replace h := kb_ok h
      obtain ⟨r_28, hc_27, h⟩ := h
      refine gCallIr (isC := [0, 2]) (wc := [(q_this, .inr (12, [.ref q_d, .ref q_kept, .int v_images, .ref q_found, .ref q_aside, .int v_base, .int v_at, .int v_size, .int v_fault, .int v_opened, .int v_isSeen, .ref q_names, .ref q_seenKept, .ref q_movedKept, .int v_isKeeping, .int v_bubbleMany, .int v_bubbleMost, .int v_bubbleCell, .int v_bestShown, .ref q_traced, .int v_traceMany, .int v_who, .ref q_bitsOf, .ref q_sizeOf, .ref q_number, .ref q_lifted])), (q_d, .inl (c 0, 244, .inl v_d))]) hP hD hS hA ⟨rfl, rfl, trivial⟩ (va_runV (rm := rm_X12_cells) (ws := wsX12_cells) (As := []) (rest := [.int x2]) (gFix hF) (c_X12_cells l D c q_this q_d q_kept q_found q_aside q_names q_seenKept q_movedKept q_traced q_bitsOf q_sizeOf q_number q_lifted v_images v_base v_at v_size v_fault v_opened v_isSeen v_isKeeping v_bubbleMany v_bubbleMost v_bubbleCell v_bestShown v_traceMany v_who v_d r_28 hc_27 H.size) (cwV 0 hts gX12_judge_X12_cells rfl rfl rfl (by decide +kernel) ⟨Nat.le_of_ble_eq_true rfl, Nat.le_of_ble_eq_true rfl⟩) (gPreV (wc := [(q_this, .inr (12, [.ref q_d, .ref q_kept, .int v_images, .ref q_found, .ref q_aside, .int v_base, .int v_at, .int v_size, .int v_fault, .int v_opened, .int v_isSeen, .ref q_names, .ref q_seenKept, .ref q_movedKept, .int v_isKeeping, .int v_bubbleMany, .int v_bubbleMost, .int v_bubbleCell, .int v_bestShown, .ref q_traced, .int v_traceMany, .int v_who, .ref q_bitsOf, .ref q_sizeOf, .ref q_number, .ref q_lifted])), (q_d, .inl (c 0, 244, .inl v_d))]) (q := (RX12, TX12, 26)) (ci := 12) (q0 := 0) (isC := [0, 2]) hK hX hS hA hP hD ⟨rfl, rfl, trivial⟩ (by decide +kernel) rfl rfl) rfl rfl hl.1 rfl (lv_room (Nat.le_of_ble_eq_true rfl)) dX12_judge_89 ⟨Nat.le_of_ble_eq_true rfl, Nat.le_of_ble_eq_true rfl⟩) (fun H locs hP hS => ?_)
      refine lv_icmp_ne (tgt := 99) hx hb dX12_judge_92 (by decide) (fun c_29 => ?_) (fun c_29 => ?_)
      · replace h := it_f c_29 h
        refine lv_iload_n hx hb dX12_judge_99 rfl (lv_at hl 2 rfl) ?_
        replace h := so2 h
        obtain ⟨z0, z1⟩ := h
        subst z0 z1
        exact gIret hF hP hD hS rfl dX12_judge_100
      · replace h := it_t c_29 h
        refine lv_iconst (v := (-1)) hx hb dX12_judge_95 (by decide) ?_
        refine lv_goto (tgt := 100) hx hb dX12_judge_96 (by decide) ?_
        replace h := so2 h
        obtain ⟨z0, z1⟩ := h
        subst z0 z1
        exact gIret hF hP hD hS rfl dX12_judge_100
  have t_L30 : ∀ (n : Nat), ∀ (x2 : Int32) (v_found : Nat → Int32) (H : Heap) (locs : List Loc), va_P D gcl [(q_this, .inr (12, [.ref q_d, .ref q_kept, .int v_images, .ref q_found, .ref q_aside, .int v_base, .int v_at, .int v_size, .int v_fault, .int v_opened, .int v_isSeen, .ref q_names, .ref q_seenKept, .ref q_movedKept, .int v_isKeeping, .int v_bubbleMany, .int v_bubbleMost, .int v_bubbleCell, .int v_bestShown, .ref q_traced, .int v_traceMany, .int v_who, .ref q_bitsOf, .ref q_sizeOf, .ref q_number, .ref q_lifted])), (q_bitsOf, .inl (c 0, 4, .inl v_bitsOf)), (q_d, .inl (c 0, 244, .inl v_d)), (q_found, .inl (c 0, 6, .inl v_found)), (q_number, .inl (c 0, 160, .inl v_number)), (q_sizeOf, .inl (c 0, 4, .inl v_sizeOf))] H → va_D A [(q_this, .inr (12, [.ref q_d, .ref q_kept, .int v_images, .ref q_found, .ref q_aside, .int v_base, .int v_at, .int v_size, .int v_fault, .int v_opened, .int v_isSeen, .ref q_names, .ref q_seenKept, .ref q_movedKept, .int v_isKeeping, .int v_bubbleMany, .int v_bubbleMost, .int v_bubbleCell, .int v_bestShown, .ref q_traced, .int v_traceMany, .int v_who, .ref q_bitsOf, .ref q_sizeOf, .ref q_number, .ref q_lifted])), (q_bitsOf, .inl (c 0, 4, .inl v_bitsOf)), (q_d, .inl (c 0, 244, .inl v_d)), (q_found, .inl (c 0, 6, .inl v_found)), (q_number, .inl (c 0, 160, .inl v_number)), (q_sizeOf, .inl (c 0, 4, .inl v_sizeOf))] → va_S A s.heap H locs → ∀ ls, lv_has ls 3 [(0, .ref q_this), (1, .int a_1), (2, .int x2)] → f_X12_judge_L30 a_1 v_d v_number v_sizeOf n x2 v_found = some (o_r, o_v_found) → W p l e (headSpec wsX12_judge rm_X12_judge).room s m [.ref q_this, .int a_1].toArray below meth co H locs 0 0 (gQI D [(q_this, .inr (12, [.ref q_d, .ref q_kept, .int v_images, .ref q_found, .ref q_aside, .int v_base, .int v_at, .int v_size, .int v_fault, .int v_opened, .int v_isSeen, .ref q_names, .ref q_seenKept, .ref q_movedKept, .int v_isKeeping, .int v_bubbleMany, .int v_bubbleMost, .int v_bubbleCell, .int v_bestShown, .ref q_traced, .int v_traceMany, .int v_who, .ref q_bitsOf, .ref q_sizeOf, .ref q_number, .ref q_lifted])), (q_bitsOf, .inl (c 0, 4, .inl v_bitsOf)), (q_d, .inl (c 0, 244, .inl v_d)), (q_found, .inl (c 0, 6, .inl o_v_found)), (q_number, .inl (c 0, 160, .inl v_number)), (q_sizeOf, .inl (c 0, 4, .inl v_sizeOf))] o_r A below [.ref q_this, .int a_1] s) (F0 m 30 ls []) := by
    intro n
    induction n with
    | zero => intro x2 v_found H locs hP hD hS ls hl h; exact no_ok h
    | succ n ih =>
      intro x2 v_found H locs hP hD hS ls hl h
      rw [f_X12_judge_L30] at h
      refine lv_iload_n hx hb dX12_judge_30 rfl (lv_at hl 2 rfl) ?_
      refine lv_aload_n hx hb dX12_judge_31 rfl (lv_at hl 0 rfl) ?_
      refine va_get (D := D) (ci := 12) (v := .ref q_sizeOf) (C := RX12) (T := TX12) (N := 26) hx hb hts in_X12_judge_X12 hown hK.1 hP 0 rfl rfl 23 (by decide) (hts (.fieldLink RX12 37 "PaperBubblesModel" "sizeOf" "[I") (List.mem_of_getElem? (i := 2) rfl)) (fun _ h9 => h9) rfl dX12_judge_32 ?_
      refine lv_iload_n hx hb dX12_judge_35 rfl (lv_at hl 1 rfl) ?_
      replace h := chi_ok h
      obtain ⟨hi_12, h⟩ := h
      refine va_iald hx hb hK.1 hP 5 0 rfl rfl hi_12 dX12_judge_36 ?_
      refine lv_icmp_ge (tgt := 77) hx hb dX12_judge_37 (by decide) (fun c_13 => ?_) (fun c_13 => ?_)
      · replace h := it_t c_13 h
        exact t_L77 x2 v_found H locs hP hD hS ls (lv_sub hl [0, 1, 2] rfl) h
      · replace h := it_f c_13 h
        refine lv_iload_n hx hb dX12_judge_40 rfl (lv_at hl 2 rfl) ?_
        refine lv_aload_n hx hb dX12_judge_41 rfl (lv_at hl 0 rfl) ?_
        replace h := kb_ok h
        obtain ⟨r_15, hc_14, h⟩ := h
        refine gCallIr (isC := [0, 2]) (wc := [(q_this, .inr (12, [.ref q_d, .ref q_kept, .int v_images, .ref q_found, .ref q_aside, .int v_base, .int v_at, .int v_size, .int v_fault, .int v_opened, .int v_isSeen, .ref q_names, .ref q_seenKept, .ref q_movedKept, .int v_isKeeping, .int v_bubbleMany, .int v_bubbleMost, .int v_bubbleCell, .int v_bestShown, .ref q_traced, .int v_traceMany, .int v_who, .ref q_bitsOf, .ref q_sizeOf, .ref q_number, .ref q_lifted])), (q_d, .inl (c 0, 244, .inl v_d))]) hP hD hS hA ⟨rfl, rfl, trivial⟩ (va_runV (rm := rm_X12_cells) (ws := wsX12_cells) (As := []) (rest := [.int x2]) (gFix hF) (c_X12_cells l D c q_this q_d q_kept q_found q_aside q_names q_seenKept q_movedKept q_traced q_bitsOf q_sizeOf q_number q_lifted v_images v_base v_at v_size v_fault v_opened v_isSeen v_isKeeping v_bubbleMany v_bubbleMost v_bubbleCell v_bestShown v_traceMany v_who v_d r_15 hc_14 H.size) (cwV 0 hts gX12_judge_X12_cells rfl rfl rfl (by decide +kernel) ⟨Nat.le_of_ble_eq_true rfl, Nat.le_of_ble_eq_true rfl⟩) (gPreV (wc := [(q_this, .inr (12, [.ref q_d, .ref q_kept, .int v_images, .ref q_found, .ref q_aside, .int v_base, .int v_at, .int v_size, .int v_fault, .int v_opened, .int v_isSeen, .ref q_names, .ref q_seenKept, .ref q_movedKept, .int v_isKeeping, .int v_bubbleMany, .int v_bubbleMost, .int v_bubbleCell, .int v_bestShown, .ref q_traced, .int v_traceMany, .int v_who, .ref q_bitsOf, .ref q_sizeOf, .ref q_number, .ref q_lifted])), (q_d, .inl (c 0, 244, .inl v_d))]) (q := (RX12, TX12, 26)) (ci := 12) (q0 := 0) (isC := [0, 2]) hK hX hS hA hP hD ⟨rfl, rfl, trivial⟩ (by decide +kernel) rfl rfl) rfl rfl hl.1 rfl (lv_room (Nat.le_of_ble_eq_true rfl)) dX12_judge_42 ⟨Nat.le_of_ble_eq_true rfl, Nat.le_of_ble_eq_true rfl⟩) (fun H locs hP hS => ?_)
        refine lv_icmp_ge (tgt := 77) hx hb dX12_judge_45 (by decide) (fun c_16 => ?_) (fun c_16 => ?_)
        · replace h := it_t c_16 h
          exact t_L77 x2 v_found H locs hP hD hS ls (lv_sub hl [0, 1, 2] rfl) h
        · replace h := it_f c_16 h
          refine lv_aload_n hx hb dX12_judge_48 rfl (lv_at hl 0 rfl) ?_
          refine va_get (D := D) (ci := 12) (v := .ref q_number) (C := RX12) (T := TX12) (N := 26) hx hb hts in_X12_judge_X12 hown hK.1 hP 0 rfl rfl 24 (by decide) (hts (.fieldLink RX12 40 "PaperBubblesModel" "number" "[I") (List.mem_of_getElem? (i := 3) rfl)) (fun _ h9 => h9) rfl dX12_judge_49 ?_
          refine lv_bipush (v := 40) hx hb dX12_judge_52 (by decide) ?_
          refine lv_iload_n hx hb dX12_judge_54 rfl (lv_at hl 1 rfl) ?_
          refine lv_imul hx hb dX12_judge_55 ?_
          replace h := nm_ok h
          obtain ⟨t_17, et_17, h⟩ := h
          refine gTop et_17 ?_
          refine lv_iload_n hx hb dX12_judge_56 rfl (lv_at hl 2 rfl) ?_
          refine lv_iadd hx hb dX12_judge_57 ?_
          replace h := nm_ok h
          obtain ⟨t_18, et_18, h⟩ := h
          refine gTop et_18 ?_
          replace h := chi_ok h
          obtain ⟨hi_19, h⟩ := h
          refine va_iald hx hb hK.1 hP 4 0 rfl rfl hi_19 dX12_judge_58 ?_
          replace h := nm_ok h
          obtain ⟨t_20, et_20, h⟩ := h
          refine gTop et_20 ?_
          refine lv_aload_n hx hb dX12_judge_59 rfl (lv_at hl 0 rfl) ?_
          refine va_get (D := D) (ci := 12) (v := .ref q_d) (C := RX12) (T := TX12) (N := 26) hx hb hts in_X12_judge_X12 hown hK.1 hP 0 rfl rfl 0 (by decide) (hts (.fieldLink RX12 7 "PaperBubblesModel" "d" "[I") (List.mem_of_getElem? (i := 4) rfl)) (fun _ h9 => h9) rfl dX12_judge_60 ?_
          refine lv_bipush (v := 10) hx hb dX12_judge_63 (by decide) ?_
          refine lv_iload_n hx hb dX12_judge_65 rfl (lv_at hl 2 rfl) ?_
          refine lv_iadd hx hb dX12_judge_66 ?_
          replace h := nm_ok h
          obtain ⟨t_21, et_21, h⟩ := h
          refine gTop et_21 ?_
          replace h := chi_ok h
          obtain ⟨hi_22, h⟩ := h
          refine va_iald hx hb hK.1 hP 2 0 rfl rfl hi_22 dX12_judge_67 ?_
          refine lv_icmp_ne (tgt := 77) hx hb dX12_judge_68 (by decide) (fun c_23 => ?_) (fun c_23 => ?_)
          · replace h := it_f c_23 h
            exact t_L77 x2 v_found H locs hP hD hS ls (lv_sub hl [0, 1, 2] rfl) h
          · replace h := it_t c_23 h
            replace h := nm_ok h
            obtain ⟨t_24, et_24, h⟩ := h
            refine lv_iinc (v := t_24) (lv' := [(2, .int t_24), (0, .ref q_this), (1, .int a_1)]) hx hb dX12_judge_71 hl (k := 2) rfl (by rw [et_24]; rfl) (by decide) rfl (fun ls hl => ?_)
            refine lv_goto (tgt := 30) hx hb dX12_judge_74 (by decide) ?_
            exact ih t_24 v_found H locs hP hD hS ls (lv_sub hl [1, 2, 0] rfl) h
  unfold f_X12_judge at h
  refine lv_iload_n hx hb dX12_judge_0 rfl (lv_at hl 1 rfl) ?_
  replace h := kb_ok h
  obtain ⟨r_2, hc_1, h⟩ := h
  refine gCallIr (isC := []) (wc := []) hP hD hS hA trivial (va_runS (rm := rm_X12_isSheet) (ws := wsX12_isSheet) (As := [.int a_1]) (rest := []) (gFix hF) (c_X12_isSheet l D c a_1 r_2 hc_1 s.heap.size) (va_cwS 1 hts gX12_judge_X12_isSheet rfl rfl rfl (by decide +kernel) ⟨Nat.le_of_ble_eq_true rfl, Nat.le_of_ble_eq_true rfl⟩) (gPreS (wc := []) (isC := []) hK hX hS hA hP hD trivial (by decide +kernel)) rfl rfl hl.1 rfl (lv_room (Nat.le_of_ble_eq_true rfl)) dX12_judge_1 ⟨Nat.le_of_ble_eq_true rfl, Nat.le_of_ble_eq_true rfl⟩) (fun H locs hP hS => ?_)
  refine lv_if_ne (tgt := 13) hx hb dX12_judge_4 (by decide) (fun c_3 => ?_) (fun c_3 => ?_)
  · replace h := it_f c_3 h
    refine lv_aload_n hx hb dX12_judge_13 rfl (lv_at hl 0 rfl) ?_
    refine va_get (D := D) (ci := 12) (v := .ref q_bitsOf) (C := RX12) (T := TX12) (N := 26) hx hb hts in_X12_judge_X12 hown hK.1 hP 0 rfl rfl 22 (by decide) (hts (.fieldLink RX12 34 "PaperBubblesModel" "bitsOf" "[I") (List.mem_of_getElem? (i := 1) rfl)) (fun _ h9 => h9) rfl dX12_judge_14 ?_
    refine lv_iload_n hx hb dX12_judge_17 rfl (lv_at hl 1 rfl) ?_
    replace h := chi_ok h
    obtain ⟨hi_4, h⟩ := h
    refine va_iald hx hb hK.1 hP 1 0 rfl rfl hi_4 dX12_judge_18 ?_
    refine lv_if_ne (tgt := 28) hx hb dX12_judge_19 (by decide) (fun c_5 => ?_) (fun c_5 => ?_)
    · replace h := it_f c_5 h
      refine lv_iconst (v := 0) hx hb dX12_judge_28 (by decide) ?_
      refine lv_istore_n (lv' := [(2, .int 0), (0, .ref q_this), (1, .int a_1)]) hx hb dX12_judge_29 rfl hl (by decide) rfl (fun ls hl => ?_)
      exact t_L30 gFuel 0 v_found H locs hP hD hS ls (lv_sub hl [1, 2, 0] rfl) h
    · replace h := it_t c_5 h
      refine lv_aload_n hx hb dX12_judge_22 rfl (lv_at hl 0 rfl) ?_
      refine lv_iconst (v := 2) hx hb dX12_judge_23 (by decide) ?_
      replace h := kb2_ok h
      obtain ⟨r_7, w_8, hc_6, h⟩ := h
      refine gCallI (isC := [0, 3]) (wc := [(q_this, .inr (12, [.ref q_d, .ref q_kept, .int v_images, .ref q_found, .ref q_aside, .int v_base, .int v_at, .int v_size, .int v_fault, .int v_opened, .int v_isSeen, .ref q_names, .ref q_seenKept, .ref q_movedKept, .int v_isKeeping, .int v_bubbleMany, .int v_bubbleMost, .int v_bubbleCell, .int v_bestShown, .ref q_traced, .int v_traceMany, .int v_who, .ref q_bitsOf, .ref q_sizeOf, .ref q_number, .ref q_lifted])), (q_found, .inl (c 0, 6, .inl v_found))]) (w1 := [(q_this, .inr (12, [.ref q_d, .ref q_kept, .int v_images, .ref q_found, .ref q_aside, .int v_base, .int v_at, .int v_size, .int v_fault, .int v_opened, .int v_isSeen, .ref q_names, .ref q_seenKept, .ref q_movedKept, .int v_isKeeping, .int v_bubbleMany, .int v_bubbleMost, .int v_bubbleCell, .int v_bestShown, .ref q_traced, .int v_traceMany, .int v_who, .ref q_bitsOf, .ref q_sizeOf, .ref q_number, .ref q_lifted])), (q_found, .inl (c 0, 6, .inl w_8))]) (ws2 := [(q_this, .inr (12, [.ref q_d, .ref q_kept, .int v_images, .ref q_found, .ref q_aside, .int v_base, .int v_at, .int v_size, .int v_fault, .int v_opened, .int v_isSeen, .ref q_names, .ref q_seenKept, .ref q_movedKept, .int v_isKeeping, .int v_bubbleMany, .int v_bubbleMost, .int v_bubbleCell, .int v_bestShown, .ref q_traced, .int v_traceMany, .int v_who, .ref q_bitsOf, .ref q_sizeOf, .ref q_number, .ref q_lifted])), (q_bitsOf, .inl (c 0, 4, .inl v_bitsOf)), (q_d, .inl (c 0, 244, .inl v_d)), (q_found, .inl (c 0, 6, .inl w_8)), (q_number, .inl (c 0, 160, .inl v_number)), (q_sizeOf, .inl (c 0, 4, .inl v_sizeOf))]) (ms := [(some 0), none, none, (some 1), none, none]) hP hD hS hA ⟨rfl, rfl, trivial⟩ (by decide +kernel) ⟨rfl, rfl, rfl, rfl, rfl, rfl, trivial⟩ (va_runV (rm := rm_X12_finds) (ws := wsX12_finds) (As := [.int 2]) (rest := []) (gFix hF) (c_X12_finds l D c q_this q_d q_kept q_found q_aside q_names q_seenKept q_movedKept q_traced q_bitsOf q_sizeOf q_number q_lifted 2 v_images v_base v_at v_size v_fault v_opened v_isSeen v_isKeeping v_bubbleMany v_bubbleMost v_bubbleCell v_bestShown v_traceMany v_who v_found r_7 w_8 hc_6 H.size) (cwV 1 hts gX12_judge_X12_finds rfl rfl rfl (by decide +kernel) ⟨Nat.le_of_ble_eq_true rfl, Nat.le_of_ble_eq_true rfl⟩) (gPreV (wc := [(q_this, .inr (12, [.ref q_d, .ref q_kept, .int v_images, .ref q_found, .ref q_aside, .int v_base, .int v_at, .int v_size, .int v_fault, .int v_opened, .int v_isSeen, .ref q_names, .ref q_seenKept, .ref q_movedKept, .int v_isKeeping, .int v_bubbleMany, .int v_bubbleMost, .int v_bubbleCell, .int v_bestShown, .ref q_traced, .int v_traceMany, .int v_who, .ref q_bitsOf, .ref q_sizeOf, .ref q_number, .ref q_lifted])), (q_found, .inl (c 0, 6, .inl v_found))]) (q := (RX12, TX12, 26)) (ci := 12) (q0 := 0) (isC := [0, 3]) hK hX hS hA hP hD ⟨rfl, rfl, trivial⟩ (by decide +kernel) rfl rfl) rfl rfl hl.1 rfl (lv_room (Nat.le_of_ble_eq_true rfl)) dX12_judge_24 ⟨Nat.le_of_ble_eq_true rfl, Nat.le_of_ble_eq_true rfl⟩) (fun H locs hP hD hS => ?_)
      replace h := so2 h
      obtain ⟨z0, z1⟩ := h
      subst z0 z1
      exact gIret hF hP hD hS rfl dX12_judge_27
  · replace h := it_t c_3 h
    refine lv_aload_n hx hb dX12_judge_7 rfl (lv_at hl 0 rfl) ?_
    refine lv_iconst (v := 1) hx hb dX12_judge_8 (by decide) ?_
    replace h := kb2_ok h
    obtain ⟨r_10, w_11, hc_9, h⟩ := h
    refine gCallI (isC := [0, 3]) (wc := [(q_this, .inr (12, [.ref q_d, .ref q_kept, .int v_images, .ref q_found, .ref q_aside, .int v_base, .int v_at, .int v_size, .int v_fault, .int v_opened, .int v_isSeen, .ref q_names, .ref q_seenKept, .ref q_movedKept, .int v_isKeeping, .int v_bubbleMany, .int v_bubbleMost, .int v_bubbleCell, .int v_bestShown, .ref q_traced, .int v_traceMany, .int v_who, .ref q_bitsOf, .ref q_sizeOf, .ref q_number, .ref q_lifted])), (q_found, .inl (c 0, 6, .inl v_found))]) (w1 := [(q_this, .inr (12, [.ref q_d, .ref q_kept, .int v_images, .ref q_found, .ref q_aside, .int v_base, .int v_at, .int v_size, .int v_fault, .int v_opened, .int v_isSeen, .ref q_names, .ref q_seenKept, .ref q_movedKept, .int v_isKeeping, .int v_bubbleMany, .int v_bubbleMost, .int v_bubbleCell, .int v_bestShown, .ref q_traced, .int v_traceMany, .int v_who, .ref q_bitsOf, .ref q_sizeOf, .ref q_number, .ref q_lifted])), (q_found, .inl (c 0, 6, .inl w_11))]) (ws2 := [(q_this, .inr (12, [.ref q_d, .ref q_kept, .int v_images, .ref q_found, .ref q_aside, .int v_base, .int v_at, .int v_size, .int v_fault, .int v_opened, .int v_isSeen, .ref q_names, .ref q_seenKept, .ref q_movedKept, .int v_isKeeping, .int v_bubbleMany, .int v_bubbleMost, .int v_bubbleCell, .int v_bestShown, .ref q_traced, .int v_traceMany, .int v_who, .ref q_bitsOf, .ref q_sizeOf, .ref q_number, .ref q_lifted])), (q_bitsOf, .inl (c 0, 4, .inl v_bitsOf)), (q_d, .inl (c 0, 244, .inl v_d)), (q_found, .inl (c 0, 6, .inl w_11)), (q_number, .inl (c 0, 160, .inl v_number)), (q_sizeOf, .inl (c 0, 4, .inl v_sizeOf))]) (ms := [(some 0), none, none, (some 1), none, none]) hP hD hS hA ⟨rfl, rfl, trivial⟩ (by decide +kernel) ⟨rfl, rfl, rfl, rfl, rfl, rfl, trivial⟩ (va_runV (rm := rm_X12_finds) (ws := wsX12_finds) (As := [.int 1]) (rest := []) (gFix hF) (c_X12_finds l D c q_this q_d q_kept q_found q_aside q_names q_seenKept q_movedKept q_traced q_bitsOf q_sizeOf q_number q_lifted 1 v_images v_base v_at v_size v_fault v_opened v_isSeen v_isKeeping v_bubbleMany v_bubbleMost v_bubbleCell v_bestShown v_traceMany v_who v_found r_10 w_11 hc_9 H.size) (cwV 1 hts gX12_judge_X12_finds rfl rfl rfl (by decide +kernel) ⟨Nat.le_of_ble_eq_true rfl, Nat.le_of_ble_eq_true rfl⟩) (gPreV (wc := [(q_this, .inr (12, [.ref q_d, .ref q_kept, .int v_images, .ref q_found, .ref q_aside, .int v_base, .int v_at, .int v_size, .int v_fault, .int v_opened, .int v_isSeen, .ref q_names, .ref q_seenKept, .ref q_movedKept, .int v_isKeeping, .int v_bubbleMany, .int v_bubbleMost, .int v_bubbleCell, .int v_bestShown, .ref q_traced, .int v_traceMany, .int v_who, .ref q_bitsOf, .ref q_sizeOf, .ref q_number, .ref q_lifted])), (q_found, .inl (c 0, 6, .inl v_found))]) (q := (RX12, TX12, 26)) (ci := 12) (q0 := 0) (isC := [0, 3]) hK hX hS hA hP hD ⟨rfl, rfl, trivial⟩ (by decide +kernel) rfl rfl) rfl rfl hl.1 rfl (lv_room (Nat.le_of_ble_eq_true rfl)) dX12_judge_9 ⟨Nat.le_of_ble_eq_true rfl, Nat.le_of_ble_eq_true rfl⟩) (fun H locs hP hD hS => ?_)
    replace h := so2 h
    obtain ⟨z0, z1⟩ := h
    subst z0 z1
    exact gIret hF hP hD hS rfl dX12_judge_12
set_option maxRecDepth 20000 in
theorem in_X12_lamp_X12 : ∀ w ∈ u_ws RX12 TX12 26, w ∈ wsX12_lamp := by decide +kernel
def f_X12_lamp_L86 (kk_L56 : Int32 → Int32 → Int32 → Int32 → Int32 → (Nat → Int32) → Option (Int32 × (Nat → Int32))) (a_1 : Int32) (v_d : Nat → Int32) (x2 : Int32) (x3 : Int32) (x4 : Int32) (x6 : Int32) (y0 : Int32) (v_found : Nat → Int32) : Option (Int32 × (Nat → Int32)) :=
  kb (f_X12_nextTo x6 a_1 v_d) fun r_27 =>
  kk_L56 x2 x3 x4 y0 r_27 v_found

def f_X12_lamp_L56 (kk_L17 : Int32 → Int32 → (Nat → Int32) → Option (Int32 × (Nat → Int32))) (a_1 : Int32) (v_d : Nat → Int32) : Nat → Int32 → Int32 → Int32 → Int32 → Int32 → (Nat → Int32) → Option (Int32 × (Nat → Int32))
  | 0, _, _, _, _, _, _ => none
  | n + 1, x2, x3, x4, x5, x6, v_found =>
    if x6 < 0 then
      if x5 = 0 then
        nm (x2 + 0 : Int32) fun t_18 =>
        nm (x3 + 1 : Int32) fun t_19 =>
        kk_L17 t_18 t_19 v_found
      else
        nm (x2 + 1 : Int32) fun t_20 =>
        nm (x3 + 1 : Int32) fun t_21 =>
        kk_L17 t_20 t_21 v_found
    else
      if x5 = 0 then
        f_X12_lamp_L86 (f_X12_lamp_L56 kk_L17 a_1 v_d n) a_1 v_d x2 x3 x4 x6 0 v_found
      else
        nm (10 + x6 : Int32) fun t_23 =>
        chi t_23 244 <|
        if x4 ≤ (v_d t_23.toNatClampNeg) then
          f_X12_lamp_L86 (f_X12_lamp_L56 kk_L17 a_1 v_d n) a_1 v_d x2 x3 x4 x6 0 v_found
        else
          f_X12_lamp_L86 (f_X12_lamp_L56 kk_L17 a_1 v_d n) a_1 v_d x2 x3 x4 x6 1 v_found

def f_X12_lamp_L46 (kk_L17 : Int32 → Int32 → (Nat → Int32) → Option (Int32 × (Nat → Int32))) (a_1 : Int32) (v_d : Nat → Int32) (x2 : Int32) (x3 : Int32) (x4 : Int32) (y0 : Int32) (v_found : Nat → Int32) : Option (Int32 × (Nat → Int32)) :=
  kb (f_X12_nextTo x3 a_1 v_d) fun r_15 =>
  f_X12_lamp_L56 kk_L17 a_1 v_d gFuel x2 x3 x4 y0 r_15 v_found

def f_X12_lamp_L17 (a_1 : Int32) (v_d : Nat → Int32) : Nat → Int32 → Int32 → (Nat → Int32) → Option (Int32 × (Nat → Int32))
  | 0, _, _, _ => none
  | n + 1, x2, x3, v_found =>
    kb (f_X12_cells v_d) fun r_8 =>
    if r_8 ≤ x3 then
      some (x2, v_found)
    else
      nm (10 + x3 : Int32) fun t_10 =>
      chi t_10 244 <|
      nm (v_d t_10.toNatClampNeg : Int32) fun t_12 =>
      if t_12 ≤ 0 then
        f_X12_lamp_L46 (f_X12_lamp_L17 a_1 v_d n) a_1 v_d x2 x3 t_12 0 v_found
      else
        f_X12_lamp_L46 (f_X12_lamp_L17 a_1 v_d n) a_1 v_d x2 x3 t_12 1 v_found

def f_X12_lamp (a_1 : Int32) (v_d : Nat → Int32) (v_found : Nat → Int32) : Option (Int32 × (Nat → Int32)) :=
  kb (f_X12_isWay a_1) fun r_2 =>
  if r_2 = 0 then
    kb2 (f_X12_finds 1 v_found) fun r_5 w_6 =>
    some (r_5, w_6)
  else
    f_X12_lamp_L17 a_1 v_d gFuel 0 0 v_found

abbrev rm_X12_lamp : Room := { frames := 2, cells := 0, slots := 0, locals := 49 }
set_option maxHeartbeats 4000000 in
set_option maxRecDepth 100000 in
theorem c_X12_lamp (l : Launch) (D : va_G) (c : Nat → ClassId) (q_this q_d q_kept q_found q_aside q_names q_seenKept q_movedKept q_traced q_bitsOf q_sizeOf q_number q_lifted : Nat) (a_1 : Int32) (v_images : Int32) (v_base : Int32) (v_at : Int32) (v_size : Int32) (v_fault : Int32) (v_opened : Int32) (v_isSeen : Int32) (v_isKeeping : Int32) (v_bubbleMany : Int32) (v_bubbleMost : Int32) (v_bubbleCell : Int32) (v_bestShown : Int32) (v_traceMany : Int32) (v_who : Int32) (v_d : Nat → Int32) (v_found : Nat → Int32) (o_r : Int32) (o_v_found : Nat → Int32) (h : f_X12_lamp a_1 v_d v_found = some (o_r, o_v_found)) : gMI l yX12_lamp wsX12_lamp rm_X12_lamp D c [.ref q_this, .int a_1] [(q_this, .inr (12, [.ref q_d, .ref q_kept, .int v_images, .ref q_found, .ref q_aside, .int v_base, .int v_at, .int v_size, .int v_fault, .int v_opened, .int v_isSeen, .ref q_names, .ref q_seenKept, .ref q_movedKept, .int v_isKeeping, .int v_bubbleMany, .int v_bubbleMost, .int v_bubbleCell, .int v_bestShown, .ref q_traced, .int v_traceMany, .int v_who, .ref q_bitsOf, .ref q_sizeOf, .ref q_number, .ref q_lifted])), (q_d, .inl (c 0, 244, .inl v_d)), (q_found, .inl (c 0, 6, .inl v_found))] [(q_this, .inr (12, [.ref q_d, .ref q_kept, .int v_images, .ref q_found, .ref q_aside, .int v_base, .int v_at, .int v_size, .int v_fault, .int v_opened, .int v_isSeen, .ref q_names, .ref q_seenKept, .ref q_movedKept, .int v_isKeeping, .int v_bubbleMany, .int v_bubbleMost, .int v_bubbleCell, .int v_bestShown, .ref q_traced, .int v_traceMany, .int v_who, .ref q_bitsOf, .ref q_sizeOf, .ref q_number, .ref q_lifted])), (q_d, .inl (c 0, 244, .inl v_d)), (q_found, .inl (c 0, 6, .inl o_v_found))] o_r := by
  refine gMI_of (cc := cX12_lamp) (maxL := 7) (rt := (some .int)) (by decide +kernel) rfl (Nat.le_of_ble_eq_true rfl) ?_
  intro p e s m below meth co A hF hK hX hP hD hA hS ls hl
  obtain ⟨hx, hb, hr, hts, hown, hlocks, hml⟩ := id hF
  have hl : lv_has ls 7 [(0, .ref q_this), (1, .int a_1)] := hl
  have t_L86 : ∀ (kk_L56 : Int32 → Int32 → Int32 → Int32 → Int32 → (Nat → Int32) → Option (Int32 × (Nat → Int32))), (∀ (x2 : Int32) (x3 : Int32) (x4 : Int32) (x5 : Int32) (x6 : Int32) (v_found : Nat → Int32) (H : Heap) (locs : List Loc), va_P D gcl [(q_this, .inr (12, [.ref q_d, .ref q_kept, .int v_images, .ref q_found, .ref q_aside, .int v_base, .int v_at, .int v_size, .int v_fault, .int v_opened, .int v_isSeen, .ref q_names, .ref q_seenKept, .ref q_movedKept, .int v_isKeeping, .int v_bubbleMany, .int v_bubbleMost, .int v_bubbleCell, .int v_bestShown, .ref q_traced, .int v_traceMany, .int v_who, .ref q_bitsOf, .ref q_sizeOf, .ref q_number, .ref q_lifted])), (q_d, .inl (c 0, 244, .inl v_d)), (q_found, .inl (c 0, 6, .inl v_found))] H → va_D A [(q_this, .inr (12, [.ref q_d, .ref q_kept, .int v_images, .ref q_found, .ref q_aside, .int v_base, .int v_at, .int v_size, .int v_fault, .int v_opened, .int v_isSeen, .ref q_names, .ref q_seenKept, .ref q_movedKept, .int v_isKeeping, .int v_bubbleMany, .int v_bubbleMost, .int v_bubbleCell, .int v_bestShown, .ref q_traced, .int v_traceMany, .int v_who, .ref q_bitsOf, .ref q_sizeOf, .ref q_number, .ref q_lifted])), (q_d, .inl (c 0, 244, .inl v_d)), (q_found, .inl (c 0, 6, .inl v_found))] → va_S A s.heap H locs → ∀ ls, lv_has ls 7 [(0, .ref q_this), (1, .int a_1), (2, .int x2), (3, .int x3), (4, .int x4), (5, .int x5), (6, .int x6)] → kk_L56 x2 x3 x4 x5 x6 v_found = some (o_r, o_v_found) → W p l e (headSpec wsX12_lamp rm_X12_lamp).room s m [.ref q_this, .int a_1].toArray below meth co H locs 0 0 (gQI D [(q_this, .inr (12, [.ref q_d, .ref q_kept, .int v_images, .ref q_found, .ref q_aside, .int v_base, .int v_at, .int v_size, .int v_fault, .int v_opened, .int v_isSeen, .ref q_names, .ref q_seenKept, .ref q_movedKept, .int v_isKeeping, .int v_bubbleMany, .int v_bubbleMost, .int v_bubbleCell, .int v_bestShown, .ref q_traced, .int v_traceMany, .int v_who, .ref q_bitsOf, .ref q_sizeOf, .ref q_number, .ref q_lifted])), (q_d, .inl (c 0, 244, .inl v_d)), (q_found, .inl (c 0, 6, .inl o_v_found))] o_r A below [.ref q_this, .int a_1] s) (F0 m 56 ls [])) → ∀ (x2 : Int32) (x3 : Int32) (x4 : Int32) (x6 : Int32) (y0 : Int32) (v_found : Nat → Int32) (H : Heap) (locs : List Loc), va_P D gcl [(q_this, .inr (12, [.ref q_d, .ref q_kept, .int v_images, .ref q_found, .ref q_aside, .int v_base, .int v_at, .int v_size, .int v_fault, .int v_opened, .int v_isSeen, .ref q_names, .ref q_seenKept, .ref q_movedKept, .int v_isKeeping, .int v_bubbleMany, .int v_bubbleMost, .int v_bubbleCell, .int v_bestShown, .ref q_traced, .int v_traceMany, .int v_who, .ref q_bitsOf, .ref q_sizeOf, .ref q_number, .ref q_lifted])), (q_d, .inl (c 0, 244, .inl v_d)), (q_found, .inl (c 0, 6, .inl v_found))] H → va_D A [(q_this, .inr (12, [.ref q_d, .ref q_kept, .int v_images, .ref q_found, .ref q_aside, .int v_base, .int v_at, .int v_size, .int v_fault, .int v_opened, .int v_isSeen, .ref q_names, .ref q_seenKept, .ref q_movedKept, .int v_isKeeping, .int v_bubbleMany, .int v_bubbleMost, .int v_bubbleCell, .int v_bestShown, .ref q_traced, .int v_traceMany, .int v_who, .ref q_bitsOf, .ref q_sizeOf, .ref q_number, .ref q_lifted])), (q_d, .inl (c 0, 244, .inl v_d)), (q_found, .inl (c 0, 6, .inl v_found))] → va_S A s.heap H locs → ∀ ls, lv_has ls 7 [(0, .ref q_this), (1, .int a_1), (2, .int x2), (3, .int x3), (4, .int x4), (6, .int x6)] → f_X12_lamp_L86 kk_L56 a_1 v_d x2 x3 x4 x6 y0 v_found = some (o_r, o_v_found) → W p l e (headSpec wsX12_lamp rm_X12_lamp).room s m [.ref q_this, .int a_1].toArray below meth co H locs 0 0 (gQI D [(q_this, .inr (12, [.ref q_d, .ref q_kept, .int v_images, .ref q_found, .ref q_aside, .int v_base, .int v_at, .int v_size, .int v_fault, .int v_opened, .int v_isSeen, .ref q_names, .ref q_seenKept, .ref q_movedKept, .int v_isKeeping, .int v_bubbleMany, .int v_bubbleMost, .int v_bubbleCell, .int v_bestShown, .ref q_traced, .int v_traceMany, .int v_who, .ref q_bitsOf, .ref q_sizeOf, .ref q_number, .ref q_lifted])), (q_d, .inl (c 0, 244, .inl v_d)), (q_found, .inl (c 0, 6, .inl o_v_found))] o_r A below [.ref q_this, .int a_1] s) (F0 m 86 ls [.int y0]) := by
    intro kk_L56 hkk_L56 x2 x3 x4 x6 y0 v_found H locs hP hD hS ls hl h
    unfold f_X12_lamp_L86 at h
    refine lv_istore (lv' := [(5, .int y0), (0, .ref q_this), (1, .int a_1), (2, .int x2), (3, .int x3), (4, .int x4), (6, .int x6)]) hx hb dX12_lamp_86 hl (by decide) rfl (fun ls hl => ?_)
    refine lv_aload_n hx hb dX12_lamp_88 rfl (lv_at hl 1 rfl) ?_
    refine lv_iload hx hb dX12_lamp_89 (lv_at hl 6 rfl) ?_
    refine lv_iload_n hx hb dX12_lamp_91 rfl (lv_at hl 2 rfl) ?_
    replace h := kb_ok h
    obtain ⟨r_27, hc_26, h⟩ := h
    refine gCallIr (isC := [0, 1]) (wc := [(q_this, .inr (12, [.ref q_d, .ref q_kept, .int v_images, .ref q_found, .ref q_aside, .int v_base, .int v_at, .int v_size, .int v_fault, .int v_opened, .int v_isSeen, .ref q_names, .ref q_seenKept, .ref q_movedKept, .int v_isKeeping, .int v_bubbleMany, .int v_bubbleMost, .int v_bubbleCell, .int v_bestShown, .ref q_traced, .int v_traceMany, .int v_who, .ref q_bitsOf, .ref q_sizeOf, .ref q_number, .ref q_lifted])), (q_d, .inl (c 0, 244, .inl v_d))]) hP hD hS hA ⟨rfl, rfl, trivial⟩ (va_runV (rm := rm_X12_nextTo) (ws := wsX12_nextTo) (As := [.int x6, .int a_1]) (rest := []) (gFix hF) (c_X12_nextTo l D c q_this q_d q_kept q_found q_aside q_names q_seenKept q_movedKept q_traced q_bitsOf q_sizeOf q_number q_lifted x6 a_1 v_images v_base v_at v_size v_fault v_opened v_isSeen v_isKeeping v_bubbleMany v_bubbleMost v_bubbleCell v_bestShown v_traceMany v_who v_d r_27 hc_26 H.size) (cwV 2 hts gX12_lamp_X12_nextTo rfl rfl rfl (by decide +kernel) ⟨Nat.le_of_ble_eq_true rfl, Nat.le_of_ble_eq_true rfl⟩) (gPreV (wc := [(q_this, .inr (12, [.ref q_d, .ref q_kept, .int v_images, .ref q_found, .ref q_aside, .int v_base, .int v_at, .int v_size, .int v_fault, .int v_opened, .int v_isSeen, .ref q_names, .ref q_seenKept, .ref q_movedKept, .int v_isKeeping, .int v_bubbleMany, .int v_bubbleMost, .int v_bubbleCell, .int v_bestShown, .ref q_traced, .int v_traceMany, .int v_who, .ref q_bitsOf, .ref q_sizeOf, .ref q_number, .ref q_lifted])), (q_d, .inl (c 0, 244, .inl v_d))]) (q := (RX12, TX12, 26)) (ci := 12) (q0 := 0) (isC := [0, 1]) hK hX hS hA hP hD ⟨rfl, rfl, trivial⟩ (by decide +kernel) rfl rfl) rfl rfl hl.1 rfl (lv_room (Nat.le_of_ble_eq_true rfl)) dX12_lamp_92 ⟨Nat.le_of_ble_eq_true rfl, Nat.le_of_ble_eq_true rfl⟩) (fun H locs hP hS => ?_)
    refine lv_istore (lv' := [(6, .int r_27), (5, .int y0), (0, .ref q_this), (1, .int a_1), (2, .int x2), (3, .int x3), (4, .int x4)]) hx hb dX12_lamp_95 hl (by decide) rfl (fun ls hl => ?_)
    refine lv_goto (tgt := 56) hx hb dX12_lamp_97 (by decide) ?_
    exact hkk_L56 x2 x3 x4 y0 r_27 v_found H locs hP hD hS ls (lv_sub hl [2, 3, 4, 5, 6, 1, 0] rfl) h
  have t_L56 : ∀ (kk_L17 : Int32 → Int32 → (Nat → Int32) → Option (Int32 × (Nat → Int32))), (∀ (x2 : Int32) (x3 : Int32) (v_found : Nat → Int32) (H : Heap) (locs : List Loc), va_P D gcl [(q_this, .inr (12, [.ref q_d, .ref q_kept, .int v_images, .ref q_found, .ref q_aside, .int v_base, .int v_at, .int v_size, .int v_fault, .int v_opened, .int v_isSeen, .ref q_names, .ref q_seenKept, .ref q_movedKept, .int v_isKeeping, .int v_bubbleMany, .int v_bubbleMost, .int v_bubbleCell, .int v_bestShown, .ref q_traced, .int v_traceMany, .int v_who, .ref q_bitsOf, .ref q_sizeOf, .ref q_number, .ref q_lifted])), (q_d, .inl (c 0, 244, .inl v_d)), (q_found, .inl (c 0, 6, .inl v_found))] H → va_D A [(q_this, .inr (12, [.ref q_d, .ref q_kept, .int v_images, .ref q_found, .ref q_aside, .int v_base, .int v_at, .int v_size, .int v_fault, .int v_opened, .int v_isSeen, .ref q_names, .ref q_seenKept, .ref q_movedKept, .int v_isKeeping, .int v_bubbleMany, .int v_bubbleMost, .int v_bubbleCell, .int v_bestShown, .ref q_traced, .int v_traceMany, .int v_who, .ref q_bitsOf, .ref q_sizeOf, .ref q_number, .ref q_lifted])), (q_d, .inl (c 0, 244, .inl v_d)), (q_found, .inl (c 0, 6, .inl v_found))] → va_S A s.heap H locs → ∀ ls, lv_has ls 7 [(0, .ref q_this), (1, .int a_1), (2, .int x2), (3, .int x3)] → kk_L17 x2 x3 v_found = some (o_r, o_v_found) → W p l e (headSpec wsX12_lamp rm_X12_lamp).room s m [.ref q_this, .int a_1].toArray below meth co H locs 0 0 (gQI D [(q_this, .inr (12, [.ref q_d, .ref q_kept, .int v_images, .ref q_found, .ref q_aside, .int v_base, .int v_at, .int v_size, .int v_fault, .int v_opened, .int v_isSeen, .ref q_names, .ref q_seenKept, .ref q_movedKept, .int v_isKeeping, .int v_bubbleMany, .int v_bubbleMost, .int v_bubbleCell, .int v_bestShown, .ref q_traced, .int v_traceMany, .int v_who, .ref q_bitsOf, .ref q_sizeOf, .ref q_number, .ref q_lifted])), (q_d, .inl (c 0, 244, .inl v_d)), (q_found, .inl (c 0, 6, .inl o_v_found))] o_r A below [.ref q_this, .int a_1] s) (F0 m 17 ls [])) → ∀ (n : Nat), ∀ (x2 : Int32) (x3 : Int32) (x4 : Int32) (x5 : Int32) (x6 : Int32) (v_found : Nat → Int32) (H : Heap) (locs : List Loc), va_P D gcl [(q_this, .inr (12, [.ref q_d, .ref q_kept, .int v_images, .ref q_found, .ref q_aside, .int v_base, .int v_at, .int v_size, .int v_fault, .int v_opened, .int v_isSeen, .ref q_names, .ref q_seenKept, .ref q_movedKept, .int v_isKeeping, .int v_bubbleMany, .int v_bubbleMost, .int v_bubbleCell, .int v_bestShown, .ref q_traced, .int v_traceMany, .int v_who, .ref q_bitsOf, .ref q_sizeOf, .ref q_number, .ref q_lifted])), (q_d, .inl (c 0, 244, .inl v_d)), (q_found, .inl (c 0, 6, .inl v_found))] H → va_D A [(q_this, .inr (12, [.ref q_d, .ref q_kept, .int v_images, .ref q_found, .ref q_aside, .int v_base, .int v_at, .int v_size, .int v_fault, .int v_opened, .int v_isSeen, .ref q_names, .ref q_seenKept, .ref q_movedKept, .int v_isKeeping, .int v_bubbleMany, .int v_bubbleMost, .int v_bubbleCell, .int v_bestShown, .ref q_traced, .int v_traceMany, .int v_who, .ref q_bitsOf, .ref q_sizeOf, .ref q_number, .ref q_lifted])), (q_d, .inl (c 0, 244, .inl v_d)), (q_found, .inl (c 0, 6, .inl v_found))] → va_S A s.heap H locs → ∀ ls, lv_has ls 7 [(0, .ref q_this), (1, .int a_1), (2, .int x2), (3, .int x3), (4, .int x4), (5, .int x5), (6, .int x6)] → f_X12_lamp_L56 kk_L17 a_1 v_d n x2 x3 x4 x5 x6 v_found = some (o_r, o_v_found) → W p l e (headSpec wsX12_lamp rm_X12_lamp).room s m [.ref q_this, .int a_1].toArray below meth co H locs 0 0 (gQI D [(q_this, .inr (12, [.ref q_d, .ref q_kept, .int v_images, .ref q_found, .ref q_aside, .int v_base, .int v_at, .int v_size, .int v_fault, .int v_opened, .int v_isSeen, .ref q_names, .ref q_seenKept, .ref q_movedKept, .int v_isKeeping, .int v_bubbleMany, .int v_bubbleMost, .int v_bubbleCell, .int v_bestShown, .ref q_traced, .int v_traceMany, .int v_who, .ref q_bitsOf, .ref q_sizeOf, .ref q_number, .ref q_lifted])), (q_d, .inl (c 0, 244, .inl v_d)), (q_found, .inl (c 0, 6, .inl o_v_found))] o_r A below [.ref q_this, .int a_1] s) (F0 m 56 ls []) := by
    intro kk_L17 hkk_L17
    intro n
    induction n with
    | zero => intro x2 x3 x4 x5 x6 v_found H locs hP hD hS ls hl h; exact no_ok h
    | succ n ih =>
      intro x2 x3 x4 x5 x6 v_found H locs hP hD hS ls hl h
      rw [f_X12_lamp_L56] at h
      refine lv_iload hx hb dX12_lamp_56 (lv_at hl 6 rfl) ?_
      refine lv_if_lt (tgt := 100) hx hb dX12_lamp_58 (by decide) (fun c_16 => ?_) (fun c_16 => ?_)
      · replace h := it_t c_16 h
        refine lv_iload_n hx hb dX12_lamp_100 rfl (lv_at hl 2 rfl) ?_
        refine lv_iload hx hb dX12_lamp_101 (lv_at hl 5 rfl) ?_
        refine lv_if_eq (tgt := 110) hx hb dX12_lamp_103 (by decide) (fun c_17 => ?_) (fun c_17 => ?_)
        · replace h := it_t c_17 h
          refine lv_iconst (v := 0) hx hb dX12_lamp_110 (by decide) ?_
          refine lv_iadd hx hb dX12_lamp_111 ?_
          replace h := nm_ok h
          obtain ⟨t_18, et_18, h⟩ := h
          refine gTop et_18 ?_
          refine lv_istore_n (lv' := [(2, .int t_18), (0, .ref q_this), (1, .int a_1), (3, .int x3), (4, .int x4), (5, .int x5), (6, .int x6)]) hx hb dX12_lamp_112 rfl hl (by decide) rfl (fun ls hl => ?_)
          replace h := nm_ok h
          obtain ⟨t_19, et_19, h⟩ := h
          refine lv_iinc (v := t_19) (lv' := [(3, .int t_19), (2, .int t_18), (0, .ref q_this), (1, .int a_1), (4, .int x4), (5, .int x5), (6, .int x6)]) hx hb dX12_lamp_113 hl (k := 3) rfl (by rw [et_19]; rfl) (by decide) rfl (fun ls hl => ?_)
          refine lv_goto (tgt := 17) hx hb dX12_lamp_116 (by decide) ?_
          exact hkk_L17 t_18 t_19 v_found H locs hP hD hS ls (lv_sub hl [2, 3, 1, 0] rfl) h
        · replace h := it_f c_17 h
          refine lv_iconst (v := 1) hx hb dX12_lamp_106 (by decide) ?_
          refine lv_goto (tgt := 111) hx hb dX12_lamp_107 (by decide) ?_
          refine lv_iadd hx hb dX12_lamp_111 ?_
          replace h := nm_ok h
          obtain ⟨t_20, et_20, h⟩ := h
          refine gTop et_20 ?_
          refine lv_istore_n (lv' := [(2, .int t_20), (0, .ref q_this), (1, .int a_1), (3, .int x3), (4, .int x4), (5, .int x5), (6, .int x6)]) hx hb dX12_lamp_112 rfl hl (by decide) rfl (fun ls hl => ?_)
          replace h := nm_ok h
          obtain ⟨t_21, et_21, h⟩ := h
          refine lv_iinc (v := t_21) (lv' := [(3, .int t_21), (2, .int t_20), (0, .ref q_this), (1, .int a_1), (4, .int x4), (5, .int x5), (6, .int x6)]) hx hb dX12_lamp_113 hl (k := 3) rfl (by rw [et_21]; rfl) (by decide) rfl (fun ls hl => ?_)
          refine lv_goto (tgt := 17) hx hb dX12_lamp_116 (by decide) ?_
          exact hkk_L17 t_20 t_21 v_found H locs hP hD hS ls (lv_sub hl [2, 3, 1, 0] rfl) h
      · replace h := it_f c_16 h
        refine lv_iload hx hb dX12_lamp_61 (lv_at hl 5 rfl) ?_
        refine lv_if_eq (tgt := 85) hx hb dX12_lamp_63 (by decide) (fun c_22 => ?_) (fun c_22 => ?_)
        · replace h := it_t c_22 h
          refine lv_iconst (v := 0) hx hb dX12_lamp_85 (by decide) ?_
          exact t_L86 _ ih x2 x3 x4 x6 0 v_found H locs hP hD hS ls (lv_sub hl [0, 1, 2, 3, 4, 6] rfl) h
        · replace h := it_f c_22 h
          refine lv_iload hx hb dX12_lamp_66 (lv_at hl 4 rfl) ?_
          refine lv_aload_n hx hb dX12_lamp_68 rfl (lv_at hl 0 rfl) ?_
          refine va_get (D := D) (ci := 12) (v := .ref q_d) (C := RX12) (T := TX12) (N := 26) hx hb hts in_X12_lamp_X12 hown hK.1 hP 0 rfl rfl 0 (by decide) (hts (.fieldLink RX12 7 "PaperBubblesModel" "d" "[I") (List.mem_of_getElem? (i := 1) rfl)) (fun _ h9 => h9) rfl dX12_lamp_69 ?_
          refine lv_bipush (v := 10) hx hb dX12_lamp_72 (by decide) ?_
          refine lv_iload hx hb dX12_lamp_74 (lv_at hl 6 rfl) ?_
          refine lv_iadd hx hb dX12_lamp_76 ?_
          replace h := nm_ok h
          obtain ⟨t_23, et_23, h⟩ := h
          refine gTop et_23 ?_
          replace h := chi_ok h
          obtain ⟨hi_24, h⟩ := h
          refine va_iald hx hb hK.1 hP 1 0 rfl rfl hi_24 dX12_lamp_77 ?_
          refine lv_icmp_le (tgt := 85) hx hb dX12_lamp_78 (by decide) (fun c_25 => ?_) (fun c_25 => ?_)
          · replace h := it_t c_25 h
            refine lv_iconst (v := 0) hx hb dX12_lamp_85 (by decide) ?_
            exact t_L86 _ ih x2 x3 x4 x6 0 v_found H locs hP hD hS ls (lv_sub hl [0, 1, 2, 3, 4, 6] rfl) h
          · replace h := it_f c_25 h
            refine lv_iconst (v := 1) hx hb dX12_lamp_81 (by decide) ?_
            refine lv_goto (tgt := 86) hx hb dX12_lamp_82 (by decide) ?_
            exact t_L86 _ ih x2 x3 x4 x6 1 v_found H locs hP hD hS ls (lv_sub hl [0, 1, 2, 3, 4, 6] rfl) h
  have t_L46 : ∀ (kk_L17 : Int32 → Int32 → (Nat → Int32) → Option (Int32 × (Nat → Int32))), (∀ (x2 : Int32) (x3 : Int32) (v_found : Nat → Int32) (H : Heap) (locs : List Loc), va_P D gcl [(q_this, .inr (12, [.ref q_d, .ref q_kept, .int v_images, .ref q_found, .ref q_aside, .int v_base, .int v_at, .int v_size, .int v_fault, .int v_opened, .int v_isSeen, .ref q_names, .ref q_seenKept, .ref q_movedKept, .int v_isKeeping, .int v_bubbleMany, .int v_bubbleMost, .int v_bubbleCell, .int v_bestShown, .ref q_traced, .int v_traceMany, .int v_who, .ref q_bitsOf, .ref q_sizeOf, .ref q_number, .ref q_lifted])), (q_d, .inl (c 0, 244, .inl v_d)), (q_found, .inl (c 0, 6, .inl v_found))] H → va_D A [(q_this, .inr (12, [.ref q_d, .ref q_kept, .int v_images, .ref q_found, .ref q_aside, .int v_base, .int v_at, .int v_size, .int v_fault, .int v_opened, .int v_isSeen, .ref q_names, .ref q_seenKept, .ref q_movedKept, .int v_isKeeping, .int v_bubbleMany, .int v_bubbleMost, .int v_bubbleCell, .int v_bestShown, .ref q_traced, .int v_traceMany, .int v_who, .ref q_bitsOf, .ref q_sizeOf, .ref q_number, .ref q_lifted])), (q_d, .inl (c 0, 244, .inl v_d)), (q_found, .inl (c 0, 6, .inl v_found))] → va_S A s.heap H locs → ∀ ls, lv_has ls 7 [(0, .ref q_this), (1, .int a_1), (2, .int x2), (3, .int x3)] → kk_L17 x2 x3 v_found = some (o_r, o_v_found) → W p l e (headSpec wsX12_lamp rm_X12_lamp).room s m [.ref q_this, .int a_1].toArray below meth co H locs 0 0 (gQI D [(q_this, .inr (12, [.ref q_d, .ref q_kept, .int v_images, .ref q_found, .ref q_aside, .int v_base, .int v_at, .int v_size, .int v_fault, .int v_opened, .int v_isSeen, .ref q_names, .ref q_seenKept, .ref q_movedKept, .int v_isKeeping, .int v_bubbleMany, .int v_bubbleMost, .int v_bubbleCell, .int v_bestShown, .ref q_traced, .int v_traceMany, .int v_who, .ref q_bitsOf, .ref q_sizeOf, .ref q_number, .ref q_lifted])), (q_d, .inl (c 0, 244, .inl v_d)), (q_found, .inl (c 0, 6, .inl o_v_found))] o_r A below [.ref q_this, .int a_1] s) (F0 m 17 ls [])) → ∀ (x2 : Int32) (x3 : Int32) (x4 : Int32) (y0 : Int32) (v_found : Nat → Int32) (H : Heap) (locs : List Loc), va_P D gcl [(q_this, .inr (12, [.ref q_d, .ref q_kept, .int v_images, .ref q_found, .ref q_aside, .int v_base, .int v_at, .int v_size, .int v_fault, .int v_opened, .int v_isSeen, .ref q_names, .ref q_seenKept, .ref q_movedKept, .int v_isKeeping, .int v_bubbleMany, .int v_bubbleMost, .int v_bubbleCell, .int v_bestShown, .ref q_traced, .int v_traceMany, .int v_who, .ref q_bitsOf, .ref q_sizeOf, .ref q_number, .ref q_lifted])), (q_d, .inl (c 0, 244, .inl v_d)), (q_found, .inl (c 0, 6, .inl v_found))] H → va_D A [(q_this, .inr (12, [.ref q_d, .ref q_kept, .int v_images, .ref q_found, .ref q_aside, .int v_base, .int v_at, .int v_size, .int v_fault, .int v_opened, .int v_isSeen, .ref q_names, .ref q_seenKept, .ref q_movedKept, .int v_isKeeping, .int v_bubbleMany, .int v_bubbleMost, .int v_bubbleCell, .int v_bestShown, .ref q_traced, .int v_traceMany, .int v_who, .ref q_bitsOf, .ref q_sizeOf, .ref q_number, .ref q_lifted])), (q_d, .inl (c 0, 244, .inl v_d)), (q_found, .inl (c 0, 6, .inl v_found))] → va_S A s.heap H locs → ∀ ls, lv_has ls 7 [(0, .ref q_this), (1, .int a_1), (2, .int x2), (3, .int x3), (4, .int x4)] → f_X12_lamp_L46 kk_L17 a_1 v_d x2 x3 x4 y0 v_found = some (o_r, o_v_found) → W p l e (headSpec wsX12_lamp rm_X12_lamp).room s m [.ref q_this, .int a_1].toArray below meth co H locs 0 0 (gQI D [(q_this, .inr (12, [.ref q_d, .ref q_kept, .int v_images, .ref q_found, .ref q_aside, .int v_base, .int v_at, .int v_size, .int v_fault, .int v_opened, .int v_isSeen, .ref q_names, .ref q_seenKept, .ref q_movedKept, .int v_isKeeping, .int v_bubbleMany, .int v_bubbleMost, .int v_bubbleCell, .int v_bestShown, .ref q_traced, .int v_traceMany, .int v_who, .ref q_bitsOf, .ref q_sizeOf, .ref q_number, .ref q_lifted])), (q_d, .inl (c 0, 244, .inl v_d)), (q_found, .inl (c 0, 6, .inl o_v_found))] o_r A below [.ref q_this, .int a_1] s) (F0 m 46 ls [.int y0]) := by
    intro kk_L17 hkk_L17 x2 x3 x4 y0 v_found H locs hP hD hS ls hl h
    unfold f_X12_lamp_L46 at h
    refine lv_istore (lv' := [(5, .int y0), (0, .ref q_this), (1, .int a_1), (2, .int x2), (3, .int x3), (4, .int x4)]) hx hb dX12_lamp_46 hl (by decide) rfl (fun ls hl => ?_)
    refine lv_aload_n hx hb dX12_lamp_48 rfl (lv_at hl 1 rfl) ?_
    refine lv_iload_n hx hb dX12_lamp_49 rfl (lv_at hl 4 rfl) ?_
    refine lv_iload_n hx hb dX12_lamp_50 rfl (lv_at hl 2 rfl) ?_
    replace h := kb_ok h
    obtain ⟨r_15, hc_14, h⟩ := h
    refine gCallIr (isC := [0, 1]) (wc := [(q_this, .inr (12, [.ref q_d, .ref q_kept, .int v_images, .ref q_found, .ref q_aside, .int v_base, .int v_at, .int v_size, .int v_fault, .int v_opened, .int v_isSeen, .ref q_names, .ref q_seenKept, .ref q_movedKept, .int v_isKeeping, .int v_bubbleMany, .int v_bubbleMost, .int v_bubbleCell, .int v_bestShown, .ref q_traced, .int v_traceMany, .int v_who, .ref q_bitsOf, .ref q_sizeOf, .ref q_number, .ref q_lifted])), (q_d, .inl (c 0, 244, .inl v_d))]) hP hD hS hA ⟨rfl, rfl, trivial⟩ (va_runV (rm := rm_X12_nextTo) (ws := wsX12_nextTo) (As := [.int x3, .int a_1]) (rest := []) (gFix hF) (c_X12_nextTo l D c q_this q_d q_kept q_found q_aside q_names q_seenKept q_movedKept q_traced q_bitsOf q_sizeOf q_number q_lifted x3 a_1 v_images v_base v_at v_size v_fault v_opened v_isSeen v_isKeeping v_bubbleMany v_bubbleMost v_bubbleCell v_bestShown v_traceMany v_who v_d r_15 hc_14 H.size) (cwV 2 hts gX12_lamp_X12_nextTo rfl rfl rfl (by decide +kernel) ⟨Nat.le_of_ble_eq_true rfl, Nat.le_of_ble_eq_true rfl⟩) (gPreV (wc := [(q_this, .inr (12, [.ref q_d, .ref q_kept, .int v_images, .ref q_found, .ref q_aside, .int v_base, .int v_at, .int v_size, .int v_fault, .int v_opened, .int v_isSeen, .ref q_names, .ref q_seenKept, .ref q_movedKept, .int v_isKeeping, .int v_bubbleMany, .int v_bubbleMost, .int v_bubbleCell, .int v_bestShown, .ref q_traced, .int v_traceMany, .int v_who, .ref q_bitsOf, .ref q_sizeOf, .ref q_number, .ref q_lifted])), (q_d, .inl (c 0, 244, .inl v_d))]) (q := (RX12, TX12, 26)) (ci := 12) (q0 := 0) (isC := [0, 1]) hK hX hS hA hP hD ⟨rfl, rfl, trivial⟩ (by decide +kernel) rfl rfl) rfl rfl hl.1 rfl (lv_room (Nat.le_of_ble_eq_true rfl)) dX12_lamp_51 ⟨Nat.le_of_ble_eq_true rfl, Nat.le_of_ble_eq_true rfl⟩) (fun H locs hP hS => ?_)
    refine lv_istore (lv' := [(6, .int r_15), (5, .int y0), (0, .ref q_this), (1, .int a_1), (2, .int x2), (3, .int x3), (4, .int x4)]) hx hb dX12_lamp_54 hl (by decide) rfl (fun ls hl => ?_)
    exact t_L56 _ hkk_L17 gFuel x2 x3 x4 y0 r_15 v_found H locs hP hD hS ls (lv_sub hl [2, 3, 4, 5, 6, 1, 0] rfl) h
  have t_L17 : ∀ (n : Nat), ∀ (x2 : Int32) (x3 : Int32) (v_found : Nat → Int32) (H : Heap) (locs : List Loc), va_P D gcl [(q_this, .inr (12, [.ref q_d, .ref q_kept, .int v_images, .ref q_found, .ref q_aside, .int v_base, .int v_at, .int v_size, .int v_fault, .int v_opened, .int v_isSeen, .ref q_names, .ref q_seenKept, .ref q_movedKept, .int v_isKeeping, .int v_bubbleMany, .int v_bubbleMost, .int v_bubbleCell, .int v_bestShown, .ref q_traced, .int v_traceMany, .int v_who, .ref q_bitsOf, .ref q_sizeOf, .ref q_number, .ref q_lifted])), (q_d, .inl (c 0, 244, .inl v_d)), (q_found, .inl (c 0, 6, .inl v_found))] H → va_D A [(q_this, .inr (12, [.ref q_d, .ref q_kept, .int v_images, .ref q_found, .ref q_aside, .int v_base, .int v_at, .int v_size, .int v_fault, .int v_opened, .int v_isSeen, .ref q_names, .ref q_seenKept, .ref q_movedKept, .int v_isKeeping, .int v_bubbleMany, .int v_bubbleMost, .int v_bubbleCell, .int v_bestShown, .ref q_traced, .int v_traceMany, .int v_who, .ref q_bitsOf, .ref q_sizeOf, .ref q_number, .ref q_lifted])), (q_d, .inl (c 0, 244, .inl v_d)), (q_found, .inl (c 0, 6, .inl v_found))] → va_S A s.heap H locs → ∀ ls, lv_has ls 7 [(0, .ref q_this), (1, .int a_1), (2, .int x2), (3, .int x3)] → f_X12_lamp_L17 a_1 v_d n x2 x3 v_found = some (o_r, o_v_found) → W p l e (headSpec wsX12_lamp rm_X12_lamp).room s m [.ref q_this, .int a_1].toArray below meth co H locs 0 0 (gQI D [(q_this, .inr (12, [.ref q_d, .ref q_kept, .int v_images, .ref q_found, .ref q_aside, .int v_base, .int v_at, .int v_size, .int v_fault, .int v_opened, .int v_isSeen, .ref q_names, .ref q_seenKept, .ref q_movedKept, .int v_isKeeping, .int v_bubbleMany, .int v_bubbleMost, .int v_bubbleCell, .int v_bestShown, .ref q_traced, .int v_traceMany, .int v_who, .ref q_bitsOf, .ref q_sizeOf, .ref q_number, .ref q_lifted])), (q_d, .inl (c 0, 244, .inl v_d)), (q_found, .inl (c 0, 6, .inl o_v_found))] o_r A below [.ref q_this, .int a_1] s) (F0 m 17 ls []) := by
    intro n
    induction n with
    | zero => intro x2 x3 v_found H locs hP hD hS ls hl h; exact no_ok h
    | succ n ih =>
      intro x2 x3 v_found H locs hP hD hS ls hl h
      rw [f_X12_lamp_L17] at h
      refine lv_iload_n hx hb dX12_lamp_17 rfl (lv_at hl 3 rfl) ?_
      refine lv_aload_n hx hb dX12_lamp_18 rfl (lv_at hl 0 rfl) ?_
      replace h := kb_ok h
      obtain ⟨r_8, hc_7, h⟩ := h
      refine gCallIr (isC := [0, 1]) (wc := [(q_this, .inr (12, [.ref q_d, .ref q_kept, .int v_images, .ref q_found, .ref q_aside, .int v_base, .int v_at, .int v_size, .int v_fault, .int v_opened, .int v_isSeen, .ref q_names, .ref q_seenKept, .ref q_movedKept, .int v_isKeeping, .int v_bubbleMany, .int v_bubbleMost, .int v_bubbleCell, .int v_bestShown, .ref q_traced, .int v_traceMany, .int v_who, .ref q_bitsOf, .ref q_sizeOf, .ref q_number, .ref q_lifted])), (q_d, .inl (c 0, 244, .inl v_d))]) hP hD hS hA ⟨rfl, rfl, trivial⟩ (va_runV (rm := rm_X12_cells) (ws := wsX12_cells) (As := []) (rest := [.int x3]) (gFix hF) (c_X12_cells l D c q_this q_d q_kept q_found q_aside q_names q_seenKept q_movedKept q_traced q_bitsOf q_sizeOf q_number q_lifted v_images v_base v_at v_size v_fault v_opened v_isSeen v_isKeeping v_bubbleMany v_bubbleMost v_bubbleCell v_bestShown v_traceMany v_who v_d r_8 hc_7 H.size) (cwV 0 hts gX12_lamp_X12_cells rfl rfl rfl (by decide +kernel) ⟨Nat.le_of_ble_eq_true rfl, Nat.le_of_ble_eq_true rfl⟩) (gPreV (wc := [(q_this, .inr (12, [.ref q_d, .ref q_kept, .int v_images, .ref q_found, .ref q_aside, .int v_base, .int v_at, .int v_size, .int v_fault, .int v_opened, .int v_isSeen, .ref q_names, .ref q_seenKept, .ref q_movedKept, .int v_isKeeping, .int v_bubbleMany, .int v_bubbleMost, .int v_bubbleCell, .int v_bestShown, .ref q_traced, .int v_traceMany, .int v_who, .ref q_bitsOf, .ref q_sizeOf, .ref q_number, .ref q_lifted])), (q_d, .inl (c 0, 244, .inl v_d))]) (q := (RX12, TX12, 26)) (ci := 12) (q0 := 0) (isC := [0, 1]) hK hX hS hA hP hD ⟨rfl, rfl, trivial⟩ (by decide +kernel) rfl rfl) rfl rfl hl.1 rfl (lv_room (Nat.le_of_ble_eq_true rfl)) dX12_lamp_19 ⟨Nat.le_of_ble_eq_true rfl, Nat.le_of_ble_eq_true rfl⟩) (fun H locs hP hS => ?_)
      refine lv_icmp_ge (tgt := 119) hx hb dX12_lamp_22 (by decide) (fun c_9 => ?_) (fun c_9 => ?_)
      · replace h := it_t c_9 h
        refine lv_iload_n hx hb dX12_lamp_119 rfl (lv_at hl 2 rfl) ?_
        replace h := so2 h
        obtain ⟨z0, z1⟩ := h
        subst z0 z1
        exact gIret hF hP hD hS rfl dX12_lamp_120
      · replace h := it_f c_9 h
        refine lv_aload_n hx hb dX12_lamp_25 rfl (lv_at hl 0 rfl) ?_
        refine va_get (D := D) (ci := 12) (v := .ref q_d) (C := RX12) (T := TX12) (N := 26) hx hb hts in_X12_lamp_X12 hown hK.1 hP 0 rfl rfl 0 (by decide) (hts (.fieldLink RX12 7 "PaperBubblesModel" "d" "[I") (List.mem_of_getElem? (i := 1) rfl)) (fun _ h9 => h9) rfl dX12_lamp_26 ?_
        refine lv_bipush (v := 10) hx hb dX12_lamp_29 (by decide) ?_
        refine lv_iload_n hx hb dX12_lamp_31 rfl (lv_at hl 3 rfl) ?_
        refine lv_iadd hx hb dX12_lamp_32 ?_
        replace h := nm_ok h
        obtain ⟨t_10, et_10, h⟩ := h
        refine gTop et_10 ?_
        replace h := chi_ok h
        obtain ⟨hi_11, h⟩ := h
        refine va_iald hx hb hK.1 hP 1 0 rfl rfl hi_11 dX12_lamp_33 ?_
        replace h := nm_ok h
        obtain ⟨t_12, et_12, h⟩ := h
        refine gTop et_12 ?_
        refine lv_istore (lv' := [(4, .int t_12), (0, .ref q_this), (1, .int a_1), (2, .int x2), (3, .int x3)]) hx hb dX12_lamp_34 hl (by decide) rfl (fun ls hl => ?_)
        refine lv_iload hx hb dX12_lamp_36 (lv_at hl 0 rfl) ?_
        refine lv_if_le (tgt := 45) hx hb dX12_lamp_38 (by decide) (fun c_13 => ?_) (fun c_13 => ?_)
        · replace h := it_t c_13 h
          refine lv_iconst (v := 0) hx hb dX12_lamp_45 (by decide) ?_
          exact t_L46 _ ih x2 x3 t_12 0 v_found H locs hP hD hS ls (lv_sub hl [1, 2, 3, 4, 0] rfl) h
        · replace h := it_f c_13 h
          refine lv_iconst (v := 1) hx hb dX12_lamp_41 (by decide) ?_
          refine lv_goto (tgt := 46) hx hb dX12_lamp_42 (by decide) ?_
          exact t_L46 _ ih x2 x3 t_12 1 v_found H locs hP hD hS ls (lv_sub hl [1, 2, 3, 4, 0] rfl) h
  unfold f_X12_lamp at h
  refine lv_iload_n hx hb dX12_lamp_0 rfl (lv_at hl 1 rfl) ?_
  replace h := kb_ok h
  obtain ⟨r_2, hc_1, h⟩ := h
  refine gCallIr (isC := []) (wc := []) hP hD hS hA trivial (va_runS (rm := rm_X12_isWay) (ws := wsX12_isWay) (As := [.int a_1]) (rest := []) (gFix hF) (c_X12_isWay l D c a_1 r_2 hc_1 s.heap.size) (va_cwS 1 hts gX12_lamp_X12_isWay rfl rfl rfl (by decide +kernel) ⟨Nat.le_of_ble_eq_true rfl, Nat.le_of_ble_eq_true rfl⟩) (gPreS (wc := []) (isC := []) hK hX hS hA hP hD trivial (by decide +kernel)) rfl rfl hl.1 rfl (lv_room (Nat.le_of_ble_eq_true rfl)) dX12_lamp_1 ⟨Nat.le_of_ble_eq_true rfl, Nat.le_of_ble_eq_true rfl⟩) (fun H locs hP hS => ?_)
  refine lv_if_ne (tgt := 13) hx hb dX12_lamp_4 (by decide) (fun c_3 => ?_) (fun c_3 => ?_)
  · replace h := it_f c_3 h
    refine lv_iconst (v := 0) hx hb dX12_lamp_13 (by decide) ?_
    refine lv_istore_n (lv' := [(2, .int 0), (0, .ref q_this), (1, .int a_1)]) hx hb dX12_lamp_14 rfl hl (by decide) rfl (fun ls hl => ?_)
    refine lv_iconst (v := 0) hx hb dX12_lamp_15 (by decide) ?_
    refine lv_istore_n (lv' := [(3, .int 0), (2, .int 0), (0, .ref q_this), (1, .int a_1)]) hx hb dX12_lamp_16 rfl hl (by decide) rfl (fun ls hl => ?_)
    exact t_L17 gFuel 0 0 v_found H locs hP hD hS ls (lv_sub hl [2, 3, 1, 0] rfl) h
  · replace h := it_t c_3 h
    refine lv_aload_n hx hb dX12_lamp_7 rfl (lv_at hl 0 rfl) ?_
    refine lv_iconst (v := 1) hx hb dX12_lamp_8 (by decide) ?_
    replace h := kb2_ok h
    obtain ⟨r_5, w_6, hc_4, h⟩ := h
    refine gCallI (isC := [0, 2]) (wc := [(q_this, .inr (12, [.ref q_d, .ref q_kept, .int v_images, .ref q_found, .ref q_aside, .int v_base, .int v_at, .int v_size, .int v_fault, .int v_opened, .int v_isSeen, .ref q_names, .ref q_seenKept, .ref q_movedKept, .int v_isKeeping, .int v_bubbleMany, .int v_bubbleMost, .int v_bubbleCell, .int v_bestShown, .ref q_traced, .int v_traceMany, .int v_who, .ref q_bitsOf, .ref q_sizeOf, .ref q_number, .ref q_lifted])), (q_found, .inl (c 0, 6, .inl v_found))]) (w1 := [(q_this, .inr (12, [.ref q_d, .ref q_kept, .int v_images, .ref q_found, .ref q_aside, .int v_base, .int v_at, .int v_size, .int v_fault, .int v_opened, .int v_isSeen, .ref q_names, .ref q_seenKept, .ref q_movedKept, .int v_isKeeping, .int v_bubbleMany, .int v_bubbleMost, .int v_bubbleCell, .int v_bestShown, .ref q_traced, .int v_traceMany, .int v_who, .ref q_bitsOf, .ref q_sizeOf, .ref q_number, .ref q_lifted])), (q_found, .inl (c 0, 6, .inl w_6))]) (ws2 := [(q_this, .inr (12, [.ref q_d, .ref q_kept, .int v_images, .ref q_found, .ref q_aside, .int v_base, .int v_at, .int v_size, .int v_fault, .int v_opened, .int v_isSeen, .ref q_names, .ref q_seenKept, .ref q_movedKept, .int v_isKeeping, .int v_bubbleMany, .int v_bubbleMost, .int v_bubbleCell, .int v_bestShown, .ref q_traced, .int v_traceMany, .int v_who, .ref q_bitsOf, .ref q_sizeOf, .ref q_number, .ref q_lifted])), (q_d, .inl (c 0, 244, .inl v_d)), (q_found, .inl (c 0, 6, .inl w_6))]) (ms := [(some 0), none, (some 1)]) hP hD hS hA ⟨rfl, rfl, trivial⟩ (by decide +kernel) ⟨rfl, rfl, rfl, trivial⟩ (va_runV (rm := rm_X12_finds) (ws := wsX12_finds) (As := [.int 1]) (rest := []) (gFix hF) (c_X12_finds l D c q_this q_d q_kept q_found q_aside q_names q_seenKept q_movedKept q_traced q_bitsOf q_sizeOf q_number q_lifted 1 v_images v_base v_at v_size v_fault v_opened v_isSeen v_isKeeping v_bubbleMany v_bubbleMost v_bubbleCell v_bestShown v_traceMany v_who v_found r_5 w_6 hc_4 H.size) (cwV 1 hts gX12_lamp_X12_finds rfl rfl rfl (by decide +kernel) ⟨Nat.le_of_ble_eq_true rfl, Nat.le_of_ble_eq_true rfl⟩) (gPreV (wc := [(q_this, .inr (12, [.ref q_d, .ref q_kept, .int v_images, .ref q_found, .ref q_aside, .int v_base, .int v_at, .int v_size, .int v_fault, .int v_opened, .int v_isSeen, .ref q_names, .ref q_seenKept, .ref q_movedKept, .int v_isKeeping, .int v_bubbleMany, .int v_bubbleMost, .int v_bubbleCell, .int v_bestShown, .ref q_traced, .int v_traceMany, .int v_who, .ref q_bitsOf, .ref q_sizeOf, .ref q_number, .ref q_lifted])), (q_found, .inl (c 0, 6, .inl v_found))]) (q := (RX12, TX12, 26)) (ci := 12) (q0 := 0) (isC := [0, 2]) hK hX hS hA hP hD ⟨rfl, rfl, trivial⟩ (by decide +kernel) rfl rfl) rfl rfl hl.1 rfl (lv_room (Nat.le_of_ble_eq_true rfl)) dX12_lamp_9 ⟨Nat.le_of_ble_eq_true rfl, Nat.le_of_ble_eq_true rfl⟩) (fun H locs hP hD hS => ?_)
    replace h := so2 h
    obtain ⟨z0, z1⟩ := h
    subst z0 z1
    exact gIret hF hP hD hS rfl dX12_lamp_12
def f_X12_law (a_1 : Int32) (a_2 : Int32) (a_3 : Int32) (a_4 : Int32) (v_base : Int32) (v_at : Int32) (v_size : Int32) (v_fault : Int32) (v_opened : Int32) (v_isSeen : Int32) (v_d : Nat → Int32) (v_found : Nat → Int32) (v_names : Nat → Int32) : Option (Int32 × Int32 × Int32 × Int32 × Int32 × Int32 × Int32 × (Nat → Int32) × (Nat → Int32)) :=
  kb (f_X12_in ((a_1 : Int32).toInt64) 0 1) fun r_2 =>
  if r_2 = 0 then
    kb2 (f_X12_finds 1 v_found) fun r_5 w_6 =>
    some (r_5, v_base, v_at, v_size, v_fault, v_opened, v_isSeen, w_6, v_names)
  else
    kb8 (f_X12_textGives a_1 a_2 a_3 a_4 v_base v_at v_size v_fault v_opened v_isSeen v_d v_names) fun r_8 w_9 w_10 w_11 w_12 w_13 w_14 w_15 =>
    some (r_8, w_9, w_10, w_11, w_12, w_13, w_14, v_found, w_15)

abbrev rm_X12_law : Room := { frames := 56, cells := 0, slots := 0, locals := 1282 }
set_option maxHeartbeats 4000000 in
set_option maxRecDepth 100000 in
theorem c_X12_law (l : Launch) (D : va_G) (c : Nat → ClassId) (q_this q_d q_kept q_found q_aside q_names q_seenKept q_movedKept q_traced q_bitsOf q_sizeOf q_number q_lifted : Nat) (a_1 : Int32) (a_2 : Int32) (a_3 : Int32) (a_4 : Int32) (v_images : Int32) (v_base : Int32) (v_at : Int32) (v_size : Int32) (v_fault : Int32) (v_opened : Int32) (v_isSeen : Int32) (v_isKeeping : Int32) (v_bubbleMany : Int32) (v_bubbleMost : Int32) (v_bubbleCell : Int32) (v_bestShown : Int32) (v_traceMany : Int32) (v_who : Int32) (v_d : Nat → Int32) (v_found : Nat → Int32) (v_names : Nat → Int32) (o_r : Int32) (o_v_base : Int32) (o_v_at : Int32) (o_v_size : Int32) (o_v_fault : Int32) (o_v_opened : Int32) (o_v_isSeen : Int32) (o_v_found : Nat → Int32) (o_v_names : Nat → Int32) (h : f_X12_law a_1 a_2 a_3 a_4 v_base v_at v_size v_fault v_opened v_isSeen v_d v_found v_names = some (o_r, o_v_base, o_v_at, o_v_size, o_v_fault, o_v_opened, o_v_isSeen, o_v_found, o_v_names)) : gMI l yX12_law wsX12_law rm_X12_law D c [.ref q_this, .int a_1, .int a_2, .int a_3, .int a_4] [(q_this, .inr (12, [.ref q_d, .ref q_kept, .int v_images, .ref q_found, .ref q_aside, .int v_base, .int v_at, .int v_size, .int v_fault, .int v_opened, .int v_isSeen, .ref q_names, .ref q_seenKept, .ref q_movedKept, .int v_isKeeping, .int v_bubbleMany, .int v_bubbleMost, .int v_bubbleCell, .int v_bestShown, .ref q_traced, .int v_traceMany, .int v_who, .ref q_bitsOf, .ref q_sizeOf, .ref q_number, .ref q_lifted])), (q_d, .inl (c 0, 244, .inl v_d)), (q_found, .inl (c 0, 6, .inl v_found)), (q_names, .inl (c 0, 3, .inl v_names))] [(q_this, .inr (12, [.ref q_d, .ref q_kept, .int v_images, .ref q_found, .ref q_aside, .int o_v_base, .int o_v_at, .int o_v_size, .int o_v_fault, .int o_v_opened, .int o_v_isSeen, .ref q_names, .ref q_seenKept, .ref q_movedKept, .int v_isKeeping, .int v_bubbleMany, .int v_bubbleMost, .int v_bubbleCell, .int v_bestShown, .ref q_traced, .int v_traceMany, .int v_who, .ref q_bitsOf, .ref q_sizeOf, .ref q_number, .ref q_lifted])), (q_d, .inl (c 0, 244, .inl v_d)), (q_found, .inl (c 0, 6, .inl o_v_found)), (q_names, .inl (c 0, 3, .inl o_v_names))] o_r := by
  refine gMI_of (cc := cX12_law) (maxL := 5) (rt := (some .int)) (by decide +kernel) rfl (Nat.le_of_ble_eq_true rfl) ?_
  intro p e s m below meth co A hF hK hX hP hD hA hS ls hl
  obtain ⟨hx, hb, hr, hts, hown, hlocks, hml⟩ := id hF
  have hl : lv_has ls 5 [(0, .ref q_this), (1, .int a_1), (2, .int a_2), (3, .int a_3), (4, .int a_4)] := hl
  unfold f_X12_law at h
  refine lv_iload_n hx hb dX12_law_0 rfl (lv_at hl 1 rfl) ?_
  refine lv_i2l hx hb dX12_law_1 rfl ?_
  refine lv_lconst (v := 0) hx hb dX12_law_2 (by decide) ?_
  refine lv_lconst (v := 1) hx hb dX12_law_3 (by decide) ?_
  replace h := kb_ok h
  obtain ⟨r_2, hc_1, h⟩ := h
  refine gCallIr (isC := []) (wc := []) hP hD hS hA trivial (va_runS (rm := rm_X12_in) (ws := wsX12_in) (As := [.long ((a_1 : Int32).toInt64), .long 0, .long 1]) (rest := []) (gFix hF) (c_X12_in l D c ((a_1 : Int32).toInt64) 0 1 r_2 hc_1 s.heap.size) (va_cwS 3 hts gX12_law_X12_in rfl rfl rfl (by decide +kernel) ⟨Nat.le_of_ble_eq_true rfl, Nat.le_of_ble_eq_true rfl⟩) (gPreS (wc := []) (isC := []) hK hX hS hA hP hD trivial (by decide +kernel)) rfl rfl hl.1 rfl (lv_room (Nat.le_of_ble_eq_true rfl)) dX12_law_4 ⟨Nat.le_of_ble_eq_true rfl, Nat.le_of_ble_eq_true rfl⟩) (fun H locs hP hS => ?_)
  refine lv_if_eq (tgt := 22) hx hb dX12_law_7 (by decide) (fun c_3 => ?_) (fun c_3 => ?_)
  · replace h := it_t c_3 h
    refine lv_aload_n hx hb dX12_law_22 rfl (lv_at hl 0 rfl) ?_
    refine lv_iconst (v := 1) hx hb dX12_law_23 (by decide) ?_
    replace h := kb2_ok h
    obtain ⟨r_5, w_6, hc_4, h⟩ := h
    refine gCallI (isC := [0, 2]) (wc := [(q_this, .inr (12, [.ref q_d, .ref q_kept, .int v_images, .ref q_found, .ref q_aside, .int v_base, .int v_at, .int v_size, .int v_fault, .int v_opened, .int v_isSeen, .ref q_names, .ref q_seenKept, .ref q_movedKept, .int v_isKeeping, .int v_bubbleMany, .int v_bubbleMost, .int v_bubbleCell, .int v_bestShown, .ref q_traced, .int v_traceMany, .int v_who, .ref q_bitsOf, .ref q_sizeOf, .ref q_number, .ref q_lifted])), (q_found, .inl (c 0, 6, .inl v_found))]) (w1 := [(q_this, .inr (12, [.ref q_d, .ref q_kept, .int v_images, .ref q_found, .ref q_aside, .int v_base, .int v_at, .int v_size, .int v_fault, .int v_opened, .int v_isSeen, .ref q_names, .ref q_seenKept, .ref q_movedKept, .int v_isKeeping, .int v_bubbleMany, .int v_bubbleMost, .int v_bubbleCell, .int v_bestShown, .ref q_traced, .int v_traceMany, .int v_who, .ref q_bitsOf, .ref q_sizeOf, .ref q_number, .ref q_lifted])), (q_found, .inl (c 0, 6, .inl w_6))]) (ws2 := [(q_this, .inr (12, [.ref q_d, .ref q_kept, .int v_images, .ref q_found, .ref q_aside, .int v_base, .int v_at, .int v_size, .int v_fault, .int v_opened, .int v_isSeen, .ref q_names, .ref q_seenKept, .ref q_movedKept, .int v_isKeeping, .int v_bubbleMany, .int v_bubbleMost, .int v_bubbleCell, .int v_bestShown, .ref q_traced, .int v_traceMany, .int v_who, .ref q_bitsOf, .ref q_sizeOf, .ref q_number, .ref q_lifted])), (q_d, .inl (c 0, 244, .inl v_d)), (q_found, .inl (c 0, 6, .inl w_6)), (q_names, .inl (c 0, 3, .inl v_names))]) (ms := [(some 0), none, (some 1), none]) hP hD hS hA ⟨rfl, rfl, trivial⟩ (by decide +kernel) ⟨rfl, rfl, rfl, rfl, trivial⟩ (va_runV (rm := rm_X12_finds) (ws := wsX12_finds) (As := [.int 1]) (rest := []) (gFix hF) (c_X12_finds l D c q_this q_d q_kept q_found q_aside q_names q_seenKept q_movedKept q_traced q_bitsOf q_sizeOf q_number q_lifted 1 v_images v_base v_at v_size v_fault v_opened v_isSeen v_isKeeping v_bubbleMany v_bubbleMost v_bubbleCell v_bestShown v_traceMany v_who v_found r_5 w_6 hc_4 H.size) (cwV 1 hts gX12_law_X12_finds rfl rfl rfl (by decide +kernel) ⟨Nat.le_of_ble_eq_true rfl, Nat.le_of_ble_eq_true rfl⟩) (gPreV (wc := [(q_this, .inr (12, [.ref q_d, .ref q_kept, .int v_images, .ref q_found, .ref q_aside, .int v_base, .int v_at, .int v_size, .int v_fault, .int v_opened, .int v_isSeen, .ref q_names, .ref q_seenKept, .ref q_movedKept, .int v_isKeeping, .int v_bubbleMany, .int v_bubbleMost, .int v_bubbleCell, .int v_bestShown, .ref q_traced, .int v_traceMany, .int v_who, .ref q_bitsOf, .ref q_sizeOf, .ref q_number, .ref q_lifted])), (q_found, .inl (c 0, 6, .inl v_found))]) (q := (RX12, TX12, 26)) (ci := 12) (q0 := 0) (isC := [0, 2]) hK hX hS hA hP hD ⟨rfl, rfl, trivial⟩ (by decide +kernel) rfl rfl) rfl rfl hl.1 rfl (lv_room (Nat.le_of_ble_eq_true rfl)) dX12_law_24 ⟨Nat.le_of_ble_eq_true rfl, Nat.le_of_ble_eq_true rfl⟩) (fun H locs hP hD hS => ?_)
    replace h := so9 h
    obtain ⟨z0, z1, z2, z3, z4, z5, z6, z7, z8⟩ := h
    subst z0 z1 z2 z3 z4 z5 z6 z7 z8
    exact gIret hF hP hD hS rfl dX12_law_27
  · replace h := it_f c_3 h
    refine lv_aload_n hx hb dX12_law_10 rfl (lv_at hl 0 rfl) ?_
    refine lv_iload_n hx hb dX12_law_11 rfl (lv_at hl 1 rfl) ?_
    refine lv_iload_n hx hb dX12_law_12 rfl (lv_at hl 2 rfl) ?_
    refine lv_iload_n hx hb dX12_law_13 rfl (lv_at hl 3 rfl) ?_
    refine lv_iload hx hb dX12_law_14 (lv_at hl 4 rfl) ?_
    replace h := kb8_ok h
    obtain ⟨r_8, w_9, w_10, w_11, w_12, w_13, w_14, w_15, hc_7, h⟩ := h
    refine gCallI (isC := [0, 1, 3]) (wc := [(q_this, .inr (12, [.ref q_d, .ref q_kept, .int v_images, .ref q_found, .ref q_aside, .int v_base, .int v_at, .int v_size, .int v_fault, .int v_opened, .int v_isSeen, .ref q_names, .ref q_seenKept, .ref q_movedKept, .int v_isKeeping, .int v_bubbleMany, .int v_bubbleMost, .int v_bubbleCell, .int v_bestShown, .ref q_traced, .int v_traceMany, .int v_who, .ref q_bitsOf, .ref q_sizeOf, .ref q_number, .ref q_lifted])), (q_d, .inl (c 0, 244, .inl v_d)), (q_names, .inl (c 0, 3, .inl v_names))]) (w1 := [(q_this, .inr (12, [.ref q_d, .ref q_kept, .int v_images, .ref q_found, .ref q_aside, .int w_9, .int w_10, .int w_11, .int w_12, .int w_13, .int w_14, .ref q_names, .ref q_seenKept, .ref q_movedKept, .int v_isKeeping, .int v_bubbleMany, .int v_bubbleMost, .int v_bubbleCell, .int v_bestShown, .ref q_traced, .int v_traceMany, .int v_who, .ref q_bitsOf, .ref q_sizeOf, .ref q_number, .ref q_lifted])), (q_d, .inl (c 0, 244, .inl v_d)), (q_names, .inl (c 0, 3, .inl w_15))]) (ws2 := [(q_this, .inr (12, [.ref q_d, .ref q_kept, .int v_images, .ref q_found, .ref q_aside, .int w_9, .int w_10, .int w_11, .int w_12, .int w_13, .int w_14, .ref q_names, .ref q_seenKept, .ref q_movedKept, .int v_isKeeping, .int v_bubbleMany, .int v_bubbleMost, .int v_bubbleCell, .int v_bestShown, .ref q_traced, .int v_traceMany, .int v_who, .ref q_bitsOf, .ref q_sizeOf, .ref q_number, .ref q_lifted])), (q_d, .inl (c 0, 244, .inl v_d)), (q_found, .inl (c 0, 6, .inl v_found)), (q_names, .inl (c 0, 3, .inl w_15))]) (ms := [(some 0), (some 1), none, (some 2)]) hP hD hS hA ⟨rfl, rfl, rfl, trivial⟩ (by decide +kernel) ⟨rfl, rfl, rfl, rfl, trivial⟩ (va_runV (rm := rm_X12_textGives) (ws := wsX12_textGives) (As := [.int a_1, .int a_2, .int a_3, .int a_4]) (rest := []) (gFix hF) (c_X12_textGives l D c q_this q_d q_kept q_found q_aside q_names q_seenKept q_movedKept q_traced q_bitsOf q_sizeOf q_number q_lifted a_1 a_2 a_3 a_4 v_images v_base v_at v_size v_fault v_opened v_isSeen v_isKeeping v_bubbleMany v_bubbleMost v_bubbleCell v_bestShown v_traceMany v_who v_d v_names r_8 w_9 w_10 w_11 w_12 w_13 w_14 w_15 hc_7 H.size) (cwV 4 hts gX12_law_X12_textGives rfl rfl rfl (by decide +kernel) ⟨Nat.le_of_ble_eq_true rfl, Nat.le_of_ble_eq_true rfl⟩) (gPreV (wc := [(q_this, .inr (12, [.ref q_d, .ref q_kept, .int v_images, .ref q_found, .ref q_aside, .int v_base, .int v_at, .int v_size, .int v_fault, .int v_opened, .int v_isSeen, .ref q_names, .ref q_seenKept, .ref q_movedKept, .int v_isKeeping, .int v_bubbleMany, .int v_bubbleMost, .int v_bubbleCell, .int v_bestShown, .ref q_traced, .int v_traceMany, .int v_who, .ref q_bitsOf, .ref q_sizeOf, .ref q_number, .ref q_lifted])), (q_d, .inl (c 0, 244, .inl v_d)), (q_names, .inl (c 0, 3, .inl v_names))]) (q := (RX12, TX12, 26)) (ci := 12) (q0 := 0) (isC := [0, 1, 3]) hK hX hS hA hP hD ⟨rfl, rfl, rfl, trivial⟩ (by decide +kernel) rfl rfl) rfl rfl hl.1 rfl (lv_room (Nat.le_of_ble_eq_true rfl)) dX12_law_16 ⟨Nat.le_of_ble_eq_true rfl, Nat.le_of_ble_eq_true rfl⟩) (fun H locs hP hD hS => ?_)
    refine lv_goto (tgt := 27) hx hb dX12_law_19 (by decide) ?_
    replace h := so9 h
    obtain ⟨z0, z1, z2, z3, z4, z5, z6, z7, z8⟩ := h
    subst z0 z1 z2 z3 z4 z5 z6 z7 z8
    exact gIret hF hP hD hS rfl dX12_law_27
set_option maxRecDepth 20000 in
theorem in_X12_ran_X12 : ∀ w ∈ u_ws RX12 TX12 26, w ∈ wsX12_ran := by decide +kernel
def f_X12_ran (a_1 : Int32) (v_traceMany : Int32) (v_traced : Nat → Int32) : Option (Int32 × (Nat → Int32)) :=
  if 40 ≤ v_traceMany then
    some (v_traceMany, v_traced)
  else
    chi v_traceMany 40 <|
    nm (upd v_traced v_traceMany.toNatClampNeg a_1) fun w_3 =>
    nm (v_traceMany + 1 : Int32) fun t_4 =>
    some (t_4, w_3)

abbrev rm_X12_ran : Room := { frames := 0, cells := 0, slots := 0, locals := 0 }
set_option maxHeartbeats 4000000 in
set_option maxRecDepth 100000 in
theorem c_X12_ran (l : Launch) (D : va_G) (c : Nat → ClassId) (q_this q_d q_kept q_found q_aside q_names q_seenKept q_movedKept q_traced q_bitsOf q_sizeOf q_number q_lifted : Nat) (a_1 : Int32) (v_images : Int32) (v_base : Int32) (v_at : Int32) (v_size : Int32) (v_fault : Int32) (v_opened : Int32) (v_isSeen : Int32) (v_isKeeping : Int32) (v_bubbleMany : Int32) (v_bubbleMost : Int32) (v_bubbleCell : Int32) (v_bestShown : Int32) (v_traceMany : Int32) (v_who : Int32) (v_traced : Nat → Int32) (o_v_traceMany : Int32) (o_v_traced : Nat → Int32) (h : f_X12_ran a_1 v_traceMany v_traced = some (o_v_traceMany, o_v_traced)) : gMV l yX12_ran wsX12_ran rm_X12_ran D c [.ref q_this, .int a_1] [(q_this, .inr (12, [.ref q_d, .ref q_kept, .int v_images, .ref q_found, .ref q_aside, .int v_base, .int v_at, .int v_size, .int v_fault, .int v_opened, .int v_isSeen, .ref q_names, .ref q_seenKept, .ref q_movedKept, .int v_isKeeping, .int v_bubbleMany, .int v_bubbleMost, .int v_bubbleCell, .int v_bestShown, .ref q_traced, .int v_traceMany, .int v_who, .ref q_bitsOf, .ref q_sizeOf, .ref q_number, .ref q_lifted])), (q_traced, .inl (c 0, 40, .inl v_traced))] [(q_this, .inr (12, [.ref q_d, .ref q_kept, .int v_images, .ref q_found, .ref q_aside, .int v_base, .int v_at, .int v_size, .int v_fault, .int v_opened, .int v_isSeen, .ref q_names, .ref q_seenKept, .ref q_movedKept, .int v_isKeeping, .int v_bubbleMany, .int v_bubbleMost, .int v_bubbleCell, .int v_bestShown, .ref q_traced, .int o_v_traceMany, .int v_who, .ref q_bitsOf, .ref q_sizeOf, .ref q_number, .ref q_lifted])), (q_traced, .inl (c 0, 40, .inl o_v_traced))] := by
  refine gMV_of (cc := cX12_ran) (maxL := 2) (rt := none) (by decide +kernel) rfl (Nat.le_of_ble_eq_true rfl) ?_
  intro p e s m below meth co A hF hK hX hP hD hA hS ls hl
  obtain ⟨hx, hb, hr, hts, hown, hlocks, hml⟩ := id hF
  have hl : lv_has ls 2 [(0, .ref q_this), (1, .int a_1)] := hl
  unfold f_X12_ran at h
  refine lv_aload_n hx hb dX12_ran_0 rfl (lv_at hl 0 rfl) ?_
  refine va_get (D := D) (ci := 12) (v := .int v_traceMany) (C := RX12) (T := TX12) (N := 26) hx hb hts in_X12_ran_X12 hown hK.1 hP 0 rfl rfl 20 (by decide) (hts (.fieldLink RX12 259 "PaperBubblesModel" "traceMany" "I") (List.mem_of_getElem? (i := 1) rfl)) (fun _ h9 => h9) rfl dX12_ran_1 ?_
  refine lv_bipush (v := 40) hx hb dX12_ran_4 (by decide) ?_
  refine lv_icmp_ge (tgt := 29) hx hb dX12_ran_6 (by decide) (fun c_1 => ?_) (fun c_1 => ?_)
  · replace h := it_t c_1 h
    replace h := so2 h
    obtain ⟨z0, z1⟩ := h
    subst z0 z1
    exact gVret hF hP hD hS dX12_ran_29
  · replace h := it_f c_1 h
    refine lv_aload_n hx hb dX12_ran_9 rfl (lv_at hl 0 rfl) ?_
    refine va_get (D := D) (ci := 12) (v := .ref q_traced) (C := RX12) (T := TX12) (N := 26) hx hb hts in_X12_ran_X12 hown hK.1 hP 0 rfl rfl 19 (by decide) (hts (.fieldLink RX12 31 "PaperBubblesModel" "traced" "[I") (List.mem_of_getElem? (i := 2) rfl)) (fun _ h9 => h9) rfl dX12_ran_10 ?_
    refine lv_aload_n hx hb dX12_ran_13 rfl (lv_at hl 0 rfl) ?_
    refine va_get (D := D) (ci := 12) (v := .int v_traceMany) (C := RX12) (T := TX12) (N := 26) hx hb hts in_X12_ran_X12 hown hK.1 hP 0 rfl rfl 20 (by decide) (hts (.fieldLink RX12 259 "PaperBubblesModel" "traceMany" "I") (List.mem_of_getElem? (i := 1) rfl)) (fun _ h9 => h9) rfl dX12_ran_14 ?_
    refine lv_iload_n hx hb dX12_ran_17 rfl (lv_at hl 1 rfl) ?_
    replace h := chi_ok h
    obtain ⟨hi_2, h⟩ := h
    replace h := nm_ok h
    obtain ⟨w_3, ew_3, h⟩ := h
    refine va_iast hx hb hK.1 hP hD hS 1 0 rfl rfl hi_2 dX12_ran_18 (fun H locs hP hD hS => ?_)
    have hP : va_P D gcl [(q_this, .inr (12, [.ref q_d, .ref q_kept, .int v_images, .ref q_found, .ref q_aside, .int v_base, .int v_at, .int v_size, .int v_fault, .int v_opened, .int v_isSeen, .ref q_names, .ref q_seenKept, .ref q_movedKept, .int v_isKeeping, .int v_bubbleMany, .int v_bubbleMost, .int v_bubbleCell, .int v_bestShown, .ref q_traced, .int v_traceMany, .int v_who, .ref q_bitsOf, .ref q_sizeOf, .ref q_number, .ref q_lifted])), (q_traced, .inl (c 0, 40, .inl w_3))] H := by subst ew_3; exact hP
    have hD : va_D A [(q_this, .inr (12, [.ref q_d, .ref q_kept, .int v_images, .ref q_found, .ref q_aside, .int v_base, .int v_at, .int v_size, .int v_fault, .int v_opened, .int v_isSeen, .ref q_names, .ref q_seenKept, .ref q_movedKept, .int v_isKeeping, .int v_bubbleMany, .int v_bubbleMost, .int v_bubbleCell, .int v_bestShown, .ref q_traced, .int v_traceMany, .int v_who, .ref q_bitsOf, .ref q_sizeOf, .ref q_number, .ref q_lifted])), (q_traced, .inl (c 0, 40, .inl w_3))] := by subst ew_3; exact hD
    refine lv_aload_n hx hb dX12_ran_19 rfl (lv_at hl 0 rfl) ?_
    refine lv_dup hx hb dX12_ran_20 rfl ?_
    refine va_get (D := D) (ci := 12) (v := .int v_traceMany) (C := RX12) (T := TX12) (N := 26) hx hb hts in_X12_ran_X12 hown hK.1 hP 0 rfl rfl 20 (by decide) (hts (.fieldLink RX12 259 "PaperBubblesModel" "traceMany" "I") (List.mem_of_getElem? (i := 1) rfl)) (fun _ h9 => h9) rfl dX12_ran_21 ?_
    refine lv_iconst (v := 1) hx hb dX12_ran_24 (by decide) ?_
    refine lv_iadd hx hb dX12_ran_25 ?_
    replace h := nm_ok h
    obtain ⟨t_4, et_4, h⟩ := h
    refine gTop et_4 ?_
    refine va_put (D := D) (ci := 12) (v := .int t_4) (ty := .int) (C := RX12) (T := TX12) (N := 26) hx hb hts in_X12_ran_X12 tyX12 tyX12_ok nmX12 hown hK.1 hP hD hS 0 rfl rfl 20 (by decide) (hts (.fieldLink RX12 259 "PaperBubblesModel" "traceMany" "I") (List.mem_of_getElem? (i := 1) rfl)) (fun _ h9 => h9) rfl (by decide +kernel) rfl rfl (Nat.le_of_ble_eq_true rfl) dX12_ran_26 (fun H locs hP hD hS => ?_)
    have hP : va_P D gcl [(q_this, .inr (12, [.ref q_d, .ref q_kept, .int v_images, .ref q_found, .ref q_aside, .int v_base, .int v_at, .int v_size, .int v_fault, .int v_opened, .int v_isSeen, .ref q_names, .ref q_seenKept, .ref q_movedKept, .int v_isKeeping, .int v_bubbleMany, .int v_bubbleMost, .int v_bubbleCell, .int v_bestShown, .ref q_traced, .int t_4, .int v_who, .ref q_bitsOf, .ref q_sizeOf, .ref q_number, .ref q_lifted])), (q_traced, .inl (c 0, 40, .inl w_3))] H := hP
    have hD : va_D A [(q_this, .inr (12, [.ref q_d, .ref q_kept, .int v_images, .ref q_found, .ref q_aside, .int v_base, .int v_at, .int v_size, .int v_fault, .int v_opened, .int v_isSeen, .ref q_names, .ref q_seenKept, .ref q_movedKept, .int v_isKeeping, .int v_bubbleMany, .int v_bubbleMost, .int v_bubbleCell, .int v_bestShown, .ref q_traced, .int t_4, .int v_who, .ref q_bitsOf, .ref q_sizeOf, .ref q_number, .ref q_lifted])), (q_traced, .inl (c 0, 40, .inl w_3))] := hD
    replace h := so2 h
    obtain ⟨z0, z1⟩ := h
    subst z0 z1
    exact gVret hF hP hD hS dX12_ran_29
set_option maxRecDepth 20000 in
theorem in_X12_movesBy_X12 : ∀ w ∈ u_ws RX12 TX12 26, w ∈ wsX12_movesBy := by decide +kernel
def f_X12_movesBy (uu : Int32 → Int32 → Int32 → Int32 → (Nat → Int32) → Option (Int32 × Int32 × (Nat → Int32))) (a_1 : Int32) (a_2 : Int32) (v_traceMany : Int32) (v_who : Int32) (v_traced : Nat → Int32) : Option (Int32 × Int32 × (Nat → Int32)) :=
  if a_1 = 0 then
    kb2 (f_X12_ran 10 v_traceMany v_traced) fun w_3 w_4 =>
    some (a_2 + v_who, w_3, w_4)
  else
    if a_1 = 1 then
      kb2 (f_X12_ran 20 v_traceMany v_traced) fun w_7 w_8 =>
      kb (f_X12_above 1) fun r_10 =>
      kb3 (uu r_10 a_2 w_7 v_who w_8) fun r_12 w_13 w_14 =>
      some (r_12 * 3, w_13, w_14)
    else
      kb (f_X12_above a_1) fun r_16 =>
      kb3 (uu r_16 a_2 v_traceMany v_who v_traced) fun r_18 w_19 w_20 =>
      some (r_18, w_19, w_20)

abbrev rm_X12_movesBy (fr lo : Nat) : Room := { frames := fr + 1, cells := 0, slots := 0, locals := lo + 22 }
set_option maxHeartbeats 4000000 in
set_option maxRecDepth 100000 in
theorem c_X12_movesBy (l : Launch) (D : va_G) (c : Nat → ClassId) (uu : Int32 → Int32 → Int32 → Int32 → (Nat → Int32) → Option (Int32 × Int32 × (Nat → Int32))) (fr lo : Nat) (hu : ∀ (q_this q_d q_kept q_found q_aside q_names q_seenKept q_movedKept q_traced q_bitsOf q_sizeOf q_number q_lifted : Nat) (a_1 : Int32) (a_2 : Int32) (v_images : Int32) (v_base : Int32) (v_at : Int32) (v_size : Int32) (v_fault : Int32) (v_opened : Int32) (v_isSeen : Int32) (v_isKeeping : Int32) (v_bubbleMany : Int32) (v_bubbleMost : Int32) (v_bubbleCell : Int32) (v_bestShown : Int32) (v_traceMany : Int32) (v_who : Int32) (v_traced : Nat → Int32) (o_r : Int32) (o_v_traceMany : Int32) (o_v_traced : Nat → Int32), uu a_1 a_2 v_traceMany v_who v_traced = some (o_r, o_v_traceMany, o_v_traced) → gMI l yX12_movesBy wsX12_movesBy { frames := fr, cells := 0, slots := 0, locals := lo } D c [.ref q_this, .int a_1, .int a_2] [(q_this, .inr (12, [.ref q_d, .ref q_kept, .int v_images, .ref q_found, .ref q_aside, .int v_base, .int v_at, .int v_size, .int v_fault, .int v_opened, .int v_isSeen, .ref q_names, .ref q_seenKept, .ref q_movedKept, .int v_isKeeping, .int v_bubbleMany, .int v_bubbleMost, .int v_bubbleCell, .int v_bestShown, .ref q_traced, .int v_traceMany, .int v_who, .ref q_bitsOf, .ref q_sizeOf, .ref q_number, .ref q_lifted])), (q_traced, .inl (c 0, 40, .inl v_traced))] [(q_this, .inr (12, [.ref q_d, .ref q_kept, .int v_images, .ref q_found, .ref q_aside, .int v_base, .int v_at, .int v_size, .int v_fault, .int v_opened, .int v_isSeen, .ref q_names, .ref q_seenKept, .ref q_movedKept, .int v_isKeeping, .int v_bubbleMany, .int v_bubbleMost, .int v_bubbleCell, .int v_bestShown, .ref q_traced, .int o_v_traceMany, .int v_who, .ref q_bitsOf, .ref q_sizeOf, .ref q_number, .ref q_lifted])), (q_traced, .inl (c 0, 40, .inl o_v_traced))] o_r) (q_this q_d q_kept q_found q_aside q_names q_seenKept q_movedKept q_traced q_bitsOf q_sizeOf q_number q_lifted : Nat) (a_1 : Int32) (a_2 : Int32) (v_images : Int32) (v_base : Int32) (v_at : Int32) (v_size : Int32) (v_fault : Int32) (v_opened : Int32) (v_isSeen : Int32) (v_isKeeping : Int32) (v_bubbleMany : Int32) (v_bubbleMost : Int32) (v_bubbleCell : Int32) (v_bestShown : Int32) (v_traceMany : Int32) (v_who : Int32) (v_traced : Nat → Int32) (o_r : Int32) (o_v_traceMany : Int32) (o_v_traced : Nat → Int32) (h : f_X12_movesBy uu a_1 a_2 v_traceMany v_who v_traced = some (o_r, o_v_traceMany, o_v_traced)) : gMI l yX12_movesBy wsX12_movesBy (rm_X12_movesBy fr lo) D c [.ref q_this, .int a_1, .int a_2] [(q_this, .inr (12, [.ref q_d, .ref q_kept, .int v_images, .ref q_found, .ref q_aside, .int v_base, .int v_at, .int v_size, .int v_fault, .int v_opened, .int v_isSeen, .ref q_names, .ref q_seenKept, .ref q_movedKept, .int v_isKeeping, .int v_bubbleMany, .int v_bubbleMost, .int v_bubbleCell, .int v_bestShown, .ref q_traced, .int v_traceMany, .int v_who, .ref q_bitsOf, .ref q_sizeOf, .ref q_number, .ref q_lifted])), (q_traced, .inl (c 0, 40, .inl v_traced))] [(q_this, .inr (12, [.ref q_d, .ref q_kept, .int v_images, .ref q_found, .ref q_aside, .int v_base, .int v_at, .int v_size, .int v_fault, .int v_opened, .int v_isSeen, .ref q_names, .ref q_seenKept, .ref q_movedKept, .int v_isKeeping, .int v_bubbleMany, .int v_bubbleMost, .int v_bubbleCell, .int v_bestShown, .ref q_traced, .int o_v_traceMany, .int v_who, .ref q_bitsOf, .ref q_sizeOf, .ref q_number, .ref q_lifted])), (q_traced, .inl (c 0, 40, .inl o_v_traced))] o_r := by
  refine gMI_of (cc := cX12_movesBy) (maxL := 3) (rt := (some .int)) (by decide +kernel) rfl (Nat.le_of_ble_eq_true rfl) ?_
  intro p e s m below meth co A hF hK hX hP hD hA hS ls hl
  obtain ⟨hx, hb, hr, hts, hown, hlocks, hml⟩ := id hF
  have hl : lv_has ls 3 [(0, .ref q_this), (1, .int a_1), (2, .int a_2)] := hl
  unfold f_X12_movesBy at h
  refine lv_iload_n hx hb dX12_movesBy_0 rfl (lv_at hl 1 rfl) ?_
  by_cases c_1 : a_1 = 0
  · replace h := it_t c_1 h
    refine lv_lookup (x := a_1) (off := 27) (tgt := 28) hx hb dX12_movesBy_1 (by decide +kernel) (by rw [c_1]; rfl) (by decide) ?_
    refine lv_aload_n hx hb dX12_movesBy_28 rfl (lv_at hl 0 rfl) ?_
    refine lv_bipush (v := 10) hx hb dX12_movesBy_29 (by decide) ?_
    replace h := kb2_ok h
    obtain ⟨w_3, w_4, hc_2, h⟩ := h
    refine gCallV (isC := [0, 1]) (wc := [(q_this, .inr (12, [.ref q_d, .ref q_kept, .int v_images, .ref q_found, .ref q_aside, .int v_base, .int v_at, .int v_size, .int v_fault, .int v_opened, .int v_isSeen, .ref q_names, .ref q_seenKept, .ref q_movedKept, .int v_isKeeping, .int v_bubbleMany, .int v_bubbleMost, .int v_bubbleCell, .int v_bestShown, .ref q_traced, .int v_traceMany, .int v_who, .ref q_bitsOf, .ref q_sizeOf, .ref q_number, .ref q_lifted])), (q_traced, .inl (c 0, 40, .inl v_traced))]) (w1 := [(q_this, .inr (12, [.ref q_d, .ref q_kept, .int v_images, .ref q_found, .ref q_aside, .int v_base, .int v_at, .int v_size, .int v_fault, .int v_opened, .int v_isSeen, .ref q_names, .ref q_seenKept, .ref q_movedKept, .int v_isKeeping, .int v_bubbleMany, .int v_bubbleMost, .int v_bubbleCell, .int v_bestShown, .ref q_traced, .int w_3, .int v_who, .ref q_bitsOf, .ref q_sizeOf, .ref q_number, .ref q_lifted])), (q_traced, .inl (c 0, 40, .inl w_4))]) (ws2 := [(q_this, .inr (12, [.ref q_d, .ref q_kept, .int v_images, .ref q_found, .ref q_aside, .int v_base, .int v_at, .int v_size, .int v_fault, .int v_opened, .int v_isSeen, .ref q_names, .ref q_seenKept, .ref q_movedKept, .int v_isKeeping, .int v_bubbleMany, .int v_bubbleMost, .int v_bubbleCell, .int v_bestShown, .ref q_traced, .int w_3, .int v_who, .ref q_bitsOf, .ref q_sizeOf, .ref q_number, .ref q_lifted])), (q_traced, .inl (c 0, 40, .inl w_4))]) (ms := [(some 0), (some 1)]) hP hD hS hA ⟨rfl, rfl, trivial⟩ (by decide +kernel) ⟨rfl, rfl, trivial⟩ (va_runV (rm := rm_X12_ran) (ws := wsX12_ran) (As := [.int 10]) (rest := []) (gFix hF) (c_X12_ran l D c q_this q_d q_kept q_found q_aside q_names q_seenKept q_movedKept q_traced q_bitsOf q_sizeOf q_number q_lifted 10 v_images v_base v_at v_size v_fault v_opened v_isSeen v_isKeeping v_bubbleMany v_bubbleMost v_bubbleCell v_bestShown v_traceMany v_who v_traced w_3 w_4 hc_2 s.heap.size) (cwV 1 hts gX12_movesBy_X12_ran rfl rfl rfl (by decide +kernel) ⟨show (0) + 1 ≤ fr + 1 by omega, show 8 + (2 + 11) + (0) ≤ lo + 22 by omega⟩) (gPreV (wc := [(q_this, .inr (12, [.ref q_d, .ref q_kept, .int v_images, .ref q_found, .ref q_aside, .int v_base, .int v_at, .int v_size, .int v_fault, .int v_opened, .int v_isSeen, .ref q_names, .ref q_seenKept, .ref q_movedKept, .int v_isKeeping, .int v_bubbleMany, .int v_bubbleMost, .int v_bubbleCell, .int v_bestShown, .ref q_traced, .int v_traceMany, .int v_who, .ref q_bitsOf, .ref q_sizeOf, .ref q_number, .ref q_lifted])), (q_traced, .inl (c 0, 40, .inl v_traced))]) (q := (RX12, TX12, 26)) (ci := 12) (q0 := 0) (isC := [0, 1]) hK hX hS hA hP hD ⟨rfl, rfl, trivial⟩ (by decide +kernel) rfl rfl) rfl rfl hl.1 rfl (lv_room (Nat.le_of_ble_eq_true rfl)) dX12_movesBy_31 ⟨Nat.le_of_ble_eq_true rfl, Nat.le_of_ble_eq_true rfl⟩) (fun H locs hP hD hS => ?_)
    refine lv_iload_n hx hb dX12_movesBy_34 rfl (lv_at hl 2 rfl) ?_
    refine lv_aload_n hx hb dX12_movesBy_35 rfl (lv_at hl 0 rfl) ?_
    refine va_get (D := D) (ci := 12) (v := .int v_who) (C := RX12) (T := TX12) (N := 26) hx hb hts in_X12_movesBy_X12 hown hK.1 hP 0 rfl rfl 21 (by decide) (hts (.fieldLink RX12 262 "PaperBubblesModel" "who" "I") (List.mem_of_getElem? (i := 1) rfl)) (fun _ h9 => h9) rfl dX12_movesBy_36 ?_
    refine lv_iadd hx hb dX12_movesBy_39 ?_
    replace h := so3 h
    obtain ⟨z0, z1, z2⟩ := h
    subst z0 z1 z2
    exact gIret hF hP hD hS rfl dX12_movesBy_40
  · replace h := it_f c_1 h
    by_cases c_5 : a_1 = 1
    · replace h := it_t c_5 h
      refine lv_lookup (x := a_1) (off := 40) (tgt := 41) hx hb dX12_movesBy_1 (by decide +kernel) (by rw [c_5]; rfl) (by decide) ?_
      refine lv_aload_n hx hb dX12_movesBy_41 rfl (lv_at hl 0 rfl) ?_
      refine lv_bipush (v := 20) hx hb dX12_movesBy_42 (by decide) ?_
      replace h := kb2_ok h
      obtain ⟨w_7, w_8, hc_6, h⟩ := h
      refine gCallV (isC := [0, 1]) (wc := [(q_this, .inr (12, [.ref q_d, .ref q_kept, .int v_images, .ref q_found, .ref q_aside, .int v_base, .int v_at, .int v_size, .int v_fault, .int v_opened, .int v_isSeen, .ref q_names, .ref q_seenKept, .ref q_movedKept, .int v_isKeeping, .int v_bubbleMany, .int v_bubbleMost, .int v_bubbleCell, .int v_bestShown, .ref q_traced, .int v_traceMany, .int v_who, .ref q_bitsOf, .ref q_sizeOf, .ref q_number, .ref q_lifted])), (q_traced, .inl (c 0, 40, .inl v_traced))]) (w1 := [(q_this, .inr (12, [.ref q_d, .ref q_kept, .int v_images, .ref q_found, .ref q_aside, .int v_base, .int v_at, .int v_size, .int v_fault, .int v_opened, .int v_isSeen, .ref q_names, .ref q_seenKept, .ref q_movedKept, .int v_isKeeping, .int v_bubbleMany, .int v_bubbleMost, .int v_bubbleCell, .int v_bestShown, .ref q_traced, .int w_7, .int v_who, .ref q_bitsOf, .ref q_sizeOf, .ref q_number, .ref q_lifted])), (q_traced, .inl (c 0, 40, .inl w_8))]) (ws2 := [(q_this, .inr (12, [.ref q_d, .ref q_kept, .int v_images, .ref q_found, .ref q_aside, .int v_base, .int v_at, .int v_size, .int v_fault, .int v_opened, .int v_isSeen, .ref q_names, .ref q_seenKept, .ref q_movedKept, .int v_isKeeping, .int v_bubbleMany, .int v_bubbleMost, .int v_bubbleCell, .int v_bestShown, .ref q_traced, .int w_7, .int v_who, .ref q_bitsOf, .ref q_sizeOf, .ref q_number, .ref q_lifted])), (q_traced, .inl (c 0, 40, .inl w_8))]) (ms := [(some 0), (some 1)]) hP hD hS hA ⟨rfl, rfl, trivial⟩ (by decide +kernel) ⟨rfl, rfl, trivial⟩ (va_runV (rm := rm_X12_ran) (ws := wsX12_ran) (As := [.int 20]) (rest := []) (gFix hF) (c_X12_ran l D c q_this q_d q_kept q_found q_aside q_names q_seenKept q_movedKept q_traced q_bitsOf q_sizeOf q_number q_lifted 20 v_images v_base v_at v_size v_fault v_opened v_isSeen v_isKeeping v_bubbleMany v_bubbleMost v_bubbleCell v_bestShown v_traceMany v_who v_traced w_7 w_8 hc_6 s.heap.size) (cwV 1 hts gX12_movesBy_X12_ran rfl rfl rfl (by decide +kernel) ⟨show (0) + 1 ≤ fr + 1 by omega, show 8 + (2 + 11) + (0) ≤ lo + 22 by omega⟩) (gPreV (wc := [(q_this, .inr (12, [.ref q_d, .ref q_kept, .int v_images, .ref q_found, .ref q_aside, .int v_base, .int v_at, .int v_size, .int v_fault, .int v_opened, .int v_isSeen, .ref q_names, .ref q_seenKept, .ref q_movedKept, .int v_isKeeping, .int v_bubbleMany, .int v_bubbleMost, .int v_bubbleCell, .int v_bestShown, .ref q_traced, .int v_traceMany, .int v_who, .ref q_bitsOf, .ref q_sizeOf, .ref q_number, .ref q_lifted])), (q_traced, .inl (c 0, 40, .inl v_traced))]) (q := (RX12, TX12, 26)) (ci := 12) (q0 := 0) (isC := [0, 1]) hK hX hS hA hP hD ⟨rfl, rfl, trivial⟩ (by decide +kernel) rfl rfl) rfl rfl hl.1 rfl (lv_room (Nat.le_of_ble_eq_true rfl)) dX12_movesBy_44 ⟨Nat.le_of_ble_eq_true rfl, Nat.le_of_ble_eq_true rfl⟩) (fun H locs hP hD hS => ?_)
      refine lv_aload_n hx hb dX12_movesBy_47 rfl (lv_at hl 0 rfl) ?_
      refine lv_iconst (v := 1) hx hb dX12_movesBy_48 (by decide) ?_
      replace h := kb_ok h
      obtain ⟨r_10, hc_9, h⟩ := h
      refine gCallIr (isC := []) (wc := []) hP hD hS hA trivial (va_runS (rm := rm_X12_above) (ws := wsX12_above) (As := [.int 1]) (rest := [.ref q_this]) (gFix hF) (c_X12_above l D c 1 r_10 hc_9 H.size) (va_cwS 1 hts gX12_movesBy_X12_above rfl rfl rfl (by decide +kernel) ⟨show (0) + 1 ≤ fr + 1 by omega, show 8 + (1 + 11) + (0) ≤ lo + 22 by omega⟩) (gPreS (wc := []) (isC := []) hK hX hS hA hP hD trivial (by decide +kernel)) rfl rfl hl.1 rfl (lv_room (Nat.le_of_ble_eq_true rfl)) dX12_movesBy_49 ⟨Nat.le_of_ble_eq_true rfl, Nat.le_of_ble_eq_true rfl⟩) (fun H locs hP hS => ?_)
      refine lv_iload_n hx hb dX12_movesBy_52 rfl (lv_at hl 2 rfl) ?_
      replace h := kb3_ok h
      obtain ⟨r_12, w_13, w_14, hc_11, h⟩ := h
      refine gCallI (isC := [0, 1]) (wc := [(q_this, .inr (12, [.ref q_d, .ref q_kept, .int v_images, .ref q_found, .ref q_aside, .int v_base, .int v_at, .int v_size, .int v_fault, .int v_opened, .int v_isSeen, .ref q_names, .ref q_seenKept, .ref q_movedKept, .int v_isKeeping, .int v_bubbleMany, .int v_bubbleMost, .int v_bubbleCell, .int v_bestShown, .ref q_traced, .int w_7, .int v_who, .ref q_bitsOf, .ref q_sizeOf, .ref q_number, .ref q_lifted])), (q_traced, .inl (c 0, 40, .inl w_8))]) (w1 := [(q_this, .inr (12, [.ref q_d, .ref q_kept, .int v_images, .ref q_found, .ref q_aside, .int v_base, .int v_at, .int v_size, .int v_fault, .int v_opened, .int v_isSeen, .ref q_names, .ref q_seenKept, .ref q_movedKept, .int v_isKeeping, .int v_bubbleMany, .int v_bubbleMost, .int v_bubbleCell, .int v_bestShown, .ref q_traced, .int w_13, .int v_who, .ref q_bitsOf, .ref q_sizeOf, .ref q_number, .ref q_lifted])), (q_traced, .inl (c 0, 40, .inl w_14))]) (ws2 := [(q_this, .inr (12, [.ref q_d, .ref q_kept, .int v_images, .ref q_found, .ref q_aside, .int v_base, .int v_at, .int v_size, .int v_fault, .int v_opened, .int v_isSeen, .ref q_names, .ref q_seenKept, .ref q_movedKept, .int v_isKeeping, .int v_bubbleMany, .int v_bubbleMost, .int v_bubbleCell, .int v_bestShown, .ref q_traced, .int w_13, .int v_who, .ref q_bitsOf, .ref q_sizeOf, .ref q_number, .ref q_lifted])), (q_traced, .inl (c 0, 40, .inl w_14))]) (ms := [(some 0), (some 1)]) hP hD hS hA ⟨rfl, rfl, trivial⟩ (by decide +kernel) ⟨rfl, rfl, trivial⟩ (va_runV (rm := { frames := fr, cells := 0, slots := 0, locals := lo }) (ws := wsX12_movesBy) (As := [.int r_10, .int a_2]) (rest := []) (gFix hF) (hu q_this q_d q_kept q_found q_aside q_names q_seenKept q_movedKept q_traced q_bitsOf q_sizeOf q_number q_lifted r_10 a_2 v_images v_base v_at v_size v_fault v_opened v_isSeen v_isKeeping v_bubbleMany v_bubbleMost v_bubbleCell v_bestShown w_7 v_who w_8 r_12 w_13 w_14 hc_11 H.size) (cwV 2 hts gX12_movesBy_X12_movesBy rfl rfl rfl (by decide +kernel) ⟨show (fr) + 1 ≤ fr + 1 by omega, show 8 + (3 + 11) + (lo) ≤ lo + 22 by omega⟩) (gPreV (wc := [(q_this, .inr (12, [.ref q_d, .ref q_kept, .int v_images, .ref q_found, .ref q_aside, .int v_base, .int v_at, .int v_size, .int v_fault, .int v_opened, .int v_isSeen, .ref q_names, .ref q_seenKept, .ref q_movedKept, .int v_isKeeping, .int v_bubbleMany, .int v_bubbleMost, .int v_bubbleCell, .int v_bestShown, .ref q_traced, .int w_7, .int v_who, .ref q_bitsOf, .ref q_sizeOf, .ref q_number, .ref q_lifted])), (q_traced, .inl (c 0, 40, .inl w_8))]) (q := (RX12, TX12, 26)) (ci := 12) (q0 := 0) (isC := [0, 1]) hK hX hS hA hP hD ⟨rfl, rfl, trivial⟩ (by decide +kernel) rfl rfl) rfl rfl hl.1 rfl (lv_room (Nat.le_of_ble_eq_true rfl)) dX12_movesBy_53 ⟨Nat.le_of_ble_eq_true rfl, Nat.le_of_ble_eq_true rfl⟩) (fun H locs hP hD hS => ?_)
      refine lv_iconst (v := 3) hx hb dX12_movesBy_56 (by decide) ?_
      refine lv_imul hx hb dX12_movesBy_57 ?_
      replace h := so3 h
      obtain ⟨z0, z1, z2⟩ := h
      subst z0 z1 z2
      exact gIret hF hP hD hS rfl dX12_movesBy_58
    · replace h := it_f c_5 h
      refine lv_lookup (x := a_1) (off := 58) (tgt := 59) hx hb dX12_movesBy_1 (by decide +kernel) (by have q0 := gNe (z := 0) (by decide) c_1; have q1 := gNe (z := 1) (by decide) c_5; simp [Op.lookupswitch.offset, Ne.symm q0, Ne.symm q1]) (by decide) ?_
      refine lv_aload_n hx hb dX12_movesBy_59 rfl (lv_at hl 0 rfl) ?_
      refine lv_iload_n hx hb dX12_movesBy_60 rfl (lv_at hl 1 rfl) ?_
      replace h := kb_ok h
      obtain ⟨r_16, hc_15, h⟩ := h
      refine gCallIr (isC := []) (wc := []) hP hD hS hA trivial (va_runS (rm := rm_X12_above) (ws := wsX12_above) (As := [.int a_1]) (rest := [.ref q_this]) (gFix hF) (c_X12_above l D c a_1 r_16 hc_15 s.heap.size) (va_cwS 1 hts gX12_movesBy_X12_above rfl rfl rfl (by decide +kernel) ⟨show (0) + 1 ≤ fr + 1 by omega, show 8 + (1 + 11) + (0) ≤ lo + 22 by omega⟩) (gPreS (wc := []) (isC := []) hK hX hS hA hP hD trivial (by decide +kernel)) rfl rfl hl.1 rfl (lv_room (Nat.le_of_ble_eq_true rfl)) dX12_movesBy_61 ⟨Nat.le_of_ble_eq_true rfl, Nat.le_of_ble_eq_true rfl⟩) (fun H locs hP hS => ?_)
      refine lv_iload_n hx hb dX12_movesBy_64 rfl (lv_at hl 2 rfl) ?_
      replace h := kb3_ok h
      obtain ⟨r_18, w_19, w_20, hc_17, h⟩ := h
      refine gCallI (isC := [0, 1]) (wc := [(q_this, .inr (12, [.ref q_d, .ref q_kept, .int v_images, .ref q_found, .ref q_aside, .int v_base, .int v_at, .int v_size, .int v_fault, .int v_opened, .int v_isSeen, .ref q_names, .ref q_seenKept, .ref q_movedKept, .int v_isKeeping, .int v_bubbleMany, .int v_bubbleMost, .int v_bubbleCell, .int v_bestShown, .ref q_traced, .int v_traceMany, .int v_who, .ref q_bitsOf, .ref q_sizeOf, .ref q_number, .ref q_lifted])), (q_traced, .inl (c 0, 40, .inl v_traced))]) (w1 := [(q_this, .inr (12, [.ref q_d, .ref q_kept, .int v_images, .ref q_found, .ref q_aside, .int v_base, .int v_at, .int v_size, .int v_fault, .int v_opened, .int v_isSeen, .ref q_names, .ref q_seenKept, .ref q_movedKept, .int v_isKeeping, .int v_bubbleMany, .int v_bubbleMost, .int v_bubbleCell, .int v_bestShown, .ref q_traced, .int w_19, .int v_who, .ref q_bitsOf, .ref q_sizeOf, .ref q_number, .ref q_lifted])), (q_traced, .inl (c 0, 40, .inl w_20))]) (ws2 := [(q_this, .inr (12, [.ref q_d, .ref q_kept, .int v_images, .ref q_found, .ref q_aside, .int v_base, .int v_at, .int v_size, .int v_fault, .int v_opened, .int v_isSeen, .ref q_names, .ref q_seenKept, .ref q_movedKept, .int v_isKeeping, .int v_bubbleMany, .int v_bubbleMost, .int v_bubbleCell, .int v_bestShown, .ref q_traced, .int w_19, .int v_who, .ref q_bitsOf, .ref q_sizeOf, .ref q_number, .ref q_lifted])), (q_traced, .inl (c 0, 40, .inl w_20))]) (ms := [(some 0), (some 1)]) hP hD hS hA ⟨rfl, rfl, trivial⟩ (by decide +kernel) ⟨rfl, rfl, trivial⟩ (va_runV (rm := { frames := fr, cells := 0, slots := 0, locals := lo }) (ws := wsX12_movesBy) (As := [.int r_16, .int a_2]) (rest := []) (gFix hF) (hu q_this q_d q_kept q_found q_aside q_names q_seenKept q_movedKept q_traced q_bitsOf q_sizeOf q_number q_lifted r_16 a_2 v_images v_base v_at v_size v_fault v_opened v_isSeen v_isKeeping v_bubbleMany v_bubbleMost v_bubbleCell v_bestShown v_traceMany v_who v_traced r_18 w_19 w_20 hc_17 H.size) (cwV 2 hts gX12_movesBy_X12_movesBy rfl rfl rfl (by decide +kernel) ⟨show (fr) + 1 ≤ fr + 1 by omega, show 8 + (3 + 11) + (lo) ≤ lo + 22 by omega⟩) (gPreV (wc := [(q_this, .inr (12, [.ref q_d, .ref q_kept, .int v_images, .ref q_found, .ref q_aside, .int v_base, .int v_at, .int v_size, .int v_fault, .int v_opened, .int v_isSeen, .ref q_names, .ref q_seenKept, .ref q_movedKept, .int v_isKeeping, .int v_bubbleMany, .int v_bubbleMost, .int v_bubbleCell, .int v_bestShown, .ref q_traced, .int v_traceMany, .int v_who, .ref q_bitsOf, .ref q_sizeOf, .ref q_number, .ref q_lifted])), (q_traced, .inl (c 0, 40, .inl v_traced))]) (q := (RX12, TX12, 26)) (ci := 12) (q0 := 0) (isC := [0, 1]) hK hX hS hA hP hD ⟨rfl, rfl, trivial⟩ (by decide +kernel) rfl rfl) rfl rfl hl.1 rfl (lv_room (Nat.le_of_ble_eq_true rfl)) dX12_movesBy_65 ⟨Nat.le_of_ble_eq_true rfl, Nat.le_of_ble_eq_true rfl⟩) (fun H locs hP hD hS => ?_)
      replace h := so3 h
      obtain ⟨z0, z1, z2⟩ := h
      subst z0 z1 z2
      exact gIret hF hP hD hS rfl dX12_movesBy_68
def f_X12_movesByN : Nat → Int32 → Int32 → Int32 → Int32 → (Nat → Int32) → Option (Int32 × Int32 × (Nat → Int32))
  | 0, _, _, _, _, _ => none
  | n + 1, a_1, a_2, v_traceMany, v_who, v_traced => f_X12_movesBy (f_X12_movesByN n) a_1 a_2 v_traceMany v_who v_traced
theorem c_X12_movesByN (l : Launch) (D : va_G) (c : Nat → ClassId) (n : Nat) : ∀ (q_this q_d q_kept q_found q_aside q_names q_seenKept q_movedKept q_traced q_bitsOf q_sizeOf q_number q_lifted : Nat) (a_1 : Int32) (a_2 : Int32) (v_images : Int32) (v_base : Int32) (v_at : Int32) (v_size : Int32) (v_fault : Int32) (v_opened : Int32) (v_isSeen : Int32) (v_isKeeping : Int32) (v_bubbleMany : Int32) (v_bubbleMost : Int32) (v_bubbleCell : Int32) (v_bestShown : Int32) (v_traceMany : Int32) (v_who : Int32) (v_traced : Nat → Int32) (o_r : Int32) (o_v_traceMany : Int32) (o_v_traced : Nat → Int32), f_X12_movesByN n a_1 a_2 v_traceMany v_who v_traced = some (o_r, o_v_traceMany, o_v_traced) → gMI l yX12_movesBy wsX12_movesBy { frames := 1 * n, cells := 0, slots := 0, locals := 22 * n } D c [.ref q_this, .int a_1, .int a_2] [(q_this, .inr (12, [.ref q_d, .ref q_kept, .int v_images, .ref q_found, .ref q_aside, .int v_base, .int v_at, .int v_size, .int v_fault, .int v_opened, .int v_isSeen, .ref q_names, .ref q_seenKept, .ref q_movedKept, .int v_isKeeping, .int v_bubbleMany, .int v_bubbleMost, .int v_bubbleCell, .int v_bestShown, .ref q_traced, .int v_traceMany, .int v_who, .ref q_bitsOf, .ref q_sizeOf, .ref q_number, .ref q_lifted])), (q_traced, .inl (c 0, 40, .inl v_traced))] [(q_this, .inr (12, [.ref q_d, .ref q_kept, .int v_images, .ref q_found, .ref q_aside, .int v_base, .int v_at, .int v_size, .int v_fault, .int v_opened, .int v_isSeen, .ref q_names, .ref q_seenKept, .ref q_movedKept, .int v_isKeeping, .int v_bubbleMany, .int v_bubbleMost, .int v_bubbleCell, .int v_bestShown, .ref q_traced, .int o_v_traceMany, .int v_who, .ref q_bitsOf, .ref q_sizeOf, .ref q_number, .ref q_lifted])), (q_traced, .inl (c 0, 40, .inl o_v_traced))] o_r := by
  induction n with
  | zero => intros; exact no_ok (by assumption)
  | succ n ih =>
    intro q_this q_d q_kept q_found q_aside q_names q_seenKept q_movedKept q_traced q_bitsOf q_sizeOf q_number q_lifted a_1 a_2 v_images v_base v_at v_size v_fault v_opened v_isSeen v_isKeeping v_bubbleMany v_bubbleMost v_bubbleCell v_bestShown v_traceMany v_who v_traced o_r o_v_traceMany o_v_traced h
    exact c_X12_movesBy l D c (f_X12_movesByN n) (1 * n) (22 * n) ih q_this q_d q_kept q_found q_aside q_names q_seenKept q_movedKept q_traced q_bitsOf q_sizeOf q_number q_lifted a_1 a_2 v_images v_base v_at v_size v_fault v_opened v_isSeen v_isKeeping v_bubbleMany v_bubbleMost v_bubbleCell v_bestShown v_traceMany v_who v_traced o_r o_v_traceMany o_v_traced h

set_option maxRecDepth 20000 in
theorem in_X12_own_X12 : ∀ w ∈ u_ws RX12 TX12 26, w ∈ wsX12_own := by decide +kernel
def f_X12_own (v_who : Int32) (v_d : Nat → Int32) : Option (Int32) :=
  kb (f_X12_kindOf v_who v_d) fun r_2 =>
  some r_2

abbrev rm_X12_own : Room := { frames := 1, cells := 0, slots := 0, locals := 21 }
set_option maxHeartbeats 4000000 in
set_option maxRecDepth 100000 in
theorem c_X12_own (l : Launch) (D : va_G) (c : Nat → ClassId) (q_this q_d q_kept q_found q_aside q_names q_seenKept q_movedKept q_traced q_bitsOf q_sizeOf q_number q_lifted : Nat) (v_images : Int32) (v_base : Int32) (v_at : Int32) (v_size : Int32) (v_fault : Int32) (v_opened : Int32) (v_isSeen : Int32) (v_isKeeping : Int32) (v_bubbleMany : Int32) (v_bubbleMost : Int32) (v_bubbleCell : Int32) (v_bestShown : Int32) (v_traceMany : Int32) (v_who : Int32) (v_d : Nat → Int32) (o_r : Int32) (h : f_X12_own v_who v_d = some o_r) : gMI l yX12_own wsX12_own rm_X12_own D c [.ref q_this] [(q_this, .inr (12, [.ref q_d, .ref q_kept, .int v_images, .ref q_found, .ref q_aside, .int v_base, .int v_at, .int v_size, .int v_fault, .int v_opened, .int v_isSeen, .ref q_names, .ref q_seenKept, .ref q_movedKept, .int v_isKeeping, .int v_bubbleMany, .int v_bubbleMost, .int v_bubbleCell, .int v_bestShown, .ref q_traced, .int v_traceMany, .int v_who, .ref q_bitsOf, .ref q_sizeOf, .ref q_number, .ref q_lifted])), (q_d, .inl (c 0, 244, .inl v_d))] [(q_this, .inr (12, [.ref q_d, .ref q_kept, .int v_images, .ref q_found, .ref q_aside, .int v_base, .int v_at, .int v_size, .int v_fault, .int v_opened, .int v_isSeen, .ref q_names, .ref q_seenKept, .ref q_movedKept, .int v_isKeeping, .int v_bubbleMany, .int v_bubbleMost, .int v_bubbleCell, .int v_bestShown, .ref q_traced, .int v_traceMany, .int v_who, .ref q_bitsOf, .ref q_sizeOf, .ref q_number, .ref q_lifted])), (q_d, .inl (c 0, 244, .inl v_d))] o_r := by
  refine gMI_of (cc := cX12_own) (maxL := 1) (rt := (some .int)) (by decide +kernel) rfl (Nat.le_of_ble_eq_true rfl) ?_
  intro p e s m below meth co A hF hK hX hP hD hA hS ls hl
  obtain ⟨hx, hb, hr, hts, hown, hlocks, hml⟩ := id hF
  have hl : lv_has ls 1 [(0, .ref q_this)] := hl
  unfold f_X12_own at h
  refine lv_aload_n hx hb dX12_own_0 rfl (lv_at hl 0 rfl) ?_
  refine lv_aload_n hx hb dX12_own_1 rfl (lv_at hl 0 rfl) ?_
  refine va_get (D := D) (ci := 12) (v := .int v_who) (C := RX12) (T := TX12) (N := 26) hx hb hts in_X12_own_X12 hown hK.1 hP 0 rfl rfl 21 (by decide) (hts (.fieldLink RX12 262 "PaperBubblesModel" "who" "I") (List.mem_of_getElem? (i := 1) rfl)) (fun _ h9 => h9) rfl dX12_own_2 ?_
  replace h := kb_ok h
  obtain ⟨r_2, hc_1, h⟩ := h
  refine gCallIr (isC := [0, 1]) (wc := [(q_this, .inr (12, [.ref q_d, .ref q_kept, .int v_images, .ref q_found, .ref q_aside, .int v_base, .int v_at, .int v_size, .int v_fault, .int v_opened, .int v_isSeen, .ref q_names, .ref q_seenKept, .ref q_movedKept, .int v_isKeeping, .int v_bubbleMany, .int v_bubbleMost, .int v_bubbleCell, .int v_bestShown, .ref q_traced, .int v_traceMany, .int v_who, .ref q_bitsOf, .ref q_sizeOf, .ref q_number, .ref q_lifted])), (q_d, .inl (c 0, 244, .inl v_d))]) hP hD hS hA ⟨rfl, rfl, trivial⟩ (va_runV (rm := rm_X12_kindOf) (ws := wsX12_kindOf) (As := [.int v_who]) (rest := []) (gFix hF) (c_X12_kindOf l D c q_this q_d q_kept q_found q_aside q_names q_seenKept q_movedKept q_traced q_bitsOf q_sizeOf q_number q_lifted v_who v_images v_base v_at v_size v_fault v_opened v_isSeen v_isKeeping v_bubbleMany v_bubbleMost v_bubbleCell v_bestShown v_traceMany v_who v_d r_2 hc_1 s.heap.size) (cwV 1 hts gX12_own_X12_kindOf rfl rfl rfl (by decide +kernel) ⟨Nat.le_of_ble_eq_true rfl, Nat.le_of_ble_eq_true rfl⟩) (gPreV (wc := [(q_this, .inr (12, [.ref q_d, .ref q_kept, .int v_images, .ref q_found, .ref q_aside, .int v_base, .int v_at, .int v_size, .int v_fault, .int v_opened, .int v_isSeen, .ref q_names, .ref q_seenKept, .ref q_movedKept, .int v_isKeeping, .int v_bubbleMany, .int v_bubbleMost, .int v_bubbleCell, .int v_bestShown, .ref q_traced, .int v_traceMany, .int v_who, .ref q_bitsOf, .ref q_sizeOf, .ref q_number, .ref q_lifted])), (q_d, .inl (c 0, 244, .inl v_d))]) (q := (RX12, TX12, 26)) (ci := 12) (q0 := 0) (isC := [0, 1]) hK hX hS hA hP hD ⟨rfl, rfl, trivial⟩ (by decide +kernel) rfl rfl) rfl rfl hl.1 rfl (lv_room (Nat.le_of_ble_eq_true rfl)) dX12_own_5 ⟨Nat.le_of_ble_eq_true rfl, Nat.le_of_ble_eq_true rfl⟩) (fun H locs hP hS => ?_)
  replace h := so1 h
  subst h
  exact gIret hF hP hD hS rfl dX12_own_8
set_option maxRecDepth 20000 in
theorem in_X12_tearsBy_X12 : ∀ w ∈ u_ws RX12 TX12 26, w ∈ wsX12_tearsBy := by decide +kernel
def f_X12_tearsBy (uu : Int32 → Int32 → Int32 → Int32 → (Nat → Int32) → (Nat → Int32) → Option (Int32 × Int32 × (Nat → Int32))) (a_1 : Int32) (a_2 : Int32) (v_traceMany : Int32) (v_who : Int32) (v_d : Nat → Int32) (v_traced : Nat → Int32) : Option (Int32 × Int32 × (Nat → Int32)) :=
  if a_1 = 0 then
    kb2 (f_X12_ran 12 v_traceMany v_traced) fun w_3 w_4 =>
    kb (f_X12_numberOf v_who v_d) fun r_6 =>
    some (a_2 - r_6, w_3, w_4)
  else
    if a_1 = 3 then
      kb2 (f_X12_ran 40 v_traceMany v_traced) fun w_9 w_10 =>
      kb (f_X12_above 3) fun r_12 =>
      kb3 (uu r_12 a_2 w_9 v_who v_d w_10) fun r_14 w_15 w_16 =>
      some (-r_14, w_15, w_16)
    else
      if a_1 = 6 then
        kb2 (f_X12_ran 70 v_traceMany v_traced) fun w_19 w_20 =>
        kb (f_X12_above 6) fun r_22 =>
        kb3 (uu r_22 a_2 w_19 v_who v_d w_20) fun r_24 w_25 w_26 =>
        some (r_24 ^^^ v_who, w_25, w_26)
      else
        kb (f_X12_above a_1) fun r_28 =>
        kb3 (uu r_28 a_2 v_traceMany v_who v_d v_traced) fun r_30 w_31 w_32 =>
        some (r_30, w_31, w_32)

abbrev rm_X12_tearsBy (fr lo : Nat) : Room := { frames := fr + 1, cells := 0, slots := 0, locals := lo + 22 }
set_option maxHeartbeats 4000000 in
set_option maxRecDepth 100000 in
theorem c_X12_tearsBy (l : Launch) (D : va_G) (c : Nat → ClassId) (uu : Int32 → Int32 → Int32 → Int32 → (Nat → Int32) → (Nat → Int32) → Option (Int32 × Int32 × (Nat → Int32))) (fr lo : Nat) (hu : ∀ (q_this q_d q_kept q_found q_aside q_names q_seenKept q_movedKept q_traced q_bitsOf q_sizeOf q_number q_lifted : Nat) (a_1 : Int32) (a_2 : Int32) (v_images : Int32) (v_base : Int32) (v_at : Int32) (v_size : Int32) (v_fault : Int32) (v_opened : Int32) (v_isSeen : Int32) (v_isKeeping : Int32) (v_bubbleMany : Int32) (v_bubbleMost : Int32) (v_bubbleCell : Int32) (v_bestShown : Int32) (v_traceMany : Int32) (v_who : Int32) (v_d : Nat → Int32) (v_traced : Nat → Int32) (o_r : Int32) (o_v_traceMany : Int32) (o_v_traced : Nat → Int32), uu a_1 a_2 v_traceMany v_who v_d v_traced = some (o_r, o_v_traceMany, o_v_traced) → gMI l yX12_tearsBy wsX12_tearsBy { frames := fr, cells := 0, slots := 0, locals := lo } D c [.ref q_this, .int a_1, .int a_2] [(q_this, .inr (12, [.ref q_d, .ref q_kept, .int v_images, .ref q_found, .ref q_aside, .int v_base, .int v_at, .int v_size, .int v_fault, .int v_opened, .int v_isSeen, .ref q_names, .ref q_seenKept, .ref q_movedKept, .int v_isKeeping, .int v_bubbleMany, .int v_bubbleMost, .int v_bubbleCell, .int v_bestShown, .ref q_traced, .int v_traceMany, .int v_who, .ref q_bitsOf, .ref q_sizeOf, .ref q_number, .ref q_lifted])), (q_d, .inl (c 0, 244, .inl v_d)), (q_traced, .inl (c 0, 40, .inl v_traced))] [(q_this, .inr (12, [.ref q_d, .ref q_kept, .int v_images, .ref q_found, .ref q_aside, .int v_base, .int v_at, .int v_size, .int v_fault, .int v_opened, .int v_isSeen, .ref q_names, .ref q_seenKept, .ref q_movedKept, .int v_isKeeping, .int v_bubbleMany, .int v_bubbleMost, .int v_bubbleCell, .int v_bestShown, .ref q_traced, .int o_v_traceMany, .int v_who, .ref q_bitsOf, .ref q_sizeOf, .ref q_number, .ref q_lifted])), (q_d, .inl (c 0, 244, .inl v_d)), (q_traced, .inl (c 0, 40, .inl o_v_traced))] o_r) (q_this q_d q_kept q_found q_aside q_names q_seenKept q_movedKept q_traced q_bitsOf q_sizeOf q_number q_lifted : Nat) (a_1 : Int32) (a_2 : Int32) (v_images : Int32) (v_base : Int32) (v_at : Int32) (v_size : Int32) (v_fault : Int32) (v_opened : Int32) (v_isSeen : Int32) (v_isKeeping : Int32) (v_bubbleMany : Int32) (v_bubbleMost : Int32) (v_bubbleCell : Int32) (v_bestShown : Int32) (v_traceMany : Int32) (v_who : Int32) (v_d : Nat → Int32) (v_traced : Nat → Int32) (o_r : Int32) (o_v_traceMany : Int32) (o_v_traced : Nat → Int32) (h : f_X12_tearsBy uu a_1 a_2 v_traceMany v_who v_d v_traced = some (o_r, o_v_traceMany, o_v_traced)) : gMI l yX12_tearsBy wsX12_tearsBy (rm_X12_tearsBy fr lo) D c [.ref q_this, .int a_1, .int a_2] [(q_this, .inr (12, [.ref q_d, .ref q_kept, .int v_images, .ref q_found, .ref q_aside, .int v_base, .int v_at, .int v_size, .int v_fault, .int v_opened, .int v_isSeen, .ref q_names, .ref q_seenKept, .ref q_movedKept, .int v_isKeeping, .int v_bubbleMany, .int v_bubbleMost, .int v_bubbleCell, .int v_bestShown, .ref q_traced, .int v_traceMany, .int v_who, .ref q_bitsOf, .ref q_sizeOf, .ref q_number, .ref q_lifted])), (q_d, .inl (c 0, 244, .inl v_d)), (q_traced, .inl (c 0, 40, .inl v_traced))] [(q_this, .inr (12, [.ref q_d, .ref q_kept, .int v_images, .ref q_found, .ref q_aside, .int v_base, .int v_at, .int v_size, .int v_fault, .int v_opened, .int v_isSeen, .ref q_names, .ref q_seenKept, .ref q_movedKept, .int v_isKeeping, .int v_bubbleMany, .int v_bubbleMost, .int v_bubbleCell, .int v_bestShown, .ref q_traced, .int o_v_traceMany, .int v_who, .ref q_bitsOf, .ref q_sizeOf, .ref q_number, .ref q_lifted])), (q_d, .inl (c 0, 244, .inl v_d)), (q_traced, .inl (c 0, 40, .inl o_v_traced))] o_r := by
  refine gMI_of (cc := cX12_tearsBy) (maxL := 3) (rt := (some .int)) (by decide +kernel) rfl (Nat.le_of_ble_eq_true rfl) ?_
  intro p e s m below meth co A hF hK hX hP hD hA hS ls hl
  obtain ⟨hx, hb, hr, hts, hown, hlocks, hml⟩ := id hF
  have hl : lv_has ls 3 [(0, .ref q_this), (1, .int a_1), (2, .int a_2)] := hl
  unfold f_X12_tearsBy at h
  refine lv_iload_n hx hb dX12_tearsBy_0 rfl (lv_at hl 1 rfl) ?_
  by_cases c_1 : a_1 = 0
  · replace h := it_t c_1 h
    refine lv_lookup (x := a_1) (off := 35) (tgt := 36) hx hb dX12_tearsBy_1 (by decide +kernel) (by rw [c_1]; rfl) (by decide) ?_
    refine lv_aload_n hx hb dX12_tearsBy_36 rfl (lv_at hl 0 rfl) ?_
    refine lv_bipush (v := 12) hx hb dX12_tearsBy_37 (by decide) ?_
    replace h := kb2_ok h
    obtain ⟨w_3, w_4, hc_2, h⟩ := h
    refine gCallV (isC := [0, 2]) (wc := [(q_this, .inr (12, [.ref q_d, .ref q_kept, .int v_images, .ref q_found, .ref q_aside, .int v_base, .int v_at, .int v_size, .int v_fault, .int v_opened, .int v_isSeen, .ref q_names, .ref q_seenKept, .ref q_movedKept, .int v_isKeeping, .int v_bubbleMany, .int v_bubbleMost, .int v_bubbleCell, .int v_bestShown, .ref q_traced, .int v_traceMany, .int v_who, .ref q_bitsOf, .ref q_sizeOf, .ref q_number, .ref q_lifted])), (q_traced, .inl (c 0, 40, .inl v_traced))]) (w1 := [(q_this, .inr (12, [.ref q_d, .ref q_kept, .int v_images, .ref q_found, .ref q_aside, .int v_base, .int v_at, .int v_size, .int v_fault, .int v_opened, .int v_isSeen, .ref q_names, .ref q_seenKept, .ref q_movedKept, .int v_isKeeping, .int v_bubbleMany, .int v_bubbleMost, .int v_bubbleCell, .int v_bestShown, .ref q_traced, .int w_3, .int v_who, .ref q_bitsOf, .ref q_sizeOf, .ref q_number, .ref q_lifted])), (q_traced, .inl (c 0, 40, .inl w_4))]) (ws2 := [(q_this, .inr (12, [.ref q_d, .ref q_kept, .int v_images, .ref q_found, .ref q_aside, .int v_base, .int v_at, .int v_size, .int v_fault, .int v_opened, .int v_isSeen, .ref q_names, .ref q_seenKept, .ref q_movedKept, .int v_isKeeping, .int v_bubbleMany, .int v_bubbleMost, .int v_bubbleCell, .int v_bestShown, .ref q_traced, .int w_3, .int v_who, .ref q_bitsOf, .ref q_sizeOf, .ref q_number, .ref q_lifted])), (q_d, .inl (c 0, 244, .inl v_d)), (q_traced, .inl (c 0, 40, .inl w_4))]) (ms := [(some 0), none, (some 1)]) hP hD hS hA ⟨rfl, rfl, trivial⟩ (by decide +kernel) ⟨rfl, rfl, rfl, trivial⟩ (va_runV (rm := rm_X12_ran) (ws := wsX12_ran) (As := [.int 12]) (rest := []) (gFix hF) (c_X12_ran l D c q_this q_d q_kept q_found q_aside q_names q_seenKept q_movedKept q_traced q_bitsOf q_sizeOf q_number q_lifted 12 v_images v_base v_at v_size v_fault v_opened v_isSeen v_isKeeping v_bubbleMany v_bubbleMost v_bubbleCell v_bestShown v_traceMany v_who v_traced w_3 w_4 hc_2 s.heap.size) (cwV 1 hts gX12_tearsBy_X12_ran rfl rfl rfl (by decide +kernel) ⟨show (0) + 1 ≤ fr + 1 by omega, show 8 + (2 + 11) + (0) ≤ lo + 22 by omega⟩) (gPreV (wc := [(q_this, .inr (12, [.ref q_d, .ref q_kept, .int v_images, .ref q_found, .ref q_aside, .int v_base, .int v_at, .int v_size, .int v_fault, .int v_opened, .int v_isSeen, .ref q_names, .ref q_seenKept, .ref q_movedKept, .int v_isKeeping, .int v_bubbleMany, .int v_bubbleMost, .int v_bubbleCell, .int v_bestShown, .ref q_traced, .int v_traceMany, .int v_who, .ref q_bitsOf, .ref q_sizeOf, .ref q_number, .ref q_lifted])), (q_traced, .inl (c 0, 40, .inl v_traced))]) (q := (RX12, TX12, 26)) (ci := 12) (q0 := 0) (isC := [0, 2]) hK hX hS hA hP hD ⟨rfl, rfl, trivial⟩ (by decide +kernel) rfl rfl) rfl rfl hl.1 rfl (lv_room (Nat.le_of_ble_eq_true rfl)) dX12_tearsBy_39 ⟨Nat.le_of_ble_eq_true rfl, Nat.le_of_ble_eq_true rfl⟩) (fun H locs hP hD hS => ?_)
    refine lv_iload_n hx hb dX12_tearsBy_42 rfl (lv_at hl 2 rfl) ?_
    refine lv_aload_n hx hb dX12_tearsBy_43 rfl (lv_at hl 0 rfl) ?_
    refine lv_aload_n hx hb dX12_tearsBy_44 rfl (lv_at hl 0 rfl) ?_
    refine va_get (D := D) (ci := 12) (v := .int v_who) (C := RX12) (T := TX12) (N := 26) hx hb hts in_X12_tearsBy_X12 hown hK.1 hP 0 rfl rfl 21 (by decide) (hts (.fieldLink RX12 262 "PaperBubblesModel" "who" "I") (List.mem_of_getElem? (i := 1) rfl)) (fun _ h9 => h9) rfl dX12_tearsBy_45 ?_
    replace h := kb_ok h
    obtain ⟨r_6, hc_5, h⟩ := h
    refine gCallIr (isC := [0, 1]) (wc := [(q_this, .inr (12, [.ref q_d, .ref q_kept, .int v_images, .ref q_found, .ref q_aside, .int v_base, .int v_at, .int v_size, .int v_fault, .int v_opened, .int v_isSeen, .ref q_names, .ref q_seenKept, .ref q_movedKept, .int v_isKeeping, .int v_bubbleMany, .int v_bubbleMost, .int v_bubbleCell, .int v_bestShown, .ref q_traced, .int w_3, .int v_who, .ref q_bitsOf, .ref q_sizeOf, .ref q_number, .ref q_lifted])), (q_d, .inl (c 0, 244, .inl v_d))]) hP hD hS hA ⟨rfl, rfl, trivial⟩ (va_runV (rm := rm_X12_numberOf) (ws := wsX12_numberOf) (As := [.int v_who]) (rest := [.int a_2]) (gFix hF) (c_X12_numberOf l D c q_this q_d q_kept q_found q_aside q_names q_seenKept q_movedKept q_traced q_bitsOf q_sizeOf q_number q_lifted v_who v_images v_base v_at v_size v_fault v_opened v_isSeen v_isKeeping v_bubbleMany v_bubbleMost v_bubbleCell v_bestShown w_3 v_who v_d r_6 hc_5 H.size) (cwV 1 hts gX12_tearsBy_X12_numberOf rfl rfl rfl (by decide +kernel) ⟨show (0) + 1 ≤ fr + 1 by omega, show 8 + (2 + 11) + (0) ≤ lo + 22 by omega⟩) (gPreV (wc := [(q_this, .inr (12, [.ref q_d, .ref q_kept, .int v_images, .ref q_found, .ref q_aside, .int v_base, .int v_at, .int v_size, .int v_fault, .int v_opened, .int v_isSeen, .ref q_names, .ref q_seenKept, .ref q_movedKept, .int v_isKeeping, .int v_bubbleMany, .int v_bubbleMost, .int v_bubbleCell, .int v_bestShown, .ref q_traced, .int w_3, .int v_who, .ref q_bitsOf, .ref q_sizeOf, .ref q_number, .ref q_lifted])), (q_d, .inl (c 0, 244, .inl v_d))]) (q := (RX12, TX12, 26)) (ci := 12) (q0 := 0) (isC := [0, 1]) hK hX hS hA hP hD ⟨rfl, rfl, trivial⟩ (by decide +kernel) rfl rfl) rfl rfl hl.1 rfl (lv_room (Nat.le_of_ble_eq_true rfl)) dX12_tearsBy_48 ⟨Nat.le_of_ble_eq_true rfl, Nat.le_of_ble_eq_true rfl⟩) (fun H locs hP hS => ?_)
    refine lv_isub hx hb dX12_tearsBy_51 ?_
    replace h := so3 h
    obtain ⟨z0, z1, z2⟩ := h
    subst z0 z1 z2
    exact gIret hF hP hD hS rfl dX12_tearsBy_52
  · replace h := it_f c_1 h
    by_cases c_7 : a_1 = 3
    · replace h := it_t c_7 h
      refine lv_lookup (x := a_1) (off := 52) (tgt := 53) hx hb dX12_tearsBy_1 (by decide +kernel) (by rw [c_7]; rfl) (by decide) ?_
      refine lv_aload_n hx hb dX12_tearsBy_53 rfl (lv_at hl 0 rfl) ?_
      refine lv_bipush (v := 40) hx hb dX12_tearsBy_54 (by decide) ?_
      replace h := kb2_ok h
      obtain ⟨w_9, w_10, hc_8, h⟩ := h
      refine gCallV (isC := [0, 2]) (wc := [(q_this, .inr (12, [.ref q_d, .ref q_kept, .int v_images, .ref q_found, .ref q_aside, .int v_base, .int v_at, .int v_size, .int v_fault, .int v_opened, .int v_isSeen, .ref q_names, .ref q_seenKept, .ref q_movedKept, .int v_isKeeping, .int v_bubbleMany, .int v_bubbleMost, .int v_bubbleCell, .int v_bestShown, .ref q_traced, .int v_traceMany, .int v_who, .ref q_bitsOf, .ref q_sizeOf, .ref q_number, .ref q_lifted])), (q_traced, .inl (c 0, 40, .inl v_traced))]) (w1 := [(q_this, .inr (12, [.ref q_d, .ref q_kept, .int v_images, .ref q_found, .ref q_aside, .int v_base, .int v_at, .int v_size, .int v_fault, .int v_opened, .int v_isSeen, .ref q_names, .ref q_seenKept, .ref q_movedKept, .int v_isKeeping, .int v_bubbleMany, .int v_bubbleMost, .int v_bubbleCell, .int v_bestShown, .ref q_traced, .int w_9, .int v_who, .ref q_bitsOf, .ref q_sizeOf, .ref q_number, .ref q_lifted])), (q_traced, .inl (c 0, 40, .inl w_10))]) (ws2 := [(q_this, .inr (12, [.ref q_d, .ref q_kept, .int v_images, .ref q_found, .ref q_aside, .int v_base, .int v_at, .int v_size, .int v_fault, .int v_opened, .int v_isSeen, .ref q_names, .ref q_seenKept, .ref q_movedKept, .int v_isKeeping, .int v_bubbleMany, .int v_bubbleMost, .int v_bubbleCell, .int v_bestShown, .ref q_traced, .int w_9, .int v_who, .ref q_bitsOf, .ref q_sizeOf, .ref q_number, .ref q_lifted])), (q_d, .inl (c 0, 244, .inl v_d)), (q_traced, .inl (c 0, 40, .inl w_10))]) (ms := [(some 0), none, (some 1)]) hP hD hS hA ⟨rfl, rfl, trivial⟩ (by decide +kernel) ⟨rfl, rfl, rfl, trivial⟩ (va_runV (rm := rm_X12_ran) (ws := wsX12_ran) (As := [.int 40]) (rest := []) (gFix hF) (c_X12_ran l D c q_this q_d q_kept q_found q_aside q_names q_seenKept q_movedKept q_traced q_bitsOf q_sizeOf q_number q_lifted 40 v_images v_base v_at v_size v_fault v_opened v_isSeen v_isKeeping v_bubbleMany v_bubbleMost v_bubbleCell v_bestShown v_traceMany v_who v_traced w_9 w_10 hc_8 s.heap.size) (cwV 1 hts gX12_tearsBy_X12_ran rfl rfl rfl (by decide +kernel) ⟨show (0) + 1 ≤ fr + 1 by omega, show 8 + (2 + 11) + (0) ≤ lo + 22 by omega⟩) (gPreV (wc := [(q_this, .inr (12, [.ref q_d, .ref q_kept, .int v_images, .ref q_found, .ref q_aside, .int v_base, .int v_at, .int v_size, .int v_fault, .int v_opened, .int v_isSeen, .ref q_names, .ref q_seenKept, .ref q_movedKept, .int v_isKeeping, .int v_bubbleMany, .int v_bubbleMost, .int v_bubbleCell, .int v_bestShown, .ref q_traced, .int v_traceMany, .int v_who, .ref q_bitsOf, .ref q_sizeOf, .ref q_number, .ref q_lifted])), (q_traced, .inl (c 0, 40, .inl v_traced))]) (q := (RX12, TX12, 26)) (ci := 12) (q0 := 0) (isC := [0, 2]) hK hX hS hA hP hD ⟨rfl, rfl, trivial⟩ (by decide +kernel) rfl rfl) rfl rfl hl.1 rfl (lv_room (Nat.le_of_ble_eq_true rfl)) dX12_tearsBy_56 ⟨Nat.le_of_ble_eq_true rfl, Nat.le_of_ble_eq_true rfl⟩) (fun H locs hP hD hS => ?_)
      refine lv_aload_n hx hb dX12_tearsBy_59 rfl (lv_at hl 0 rfl) ?_
      refine lv_iconst (v := 3) hx hb dX12_tearsBy_60 (by decide) ?_
      replace h := kb_ok h
      obtain ⟨r_12, hc_11, h⟩ := h
      refine gCallIr (isC := []) (wc := []) hP hD hS hA trivial (va_runS (rm := rm_X12_above) (ws := wsX12_above) (As := [.int 3]) (rest := [.ref q_this]) (gFix hF) (c_X12_above l D c 3 r_12 hc_11 H.size) (va_cwS 1 hts gX12_tearsBy_X12_above rfl rfl rfl (by decide +kernel) ⟨show (0) + 1 ≤ fr + 1 by omega, show 8 + (1 + 11) + (0) ≤ lo + 22 by omega⟩) (gPreS (wc := []) (isC := []) hK hX hS hA hP hD trivial (by decide +kernel)) rfl rfl hl.1 rfl (lv_room (Nat.le_of_ble_eq_true rfl)) dX12_tearsBy_61 ⟨Nat.le_of_ble_eq_true rfl, Nat.le_of_ble_eq_true rfl⟩) (fun H locs hP hS => ?_)
      refine lv_iload_n hx hb dX12_tearsBy_64 rfl (lv_at hl 2 rfl) ?_
      replace h := kb3_ok h
      obtain ⟨r_14, w_15, w_16, hc_13, h⟩ := h
      refine gCallI (isC := [0, 1, 2]) (wc := [(q_this, .inr (12, [.ref q_d, .ref q_kept, .int v_images, .ref q_found, .ref q_aside, .int v_base, .int v_at, .int v_size, .int v_fault, .int v_opened, .int v_isSeen, .ref q_names, .ref q_seenKept, .ref q_movedKept, .int v_isKeeping, .int v_bubbleMany, .int v_bubbleMost, .int v_bubbleCell, .int v_bestShown, .ref q_traced, .int w_9, .int v_who, .ref q_bitsOf, .ref q_sizeOf, .ref q_number, .ref q_lifted])), (q_d, .inl (c 0, 244, .inl v_d)), (q_traced, .inl (c 0, 40, .inl w_10))]) (w1 := [(q_this, .inr (12, [.ref q_d, .ref q_kept, .int v_images, .ref q_found, .ref q_aside, .int v_base, .int v_at, .int v_size, .int v_fault, .int v_opened, .int v_isSeen, .ref q_names, .ref q_seenKept, .ref q_movedKept, .int v_isKeeping, .int v_bubbleMany, .int v_bubbleMost, .int v_bubbleCell, .int v_bestShown, .ref q_traced, .int w_15, .int v_who, .ref q_bitsOf, .ref q_sizeOf, .ref q_number, .ref q_lifted])), (q_d, .inl (c 0, 244, .inl v_d)), (q_traced, .inl (c 0, 40, .inl w_16))]) (ws2 := [(q_this, .inr (12, [.ref q_d, .ref q_kept, .int v_images, .ref q_found, .ref q_aside, .int v_base, .int v_at, .int v_size, .int v_fault, .int v_opened, .int v_isSeen, .ref q_names, .ref q_seenKept, .ref q_movedKept, .int v_isKeeping, .int v_bubbleMany, .int v_bubbleMost, .int v_bubbleCell, .int v_bestShown, .ref q_traced, .int w_15, .int v_who, .ref q_bitsOf, .ref q_sizeOf, .ref q_number, .ref q_lifted])), (q_d, .inl (c 0, 244, .inl v_d)), (q_traced, .inl (c 0, 40, .inl w_16))]) (ms := [(some 0), (some 1), (some 2)]) hP hD hS hA ⟨rfl, rfl, rfl, trivial⟩ (by decide +kernel) ⟨rfl, rfl, rfl, trivial⟩ (va_runV (rm := { frames := fr, cells := 0, slots := 0, locals := lo }) (ws := wsX12_tearsBy) (As := [.int r_12, .int a_2]) (rest := []) (gFix hF) (hu q_this q_d q_kept q_found q_aside q_names q_seenKept q_movedKept q_traced q_bitsOf q_sizeOf q_number q_lifted r_12 a_2 v_images v_base v_at v_size v_fault v_opened v_isSeen v_isKeeping v_bubbleMany v_bubbleMost v_bubbleCell v_bestShown w_9 v_who v_d w_10 r_14 w_15 w_16 hc_13 H.size) (cwV 2 hts gX12_tearsBy_X12_tearsBy rfl rfl rfl (by decide +kernel) ⟨show (fr) + 1 ≤ fr + 1 by omega, show 8 + (3 + 11) + (lo) ≤ lo + 22 by omega⟩) (gPreV (wc := [(q_this, .inr (12, [.ref q_d, .ref q_kept, .int v_images, .ref q_found, .ref q_aside, .int v_base, .int v_at, .int v_size, .int v_fault, .int v_opened, .int v_isSeen, .ref q_names, .ref q_seenKept, .ref q_movedKept, .int v_isKeeping, .int v_bubbleMany, .int v_bubbleMost, .int v_bubbleCell, .int v_bestShown, .ref q_traced, .int w_9, .int v_who, .ref q_bitsOf, .ref q_sizeOf, .ref q_number, .ref q_lifted])), (q_d, .inl (c 0, 244, .inl v_d)), (q_traced, .inl (c 0, 40, .inl w_10))]) (q := (RX12, TX12, 26)) (ci := 12) (q0 := 0) (isC := [0, 1, 2]) hK hX hS hA hP hD ⟨rfl, rfl, rfl, trivial⟩ (by decide +kernel) rfl rfl) rfl rfl hl.1 rfl (lv_room (Nat.le_of_ble_eq_true rfl)) dX12_tearsBy_65 ⟨Nat.le_of_ble_eq_true rfl, Nat.le_of_ble_eq_true rfl⟩) (fun H locs hP hD hS => ?_)
      refine lv_ineg hx hb dX12_tearsBy_68 ?_
      replace h := so3 h
      obtain ⟨z0, z1, z2⟩ := h
      subst z0 z1 z2
      exact gIret hF hP hD hS rfl dX12_tearsBy_69
    · replace h := it_f c_7 h
      by_cases c_17 : a_1 = 6
      · replace h := it_t c_17 h
        refine lv_lookup (x := a_1) (off := 69) (tgt := 70) hx hb dX12_tearsBy_1 (by decide +kernel) (by rw [c_17]; rfl) (by decide) ?_
        refine lv_aload_n hx hb dX12_tearsBy_70 rfl (lv_at hl 0 rfl) ?_
        refine lv_bipush (v := 70) hx hb dX12_tearsBy_71 (by decide) ?_
        replace h := kb2_ok h
        obtain ⟨w_19, w_20, hc_18, h⟩ := h
        refine gCallV (isC := [0, 2]) (wc := [(q_this, .inr (12, [.ref q_d, .ref q_kept, .int v_images, .ref q_found, .ref q_aside, .int v_base, .int v_at, .int v_size, .int v_fault, .int v_opened, .int v_isSeen, .ref q_names, .ref q_seenKept, .ref q_movedKept, .int v_isKeeping, .int v_bubbleMany, .int v_bubbleMost, .int v_bubbleCell, .int v_bestShown, .ref q_traced, .int v_traceMany, .int v_who, .ref q_bitsOf, .ref q_sizeOf, .ref q_number, .ref q_lifted])), (q_traced, .inl (c 0, 40, .inl v_traced))]) (w1 := [(q_this, .inr (12, [.ref q_d, .ref q_kept, .int v_images, .ref q_found, .ref q_aside, .int v_base, .int v_at, .int v_size, .int v_fault, .int v_opened, .int v_isSeen, .ref q_names, .ref q_seenKept, .ref q_movedKept, .int v_isKeeping, .int v_bubbleMany, .int v_bubbleMost, .int v_bubbleCell, .int v_bestShown, .ref q_traced, .int w_19, .int v_who, .ref q_bitsOf, .ref q_sizeOf, .ref q_number, .ref q_lifted])), (q_traced, .inl (c 0, 40, .inl w_20))]) (ws2 := [(q_this, .inr (12, [.ref q_d, .ref q_kept, .int v_images, .ref q_found, .ref q_aside, .int v_base, .int v_at, .int v_size, .int v_fault, .int v_opened, .int v_isSeen, .ref q_names, .ref q_seenKept, .ref q_movedKept, .int v_isKeeping, .int v_bubbleMany, .int v_bubbleMost, .int v_bubbleCell, .int v_bestShown, .ref q_traced, .int w_19, .int v_who, .ref q_bitsOf, .ref q_sizeOf, .ref q_number, .ref q_lifted])), (q_d, .inl (c 0, 244, .inl v_d)), (q_traced, .inl (c 0, 40, .inl w_20))]) (ms := [(some 0), none, (some 1)]) hP hD hS hA ⟨rfl, rfl, trivial⟩ (by decide +kernel) ⟨rfl, rfl, rfl, trivial⟩ (va_runV (rm := rm_X12_ran) (ws := wsX12_ran) (As := [.int 70]) (rest := []) (gFix hF) (c_X12_ran l D c q_this q_d q_kept q_found q_aside q_names q_seenKept q_movedKept q_traced q_bitsOf q_sizeOf q_number q_lifted 70 v_images v_base v_at v_size v_fault v_opened v_isSeen v_isKeeping v_bubbleMany v_bubbleMost v_bubbleCell v_bestShown v_traceMany v_who v_traced w_19 w_20 hc_18 s.heap.size) (cwV 1 hts gX12_tearsBy_X12_ran rfl rfl rfl (by decide +kernel) ⟨show (0) + 1 ≤ fr + 1 by omega, show 8 + (2 + 11) + (0) ≤ lo + 22 by omega⟩) (gPreV (wc := [(q_this, .inr (12, [.ref q_d, .ref q_kept, .int v_images, .ref q_found, .ref q_aside, .int v_base, .int v_at, .int v_size, .int v_fault, .int v_opened, .int v_isSeen, .ref q_names, .ref q_seenKept, .ref q_movedKept, .int v_isKeeping, .int v_bubbleMany, .int v_bubbleMost, .int v_bubbleCell, .int v_bestShown, .ref q_traced, .int v_traceMany, .int v_who, .ref q_bitsOf, .ref q_sizeOf, .ref q_number, .ref q_lifted])), (q_traced, .inl (c 0, 40, .inl v_traced))]) (q := (RX12, TX12, 26)) (ci := 12) (q0 := 0) (isC := [0, 2]) hK hX hS hA hP hD ⟨rfl, rfl, trivial⟩ (by decide +kernel) rfl rfl) rfl rfl hl.1 rfl (lv_room (Nat.le_of_ble_eq_true rfl)) dX12_tearsBy_73 ⟨Nat.le_of_ble_eq_true rfl, Nat.le_of_ble_eq_true rfl⟩) (fun H locs hP hD hS => ?_)
        refine lv_aload_n hx hb dX12_tearsBy_76 rfl (lv_at hl 0 rfl) ?_
        refine lv_bipush (v := 6) hx hb dX12_tearsBy_77 (by decide) ?_
        replace h := kb_ok h
        obtain ⟨r_22, hc_21, h⟩ := h
        refine gCallIr (isC := []) (wc := []) hP hD hS hA trivial (va_runS (rm := rm_X12_above) (ws := wsX12_above) (As := [.int 6]) (rest := [.ref q_this]) (gFix hF) (c_X12_above l D c 6 r_22 hc_21 H.size) (va_cwS 1 hts gX12_tearsBy_X12_above rfl rfl rfl (by decide +kernel) ⟨show (0) + 1 ≤ fr + 1 by omega, show 8 + (1 + 11) + (0) ≤ lo + 22 by omega⟩) (gPreS (wc := []) (isC := []) hK hX hS hA hP hD trivial (by decide +kernel)) rfl rfl hl.1 rfl (lv_room (Nat.le_of_ble_eq_true rfl)) dX12_tearsBy_79 ⟨Nat.le_of_ble_eq_true rfl, Nat.le_of_ble_eq_true rfl⟩) (fun H locs hP hS => ?_)
        refine lv_iload_n hx hb dX12_tearsBy_82 rfl (lv_at hl 2 rfl) ?_
        replace h := kb3_ok h
        obtain ⟨r_24, w_25, w_26, hc_23, h⟩ := h
        refine gCallI (isC := [0, 1, 2]) (wc := [(q_this, .inr (12, [.ref q_d, .ref q_kept, .int v_images, .ref q_found, .ref q_aside, .int v_base, .int v_at, .int v_size, .int v_fault, .int v_opened, .int v_isSeen, .ref q_names, .ref q_seenKept, .ref q_movedKept, .int v_isKeeping, .int v_bubbleMany, .int v_bubbleMost, .int v_bubbleCell, .int v_bestShown, .ref q_traced, .int w_19, .int v_who, .ref q_bitsOf, .ref q_sizeOf, .ref q_number, .ref q_lifted])), (q_d, .inl (c 0, 244, .inl v_d)), (q_traced, .inl (c 0, 40, .inl w_20))]) (w1 := [(q_this, .inr (12, [.ref q_d, .ref q_kept, .int v_images, .ref q_found, .ref q_aside, .int v_base, .int v_at, .int v_size, .int v_fault, .int v_opened, .int v_isSeen, .ref q_names, .ref q_seenKept, .ref q_movedKept, .int v_isKeeping, .int v_bubbleMany, .int v_bubbleMost, .int v_bubbleCell, .int v_bestShown, .ref q_traced, .int w_25, .int v_who, .ref q_bitsOf, .ref q_sizeOf, .ref q_number, .ref q_lifted])), (q_d, .inl (c 0, 244, .inl v_d)), (q_traced, .inl (c 0, 40, .inl w_26))]) (ws2 := [(q_this, .inr (12, [.ref q_d, .ref q_kept, .int v_images, .ref q_found, .ref q_aside, .int v_base, .int v_at, .int v_size, .int v_fault, .int v_opened, .int v_isSeen, .ref q_names, .ref q_seenKept, .ref q_movedKept, .int v_isKeeping, .int v_bubbleMany, .int v_bubbleMost, .int v_bubbleCell, .int v_bestShown, .ref q_traced, .int w_25, .int v_who, .ref q_bitsOf, .ref q_sizeOf, .ref q_number, .ref q_lifted])), (q_d, .inl (c 0, 244, .inl v_d)), (q_traced, .inl (c 0, 40, .inl w_26))]) (ms := [(some 0), (some 1), (some 2)]) hP hD hS hA ⟨rfl, rfl, rfl, trivial⟩ (by decide +kernel) ⟨rfl, rfl, rfl, trivial⟩ (va_runV (rm := { frames := fr, cells := 0, slots := 0, locals := lo }) (ws := wsX12_tearsBy) (As := [.int r_22, .int a_2]) (rest := []) (gFix hF) (hu q_this q_d q_kept q_found q_aside q_names q_seenKept q_movedKept q_traced q_bitsOf q_sizeOf q_number q_lifted r_22 a_2 v_images v_base v_at v_size v_fault v_opened v_isSeen v_isKeeping v_bubbleMany v_bubbleMost v_bubbleCell v_bestShown w_19 v_who v_d w_20 r_24 w_25 w_26 hc_23 H.size) (cwV 2 hts gX12_tearsBy_X12_tearsBy rfl rfl rfl (by decide +kernel) ⟨show (fr) + 1 ≤ fr + 1 by omega, show 8 + (3 + 11) + (lo) ≤ lo + 22 by omega⟩) (gPreV (wc := [(q_this, .inr (12, [.ref q_d, .ref q_kept, .int v_images, .ref q_found, .ref q_aside, .int v_base, .int v_at, .int v_size, .int v_fault, .int v_opened, .int v_isSeen, .ref q_names, .ref q_seenKept, .ref q_movedKept, .int v_isKeeping, .int v_bubbleMany, .int v_bubbleMost, .int v_bubbleCell, .int v_bestShown, .ref q_traced, .int w_19, .int v_who, .ref q_bitsOf, .ref q_sizeOf, .ref q_number, .ref q_lifted])), (q_d, .inl (c 0, 244, .inl v_d)), (q_traced, .inl (c 0, 40, .inl w_20))]) (q := (RX12, TX12, 26)) (ci := 12) (q0 := 0) (isC := [0, 1, 2]) hK hX hS hA hP hD ⟨rfl, rfl, rfl, trivial⟩ (by decide +kernel) rfl rfl) rfl rfl hl.1 rfl (lv_room (Nat.le_of_ble_eq_true rfl)) dX12_tearsBy_83 ⟨Nat.le_of_ble_eq_true rfl, Nat.le_of_ble_eq_true rfl⟩) (fun H locs hP hD hS => ?_)
        refine lv_aload_n hx hb dX12_tearsBy_86 rfl (lv_at hl 0 rfl) ?_
        refine va_get (D := D) (ci := 12) (v := .int v_who) (C := RX12) (T := TX12) (N := 26) hx hb hts in_X12_tearsBy_X12 hown hK.1 hP 0 rfl rfl 21 (by decide) (hts (.fieldLink RX12 262 "PaperBubblesModel" "who" "I") (List.mem_of_getElem? (i := 1) rfl)) (fun _ h9 => h9) rfl dX12_tearsBy_87 ?_
        refine lv_ixor hx hb dX12_tearsBy_90 ?_
        replace h := so3 h
        obtain ⟨z0, z1, z2⟩ := h
        subst z0 z1 z2
        exact gIret hF hP hD hS rfl dX12_tearsBy_91
      · replace h := it_f c_17 h
        refine lv_lookup (x := a_1) (off := 91) (tgt := 92) hx hb dX12_tearsBy_1 (by decide +kernel) (by have q0 := gNe (z := 0) (by decide) c_1; have q1 := gNe (z := 3) (by decide) c_7; have q2 := gNe (z := 6) (by decide) c_17; simp [Op.lookupswitch.offset, Ne.symm q0, Ne.symm q1, Ne.symm q2]) (by decide) ?_
        refine lv_aload_n hx hb dX12_tearsBy_92 rfl (lv_at hl 0 rfl) ?_
        refine lv_iload_n hx hb dX12_tearsBy_93 rfl (lv_at hl 1 rfl) ?_
        replace h := kb_ok h
        obtain ⟨r_28, hc_27, h⟩ := h
        refine gCallIr (isC := []) (wc := []) hP hD hS hA trivial (va_runS (rm := rm_X12_above) (ws := wsX12_above) (As := [.int a_1]) (rest := [.ref q_this]) (gFix hF) (c_X12_above l D c a_1 r_28 hc_27 s.heap.size) (va_cwS 1 hts gX12_tearsBy_X12_above rfl rfl rfl (by decide +kernel) ⟨show (0) + 1 ≤ fr + 1 by omega, show 8 + (1 + 11) + (0) ≤ lo + 22 by omega⟩) (gPreS (wc := []) (isC := []) hK hX hS hA hP hD trivial (by decide +kernel)) rfl rfl hl.1 rfl (lv_room (Nat.le_of_ble_eq_true rfl)) dX12_tearsBy_94 ⟨Nat.le_of_ble_eq_true rfl, Nat.le_of_ble_eq_true rfl⟩) (fun H locs hP hS => ?_)
        refine lv_iload_n hx hb dX12_tearsBy_97 rfl (lv_at hl 2 rfl) ?_
        replace h := kb3_ok h
        obtain ⟨r_30, w_31, w_32, hc_29, h⟩ := h
        refine gCallI (isC := [0, 1, 2]) (wc := [(q_this, .inr (12, [.ref q_d, .ref q_kept, .int v_images, .ref q_found, .ref q_aside, .int v_base, .int v_at, .int v_size, .int v_fault, .int v_opened, .int v_isSeen, .ref q_names, .ref q_seenKept, .ref q_movedKept, .int v_isKeeping, .int v_bubbleMany, .int v_bubbleMost, .int v_bubbleCell, .int v_bestShown, .ref q_traced, .int v_traceMany, .int v_who, .ref q_bitsOf, .ref q_sizeOf, .ref q_number, .ref q_lifted])), (q_d, .inl (c 0, 244, .inl v_d)), (q_traced, .inl (c 0, 40, .inl v_traced))]) (w1 := [(q_this, .inr (12, [.ref q_d, .ref q_kept, .int v_images, .ref q_found, .ref q_aside, .int v_base, .int v_at, .int v_size, .int v_fault, .int v_opened, .int v_isSeen, .ref q_names, .ref q_seenKept, .ref q_movedKept, .int v_isKeeping, .int v_bubbleMany, .int v_bubbleMost, .int v_bubbleCell, .int v_bestShown, .ref q_traced, .int w_31, .int v_who, .ref q_bitsOf, .ref q_sizeOf, .ref q_number, .ref q_lifted])), (q_d, .inl (c 0, 244, .inl v_d)), (q_traced, .inl (c 0, 40, .inl w_32))]) (ws2 := [(q_this, .inr (12, [.ref q_d, .ref q_kept, .int v_images, .ref q_found, .ref q_aside, .int v_base, .int v_at, .int v_size, .int v_fault, .int v_opened, .int v_isSeen, .ref q_names, .ref q_seenKept, .ref q_movedKept, .int v_isKeeping, .int v_bubbleMany, .int v_bubbleMost, .int v_bubbleCell, .int v_bestShown, .ref q_traced, .int w_31, .int v_who, .ref q_bitsOf, .ref q_sizeOf, .ref q_number, .ref q_lifted])), (q_d, .inl (c 0, 244, .inl v_d)), (q_traced, .inl (c 0, 40, .inl w_32))]) (ms := [(some 0), (some 1), (some 2)]) hP hD hS hA ⟨rfl, rfl, rfl, trivial⟩ (by decide +kernel) ⟨rfl, rfl, rfl, trivial⟩ (va_runV (rm := { frames := fr, cells := 0, slots := 0, locals := lo }) (ws := wsX12_tearsBy) (As := [.int r_28, .int a_2]) (rest := []) (gFix hF) (hu q_this q_d q_kept q_found q_aside q_names q_seenKept q_movedKept q_traced q_bitsOf q_sizeOf q_number q_lifted r_28 a_2 v_images v_base v_at v_size v_fault v_opened v_isSeen v_isKeeping v_bubbleMany v_bubbleMost v_bubbleCell v_bestShown v_traceMany v_who v_d v_traced r_30 w_31 w_32 hc_29 H.size) (cwV 2 hts gX12_tearsBy_X12_tearsBy rfl rfl rfl (by decide +kernel) ⟨show (fr) + 1 ≤ fr + 1 by omega, show 8 + (3 + 11) + (lo) ≤ lo + 22 by omega⟩) (gPreV (wc := [(q_this, .inr (12, [.ref q_d, .ref q_kept, .int v_images, .ref q_found, .ref q_aside, .int v_base, .int v_at, .int v_size, .int v_fault, .int v_opened, .int v_isSeen, .ref q_names, .ref q_seenKept, .ref q_movedKept, .int v_isKeeping, .int v_bubbleMany, .int v_bubbleMost, .int v_bubbleCell, .int v_bestShown, .ref q_traced, .int v_traceMany, .int v_who, .ref q_bitsOf, .ref q_sizeOf, .ref q_number, .ref q_lifted])), (q_d, .inl (c 0, 244, .inl v_d)), (q_traced, .inl (c 0, 40, .inl v_traced))]) (q := (RX12, TX12, 26)) (ci := 12) (q0 := 0) (isC := [0, 1, 2]) hK hX hS hA hP hD ⟨rfl, rfl, rfl, trivial⟩ (by decide +kernel) rfl rfl) rfl rfl hl.1 rfl (lv_room (Nat.le_of_ble_eq_true rfl)) dX12_tearsBy_98 ⟨Nat.le_of_ble_eq_true rfl, Nat.le_of_ble_eq_true rfl⟩) (fun H locs hP hD hS => ?_)
        replace h := so3 h
        obtain ⟨z0, z1, z2⟩ := h
        subst z0 z1 z2
        exact gIret hF hP hD hS rfl dX12_tearsBy_101
def f_X12_tearsByN : Nat → Int32 → Int32 → Int32 → Int32 → (Nat → Int32) → (Nat → Int32) → Option (Int32 × Int32 × (Nat → Int32))
  | 0, _, _, _, _, _, _ => none
  | n + 1, a_1, a_2, v_traceMany, v_who, v_d, v_traced => f_X12_tearsBy (f_X12_tearsByN n) a_1 a_2 v_traceMany v_who v_d v_traced
theorem c_X12_tearsByN (l : Launch) (D : va_G) (c : Nat → ClassId) (n : Nat) : ∀ (q_this q_d q_kept q_found q_aside q_names q_seenKept q_movedKept q_traced q_bitsOf q_sizeOf q_number q_lifted : Nat) (a_1 : Int32) (a_2 : Int32) (v_images : Int32) (v_base : Int32) (v_at : Int32) (v_size : Int32) (v_fault : Int32) (v_opened : Int32) (v_isSeen : Int32) (v_isKeeping : Int32) (v_bubbleMany : Int32) (v_bubbleMost : Int32) (v_bubbleCell : Int32) (v_bestShown : Int32) (v_traceMany : Int32) (v_who : Int32) (v_d : Nat → Int32) (v_traced : Nat → Int32) (o_r : Int32) (o_v_traceMany : Int32) (o_v_traced : Nat → Int32), f_X12_tearsByN n a_1 a_2 v_traceMany v_who v_d v_traced = some (o_r, o_v_traceMany, o_v_traced) → gMI l yX12_tearsBy wsX12_tearsBy { frames := 1 * n, cells := 0, slots := 0, locals := 22 * n } D c [.ref q_this, .int a_1, .int a_2] [(q_this, .inr (12, [.ref q_d, .ref q_kept, .int v_images, .ref q_found, .ref q_aside, .int v_base, .int v_at, .int v_size, .int v_fault, .int v_opened, .int v_isSeen, .ref q_names, .ref q_seenKept, .ref q_movedKept, .int v_isKeeping, .int v_bubbleMany, .int v_bubbleMost, .int v_bubbleCell, .int v_bestShown, .ref q_traced, .int v_traceMany, .int v_who, .ref q_bitsOf, .ref q_sizeOf, .ref q_number, .ref q_lifted])), (q_d, .inl (c 0, 244, .inl v_d)), (q_traced, .inl (c 0, 40, .inl v_traced))] [(q_this, .inr (12, [.ref q_d, .ref q_kept, .int v_images, .ref q_found, .ref q_aside, .int v_base, .int v_at, .int v_size, .int v_fault, .int v_opened, .int v_isSeen, .ref q_names, .ref q_seenKept, .ref q_movedKept, .int v_isKeeping, .int v_bubbleMany, .int v_bubbleMost, .int v_bubbleCell, .int v_bestShown, .ref q_traced, .int o_v_traceMany, .int v_who, .ref q_bitsOf, .ref q_sizeOf, .ref q_number, .ref q_lifted])), (q_d, .inl (c 0, 244, .inl v_d)), (q_traced, .inl (c 0, 40, .inl o_v_traced))] o_r := by
  induction n with
  | zero => intros; exact no_ok (by assumption)
  | succ n ih =>
    intro q_this q_d q_kept q_found q_aside q_names q_seenKept q_movedKept q_traced q_bitsOf q_sizeOf q_number q_lifted a_1 a_2 v_images v_base v_at v_size v_fault v_opened v_isSeen v_isKeeping v_bubbleMany v_bubbleMost v_bubbleCell v_bestShown v_traceMany v_who v_d v_traced o_r o_v_traceMany o_v_traced h
    exact c_X12_tearsBy l D c (f_X12_tearsByN n) (1 * n) (22 * n) ih q_this q_d q_kept q_found q_aside q_names q_seenKept q_movedKept q_traced q_bitsOf q_sizeOf q_number q_lifted a_1 a_2 v_images v_base v_at v_size v_fault v_opened v_isSeen v_isKeeping v_bubbleMany v_bubbleMost v_bubbleCell v_bestShown v_traceMany v_who v_d v_traced o_r o_v_traceMany o_v_traced h

