def f_X12_letsBy (uu : Int32 → Int32 → Int32 → Int32 → (Nat → Int32) → (Nat → Int32) → Option (Int32 × Int32 × (Nat → Int32))) (a_1 : Int32) (a_2 : Int32) (v_traceMany : Int32) (v_who : Int32) (v_d : Nat → Int32) (v_traced : Nat → Int32) : Option (Int32 × Int32 × (Nat → Int32)) :=
  if a_1 = 0 then
    kb2 (f_X12_ran 11 v_traceMany v_traced) fun w_3 w_4 =>
    kb (f_X12_own v_who v_d) fun r_6 =>
    kb3 (f_X12_movesByN 4 r_6 a_2 w_3 v_who w_4) fun r_8 w_9 w_10 =>
    some (r_8 * 2, w_9, w_10)
  else
    if a_1 = 2 then
      kb2 (f_X12_ran 30 v_traceMany v_traced) fun w_13 w_14 =>
      kb (f_X12_above 2) fun r_16 =>
      kb3 (uu r_16 a_2 w_13 v_who v_d w_14) fun r_18 w_19 w_20 =>
      kb (f_X12_own v_who v_d) fun r_22 =>
      kb3 (f_X12_tearsByN 4 r_22 1 w_19 v_who v_d w_20) fun r_24 w_25 w_26 =>
      some (r_18 - r_24, w_25, w_26)
    else
      if a_1 = 5 then
        kb2 (f_X12_ran 60 v_traceMany v_traced) fun w_29 w_30 =>
        kb (f_X12_above 5) fun r_32 =>
        nm (a_2 + 1 : Int32) fun t_33 =>
        kb3 (uu r_32 t_33 w_29 v_who v_d w_30) fun r_35 w_36 w_37 =>
        some (r_35, w_36, w_37)
      else
        kb (f_X12_above a_1) fun r_39 =>
        kb3 (uu r_39 a_2 v_traceMany v_who v_d v_traced) fun r_41 w_42 w_43 =>
        some (r_41, w_42, w_43)

abbrev rm_X12_letsBy (fr lo : Nat) : Room := { frames := fr + 5, cells := 0, slots := 0, locals := lo + 110 }
set_option maxHeartbeats 4000000 in
set_option maxRecDepth 100000 in
theorem c_X12_letsBy (l : Launch) (D : va_G) (c : Nat → ClassId) (uu : Int32 → Int32 → Int32 → Int32 → (Nat → Int32) → (Nat → Int32) → Option (Int32 × Int32 × (Nat → Int32))) (fr lo : Nat) (hu : ∀ (q_this q_d q_kept q_found q_aside q_names q_seenKept q_movedKept q_traced q_bitsOf q_sizeOf q_number q_lifted : Nat) (a_1 : Int32) (a_2 : Int32) (v_images : Int32) (v_base : Int32) (v_at : Int32) (v_size : Int32) (v_fault : Int32) (v_opened : Int32) (v_isSeen : Int32) (v_isKeeping : Int32) (v_bubbleMany : Int32) (v_bubbleMost : Int32) (v_bubbleCell : Int32) (v_bestShown : Int32) (v_traceMany : Int32) (v_who : Int32) (v_d : Nat → Int32) (v_traced : Nat → Int32) (o_r : Int32) (o_v_traceMany : Int32) (o_v_traced : Nat → Int32), uu a_1 a_2 v_traceMany v_who v_d v_traced = some (o_r, o_v_traceMany, o_v_traced) → gMI l yX12_letsBy wsX12_letsBy { frames := fr, cells := 0, slots := 0, locals := lo } D c [.ref q_this, .int a_1, .int a_2] [(q_this, .inr (12, [.ref q_d, .ref q_kept, .int v_images, .ref q_found, .ref q_aside, .int v_base, .int v_at, .int v_size, .int v_fault, .int v_opened, .int v_isSeen, .ref q_names, .ref q_seenKept, .ref q_movedKept, .int v_isKeeping, .int v_bubbleMany, .int v_bubbleMost, .int v_bubbleCell, .int v_bestShown, .ref q_traced, .int v_traceMany, .int v_who, .ref q_bitsOf, .ref q_sizeOf, .ref q_number, .ref q_lifted])), (q_d, .inl (c 0, 244, .inl v_d)), (q_traced, .inl (c 0, 40, .inl v_traced))] [(q_this, .inr (12, [.ref q_d, .ref q_kept, .int v_images, .ref q_found, .ref q_aside, .int v_base, .int v_at, .int v_size, .int v_fault, .int v_opened, .int v_isSeen, .ref q_names, .ref q_seenKept, .ref q_movedKept, .int v_isKeeping, .int v_bubbleMany, .int v_bubbleMost, .int v_bubbleCell, .int v_bestShown, .ref q_traced, .int o_v_traceMany, .int v_who, .ref q_bitsOf, .ref q_sizeOf, .ref q_number, .ref q_lifted])), (q_d, .inl (c 0, 244, .inl v_d)), (q_traced, .inl (c 0, 40, .inl o_v_traced))] o_r) (q_this q_d q_kept q_found q_aside q_names q_seenKept q_movedKept q_traced q_bitsOf q_sizeOf q_number q_lifted : Nat) (a_1 : Int32) (a_2 : Int32) (v_images : Int32) (v_base : Int32) (v_at : Int32) (v_size : Int32) (v_fault : Int32) (v_opened : Int32) (v_isSeen : Int32) (v_isKeeping : Int32) (v_bubbleMany : Int32) (v_bubbleMost : Int32) (v_bubbleCell : Int32) (v_bestShown : Int32) (v_traceMany : Int32) (v_who : Int32) (v_d : Nat → Int32) (v_traced : Nat → Int32) (o_r : Int32) (o_v_traceMany : Int32) (o_v_traced : Nat → Int32) (h : f_X12_letsBy uu a_1 a_2 v_traceMany v_who v_d v_traced = some (o_r, o_v_traceMany, o_v_traced)) : gMI l yX12_letsBy wsX12_letsBy (rm_X12_letsBy fr lo) D c [.ref q_this, .int a_1, .int a_2] [(q_this, .inr (12, [.ref q_d, .ref q_kept, .int v_images, .ref q_found, .ref q_aside, .int v_base, .int v_at, .int v_size, .int v_fault, .int v_opened, .int v_isSeen, .ref q_names, .ref q_seenKept, .ref q_movedKept, .int v_isKeeping, .int v_bubbleMany, .int v_bubbleMost, .int v_bubbleCell, .int v_bestShown, .ref q_traced, .int v_traceMany, .int v_who, .ref q_bitsOf, .ref q_sizeOf, .ref q_number, .ref q_lifted])), (q_d, .inl (c 0, 244, .inl v_d)), (q_traced, .inl (c 0, 40, .inl v_traced))] [(q_this, .inr (12, [.ref q_d, .ref q_kept, .int v_images, .ref q_found, .ref q_aside, .int v_base, .int v_at, .int v_size, .int v_fault, .int v_opened, .int v_isSeen, .ref q_names, .ref q_seenKept, .ref q_movedKept, .int v_isKeeping, .int v_bubbleMany, .int v_bubbleMost, .int v_bubbleCell, .int v_bestShown, .ref q_traced, .int o_v_traceMany, .int v_who, .ref q_bitsOf, .ref q_sizeOf, .ref q_number, .ref q_lifted])), (q_d, .inl (c 0, 244, .inl v_d)), (q_traced, .inl (c 0, 40, .inl o_v_traced))] o_r := by
  refine gMI_of (cc := cX12_letsBy) (maxL := 4) (rt := (some .int)) (by decide +kernel) rfl (Nat.le_of_ble_eq_true rfl) ?_
  intro p e s m below meth co A hF hK hX hP hD hA hS ls hl
  obtain ⟨hx, hb, hr, hts, hown, hlocks, hml⟩ := id hF
  have hl : lv_has ls 4 [(0, .ref q_this), (1, .int a_1), (2, .int a_2)] := hl
  unfold f_X12_letsBy at h
  refine lv_iload_n hx hb dX12_letsBy_0 rfl (lv_at hl 1 rfl) ?_
  by_cases c_1 : a_1 = 0
  · replace h := it_t c_1 h
    refine lv_lookup (x := a_1) (off := 35) (tgt := 36) hx hb dX12_letsBy_1 (by decide +kernel) (by rw [c_1]; rfl) (by decide) ?_
    refine lv_aload_n hx hb dX12_letsBy_36 rfl (lv_at hl 0 rfl) ?_
    refine lv_bipush (v := 11) hx hb dX12_letsBy_37 (by decide) ?_
    replace h := kb2_ok h
    obtain ⟨w_3, w_4, hc_2, h⟩ := h
    refine gCallV (isC := [0, 2]) (wc := [(q_this, .inr (12, [.ref q_d, .ref q_kept, .int v_images, .ref q_found, .ref q_aside, .int v_base, .int v_at, .int v_size, .int v_fault, .int v_opened, .int v_isSeen, .ref q_names, .ref q_seenKept, .ref q_movedKept, .int v_isKeeping, .int v_bubbleMany, .int v_bubbleMost, .int v_bubbleCell, .int v_bestShown, .ref q_traced, .int v_traceMany, .int v_who, .ref q_bitsOf, .ref q_sizeOf, .ref q_number, .ref q_lifted])), (q_traced, .inl (c 0, 40, .inl v_traced))]) (w1 := [(q_this, .inr (12, [.ref q_d, .ref q_kept, .int v_images, .ref q_found, .ref q_aside, .int v_base, .int v_at, .int v_size, .int v_fault, .int v_opened, .int v_isSeen, .ref q_names, .ref q_seenKept, .ref q_movedKept, .int v_isKeeping, .int v_bubbleMany, .int v_bubbleMost, .int v_bubbleCell, .int v_bestShown, .ref q_traced, .int w_3, .int v_who, .ref q_bitsOf, .ref q_sizeOf, .ref q_number, .ref q_lifted])), (q_traced, .inl (c 0, 40, .inl w_4))]) (ws2 := [(q_this, .inr (12, [.ref q_d, .ref q_kept, .int v_images, .ref q_found, .ref q_aside, .int v_base, .int v_at, .int v_size, .int v_fault, .int v_opened, .int v_isSeen, .ref q_names, .ref q_seenKept, .ref q_movedKept, .int v_isKeeping, .int v_bubbleMany, .int v_bubbleMost, .int v_bubbleCell, .int v_bestShown, .ref q_traced, .int w_3, .int v_who, .ref q_bitsOf, .ref q_sizeOf, .ref q_number, .ref q_lifted])), (q_d, .inl (c 0, 244, .inl v_d)), (q_traced, .inl (c 0, 40, .inl w_4))]) (ms := [(some 0), none, (some 1)]) hP hD hS hA ⟨rfl, rfl, trivial⟩ (by decide +kernel) ⟨rfl, rfl, rfl, trivial⟩ (va_runV (rm := rm_X12_ran) (ws := wsX12_ran) (As := [.int 11]) (rest := []) (gFix hF) (c_X12_ran l D c q_this q_d q_kept q_found q_aside q_names q_seenKept q_movedKept q_traced q_bitsOf q_sizeOf q_number q_lifted 11 v_images v_base v_at v_size v_fault v_opened v_isSeen v_isKeeping v_bubbleMany v_bubbleMost v_bubbleCell v_bestShown v_traceMany v_who v_traced w_3 w_4 hc_2 s.heap.size) (cwV 1 hts gX12_letsBy_X12_ran rfl rfl rfl (by decide +kernel) ⟨show (0) + 1 ≤ fr + 5 by omega, show 8 + (2 + 11) + (0) ≤ lo + 110 by omega⟩) (gPreV (wc := [(q_this, .inr (12, [.ref q_d, .ref q_kept, .int v_images, .ref q_found, .ref q_aside, .int v_base, .int v_at, .int v_size, .int v_fault, .int v_opened, .int v_isSeen, .ref q_names, .ref q_seenKept, .ref q_movedKept, .int v_isKeeping, .int v_bubbleMany, .int v_bubbleMost, .int v_bubbleCell, .int v_bestShown, .ref q_traced, .int v_traceMany, .int v_who, .ref q_bitsOf, .ref q_sizeOf, .ref q_number, .ref q_lifted])), (q_traced, .inl (c 0, 40, .inl v_traced))]) (q := (RX12, TX12, 26)) (ci := 12) (q0 := 0) (isC := [0, 2]) hK hX hS hA hP hD ⟨rfl, rfl, trivial⟩ (by decide +kernel) rfl rfl) rfl rfl hl.1 rfl (lv_room (Nat.le_of_ble_eq_true rfl)) dX12_letsBy_39 ⟨Nat.le_of_ble_eq_true rfl, Nat.le_of_ble_eq_true rfl⟩) (fun H locs hP hD hS => ?_)
    refine lv_aload_n hx hb dX12_letsBy_42 rfl (lv_at hl 0 rfl) ?_
    refine lv_aload_n hx hb dX12_letsBy_43 rfl (lv_at hl 0 rfl) ?_
    replace h := kb_ok h
    obtain ⟨r_6, hc_5, h⟩ := h
    refine gCallIr (isC := [0, 1]) (wc := [(q_this, .inr (12, [.ref q_d, .ref q_kept, .int v_images, .ref q_found, .ref q_aside, .int v_base, .int v_at, .int v_size, .int v_fault, .int v_opened, .int v_isSeen, .ref q_names, .ref q_seenKept, .ref q_movedKept, .int v_isKeeping, .int v_bubbleMany, .int v_bubbleMost, .int v_bubbleCell, .int v_bestShown, .ref q_traced, .int w_3, .int v_who, .ref q_bitsOf, .ref q_sizeOf, .ref q_number, .ref q_lifted])), (q_d, .inl (c 0, 244, .inl v_d))]) hP hD hS hA ⟨rfl, rfl, trivial⟩ (va_runV (rm := rm_X12_own) (ws := wsX12_own) (As := []) (rest := [.ref q_this]) (gFix hF) (c_X12_own l D c q_this q_d q_kept q_found q_aside q_names q_seenKept q_movedKept q_traced q_bitsOf q_sizeOf q_number q_lifted v_images v_base v_at v_size v_fault v_opened v_isSeen v_isKeeping v_bubbleMany v_bubbleMost v_bubbleCell v_bestShown w_3 v_who v_d r_6 hc_5 H.size) (cwV 0 hts gX12_letsBy_X12_own rfl rfl rfl (by decide +kernel) ⟨show (1) + 1 ≤ fr + 5 by omega, show 8 + (1 + 11) + (21) ≤ lo + 110 by omega⟩) (gPreV (wc := [(q_this, .inr (12, [.ref q_d, .ref q_kept, .int v_images, .ref q_found, .ref q_aside, .int v_base, .int v_at, .int v_size, .int v_fault, .int v_opened, .int v_isSeen, .ref q_names, .ref q_seenKept, .ref q_movedKept, .int v_isKeeping, .int v_bubbleMany, .int v_bubbleMost, .int v_bubbleCell, .int v_bestShown, .ref q_traced, .int w_3, .int v_who, .ref q_bitsOf, .ref q_sizeOf, .ref q_number, .ref q_lifted])), (q_d, .inl (c 0, 244, .inl v_d))]) (q := (RX12, TX12, 26)) (ci := 12) (q0 := 0) (isC := [0, 1]) hK hX hS hA hP hD ⟨rfl, rfl, trivial⟩ (by decide +kernel) rfl rfl) rfl rfl hl.1 rfl (lv_room (Nat.le_of_ble_eq_true rfl)) dX12_letsBy_44 ⟨Nat.le_of_ble_eq_true rfl, Nat.le_of_ble_eq_true rfl⟩) (fun H locs hP hS => ?_)
    refine lv_iload_n hx hb dX12_letsBy_47 rfl (lv_at hl 2 rfl) ?_
    replace h := kb3_ok h
    obtain ⟨r_8, w_9, w_10, hc_7, h⟩ := h
    refine gCallI (isC := [0, 2]) (wc := [(q_this, .inr (12, [.ref q_d, .ref q_kept, .int v_images, .ref q_found, .ref q_aside, .int v_base, .int v_at, .int v_size, .int v_fault, .int v_opened, .int v_isSeen, .ref q_names, .ref q_seenKept, .ref q_movedKept, .int v_isKeeping, .int v_bubbleMany, .int v_bubbleMost, .int v_bubbleCell, .int v_bestShown, .ref q_traced, .int w_3, .int v_who, .ref q_bitsOf, .ref q_sizeOf, .ref q_number, .ref q_lifted])), (q_traced, .inl (c 0, 40, .inl w_4))]) (w1 := [(q_this, .inr (12, [.ref q_d, .ref q_kept, .int v_images, .ref q_found, .ref q_aside, .int v_base, .int v_at, .int v_size, .int v_fault, .int v_opened, .int v_isSeen, .ref q_names, .ref q_seenKept, .ref q_movedKept, .int v_isKeeping, .int v_bubbleMany, .int v_bubbleMost, .int v_bubbleCell, .int v_bestShown, .ref q_traced, .int w_9, .int v_who, .ref q_bitsOf, .ref q_sizeOf, .ref q_number, .ref q_lifted])), (q_traced, .inl (c 0, 40, .inl w_10))]) (ws2 := [(q_this, .inr (12, [.ref q_d, .ref q_kept, .int v_images, .ref q_found, .ref q_aside, .int v_base, .int v_at, .int v_size, .int v_fault, .int v_opened, .int v_isSeen, .ref q_names, .ref q_seenKept, .ref q_movedKept, .int v_isKeeping, .int v_bubbleMany, .int v_bubbleMost, .int v_bubbleCell, .int v_bestShown, .ref q_traced, .int w_9, .int v_who, .ref q_bitsOf, .ref q_sizeOf, .ref q_number, .ref q_lifted])), (q_d, .inl (c 0, 244, .inl v_d)), (q_traced, .inl (c 0, 40, .inl w_10))]) (ms := [(some 0), none, (some 1)]) hP hD hS hA ⟨rfl, rfl, trivial⟩ (by decide +kernel) ⟨rfl, rfl, rfl, trivial⟩ (va_runV (rm := { frames := 4, cells := 0, slots := 0, locals := 88 }) (ws := wsX12_movesBy) (As := [.int r_6, .int a_2]) (rest := []) (gFix hF) (c_X12_movesByN l D c 4 q_this q_d q_kept q_found q_aside q_names q_seenKept q_movedKept q_traced q_bitsOf q_sizeOf q_number q_lifted r_6 a_2 v_images v_base v_at v_size v_fault v_opened v_isSeen v_isKeeping v_bubbleMany v_bubbleMost v_bubbleCell v_bestShown w_3 v_who w_4 r_8 w_9 w_10 hc_7 H.size) (cwV 2 hts gX12_letsBy_X12_movesBy rfl rfl rfl (by decide +kernel) ⟨show (4) + 1 ≤ fr + 5 by omega, show 8 + (3 + 11) + (88) ≤ lo + 110 by omega⟩) (gPreV (wc := [(q_this, .inr (12, [.ref q_d, .ref q_kept, .int v_images, .ref q_found, .ref q_aside, .int v_base, .int v_at, .int v_size, .int v_fault, .int v_opened, .int v_isSeen, .ref q_names, .ref q_seenKept, .ref q_movedKept, .int v_isKeeping, .int v_bubbleMany, .int v_bubbleMost, .int v_bubbleCell, .int v_bestShown, .ref q_traced, .int w_3, .int v_who, .ref q_bitsOf, .ref q_sizeOf, .ref q_number, .ref q_lifted])), (q_traced, .inl (c 0, 40, .inl w_4))]) (q := (RX12, TX12, 26)) (ci := 12) (q0 := 0) (isC := [0, 2]) hK hX hS hA hP hD ⟨rfl, rfl, trivial⟩ (by decide +kernel) rfl rfl) rfl rfl hl.1 rfl (lv_room (Nat.le_of_ble_eq_true rfl)) dX12_letsBy_48 ⟨Nat.le_of_ble_eq_true rfl, Nat.le_of_ble_eq_true rfl⟩) (fun H locs hP hD hS => ?_)
    refine lv_iconst (v := 2) hx hb dX12_letsBy_51 (by decide) ?_
    refine lv_imul hx hb dX12_letsBy_52 ?_
    replace h := so3 h
    obtain ⟨z0, z1, z2⟩ := h
    subst z0 z1 z2
    exact gIret hF hP hD hS rfl dX12_letsBy_53
  · replace h := it_f c_1 h
    by_cases c_11 : a_1 = 2
    · replace h := it_t c_11 h
      refine lv_lookup (x := a_1) (off := 53) (tgt := 54) hx hb dX12_letsBy_1 (by decide +kernel) (by rw [c_11]; rfl) (by decide) ?_
      refine lv_aload_n hx hb dX12_letsBy_54 rfl (lv_at hl 0 rfl) ?_
      refine lv_bipush (v := 30) hx hb dX12_letsBy_55 (by decide) ?_
      replace h := kb2_ok h
      obtain ⟨w_13, w_14, hc_12, h⟩ := h
      refine gCallV (isC := [0, 2]) (wc := [(q_this, .inr (12, [.ref q_d, .ref q_kept, .int v_images, .ref q_found, .ref q_aside, .int v_base, .int v_at, .int v_size, .int v_fault, .int v_opened, .int v_isSeen, .ref q_names, .ref q_seenKept, .ref q_movedKept, .int v_isKeeping, .int v_bubbleMany, .int v_bubbleMost, .int v_bubbleCell, .int v_bestShown, .ref q_traced, .int v_traceMany, .int v_who, .ref q_bitsOf, .ref q_sizeOf, .ref q_number, .ref q_lifted])), (q_traced, .inl (c 0, 40, .inl v_traced))]) (w1 := [(q_this, .inr (12, [.ref q_d, .ref q_kept, .int v_images, .ref q_found, .ref q_aside, .int v_base, .int v_at, .int v_size, .int v_fault, .int v_opened, .int v_isSeen, .ref q_names, .ref q_seenKept, .ref q_movedKept, .int v_isKeeping, .int v_bubbleMany, .int v_bubbleMost, .int v_bubbleCell, .int v_bestShown, .ref q_traced, .int w_13, .int v_who, .ref q_bitsOf, .ref q_sizeOf, .ref q_number, .ref q_lifted])), (q_traced, .inl (c 0, 40, .inl w_14))]) (ws2 := [(q_this, .inr (12, [.ref q_d, .ref q_kept, .int v_images, .ref q_found, .ref q_aside, .int v_base, .int v_at, .int v_size, .int v_fault, .int v_opened, .int v_isSeen, .ref q_names, .ref q_seenKept, .ref q_movedKept, .int v_isKeeping, .int v_bubbleMany, .int v_bubbleMost, .int v_bubbleCell, .int v_bestShown, .ref q_traced, .int w_13, .int v_who, .ref q_bitsOf, .ref q_sizeOf, .ref q_number, .ref q_lifted])), (q_d, .inl (c 0, 244, .inl v_d)), (q_traced, .inl (c 0, 40, .inl w_14))]) (ms := [(some 0), none, (some 1)]) hP hD hS hA ⟨rfl, rfl, trivial⟩ (by decide +kernel) ⟨rfl, rfl, rfl, trivial⟩ (va_runV (rm := rm_X12_ran) (ws := wsX12_ran) (As := [.int 30]) (rest := []) (gFix hF) (c_X12_ran l D c q_this q_d q_kept q_found q_aside q_names q_seenKept q_movedKept q_traced q_bitsOf q_sizeOf q_number q_lifted 30 v_images v_base v_at v_size v_fault v_opened v_isSeen v_isKeeping v_bubbleMany v_bubbleMost v_bubbleCell v_bestShown v_traceMany v_who v_traced w_13 w_14 hc_12 s.heap.size) (cwV 1 hts gX12_letsBy_X12_ran rfl rfl rfl (by decide +kernel) ⟨show (0) + 1 ≤ fr + 5 by omega, show 8 + (2 + 11) + (0) ≤ lo + 110 by omega⟩) (gPreV (wc := [(q_this, .inr (12, [.ref q_d, .ref q_kept, .int v_images, .ref q_found, .ref q_aside, .int v_base, .int v_at, .int v_size, .int v_fault, .int v_opened, .int v_isSeen, .ref q_names, .ref q_seenKept, .ref q_movedKept, .int v_isKeeping, .int v_bubbleMany, .int v_bubbleMost, .int v_bubbleCell, .int v_bestShown, .ref q_traced, .int v_traceMany, .int v_who, .ref q_bitsOf, .ref q_sizeOf, .ref q_number, .ref q_lifted])), (q_traced, .inl (c 0, 40, .inl v_traced))]) (q := (RX12, TX12, 26)) (ci := 12) (q0 := 0) (isC := [0, 2]) hK hX hS hA hP hD ⟨rfl, rfl, trivial⟩ (by decide +kernel) rfl rfl) rfl rfl hl.1 rfl (lv_room (Nat.le_of_ble_eq_true rfl)) dX12_letsBy_57 ⟨Nat.le_of_ble_eq_true rfl, Nat.le_of_ble_eq_true rfl⟩) (fun H locs hP hD hS => ?_)
      refine lv_aload_n hx hb dX12_letsBy_60 rfl (lv_at hl 0 rfl) ?_
      refine lv_iconst (v := 2) hx hb dX12_letsBy_61 (by decide) ?_
      replace h := kb_ok h
      obtain ⟨r_16, hc_15, h⟩ := h
      refine gCallIr (isC := []) (wc := []) hP hD hS hA trivial (va_runS (rm := rm_X12_above) (ws := wsX12_above) (As := [.int 2]) (rest := [.ref q_this]) (gFix hF) (c_X12_above l D c 2 r_16 hc_15 H.size) (va_cwS 1 hts gX12_letsBy_X12_above rfl rfl rfl (by decide +kernel) ⟨show (0) + 1 ≤ fr + 5 by omega, show 8 + (1 + 11) + (0) ≤ lo + 110 by omega⟩) (gPreS (wc := []) (isC := []) hK hX hS hA hP hD trivial (by decide +kernel)) rfl rfl hl.1 rfl (lv_room (Nat.le_of_ble_eq_true rfl)) dX12_letsBy_62 ⟨Nat.le_of_ble_eq_true rfl, Nat.le_of_ble_eq_true rfl⟩) (fun H locs hP hS => ?_)
      refine lv_iload_n hx hb dX12_letsBy_65 rfl (lv_at hl 2 rfl) ?_
      replace h := kb3_ok h
      obtain ⟨r_18, w_19, w_20, hc_17, h⟩ := h
      refine gCallI (isC := [0, 1, 2]) (wc := [(q_this, .inr (12, [.ref q_d, .ref q_kept, .int v_images, .ref q_found, .ref q_aside, .int v_base, .int v_at, .int v_size, .int v_fault, .int v_opened, .int v_isSeen, .ref q_names, .ref q_seenKept, .ref q_movedKept, .int v_isKeeping, .int v_bubbleMany, .int v_bubbleMost, .int v_bubbleCell, .int v_bestShown, .ref q_traced, .int w_13, .int v_who, .ref q_bitsOf, .ref q_sizeOf, .ref q_number, .ref q_lifted])), (q_d, .inl (c 0, 244, .inl v_d)), (q_traced, .inl (c 0, 40, .inl w_14))]) (w1 := [(q_this, .inr (12, [.ref q_d, .ref q_kept, .int v_images, .ref q_found, .ref q_aside, .int v_base, .int v_at, .int v_size, .int v_fault, .int v_opened, .int v_isSeen, .ref q_names, .ref q_seenKept, .ref q_movedKept, .int v_isKeeping, .int v_bubbleMany, .int v_bubbleMost, .int v_bubbleCell, .int v_bestShown, .ref q_traced, .int w_19, .int v_who, .ref q_bitsOf, .ref q_sizeOf, .ref q_number, .ref q_lifted])), (q_d, .inl (c 0, 244, .inl v_d)), (q_traced, .inl (c 0, 40, .inl w_20))]) (ws2 := [(q_this, .inr (12, [.ref q_d, .ref q_kept, .int v_images, .ref q_found, .ref q_aside, .int v_base, .int v_at, .int v_size, .int v_fault, .int v_opened, .int v_isSeen, .ref q_names, .ref q_seenKept, .ref q_movedKept, .int v_isKeeping, .int v_bubbleMany, .int v_bubbleMost, .int v_bubbleCell, .int v_bestShown, .ref q_traced, .int w_19, .int v_who, .ref q_bitsOf, .ref q_sizeOf, .ref q_number, .ref q_lifted])), (q_d, .inl (c 0, 244, .inl v_d)), (q_traced, .inl (c 0, 40, .inl w_20))]) (ms := [(some 0), (some 1), (some 2)]) hP hD hS hA ⟨rfl, rfl, rfl, trivial⟩ (by decide +kernel) ⟨rfl, rfl, rfl, trivial⟩ (va_runV (rm := { frames := fr, cells := 0, slots := 0, locals := lo }) (ws := wsX12_letsBy) (As := [.int r_16, .int a_2]) (rest := []) (gFix hF) (hu q_this q_d q_kept q_found q_aside q_names q_seenKept q_movedKept q_traced q_bitsOf q_sizeOf q_number q_lifted r_16 a_2 v_images v_base v_at v_size v_fault v_opened v_isSeen v_isKeeping v_bubbleMany v_bubbleMost v_bubbleCell v_bestShown w_13 v_who v_d w_14 r_18 w_19 w_20 hc_17 H.size) (cwV 2 hts gX12_letsBy_X12_letsBy rfl rfl rfl (by decide +kernel) ⟨show (fr) + 1 ≤ fr + 5 by omega, show 8 + (4 + 11) + (lo) ≤ lo + 110 by omega⟩) (gPreV (wc := [(q_this, .inr (12, [.ref q_d, .ref q_kept, .int v_images, .ref q_found, .ref q_aside, .int v_base, .int v_at, .int v_size, .int v_fault, .int v_opened, .int v_isSeen, .ref q_names, .ref q_seenKept, .ref q_movedKept, .int v_isKeeping, .int v_bubbleMany, .int v_bubbleMost, .int v_bubbleCell, .int v_bestShown, .ref q_traced, .int w_13, .int v_who, .ref q_bitsOf, .ref q_sizeOf, .ref q_number, .ref q_lifted])), (q_d, .inl (c 0, 244, .inl v_d)), (q_traced, .inl (c 0, 40, .inl w_14))]) (q := (RX12, TX12, 26)) (ci := 12) (q0 := 0) (isC := [0, 1, 2]) hK hX hS hA hP hD ⟨rfl, rfl, rfl, trivial⟩ (by decide +kernel) rfl rfl) rfl rfl hl.1 rfl (lv_room (Nat.le_of_ble_eq_true rfl)) dX12_letsBy_66 ⟨Nat.le_of_ble_eq_true rfl, Nat.le_of_ble_eq_true rfl⟩) (fun H locs hP hD hS => ?_)
      refine lv_istore_n (lv' := [(3, .int r_18), (0, .ref q_this), (1, .int a_1), (2, .int a_2)]) hx hb dX12_letsBy_69 rfl hl (by decide) rfl (fun ls hl => ?_)
      refine lv_iload_n hx hb dX12_letsBy_70 rfl (lv_at hl 0 rfl) ?_
      refine lv_aload_n hx hb dX12_letsBy_71 rfl (lv_at hl 1 rfl) ?_
      refine lv_aload_n hx hb dX12_letsBy_72 rfl (lv_at hl 1 rfl) ?_
      replace h := kb_ok h
      obtain ⟨r_22, hc_21, h⟩ := h
      refine gCallIr (isC := [0, 1]) (wc := [(q_this, .inr (12, [.ref q_d, .ref q_kept, .int v_images, .ref q_found, .ref q_aside, .int v_base, .int v_at, .int v_size, .int v_fault, .int v_opened, .int v_isSeen, .ref q_names, .ref q_seenKept, .ref q_movedKept, .int v_isKeeping, .int v_bubbleMany, .int v_bubbleMost, .int v_bubbleCell, .int v_bestShown, .ref q_traced, .int w_19, .int v_who, .ref q_bitsOf, .ref q_sizeOf, .ref q_number, .ref q_lifted])), (q_d, .inl (c 0, 244, .inl v_d))]) hP hD hS hA ⟨rfl, rfl, trivial⟩ (va_runV (rm := rm_X12_own) (ws := wsX12_own) (As := []) (rest := [.ref q_this, .int r_18]) (gFix hF) (c_X12_own l D c q_this q_d q_kept q_found q_aside q_names q_seenKept q_movedKept q_traced q_bitsOf q_sizeOf q_number q_lifted v_images v_base v_at v_size v_fault v_opened v_isSeen v_isKeeping v_bubbleMany v_bubbleMost v_bubbleCell v_bestShown w_19 v_who v_d r_22 hc_21 H.size) (cwV 0 hts gX12_letsBy_X12_own rfl rfl rfl (by decide +kernel) ⟨show (1) + 1 ≤ fr + 5 by omega, show 8 + (1 + 11) + (21) ≤ lo + 110 by omega⟩) (gPreV (wc := [(q_this, .inr (12, [.ref q_d, .ref q_kept, .int v_images, .ref q_found, .ref q_aside, .int v_base, .int v_at, .int v_size, .int v_fault, .int v_opened, .int v_isSeen, .ref q_names, .ref q_seenKept, .ref q_movedKept, .int v_isKeeping, .int v_bubbleMany, .int v_bubbleMost, .int v_bubbleCell, .int v_bestShown, .ref q_traced, .int w_19, .int v_who, .ref q_bitsOf, .ref q_sizeOf, .ref q_number, .ref q_lifted])), (q_d, .inl (c 0, 244, .inl v_d))]) (q := (RX12, TX12, 26)) (ci := 12) (q0 := 0) (isC := [0, 1]) hK hX hS hA hP hD ⟨rfl, rfl, trivial⟩ (by decide +kernel) rfl rfl) rfl rfl hl.1 rfl (lv_room (Nat.le_of_ble_eq_true rfl)) dX12_letsBy_73 ⟨Nat.le_of_ble_eq_true rfl, Nat.le_of_ble_eq_true rfl⟩) (fun H locs hP hS => ?_)
      refine lv_iconst (v := 1) hx hb dX12_letsBy_76 (by decide) ?_
      replace h := kb3_ok h
      obtain ⟨r_24, w_25, w_26, hc_23, h⟩ := h
      refine gCallI (isC := [0, 1, 2]) (wc := [(q_this, .inr (12, [.ref q_d, .ref q_kept, .int v_images, .ref q_found, .ref q_aside, .int v_base, .int v_at, .int v_size, .int v_fault, .int v_opened, .int v_isSeen, .ref q_names, .ref q_seenKept, .ref q_movedKept, .int v_isKeeping, .int v_bubbleMany, .int v_bubbleMost, .int v_bubbleCell, .int v_bestShown, .ref q_traced, .int w_19, .int v_who, .ref q_bitsOf, .ref q_sizeOf, .ref q_number, .ref q_lifted])), (q_d, .inl (c 0, 244, .inl v_d)), (q_traced, .inl (c 0, 40, .inl w_20))]) (w1 := [(q_this, .inr (12, [.ref q_d, .ref q_kept, .int v_images, .ref q_found, .ref q_aside, .int v_base, .int v_at, .int v_size, .int v_fault, .int v_opened, .int v_isSeen, .ref q_names, .ref q_seenKept, .ref q_movedKept, .int v_isKeeping, .int v_bubbleMany, .int v_bubbleMost, .int v_bubbleCell, .int v_bestShown, .ref q_traced, .int w_25, .int v_who, .ref q_bitsOf, .ref q_sizeOf, .ref q_number, .ref q_lifted])), (q_d, .inl (c 0, 244, .inl v_d)), (q_traced, .inl (c 0, 40, .inl w_26))]) (ws2 := [(q_this, .inr (12, [.ref q_d, .ref q_kept, .int v_images, .ref q_found, .ref q_aside, .int v_base, .int v_at, .int v_size, .int v_fault, .int v_opened, .int v_isSeen, .ref q_names, .ref q_seenKept, .ref q_movedKept, .int v_isKeeping, .int v_bubbleMany, .int v_bubbleMost, .int v_bubbleCell, .int v_bestShown, .ref q_traced, .int w_25, .int v_who, .ref q_bitsOf, .ref q_sizeOf, .ref q_number, .ref q_lifted])), (q_d, .inl (c 0, 244, .inl v_d)), (q_traced, .inl (c 0, 40, .inl w_26))]) (ms := [(some 0), (some 1), (some 2)]) hP hD hS hA ⟨rfl, rfl, rfl, trivial⟩ (by decide +kernel) ⟨rfl, rfl, rfl, trivial⟩ (va_runV (rm := { frames := 4, cells := 0, slots := 0, locals := 88 }) (ws := wsX12_tearsBy) (As := [.int r_22, .int 1]) (rest := [.int r_18]) (gFix hF) (c_X12_tearsByN l D c 4 q_this q_d q_kept q_found q_aside q_names q_seenKept q_movedKept q_traced q_bitsOf q_sizeOf q_number q_lifted r_22 1 v_images v_base v_at v_size v_fault v_opened v_isSeen v_isKeeping v_bubbleMany v_bubbleMost v_bubbleCell v_bestShown w_19 v_who v_d w_20 r_24 w_25 w_26 hc_23 H.size) (cwV 2 hts gX12_letsBy_X12_tearsBy rfl rfl rfl (by decide +kernel) ⟨show (4) + 1 ≤ fr + 5 by omega, show 8 + (3 + 11) + (88) ≤ lo + 110 by omega⟩) (gPreV (wc := [(q_this, .inr (12, [.ref q_d, .ref q_kept, .int v_images, .ref q_found, .ref q_aside, .int v_base, .int v_at, .int v_size, .int v_fault, .int v_opened, .int v_isSeen, .ref q_names, .ref q_seenKept, .ref q_movedKept, .int v_isKeeping, .int v_bubbleMany, .int v_bubbleMost, .int v_bubbleCell, .int v_bestShown, .ref q_traced, .int w_19, .int v_who, .ref q_bitsOf, .ref q_sizeOf, .ref q_number, .ref q_lifted])), (q_d, .inl (c 0, 244, .inl v_d)), (q_traced, .inl (c 0, 40, .inl w_20))]) (q := (RX12, TX12, 26)) (ci := 12) (q0 := 0) (isC := [0, 1, 2]) hK hX hS hA hP hD ⟨rfl, rfl, rfl, trivial⟩ (by decide +kernel) rfl rfl) rfl rfl hl.1 rfl (lv_room (Nat.le_of_ble_eq_true rfl)) dX12_letsBy_77 ⟨Nat.le_of_ble_eq_true rfl, Nat.le_of_ble_eq_true rfl⟩) (fun H locs hP hD hS => ?_)
      refine lv_isub hx hb dX12_letsBy_80 ?_
      replace h := so3 h
      obtain ⟨z0, z1, z2⟩ := h
      subst z0 z1 z2
      exact gIret hF hP hD hS rfl dX12_letsBy_81
    · replace h := it_f c_11 h
      by_cases c_27 : a_1 = 5
      · replace h := it_t c_27 h
        refine lv_lookup (x := a_1) (off := 81) (tgt := 82) hx hb dX12_letsBy_1 (by decide +kernel) (by rw [c_27]; rfl) (by decide) ?_
        refine lv_aload_n hx hb dX12_letsBy_82 rfl (lv_at hl 0 rfl) ?_
        refine lv_bipush (v := 60) hx hb dX12_letsBy_83 (by decide) ?_
        replace h := kb2_ok h
        obtain ⟨w_29, w_30, hc_28, h⟩ := h
        refine gCallV (isC := [0, 2]) (wc := [(q_this, .inr (12, [.ref q_d, .ref q_kept, .int v_images, .ref q_found, .ref q_aside, .int v_base, .int v_at, .int v_size, .int v_fault, .int v_opened, .int v_isSeen, .ref q_names, .ref q_seenKept, .ref q_movedKept, .int v_isKeeping, .int v_bubbleMany, .int v_bubbleMost, .int v_bubbleCell, .int v_bestShown, .ref q_traced, .int v_traceMany, .int v_who, .ref q_bitsOf, .ref q_sizeOf, .ref q_number, .ref q_lifted])), (q_traced, .inl (c 0, 40, .inl v_traced))]) (w1 := [(q_this, .inr (12, [.ref q_d, .ref q_kept, .int v_images, .ref q_found, .ref q_aside, .int v_base, .int v_at, .int v_size, .int v_fault, .int v_opened, .int v_isSeen, .ref q_names, .ref q_seenKept, .ref q_movedKept, .int v_isKeeping, .int v_bubbleMany, .int v_bubbleMost, .int v_bubbleCell, .int v_bestShown, .ref q_traced, .int w_29, .int v_who, .ref q_bitsOf, .ref q_sizeOf, .ref q_number, .ref q_lifted])), (q_traced, .inl (c 0, 40, .inl w_30))]) (ws2 := [(q_this, .inr (12, [.ref q_d, .ref q_kept, .int v_images, .ref q_found, .ref q_aside, .int v_base, .int v_at, .int v_size, .int v_fault, .int v_opened, .int v_isSeen, .ref q_names, .ref q_seenKept, .ref q_movedKept, .int v_isKeeping, .int v_bubbleMany, .int v_bubbleMost, .int v_bubbleCell, .int v_bestShown, .ref q_traced, .int w_29, .int v_who, .ref q_bitsOf, .ref q_sizeOf, .ref q_number, .ref q_lifted])), (q_d, .inl (c 0, 244, .inl v_d)), (q_traced, .inl (c 0, 40, .inl w_30))]) (ms := [(some 0), none, (some 1)]) hP hD hS hA ⟨rfl, rfl, trivial⟩ (by decide +kernel) ⟨rfl, rfl, rfl, trivial⟩ (va_runV (rm := rm_X12_ran) (ws := wsX12_ran) (As := [.int 60]) (rest := []) (gFix hF) (c_X12_ran l D c q_this q_d q_kept q_found q_aside q_names q_seenKept q_movedKept q_traced q_bitsOf q_sizeOf q_number q_lifted 60 v_images v_base v_at v_size v_fault v_opened v_isSeen v_isKeeping v_bubbleMany v_bubbleMost v_bubbleCell v_bestShown v_traceMany v_who v_traced w_29 w_30 hc_28 s.heap.size) (cwV 1 hts gX12_letsBy_X12_ran rfl rfl rfl (by decide +kernel) ⟨show (0) + 1 ≤ fr + 5 by omega, show 8 + (2 + 11) + (0) ≤ lo + 110 by omega⟩) (gPreV (wc := [(q_this, .inr (12, [.ref q_d, .ref q_kept, .int v_images, .ref q_found, .ref q_aside, .int v_base, .int v_at, .int v_size, .int v_fault, .int v_opened, .int v_isSeen, .ref q_names, .ref q_seenKept, .ref q_movedKept, .int v_isKeeping, .int v_bubbleMany, .int v_bubbleMost, .int v_bubbleCell, .int v_bestShown, .ref q_traced, .int v_traceMany, .int v_who, .ref q_bitsOf, .ref q_sizeOf, .ref q_number, .ref q_lifted])), (q_traced, .inl (c 0, 40, .inl v_traced))]) (q := (RX12, TX12, 26)) (ci := 12) (q0 := 0) (isC := [0, 2]) hK hX hS hA hP hD ⟨rfl, rfl, trivial⟩ (by decide +kernel) rfl rfl) rfl rfl hl.1 rfl (lv_room (Nat.le_of_ble_eq_true rfl)) dX12_letsBy_85 ⟨Nat.le_of_ble_eq_true rfl, Nat.le_of_ble_eq_true rfl⟩) (fun H locs hP hD hS => ?_)
        refine lv_aload_n hx hb dX12_letsBy_88 rfl (lv_at hl 0 rfl) ?_
        refine lv_iconst (v := 5) hx hb dX12_letsBy_89 (by decide) ?_
        replace h := kb_ok h
        obtain ⟨r_32, hc_31, h⟩ := h
        refine gCallIr (isC := []) (wc := []) hP hD hS hA trivial (va_runS (rm := rm_X12_above) (ws := wsX12_above) (As := [.int 5]) (rest := [.ref q_this]) (gFix hF) (c_X12_above l D c 5 r_32 hc_31 H.size) (va_cwS 1 hts gX12_letsBy_X12_above rfl rfl rfl (by decide +kernel) ⟨show (0) + 1 ≤ fr + 5 by omega, show 8 + (1 + 11) + (0) ≤ lo + 110 by omega⟩) (gPreS (wc := []) (isC := []) hK hX hS hA hP hD trivial (by decide +kernel)) rfl rfl hl.1 rfl (lv_room (Nat.le_of_ble_eq_true rfl)) dX12_letsBy_90 ⟨Nat.le_of_ble_eq_true rfl, Nat.le_of_ble_eq_true rfl⟩) (fun H locs hP hS => ?_)
        refine lv_iload_n hx hb dX12_letsBy_93 rfl (lv_at hl 2 rfl) ?_
        refine lv_iconst (v := 1) hx hb dX12_letsBy_94 (by decide) ?_
        refine lv_iadd hx hb dX12_letsBy_95 ?_
        replace h := nm_ok h
        obtain ⟨t_33, et_33, h⟩ := h
        refine gTop et_33 ?_
        replace h := kb3_ok h
        obtain ⟨r_35, w_36, w_37, hc_34, h⟩ := h
        refine gCallI (isC := [0, 1, 2]) (wc := [(q_this, .inr (12, [.ref q_d, .ref q_kept, .int v_images, .ref q_found, .ref q_aside, .int v_base, .int v_at, .int v_size, .int v_fault, .int v_opened, .int v_isSeen, .ref q_names, .ref q_seenKept, .ref q_movedKept, .int v_isKeeping, .int v_bubbleMany, .int v_bubbleMost, .int v_bubbleCell, .int v_bestShown, .ref q_traced, .int w_29, .int v_who, .ref q_bitsOf, .ref q_sizeOf, .ref q_number, .ref q_lifted])), (q_d, .inl (c 0, 244, .inl v_d)), (q_traced, .inl (c 0, 40, .inl w_30))]) (w1 := [(q_this, .inr (12, [.ref q_d, .ref q_kept, .int v_images, .ref q_found, .ref q_aside, .int v_base, .int v_at, .int v_size, .int v_fault, .int v_opened, .int v_isSeen, .ref q_names, .ref q_seenKept, .ref q_movedKept, .int v_isKeeping, .int v_bubbleMany, .int v_bubbleMost, .int v_bubbleCell, .int v_bestShown, .ref q_traced, .int w_36, .int v_who, .ref q_bitsOf, .ref q_sizeOf, .ref q_number, .ref q_lifted])), (q_d, .inl (c 0, 244, .inl v_d)), (q_traced, .inl (c 0, 40, .inl w_37))]) (ws2 := [(q_this, .inr (12, [.ref q_d, .ref q_kept, .int v_images, .ref q_found, .ref q_aside, .int v_base, .int v_at, .int v_size, .int v_fault, .int v_opened, .int v_isSeen, .ref q_names, .ref q_seenKept, .ref q_movedKept, .int v_isKeeping, .int v_bubbleMany, .int v_bubbleMost, .int v_bubbleCell, .int v_bestShown, .ref q_traced, .int w_36, .int v_who, .ref q_bitsOf, .ref q_sizeOf, .ref q_number, .ref q_lifted])), (q_d, .inl (c 0, 244, .inl v_d)), (q_traced, .inl (c 0, 40, .inl w_37))]) (ms := [(some 0), (some 1), (some 2)]) hP hD hS hA ⟨rfl, rfl, rfl, trivial⟩ (by decide +kernel) ⟨rfl, rfl, rfl, trivial⟩ (va_runV (rm := { frames := fr, cells := 0, slots := 0, locals := lo }) (ws := wsX12_letsBy) (As := [.int r_32, .int t_33]) (rest := []) (gFix hF) (hu q_this q_d q_kept q_found q_aside q_names q_seenKept q_movedKept q_traced q_bitsOf q_sizeOf q_number q_lifted r_32 t_33 v_images v_base v_at v_size v_fault v_opened v_isSeen v_isKeeping v_bubbleMany v_bubbleMost v_bubbleCell v_bestShown w_29 v_who v_d w_30 r_35 w_36 w_37 hc_34 H.size) (cwV 2 hts gX12_letsBy_X12_letsBy rfl rfl rfl (by decide +kernel) ⟨show (fr) + 1 ≤ fr + 5 by omega, show 8 + (4 + 11) + (lo) ≤ lo + 110 by omega⟩) (gPreV (wc := [(q_this, .inr (12, [.ref q_d, .ref q_kept, .int v_images, .ref q_found, .ref q_aside, .int v_base, .int v_at, .int v_size, .int v_fault, .int v_opened, .int v_isSeen, .ref q_names, .ref q_seenKept, .ref q_movedKept, .int v_isKeeping, .int v_bubbleMany, .int v_bubbleMost, .int v_bubbleCell, .int v_bestShown, .ref q_traced, .int w_29, .int v_who, .ref q_bitsOf, .ref q_sizeOf, .ref q_number, .ref q_lifted])), (q_d, .inl (c 0, 244, .inl v_d)), (q_traced, .inl (c 0, 40, .inl w_30))]) (q := (RX12, TX12, 26)) (ci := 12) (q0 := 0) (isC := [0, 1, 2]) hK hX hS hA hP hD ⟨rfl, rfl, rfl, trivial⟩ (by decide +kernel) rfl rfl) rfl rfl hl.1 rfl (lv_room (Nat.le_of_ble_eq_true rfl)) dX12_letsBy_96 ⟨Nat.le_of_ble_eq_true rfl, Nat.le_of_ble_eq_true rfl⟩) (fun H locs hP hD hS => ?_)
        replace h := so3 h
        obtain ⟨z0, z1, z2⟩ := h
        subst z0 z1 z2
        exact gIret hF hP hD hS rfl dX12_letsBy_99
      · replace h := it_f c_27 h
        refine lv_lookup (x := a_1) (off := 99) (tgt := 100) hx hb dX12_letsBy_1 (by decide +kernel) (by have q0 := gNe (z := 0) (by decide) c_1; have q1 := gNe (z := 2) (by decide) c_11; have q2 := gNe (z := 5) (by decide) c_27; simp [Op.lookupswitch.offset, Ne.symm q0, Ne.symm q1, Ne.symm q2]) (by decide) ?_
        refine lv_aload_n hx hb dX12_letsBy_100 rfl (lv_at hl 0 rfl) ?_
        refine lv_iload_n hx hb dX12_letsBy_101 rfl (lv_at hl 1 rfl) ?_
        replace h := kb_ok h
        obtain ⟨r_39, hc_38, h⟩ := h
        refine gCallIr (isC := []) (wc := []) hP hD hS hA trivial (va_runS (rm := rm_X12_above) (ws := wsX12_above) (As := [.int a_1]) (rest := [.ref q_this]) (gFix hF) (c_X12_above l D c a_1 r_39 hc_38 s.heap.size) (va_cwS 1 hts gX12_letsBy_X12_above rfl rfl rfl (by decide +kernel) ⟨show (0) + 1 ≤ fr + 5 by omega, show 8 + (1 + 11) + (0) ≤ lo + 110 by omega⟩) (gPreS (wc := []) (isC := []) hK hX hS hA hP hD trivial (by decide +kernel)) rfl rfl hl.1 rfl (lv_room (Nat.le_of_ble_eq_true rfl)) dX12_letsBy_102 ⟨Nat.le_of_ble_eq_true rfl, Nat.le_of_ble_eq_true rfl⟩) (fun H locs hP hS => ?_)
        refine lv_iload_n hx hb dX12_letsBy_105 rfl (lv_at hl 2 rfl) ?_
        replace h := kb3_ok h
        obtain ⟨r_41, w_42, w_43, hc_40, h⟩ := h
        refine gCallI (isC := [0, 1, 2]) (wc := [(q_this, .inr (12, [.ref q_d, .ref q_kept, .int v_images, .ref q_found, .ref q_aside, .int v_base, .int v_at, .int v_size, .int v_fault, .int v_opened, .int v_isSeen, .ref q_names, .ref q_seenKept, .ref q_movedKept, .int v_isKeeping, .int v_bubbleMany, .int v_bubbleMost, .int v_bubbleCell, .int v_bestShown, .ref q_traced, .int v_traceMany, .int v_who, .ref q_bitsOf, .ref q_sizeOf, .ref q_number, .ref q_lifted])), (q_d, .inl (c 0, 244, .inl v_d)), (q_traced, .inl (c 0, 40, .inl v_traced))]) (w1 := [(q_this, .inr (12, [.ref q_d, .ref q_kept, .int v_images, .ref q_found, .ref q_aside, .int v_base, .int v_at, .int v_size, .int v_fault, .int v_opened, .int v_isSeen, .ref q_names, .ref q_seenKept, .ref q_movedKept, .int v_isKeeping, .int v_bubbleMany, .int v_bubbleMost, .int v_bubbleCell, .int v_bestShown, .ref q_traced, .int w_42, .int v_who, .ref q_bitsOf, .ref q_sizeOf, .ref q_number, .ref q_lifted])), (q_d, .inl (c 0, 244, .inl v_d)), (q_traced, .inl (c 0, 40, .inl w_43))]) (ws2 := [(q_this, .inr (12, [.ref q_d, .ref q_kept, .int v_images, .ref q_found, .ref q_aside, .int v_base, .int v_at, .int v_size, .int v_fault, .int v_opened, .int v_isSeen, .ref q_names, .ref q_seenKept, .ref q_movedKept, .int v_isKeeping, .int v_bubbleMany, .int v_bubbleMost, .int v_bubbleCell, .int v_bestShown, .ref q_traced, .int w_42, .int v_who, .ref q_bitsOf, .ref q_sizeOf, .ref q_number, .ref q_lifted])), (q_d, .inl (c 0, 244, .inl v_d)), (q_traced, .inl (c 0, 40, .inl w_43))]) (ms := [(some 0), (some 1), (some 2)]) hP hD hS hA ⟨rfl, rfl, rfl, trivial⟩ (by decide +kernel) ⟨rfl, rfl, rfl, trivial⟩ (va_runV (rm := { frames := fr, cells := 0, slots := 0, locals := lo }) (ws := wsX12_letsBy) (As := [.int r_39, .int a_2]) (rest := []) (gFix hF) (hu q_this q_d q_kept q_found q_aside q_names q_seenKept q_movedKept q_traced q_bitsOf q_sizeOf q_number q_lifted r_39 a_2 v_images v_base v_at v_size v_fault v_opened v_isSeen v_isKeeping v_bubbleMany v_bubbleMost v_bubbleCell v_bestShown v_traceMany v_who v_d v_traced r_41 w_42 w_43 hc_40 H.size) (cwV 2 hts gX12_letsBy_X12_letsBy rfl rfl rfl (by decide +kernel) ⟨show (fr) + 1 ≤ fr + 5 by omega, show 8 + (4 + 11) + (lo) ≤ lo + 110 by omega⟩) (gPreV (wc := [(q_this, .inr (12, [.ref q_d, .ref q_kept, .int v_images, .ref q_found, .ref q_aside, .int v_base, .int v_at, .int v_size, .int v_fault, .int v_opened, .int v_isSeen, .ref q_names, .ref q_seenKept, .ref q_movedKept, .int v_isKeeping, .int v_bubbleMany, .int v_bubbleMost, .int v_bubbleCell, .int v_bestShown, .ref q_traced, .int v_traceMany, .int v_who, .ref q_bitsOf, .ref q_sizeOf, .ref q_number, .ref q_lifted])), (q_d, .inl (c 0, 244, .inl v_d)), (q_traced, .inl (c 0, 40, .inl v_traced))]) (q := (RX12, TX12, 26)) (ci := 12) (q0 := 0) (isC := [0, 1, 2]) hK hX hS hA hP hD ⟨rfl, rfl, rfl, trivial⟩ (by decide +kernel) rfl rfl) rfl rfl hl.1 rfl (lv_room (Nat.le_of_ble_eq_true rfl)) dX12_letsBy_106 ⟨Nat.le_of_ble_eq_true rfl, Nat.le_of_ble_eq_true rfl⟩) (fun H locs hP hD hS => ?_)
        replace h := so3 h
        obtain ⟨z0, z1, z2⟩ := h
        subst z0 z1 z2
        exact gIret hF hP hD hS rfl dX12_letsBy_109
def f_X12_letsByN : Nat → Int32 → Int32 → Int32 → Int32 → (Nat → Int32) → (Nat → Int32) → Option (Int32 × Int32 × (Nat → Int32))
  | 0, _, _, _, _, _, _ => none
  | n + 1, a_1, a_2, v_traceMany, v_who, v_d, v_traced => f_X12_letsBy (f_X12_letsByN n) a_1 a_2 v_traceMany v_who v_d v_traced
theorem c_X12_letsByN (l : Launch) (D : va_G) (c : Nat → ClassId) (n : Nat) : ∀ (q_this q_d q_kept q_found q_aside q_names q_seenKept q_movedKept q_traced q_bitsOf q_sizeOf q_number q_lifted : Nat) (a_1 : Int32) (a_2 : Int32) (v_images : Int32) (v_base : Int32) (v_at : Int32) (v_size : Int32) (v_fault : Int32) (v_opened : Int32) (v_isSeen : Int32) (v_isKeeping : Int32) (v_bubbleMany : Int32) (v_bubbleMost : Int32) (v_bubbleCell : Int32) (v_bestShown : Int32) (v_traceMany : Int32) (v_who : Int32) (v_d : Nat → Int32) (v_traced : Nat → Int32) (o_r : Int32) (o_v_traceMany : Int32) (o_v_traced : Nat → Int32), f_X12_letsByN n a_1 a_2 v_traceMany v_who v_d v_traced = some (o_r, o_v_traceMany, o_v_traced) → gMI l yX12_letsBy wsX12_letsBy { frames := 5 * n, cells := 0, slots := 0, locals := 110 * n } D c [.ref q_this, .int a_1, .int a_2] [(q_this, .inr (12, [.ref q_d, .ref q_kept, .int v_images, .ref q_found, .ref q_aside, .int v_base, .int v_at, .int v_size, .int v_fault, .int v_opened, .int v_isSeen, .ref q_names, .ref q_seenKept, .ref q_movedKept, .int v_isKeeping, .int v_bubbleMany, .int v_bubbleMost, .int v_bubbleCell, .int v_bestShown, .ref q_traced, .int v_traceMany, .int v_who, .ref q_bitsOf, .ref q_sizeOf, .ref q_number, .ref q_lifted])), (q_d, .inl (c 0, 244, .inl v_d)), (q_traced, .inl (c 0, 40, .inl v_traced))] [(q_this, .inr (12, [.ref q_d, .ref q_kept, .int v_images, .ref q_found, .ref q_aside, .int v_base, .int v_at, .int v_size, .int v_fault, .int v_opened, .int v_isSeen, .ref q_names, .ref q_seenKept, .ref q_movedKept, .int v_isKeeping, .int v_bubbleMany, .int v_bubbleMost, .int v_bubbleCell, .int v_bestShown, .ref q_traced, .int o_v_traceMany, .int v_who, .ref q_bitsOf, .ref q_sizeOf, .ref q_number, .ref q_lifted])), (q_d, .inl (c 0, 244, .inl v_d)), (q_traced, .inl (c 0, 40, .inl o_v_traced))] o_r := by
  induction n with
  | zero => intros; exact no_ok (by assumption)
  | succ n ih =>
    intro q_this q_d q_kept q_found q_aside q_names q_seenKept q_movedKept q_traced q_bitsOf q_sizeOf q_number q_lifted a_1 a_2 v_images v_base v_at v_size v_fault v_opened v_isSeen v_isKeeping v_bubbleMany v_bubbleMost v_bubbleCell v_bestShown v_traceMany v_who v_d v_traced o_r o_v_traceMany o_v_traced h
    exact c_X12_letsBy l D c (f_X12_letsByN n) (5 * n) (110 * n) ih q_this q_d q_kept q_found q_aside q_names q_seenKept q_movedKept q_traced q_bitsOf q_sizeOf q_number q_lifted a_1 a_2 v_images v_base v_at v_size v_fault v_opened v_isSeen v_isKeeping v_bubbleMany v_bubbleMost v_bubbleCell v_bestShown v_traceMany v_who v_d v_traced o_r o_v_traceMany o_v_traced h

set_option maxRecDepth 20000 in
theorem in_X12_move_X12 : ∀ w ∈ u_ws RX12 TX12 26, w ∈ wsX12_move := by decide +kernel
def f_X12_move_L14 (v_found : Nat → Int32) (v_lifted : Nat → Int32) (v_number : Nat → Int32) : Option (Int32 × (Nat → Int32) × (Nat → Int32) × (Nat → Int32)) :=
  kb2 (f_X12_finds 1 v_found) fun r_28 w_29 =>
  some (r_28, w_29, v_lifted, v_number)

def f_X12_move_L38 (v_found : Nat → Int32) (v_lifted : Nat → Int32) (v_number : Nat → Int32) : Option (Int32 × (Nat → Int32) × (Nat → Int32) × (Nat → Int32)) :=
  kb2 (f_X12_finds 2 v_found) fun r_31 w_32 =>
  some (r_31, w_32, v_lifted, v_number)

def f_X12_move_L106 (v_found : Nat → Int32) (v_lifted : Nat → Int32) (v_number : Nat → Int32) : Option (Int32 × (Nat → Int32) × (Nat → Int32) × (Nat → Int32)) :=
  kb2 (f_X12_finds 1 v_found) fun r_34 w_35 =>
  some (r_34, w_35, v_lifted, v_number)

def f_X12_move_L152 (a_3 : Int32) (a_4 : Int32) (a_5 : Int32) : Nat → Int32 → (Nat → Int32) → (Nat → Int32) → (Nat → Int32) → Option (Int32 × (Nat → Int32) × (Nat → Int32) × (Nat → Int32))
  | 0, _, _, _, _ => none
  | n + 1, x6, v_found, v_lifted, v_number =>
    if a_5 ≤ x6 then
      some (a_5, v_found, v_lifted, v_number)
    else
      nm (40 * a_3 : Int32) fun t_46 =>
      nm (t_46 + a_4 : Int32) fun t_47 =>
      nm (t_47 + x6 : Int32) fun t_48 =>
      chi x6 40 <|
      nm (v_lifted x6.toNatClampNeg : Int32) fun t_50 =>
      chi t_48 160 <|
      nm (upd v_number t_48.toNatClampNeg t_50) fun w_52 =>
      nm (x6 + 1 : Int32) fun t_53 =>
      f_X12_move_L152 a_3 a_4 a_5 n t_53 v_found v_lifted w_52

def f_X12_move_L115 (a_1 : Int32) (a_2 : Int32) (a_3 : Int32) (a_4 : Int32) (a_5 : Int32) : Nat → Int32 → (Nat → Int32) → (Nat → Int32) → (Nat → Int32) → Option (Int32 × (Nat → Int32) × (Nat → Int32) × (Nat → Int32))
  | 0, _, _, _, _ => none
  | n + 1, x6, v_found, v_lifted, v_number =>
    if a_5 ≤ x6 then
      f_X12_move_L152 a_3 a_4 a_5 gFuel 0 v_found v_lifted v_number
    else
      nm (40 * a_1 : Int32) fun t_37 =>
      nm (t_37 + a_2 : Int32) fun t_38 =>
      nm (t_38 + x6 : Int32) fun t_39 =>
      chi t_39 160 <|
      nm (v_number t_39.toNatClampNeg : Int32) fun t_41 =>
      chi x6 40 <|
      nm (upd v_lifted x6.toNatClampNeg t_41) fun w_43 =>
      nm (x6 + 1 : Int32) fun t_44 =>
      f_X12_move_L115 a_1 a_2 a_3 a_4 a_5 n t_44 v_found w_43 v_number

def f_X12_move (a_1 : Int32) (a_2 : Int32) (a_3 : Int32) (a_4 : Int32) (a_5 : Int32) (v_bitsOf : Nat → Int32) (v_found : Nat → Int32) (v_lifted : Nat → Int32) (v_number : Nat → Int32) (v_sizeOf : Nat → Int32) : Option (Int32 × (Nat → Int32) × (Nat → Int32) × (Nat → Int32)) :=
  kb (f_X12_isSheet a_1) fun r_2 =>
  if r_2 = 0 then
    f_X12_move_L14 v_found v_lifted v_number
  else
    kb (f_X12_isSheet a_3) fun r_5 =>
    if r_5 = 0 then
      f_X12_move_L14 v_found v_lifted v_number
    else
      chi a_1 4 <|
      if (v_bitsOf a_1.toNatClampNeg) = 0 then
        f_X12_move_L38 v_found v_lifted v_number
      else
        chi a_3 4 <|
        if (v_bitsOf a_3.toNatClampNeg) = 0 then
          f_X12_move_L38 v_found v_lifted v_number
        else
          chi a_1 4 <|
          nm (v_bitsOf a_1.toNatClampNeg : Int32) fun t_12 =>
          chi a_3 4 <|
          if t_12 = (v_bitsOf a_3.toNatClampNeg) then
            if a_5 < 0 then
              f_X12_move_L106 v_found v_lifted v_number
            else
              if a_2 < 0 then
                f_X12_move_L106 v_found v_lifted v_number
              else
                if a_4 < 0 then
                  f_X12_move_L106 v_found v_lifted v_number
                else
                  chi a_1 4 <|
                  nm (v_sizeOf a_1.toNatClampNeg : Int32) fun t_19 =>
                  if (t_19 - a_2) < a_5 then
                    f_X12_move_L106 v_found v_lifted v_number
                  else
                    chi a_3 4 <|
                    nm (v_sizeOf a_3.toNatClampNeg : Int32) fun t_22 =>
                    if a_5 ≤ (t_22 - a_4) then
                      f_X12_move_L115 a_1 a_2 a_3 a_4 a_5 gFuel 0 v_found v_lifted v_number
                    else
                      f_X12_move_L106 v_found v_lifted v_number
          else
            kb2 (f_X12_finds 5 v_found) fun r_25 w_26 =>
            some (r_25, w_26, v_lifted, v_number)

abbrev rm_X12_move : Room := { frames := 2, cells := 0, slots := 0, locals := 45 }
set_option maxHeartbeats 4000000 in
set_option maxRecDepth 100000 in
theorem c_X12_move (l : Launch) (D : va_G) (c : Nat → ClassId) (q_this q_d q_kept q_found q_aside q_names q_seenKept q_movedKept q_traced q_bitsOf q_sizeOf q_number q_lifted : Nat) (a_1 : Int32) (a_2 : Int32) (a_3 : Int32) (a_4 : Int32) (a_5 : Int32) (v_images : Int32) (v_base : Int32) (v_at : Int32) (v_size : Int32) (v_fault : Int32) (v_opened : Int32) (v_isSeen : Int32) (v_isKeeping : Int32) (v_bubbleMany : Int32) (v_bubbleMost : Int32) (v_bubbleCell : Int32) (v_bestShown : Int32) (v_traceMany : Int32) (v_who : Int32) (v_bitsOf : Nat → Int32) (v_found : Nat → Int32) (v_lifted : Nat → Int32) (v_number : Nat → Int32) (v_sizeOf : Nat → Int32) (o_r : Int32) (o_v_found : Nat → Int32) (o_v_lifted : Nat → Int32) (o_v_number : Nat → Int32) (h : f_X12_move a_1 a_2 a_3 a_4 a_5 v_bitsOf v_found v_lifted v_number v_sizeOf = some (o_r, o_v_found, o_v_lifted, o_v_number)) : gMI l yX12_move wsX12_move rm_X12_move D c [.ref q_this, .int a_1, .int a_2, .int a_3, .int a_4, .int a_5] [(q_this, .inr (12, [.ref q_d, .ref q_kept, .int v_images, .ref q_found, .ref q_aside, .int v_base, .int v_at, .int v_size, .int v_fault, .int v_opened, .int v_isSeen, .ref q_names, .ref q_seenKept, .ref q_movedKept, .int v_isKeeping, .int v_bubbleMany, .int v_bubbleMost, .int v_bubbleCell, .int v_bestShown, .ref q_traced, .int v_traceMany, .int v_who, .ref q_bitsOf, .ref q_sizeOf, .ref q_number, .ref q_lifted])), (q_bitsOf, .inl (c 0, 4, .inl v_bitsOf)), (q_found, .inl (c 0, 6, .inl v_found)), (q_lifted, .inl (c 0, 40, .inl v_lifted)), (q_number, .inl (c 0, 160, .inl v_number)), (q_sizeOf, .inl (c 0, 4, .inl v_sizeOf))] [(q_this, .inr (12, [.ref q_d, .ref q_kept, .int v_images, .ref q_found, .ref q_aside, .int v_base, .int v_at, .int v_size, .int v_fault, .int v_opened, .int v_isSeen, .ref q_names, .ref q_seenKept, .ref q_movedKept, .int v_isKeeping, .int v_bubbleMany, .int v_bubbleMost, .int v_bubbleCell, .int v_bestShown, .ref q_traced, .int v_traceMany, .int v_who, .ref q_bitsOf, .ref q_sizeOf, .ref q_number, .ref q_lifted])), (q_bitsOf, .inl (c 0, 4, .inl v_bitsOf)), (q_found, .inl (c 0, 6, .inl o_v_found)), (q_lifted, .inl (c 0, 40, .inl o_v_lifted)), (q_number, .inl (c 0, 160, .inl o_v_number)), (q_sizeOf, .inl (c 0, 4, .inl v_sizeOf))] o_r := by
  refine gMI_of (cc := cX12_move) (maxL := 7) (rt := (some .int)) (by decide +kernel) rfl (Nat.le_of_ble_eq_true rfl) ?_
  intro p e s m below meth co A hF hK hX hP hD hA hS ls hl
  obtain ⟨hx, hb, hr, hts, hown, hlocks, hml⟩ := id hF
  have hl : lv_has ls 7 [(0, .ref q_this), (1, .int a_1), (2, .int a_2), (3, .int a_3), (4, .int a_4), (5, .int a_5)] := hl
  have t_L14 : ∀ (v_found : Nat → Int32) (v_lifted : Nat → Int32) (v_number : Nat → Int32) (H : Heap) (locs : List Loc), va_P D gcl [(q_this, .inr (12, [.ref q_d, .ref q_kept, .int v_images, .ref q_found, .ref q_aside, .int v_base, .int v_at, .int v_size, .int v_fault, .int v_opened, .int v_isSeen, .ref q_names, .ref q_seenKept, .ref q_movedKept, .int v_isKeeping, .int v_bubbleMany, .int v_bubbleMost, .int v_bubbleCell, .int v_bestShown, .ref q_traced, .int v_traceMany, .int v_who, .ref q_bitsOf, .ref q_sizeOf, .ref q_number, .ref q_lifted])), (q_bitsOf, .inl (c 0, 4, .inl v_bitsOf)), (q_found, .inl (c 0, 6, .inl v_found)), (q_lifted, .inl (c 0, 40, .inl v_lifted)), (q_number, .inl (c 0, 160, .inl v_number)), (q_sizeOf, .inl (c 0, 4, .inl v_sizeOf))] H → va_D A [(q_this, .inr (12, [.ref q_d, .ref q_kept, .int v_images, .ref q_found, .ref q_aside, .int v_base, .int v_at, .int v_size, .int v_fault, .int v_opened, .int v_isSeen, .ref q_names, .ref q_seenKept, .ref q_movedKept, .int v_isKeeping, .int v_bubbleMany, .int v_bubbleMost, .int v_bubbleCell, .int v_bestShown, .ref q_traced, .int v_traceMany, .int v_who, .ref q_bitsOf, .ref q_sizeOf, .ref q_number, .ref q_lifted])), (q_bitsOf, .inl (c 0, 4, .inl v_bitsOf)), (q_found, .inl (c 0, 6, .inl v_found)), (q_lifted, .inl (c 0, 40, .inl v_lifted)), (q_number, .inl (c 0, 160, .inl v_number)), (q_sizeOf, .inl (c 0, 4, .inl v_sizeOf))] → va_S A s.heap H locs → ∀ ls, lv_has ls 7 [(0, .ref q_this)] → f_X12_move_L14 v_found v_lifted v_number = some (o_r, o_v_found, o_v_lifted, o_v_number) → W p l e (headSpec wsX12_move rm_X12_move).room s m [.ref q_this, .int a_1, .int a_2, .int a_3, .int a_4, .int a_5].toArray below meth co H locs 0 0 (gQI D [(q_this, .inr (12, [.ref q_d, .ref q_kept, .int v_images, .ref q_found, .ref q_aside, .int v_base, .int v_at, .int v_size, .int v_fault, .int v_opened, .int v_isSeen, .ref q_names, .ref q_seenKept, .ref q_movedKept, .int v_isKeeping, .int v_bubbleMany, .int v_bubbleMost, .int v_bubbleCell, .int v_bestShown, .ref q_traced, .int v_traceMany, .int v_who, .ref q_bitsOf, .ref q_sizeOf, .ref q_number, .ref q_lifted])), (q_bitsOf, .inl (c 0, 4, .inl v_bitsOf)), (q_found, .inl (c 0, 6, .inl o_v_found)), (q_lifted, .inl (c 0, 40, .inl o_v_lifted)), (q_number, .inl (c 0, 160, .inl o_v_number)), (q_sizeOf, .inl (c 0, 4, .inl v_sizeOf))] o_r A below [.ref q_this, .int a_1, .int a_2, .int a_3, .int a_4, .int a_5] s) (F0 m 14 ls []) := by
    intro  v_found v_lifted v_number H locs hP hD hS ls hl h
    unfold f_X12_move_L14 at h
    refine lv_aload_n hx hb dX12_move_14 rfl (lv_at hl 0 rfl) ?_
    refine lv_iconst (v := 1) hx hb dX12_move_15 (by decide) ?_
    replace h := kb2_ok h
    obtain ⟨r_28, w_29, hc_27, h⟩ := h
    refine gCallI (isC := [0, 2]) (wc := [(q_this, .inr (12, [.ref q_d, .ref q_kept, .int v_images, .ref q_found, .ref q_aside, .int v_base, .int v_at, .int v_size, .int v_fault, .int v_opened, .int v_isSeen, .ref q_names, .ref q_seenKept, .ref q_movedKept, .int v_isKeeping, .int v_bubbleMany, .int v_bubbleMost, .int v_bubbleCell, .int v_bestShown, .ref q_traced, .int v_traceMany, .int v_who, .ref q_bitsOf, .ref q_sizeOf, .ref q_number, .ref q_lifted])), (q_found, .inl (c 0, 6, .inl v_found))]) (w1 := [(q_this, .inr (12, [.ref q_d, .ref q_kept, .int v_images, .ref q_found, .ref q_aside, .int v_base, .int v_at, .int v_size, .int v_fault, .int v_opened, .int v_isSeen, .ref q_names, .ref q_seenKept, .ref q_movedKept, .int v_isKeeping, .int v_bubbleMany, .int v_bubbleMost, .int v_bubbleCell, .int v_bestShown, .ref q_traced, .int v_traceMany, .int v_who, .ref q_bitsOf, .ref q_sizeOf, .ref q_number, .ref q_lifted])), (q_found, .inl (c 0, 6, .inl w_29))]) (ws2 := [(q_this, .inr (12, [.ref q_d, .ref q_kept, .int v_images, .ref q_found, .ref q_aside, .int v_base, .int v_at, .int v_size, .int v_fault, .int v_opened, .int v_isSeen, .ref q_names, .ref q_seenKept, .ref q_movedKept, .int v_isKeeping, .int v_bubbleMany, .int v_bubbleMost, .int v_bubbleCell, .int v_bestShown, .ref q_traced, .int v_traceMany, .int v_who, .ref q_bitsOf, .ref q_sizeOf, .ref q_number, .ref q_lifted])), (q_bitsOf, .inl (c 0, 4, .inl v_bitsOf)), (q_found, .inl (c 0, 6, .inl w_29)), (q_lifted, .inl (c 0, 40, .inl v_lifted)), (q_number, .inl (c 0, 160, .inl v_number)), (q_sizeOf, .inl (c 0, 4, .inl v_sizeOf))]) (ms := [(some 0), none, (some 1), none, none, none]) hP hD hS hA ⟨rfl, rfl, trivial⟩ (by decide +kernel) ⟨rfl, rfl, rfl, rfl, rfl, rfl, trivial⟩ (va_runV (rm := rm_X12_finds) (ws := wsX12_finds) (As := [.int 1]) (rest := []) (gFix hF) (c_X12_finds l D c q_this q_d q_kept q_found q_aside q_names q_seenKept q_movedKept q_traced q_bitsOf q_sizeOf q_number q_lifted 1 v_images v_base v_at v_size v_fault v_opened v_isSeen v_isKeeping v_bubbleMany v_bubbleMost v_bubbleCell v_bestShown v_traceMany v_who v_found r_28 w_29 hc_27 H.size) (cwV 1 hts gX12_move_X12_finds rfl rfl rfl (by decide +kernel) ⟨Nat.le_of_ble_eq_true rfl, Nat.le_of_ble_eq_true rfl⟩) (gPreV (wc := [(q_this, .inr (12, [.ref q_d, .ref q_kept, .int v_images, .ref q_found, .ref q_aside, .int v_base, .int v_at, .int v_size, .int v_fault, .int v_opened, .int v_isSeen, .ref q_names, .ref q_seenKept, .ref q_movedKept, .int v_isKeeping, .int v_bubbleMany, .int v_bubbleMost, .int v_bubbleCell, .int v_bestShown, .ref q_traced, .int v_traceMany, .int v_who, .ref q_bitsOf, .ref q_sizeOf, .ref q_number, .ref q_lifted])), (q_found, .inl (c 0, 6, .inl v_found))]) (q := (RX12, TX12, 26)) (ci := 12) (q0 := 0) (isC := [0, 2]) hK hX hS hA hP hD ⟨rfl, rfl, trivial⟩ (by decide +kernel) rfl rfl) rfl rfl hl.1 rfl (lv_room (Nat.le_of_ble_eq_true rfl)) dX12_move_16 ⟨Nat.le_of_ble_eq_true rfl, Nat.le_of_ble_eq_true rfl⟩) (fun H locs hP hD hS => ?_)
    replace h := so4 h
    obtain ⟨z0, z1, z2, z3⟩ := h
    subst z0 z1 z2 z3
    exact gIret hF hP hD hS rfl dX12_move_19
  have t_L38 : ∀ (v_found : Nat → Int32) (v_lifted : Nat → Int32) (v_number : Nat → Int32) (H : Heap) (locs : List Loc), va_P D gcl [(q_this, .inr (12, [.ref q_d, .ref q_kept, .int v_images, .ref q_found, .ref q_aside, .int v_base, .int v_at, .int v_size, .int v_fault, .int v_opened, .int v_isSeen, .ref q_names, .ref q_seenKept, .ref q_movedKept, .int v_isKeeping, .int v_bubbleMany, .int v_bubbleMost, .int v_bubbleCell, .int v_bestShown, .ref q_traced, .int v_traceMany, .int v_who, .ref q_bitsOf, .ref q_sizeOf, .ref q_number, .ref q_lifted])), (q_bitsOf, .inl (c 0, 4, .inl v_bitsOf)), (q_found, .inl (c 0, 6, .inl v_found)), (q_lifted, .inl (c 0, 40, .inl v_lifted)), (q_number, .inl (c 0, 160, .inl v_number)), (q_sizeOf, .inl (c 0, 4, .inl v_sizeOf))] H → va_D A [(q_this, .inr (12, [.ref q_d, .ref q_kept, .int v_images, .ref q_found, .ref q_aside, .int v_base, .int v_at, .int v_size, .int v_fault, .int v_opened, .int v_isSeen, .ref q_names, .ref q_seenKept, .ref q_movedKept, .int v_isKeeping, .int v_bubbleMany, .int v_bubbleMost, .int v_bubbleCell, .int v_bestShown, .ref q_traced, .int v_traceMany, .int v_who, .ref q_bitsOf, .ref q_sizeOf, .ref q_number, .ref q_lifted])), (q_bitsOf, .inl (c 0, 4, .inl v_bitsOf)), (q_found, .inl (c 0, 6, .inl v_found)), (q_lifted, .inl (c 0, 40, .inl v_lifted)), (q_number, .inl (c 0, 160, .inl v_number)), (q_sizeOf, .inl (c 0, 4, .inl v_sizeOf))] → va_S A s.heap H locs → ∀ ls, lv_has ls 7 [(0, .ref q_this)] → f_X12_move_L38 v_found v_lifted v_number = some (o_r, o_v_found, o_v_lifted, o_v_number) → W p l e (headSpec wsX12_move rm_X12_move).room s m [.ref q_this, .int a_1, .int a_2, .int a_3, .int a_4, .int a_5].toArray below meth co H locs 0 0 (gQI D [(q_this, .inr (12, [.ref q_d, .ref q_kept, .int v_images, .ref q_found, .ref q_aside, .int v_base, .int v_at, .int v_size, .int v_fault, .int v_opened, .int v_isSeen, .ref q_names, .ref q_seenKept, .ref q_movedKept, .int v_isKeeping, .int v_bubbleMany, .int v_bubbleMost, .int v_bubbleCell, .int v_bestShown, .ref q_traced, .int v_traceMany, .int v_who, .ref q_bitsOf, .ref q_sizeOf, .ref q_number, .ref q_lifted])), (q_bitsOf, .inl (c 0, 4, .inl v_bitsOf)), (q_found, .inl (c 0, 6, .inl o_v_found)), (q_lifted, .inl (c 0, 40, .inl o_v_lifted)), (q_number, .inl (c 0, 160, .inl o_v_number)), (q_sizeOf, .inl (c 0, 4, .inl v_sizeOf))] o_r A below [.ref q_this, .int a_1, .int a_2, .int a_3, .int a_4, .int a_5] s) (F0 m 38 ls []) := by
    intro  v_found v_lifted v_number H locs hP hD hS ls hl h
    unfold f_X12_move_L38 at h
    refine lv_aload_n hx hb dX12_move_38 rfl (lv_at hl 0 rfl) ?_
    refine lv_iconst (v := 2) hx hb dX12_move_39 (by decide) ?_
    replace h := kb2_ok h
    obtain ⟨r_31, w_32, hc_30, h⟩ := h
    refine gCallI (isC := [0, 2]) (wc := [(q_this, .inr (12, [.ref q_d, .ref q_kept, .int v_images, .ref q_found, .ref q_aside, .int v_base, .int v_at, .int v_size, .int v_fault, .int v_opened, .int v_isSeen, .ref q_names, .ref q_seenKept, .ref q_movedKept, .int v_isKeeping, .int v_bubbleMany, .int v_bubbleMost, .int v_bubbleCell, .int v_bestShown, .ref q_traced, .int v_traceMany, .int v_who, .ref q_bitsOf, .ref q_sizeOf, .ref q_number, .ref q_lifted])), (q_found, .inl (c 0, 6, .inl v_found))]) (w1 := [(q_this, .inr (12, [.ref q_d, .ref q_kept, .int v_images, .ref q_found, .ref q_aside, .int v_base, .int v_at, .int v_size, .int v_fault, .int v_opened, .int v_isSeen, .ref q_names, .ref q_seenKept, .ref q_movedKept, .int v_isKeeping, .int v_bubbleMany, .int v_bubbleMost, .int v_bubbleCell, .int v_bestShown, .ref q_traced, .int v_traceMany, .int v_who, .ref q_bitsOf, .ref q_sizeOf, .ref q_number, .ref q_lifted])), (q_found, .inl (c 0, 6, .inl w_32))]) (ws2 := [(q_this, .inr (12, [.ref q_d, .ref q_kept, .int v_images, .ref q_found, .ref q_aside, .int v_base, .int v_at, .int v_size, .int v_fault, .int v_opened, .int v_isSeen, .ref q_names, .ref q_seenKept, .ref q_movedKept, .int v_isKeeping, .int v_bubbleMany, .int v_bubbleMost, .int v_bubbleCell, .int v_bestShown, .ref q_traced, .int v_traceMany, .int v_who, .ref q_bitsOf, .ref q_sizeOf, .ref q_number, .ref q_lifted])), (q_bitsOf, .inl (c 0, 4, .inl v_bitsOf)), (q_found, .inl (c 0, 6, .inl w_32)), (q_lifted, .inl (c 0, 40, .inl v_lifted)), (q_number, .inl (c 0, 160, .inl v_number)), (q_sizeOf, .inl (c 0, 4, .inl v_sizeOf))]) (ms := [(some 0), none, (some 1), none, none, none]) hP hD hS hA ⟨rfl, rfl, trivial⟩ (by decide +kernel) ⟨rfl, rfl, rfl, rfl, rfl, rfl, trivial⟩ (va_runV (rm := rm_X12_finds) (ws := wsX12_finds) (As := [.int 2]) (rest := []) (gFix hF) (c_X12_finds l D c q_this q_d q_kept q_found q_aside q_names q_seenKept q_movedKept q_traced q_bitsOf q_sizeOf q_number q_lifted 2 v_images v_base v_at v_size v_fault v_opened v_isSeen v_isKeeping v_bubbleMany v_bubbleMost v_bubbleCell v_bestShown v_traceMany v_who v_found r_31 w_32 hc_30 H.size) (cwV 1 hts gX12_move_X12_finds rfl rfl rfl (by decide +kernel) ⟨Nat.le_of_ble_eq_true rfl, Nat.le_of_ble_eq_true rfl⟩) (gPreV (wc := [(q_this, .inr (12, [.ref q_d, .ref q_kept, .int v_images, .ref q_found, .ref q_aside, .int v_base, .int v_at, .int v_size, .int v_fault, .int v_opened, .int v_isSeen, .ref q_names, .ref q_seenKept, .ref q_movedKept, .int v_isKeeping, .int v_bubbleMany, .int v_bubbleMost, .int v_bubbleCell, .int v_bestShown, .ref q_traced, .int v_traceMany, .int v_who, .ref q_bitsOf, .ref q_sizeOf, .ref q_number, .ref q_lifted])), (q_found, .inl (c 0, 6, .inl v_found))]) (q := (RX12, TX12, 26)) (ci := 12) (q0 := 0) (isC := [0, 2]) hK hX hS hA hP hD ⟨rfl, rfl, trivial⟩ (by decide +kernel) rfl rfl) rfl rfl hl.1 rfl (lv_room (Nat.le_of_ble_eq_true rfl)) dX12_move_40 ⟨Nat.le_of_ble_eq_true rfl, Nat.le_of_ble_eq_true rfl⟩) (fun H locs hP hD hS => ?_)
    replace h := so4 h
    obtain ⟨z0, z1, z2, z3⟩ := h
    subst z0 z1 z2 z3
    exact gIret hF hP hD hS rfl dX12_move_43
  have t_L106 : ∀ (v_found : Nat → Int32) (v_lifted : Nat → Int32) (v_number : Nat → Int32) (H : Heap) (locs : List Loc), va_P D gcl [(q_this, .inr (12, [.ref q_d, .ref q_kept, .int v_images, .ref q_found, .ref q_aside, .int v_base, .int v_at, .int v_size, .int v_fault, .int v_opened, .int v_isSeen, .ref q_names, .ref q_seenKept, .ref q_movedKept, .int v_isKeeping, .int v_bubbleMany, .int v_bubbleMost, .int v_bubbleCell, .int v_bestShown, .ref q_traced, .int v_traceMany, .int v_who, .ref q_bitsOf, .ref q_sizeOf, .ref q_number, .ref q_lifted])), (q_bitsOf, .inl (c 0, 4, .inl v_bitsOf)), (q_found, .inl (c 0, 6, .inl v_found)), (q_lifted, .inl (c 0, 40, .inl v_lifted)), (q_number, .inl (c 0, 160, .inl v_number)), (q_sizeOf, .inl (c 0, 4, .inl v_sizeOf))] H → va_D A [(q_this, .inr (12, [.ref q_d, .ref q_kept, .int v_images, .ref q_found, .ref q_aside, .int v_base, .int v_at, .int v_size, .int v_fault, .int v_opened, .int v_isSeen, .ref q_names, .ref q_seenKept, .ref q_movedKept, .int v_isKeeping, .int v_bubbleMany, .int v_bubbleMost, .int v_bubbleCell, .int v_bestShown, .ref q_traced, .int v_traceMany, .int v_who, .ref q_bitsOf, .ref q_sizeOf, .ref q_number, .ref q_lifted])), (q_bitsOf, .inl (c 0, 4, .inl v_bitsOf)), (q_found, .inl (c 0, 6, .inl v_found)), (q_lifted, .inl (c 0, 40, .inl v_lifted)), (q_number, .inl (c 0, 160, .inl v_number)), (q_sizeOf, .inl (c 0, 4, .inl v_sizeOf))] → va_S A s.heap H locs → ∀ ls, lv_has ls 7 [(0, .ref q_this)] → f_X12_move_L106 v_found v_lifted v_number = some (o_r, o_v_found, o_v_lifted, o_v_number) → W p l e (headSpec wsX12_move rm_X12_move).room s m [.ref q_this, .int a_1, .int a_2, .int a_3, .int a_4, .int a_5].toArray below meth co H locs 0 0 (gQI D [(q_this, .inr (12, [.ref q_d, .ref q_kept, .int v_images, .ref q_found, .ref q_aside, .int v_base, .int v_at, .int v_size, .int v_fault, .int v_opened, .int v_isSeen, .ref q_names, .ref q_seenKept, .ref q_movedKept, .int v_isKeeping, .int v_bubbleMany, .int v_bubbleMost, .int v_bubbleCell, .int v_bestShown, .ref q_traced, .int v_traceMany, .int v_who, .ref q_bitsOf, .ref q_sizeOf, .ref q_number, .ref q_lifted])), (q_bitsOf, .inl (c 0, 4, .inl v_bitsOf)), (q_found, .inl (c 0, 6, .inl o_v_found)), (q_lifted, .inl (c 0, 40, .inl o_v_lifted)), (q_number, .inl (c 0, 160, .inl o_v_number)), (q_sizeOf, .inl (c 0, 4, .inl v_sizeOf))] o_r A below [.ref q_this, .int a_1, .int a_2, .int a_3, .int a_4, .int a_5] s) (F0 m 106 ls []) := by
    intro  v_found v_lifted v_number H locs hP hD hS ls hl h
    unfold f_X12_move_L106 at h
    refine lv_aload_n hx hb dX12_move_106 rfl (lv_at hl 0 rfl) ?_
    refine lv_iconst (v := 1) hx hb dX12_move_107 (by decide) ?_
    replace h := kb2_ok h
    obtain ⟨r_34, w_35, hc_33, h⟩ := h
    refine gCallI (isC := [0, 2]) (wc := [(q_this, .inr (12, [.ref q_d, .ref q_kept, .int v_images, .ref q_found, .ref q_aside, .int v_base, .int v_at, .int v_size, .int v_fault, .int v_opened, .int v_isSeen, .ref q_names, .ref q_seenKept, .ref q_movedKept, .int v_isKeeping, .int v_bubbleMany, .int v_bubbleMost, .int v_bubbleCell, .int v_bestShown, .ref q_traced, .int v_traceMany, .int v_who, .ref q_bitsOf, .ref q_sizeOf, .ref q_number, .ref q_lifted])), (q_found, .inl (c 0, 6, .inl v_found))]) (w1 := [(q_this, .inr (12, [.ref q_d, .ref q_kept, .int v_images, .ref q_found, .ref q_aside, .int v_base, .int v_at, .int v_size, .int v_fault, .int v_opened, .int v_isSeen, .ref q_names, .ref q_seenKept, .ref q_movedKept, .int v_isKeeping, .int v_bubbleMany, .int v_bubbleMost, .int v_bubbleCell, .int v_bestShown, .ref q_traced, .int v_traceMany, .int v_who, .ref q_bitsOf, .ref q_sizeOf, .ref q_number, .ref q_lifted])), (q_found, .inl (c 0, 6, .inl w_35))]) (ws2 := [(q_this, .inr (12, [.ref q_d, .ref q_kept, .int v_images, .ref q_found, .ref q_aside, .int v_base, .int v_at, .int v_size, .int v_fault, .int v_opened, .int v_isSeen, .ref q_names, .ref q_seenKept, .ref q_movedKept, .int v_isKeeping, .int v_bubbleMany, .int v_bubbleMost, .int v_bubbleCell, .int v_bestShown, .ref q_traced, .int v_traceMany, .int v_who, .ref q_bitsOf, .ref q_sizeOf, .ref q_number, .ref q_lifted])), (q_bitsOf, .inl (c 0, 4, .inl v_bitsOf)), (q_found, .inl (c 0, 6, .inl w_35)), (q_lifted, .inl (c 0, 40, .inl v_lifted)), (q_number, .inl (c 0, 160, .inl v_number)), (q_sizeOf, .inl (c 0, 4, .inl v_sizeOf))]) (ms := [(some 0), none, (some 1), none, none, none]) hP hD hS hA ⟨rfl, rfl, trivial⟩ (by decide +kernel) ⟨rfl, rfl, rfl, rfl, rfl, rfl, trivial⟩ (va_runV (rm := rm_X12_finds) (ws := wsX12_finds) (As := [.int 1]) (rest := []) (gFix hF) (c_X12_finds l D c q_this q_d q_kept q_found q_aside q_names q_seenKept q_movedKept q_traced q_bitsOf q_sizeOf q_number q_lifted 1 v_images v_base v_at v_size v_fault v_opened v_isSeen v_isKeeping v_bubbleMany v_bubbleMost v_bubbleCell v_bestShown v_traceMany v_who v_found r_34 w_35 hc_33 H.size) (cwV 1 hts gX12_move_X12_finds rfl rfl rfl (by decide +kernel) ⟨Nat.le_of_ble_eq_true rfl, Nat.le_of_ble_eq_true rfl⟩) (gPreV (wc := [(q_this, .inr (12, [.ref q_d, .ref q_kept, .int v_images, .ref q_found, .ref q_aside, .int v_base, .int v_at, .int v_size, .int v_fault, .int v_opened, .int v_isSeen, .ref q_names, .ref q_seenKept, .ref q_movedKept, .int v_isKeeping, .int v_bubbleMany, .int v_bubbleMost, .int v_bubbleCell, .int v_bestShown, .ref q_traced, .int v_traceMany, .int v_who, .ref q_bitsOf, .ref q_sizeOf, .ref q_number, .ref q_lifted])), (q_found, .inl (c 0, 6, .inl v_found))]) (q := (RX12, TX12, 26)) (ci := 12) (q0 := 0) (isC := [0, 2]) hK hX hS hA hP hD ⟨rfl, rfl, trivial⟩ (by decide +kernel) rfl rfl) rfl rfl hl.1 rfl (lv_room (Nat.le_of_ble_eq_true rfl)) dX12_move_108 ⟨Nat.le_of_ble_eq_true rfl, Nat.le_of_ble_eq_true rfl⟩) (fun H locs hP hD hS => ?_)
    replace h := so4 h
    obtain ⟨z0, z1, z2, z3⟩ := h
    subst z0 z1 z2 z3
    exact gIret hF hP hD hS rfl dX12_move_111
  have t_L152 : ∀ (n : Nat), ∀ (x6 : Int32) (v_found : Nat → Int32) (v_lifted : Nat → Int32) (v_number : Nat → Int32) (H : Heap) (locs : List Loc), va_P D gcl [(q_this, .inr (12, [.ref q_d, .ref q_kept, .int v_images, .ref q_found, .ref q_aside, .int v_base, .int v_at, .int v_size, .int v_fault, .int v_opened, .int v_isSeen, .ref q_names, .ref q_seenKept, .ref q_movedKept, .int v_isKeeping, .int v_bubbleMany, .int v_bubbleMost, .int v_bubbleCell, .int v_bestShown, .ref q_traced, .int v_traceMany, .int v_who, .ref q_bitsOf, .ref q_sizeOf, .ref q_number, .ref q_lifted])), (q_bitsOf, .inl (c 0, 4, .inl v_bitsOf)), (q_found, .inl (c 0, 6, .inl v_found)), (q_lifted, .inl (c 0, 40, .inl v_lifted)), (q_number, .inl (c 0, 160, .inl v_number)), (q_sizeOf, .inl (c 0, 4, .inl v_sizeOf))] H → va_D A [(q_this, .inr (12, [.ref q_d, .ref q_kept, .int v_images, .ref q_found, .ref q_aside, .int v_base, .int v_at, .int v_size, .int v_fault, .int v_opened, .int v_isSeen, .ref q_names, .ref q_seenKept, .ref q_movedKept, .int v_isKeeping, .int v_bubbleMany, .int v_bubbleMost, .int v_bubbleCell, .int v_bestShown, .ref q_traced, .int v_traceMany, .int v_who, .ref q_bitsOf, .ref q_sizeOf, .ref q_number, .ref q_lifted])), (q_bitsOf, .inl (c 0, 4, .inl v_bitsOf)), (q_found, .inl (c 0, 6, .inl v_found)), (q_lifted, .inl (c 0, 40, .inl v_lifted)), (q_number, .inl (c 0, 160, .inl v_number)), (q_sizeOf, .inl (c 0, 4, .inl v_sizeOf))] → va_S A s.heap H locs → ∀ ls, lv_has ls 7 [(0, .ref q_this), (3, .int a_3), (4, .int a_4), (5, .int a_5), (6, .int x6)] → f_X12_move_L152 a_3 a_4 a_5 n x6 v_found v_lifted v_number = some (o_r, o_v_found, o_v_lifted, o_v_number) → W p l e (headSpec wsX12_move rm_X12_move).room s m [.ref q_this, .int a_1, .int a_2, .int a_3, .int a_4, .int a_5].toArray below meth co H locs 0 0 (gQI D [(q_this, .inr (12, [.ref q_d, .ref q_kept, .int v_images, .ref q_found, .ref q_aside, .int v_base, .int v_at, .int v_size, .int v_fault, .int v_opened, .int v_isSeen, .ref q_names, .ref q_seenKept, .ref q_movedKept, .int v_isKeeping, .int v_bubbleMany, .int v_bubbleMost, .int v_bubbleCell, .int v_bestShown, .ref q_traced, .int v_traceMany, .int v_who, .ref q_bitsOf, .ref q_sizeOf, .ref q_number, .ref q_lifted])), (q_bitsOf, .inl (c 0, 4, .inl v_bitsOf)), (q_found, .inl (c 0, 6, .inl o_v_found)), (q_lifted, .inl (c 0, 40, .inl o_v_lifted)), (q_number, .inl (c 0, 160, .inl o_v_number)), (q_sizeOf, .inl (c 0, 4, .inl v_sizeOf))] o_r A below [.ref q_this, .int a_1, .int a_2, .int a_3, .int a_4, .int a_5] s) (F0 m 152 ls []) := by
    intro n
    induction n with
    | zero => intro x6 v_found v_lifted v_number H locs hP hD hS ls hl h; exact no_ok h
    | succ n ih =>
      intro x6 v_found v_lifted v_number H locs hP hD hS ls hl h
      rw [f_X12_move_L152] at h
      refine lv_iload hx hb dX12_move_152 (lv_at hl 4 rfl) ?_
      refine lv_iload hx hb dX12_move_154 (lv_at hl 3 rfl) ?_
      refine lv_icmp_ge (tgt := 187) hx hb dX12_move_156 (by decide) (fun c_45 => ?_) (fun c_45 => ?_)
      · replace h := it_t c_45 h
        refine lv_iload hx hb dX12_move_187 (lv_at hl 3 rfl) ?_
        replace h := so4 h
        obtain ⟨z0, z1, z2, z3⟩ := h
        subst z0 z1 z2 z3
        exact gIret hF hP hD hS rfl dX12_move_189
      · replace h := it_f c_45 h
        refine lv_aload_n hx hb dX12_move_159 rfl (lv_at hl 0 rfl) ?_
        refine va_get (D := D) (ci := 12) (v := .ref q_number) (C := RX12) (T := TX12) (N := 26) hx hb hts in_X12_move_X12 hown hK.1 hP 0 rfl rfl 24 (by decide) (hts (.fieldLink RX12 40 "PaperBubblesModel" "number" "[I") (List.mem_of_getElem? (i := 4) rfl)) (fun _ h9 => h9) rfl dX12_move_160 ?_
        refine lv_bipush (v := 40) hx hb dX12_move_163 (by decide) ?_
        refine lv_iload_n hx hb dX12_move_165 rfl (lv_at hl 1 rfl) ?_
        refine lv_imul hx hb dX12_move_166 ?_
        replace h := nm_ok h
        obtain ⟨t_46, et_46, h⟩ := h
        refine gTop et_46 ?_
        refine lv_iload hx hb dX12_move_167 (lv_at hl 2 rfl) ?_
        refine lv_iadd hx hb dX12_move_169 ?_
        replace h := nm_ok h
        obtain ⟨t_47, et_47, h⟩ := h
        refine gTop et_47 ?_
        refine lv_iload hx hb dX12_move_170 (lv_at hl 4 rfl) ?_
        refine lv_iadd hx hb dX12_move_172 ?_
        replace h := nm_ok h
        obtain ⟨t_48, et_48, h⟩ := h
        refine gTop et_48 ?_
        refine lv_aload_n hx hb dX12_move_173 rfl (lv_at hl 0 rfl) ?_
        refine va_get (D := D) (ci := 12) (v := .ref q_lifted) (C := RX12) (T := TX12) (N := 26) hx hb hts in_X12_move_X12 hown hK.1 hP 0 rfl rfl 25 (by decide) (hts (.fieldLink RX12 43 "PaperBubblesModel" "lifted" "[I") (List.mem_of_getElem? (i := 3) rfl)) (fun _ h9 => h9) rfl dX12_move_174 ?_
        refine lv_iload hx hb dX12_move_177 (lv_at hl 4 rfl) ?_
        replace h := chi_ok h
        obtain ⟨hi_49, h⟩ := h
        refine va_iald hx hb hK.1 hP 3 0 rfl rfl hi_49 dX12_move_179 ?_
        replace h := nm_ok h
        obtain ⟨t_50, et_50, h⟩ := h
        refine gTop et_50 ?_
        replace h := chi_ok h
        obtain ⟨hi_51, h⟩ := h
        replace h := nm_ok h
        obtain ⟨w_52, ew_52, h⟩ := h
        refine va_iast hx hb hK.1 hP hD hS 4 0 rfl rfl hi_51 dX12_move_180 (fun H locs hP hD hS => ?_)
        have hP : va_P D gcl [(q_this, .inr (12, [.ref q_d, .ref q_kept, .int v_images, .ref q_found, .ref q_aside, .int v_base, .int v_at, .int v_size, .int v_fault, .int v_opened, .int v_isSeen, .ref q_names, .ref q_seenKept, .ref q_movedKept, .int v_isKeeping, .int v_bubbleMany, .int v_bubbleMost, .int v_bubbleCell, .int v_bestShown, .ref q_traced, .int v_traceMany, .int v_who, .ref q_bitsOf, .ref q_sizeOf, .ref q_number, .ref q_lifted])), (q_bitsOf, .inl (c 0, 4, .inl v_bitsOf)), (q_found, .inl (c 0, 6, .inl v_found)), (q_lifted, .inl (c 0, 40, .inl v_lifted)), (q_number, .inl (c 0, 160, .inl w_52)), (q_sizeOf, .inl (c 0, 4, .inl v_sizeOf))] H := by subst ew_52; exact hP
        have hD : va_D A [(q_this, .inr (12, [.ref q_d, .ref q_kept, .int v_images, .ref q_found, .ref q_aside, .int v_base, .int v_at, .int v_size, .int v_fault, .int v_opened, .int v_isSeen, .ref q_names, .ref q_seenKept, .ref q_movedKept, .int v_isKeeping, .int v_bubbleMany, .int v_bubbleMost, .int v_bubbleCell, .int v_bestShown, .ref q_traced, .int v_traceMany, .int v_who, .ref q_bitsOf, .ref q_sizeOf, .ref q_number, .ref q_lifted])), (q_bitsOf, .inl (c 0, 4, .inl v_bitsOf)), (q_found, .inl (c 0, 6, .inl v_found)), (q_lifted, .inl (c 0, 40, .inl v_lifted)), (q_number, .inl (c 0, 160, .inl w_52)), (q_sizeOf, .inl (c 0, 4, .inl v_sizeOf))] := by subst ew_52; exact hD
        replace h := nm_ok h
        obtain ⟨t_53, et_53, h⟩ := h
        refine lv_iinc (v := t_53) (lv' := [(6, .int t_53), (0, .ref q_this), (3, .int a_3), (4, .int a_4), (5, .int a_5)]) hx hb dX12_move_181 hl (k := 4) rfl (by rw [et_53]; rfl) (by decide) rfl (fun ls hl => ?_)
        refine lv_goto (tgt := 152) hx hb dX12_move_184 (by decide) ?_
        exact ih t_53 v_found v_lifted w_52 H locs hP hD hS ls (lv_sub hl [1, 2, 3, 4, 0] rfl) h
  have t_L115 : ∀ (n : Nat), ∀ (x6 : Int32) (v_found : Nat → Int32) (v_lifted : Nat → Int32) (v_number : Nat → Int32) (H : Heap) (locs : List Loc), va_P D gcl [(q_this, .inr (12, [.ref q_d, .ref q_kept, .int v_images, .ref q_found, .ref q_aside, .int v_base, .int v_at, .int v_size, .int v_fault, .int v_opened, .int v_isSeen, .ref q_names, .ref q_seenKept, .ref q_movedKept, .int v_isKeeping, .int v_bubbleMany, .int v_bubbleMost, .int v_bubbleCell, .int v_bestShown, .ref q_traced, .int v_traceMany, .int v_who, .ref q_bitsOf, .ref q_sizeOf, .ref q_number, .ref q_lifted])), (q_bitsOf, .inl (c 0, 4, .inl v_bitsOf)), (q_found, .inl (c 0, 6, .inl v_found)), (q_lifted, .inl (c 0, 40, .inl v_lifted)), (q_number, .inl (c 0, 160, .inl v_number)), (q_sizeOf, .inl (c 0, 4, .inl v_sizeOf))] H → va_D A [(q_this, .inr (12, [.ref q_d, .ref q_kept, .int v_images, .ref q_found, .ref q_aside, .int v_base, .int v_at, .int v_size, .int v_fault, .int v_opened, .int v_isSeen, .ref q_names, .ref q_seenKept, .ref q_movedKept, .int v_isKeeping, .int v_bubbleMany, .int v_bubbleMost, .int v_bubbleCell, .int v_bestShown, .ref q_traced, .int v_traceMany, .int v_who, .ref q_bitsOf, .ref q_sizeOf, .ref q_number, .ref q_lifted])), (q_bitsOf, .inl (c 0, 4, .inl v_bitsOf)), (q_found, .inl (c 0, 6, .inl v_found)), (q_lifted, .inl (c 0, 40, .inl v_lifted)), (q_number, .inl (c 0, 160, .inl v_number)), (q_sizeOf, .inl (c 0, 4, .inl v_sizeOf))] → va_S A s.heap H locs → ∀ ls, lv_has ls 7 [(0, .ref q_this), (1, .int a_1), (2, .int a_2), (3, .int a_3), (4, .int a_4), (5, .int a_5), (6, .int x6)] → f_X12_move_L115 a_1 a_2 a_3 a_4 a_5 n x6 v_found v_lifted v_number = some (o_r, o_v_found, o_v_lifted, o_v_number) → W p l e (headSpec wsX12_move rm_X12_move).room s m [.ref q_this, .int a_1, .int a_2, .int a_3, .int a_4, .int a_5].toArray below meth co H locs 0 0 (gQI D [(q_this, .inr (12, [.ref q_d, .ref q_kept, .int v_images, .ref q_found, .ref q_aside, .int v_base, .int v_at, .int v_size, .int v_fault, .int v_opened, .int v_isSeen, .ref q_names, .ref q_seenKept, .ref q_movedKept, .int v_isKeeping, .int v_bubbleMany, .int v_bubbleMost, .int v_bubbleCell, .int v_bestShown, .ref q_traced, .int v_traceMany, .int v_who, .ref q_bitsOf, .ref q_sizeOf, .ref q_number, .ref q_lifted])), (q_bitsOf, .inl (c 0, 4, .inl v_bitsOf)), (q_found, .inl (c 0, 6, .inl o_v_found)), (q_lifted, .inl (c 0, 40, .inl o_v_lifted)), (q_number, .inl (c 0, 160, .inl o_v_number)), (q_sizeOf, .inl (c 0, 4, .inl v_sizeOf))] o_r A below [.ref q_this, .int a_1, .int a_2, .int a_3, .int a_4, .int a_5] s) (F0 m 115 ls []) := by
    intro n
    induction n with
    | zero => intro x6 v_found v_lifted v_number H locs hP hD hS ls hl h; exact no_ok h
    | succ n ih =>
      intro x6 v_found v_lifted v_number H locs hP hD hS ls hl h
      rw [f_X12_move_L115] at h
      refine lv_iload hx hb dX12_move_115 (lv_at hl 6 rfl) ?_
      refine lv_iload hx hb dX12_move_117 (lv_at hl 5 rfl) ?_
      refine lv_icmp_ge (tgt := 149) hx hb dX12_move_119 (by decide) (fun c_36 => ?_) (fun c_36 => ?_)
      · replace h := it_t c_36 h
        refine lv_iconst (v := 0) hx hb dX12_move_149 (by decide) ?_
        refine lv_istore (lv' := [(6, .int 0), (0, .ref q_this), (1, .int a_1), (2, .int a_2), (3, .int a_3), (4, .int a_4), (5, .int a_5)]) hx hb dX12_move_150 hl (by decide) rfl (fun ls hl => ?_)
        exact t_L152 gFuel 0 v_found v_lifted v_number H locs hP hD hS ls (lv_sub hl [1, 4, 5, 6, 0] rfl) h
      · replace h := it_f c_36 h
        refine lv_aload_n hx hb dX12_move_122 rfl (lv_at hl 0 rfl) ?_
        refine va_get (D := D) (ci := 12) (v := .ref q_lifted) (C := RX12) (T := TX12) (N := 26) hx hb hts in_X12_move_X12 hown hK.1 hP 0 rfl rfl 25 (by decide) (hts (.fieldLink RX12 43 "PaperBubblesModel" "lifted" "[I") (List.mem_of_getElem? (i := 3) rfl)) (fun _ h9 => h9) rfl dX12_move_123 ?_
        refine lv_iload hx hb dX12_move_126 (lv_at hl 6 rfl) ?_
        refine lv_aload_n hx hb dX12_move_128 rfl (lv_at hl 0 rfl) ?_
        refine va_get (D := D) (ci := 12) (v := .ref q_number) (C := RX12) (T := TX12) (N := 26) hx hb hts in_X12_move_X12 hown hK.1 hP 0 rfl rfl 24 (by decide) (hts (.fieldLink RX12 40 "PaperBubblesModel" "number" "[I") (List.mem_of_getElem? (i := 4) rfl)) (fun _ h9 => h9) rfl dX12_move_129 ?_
        refine lv_bipush (v := 40) hx hb dX12_move_132 (by decide) ?_
        refine lv_iload_n hx hb dX12_move_134 rfl (lv_at hl 1 rfl) ?_
        refine lv_imul hx hb dX12_move_135 ?_
        replace h := nm_ok h
        obtain ⟨t_37, et_37, h⟩ := h
        refine gTop et_37 ?_
        refine lv_iload_n hx hb dX12_move_136 rfl (lv_at hl 2 rfl) ?_
        refine lv_iadd hx hb dX12_move_137 ?_
        replace h := nm_ok h
        obtain ⟨t_38, et_38, h⟩ := h
        refine gTop et_38 ?_
        refine lv_iload hx hb dX12_move_138 (lv_at hl 6 rfl) ?_
        refine lv_iadd hx hb dX12_move_140 ?_
        replace h := nm_ok h
        obtain ⟨t_39, et_39, h⟩ := h
        refine gTop et_39 ?_
        replace h := chi_ok h
        obtain ⟨hi_40, h⟩ := h
        refine va_iald hx hb hK.1 hP 4 0 rfl rfl hi_40 dX12_move_141 ?_
        replace h := nm_ok h
        obtain ⟨t_41, et_41, h⟩ := h
        refine gTop et_41 ?_
        replace h := chi_ok h
        obtain ⟨hi_42, h⟩ := h
        replace h := nm_ok h
        obtain ⟨w_43, ew_43, h⟩ := h
        refine va_iast hx hb hK.1 hP hD hS 3 0 rfl rfl hi_42 dX12_move_142 (fun H locs hP hD hS => ?_)
        have hP : va_P D gcl [(q_this, .inr (12, [.ref q_d, .ref q_kept, .int v_images, .ref q_found, .ref q_aside, .int v_base, .int v_at, .int v_size, .int v_fault, .int v_opened, .int v_isSeen, .ref q_names, .ref q_seenKept, .ref q_movedKept, .int v_isKeeping, .int v_bubbleMany, .int v_bubbleMost, .int v_bubbleCell, .int v_bestShown, .ref q_traced, .int v_traceMany, .int v_who, .ref q_bitsOf, .ref q_sizeOf, .ref q_number, .ref q_lifted])), (q_bitsOf, .inl (c 0, 4, .inl v_bitsOf)), (q_found, .inl (c 0, 6, .inl v_found)), (q_lifted, .inl (c 0, 40, .inl w_43)), (q_number, .inl (c 0, 160, .inl v_number)), (q_sizeOf, .inl (c 0, 4, .inl v_sizeOf))] H := by subst ew_43; exact hP
        have hD : va_D A [(q_this, .inr (12, [.ref q_d, .ref q_kept, .int v_images, .ref q_found, .ref q_aside, .int v_base, .int v_at, .int v_size, .int v_fault, .int v_opened, .int v_isSeen, .ref q_names, .ref q_seenKept, .ref q_movedKept, .int v_isKeeping, .int v_bubbleMany, .int v_bubbleMost, .int v_bubbleCell, .int v_bestShown, .ref q_traced, .int v_traceMany, .int v_who, .ref q_bitsOf, .ref q_sizeOf, .ref q_number, .ref q_lifted])), (q_bitsOf, .inl (c 0, 4, .inl v_bitsOf)), (q_found, .inl (c 0, 6, .inl v_found)), (q_lifted, .inl (c 0, 40, .inl w_43)), (q_number, .inl (c 0, 160, .inl v_number)), (q_sizeOf, .inl (c 0, 4, .inl v_sizeOf))] := by subst ew_43; exact hD
        replace h := nm_ok h
        obtain ⟨t_44, et_44, h⟩ := h
        refine lv_iinc (v := t_44) (lv' := [(6, .int t_44), (0, .ref q_this), (1, .int a_1), (2, .int a_2), (3, .int a_3), (4, .int a_4), (5, .int a_5)]) hx hb dX12_move_143 hl (k := 6) rfl (by rw [et_44]; rfl) (by decide) rfl (fun ls hl => ?_)
        refine lv_goto (tgt := 115) hx hb dX12_move_146 (by decide) ?_
        exact ih t_44 v_found w_43 v_number H locs hP hD hS ls (lv_sub hl [1, 2, 3, 4, 5, 6, 0] rfl) h
  unfold f_X12_move at h
  refine lv_iload_n hx hb dX12_move_0 rfl (lv_at hl 1 rfl) ?_
  replace h := kb_ok h
  obtain ⟨r_2, hc_1, h⟩ := h
  refine gCallIr (isC := []) (wc := []) hP hD hS hA trivial (va_runS (rm := rm_X12_isSheet) (ws := wsX12_isSheet) (As := [.int a_1]) (rest := []) (gFix hF) (c_X12_isSheet l D c a_1 r_2 hc_1 s.heap.size) (va_cwS 1 hts gX12_move_X12_isSheet rfl rfl rfl (by decide +kernel) ⟨Nat.le_of_ble_eq_true rfl, Nat.le_of_ble_eq_true rfl⟩) (gPreS (wc := []) (isC := []) hK hX hS hA hP hD trivial (by decide +kernel)) rfl rfl hl.1 rfl (lv_room (Nat.le_of_ble_eq_true rfl)) dX12_move_1 ⟨Nat.le_of_ble_eq_true rfl, Nat.le_of_ble_eq_true rfl⟩) (fun H locs hP hS => ?_)
  refine lv_if_eq (tgt := 14) hx hb dX12_move_4 (by decide) (fun c_3 => ?_) (fun c_3 => ?_)
  · replace h := it_t c_3 h
    exact t_L14 v_found v_lifted v_number H locs hP hD hS ls (lv_sub hl [0] rfl) h
  · replace h := it_f c_3 h
    refine lv_iload_n hx hb dX12_move_7 rfl (lv_at hl 3 rfl) ?_
    replace h := kb_ok h
    obtain ⟨r_5, hc_4, h⟩ := h
    refine gCallIr (isC := []) (wc := []) hP hD hS hA trivial (va_runS (rm := rm_X12_isSheet) (ws := wsX12_isSheet) (As := [.int a_3]) (rest := []) (gFix hF) (c_X12_isSheet l D c a_3 r_5 hc_4 H.size) (va_cwS 1 hts gX12_move_X12_isSheet rfl rfl rfl (by decide +kernel) ⟨Nat.le_of_ble_eq_true rfl, Nat.le_of_ble_eq_true rfl⟩) (gPreS (wc := []) (isC := []) hK hX hS hA hP hD trivial (by decide +kernel)) rfl rfl hl.1 rfl (lv_room (Nat.le_of_ble_eq_true rfl)) dX12_move_8 ⟨Nat.le_of_ble_eq_true rfl, Nat.le_of_ble_eq_true rfl⟩) (fun H locs hP hS => ?_)
    refine lv_if_ne (tgt := 20) hx hb dX12_move_11 (by decide) (fun c_6 => ?_) (fun c_6 => ?_)
    · replace h := it_f c_6 h
      refine lv_aload_n hx hb dX12_move_20 rfl (lv_at hl 0 rfl) ?_
      refine va_get (D := D) (ci := 12) (v := .ref q_bitsOf) (C := RX12) (T := TX12) (N := 26) hx hb hts in_X12_move_X12 hown hK.1 hP 0 rfl rfl 22 (by decide) (hts (.fieldLink RX12 34 "PaperBubblesModel" "bitsOf" "[I") (List.mem_of_getElem? (i := 1) rfl)) (fun _ h9 => h9) rfl dX12_move_21 ?_
      refine lv_iload_n hx hb dX12_move_24 rfl (lv_at hl 1 rfl) ?_
      replace h := chi_ok h
      obtain ⟨hi_7, h⟩ := h
      refine va_iald hx hb hK.1 hP 1 0 rfl rfl hi_7 dX12_move_25 ?_
      refine lv_if_eq (tgt := 38) hx hb dX12_move_26 (by decide) (fun c_8 => ?_) (fun c_8 => ?_)
      · replace h := it_t c_8 h
        exact t_L38 v_found v_lifted v_number H locs hP hD hS ls (lv_sub hl [0] rfl) h
      · replace h := it_f c_8 h
        refine lv_aload_n hx hb dX12_move_29 rfl (lv_at hl 0 rfl) ?_
        refine va_get (D := D) (ci := 12) (v := .ref q_bitsOf) (C := RX12) (T := TX12) (N := 26) hx hb hts in_X12_move_X12 hown hK.1 hP 0 rfl rfl 22 (by decide) (hts (.fieldLink RX12 34 "PaperBubblesModel" "bitsOf" "[I") (List.mem_of_getElem? (i := 1) rfl)) (fun _ h9 => h9) rfl dX12_move_30 ?_
        refine lv_iload_n hx hb dX12_move_33 rfl (lv_at hl 3 rfl) ?_
        replace h := chi_ok h
        obtain ⟨hi_9, h⟩ := h
        refine va_iald hx hb hK.1 hP 1 0 rfl rfl hi_9 dX12_move_34 ?_
        refine lv_if_ne (tgt := 44) hx hb dX12_move_35 (by decide) (fun c_10 => ?_) (fun c_10 => ?_)
        · replace h := it_f c_10 h
          refine lv_aload_n hx hb dX12_move_44 rfl (lv_at hl 0 rfl) ?_
          refine va_get (D := D) (ci := 12) (v := .ref q_bitsOf) (C := RX12) (T := TX12) (N := 26) hx hb hts in_X12_move_X12 hown hK.1 hP 0 rfl rfl 22 (by decide) (hts (.fieldLink RX12 34 "PaperBubblesModel" "bitsOf" "[I") (List.mem_of_getElem? (i := 1) rfl)) (fun _ h9 => h9) rfl dX12_move_45 ?_
          refine lv_iload_n hx hb dX12_move_48 rfl (lv_at hl 1 rfl) ?_
          replace h := chi_ok h
          obtain ⟨hi_11, h⟩ := h
          refine va_iald hx hb hK.1 hP 1 0 rfl rfl hi_11 dX12_move_49 ?_
          replace h := nm_ok h
          obtain ⟨t_12, et_12, h⟩ := h
          refine gTop et_12 ?_
          refine lv_aload_n hx hb dX12_move_50 rfl (lv_at hl 0 rfl) ?_
          refine va_get (D := D) (ci := 12) (v := .ref q_bitsOf) (C := RX12) (T := TX12) (N := 26) hx hb hts in_X12_move_X12 hown hK.1 hP 0 rfl rfl 22 (by decide) (hts (.fieldLink RX12 34 "PaperBubblesModel" "bitsOf" "[I") (List.mem_of_getElem? (i := 1) rfl)) (fun _ h9 => h9) rfl dX12_move_51 ?_
          refine lv_iload_n hx hb dX12_move_54 rfl (lv_at hl 3 rfl) ?_
          replace h := chi_ok h
          obtain ⟨hi_13, h⟩ := h
          refine va_iald hx hb hK.1 hP 1 0 rfl rfl hi_13 dX12_move_55 ?_
          refine lv_icmp_eq (tgt := 65) hx hb dX12_move_56 (by decide) (fun c_14 => ?_) (fun c_14 => ?_)
          · replace h := it_t c_14 h
            refine lv_iload hx hb dX12_move_65 (lv_at hl 5 rfl) ?_
            refine lv_if_lt (tgt := 106) hx hb dX12_move_67 (by decide) (fun c_15 => ?_) (fun c_15 => ?_)
            · replace h := it_t c_15 h
              exact t_L106 v_found v_lifted v_number H locs hP hD hS ls (lv_sub hl [0] rfl) h
            · replace h := it_f c_15 h
              refine lv_iload_n hx hb dX12_move_70 rfl (lv_at hl 2 rfl) ?_
              refine lv_if_lt (tgt := 106) hx hb dX12_move_71 (by decide) (fun c_16 => ?_) (fun c_16 => ?_)
              · replace h := it_t c_16 h
                exact t_L106 v_found v_lifted v_number H locs hP hD hS ls (lv_sub hl [0] rfl) h
              · replace h := it_f c_16 h
                refine lv_iload hx hb dX12_move_74 (lv_at hl 4 rfl) ?_
                refine lv_if_lt (tgt := 106) hx hb dX12_move_76 (by decide) (fun c_17 => ?_) (fun c_17 => ?_)
                · replace h := it_t c_17 h
                  exact t_L106 v_found v_lifted v_number H locs hP hD hS ls (lv_sub hl [0] rfl) h
                · replace h := it_f c_17 h
                  refine lv_iload hx hb dX12_move_79 (lv_at hl 5 rfl) ?_
                  refine lv_aload_n hx hb dX12_move_81 rfl (lv_at hl 0 rfl) ?_
                  refine va_get (D := D) (ci := 12) (v := .ref q_sizeOf) (C := RX12) (T := TX12) (N := 26) hx hb hts in_X12_move_X12 hown hK.1 hP 0 rfl rfl 23 (by decide) (hts (.fieldLink RX12 37 "PaperBubblesModel" "sizeOf" "[I") (List.mem_of_getElem? (i := 2) rfl)) (fun _ h9 => h9) rfl dX12_move_82 ?_
                  refine lv_iload_n hx hb dX12_move_85 rfl (lv_at hl 1 rfl) ?_
                  replace h := chi_ok h
                  obtain ⟨hi_18, h⟩ := h
                  refine va_iald hx hb hK.1 hP 5 0 rfl rfl hi_18 dX12_move_86 ?_
                  replace h := nm_ok h
                  obtain ⟨t_19, et_19, h⟩ := h
                  refine gTop et_19 ?_
                  refine lv_iload_n hx hb dX12_move_87 rfl (lv_at hl 2 rfl) ?_
                  refine lv_isub hx hb dX12_move_88 ?_
                  refine lv_icmp_gt (tgt := 106) hx hb dX12_move_89 (by decide) (fun c_20 => ?_) (fun c_20 => ?_)
                  · replace h := it_t c_20 h
                    exact t_L106 v_found v_lifted v_number H locs hP hD hS ls (lv_sub hl [0] rfl) h
                  · replace h := it_f c_20 h
                    refine lv_iload hx hb dX12_move_92 (lv_at hl 5 rfl) ?_
                    refine lv_aload_n hx hb dX12_move_94 rfl (lv_at hl 0 rfl) ?_
                    refine va_get (D := D) (ci := 12) (v := .ref q_sizeOf) (C := RX12) (T := TX12) (N := 26) hx hb hts in_X12_move_X12 hown hK.1 hP 0 rfl rfl 23 (by decide) (hts (.fieldLink RX12 37 "PaperBubblesModel" "sizeOf" "[I") (List.mem_of_getElem? (i := 2) rfl)) (fun _ h9 => h9) rfl dX12_move_95 ?_
                    refine lv_iload_n hx hb dX12_move_98 rfl (lv_at hl 3 rfl) ?_
                    replace h := chi_ok h
                    obtain ⟨hi_21, h⟩ := h
                    refine va_iald hx hb hK.1 hP 5 0 rfl rfl hi_21 dX12_move_99 ?_
                    replace h := nm_ok h
                    obtain ⟨t_22, et_22, h⟩ := h
                    refine gTop et_22 ?_
                    refine lv_iload hx hb dX12_move_100 (lv_at hl 4 rfl) ?_
                    refine lv_isub hx hb dX12_move_102 ?_
                    refine lv_icmp_le (tgt := 112) hx hb dX12_move_103 (by decide) (fun c_23 => ?_) (fun c_23 => ?_)
                    · replace h := it_t c_23 h
                      refine lv_iconst (v := 0) hx hb dX12_move_112 (by decide) ?_
                      refine lv_istore (lv' := [(6, .int 0), (0, .ref q_this), (1, .int a_1), (2, .int a_2), (3, .int a_3), (4, .int a_4), (5, .int a_5)]) hx hb dX12_move_113 hl (by decide) rfl (fun ls hl => ?_)
                      exact t_L115 gFuel 0 v_found v_lifted v_number H locs hP hD hS ls (lv_sub hl [1, 2, 3, 4, 5, 6, 0] rfl) h
                    · replace h := it_f c_23 h
                      exact t_L106 v_found v_lifted v_number H locs hP hD hS ls (lv_sub hl [0] rfl) h
          · replace h := it_f c_14 h
            refine lv_aload_n hx hb dX12_move_59 rfl (lv_at hl 0 rfl) ?_
            refine lv_iconst (v := 5) hx hb dX12_move_60 (by decide) ?_
            replace h := kb2_ok h
            obtain ⟨r_25, w_26, hc_24, h⟩ := h
            refine gCallI (isC := [0, 2]) (wc := [(q_this, .inr (12, [.ref q_d, .ref q_kept, .int v_images, .ref q_found, .ref q_aside, .int v_base, .int v_at, .int v_size, .int v_fault, .int v_opened, .int v_isSeen, .ref q_names, .ref q_seenKept, .ref q_movedKept, .int v_isKeeping, .int v_bubbleMany, .int v_bubbleMost, .int v_bubbleCell, .int v_bestShown, .ref q_traced, .int v_traceMany, .int v_who, .ref q_bitsOf, .ref q_sizeOf, .ref q_number, .ref q_lifted])), (q_found, .inl (c 0, 6, .inl v_found))]) (w1 := [(q_this, .inr (12, [.ref q_d, .ref q_kept, .int v_images, .ref q_found, .ref q_aside, .int v_base, .int v_at, .int v_size, .int v_fault, .int v_opened, .int v_isSeen, .ref q_names, .ref q_seenKept, .ref q_movedKept, .int v_isKeeping, .int v_bubbleMany, .int v_bubbleMost, .int v_bubbleCell, .int v_bestShown, .ref q_traced, .int v_traceMany, .int v_who, .ref q_bitsOf, .ref q_sizeOf, .ref q_number, .ref q_lifted])), (q_found, .inl (c 0, 6, .inl w_26))]) (ws2 := [(q_this, .inr (12, [.ref q_d, .ref q_kept, .int v_images, .ref q_found, .ref q_aside, .int v_base, .int v_at, .int v_size, .int v_fault, .int v_opened, .int v_isSeen, .ref q_names, .ref q_seenKept, .ref q_movedKept, .int v_isKeeping, .int v_bubbleMany, .int v_bubbleMost, .int v_bubbleCell, .int v_bestShown, .ref q_traced, .int v_traceMany, .int v_who, .ref q_bitsOf, .ref q_sizeOf, .ref q_number, .ref q_lifted])), (q_bitsOf, .inl (c 0, 4, .inl v_bitsOf)), (q_found, .inl (c 0, 6, .inl w_26)), (q_lifted, .inl (c 0, 40, .inl v_lifted)), (q_number, .inl (c 0, 160, .inl v_number)), (q_sizeOf, .inl (c 0, 4, .inl v_sizeOf))]) (ms := [(some 0), none, (some 1), none, none, none]) hP hD hS hA ⟨rfl, rfl, trivial⟩ (by decide +kernel) ⟨rfl, rfl, rfl, rfl, rfl, rfl, trivial⟩ (va_runV (rm := rm_X12_finds) (ws := wsX12_finds) (As := [.int 5]) (rest := []) (gFix hF) (c_X12_finds l D c q_this q_d q_kept q_found q_aside q_names q_seenKept q_movedKept q_traced q_bitsOf q_sizeOf q_number q_lifted 5 v_images v_base v_at v_size v_fault v_opened v_isSeen v_isKeeping v_bubbleMany v_bubbleMost v_bubbleCell v_bestShown v_traceMany v_who v_found r_25 w_26 hc_24 H.size) (cwV 1 hts gX12_move_X12_finds rfl rfl rfl (by decide +kernel) ⟨Nat.le_of_ble_eq_true rfl, Nat.le_of_ble_eq_true rfl⟩) (gPreV (wc := [(q_this, .inr (12, [.ref q_d, .ref q_kept, .int v_images, .ref q_found, .ref q_aside, .int v_base, .int v_at, .int v_size, .int v_fault, .int v_opened, .int v_isSeen, .ref q_names, .ref q_seenKept, .ref q_movedKept, .int v_isKeeping, .int v_bubbleMany, .int v_bubbleMost, .int v_bubbleCell, .int v_bestShown, .ref q_traced, .int v_traceMany, .int v_who, .ref q_bitsOf, .ref q_sizeOf, .ref q_number, .ref q_lifted])), (q_found, .inl (c 0, 6, .inl v_found))]) (q := (RX12, TX12, 26)) (ci := 12) (q0 := 0) (isC := [0, 2]) hK hX hS hA hP hD ⟨rfl, rfl, trivial⟩ (by decide +kernel) rfl rfl) rfl rfl hl.1 rfl (lv_room (Nat.le_of_ble_eq_true rfl)) dX12_move_61 ⟨Nat.le_of_ble_eq_true rfl, Nat.le_of_ble_eq_true rfl⟩) (fun H locs hP hD hS => ?_)
            replace h := so4 h
            obtain ⟨z0, z1, z2, z3⟩ := h
            subst z0 z1 z2 z3
            exact gIret hF hP hD hS rfl dX12_move_64
        · replace h := it_t c_10 h
          exact t_L38 v_found v_lifted v_number H locs hP hD hS ls (lv_sub hl [0] rfl) h
    · replace h := it_t c_6 h
      exact t_L14 v_found v_lifted v_number H locs hP hD hS ls (lv_sub hl [0] rfl) h
set_option maxRecDepth 20000 in
theorem in_X12_needs_X12 : ∀ w ∈ u_ws RX12 TX12 26, w ∈ wsX12_needs := by decide +kernel
def f_X12_needs_L20 (v_found : Nat → Int32) : Option (Int32 × (Nat → Int32)) :=
  kb2 (f_X12_finds 1 v_found) fun r_8 w_9 =>
  some (r_8, w_9)

def f_X12_needs_L28 (a_1 : Int32) (a_2 : Int32) (v_d : Nat → Int32) : Nat → Int32 → (Nat → Int32) → Option (Int32 × (Nat → Int32))
  | 0, _, _ => none
  | n + 1, x3, v_found =>
    if 9 < x3 then
      kb2 (f_X12_finds 2 v_found) fun r_12 w_13 =>
      some (r_12, w_13)
    else
      nm (10 + a_1 : Int32) fun t_14 =>
      chi t_14 244 <|
      nm (v_d t_14.toNatClampNeg : Int32) fun t_16 =>
      kb (f_X12_goneWith t_16 x3 a_2) fun r_18 =>
      if r_18 < 0 then
        nm (x3 + 1 : Int32) fun t_20 =>
        f_X12_needs_L28 a_1 a_2 v_d n t_20 v_found
      else
        some (x3, v_found)

def f_X12_needs (a_1 : Int32) (a_2 : Int32) (v_d : Nat → Int32) (v_found : Nat → Int32) : Option (Int32 × (Nat → Int32)) :=
  kb (f_X12_isCell a_1 v_d) fun r_2 =>
  if r_2 = 0 then
    f_X12_needs_L20 v_found
  else
    kb (f_X12_in ((a_2 : Int32).toInt64) 0 30) fun r_5 =>
    if r_5 = 0 then
      f_X12_needs_L20 v_found
    else
      f_X12_needs_L28 a_1 a_2 v_d gFuel 0 v_found

abbrev rm_X12_needs : Room := { frames := 2, cells := 0, slots := 0, locals := 46 }
set_option maxHeartbeats 4000000 in
set_option maxRecDepth 100000 in
theorem c_X12_needs (l : Launch) (D : va_G) (c : Nat → ClassId) (q_this q_d q_kept q_found q_aside q_names q_seenKept q_movedKept q_traced q_bitsOf q_sizeOf q_number q_lifted : Nat) (a_1 : Int32) (a_2 : Int32) (v_images : Int32) (v_base : Int32) (v_at : Int32) (v_size : Int32) (v_fault : Int32) (v_opened : Int32) (v_isSeen : Int32) (v_isKeeping : Int32) (v_bubbleMany : Int32) (v_bubbleMost : Int32) (v_bubbleCell : Int32) (v_bestShown : Int32) (v_traceMany : Int32) (v_who : Int32) (v_d : Nat → Int32) (v_found : Nat → Int32) (o_r : Int32) (o_v_found : Nat → Int32) (h : f_X12_needs a_1 a_2 v_d v_found = some (o_r, o_v_found)) : gMI l yX12_needs wsX12_needs rm_X12_needs D c [.ref q_this, .int a_1, .int a_2] [(q_this, .inr (12, [.ref q_d, .ref q_kept, .int v_images, .ref q_found, .ref q_aside, .int v_base, .int v_at, .int v_size, .int v_fault, .int v_opened, .int v_isSeen, .ref q_names, .ref q_seenKept, .ref q_movedKept, .int v_isKeeping, .int v_bubbleMany, .int v_bubbleMost, .int v_bubbleCell, .int v_bestShown, .ref q_traced, .int v_traceMany, .int v_who, .ref q_bitsOf, .ref q_sizeOf, .ref q_number, .ref q_lifted])), (q_d, .inl (c 0, 244, .inl v_d)), (q_found, .inl (c 0, 6, .inl v_found))] [(q_this, .inr (12, [.ref q_d, .ref q_kept, .int v_images, .ref q_found, .ref q_aside, .int v_base, .int v_at, .int v_size, .int v_fault, .int v_opened, .int v_isSeen, .ref q_names, .ref q_seenKept, .ref q_movedKept, .int v_isKeeping, .int v_bubbleMany, .int v_bubbleMost, .int v_bubbleCell, .int v_bestShown, .ref q_traced, .int v_traceMany, .int v_who, .ref q_bitsOf, .ref q_sizeOf, .ref q_number, .ref q_lifted])), (q_d, .inl (c 0, 244, .inl v_d)), (q_found, .inl (c 0, 6, .inl o_v_found))] o_r := by
  refine gMI_of (cc := cX12_needs) (maxL := 4) (rt := (some .int)) (by decide +kernel) rfl (Nat.le_of_ble_eq_true rfl) ?_
  intro p e s m below meth co A hF hK hX hP hD hA hS ls hl
  obtain ⟨hx, hb, hr, hts, hown, hlocks, hml⟩ := id hF
  have hl : lv_has ls 4 [(0, .ref q_this), (1, .int a_1), (2, .int a_2)] := hl
  have t_L20 : ∀ (v_found : Nat → Int32) (H : Heap) (locs : List Loc), va_P D gcl [(q_this, .inr (12, [.ref q_d, .ref q_kept, .int v_images, .ref q_found, .ref q_aside, .int v_base, .int v_at, .int v_size, .int v_fault, .int v_opened, .int v_isSeen, .ref q_names, .ref q_seenKept, .ref q_movedKept, .int v_isKeeping, .int v_bubbleMany, .int v_bubbleMost, .int v_bubbleCell, .int v_bestShown, .ref q_traced, .int v_traceMany, .int v_who, .ref q_bitsOf, .ref q_sizeOf, .ref q_number, .ref q_lifted])), (q_d, .inl (c 0, 244, .inl v_d)), (q_found, .inl (c 0, 6, .inl v_found))] H → va_D A [(q_this, .inr (12, [.ref q_d, .ref q_kept, .int v_images, .ref q_found, .ref q_aside, .int v_base, .int v_at, .int v_size, .int v_fault, .int v_opened, .int v_isSeen, .ref q_names, .ref q_seenKept, .ref q_movedKept, .int v_isKeeping, .int v_bubbleMany, .int v_bubbleMost, .int v_bubbleCell, .int v_bestShown, .ref q_traced, .int v_traceMany, .int v_who, .ref q_bitsOf, .ref q_sizeOf, .ref q_number, .ref q_lifted])), (q_d, .inl (c 0, 244, .inl v_d)), (q_found, .inl (c 0, 6, .inl v_found))] → va_S A s.heap H locs → ∀ ls, lv_has ls 4 [(0, .ref q_this)] → f_X12_needs_L20 v_found = some (o_r, o_v_found) → W p l e (headSpec wsX12_needs rm_X12_needs).room s m [.ref q_this, .int a_1, .int a_2].toArray below meth co H locs 0 0 (gQI D [(q_this, .inr (12, [.ref q_d, .ref q_kept, .int v_images, .ref q_found, .ref q_aside, .int v_base, .int v_at, .int v_size, .int v_fault, .int v_opened, .int v_isSeen, .ref q_names, .ref q_seenKept, .ref q_movedKept, .int v_isKeeping, .int v_bubbleMany, .int v_bubbleMost, .int v_bubbleCell, .int v_bestShown, .ref q_traced, .int v_traceMany, .int v_who, .ref q_bitsOf, .ref q_sizeOf, .ref q_number, .ref q_lifted])), (q_d, .inl (c 0, 244, .inl v_d)), (q_found, .inl (c 0, 6, .inl o_v_found))] o_r A below [.ref q_this, .int a_1, .int a_2] s) (F0 m 20 ls []) := by
    intro  v_found H locs hP hD hS ls hl h
    unfold f_X12_needs_L20 at h
    refine lv_aload_n hx hb dX12_needs_20 rfl (lv_at hl 0 rfl) ?_
    refine lv_iconst (v := 1) hx hb dX12_needs_21 (by decide) ?_
    replace h := kb2_ok h
    obtain ⟨r_8, w_9, hc_7, h⟩ := h
    refine gCallI (isC := [0, 2]) (wc := [(q_this, .inr (12, [.ref q_d, .ref q_kept, .int v_images, .ref q_found, .ref q_aside, .int v_base, .int v_at, .int v_size, .int v_fault, .int v_opened, .int v_isSeen, .ref q_names, .ref q_seenKept, .ref q_movedKept, .int v_isKeeping, .int v_bubbleMany, .int v_bubbleMost, .int v_bubbleCell, .int v_bestShown, .ref q_traced, .int v_traceMany, .int v_who, .ref q_bitsOf, .ref q_sizeOf, .ref q_number, .ref q_lifted])), (q_found, .inl (c 0, 6, .inl v_found))]) (w1 := [(q_this, .inr (12, [.ref q_d, .ref q_kept, .int v_images, .ref q_found, .ref q_aside, .int v_base, .int v_at, .int v_size, .int v_fault, .int v_opened, .int v_isSeen, .ref q_names, .ref q_seenKept, .ref q_movedKept, .int v_isKeeping, .int v_bubbleMany, .int v_bubbleMost, .int v_bubbleCell, .int v_bestShown, .ref q_traced, .int v_traceMany, .int v_who, .ref q_bitsOf, .ref q_sizeOf, .ref q_number, .ref q_lifted])), (q_found, .inl (c 0, 6, .inl w_9))]) (ws2 := [(q_this, .inr (12, [.ref q_d, .ref q_kept, .int v_images, .ref q_found, .ref q_aside, .int v_base, .int v_at, .int v_size, .int v_fault, .int v_opened, .int v_isSeen, .ref q_names, .ref q_seenKept, .ref q_movedKept, .int v_isKeeping, .int v_bubbleMany, .int v_bubbleMost, .int v_bubbleCell, .int v_bestShown, .ref q_traced, .int v_traceMany, .int v_who, .ref q_bitsOf, .ref q_sizeOf, .ref q_number, .ref q_lifted])), (q_d, .inl (c 0, 244, .inl v_d)), (q_found, .inl (c 0, 6, .inl w_9))]) (ms := [(some 0), none, (some 1)]) hP hD hS hA ⟨rfl, rfl, trivial⟩ (by decide +kernel) ⟨rfl, rfl, rfl, trivial⟩ (va_runV (rm := rm_X12_finds) (ws := wsX12_finds) (As := [.int 1]) (rest := []) (gFix hF) (c_X12_finds l D c q_this q_d q_kept q_found q_aside q_names q_seenKept q_movedKept q_traced q_bitsOf q_sizeOf q_number q_lifted 1 v_images v_base v_at v_size v_fault v_opened v_isSeen v_isKeeping v_bubbleMany v_bubbleMost v_bubbleCell v_bestShown v_traceMany v_who v_found r_8 w_9 hc_7 H.size) (cwV 1 hts gX12_needs_X12_finds rfl rfl rfl (by decide +kernel) ⟨Nat.le_of_ble_eq_true rfl, Nat.le_of_ble_eq_true rfl⟩) (gPreV (wc := [(q_this, .inr (12, [.ref q_d, .ref q_kept, .int v_images, .ref q_found, .ref q_aside, .int v_base, .int v_at, .int v_size, .int v_fault, .int v_opened, .int v_isSeen, .ref q_names, .ref q_seenKept, .ref q_movedKept, .int v_isKeeping, .int v_bubbleMany, .int v_bubbleMost, .int v_bubbleCell, .int v_bestShown, .ref q_traced, .int v_traceMany, .int v_who, .ref q_bitsOf, .ref q_sizeOf, .ref q_number, .ref q_lifted])), (q_found, .inl (c 0, 6, .inl v_found))]) (q := (RX12, TX12, 26)) (ci := 12) (q0 := 0) (isC := [0, 2]) hK hX hS hA hP hD ⟨rfl, rfl, trivial⟩ (by decide +kernel) rfl rfl) rfl rfl hl.1 rfl (lv_room (Nat.le_of_ble_eq_true rfl)) dX12_needs_22 ⟨Nat.le_of_ble_eq_true rfl, Nat.le_of_ble_eq_true rfl⟩) (fun H locs hP hD hS => ?_)
    replace h := so2 h
    obtain ⟨z0, z1⟩ := h
    subst z0 z1
    exact gIret hF hP hD hS rfl dX12_needs_25
  have t_L28 : ∀ (n : Nat), ∀ (x3 : Int32) (v_found : Nat → Int32) (H : Heap) (locs : List Loc), va_P D gcl [(q_this, .inr (12, [.ref q_d, .ref q_kept, .int v_images, .ref q_found, .ref q_aside, .int v_base, .int v_at, .int v_size, .int v_fault, .int v_opened, .int v_isSeen, .ref q_names, .ref q_seenKept, .ref q_movedKept, .int v_isKeeping, .int v_bubbleMany, .int v_bubbleMost, .int v_bubbleCell, .int v_bestShown, .ref q_traced, .int v_traceMany, .int v_who, .ref q_bitsOf, .ref q_sizeOf, .ref q_number, .ref q_lifted])), (q_d, .inl (c 0, 244, .inl v_d)), (q_found, .inl (c 0, 6, .inl v_found))] H → va_D A [(q_this, .inr (12, [.ref q_d, .ref q_kept, .int v_images, .ref q_found, .ref q_aside, .int v_base, .int v_at, .int v_size, .int v_fault, .int v_opened, .int v_isSeen, .ref q_names, .ref q_seenKept, .ref q_movedKept, .int v_isKeeping, .int v_bubbleMany, .int v_bubbleMost, .int v_bubbleCell, .int v_bestShown, .ref q_traced, .int v_traceMany, .int v_who, .ref q_bitsOf, .ref q_sizeOf, .ref q_number, .ref q_lifted])), (q_d, .inl (c 0, 244, .inl v_d)), (q_found, .inl (c 0, 6, .inl v_found))] → va_S A s.heap H locs → ∀ ls, lv_has ls 4 [(0, .ref q_this), (1, .int a_1), (2, .int a_2), (3, .int x3)] → f_X12_needs_L28 a_1 a_2 v_d n x3 v_found = some (o_r, o_v_found) → W p l e (headSpec wsX12_needs rm_X12_needs).room s m [.ref q_this, .int a_1, .int a_2].toArray below meth co H locs 0 0 (gQI D [(q_this, .inr (12, [.ref q_d, .ref q_kept, .int v_images, .ref q_found, .ref q_aside, .int v_base, .int v_at, .int v_size, .int v_fault, .int v_opened, .int v_isSeen, .ref q_names, .ref q_seenKept, .ref q_movedKept, .int v_isKeeping, .int v_bubbleMany, .int v_bubbleMost, .int v_bubbleCell, .int v_bestShown, .ref q_traced, .int v_traceMany, .int v_who, .ref q_bitsOf, .ref q_sizeOf, .ref q_number, .ref q_lifted])), (q_d, .inl (c 0, 244, .inl v_d)), (q_found, .inl (c 0, 6, .inl o_v_found))] o_r A below [.ref q_this, .int a_1, .int a_2] s) (F0 m 28 ls []) := by
    intro n
    induction n with
    | zero => intro x3 v_found H locs hP hD hS ls hl h; exact no_ok h
    | succ n ih =>
      intro x3 v_found H locs hP hD hS ls hl h
      rw [f_X12_needs_L28] at h
      refine lv_iload_n hx hb dX12_needs_28 rfl (lv_at hl 3 rfl) ?_
      refine lv_bipush (v := 9) hx hb dX12_needs_29 (by decide) ?_
      refine lv_icmp_gt (tgt := 59) hx hb dX12_needs_31 (by decide) (fun c_10 => ?_) (fun c_10 => ?_)
      · replace h := it_t c_10 h
        refine lv_aload_n hx hb dX12_needs_59 rfl (lv_at hl 0 rfl) ?_
        refine lv_iconst (v := 2) hx hb dX12_needs_60 (by decide) ?_
        replace h := kb2_ok h
        obtain ⟨r_12, w_13, hc_11, h⟩ := h
        refine gCallI (isC := [0, 2]) (wc := [(q_this, .inr (12, [.ref q_d, .ref q_kept, .int v_images, .ref q_found, .ref q_aside, .int v_base, .int v_at, .int v_size, .int v_fault, .int v_opened, .int v_isSeen, .ref q_names, .ref q_seenKept, .ref q_movedKept, .int v_isKeeping, .int v_bubbleMany, .int v_bubbleMost, .int v_bubbleCell, .int v_bestShown, .ref q_traced, .int v_traceMany, .int v_who, .ref q_bitsOf, .ref q_sizeOf, .ref q_number, .ref q_lifted])), (q_found, .inl (c 0, 6, .inl v_found))]) (w1 := [(q_this, .inr (12, [.ref q_d, .ref q_kept, .int v_images, .ref q_found, .ref q_aside, .int v_base, .int v_at, .int v_size, .int v_fault, .int v_opened, .int v_isSeen, .ref q_names, .ref q_seenKept, .ref q_movedKept, .int v_isKeeping, .int v_bubbleMany, .int v_bubbleMost, .int v_bubbleCell, .int v_bestShown, .ref q_traced, .int v_traceMany, .int v_who, .ref q_bitsOf, .ref q_sizeOf, .ref q_number, .ref q_lifted])), (q_found, .inl (c 0, 6, .inl w_13))]) (ws2 := [(q_this, .inr (12, [.ref q_d, .ref q_kept, .int v_images, .ref q_found, .ref q_aside, .int v_base, .int v_at, .int v_size, .int v_fault, .int v_opened, .int v_isSeen, .ref q_names, .ref q_seenKept, .ref q_movedKept, .int v_isKeeping, .int v_bubbleMany, .int v_bubbleMost, .int v_bubbleCell, .int v_bestShown, .ref q_traced, .int v_traceMany, .int v_who, .ref q_bitsOf, .ref q_sizeOf, .ref q_number, .ref q_lifted])), (q_d, .inl (c 0, 244, .inl v_d)), (q_found, .inl (c 0, 6, .inl w_13))]) (ms := [(some 0), none, (some 1)]) hP hD hS hA ⟨rfl, rfl, trivial⟩ (by decide +kernel) ⟨rfl, rfl, rfl, trivial⟩ (va_runV (rm := rm_X12_finds) (ws := wsX12_finds) (As := [.int 2]) (rest := []) (gFix hF) (c_X12_finds l D c q_this q_d q_kept q_found q_aside q_names q_seenKept q_movedKept q_traced q_bitsOf q_sizeOf q_number q_lifted 2 v_images v_base v_at v_size v_fault v_opened v_isSeen v_isKeeping v_bubbleMany v_bubbleMost v_bubbleCell v_bestShown v_traceMany v_who v_found r_12 w_13 hc_11 H.size) (cwV 1 hts gX12_needs_X12_finds rfl rfl rfl (by decide +kernel) ⟨Nat.le_of_ble_eq_true rfl, Nat.le_of_ble_eq_true rfl⟩) (gPreV (wc := [(q_this, .inr (12, [.ref q_d, .ref q_kept, .int v_images, .ref q_found, .ref q_aside, .int v_base, .int v_at, .int v_size, .int v_fault, .int v_opened, .int v_isSeen, .ref q_names, .ref q_seenKept, .ref q_movedKept, .int v_isKeeping, .int v_bubbleMany, .int v_bubbleMost, .int v_bubbleCell, .int v_bestShown, .ref q_traced, .int v_traceMany, .int v_who, .ref q_bitsOf, .ref q_sizeOf, .ref q_number, .ref q_lifted])), (q_found, .inl (c 0, 6, .inl v_found))]) (q := (RX12, TX12, 26)) (ci := 12) (q0 := 0) (isC := [0, 2]) hK hX hS hA hP hD ⟨rfl, rfl, trivial⟩ (by decide +kernel) rfl rfl) rfl rfl hl.1 rfl (lv_room (Nat.le_of_ble_eq_true rfl)) dX12_needs_61 ⟨Nat.le_of_ble_eq_true rfl, Nat.le_of_ble_eq_true rfl⟩) (fun H locs hP hD hS => ?_)
        replace h := so2 h
        obtain ⟨z0, z1⟩ := h
        subst z0 z1
        exact gIret hF hP hD hS rfl dX12_needs_64
      · replace h := it_f c_10 h
        refine lv_aload_n hx hb dX12_needs_34 rfl (lv_at hl 0 rfl) ?_
        refine va_get (D := D) (ci := 12) (v := .ref q_d) (C := RX12) (T := TX12) (N := 26) hx hb hts in_X12_needs_X12 hown hK.1 hP 0 rfl rfl 0 (by decide) (hts (.fieldLink RX12 7 "PaperBubblesModel" "d" "[I") (List.mem_of_getElem? (i := 2) rfl)) (fun _ h9 => h9) rfl dX12_needs_35 ?_
        refine lv_bipush (v := 10) hx hb dX12_needs_38 (by decide) ?_
        refine lv_iload_n hx hb dX12_needs_40 rfl (lv_at hl 1 rfl) ?_
        refine lv_iadd hx hb dX12_needs_41 ?_
        replace h := nm_ok h
        obtain ⟨t_14, et_14, h⟩ := h
        refine gTop et_14 ?_
        replace h := chi_ok h
        obtain ⟨hi_15, h⟩ := h
        refine va_iald hx hb hK.1 hP 1 0 rfl rfl hi_15 dX12_needs_42 ?_
        replace h := nm_ok h
        obtain ⟨t_16, et_16, h⟩ := h
        refine gTop et_16 ?_
        refine lv_iload_n hx hb dX12_needs_43 rfl (lv_at hl 3 rfl) ?_
        refine lv_iload_n hx hb dX12_needs_44 rfl (lv_at hl 2 rfl) ?_
        replace h := kb_ok h
        obtain ⟨r_18, hc_17, h⟩ := h
        refine gCallIr (isC := []) (wc := []) hP hD hS hA trivial (va_runS (rm := rm_X12_goneWith) (ws := wsX12_goneWith) (As := [.int t_16, .int x3, .int a_2]) (rest := []) (gFix hF) (c_X12_goneWith l D c t_16 x3 a_2 r_18 hc_17 H.size) (va_cwS 3 hts gX12_needs_X12_goneWith rfl rfl rfl (by decide +kernel) ⟨Nat.le_of_ble_eq_true rfl, Nat.le_of_ble_eq_true rfl⟩) (gPreS (wc := []) (isC := []) hK hX hS hA hP hD trivial (by decide +kernel)) rfl rfl hl.1 rfl (lv_room (Nat.le_of_ble_eq_true rfl)) dX12_needs_45 ⟨Nat.le_of_ble_eq_true rfl, Nat.le_of_ble_eq_true rfl⟩) (fun H locs hP hS => ?_)
        refine lv_if_lt (tgt := 53) hx hb dX12_needs_48 (by decide) (fun c_19 => ?_) (fun c_19 => ?_)
        · replace h := it_t c_19 h
          replace h := nm_ok h
          obtain ⟨t_20, et_20, h⟩ := h
          refine lv_iinc (v := t_20) (lv' := [(3, .int t_20), (0, .ref q_this), (1, .int a_1), (2, .int a_2)]) hx hb dX12_needs_53 hl (k := 3) rfl (by rw [et_20]; rfl) (by decide) rfl (fun ls hl => ?_)
          refine lv_goto (tgt := 28) hx hb dX12_needs_56 (by decide) ?_
          exact ih t_20 v_found H locs hP hD hS ls (lv_sub hl [1, 2, 3, 0] rfl) h
        · replace h := it_f c_19 h
          refine lv_iload_n hx hb dX12_needs_51 rfl (lv_at hl 3 rfl) ?_
          replace h := so2 h
          obtain ⟨z0, z1⟩ := h
          subst z0 z1
          exact gIret hF hP hD hS rfl dX12_needs_52
  unfold f_X12_needs at h
  refine lv_aload_n hx hb dX12_needs_0 rfl (lv_at hl 0 rfl) ?_
  refine lv_iload_n hx hb dX12_needs_1 rfl (lv_at hl 1 rfl) ?_
  replace h := kb_ok h
  obtain ⟨r_2, hc_1, h⟩ := h
  refine gCallIr (isC := [0, 1]) (wc := [(q_this, .inr (12, [.ref q_d, .ref q_kept, .int v_images, .ref q_found, .ref q_aside, .int v_base, .int v_at, .int v_size, .int v_fault, .int v_opened, .int v_isSeen, .ref q_names, .ref q_seenKept, .ref q_movedKept, .int v_isKeeping, .int v_bubbleMany, .int v_bubbleMost, .int v_bubbleCell, .int v_bestShown, .ref q_traced, .int v_traceMany, .int v_who, .ref q_bitsOf, .ref q_sizeOf, .ref q_number, .ref q_lifted])), (q_d, .inl (c 0, 244, .inl v_d))]) hP hD hS hA ⟨rfl, rfl, trivial⟩ (va_runV (rm := rm_X12_isCell) (ws := wsX12_isCell) (As := [.int a_1]) (rest := []) (gFix hF) (c_X12_isCell l D c q_this q_d q_kept q_found q_aside q_names q_seenKept q_movedKept q_traced q_bitsOf q_sizeOf q_number q_lifted a_1 v_images v_base v_at v_size v_fault v_opened v_isSeen v_isKeeping v_bubbleMany v_bubbleMost v_bubbleCell v_bestShown v_traceMany v_who v_d r_2 hc_1 s.heap.size) (cwV 1 hts gX12_needs_X12_isCell rfl rfl rfl (by decide +kernel) ⟨Nat.le_of_ble_eq_true rfl, Nat.le_of_ble_eq_true rfl⟩) (gPreV (wc := [(q_this, .inr (12, [.ref q_d, .ref q_kept, .int v_images, .ref q_found, .ref q_aside, .int v_base, .int v_at, .int v_size, .int v_fault, .int v_opened, .int v_isSeen, .ref q_names, .ref q_seenKept, .ref q_movedKept, .int v_isKeeping, .int v_bubbleMany, .int v_bubbleMost, .int v_bubbleCell, .int v_bestShown, .ref q_traced, .int v_traceMany, .int v_who, .ref q_bitsOf, .ref q_sizeOf, .ref q_number, .ref q_lifted])), (q_d, .inl (c 0, 244, .inl v_d))]) (q := (RX12, TX12, 26)) (ci := 12) (q0 := 0) (isC := [0, 1]) hK hX hS hA hP hD ⟨rfl, rfl, trivial⟩ (by decide +kernel) rfl rfl) rfl rfl hl.1 rfl (lv_room (Nat.le_of_ble_eq_true rfl)) dX12_needs_2 ⟨Nat.le_of_ble_eq_true rfl, Nat.le_of_ble_eq_true rfl⟩) (fun H locs hP hS => ?_)
  refine lv_if_eq (tgt := 20) hx hb dX12_needs_5 (by decide) (fun c_3 => ?_) (fun c_3 => ?_)
  · replace h := it_t c_3 h
    exact t_L20 v_found H locs hP hD hS ls (lv_sub hl [0] rfl) h
  · replace h := it_f c_3 h
    refine lv_iload_n hx hb dX12_needs_8 rfl (lv_at hl 2 rfl) ?_
    refine lv_i2l hx hb dX12_needs_9 rfl ?_
    refine lv_lconst (v := 0) hx hb dX12_needs_10 (by decide) ?_
    refine lv_ldc2 (v := 30) hx hb hown (hts (.constantLong RX12 209 (30)) (List.mem_of_getElem? (i := 1) rfl)) dX12_needs_11 ?_
    replace h := kb_ok h
    obtain ⟨r_5, hc_4, h⟩ := h
    refine gCallIr (isC := []) (wc := []) hP hD hS hA trivial (va_runS (rm := rm_X12_in) (ws := wsX12_in) (As := [.long ((a_2 : Int32).toInt64), .long 0, .long 30]) (rest := []) (gFix hF) (c_X12_in l D c ((a_2 : Int32).toInt64) 0 30 r_5 hc_4 H.size) (va_cwS 3 hts gX12_needs_X12_in rfl rfl rfl (by decide +kernel) ⟨Nat.le_of_ble_eq_true rfl, Nat.le_of_ble_eq_true rfl⟩) (gPreS (wc := []) (isC := []) hK hX hS hA hP hD trivial (by decide +kernel)) rfl rfl hl.1 rfl (lv_room (Nat.le_of_ble_eq_true rfl)) dX12_needs_14 ⟨Nat.le_of_ble_eq_true rfl, Nat.le_of_ble_eq_true rfl⟩) (fun H locs hP hS => ?_)
    refine lv_if_ne (tgt := 26) hx hb dX12_needs_17 (by decide) (fun c_6 => ?_) (fun c_6 => ?_)
    · replace h := it_f c_6 h
      refine lv_iconst (v := 0) hx hb dX12_needs_26 (by decide) ?_
      refine lv_istore_n (lv' := [(3, .int 0), (0, .ref q_this), (1, .int a_1), (2, .int a_2)]) hx hb dX12_needs_27 rfl hl (by decide) rfl (fun ls hl => ?_)
      exact t_L28 gFuel 0 v_found H locs hP hD hS ls (lv_sub hl [1, 2, 3, 0] rfl) h
    · replace h := it_t c_6 h
      exact t_L20 v_found H locs hP hD hS ls (lv_sub hl [0] rfl) h
set_option maxRecDepth 20000 in
theorem in_X12_never_X12 : ∀ w ∈ u_ws RX12 TX12 26, w ∈ wsX12_never := by decide +kernel
def f_X12_never_L4 (v_d : Nat → Int32) : Nat → Int32 → Int32 → Option (Int32)
  | 0, _, _ => none
  | n + 1, x1, x2 =>
    kb (f_X12_cells v_d) fun r_2 =>
    if r_2 ≤ x2 then
      some x1
    else
      nm (10 + x2 : Int32) fun t_4 =>
      chi t_4 244 <|
      nm (v_d t_4.toNatClampNeg : Int32) fun t_6 =>
      nm (35 + x2 : Int32) fun t_7 =>
      chi t_7 244 <|
      nm (v_d t_7.toNatClampNeg : Int32) fun t_9 =>
      kb (f_X12_goneWith t_6 t_9 30) fun r_11 =>
      if 0 ≤ r_11 then
        nm (x1 + 0 : Int32) fun t_13 =>
        nm (x2 + 1 : Int32) fun t_14 =>
        f_X12_never_L4 v_d n t_13 t_14
      else
        nm (x1 + 1 : Int32) fun t_15 =>
        nm (x2 + 1 : Int32) fun t_16 =>
        f_X12_never_L4 v_d n t_15 t_16

def f_X12_never (v_d : Nat → Int32) : Option (Int32) :=
  f_X12_never_L4 v_d gFuel 0 0

abbrev rm_X12_never : Room := { frames := 1, cells := 0, slots := 0, locals := 25 }
set_option maxHeartbeats 4000000 in
set_option maxRecDepth 100000 in
theorem c_X12_never (l : Launch) (D : va_G) (c : Nat → ClassId) (q_this q_d q_kept q_found q_aside q_names q_seenKept q_movedKept q_traced q_bitsOf q_sizeOf q_number q_lifted : Nat) (v_images : Int32) (v_base : Int32) (v_at : Int32) (v_size : Int32) (v_fault : Int32) (v_opened : Int32) (v_isSeen : Int32) (v_isKeeping : Int32) (v_bubbleMany : Int32) (v_bubbleMost : Int32) (v_bubbleCell : Int32) (v_bestShown : Int32) (v_traceMany : Int32) (v_who : Int32) (v_d : Nat → Int32) (o_r : Int32) (h : f_X12_never v_d = some o_r) : gMI l yX12_never wsX12_never rm_X12_never D c [.ref q_this] [(q_this, .inr (12, [.ref q_d, .ref q_kept, .int v_images, .ref q_found, .ref q_aside, .int v_base, .int v_at, .int v_size, .int v_fault, .int v_opened, .int v_isSeen, .ref q_names, .ref q_seenKept, .ref q_movedKept, .int v_isKeeping, .int v_bubbleMany, .int v_bubbleMost, .int v_bubbleCell, .int v_bestShown, .ref q_traced, .int v_traceMany, .int v_who, .ref q_bitsOf, .ref q_sizeOf, .ref q_number, .ref q_lifted])), (q_d, .inl (c 0, 244, .inl v_d))] [(q_this, .inr (12, [.ref q_d, .ref q_kept, .int v_images, .ref q_found, .ref q_aside, .int v_base, .int v_at, .int v_size, .int v_fault, .int v_opened, .int v_isSeen, .ref q_names, .ref q_seenKept, .ref q_movedKept, .int v_isKeeping, .int v_bubbleMany, .int v_bubbleMost, .int v_bubbleCell, .int v_bestShown, .ref q_traced, .int v_traceMany, .int v_who, .ref q_bitsOf, .ref q_sizeOf, .ref q_number, .ref q_lifted])), (q_d, .inl (c 0, 244, .inl v_d))] o_r := by
  refine gMI_of (cc := cX12_never) (maxL := 3) (rt := (some .int)) (by decide +kernel) rfl (Nat.le_of_ble_eq_true rfl) ?_
  intro p e s m below meth co A hF hK hX hP hD hA hS ls hl
  obtain ⟨hx, hb, hr, hts, hown, hlocks, hml⟩ := id hF
  have hl : lv_has ls 3 [(0, .ref q_this)] := hl
  have t_L4 : ∀ (n : Nat), ∀ (x1 : Int32) (x2 : Int32) (H : Heap) (locs : List Loc), va_P D gcl [(q_this, .inr (12, [.ref q_d, .ref q_kept, .int v_images, .ref q_found, .ref q_aside, .int v_base, .int v_at, .int v_size, .int v_fault, .int v_opened, .int v_isSeen, .ref q_names, .ref q_seenKept, .ref q_movedKept, .int v_isKeeping, .int v_bubbleMany, .int v_bubbleMost, .int v_bubbleCell, .int v_bestShown, .ref q_traced, .int v_traceMany, .int v_who, .ref q_bitsOf, .ref q_sizeOf, .ref q_number, .ref q_lifted])), (q_d, .inl (c 0, 244, .inl v_d))] H → va_D A [(q_this, .inr (12, [.ref q_d, .ref q_kept, .int v_images, .ref q_found, .ref q_aside, .int v_base, .int v_at, .int v_size, .int v_fault, .int v_opened, .int v_isSeen, .ref q_names, .ref q_seenKept, .ref q_movedKept, .int v_isKeeping, .int v_bubbleMany, .int v_bubbleMost, .int v_bubbleCell, .int v_bestShown, .ref q_traced, .int v_traceMany, .int v_who, .ref q_bitsOf, .ref q_sizeOf, .ref q_number, .ref q_lifted])), (q_d, .inl (c 0, 244, .inl v_d))] → va_S A s.heap H locs → ∀ ls, lv_has ls 3 [(0, .ref q_this), (1, .int x1), (2, .int x2)] → f_X12_never_L4 v_d n x1 x2 = some o_r → W p l e (headSpec wsX12_never rm_X12_never).room s m [.ref q_this].toArray below meth co H locs 0 0 (gQI D [(q_this, .inr (12, [.ref q_d, .ref q_kept, .int v_images, .ref q_found, .ref q_aside, .int v_base, .int v_at, .int v_size, .int v_fault, .int v_opened, .int v_isSeen, .ref q_names, .ref q_seenKept, .ref q_movedKept, .int v_isKeeping, .int v_bubbleMany, .int v_bubbleMost, .int v_bubbleCell, .int v_bestShown, .ref q_traced, .int v_traceMany, .int v_who, .ref q_bitsOf, .ref q_sizeOf, .ref q_number, .ref q_lifted])), (q_d, .inl (c 0, 244, .inl v_d))] o_r A below [.ref q_this] s) (F0 m 4 ls []) := by
    intro n
    induction n with
    | zero => intro x1 x2 H locs hP hD hS ls hl h; exact no_ok h
    | succ n ih =>
      intro x1 x2 H locs hP hD hS ls hl h
      rw [f_X12_never_L4] at h
      refine lv_iload_n hx hb dX12_never_4 rfl (lv_at hl 2 rfl) ?_
      refine lv_aload_n hx hb dX12_never_5 rfl (lv_at hl 0 rfl) ?_
      replace h := kb_ok h
      obtain ⟨r_2, hc_1, h⟩ := h
      refine gCallIr (isC := [0, 1]) (wc := [(q_this, .inr (12, [.ref q_d, .ref q_kept, .int v_images, .ref q_found, .ref q_aside, .int v_base, .int v_at, .int v_size, .int v_fault, .int v_opened, .int v_isSeen, .ref q_names, .ref q_seenKept, .ref q_movedKept, .int v_isKeeping, .int v_bubbleMany, .int v_bubbleMost, .int v_bubbleCell, .int v_bestShown, .ref q_traced, .int v_traceMany, .int v_who, .ref q_bitsOf, .ref q_sizeOf, .ref q_number, .ref q_lifted])), (q_d, .inl (c 0, 244, .inl v_d))]) hP hD hS hA ⟨rfl, rfl, trivial⟩ (va_runV (rm := rm_X12_cells) (ws := wsX12_cells) (As := []) (rest := [.int x2]) (gFix hF) (c_X12_cells l D c q_this q_d q_kept q_found q_aside q_names q_seenKept q_movedKept q_traced q_bitsOf q_sizeOf q_number q_lifted v_images v_base v_at v_size v_fault v_opened v_isSeen v_isKeeping v_bubbleMany v_bubbleMost v_bubbleCell v_bestShown v_traceMany v_who v_d r_2 hc_1 H.size) (cwV 0 hts gX12_never_X12_cells rfl rfl rfl (by decide +kernel) ⟨Nat.le_of_ble_eq_true rfl, Nat.le_of_ble_eq_true rfl⟩) (gPreV (wc := [(q_this, .inr (12, [.ref q_d, .ref q_kept, .int v_images, .ref q_found, .ref q_aside, .int v_base, .int v_at, .int v_size, .int v_fault, .int v_opened, .int v_isSeen, .ref q_names, .ref q_seenKept, .ref q_movedKept, .int v_isKeeping, .int v_bubbleMany, .int v_bubbleMost, .int v_bubbleCell, .int v_bestShown, .ref q_traced, .int v_traceMany, .int v_who, .ref q_bitsOf, .ref q_sizeOf, .ref q_number, .ref q_lifted])), (q_d, .inl (c 0, 244, .inl v_d))]) (q := (RX12, TX12, 26)) (ci := 12) (q0 := 0) (isC := [0, 1]) hK hX hS hA hP hD ⟨rfl, rfl, trivial⟩ (by decide +kernel) rfl rfl) rfl rfl hl.1 rfl (lv_room (Nat.le_of_ble_eq_true rfl)) dX12_never_6 ⟨Nat.le_of_ble_eq_true rfl, Nat.le_of_ble_eq_true rfl⟩) (fun H locs hP hS => ?_)
      refine lv_icmp_ge (tgt := 52) hx hb dX12_never_9 (by decide) (fun c_3 => ?_) (fun c_3 => ?_)
      · replace h := it_t c_3 h
        refine lv_iload_n hx hb dX12_never_52 rfl (lv_at hl 1 rfl) ?_
        replace h := so1 h
        subst h
        exact gIret hF hP hD hS rfl dX12_never_53
      · replace h := it_f c_3 h
        refine lv_iload_n hx hb dX12_never_12 rfl (lv_at hl 1 rfl) ?_
        refine lv_aload_n hx hb dX12_never_13 rfl (lv_at hl 0 rfl) ?_
        refine va_get (D := D) (ci := 12) (v := .ref q_d) (C := RX12) (T := TX12) (N := 26) hx hb hts in_X12_never_X12 hown hK.1 hP 0 rfl rfl 0 (by decide) (hts (.fieldLink RX12 7 "PaperBubblesModel" "d" "[I") (List.mem_of_getElem? (i := 1) rfl)) (fun _ h9 => h9) rfl dX12_never_14 ?_
        refine lv_bipush (v := 10) hx hb dX12_never_17 (by decide) ?_
        refine lv_iload_n hx hb dX12_never_19 rfl (lv_at hl 2 rfl) ?_
        refine lv_iadd hx hb dX12_never_20 ?_
        replace h := nm_ok h
        obtain ⟨t_4, et_4, h⟩ := h
        refine gTop et_4 ?_
        replace h := chi_ok h
        obtain ⟨hi_5, h⟩ := h
        refine va_iald hx hb hK.1 hP 1 0 rfl rfl hi_5 dX12_never_21 ?_
        replace h := nm_ok h
        obtain ⟨t_6, et_6, h⟩ := h
        refine gTop et_6 ?_
        refine lv_aload_n hx hb dX12_never_22 rfl (lv_at hl 0 rfl) ?_
        refine va_get (D := D) (ci := 12) (v := .ref q_d) (C := RX12) (T := TX12) (N := 26) hx hb hts in_X12_never_X12 hown hK.1 hP 0 rfl rfl 0 (by decide) (hts (.fieldLink RX12 7 "PaperBubblesModel" "d" "[I") (List.mem_of_getElem? (i := 1) rfl)) (fun _ h9 => h9) rfl dX12_never_23 ?_
        refine lv_bipush (v := 35) hx hb dX12_never_26 (by decide) ?_
        refine lv_iload_n hx hb dX12_never_28 rfl (lv_at hl 2 rfl) ?_
        refine lv_iadd hx hb dX12_never_29 ?_
        replace h := nm_ok h
        obtain ⟨t_7, et_7, h⟩ := h
        refine gTop et_7 ?_
        replace h := chi_ok h
        obtain ⟨hi_8, h⟩ := h
        refine va_iald hx hb hK.1 hP 1 0 rfl rfl hi_8 dX12_never_30 ?_
        replace h := nm_ok h
        obtain ⟨t_9, et_9, h⟩ := h
        refine gTop et_9 ?_
        refine lv_bipush (v := 30) hx hb dX12_never_31 (by decide) ?_
        replace h := kb_ok h
        obtain ⟨r_11, hc_10, h⟩ := h
        refine gCallIr (isC := []) (wc := []) hP hD hS hA trivial (va_runS (rm := rm_X12_goneWith) (ws := wsX12_goneWith) (As := [.int t_6, .int t_9, .int 30]) (rest := [.int x1]) (gFix hF) (c_X12_goneWith l D c t_6 t_9 30 r_11 hc_10 H.size) (va_cwS 3 hts gX12_never_X12_goneWith rfl rfl rfl (by decide +kernel) ⟨Nat.le_of_ble_eq_true rfl, Nat.le_of_ble_eq_true rfl⟩) (gPreS (wc := []) (isC := []) hK hX hS hA hP hD trivial (by decide +kernel)) rfl rfl hl.1 rfl (lv_room (Nat.le_of_ble_eq_true rfl)) dX12_never_33 ⟨Nat.le_of_ble_eq_true rfl, Nat.le_of_ble_eq_true rfl⟩) (fun H locs hP hS => ?_)
        refine lv_if_ge (tgt := 43) hx hb dX12_never_36 (by decide) (fun c_12 => ?_) (fun c_12 => ?_)
        · replace h := it_t c_12 h
          refine lv_iconst (v := 0) hx hb dX12_never_43 (by decide) ?_
          refine lv_iadd hx hb dX12_never_44 ?_
          replace h := nm_ok h
          obtain ⟨t_13, et_13, h⟩ := h
          refine gTop et_13 ?_
          refine lv_istore_n (lv' := [(1, .int t_13), (0, .ref q_this), (2, .int x2)]) hx hb dX12_never_45 rfl hl (by decide) rfl (fun ls hl => ?_)
          replace h := nm_ok h
          obtain ⟨t_14, et_14, h⟩ := h
          refine lv_iinc (v := t_14) (lv' := [(2, .int t_14), (1, .int t_13), (0, .ref q_this)]) hx hb dX12_never_46 hl (k := 2) rfl (by rw [et_14]; rfl) (by decide) rfl (fun ls hl => ?_)
          refine lv_goto (tgt := 4) hx hb dX12_never_49 (by decide) ?_
          exact ih t_13 t_14 H locs hP hD hS ls (lv_sub hl [2, 1, 0] rfl) h
        · replace h := it_f c_12 h
          refine lv_iconst (v := 1) hx hb dX12_never_39 (by decide) ?_
          refine lv_goto (tgt := 44) hx hb dX12_never_40 (by decide) ?_
          refine lv_iadd hx hb dX12_never_44 ?_
          replace h := nm_ok h
          obtain ⟨t_15, et_15, h⟩ := h
          refine gTop et_15 ?_
          refine lv_istore_n (lv' := [(1, .int t_15), (0, .ref q_this), (2, .int x2)]) hx hb dX12_never_45 rfl hl (by decide) rfl (fun ls hl => ?_)
          replace h := nm_ok h
          obtain ⟨t_16, et_16, h⟩ := h
          refine lv_iinc (v := t_16) (lv' := [(2, .int t_16), (1, .int t_15), (0, .ref q_this)]) hx hb dX12_never_46 hl (k := 2) rfl (by rw [et_16]; rfl) (by decide) rfl (fun ls hl => ?_)
          refine lv_goto (tgt := 4) hx hb dX12_never_49 (by decide) ?_
          exact ih t_15 t_16 H locs hP hD hS ls (lv_sub hl [2, 1, 0] rfl) h
  unfold f_X12_never at h
  refine lv_iconst (v := 0) hx hb dX12_never_0 (by decide) ?_
  refine lv_istore_n (lv' := [(1, .int 0), (0, .ref q_this)]) hx hb dX12_never_1 rfl hl (by decide) rfl (fun ls hl => ?_)
  refine lv_iconst (v := 0) hx hb dX12_never_2 (by decide) ?_
  refine lv_istore_n (lv' := [(2, .int 0), (1, .int 0), (0, .ref q_this)]) hx hb dX12_never_3 rfl hl (by decide) rfl (fun ls hl => ?_)
  exact t_L4 gFuel 0 0 s.heap [] hP hD hS ls (lv_sub hl [2, 1, 0] rfl) h
set_option maxRecDepth 20000 in
theorem in_X12_nights_X12 : ∀ w ∈ u_ws RX12 TX12 26, w ∈ wsX12_nights := by decide +kernel
def f_X12_nights_L40 (a_1 : Int32) : Nat → Int32 → (Nat → Int32) → (Nat → Int32) → Option (Int32 × (Nat → Int32) × (Nat → Int32))
  | 0, _, _, _ => none
  | n + 1, x2, v_d, v_found =>
    if a_1 ≤ x2 then
      kb (f_X12_allAir v_d) fun r_16 =>
      some (r_16, v_d, v_found)
    else
      kb (f_X12_nightGoes v_d) fun w_18 =>
      nm (x2 + 1 : Int32) fun t_19 =>
      f_X12_nights_L40 a_1 n t_19 w_18 v_found

def f_X12_nights (a_1 : Int32) (v_d : Nat → Int32) (v_found : Nat → Int32) : Option (Int32 × (Nat → Int32) × (Nat → Int32)) :=
  kb (f_X12_in ((a_1 : Int32).toInt64) 1 30) fun r_2 =>
  if r_2 = 0 then
    kb2 (f_X12_finds 1 v_found) fun r_12 w_13 =>
    some (r_12, v_d, w_13)
  else
    chi 5 244 <|
    nm (v_d (5 : Int32).toNatClampNeg : Int32) fun t_5 =>
    nm (t_5 + a_1 : Int32) fun t_6 =>
    if t_6 ≤ 999 then
      f_X12_nights_L40 a_1 gFuel 0 v_d v_found
    else
      kb2 (f_X12_finds 3 v_found) fun r_9 w_10 =>
      some (r_9, v_d, w_10)

abbrev rm_X12_nights : Room := { frames := 2, cells := 0, slots := 0, locals := 42 }
set_option maxHeartbeats 4000000 in
set_option maxRecDepth 100000 in
theorem c_X12_nights (l : Launch) (D : va_G) (c : Nat → ClassId) (q_this q_d q_kept q_found q_aside q_names q_seenKept q_movedKept q_traced q_bitsOf q_sizeOf q_number q_lifted : Nat) (a_1 : Int32) (v_images : Int32) (v_base : Int32) (v_at : Int32) (v_size : Int32) (v_fault : Int32) (v_opened : Int32) (v_isSeen : Int32) (v_isKeeping : Int32) (v_bubbleMany : Int32) (v_bubbleMost : Int32) (v_bubbleCell : Int32) (v_bestShown : Int32) (v_traceMany : Int32) (v_who : Int32) (v_d : Nat → Int32) (v_found : Nat → Int32) (o_r : Int32) (o_v_d : Nat → Int32) (o_v_found : Nat → Int32) (h : f_X12_nights a_1 v_d v_found = some (o_r, o_v_d, o_v_found)) : gMI l yX12_nights wsX12_nights rm_X12_nights D c [.ref q_this, .int a_1] [(q_this, .inr (12, [.ref q_d, .ref q_kept, .int v_images, .ref q_found, .ref q_aside, .int v_base, .int v_at, .int v_size, .int v_fault, .int v_opened, .int v_isSeen, .ref q_names, .ref q_seenKept, .ref q_movedKept, .int v_isKeeping, .int v_bubbleMany, .int v_bubbleMost, .int v_bubbleCell, .int v_bestShown, .ref q_traced, .int v_traceMany, .int v_who, .ref q_bitsOf, .ref q_sizeOf, .ref q_number, .ref q_lifted])), (q_d, .inl (c 0, 244, .inl v_d)), (q_found, .inl (c 0, 6, .inl v_found))] [(q_this, .inr (12, [.ref q_d, .ref q_kept, .int v_images, .ref q_found, .ref q_aside, .int v_base, .int v_at, .int v_size, .int v_fault, .int v_opened, .int v_isSeen, .ref q_names, .ref q_seenKept, .ref q_movedKept, .int v_isKeeping, .int v_bubbleMany, .int v_bubbleMost, .int v_bubbleCell, .int v_bestShown, .ref q_traced, .int v_traceMany, .int v_who, .ref q_bitsOf, .ref q_sizeOf, .ref q_number, .ref q_lifted])), (q_d, .inl (c 0, 244, .inl o_v_d)), (q_found, .inl (c 0, 6, .inl o_v_found))] o_r := by
  refine gMI_of (cc := cX12_nights) (maxL := 3) (rt := (some .int)) (by decide +kernel) rfl (Nat.le_of_ble_eq_true rfl) ?_
  intro p e s m below meth co A hF hK hX hP hD hA hS ls hl
  obtain ⟨hx, hb, hr, hts, hown, hlocks, hml⟩ := id hF
  have hl : lv_has ls 3 [(0, .ref q_this), (1, .int a_1)] := hl
  have t_L40 : ∀ (n : Nat), ∀ (x2 : Int32) (v_d : Nat → Int32) (v_found : Nat → Int32) (H : Heap) (locs : List Loc), va_P D gcl [(q_this, .inr (12, [.ref q_d, .ref q_kept, .int v_images, .ref q_found, .ref q_aside, .int v_base, .int v_at, .int v_size, .int v_fault, .int v_opened, .int v_isSeen, .ref q_names, .ref q_seenKept, .ref q_movedKept, .int v_isKeeping, .int v_bubbleMany, .int v_bubbleMost, .int v_bubbleCell, .int v_bestShown, .ref q_traced, .int v_traceMany, .int v_who, .ref q_bitsOf, .ref q_sizeOf, .ref q_number, .ref q_lifted])), (q_d, .inl (c 0, 244, .inl v_d)), (q_found, .inl (c 0, 6, .inl v_found))] H → va_D A [(q_this, .inr (12, [.ref q_d, .ref q_kept, .int v_images, .ref q_found, .ref q_aside, .int v_base, .int v_at, .int v_size, .int v_fault, .int v_opened, .int v_isSeen, .ref q_names, .ref q_seenKept, .ref q_movedKept, .int v_isKeeping, .int v_bubbleMany, .int v_bubbleMost, .int v_bubbleCell, .int v_bestShown, .ref q_traced, .int v_traceMany, .int v_who, .ref q_bitsOf, .ref q_sizeOf, .ref q_number, .ref q_lifted])), (q_d, .inl (c 0, 244, .inl v_d)), (q_found, .inl (c 0, 6, .inl v_found))] → va_S A s.heap H locs → ∀ ls, lv_has ls 3 [(0, .ref q_this), (1, .int a_1), (2, .int x2)] → f_X12_nights_L40 a_1 n x2 v_d v_found = some (o_r, o_v_d, o_v_found) → W p l e (headSpec wsX12_nights rm_X12_nights).room s m [.ref q_this, .int a_1].toArray below meth co H locs 0 0 (gQI D [(q_this, .inr (12, [.ref q_d, .ref q_kept, .int v_images, .ref q_found, .ref q_aside, .int v_base, .int v_at, .int v_size, .int v_fault, .int v_opened, .int v_isSeen, .ref q_names, .ref q_seenKept, .ref q_movedKept, .int v_isKeeping, .int v_bubbleMany, .int v_bubbleMost, .int v_bubbleCell, .int v_bestShown, .ref q_traced, .int v_traceMany, .int v_who, .ref q_bitsOf, .ref q_sizeOf, .ref q_number, .ref q_lifted])), (q_d, .inl (c 0, 244, .inl o_v_d)), (q_found, .inl (c 0, 6, .inl o_v_found))] o_r A below [.ref q_this, .int a_1] s) (F0 m 40 ls []) := by
    intro n
    induction n with
    | zero => intro x2 v_d v_found H locs hP hD hS ls hl h; exact no_ok h
    | succ n ih =>
      intro x2 v_d v_found H locs hP hD hS ls hl h
      rw [f_X12_nights_L40] at h
      refine lv_iload_n hx hb dX12_nights_40 rfl (lv_at hl 2 rfl) ?_
      refine lv_iload_n hx hb dX12_nights_41 rfl (lv_at hl 1 rfl) ?_
      refine lv_icmp_ge (tgt := 55) hx hb dX12_nights_42 (by decide) (fun c_14 => ?_) (fun c_14 => ?_)
      · replace h := it_t c_14 h
        refine lv_aload_n hx hb dX12_nights_55 rfl (lv_at hl 0 rfl) ?_
        replace h := kb_ok h
        obtain ⟨r_16, hc_15, h⟩ := h
        refine gCallIr (isC := [0, 1]) (wc := [(q_this, .inr (12, [.ref q_d, .ref q_kept, .int v_images, .ref q_found, .ref q_aside, .int v_base, .int v_at, .int v_size, .int v_fault, .int v_opened, .int v_isSeen, .ref q_names, .ref q_seenKept, .ref q_movedKept, .int v_isKeeping, .int v_bubbleMany, .int v_bubbleMost, .int v_bubbleCell, .int v_bestShown, .ref q_traced, .int v_traceMany, .int v_who, .ref q_bitsOf, .ref q_sizeOf, .ref q_number, .ref q_lifted])), (q_d, .inl (c 0, 244, .inl v_d))]) hP hD hS hA ⟨rfl, rfl, trivial⟩ (va_runV (rm := rm_X12_allAir) (ws := wsX12_allAir) (As := []) (rest := []) (gFix hF) (c_X12_allAir l D c q_this q_d q_kept q_found q_aside q_names q_seenKept q_movedKept q_traced q_bitsOf q_sizeOf q_number q_lifted v_images v_base v_at v_size v_fault v_opened v_isSeen v_isKeeping v_bubbleMany v_bubbleMost v_bubbleCell v_bestShown v_traceMany v_who v_d r_16 hc_15 H.size) (cwV 0 hts gX12_nights_X12_allAir rfl rfl rfl (by decide +kernel) ⟨Nat.le_of_ble_eq_true rfl, Nat.le_of_ble_eq_true rfl⟩) (gPreV (wc := [(q_this, .inr (12, [.ref q_d, .ref q_kept, .int v_images, .ref q_found, .ref q_aside, .int v_base, .int v_at, .int v_size, .int v_fault, .int v_opened, .int v_isSeen, .ref q_names, .ref q_seenKept, .ref q_movedKept, .int v_isKeeping, .int v_bubbleMany, .int v_bubbleMost, .int v_bubbleCell, .int v_bestShown, .ref q_traced, .int v_traceMany, .int v_who, .ref q_bitsOf, .ref q_sizeOf, .ref q_number, .ref q_lifted])), (q_d, .inl (c 0, 244, .inl v_d))]) (q := (RX12, TX12, 26)) (ci := 12) (q0 := 0) (isC := [0, 1]) hK hX hS hA hP hD ⟨rfl, rfl, trivial⟩ (by decide +kernel) rfl rfl) rfl rfl hl.1 rfl (lv_room (Nat.le_of_ble_eq_true rfl)) dX12_nights_56 ⟨Nat.le_of_ble_eq_true rfl, Nat.le_of_ble_eq_true rfl⟩) (fun H locs hP hS => ?_)
        replace h := so3 h
        obtain ⟨z0, z1, z2⟩ := h
        subst z0 z1 z2
        exact gIret hF hP hD hS rfl dX12_nights_59
      · replace h := it_f c_14 h
        refine lv_aload_n hx hb dX12_nights_45 rfl (lv_at hl 0 rfl) ?_
        replace h := kb_ok h
        obtain ⟨w_18, hc_17, h⟩ := h
        refine gCallV (isC := [0, 1]) (wc := [(q_this, .inr (12, [.ref q_d, .ref q_kept, .int v_images, .ref q_found, .ref q_aside, .int v_base, .int v_at, .int v_size, .int v_fault, .int v_opened, .int v_isSeen, .ref q_names, .ref q_seenKept, .ref q_movedKept, .int v_isKeeping, .int v_bubbleMany, .int v_bubbleMost, .int v_bubbleCell, .int v_bestShown, .ref q_traced, .int v_traceMany, .int v_who, .ref q_bitsOf, .ref q_sizeOf, .ref q_number, .ref q_lifted])), (q_d, .inl (c 0, 244, .inl v_d))]) (w1 := [(q_this, .inr (12, [.ref q_d, .ref q_kept, .int v_images, .ref q_found, .ref q_aside, .int v_base, .int v_at, .int v_size, .int v_fault, .int v_opened, .int v_isSeen, .ref q_names, .ref q_seenKept, .ref q_movedKept, .int v_isKeeping, .int v_bubbleMany, .int v_bubbleMost, .int v_bubbleCell, .int v_bestShown, .ref q_traced, .int v_traceMany, .int v_who, .ref q_bitsOf, .ref q_sizeOf, .ref q_number, .ref q_lifted])), (q_d, .inl (c 0, 244, .inl w_18))]) (ws2 := [(q_this, .inr (12, [.ref q_d, .ref q_kept, .int v_images, .ref q_found, .ref q_aside, .int v_base, .int v_at, .int v_size, .int v_fault, .int v_opened, .int v_isSeen, .ref q_names, .ref q_seenKept, .ref q_movedKept, .int v_isKeeping, .int v_bubbleMany, .int v_bubbleMost, .int v_bubbleCell, .int v_bestShown, .ref q_traced, .int v_traceMany, .int v_who, .ref q_bitsOf, .ref q_sizeOf, .ref q_number, .ref q_lifted])), (q_d, .inl (c 0, 244, .inl w_18)), (q_found, .inl (c 0, 6, .inl v_found))]) (ms := [(some 0), (some 1), none]) hP hD hS hA ⟨rfl, rfl, trivial⟩ (by decide +kernel) ⟨rfl, rfl, rfl, trivial⟩ (va_runV (rm := rm_X12_nightGoes) (ws := wsX12_nightGoes) (As := []) (rest := []) (gFix hF) (c_X12_nightGoes l D c q_this q_d q_kept q_found q_aside q_names q_seenKept q_movedKept q_traced q_bitsOf q_sizeOf q_number q_lifted v_images v_base v_at v_size v_fault v_opened v_isSeen v_isKeeping v_bubbleMany v_bubbleMost v_bubbleCell v_bestShown v_traceMany v_who v_d w_18 hc_17 H.size) (cwV 0 hts gX12_nights_X12_nightGoes rfl rfl rfl (by decide +kernel) ⟨Nat.le_of_ble_eq_true rfl, Nat.le_of_ble_eq_true rfl⟩) (gPreV (wc := [(q_this, .inr (12, [.ref q_d, .ref q_kept, .int v_images, .ref q_found, .ref q_aside, .int v_base, .int v_at, .int v_size, .int v_fault, .int v_opened, .int v_isSeen, .ref q_names, .ref q_seenKept, .ref q_movedKept, .int v_isKeeping, .int v_bubbleMany, .int v_bubbleMost, .int v_bubbleCell, .int v_bestShown, .ref q_traced, .int v_traceMany, .int v_who, .ref q_bitsOf, .ref q_sizeOf, .ref q_number, .ref q_lifted])), (q_d, .inl (c 0, 244, .inl v_d))]) (q := (RX12, TX12, 26)) (ci := 12) (q0 := 0) (isC := [0, 1]) hK hX hS hA hP hD ⟨rfl, rfl, trivial⟩ (by decide +kernel) rfl rfl) rfl rfl hl.1 rfl (lv_room (Nat.le_of_ble_eq_true rfl)) dX12_nights_46 ⟨Nat.le_of_ble_eq_true rfl, Nat.le_of_ble_eq_true rfl⟩) (fun H locs hP hD hS => ?_)
        replace h := nm_ok h
        obtain ⟨t_19, et_19, h⟩ := h
        refine lv_iinc (v := t_19) (lv' := [(2, .int t_19), (0, .ref q_this), (1, .int a_1)]) hx hb dX12_nights_49 hl (k := 2) rfl (by rw [et_19]; rfl) (by decide) rfl (fun ls hl => ?_)
        refine lv_goto (tgt := 40) hx hb dX12_nights_52 (by decide) ?_
        exact ih t_19 w_18 v_found H locs hP hD hS ls (lv_sub hl [1, 2, 0] rfl) h
  unfold f_X12_nights at h
  refine lv_iload_n hx hb dX12_nights_0 rfl (lv_at hl 1 rfl) ?_
  refine lv_i2l hx hb dX12_nights_1 rfl ?_
  refine lv_lconst (v := 1) hx hb dX12_nights_2 (by decide) ?_
  refine lv_ldc2 (v := 30) hx hb hown (hts (.constantLong RX12 209 (30)) (List.mem_of_getElem? (i := 1) rfl)) dX12_nights_3 ?_
  replace h := kb_ok h
  obtain ⟨r_2, hc_1, h⟩ := h
  refine gCallIr (isC := []) (wc := []) hP hD hS hA trivial (va_runS (rm := rm_X12_in) (ws := wsX12_in) (As := [.long ((a_1 : Int32).toInt64), .long 1, .long 30]) (rest := []) (gFix hF) (c_X12_in l D c ((a_1 : Int32).toInt64) 1 30 r_2 hc_1 s.heap.size) (va_cwS 3 hts gX12_nights_X12_in rfl rfl rfl (by decide +kernel) ⟨Nat.le_of_ble_eq_true rfl, Nat.le_of_ble_eq_true rfl⟩) (gPreS (wc := []) (isC := []) hK hX hS hA hP hD trivial (by decide +kernel)) rfl rfl hl.1 rfl (lv_room (Nat.le_of_ble_eq_true rfl)) dX12_nights_6 ⟨Nat.le_of_ble_eq_true rfl, Nat.le_of_ble_eq_true rfl⟩) (fun H locs hP hS => ?_)
  refine lv_if_ne (tgt := 18) hx hb dX12_nights_9 (by decide) (fun c_3 => ?_) (fun c_3 => ?_)
  · replace h := it_f c_3 h
    refine lv_aload_n hx hb dX12_nights_18 rfl (lv_at hl 0 rfl) ?_
    refine va_get (D := D) (ci := 12) (v := .ref q_d) (C := RX12) (T := TX12) (N := 26) hx hb hts in_X12_nights_X12 hown hK.1 hP 0 rfl rfl 0 (by decide) (hts (.fieldLink RX12 7 "PaperBubblesModel" "d" "[I") (List.mem_of_getElem? (i := 2) rfl)) (fun _ h9 => h9) rfl dX12_nights_19 ?_
    refine lv_iconst (v := 5) hx hb dX12_nights_22 (by decide) ?_
    replace h := chi_ok h
    obtain ⟨hi_4, h⟩ := h
    refine va_iald hx hb hK.1 hP 1 0 rfl rfl hi_4 dX12_nights_23 ?_
    replace h := nm_ok h
    obtain ⟨t_5, et_5, h⟩ := h
    refine gTop et_5 ?_
    refine lv_iload_n hx hb dX12_nights_24 rfl (lv_at hl 1 rfl) ?_
    refine lv_iadd hx hb dX12_nights_25 ?_
    replace h := nm_ok h
    obtain ⟨t_6, et_6, h⟩ := h
    refine gTop et_6 ?_
    refine lv_sipush (v := 999) hx hb dX12_nights_26 (by decide) ?_
    refine lv_icmp_le (tgt := 38) hx hb dX12_nights_29 (by decide) (fun c_7 => ?_) (fun c_7 => ?_)
    · replace h := it_t c_7 h
      refine lv_iconst (v := 0) hx hb dX12_nights_38 (by decide) ?_
      refine lv_istore_n (lv' := [(2, .int 0), (0, .ref q_this), (1, .int a_1)]) hx hb dX12_nights_39 rfl hl (by decide) rfl (fun ls hl => ?_)
      exact t_L40 gFuel 0 v_d v_found H locs hP hD hS ls (lv_sub hl [1, 2, 0] rfl) h
    · replace h := it_f c_7 h
      refine lv_aload_n hx hb dX12_nights_32 rfl (lv_at hl 0 rfl) ?_
      refine lv_iconst (v := 3) hx hb dX12_nights_33 (by decide) ?_
      replace h := kb2_ok h
      obtain ⟨r_9, w_10, hc_8, h⟩ := h
      refine gCallI (isC := [0, 2]) (wc := [(q_this, .inr (12, [.ref q_d, .ref q_kept, .int v_images, .ref q_found, .ref q_aside, .int v_base, .int v_at, .int v_size, .int v_fault, .int v_opened, .int v_isSeen, .ref q_names, .ref q_seenKept, .ref q_movedKept, .int v_isKeeping, .int v_bubbleMany, .int v_bubbleMost, .int v_bubbleCell, .int v_bestShown, .ref q_traced, .int v_traceMany, .int v_who, .ref q_bitsOf, .ref q_sizeOf, .ref q_number, .ref q_lifted])), (q_found, .inl (c 0, 6, .inl v_found))]) (w1 := [(q_this, .inr (12, [.ref q_d, .ref q_kept, .int v_images, .ref q_found, .ref q_aside, .int v_base, .int v_at, .int v_size, .int v_fault, .int v_opened, .int v_isSeen, .ref q_names, .ref q_seenKept, .ref q_movedKept, .int v_isKeeping, .int v_bubbleMany, .int v_bubbleMost, .int v_bubbleCell, .int v_bestShown, .ref q_traced, .int v_traceMany, .int v_who, .ref q_bitsOf, .ref q_sizeOf, .ref q_number, .ref q_lifted])), (q_found, .inl (c 0, 6, .inl w_10))]) (ws2 := [(q_this, .inr (12, [.ref q_d, .ref q_kept, .int v_images, .ref q_found, .ref q_aside, .int v_base, .int v_at, .int v_size, .int v_fault, .int v_opened, .int v_isSeen, .ref q_names, .ref q_seenKept, .ref q_movedKept, .int v_isKeeping, .int v_bubbleMany, .int v_bubbleMost, .int v_bubbleCell, .int v_bestShown, .ref q_traced, .int v_traceMany, .int v_who, .ref q_bitsOf, .ref q_sizeOf, .ref q_number, .ref q_lifted])), (q_d, .inl (c 0, 244, .inl v_d)), (q_found, .inl (c 0, 6, .inl w_10))]) (ms := [(some 0), none, (some 1)]) hP hD hS hA ⟨rfl, rfl, trivial⟩ (by decide +kernel) ⟨rfl, rfl, rfl, trivial⟩ (va_runV (rm := rm_X12_finds) (ws := wsX12_finds) (As := [.int 3]) (rest := []) (gFix hF) (c_X12_finds l D c q_this q_d q_kept q_found q_aside q_names q_seenKept q_movedKept q_traced q_bitsOf q_sizeOf q_number q_lifted 3 v_images v_base v_at v_size v_fault v_opened v_isSeen v_isKeeping v_bubbleMany v_bubbleMost v_bubbleCell v_bestShown v_traceMany v_who v_found r_9 w_10 hc_8 H.size) (cwV 1 hts gX12_nights_X12_finds rfl rfl rfl (by decide +kernel) ⟨Nat.le_of_ble_eq_true rfl, Nat.le_of_ble_eq_true rfl⟩) (gPreV (wc := [(q_this, .inr (12, [.ref q_d, .ref q_kept, .int v_images, .ref q_found, .ref q_aside, .int v_base, .int v_at, .int v_size, .int v_fault, .int v_opened, .int v_isSeen, .ref q_names, .ref q_seenKept, .ref q_movedKept, .int v_isKeeping, .int v_bubbleMany, .int v_bubbleMost, .int v_bubbleCell, .int v_bestShown, .ref q_traced, .int v_traceMany, .int v_who, .ref q_bitsOf, .ref q_sizeOf, .ref q_number, .ref q_lifted])), (q_found, .inl (c 0, 6, .inl v_found))]) (q := (RX12, TX12, 26)) (ci := 12) (q0 := 0) (isC := [0, 2]) hK hX hS hA hP hD ⟨rfl, rfl, trivial⟩ (by decide +kernel) rfl rfl) rfl rfl hl.1 rfl (lv_room (Nat.le_of_ble_eq_true rfl)) dX12_nights_34 ⟨Nat.le_of_ble_eq_true rfl, Nat.le_of_ble_eq_true rfl⟩) (fun H locs hP hD hS => ?_)
      replace h := so3 h
      obtain ⟨z0, z1, z2⟩ := h
      subst z0 z1 z2
      exact gIret hF hP hD hS rfl dX12_nights_37
  · replace h := it_t c_3 h
    refine lv_aload_n hx hb dX12_nights_12 rfl (lv_at hl 0 rfl) ?_
    refine lv_iconst (v := 1) hx hb dX12_nights_13 (by decide) ?_
    replace h := kb2_ok h
    obtain ⟨r_12, w_13, hc_11, h⟩ := h
    refine gCallI (isC := [0, 2]) (wc := [(q_this, .inr (12, [.ref q_d, .ref q_kept, .int v_images, .ref q_found, .ref q_aside, .int v_base, .int v_at, .int v_size, .int v_fault, .int v_opened, .int v_isSeen, .ref q_names, .ref q_seenKept, .ref q_movedKept, .int v_isKeeping, .int v_bubbleMany, .int v_bubbleMost, .int v_bubbleCell, .int v_bestShown, .ref q_traced, .int v_traceMany, .int v_who, .ref q_bitsOf, .ref q_sizeOf, .ref q_number, .ref q_lifted])), (q_found, .inl (c 0, 6, .inl v_found))]) (w1 := [(q_this, .inr (12, [.ref q_d, .ref q_kept, .int v_images, .ref q_found, .ref q_aside, .int v_base, .int v_at, .int v_size, .int v_fault, .int v_opened, .int v_isSeen, .ref q_names, .ref q_seenKept, .ref q_movedKept, .int v_isKeeping, .int v_bubbleMany, .int v_bubbleMost, .int v_bubbleCell, .int v_bestShown, .ref q_traced, .int v_traceMany, .int v_who, .ref q_bitsOf, .ref q_sizeOf, .ref q_number, .ref q_lifted])), (q_found, .inl (c 0, 6, .inl w_13))]) (ws2 := [(q_this, .inr (12, [.ref q_d, .ref q_kept, .int v_images, .ref q_found, .ref q_aside, .int v_base, .int v_at, .int v_size, .int v_fault, .int v_opened, .int v_isSeen, .ref q_names, .ref q_seenKept, .ref q_movedKept, .int v_isKeeping, .int v_bubbleMany, .int v_bubbleMost, .int v_bubbleCell, .int v_bestShown, .ref q_traced, .int v_traceMany, .int v_who, .ref q_bitsOf, .ref q_sizeOf, .ref q_number, .ref q_lifted])), (q_d, .inl (c 0, 244, .inl v_d)), (q_found, .inl (c 0, 6, .inl w_13))]) (ms := [(some 0), none, (some 1)]) hP hD hS hA ⟨rfl, rfl, trivial⟩ (by decide +kernel) ⟨rfl, rfl, rfl, trivial⟩ (va_runV (rm := rm_X12_finds) (ws := wsX12_finds) (As := [.int 1]) (rest := []) (gFix hF) (c_X12_finds l D c q_this q_d q_kept q_found q_aside q_names q_seenKept q_movedKept q_traced q_bitsOf q_sizeOf q_number q_lifted 1 v_images v_base v_at v_size v_fault v_opened v_isSeen v_isKeeping v_bubbleMany v_bubbleMost v_bubbleCell v_bestShown v_traceMany v_who v_found r_12 w_13 hc_11 H.size) (cwV 1 hts gX12_nights_X12_finds rfl rfl rfl (by decide +kernel) ⟨Nat.le_of_ble_eq_true rfl, Nat.le_of_ble_eq_true rfl⟩) (gPreV (wc := [(q_this, .inr (12, [.ref q_d, .ref q_kept, .int v_images, .ref q_found, .ref q_aside, .int v_base, .int v_at, .int v_size, .int v_fault, .int v_opened, .int v_isSeen, .ref q_names, .ref q_seenKept, .ref q_movedKept, .int v_isKeeping, .int v_bubbleMany, .int v_bubbleMost, .int v_bubbleCell, .int v_bestShown, .ref q_traced, .int v_traceMany, .int v_who, .ref q_bitsOf, .ref q_sizeOf, .ref q_number, .ref q_lifted])), (q_found, .inl (c 0, 6, .inl v_found))]) (q := (RX12, TX12, 26)) (ci := 12) (q0 := 0) (isC := [0, 2]) hK hX hS hA hP hD ⟨rfl, rfl, trivial⟩ (by decide +kernel) rfl rfl) rfl rfl hl.1 rfl (lv_room (Nat.le_of_ble_eq_true rfl)) dX12_nights_14 ⟨Nat.le_of_ble_eq_true rfl, Nat.le_of_ble_eq_true rfl⟩) (fun H locs hP hD hS => ?_)
    replace h := so3 h
    obtain ⟨z0, z1, z2⟩ := h
    subst z0 z1 z2
    exact gIret hF hP hD hS rfl dX12_nights_17
def f_X12_odds_L39 (v_base : Int32) (v_at : Int32) (v_size : Int32) (v_fault : Int32) (v_opened : Int32) (v_isSeen : Int32) (v_aside : Nat → Int32) (v_d : Nat → Int32) (v_found : Nat → Int32) (v_movedKept : Nat → Int32) (v_names : Nat → Int32) (v_seenKept : Nat → Int32) : Option (Int32 × Int32 × Int32 × Int32 × Int32 × Int32 × Int32 × (Nat → Int32) × (Nat → Int32) × (Nat → Int32) × (Nat → Int32) × (Nat → Int32) × (Nat → Int32)) :=
  kb2 (f_X12_finds 1 v_found) fun r_14 w_15 =>
  some (r_14, v_base, v_at, v_size, v_fault, v_opened, v_isSeen, v_aside, v_d, w_15, v_movedKept, v_names, v_seenKept)

def f_X12_odds_L121 (a_4 : Int32) (x5 : Int32) (y0 : Int32) (v_base : Int32) (v_at : Int32) (v_size : Int32) (v_fault : Int32) (v_opened : Int32) (v_isSeen : Int32) (v_aside : Nat → Int32) (v_d : Nat → Int32) (v_found : Nat → Int32) (v_movedKept : Nat → Int32) (v_names : Nat → Int32) (v_seenKept : Nat → Int32) : Option (Int32 × Int32 × Int32 × Int32 × Int32 × Int32 × Int32 × (Nat → Int32) × (Nat → Int32) × (Nat → Int32) × (Nat → Int32) × (Nat → Int32) × (Nat → Int32)) :=
  if a_4 = 0 then
    chz y0 <|
    some (x5 / y0, v_base, v_at, v_size, v_fault, v_opened, v_isSeen, v_aside, v_d, v_found, v_movedKept, v_names, v_seenKept)
  else
    chz y0 <|
    some (4 / y0, v_base, v_at, v_size, v_fault, v_opened, v_isSeen, v_aside, v_d, v_found, v_movedKept, v_names, v_seenKept)

def f_X12_odds_L85 (kk_L51 : Int32 → Int32 → Int32 → Int32 → Int32 → Int32 → Int32 → Int32 → (Nat → Int32) → (Nat → Int32) → (Nat → Int32) → (Nat → Int32) → (Nat → Int32) → (Nat → Int32) → Option (Int32 × Int32 × Int32 × Int32 × Int32 × Int32 × Int32 × (Nat → Int32) × (Nat → Int32) × (Nat → Int32) × (Nat → Int32) × (Nat → Int32) × (Nat → Int32))) (a_1 : Int32) (a_2 : Int32) (a_3 : Int32) (a_4 : Int32) (v_isKeeping : Int32) (x6 : Int32) (y0 : Int32) (y1 : Int32) (v_base : Int32) (v_at : Int32) (v_size : Int32) (v_fault : Int32) (v_opened : Int32) (v_isSeen : Int32) (v_aside : Nat → Int32) (v_d : Nat → Int32) (v_found : Nat → Int32) (v_movedKept : Nat → Int32) (v_names : Nat → Int32) (v_seenKept : Nat → Int32) : Option (Int32 × Int32 × Int32 × Int32 × Int32 × Int32 × Int32 × (Nat → Int32) × (Nat → Int32) × (Nat → Int32) × (Nat → Int32) × (Nat → Int32) × (Nat → Int32)) :=
  nm (y0 + y1 : Int32) fun t_46 =>
  kb (f_X12_putBack 0 v_aside v_d) fun w_48 =>
  nm (x6 + 1 : Int32) fun t_49 =>
  kk_L51 t_46 t_49 v_base v_at v_size v_fault v_opened v_isSeen v_aside w_48 v_found v_movedKept v_names v_seenKept

def f_X12_odds_L51 (a_1 : Int32) (a_2 : Int32) (a_3 : Int32) (a_4 : Int32) (v_isKeeping : Int32) : Nat → Int32 → Int32 → Int32 → Int32 → Int32 → Int32 → Int32 → Int32 → (Nat → Int32) → (Nat → Int32) → (Nat → Int32) → (Nat → Int32) → (Nat → Int32) → (Nat → Int32) → Option (Int32 × Int32 × Int32 × Int32 × Int32 × Int32 × Int32 × (Nat → Int32) × (Nat → Int32) × (Nat → Int32) × (Nat → Int32) × (Nat → Int32) × (Nat → Int32))
  | 0, _, _, _, _, _, _, _, _, _, _, _, _, _, _ => none
  | n + 1, x5, x6, v_base, v_at, v_size, v_fault, v_opened, v_isSeen, v_aside, v_d, v_found, v_movedKept, v_names, v_seenKept =>
    if 4 ≤ x6 then
      chz 4 <|
      if (x5 - x5 / 4 * 4) = 0 then
        f_X12_odds_L121 a_4 x5 4 v_base v_at v_size v_fault v_opened v_isSeen v_aside v_d v_found v_movedKept v_names v_seenKept
      else
        if x5 = 2 then
          f_X12_odds_L121 a_4 x5 2 v_base v_at v_size v_fault v_opened v_isSeen v_aside v_d v_found v_movedKept v_names v_seenKept
        else
          f_X12_odds_L121 a_4 x5 1 v_base v_at v_size v_fault v_opened v_isSeen v_aside v_d v_found v_movedKept v_names v_seenKept
    else
      kb (f_X12_keepAside 0 v_aside v_d) fun w_21 =>
      kb9 (f_X12_strokes a_1 a_2 x6 v_base v_at v_size v_fault v_opened v_isSeen v_isKeeping v_d v_movedKept v_names) fun w_23 w_24 w_25 w_26 w_27 w_28 w_29 w_30 w_31 =>
      kb9 (f_X12_seen w_23 w_24 w_25 w_26 w_27 w_28 v_isKeeping w_29 w_31 v_seenKept) fun r_33 w_34 w_35 w_36 w_37 w_38 w_39 w_40 w_41 =>
      if a_3 < r_33 then
        f_X12_odds_L85 (f_X12_odds_L51 a_1 a_2 a_3 a_4 v_isKeeping n) a_1 a_2 a_3 a_4 v_isKeeping x6 x5 0 w_34 w_35 w_36 w_37 w_38 w_39 w_21 w_29 v_found w_30 w_40 w_41
      else
        f_X12_odds_L85 (f_X12_odds_L51 a_1 a_2 a_3 a_4 v_isKeeping n) a_1 a_2 a_3 a_4 v_isKeeping x6 x5 1 w_34 w_35 w_36 w_37 w_38 w_39 w_21 w_29 v_found w_30 w_40 w_41

def f_X12_odds (a_1 : Int32) (a_2 : Int32) (a_3 : Int32) (a_4 : Int32) (v_base : Int32) (v_at : Int32) (v_size : Int32) (v_fault : Int32) (v_opened : Int32) (v_isSeen : Int32) (v_isKeeping : Int32) (v_aside : Nat → Int32) (v_d : Nat → Int32) (v_found : Nat → Int32) (v_movedKept : Nat → Int32) (v_names : Nat → Int32) (v_seenKept : Nat → Int32) : Option (Int32 × Int32 × Int32 × Int32 × Int32 × Int32 × Int32 × (Nat → Int32) × (Nat → Int32) × (Nat → Int32) × (Nat → Int32) × (Nat → Int32) × (Nat → Int32)) :=
  kb (f_X12_isTool a_1 v_d) fun r_2 =>
  if r_2 = 0 then
    f_X12_odds_L39 v_base v_at v_size v_fault v_opened v_isSeen v_aside v_d v_found v_movedKept v_names v_seenKept
  else
    kb (f_X12_isCell a_2 v_d) fun r_5 =>
    if r_5 = 0 then
      f_X12_odds_L39 v_base v_at v_size v_fault v_opened v_isSeen v_aside v_d v_found v_movedKept v_names v_seenKept
    else
      kb (f_X12_in ((a_3 : Int32).toInt64) 0 9999) fun r_8 =>
      if r_8 = 0 then
        f_X12_odds_L39 v_base v_at v_size v_fault v_opened v_isSeen v_aside v_d v_found v_movedKept v_names v_seenKept
      else
        kb (f_X12_in ((a_4 : Int32).toInt64) 0 1) fun r_11 =>
        if r_11 = 0 then
          f_X12_odds_L39 v_base v_at v_size v_fault v_opened v_isSeen v_aside v_d v_found v_movedKept v_names v_seenKept
        else
          f_X12_odds_L51 a_1 a_2 a_3 a_4 v_isKeeping gFuel 0 0 v_base v_at v_size v_fault v_opened v_isSeen v_aside v_d v_found v_movedKept v_names v_seenKept

abbrev rm_X12_odds : Room := { frames := 59, cells := 0, slots := 0, locals := 1361 }
set_option maxHeartbeats 4000000 in
set_option maxRecDepth 100000 in
theorem c_X12_odds (l : Launch) (D : va_G) (c : Nat → ClassId) (q_this q_d q_kept q_found q_aside q_names q_seenKept q_movedKept q_traced q_bitsOf q_sizeOf q_number q_lifted : Nat) (a_1 : Int32) (a_2 : Int32) (a_3 : Int32) (a_4 : Int32) (v_images : Int32) (v_base : Int32) (v_at : Int32) (v_size : Int32) (v_fault : Int32) (v_opened : Int32) (v_isSeen : Int32) (v_isKeeping : Int32) (v_bubbleMany : Int32) (v_bubbleMost : Int32) (v_bubbleCell : Int32) (v_bestShown : Int32) (v_traceMany : Int32) (v_who : Int32) (v_aside : Nat → Int32) (v_d : Nat → Int32) (v_found : Nat → Int32) (v_movedKept : Nat → Int32) (v_names : Nat → Int32) (v_seenKept : Nat → Int32) (o_r : Int32) (o_v_base : Int32) (o_v_at : Int32) (o_v_size : Int32) (o_v_fault : Int32) (o_v_opened : Int32) (o_v_isSeen : Int32) (o_v_aside : Nat → Int32) (o_v_d : Nat → Int32) (o_v_found : Nat → Int32) (o_v_movedKept : Nat → Int32) (o_v_names : Nat → Int32) (o_v_seenKept : Nat → Int32) (h : f_X12_odds a_1 a_2 a_3 a_4 v_base v_at v_size v_fault v_opened v_isSeen v_isKeeping v_aside v_d v_found v_movedKept v_names v_seenKept = some (o_r, o_v_base, o_v_at, o_v_size, o_v_fault, o_v_opened, o_v_isSeen, o_v_aside, o_v_d, o_v_found, o_v_movedKept, o_v_names, o_v_seenKept)) : gMI l yX12_odds wsX12_odds rm_X12_odds D c [.ref q_this, .int a_1, .int a_2, .int a_3, .int a_4] [(q_this, .inr (12, [.ref q_d, .ref q_kept, .int v_images, .ref q_found, .ref q_aside, .int v_base, .int v_at, .int v_size, .int v_fault, .int v_opened, .int v_isSeen, .ref q_names, .ref q_seenKept, .ref q_movedKept, .int v_isKeeping, .int v_bubbleMany, .int v_bubbleMost, .int v_bubbleCell, .int v_bestShown, .ref q_traced, .int v_traceMany, .int v_who, .ref q_bitsOf, .ref q_sizeOf, .ref q_number, .ref q_lifted])), (q_aside, .inl (c 0, 120, .inl v_aside)), (q_d, .inl (c 0, 244, .inl v_d)), (q_found, .inl (c 0, 6, .inl v_found)), (q_movedKept, .inl (c 0, 1000, .inl v_movedKept)), (q_names, .inl (c 0, 3, .inl v_names)), (q_seenKept, .inl (c 0, 2500, .inl v_seenKept))] [(q_this, .inr (12, [.ref q_d, .ref q_kept, .int v_images, .ref q_found, .ref q_aside, .int o_v_base, .int o_v_at, .int o_v_size, .int o_v_fault, .int o_v_opened, .int o_v_isSeen, .ref q_names, .ref q_seenKept, .ref q_movedKept, .int v_isKeeping, .int v_bubbleMany, .int v_bubbleMost, .int v_bubbleCell, .int v_bestShown, .ref q_traced, .int v_traceMany, .int v_who, .ref q_bitsOf, .ref q_sizeOf, .ref q_number, .ref q_lifted])), (q_aside, .inl (c 0, 120, .inl o_v_aside)), (q_d, .inl (c 0, 244, .inl o_v_d)), (q_found, .inl (c 0, 6, .inl o_v_found)), (q_movedKept, .inl (c 0, 1000, .inl o_v_movedKept)), (q_names, .inl (c 0, 3, .inl o_v_names)), (q_seenKept, .inl (c 0, 2500, .inl o_v_seenKept))] o_r := by
  refine gMI_of (cc := cX12_odds) (maxL := 7) (rt := (some .int)) (by decide +kernel) rfl (Nat.le_of_ble_eq_true rfl) ?_
  intro p e s m below meth co A hF hK hX hP hD hA hS ls hl
  obtain ⟨hx, hb, hr, hts, hown, hlocks, hml⟩ := id hF
  have hl : lv_has ls 7 [(0, .ref q_this), (1, .int a_1), (2, .int a_2), (3, .int a_3), (4, .int a_4)] := hl
  have t_L39 : ∀ (v_base : Int32) (v_at : Int32) (v_size : Int32) (v_fault : Int32) (v_opened : Int32) (v_isSeen : Int32) (v_aside : Nat → Int32) (v_d : Nat → Int32) (v_found : Nat → Int32) (v_movedKept : Nat → Int32) (v_names : Nat → Int32) (v_seenKept : Nat → Int32) (H : Heap) (locs : List Loc), va_P D gcl [(q_this, .inr (12, [.ref q_d, .ref q_kept, .int v_images, .ref q_found, .ref q_aside, .int v_base, .int v_at, .int v_size, .int v_fault, .int v_opened, .int v_isSeen, .ref q_names, .ref q_seenKept, .ref q_movedKept, .int v_isKeeping, .int v_bubbleMany, .int v_bubbleMost, .int v_bubbleCell, .int v_bestShown, .ref q_traced, .int v_traceMany, .int v_who, .ref q_bitsOf, .ref q_sizeOf, .ref q_number, .ref q_lifted])), (q_aside, .inl (c 0, 120, .inl v_aside)), (q_d, .inl (c 0, 244, .inl v_d)), (q_found, .inl (c 0, 6, .inl v_found)), (q_movedKept, .inl (c 0, 1000, .inl v_movedKept)), (q_names, .inl (c 0, 3, .inl v_names)), (q_seenKept, .inl (c 0, 2500, .inl v_seenKept))] H → va_D A [(q_this, .inr (12, [.ref q_d, .ref q_kept, .int v_images, .ref q_found, .ref q_aside, .int v_base, .int v_at, .int v_size, .int v_fault, .int v_opened, .int v_isSeen, .ref q_names, .ref q_seenKept, .ref q_movedKept, .int v_isKeeping, .int v_bubbleMany, .int v_bubbleMost, .int v_bubbleCell, .int v_bestShown, .ref q_traced, .int v_traceMany, .int v_who, .ref q_bitsOf, .ref q_sizeOf, .ref q_number, .ref q_lifted])), (q_aside, .inl (c 0, 120, .inl v_aside)), (q_d, .inl (c 0, 244, .inl v_d)), (q_found, .inl (c 0, 6, .inl v_found)), (q_movedKept, .inl (c 0, 1000, .inl v_movedKept)), (q_names, .inl (c 0, 3, .inl v_names)), (q_seenKept, .inl (c 0, 2500, .inl v_seenKept))] → va_S A s.heap H locs → ∀ ls, lv_has ls 7 [(0, .ref q_this)] → f_X12_odds_L39 v_base v_at v_size v_fault v_opened v_isSeen v_aside v_d v_found v_movedKept v_names v_seenKept = some (o_r, o_v_base, o_v_at, o_v_size, o_v_fault, o_v_opened, o_v_isSeen, o_v_aside, o_v_d, o_v_found, o_v_movedKept, o_v_names, o_v_seenKept) → W p l e (headSpec wsX12_odds rm_X12_odds).room s m [.ref q_this, .int a_1, .int a_2, .int a_3, .int a_4].toArray below meth co H locs 0 0 (gQI D [(q_this, .inr (12, [.ref q_d, .ref q_kept, .int v_images, .ref q_found, .ref q_aside, .int o_v_base, .int o_v_at, .int o_v_size, .int o_v_fault, .int o_v_opened, .int o_v_isSeen, .ref q_names, .ref q_seenKept, .ref q_movedKept, .int v_isKeeping, .int v_bubbleMany, .int v_bubbleMost, .int v_bubbleCell, .int v_bestShown, .ref q_traced, .int v_traceMany, .int v_who, .ref q_bitsOf, .ref q_sizeOf, .ref q_number, .ref q_lifted])), (q_aside, .inl (c 0, 120, .inl o_v_aside)), (q_d, .inl (c 0, 244, .inl o_v_d)), (q_found, .inl (c 0, 6, .inl o_v_found)), (q_movedKept, .inl (c 0, 1000, .inl o_v_movedKept)), (q_names, .inl (c 0, 3, .inl o_v_names)), (q_seenKept, .inl (c 0, 2500, .inl o_v_seenKept))] o_r A below [.ref q_this, .int a_1, .int a_2, .int a_3, .int a_4] s) (F0 m 39 ls []) := by
    intro  v_base v_at v_size v_fault v_opened v_isSeen v_aside v_d v_found v_movedKept v_names v_seenKept H locs hP hD hS ls hl h
    unfold f_X12_odds_L39 at h
    refine lv_aload_n hx hb dX12_odds_39 rfl (lv_at hl 0 rfl) ?_
    refine lv_iconst (v := 1) hx hb dX12_odds_40 (by decide) ?_
    replace h := kb2_ok h
    obtain ⟨r_14, w_15, hc_13, h⟩ := h
    refine gCallI (isC := [0, 3]) (wc := [(q_this, .inr (12, [.ref q_d, .ref q_kept, .int v_images, .ref q_found, .ref q_aside, .int v_base, .int v_at, .int v_size, .int v_fault, .int v_opened, .int v_isSeen, .ref q_names, .ref q_seenKept, .ref q_movedKept, .int v_isKeeping, .int v_bubbleMany, .int v_bubbleMost, .int v_bubbleCell, .int v_bestShown, .ref q_traced, .int v_traceMany, .int v_who, .ref q_bitsOf, .ref q_sizeOf, .ref q_number, .ref q_lifted])), (q_found, .inl (c 0, 6, .inl v_found))]) (w1 := [(q_this, .inr (12, [.ref q_d, .ref q_kept, .int v_images, .ref q_found, .ref q_aside, .int v_base, .int v_at, .int v_size, .int v_fault, .int v_opened, .int v_isSeen, .ref q_names, .ref q_seenKept, .ref q_movedKept, .int v_isKeeping, .int v_bubbleMany, .int v_bubbleMost, .int v_bubbleCell, .int v_bestShown, .ref q_traced, .int v_traceMany, .int v_who, .ref q_bitsOf, .ref q_sizeOf, .ref q_number, .ref q_lifted])), (q_found, .inl (c 0, 6, .inl w_15))]) (ws2 := [(q_this, .inr (12, [.ref q_d, .ref q_kept, .int v_images, .ref q_found, .ref q_aside, .int v_base, .int v_at, .int v_size, .int v_fault, .int v_opened, .int v_isSeen, .ref q_names, .ref q_seenKept, .ref q_movedKept, .int v_isKeeping, .int v_bubbleMany, .int v_bubbleMost, .int v_bubbleCell, .int v_bestShown, .ref q_traced, .int v_traceMany, .int v_who, .ref q_bitsOf, .ref q_sizeOf, .ref q_number, .ref q_lifted])), (q_aside, .inl (c 0, 120, .inl v_aside)), (q_d, .inl (c 0, 244, .inl v_d)), (q_found, .inl (c 0, 6, .inl w_15)), (q_movedKept, .inl (c 0, 1000, .inl v_movedKept)), (q_names, .inl (c 0, 3, .inl v_names)), (q_seenKept, .inl (c 0, 2500, .inl v_seenKept))]) (ms := [(some 0), none, none, (some 1), none, none, none]) hP hD hS hA ⟨rfl, rfl, trivial⟩ (by decide +kernel) ⟨rfl, rfl, rfl, rfl, rfl, rfl, rfl, trivial⟩ (va_runV (rm := rm_X12_finds) (ws := wsX12_finds) (As := [.int 1]) (rest := []) (gFix hF) (c_X12_finds l D c q_this q_d q_kept q_found q_aside q_names q_seenKept q_movedKept q_traced q_bitsOf q_sizeOf q_number q_lifted 1 v_images v_base v_at v_size v_fault v_opened v_isSeen v_isKeeping v_bubbleMany v_bubbleMost v_bubbleCell v_bestShown v_traceMany v_who v_found r_14 w_15 hc_13 H.size) (cwV 1 hts gX12_odds_X12_finds rfl rfl rfl (by decide +kernel) ⟨Nat.le_of_ble_eq_true rfl, Nat.le_of_ble_eq_true rfl⟩) (gPreV (wc := [(q_this, .inr (12, [.ref q_d, .ref q_kept, .int v_images, .ref q_found, .ref q_aside, .int v_base, .int v_at, .int v_size, .int v_fault, .int v_opened, .int v_isSeen, .ref q_names, .ref q_seenKept, .ref q_movedKept, .int v_isKeeping, .int v_bubbleMany, .int v_bubbleMost, .int v_bubbleCell, .int v_bestShown, .ref q_traced, .int v_traceMany, .int v_who, .ref q_bitsOf, .ref q_sizeOf, .ref q_number, .ref q_lifted])), (q_found, .inl (c 0, 6, .inl v_found))]) (q := (RX12, TX12, 26)) (ci := 12) (q0 := 0) (isC := [0, 3]) hK hX hS hA hP hD ⟨rfl, rfl, trivial⟩ (by decide +kernel) rfl rfl) rfl rfl hl.1 rfl (lv_room (Nat.le_of_ble_eq_true rfl)) dX12_odds_41 ⟨Nat.le_of_ble_eq_true rfl, Nat.le_of_ble_eq_true rfl⟩) (fun H locs hP hD hS => ?_)
    replace h := so13 h
    obtain ⟨z0, z1, z2, z3, z4, z5, z6, z7, z8, z9, z10, z11, z12⟩ := h
    subst z0 z1 z2 z3 z4 z5 z6 z7 z8 z9 z10 z11 z12
    exact gIret hF hP hD hS rfl dX12_odds_44
  have t_L121 : ∀ (x5 : Int32) (y0 : Int32) (v_base : Int32) (v_at : Int32) (v_size : Int32) (v_fault : Int32) (v_opened : Int32) (v_isSeen : Int32) (v_aside : Nat → Int32) (v_d : Nat → Int32) (v_found : Nat → Int32) (v_movedKept : Nat → Int32) (v_names : Nat → Int32) (v_seenKept : Nat → Int32) (H : Heap) (locs : List Loc), va_P D gcl [(q_this, .inr (12, [.ref q_d, .ref q_kept, .int v_images, .ref q_found, .ref q_aside, .int v_base, .int v_at, .int v_size, .int v_fault, .int v_opened, .int v_isSeen, .ref q_names, .ref q_seenKept, .ref q_movedKept, .int v_isKeeping, .int v_bubbleMany, .int v_bubbleMost, .int v_bubbleCell, .int v_bestShown, .ref q_traced, .int v_traceMany, .int v_who, .ref q_bitsOf, .ref q_sizeOf, .ref q_number, .ref q_lifted])), (q_aside, .inl (c 0, 120, .inl v_aside)), (q_d, .inl (c 0, 244, .inl v_d)), (q_found, .inl (c 0, 6, .inl v_found)), (q_movedKept, .inl (c 0, 1000, .inl v_movedKept)), (q_names, .inl (c 0, 3, .inl v_names)), (q_seenKept, .inl (c 0, 2500, .inl v_seenKept))] H → va_D A [(q_this, .inr (12, [.ref q_d, .ref q_kept, .int v_images, .ref q_found, .ref q_aside, .int v_base, .int v_at, .int v_size, .int v_fault, .int v_opened, .int v_isSeen, .ref q_names, .ref q_seenKept, .ref q_movedKept, .int v_isKeeping, .int v_bubbleMany, .int v_bubbleMost, .int v_bubbleCell, .int v_bestShown, .ref q_traced, .int v_traceMany, .int v_who, .ref q_bitsOf, .ref q_sizeOf, .ref q_number, .ref q_lifted])), (q_aside, .inl (c 0, 120, .inl v_aside)), (q_d, .inl (c 0, 244, .inl v_d)), (q_found, .inl (c 0, 6, .inl v_found)), (q_movedKept, .inl (c 0, 1000, .inl v_movedKept)), (q_names, .inl (c 0, 3, .inl v_names)), (q_seenKept, .inl (c 0, 2500, .inl v_seenKept))] → va_S A s.heap H locs → ∀ ls, lv_has ls 7 [(4, .int a_4), (5, .int x5)] → f_X12_odds_L121 a_4 x5 y0 v_base v_at v_size v_fault v_opened v_isSeen v_aside v_d v_found v_movedKept v_names v_seenKept = some (o_r, o_v_base, o_v_at, o_v_size, o_v_fault, o_v_opened, o_v_isSeen, o_v_aside, o_v_d, o_v_found, o_v_movedKept, o_v_names, o_v_seenKept) → W p l e (headSpec wsX12_odds rm_X12_odds).room s m [.ref q_this, .int a_1, .int a_2, .int a_3, .int a_4].toArray below meth co H locs 0 0 (gQI D [(q_this, .inr (12, [.ref q_d, .ref q_kept, .int v_images, .ref q_found, .ref q_aside, .int o_v_base, .int o_v_at, .int o_v_size, .int o_v_fault, .int o_v_opened, .int o_v_isSeen, .ref q_names, .ref q_seenKept, .ref q_movedKept, .int v_isKeeping, .int v_bubbleMany, .int v_bubbleMost, .int v_bubbleCell, .int v_bestShown, .ref q_traced, .int v_traceMany, .int v_who, .ref q_bitsOf, .ref q_sizeOf, .ref q_number, .ref q_lifted])), (q_aside, .inl (c 0, 120, .inl o_v_aside)), (q_d, .inl (c 0, 244, .inl o_v_d)), (q_found, .inl (c 0, 6, .inl o_v_found)), (q_movedKept, .inl (c 0, 1000, .inl o_v_movedKept)), (q_names, .inl (c 0, 3, .inl o_v_names)), (q_seenKept, .inl (c 0, 2500, .inl o_v_seenKept))] o_r A below [.ref q_this, .int a_1, .int a_2, .int a_3, .int a_4] s) (F0 m 121 ls [.int y0]) := by
    intro  x5 y0 v_base v_at v_size v_fault v_opened v_isSeen v_aside v_d v_found v_movedKept v_names v_seenKept H locs hP hD hS ls hl h
    unfold f_X12_odds_L121 at h
    refine lv_istore (lv' := [(6, .int y0), (4, .int a_4), (5, .int x5)]) hx hb dX12_odds_121 hl (by decide) rfl (fun ls hl => ?_)
    refine lv_iload hx hb dX12_odds_123 (lv_at hl 1 rfl) ?_
    refine lv_if_ne (tgt := 133) hx hb dX12_odds_125 (by decide) (fun c_43 => ?_) (fun c_43 => ?_)
    · replace h := it_f c_43 h
      refine lv_iconst (v := 4) hx hb dX12_odds_133 (by decide) ?_
      refine lv_iload hx hb dX12_odds_134 (lv_at hl 0 rfl) ?_
      replace h := chz_ok h
      obtain ⟨hz_44, h⟩ := h
      refine lv_idiv hx hb dX12_odds_136 hz_44 ?_
      replace h := so13 h
      obtain ⟨z0, z1, z2, z3, z4, z5, z6, z7, z8, z9, z10, z11, z12⟩ := h
      subst z0 z1 z2 z3 z4 z5 z6 z7 z8 z9 z10 z11 z12
      exact gIret hF hP hD hS rfl dX12_odds_137
    · replace h := it_t c_43 h
      refine lv_iload hx hb dX12_odds_128 (lv_at hl 2 rfl) ?_
      refine lv_goto (tgt := 134) hx hb dX12_odds_130 (by decide) ?_
      refine lv_iload hx hb dX12_odds_134 (lv_at hl 0 rfl) ?_
      replace h := chz_ok h
      obtain ⟨hz_45, h⟩ := h
      refine lv_idiv hx hb dX12_odds_136 hz_45 ?_
      replace h := so13 h
      obtain ⟨z0, z1, z2, z3, z4, z5, z6, z7, z8, z9, z10, z11, z12⟩ := h
      subst z0 z1 z2 z3 z4 z5 z6 z7 z8 z9 z10 z11 z12
      exact gIret hF hP hD hS rfl dX12_odds_137
  have t_L85 : ∀ (kk_L51 : Int32 → Int32 → Int32 → Int32 → Int32 → Int32 → Int32 → Int32 → (Nat → Int32) → (Nat → Int32) → (Nat → Int32) → (Nat → Int32) → (Nat → Int32) → (Nat → Int32) → Option (Int32 × Int32 × Int32 × Int32 × Int32 × Int32 × Int32 × (Nat → Int32) × (Nat → Int32) × (Nat → Int32) × (Nat → Int32) × (Nat → Int32) × (Nat → Int32))), (∀ (x5 : Int32) (x6 : Int32) (v_base : Int32) (v_at : Int32) (v_size : Int32) (v_fault : Int32) (v_opened : Int32) (v_isSeen : Int32) (v_aside : Nat → Int32) (v_d : Nat → Int32) (v_found : Nat → Int32) (v_movedKept : Nat → Int32) (v_names : Nat → Int32) (v_seenKept : Nat → Int32) (H : Heap) (locs : List Loc), va_P D gcl [(q_this, .inr (12, [.ref q_d, .ref q_kept, .int v_images, .ref q_found, .ref q_aside, .int v_base, .int v_at, .int v_size, .int v_fault, .int v_opened, .int v_isSeen, .ref q_names, .ref q_seenKept, .ref q_movedKept, .int v_isKeeping, .int v_bubbleMany, .int v_bubbleMost, .int v_bubbleCell, .int v_bestShown, .ref q_traced, .int v_traceMany, .int v_who, .ref q_bitsOf, .ref q_sizeOf, .ref q_number, .ref q_lifted])), (q_aside, .inl (c 0, 120, .inl v_aside)), (q_d, .inl (c 0, 244, .inl v_d)), (q_found, .inl (c 0, 6, .inl v_found)), (q_movedKept, .inl (c 0, 1000, .inl v_movedKept)), (q_names, .inl (c 0, 3, .inl v_names)), (q_seenKept, .inl (c 0, 2500, .inl v_seenKept))] H → va_D A [(q_this, .inr (12, [.ref q_d, .ref q_kept, .int v_images, .ref q_found, .ref q_aside, .int v_base, .int v_at, .int v_size, .int v_fault, .int v_opened, .int v_isSeen, .ref q_names, .ref q_seenKept, .ref q_movedKept, .int v_isKeeping, .int v_bubbleMany, .int v_bubbleMost, .int v_bubbleCell, .int v_bestShown, .ref q_traced, .int v_traceMany, .int v_who, .ref q_bitsOf, .ref q_sizeOf, .ref q_number, .ref q_lifted])), (q_aside, .inl (c 0, 120, .inl v_aside)), (q_d, .inl (c 0, 244, .inl v_d)), (q_found, .inl (c 0, 6, .inl v_found)), (q_movedKept, .inl (c 0, 1000, .inl v_movedKept)), (q_names, .inl (c 0, 3, .inl v_names)), (q_seenKept, .inl (c 0, 2500, .inl v_seenKept))] → va_S A s.heap H locs → ∀ ls, lv_has ls 7 [(0, .ref q_this), (1, .int a_1), (2, .int a_2), (3, .int a_3), (4, .int a_4), (5, .int x5), (6, .int x6)] → kk_L51 x5 x6 v_base v_at v_size v_fault v_opened v_isSeen v_aside v_d v_found v_movedKept v_names v_seenKept = some (o_r, o_v_base, o_v_at, o_v_size, o_v_fault, o_v_opened, o_v_isSeen, o_v_aside, o_v_d, o_v_found, o_v_movedKept, o_v_names, o_v_seenKept) → W p l e (headSpec wsX12_odds rm_X12_odds).room s m [.ref q_this, .int a_1, .int a_2, .int a_3, .int a_4].toArray below meth co H locs 0 0 (gQI D [(q_this, .inr (12, [.ref q_d, .ref q_kept, .int v_images, .ref q_found, .ref q_aside, .int o_v_base, .int o_v_at, .int o_v_size, .int o_v_fault, .int o_v_opened, .int o_v_isSeen, .ref q_names, .ref q_seenKept, .ref q_movedKept, .int v_isKeeping, .int v_bubbleMany, .int v_bubbleMost, .int v_bubbleCell, .int v_bestShown, .ref q_traced, .int v_traceMany, .int v_who, .ref q_bitsOf, .ref q_sizeOf, .ref q_number, .ref q_lifted])), (q_aside, .inl (c 0, 120, .inl o_v_aside)), (q_d, .inl (c 0, 244, .inl o_v_d)), (q_found, .inl (c 0, 6, .inl o_v_found)), (q_movedKept, .inl (c 0, 1000, .inl o_v_movedKept)), (q_names, .inl (c 0, 3, .inl o_v_names)), (q_seenKept, .inl (c 0, 2500, .inl o_v_seenKept))] o_r A below [.ref q_this, .int a_1, .int a_2, .int a_3, .int a_4] s) (F0 m 51 ls [])) → ∀ (x6 : Int32) (y0 : Int32) (y1 : Int32) (v_base : Int32) (v_at : Int32) (v_size : Int32) (v_fault : Int32) (v_opened : Int32) (v_isSeen : Int32) (v_aside : Nat → Int32) (v_d : Nat → Int32) (v_found : Nat → Int32) (v_movedKept : Nat → Int32) (v_names : Nat → Int32) (v_seenKept : Nat → Int32) (H : Heap) (locs : List Loc), va_P D gcl [(q_this, .inr (12, [.ref q_d, .ref q_kept, .int v_images, .ref q_found, .ref q_aside, .int v_base, .int v_at, .int v_size, .int v_fault, .int v_opened, .int v_isSeen, .ref q_names, .ref q_seenKept, .ref q_movedKept, .int v_isKeeping, .int v_bubbleMany, .int v_bubbleMost, .int v_bubbleCell, .int v_bestShown, .ref q_traced, .int v_traceMany, .int v_who, .ref q_bitsOf, .ref q_sizeOf, .ref q_number, .ref q_lifted])), (q_aside, .inl (c 0, 120, .inl v_aside)), (q_d, .inl (c 0, 244, .inl v_d)), (q_found, .inl (c 0, 6, .inl v_found)), (q_movedKept, .inl (c 0, 1000, .inl v_movedKept)), (q_names, .inl (c 0, 3, .inl v_names)), (q_seenKept, .inl (c 0, 2500, .inl v_seenKept))] H → va_D A [(q_this, .inr (12, [.ref q_d, .ref q_kept, .int v_images, .ref q_found, .ref q_aside, .int v_base, .int v_at, .int v_size, .int v_fault, .int v_opened, .int v_isSeen, .ref q_names, .ref q_seenKept, .ref q_movedKept, .int v_isKeeping, .int v_bubbleMany, .int v_bubbleMost, .int v_bubbleCell, .int v_bestShown, .ref q_traced, .int v_traceMany, .int v_who, .ref q_bitsOf, .ref q_sizeOf, .ref q_number, .ref q_lifted])), (q_aside, .inl (c 0, 120, .inl v_aside)), (q_d, .inl (c 0, 244, .inl v_d)), (q_found, .inl (c 0, 6, .inl v_found)), (q_movedKept, .inl (c 0, 1000, .inl v_movedKept)), (q_names, .inl (c 0, 3, .inl v_names)), (q_seenKept, .inl (c 0, 2500, .inl v_seenKept))] → va_S A s.heap H locs → ∀ ls, lv_has ls 7 [(0, .ref q_this), (1, .int a_1), (2, .int a_2), (3, .int a_3), (4, .int a_4), (6, .int x6)] → f_X12_odds_L85 kk_L51 a_1 a_2 a_3 a_4 v_isKeeping x6 y0 y1 v_base v_at v_size v_fault v_opened v_isSeen v_aside v_d v_found v_movedKept v_names v_seenKept = some (o_r, o_v_base, o_v_at, o_v_size, o_v_fault, o_v_opened, o_v_isSeen, o_v_aside, o_v_d, o_v_found, o_v_movedKept, o_v_names, o_v_seenKept) → W p l e (headSpec wsX12_odds rm_X12_odds).room s m [.ref q_this, .int a_1, .int a_2, .int a_3, .int a_4].toArray below meth co H locs 0 0 (gQI D [(q_this, .inr (12, [.ref q_d, .ref q_kept, .int v_images, .ref q_found, .ref q_aside, .int o_v_base, .int o_v_at, .int o_v_size, .int o_v_fault, .int o_v_opened, .int o_v_isSeen, .ref q_names, .ref q_seenKept, .ref q_movedKept, .int v_isKeeping, .int v_bubbleMany, .int v_bubbleMost, .int v_bubbleCell, .int v_bestShown, .ref q_traced, .int v_traceMany, .int v_who, .ref q_bitsOf, .ref q_sizeOf, .ref q_number, .ref q_lifted])), (q_aside, .inl (c 0, 120, .inl o_v_aside)), (q_d, .inl (c 0, 244, .inl o_v_d)), (q_found, .inl (c 0, 6, .inl o_v_found)), (q_movedKept, .inl (c 0, 1000, .inl o_v_movedKept)), (q_names, .inl (c 0, 3, .inl o_v_names)), (q_seenKept, .inl (c 0, 2500, .inl o_v_seenKept))] o_r A below [.ref q_this, .int a_1, .int a_2, .int a_3, .int a_4] s) (F0 m 85 ls [.int y1, .int y0]) := by
    intro kk_L51 hkk_L51 x6 y0 y1 v_base v_at v_size v_fault v_opened v_isSeen v_aside v_d v_found v_movedKept v_names v_seenKept H locs hP hD hS ls hl h
    unfold f_X12_odds_L85 at h
    refine lv_iadd hx hb dX12_odds_85 ?_
    replace h := nm_ok h
    obtain ⟨t_46, et_46, h⟩ := h
    refine gTop et_46 ?_
    refine lv_istore (lv' := [(5, .int t_46), (0, .ref q_this), (1, .int a_1), (2, .int a_2), (3, .int a_3), (4, .int a_4), (6, .int x6)]) hx hb dX12_odds_86 hl (by decide) rfl (fun ls hl => ?_)
    refine lv_aload_n hx hb dX12_odds_88 rfl (lv_at hl 1 rfl) ?_
    refine lv_iconst (v := 0) hx hb dX12_odds_89 (by decide) ?_
    replace h := kb_ok h
    obtain ⟨w_48, hc_47, h⟩ := h
    refine gCallV (isC := [0, 1, 2]) (wc := [(q_this, .inr (12, [.ref q_d, .ref q_kept, .int v_images, .ref q_found, .ref q_aside, .int v_base, .int v_at, .int v_size, .int v_fault, .int v_opened, .int v_isSeen, .ref q_names, .ref q_seenKept, .ref q_movedKept, .int v_isKeeping, .int v_bubbleMany, .int v_bubbleMost, .int v_bubbleCell, .int v_bestShown, .ref q_traced, .int v_traceMany, .int v_who, .ref q_bitsOf, .ref q_sizeOf, .ref q_number, .ref q_lifted])), (q_aside, .inl (c 0, 120, .inl v_aside)), (q_d, .inl (c 0, 244, .inl v_d))]) (w1 := [(q_this, .inr (12, [.ref q_d, .ref q_kept, .int v_images, .ref q_found, .ref q_aside, .int v_base, .int v_at, .int v_size, .int v_fault, .int v_opened, .int v_isSeen, .ref q_names, .ref q_seenKept, .ref q_movedKept, .int v_isKeeping, .int v_bubbleMany, .int v_bubbleMost, .int v_bubbleCell, .int v_bestShown, .ref q_traced, .int v_traceMany, .int v_who, .ref q_bitsOf, .ref q_sizeOf, .ref q_number, .ref q_lifted])), (q_aside, .inl (c 0, 120, .inl v_aside)), (q_d, .inl (c 0, 244, .inl w_48))]) (ws2 := [(q_this, .inr (12, [.ref q_d, .ref q_kept, .int v_images, .ref q_found, .ref q_aside, .int v_base, .int v_at, .int v_size, .int v_fault, .int v_opened, .int v_isSeen, .ref q_names, .ref q_seenKept, .ref q_movedKept, .int v_isKeeping, .int v_bubbleMany, .int v_bubbleMost, .int v_bubbleCell, .int v_bestShown, .ref q_traced, .int v_traceMany, .int v_who, .ref q_bitsOf, .ref q_sizeOf, .ref q_number, .ref q_lifted])), (q_aside, .inl (c 0, 120, .inl v_aside)), (q_d, .inl (c 0, 244, .inl w_48)), (q_found, .inl (c 0, 6, .inl v_found)), (q_movedKept, .inl (c 0, 1000, .inl v_movedKept)), (q_names, .inl (c 0, 3, .inl v_names)), (q_seenKept, .inl (c 0, 2500, .inl v_seenKept))]) (ms := [(some 0), (some 1), (some 2), none, none, none, none]) hP hD hS hA ⟨rfl, rfl, rfl, trivial⟩ (by decide +kernel) ⟨rfl, rfl, rfl, rfl, rfl, rfl, rfl, trivial⟩ (va_runV (rm := rm_X12_putBack) (ws := wsX12_putBack) (As := [.int 0]) (rest := []) (gFix hF) (c_X12_putBack l D c q_this q_d q_kept q_found q_aside q_names q_seenKept q_movedKept q_traced q_bitsOf q_sizeOf q_number q_lifted 0 v_images v_base v_at v_size v_fault v_opened v_isSeen v_isKeeping v_bubbleMany v_bubbleMost v_bubbleCell v_bestShown v_traceMany v_who v_aside v_d w_48 hc_47 H.size) (cwV 1 hts gX12_odds_X12_putBack rfl rfl rfl (by decide +kernel) ⟨Nat.le_of_ble_eq_true rfl, Nat.le_of_ble_eq_true rfl⟩) (gPreV (wc := [(q_this, .inr (12, [.ref q_d, .ref q_kept, .int v_images, .ref q_found, .ref q_aside, .int v_base, .int v_at, .int v_size, .int v_fault, .int v_opened, .int v_isSeen, .ref q_names, .ref q_seenKept, .ref q_movedKept, .int v_isKeeping, .int v_bubbleMany, .int v_bubbleMost, .int v_bubbleCell, .int v_bestShown, .ref q_traced, .int v_traceMany, .int v_who, .ref q_bitsOf, .ref q_sizeOf, .ref q_number, .ref q_lifted])), (q_aside, .inl (c 0, 120, .inl v_aside)), (q_d, .inl (c 0, 244, .inl v_d))]) (q := (RX12, TX12, 26)) (ci := 12) (q0 := 0) (isC := [0, 1, 2]) hK hX hS hA hP hD ⟨rfl, rfl, rfl, trivial⟩ (by decide +kernel) rfl rfl) rfl rfl hl.1 rfl (lv_room (Nat.le_of_ble_eq_true rfl)) dX12_odds_90 ⟨Nat.le_of_ble_eq_true rfl, Nat.le_of_ble_eq_true rfl⟩) (fun H locs hP hD hS => ?_)
    replace h := nm_ok h
    obtain ⟨t_49, et_49, h⟩ := h
    refine lv_iinc (v := t_49) (lv' := [(6, .int t_49), (5, .int t_46), (0, .ref q_this), (1, .int a_1), (2, .int a_2), (3, .int a_3), (4, .int a_4)]) hx hb dX12_odds_93 hl (k := 6) rfl (by rw [et_49]; rfl) (by decide) rfl (fun ls hl => ?_)
    refine lv_goto (tgt := 51) hx hb dX12_odds_96 (by decide) ?_
    exact hkk_L51 t_46 t_49 v_base v_at v_size v_fault v_opened v_isSeen v_aside w_48 v_found v_movedKept v_names v_seenKept H locs hP hD hS ls (lv_sub hl [2, 3, 4, 5, 6, 1, 0] rfl) h
  have t_L51 : ∀ (n : Nat), ∀ (x5 : Int32) (x6 : Int32) (v_base : Int32) (v_at : Int32) (v_size : Int32) (v_fault : Int32) (v_opened : Int32) (v_isSeen : Int32) (v_aside : Nat → Int32) (v_d : Nat → Int32) (v_found : Nat → Int32) (v_movedKept : Nat → Int32) (v_names : Nat → Int32) (v_seenKept : Nat → Int32) (H : Heap) (locs : List Loc), va_P D gcl [(q_this, .inr (12, [.ref q_d, .ref q_kept, .int v_images, .ref q_found, .ref q_aside, .int v_base, .int v_at, .int v_size, .int v_fault, .int v_opened, .int v_isSeen, .ref q_names, .ref q_seenKept, .ref q_movedKept, .int v_isKeeping, .int v_bubbleMany, .int v_bubbleMost, .int v_bubbleCell, .int v_bestShown, .ref q_traced, .int v_traceMany, .int v_who, .ref q_bitsOf, .ref q_sizeOf, .ref q_number, .ref q_lifted])), (q_aside, .inl (c 0, 120, .inl v_aside)), (q_d, .inl (c 0, 244, .inl v_d)), (q_found, .inl (c 0, 6, .inl v_found)), (q_movedKept, .inl (c 0, 1000, .inl v_movedKept)), (q_names, .inl (c 0, 3, .inl v_names)), (q_seenKept, .inl (c 0, 2500, .inl v_seenKept))] H → va_D A [(q_this, .inr (12, [.ref q_d, .ref q_kept, .int v_images, .ref q_found, .ref q_aside, .int v_base, .int v_at, .int v_size, .int v_fault, .int v_opened, .int v_isSeen, .ref q_names, .ref q_seenKept, .ref q_movedKept, .int v_isKeeping, .int v_bubbleMany, .int v_bubbleMost, .int v_bubbleCell, .int v_bestShown, .ref q_traced, .int v_traceMany, .int v_who, .ref q_bitsOf, .ref q_sizeOf, .ref q_number, .ref q_lifted])), (q_aside, .inl (c 0, 120, .inl v_aside)), (q_d, .inl (c 0, 244, .inl v_d)), (q_found, .inl (c 0, 6, .inl v_found)), (q_movedKept, .inl (c 0, 1000, .inl v_movedKept)), (q_names, .inl (c 0, 3, .inl v_names)), (q_seenKept, .inl (c 0, 2500, .inl v_seenKept))] → va_S A s.heap H locs → ∀ ls, lv_has ls 7 [(0, .ref q_this), (1, .int a_1), (2, .int a_2), (3, .int a_3), (4, .int a_4), (5, .int x5), (6, .int x6)] → f_X12_odds_L51 a_1 a_2 a_3 a_4 v_isKeeping n x5 x6 v_base v_at v_size v_fault v_opened v_isSeen v_aside v_d v_found v_movedKept v_names v_seenKept = some (o_r, o_v_base, o_v_at, o_v_size, o_v_fault, o_v_opened, o_v_isSeen, o_v_aside, o_v_d, o_v_found, o_v_movedKept, o_v_names, o_v_seenKept) → W p l e (headSpec wsX12_odds rm_X12_odds).room s m [.ref q_this, .int a_1, .int a_2, .int a_3, .int a_4].toArray below meth co H locs 0 0 (gQI D [(q_this, .inr (12, [.ref q_d, .ref q_kept, .int v_images, .ref q_found, .ref q_aside, .int o_v_base, .int o_v_at, .int o_v_size, .int o_v_fault, .int o_v_opened, .int o_v_isSeen, .ref q_names, .ref q_seenKept, .ref q_movedKept, .int v_isKeeping, .int v_bubbleMany, .int v_bubbleMost, .int v_bubbleCell, .int v_bestShown, .ref q_traced, .int v_traceMany, .int v_who, .ref q_bitsOf, .ref q_sizeOf, .ref q_number, .ref q_lifted])), (q_aside, .inl (c 0, 120, .inl o_v_aside)), (q_d, .inl (c 0, 244, .inl o_v_d)), (q_found, .inl (c 0, 6, .inl o_v_found)), (q_movedKept, .inl (c 0, 1000, .inl o_v_movedKept)), (q_names, .inl (c 0, 3, .inl o_v_names)), (q_seenKept, .inl (c 0, 2500, .inl o_v_seenKept))] o_r A below [.ref q_this, .int a_1, .int a_2, .int a_3, .int a_4] s) (F0 m 51 ls []) := by
    intro n
    induction n with
    | zero => intro x5 x6 v_base v_at v_size v_fault v_opened v_isSeen v_aside v_d v_found v_movedKept v_names v_seenKept H locs hP hD hS ls hl h; exact no_ok h
    | succ n ih =>
      intro x5 x6 v_base v_at v_size v_fault v_opened v_isSeen v_aside v_d v_found v_movedKept v_names v_seenKept H locs hP hD hS ls hl h
      rw [f_X12_odds_L51] at h
      refine lv_iload hx hb dX12_odds_51 (lv_at hl 6 rfl) ?_
      refine lv_iconst (v := 4) hx hb dX12_odds_53 (by decide) ?_
      refine lv_icmp_ge (tgt := 99) hx hb dX12_odds_54 (by decide) (fun c_16 => ?_) (fun c_16 => ?_)
      · replace h := it_t c_16 h
        refine lv_iload hx hb dX12_odds_99 (lv_at hl 5 rfl) ?_
        refine lv_iconst (v := 4) hx hb dX12_odds_101 (by decide) ?_
        replace h := chz_ok h
        obtain ⟨hz_17, h⟩ := h
        refine lv_irem hx hb dX12_odds_102 hz_17 ?_
        refine lv_if_ne (tgt := 110) hx hb dX12_odds_103 (by decide) (fun c_18 => ?_) (fun c_18 => ?_)
        · replace h := it_f c_18 h
          refine lv_iload hx hb dX12_odds_110 (lv_at hl 5 rfl) ?_
          refine lv_iconst (v := 2) hx hb dX12_odds_112 (by decide) ?_
          refine lv_icmp_ne (tgt := 120) hx hb dX12_odds_113 (by decide) (fun c_19 => ?_) (fun c_19 => ?_)
          · replace h := it_f c_19 h
            refine lv_iconst (v := 1) hx hb dX12_odds_120 (by decide) ?_
            exact t_L121 x5 1 v_base v_at v_size v_fault v_opened v_isSeen v_aside v_d v_found v_movedKept v_names v_seenKept H locs hP hD hS ls (lv_sub hl [4, 5] rfl) h
          · replace h := it_t c_19 h
            refine lv_iconst (v := 2) hx hb dX12_odds_116 (by decide) ?_
            refine lv_goto (tgt := 121) hx hb dX12_odds_117 (by decide) ?_
            exact t_L121 x5 2 v_base v_at v_size v_fault v_opened v_isSeen v_aside v_d v_found v_movedKept v_names v_seenKept H locs hP hD hS ls (lv_sub hl [4, 5] rfl) h
        · replace h := it_t c_18 h
          refine lv_iconst (v := 4) hx hb dX12_odds_106 (by decide) ?_
          refine lv_goto (tgt := 121) hx hb dX12_odds_107 (by decide) ?_
          exact t_L121 x5 4 v_base v_at v_size v_fault v_opened v_isSeen v_aside v_d v_found v_movedKept v_names v_seenKept H locs hP hD hS ls (lv_sub hl [4, 5] rfl) h
      · replace h := it_f c_16 h
        refine lv_aload_n hx hb dX12_odds_57 rfl (lv_at hl 0 rfl) ?_
        refine lv_iconst (v := 0) hx hb dX12_odds_58 (by decide) ?_
        replace h := kb_ok h
        obtain ⟨w_21, hc_20, h⟩ := h
        refine gCallV (isC := [0, 1, 2]) (wc := [(q_this, .inr (12, [.ref q_d, .ref q_kept, .int v_images, .ref q_found, .ref q_aside, .int v_base, .int v_at, .int v_size, .int v_fault, .int v_opened, .int v_isSeen, .ref q_names, .ref q_seenKept, .ref q_movedKept, .int v_isKeeping, .int v_bubbleMany, .int v_bubbleMost, .int v_bubbleCell, .int v_bestShown, .ref q_traced, .int v_traceMany, .int v_who, .ref q_bitsOf, .ref q_sizeOf, .ref q_number, .ref q_lifted])), (q_aside, .inl (c 0, 120, .inl v_aside)), (q_d, .inl (c 0, 244, .inl v_d))]) (w1 := [(q_this, .inr (12, [.ref q_d, .ref q_kept, .int v_images, .ref q_found, .ref q_aside, .int v_base, .int v_at, .int v_size, .int v_fault, .int v_opened, .int v_isSeen, .ref q_names, .ref q_seenKept, .ref q_movedKept, .int v_isKeeping, .int v_bubbleMany, .int v_bubbleMost, .int v_bubbleCell, .int v_bestShown, .ref q_traced, .int v_traceMany, .int v_who, .ref q_bitsOf, .ref q_sizeOf, .ref q_number, .ref q_lifted])), (q_aside, .inl (c 0, 120, .inl w_21)), (q_d, .inl (c 0, 244, .inl v_d))]) (ws2 := [(q_this, .inr (12, [.ref q_d, .ref q_kept, .int v_images, .ref q_found, .ref q_aside, .int v_base, .int v_at, .int v_size, .int v_fault, .int v_opened, .int v_isSeen, .ref q_names, .ref q_seenKept, .ref q_movedKept, .int v_isKeeping, .int v_bubbleMany, .int v_bubbleMost, .int v_bubbleCell, .int v_bestShown, .ref q_traced, .int v_traceMany, .int v_who, .ref q_bitsOf, .ref q_sizeOf, .ref q_number, .ref q_lifted])), (q_aside, .inl (c 0, 120, .inl w_21)), (q_d, .inl (c 0, 244, .inl v_d)), (q_found, .inl (c 0, 6, .inl v_found)), (q_movedKept, .inl (c 0, 1000, .inl v_movedKept)), (q_names, .inl (c 0, 3, .inl v_names)), (q_seenKept, .inl (c 0, 2500, .inl v_seenKept))]) (ms := [(some 0), (some 1), (some 2), none, none, none, none]) hP hD hS hA ⟨rfl, rfl, rfl, trivial⟩ (by decide +kernel) ⟨rfl, rfl, rfl, rfl, rfl, rfl, rfl, trivial⟩ (va_runV (rm := rm_X12_keepAside) (ws := wsX12_keepAside) (As := [.int 0]) (rest := []) (gFix hF) (c_X12_keepAside l D c q_this q_d q_kept q_found q_aside q_names q_seenKept q_movedKept q_traced q_bitsOf q_sizeOf q_number q_lifted 0 v_images v_base v_at v_size v_fault v_opened v_isSeen v_isKeeping v_bubbleMany v_bubbleMost v_bubbleCell v_bestShown v_traceMany v_who v_aside v_d w_21 hc_20 H.size) (cwV 1 hts gX12_odds_X12_keepAside rfl rfl rfl (by decide +kernel) ⟨Nat.le_of_ble_eq_true rfl, Nat.le_of_ble_eq_true rfl⟩) (gPreV (wc := [(q_this, .inr (12, [.ref q_d, .ref q_kept, .int v_images, .ref q_found, .ref q_aside, .int v_base, .int v_at, .int v_size, .int v_fault, .int v_opened, .int v_isSeen, .ref q_names, .ref q_seenKept, .ref q_movedKept, .int v_isKeeping, .int v_bubbleMany, .int v_bubbleMost, .int v_bubbleCell, .int v_bestShown, .ref q_traced, .int v_traceMany, .int v_who, .ref q_bitsOf, .ref q_sizeOf, .ref q_number, .ref q_lifted])), (q_aside, .inl (c 0, 120, .inl v_aside)), (q_d, .inl (c 0, 244, .inl v_d))]) (q := (RX12, TX12, 26)) (ci := 12) (q0 := 0) (isC := [0, 1, 2]) hK hX hS hA hP hD ⟨rfl, rfl, rfl, trivial⟩ (by decide +kernel) rfl rfl) rfl rfl hl.1 rfl (lv_room (Nat.le_of_ble_eq_true rfl)) dX12_odds_59 ⟨Nat.le_of_ble_eq_true rfl, Nat.le_of_ble_eq_true rfl⟩) (fun H locs hP hD hS => ?_)
        refine lv_aload_n hx hb dX12_odds_62 rfl (lv_at hl 0 rfl) ?_
        refine lv_iload_n hx hb dX12_odds_63 rfl (lv_at hl 1 rfl) ?_
        refine lv_iload_n hx hb dX12_odds_64 rfl (lv_at hl 2 rfl) ?_
        refine lv_iload hx hb dX12_odds_65 (lv_at hl 6 rfl) ?_
        replace h := kb9_ok h
        obtain ⟨w_23, w_24, w_25, w_26, w_27, w_28, w_29, w_30, w_31, hc_22, h⟩ := h
        refine gCallV (isC := [0, 2, 4, 5]) (wc := [(q_this, .inr (12, [.ref q_d, .ref q_kept, .int v_images, .ref q_found, .ref q_aside, .int v_base, .int v_at, .int v_size, .int v_fault, .int v_opened, .int v_isSeen, .ref q_names, .ref q_seenKept, .ref q_movedKept, .int v_isKeeping, .int v_bubbleMany, .int v_bubbleMost, .int v_bubbleCell, .int v_bestShown, .ref q_traced, .int v_traceMany, .int v_who, .ref q_bitsOf, .ref q_sizeOf, .ref q_number, .ref q_lifted])), (q_d, .inl (c 0, 244, .inl v_d)), (q_movedKept, .inl (c 0, 1000, .inl v_movedKept)), (q_names, .inl (c 0, 3, .inl v_names))]) (w1 := [(q_this, .inr (12, [.ref q_d, .ref q_kept, .int v_images, .ref q_found, .ref q_aside, .int w_23, .int w_24, .int w_25, .int w_26, .int w_27, .int w_28, .ref q_names, .ref q_seenKept, .ref q_movedKept, .int v_isKeeping, .int v_bubbleMany, .int v_bubbleMost, .int v_bubbleCell, .int v_bestShown, .ref q_traced, .int v_traceMany, .int v_who, .ref q_bitsOf, .ref q_sizeOf, .ref q_number, .ref q_lifted])), (q_d, .inl (c 0, 244, .inl w_29)), (q_movedKept, .inl (c 0, 1000, .inl w_30)), (q_names, .inl (c 0, 3, .inl w_31))]) (ws2 := [(q_this, .inr (12, [.ref q_d, .ref q_kept, .int v_images, .ref q_found, .ref q_aside, .int w_23, .int w_24, .int w_25, .int w_26, .int w_27, .int w_28, .ref q_names, .ref q_seenKept, .ref q_movedKept, .int v_isKeeping, .int v_bubbleMany, .int v_bubbleMost, .int v_bubbleCell, .int v_bestShown, .ref q_traced, .int v_traceMany, .int v_who, .ref q_bitsOf, .ref q_sizeOf, .ref q_number, .ref q_lifted])), (q_aside, .inl (c 0, 120, .inl w_21)), (q_d, .inl (c 0, 244, .inl w_29)), (q_found, .inl (c 0, 6, .inl v_found)), (q_movedKept, .inl (c 0, 1000, .inl w_30)), (q_names, .inl (c 0, 3, .inl w_31)), (q_seenKept, .inl (c 0, 2500, .inl v_seenKept))]) (ms := [(some 0), none, (some 1), none, (some 2), (some 3), none]) hP hD hS hA ⟨rfl, rfl, rfl, rfl, trivial⟩ (by decide +kernel) ⟨rfl, rfl, rfl, rfl, rfl, rfl, rfl, trivial⟩ (va_runV (rm := rm_X12_strokes) (ws := wsX12_strokes) (As := [.int a_1, .int a_2, .int x6]) (rest := []) (gFix hF) (c_X12_strokes l D c q_this q_d q_kept q_found q_aside q_names q_seenKept q_movedKept q_traced q_bitsOf q_sizeOf q_number q_lifted a_1 a_2 x6 v_images v_base v_at v_size v_fault v_opened v_isSeen v_isKeeping v_bubbleMany v_bubbleMost v_bubbleCell v_bestShown v_traceMany v_who v_d v_movedKept v_names w_23 w_24 w_25 w_26 w_27 w_28 w_29 w_30 w_31 hc_22 H.size) (cwV 3 hts gX12_odds_X12_strokes rfl rfl rfl (by decide +kernel) ⟨Nat.le_of_ble_eq_true rfl, Nat.le_of_ble_eq_true rfl⟩) (gPreV (wc := [(q_this, .inr (12, [.ref q_d, .ref q_kept, .int v_images, .ref q_found, .ref q_aside, .int v_base, .int v_at, .int v_size, .int v_fault, .int v_opened, .int v_isSeen, .ref q_names, .ref q_seenKept, .ref q_movedKept, .int v_isKeeping, .int v_bubbleMany, .int v_bubbleMost, .int v_bubbleCell, .int v_bestShown, .ref q_traced, .int v_traceMany, .int v_who, .ref q_bitsOf, .ref q_sizeOf, .ref q_number, .ref q_lifted])), (q_d, .inl (c 0, 244, .inl v_d)), (q_movedKept, .inl (c 0, 1000, .inl v_movedKept)), (q_names, .inl (c 0, 3, .inl v_names))]) (q := (RX12, TX12, 26)) (ci := 12) (q0 := 0) (isC := [0, 2, 4, 5]) hK hX hS hA hP hD ⟨rfl, rfl, rfl, rfl, trivial⟩ (by decide +kernel) rfl rfl) rfl rfl hl.1 rfl (lv_room (Nat.le_of_ble_eq_true rfl)) dX12_odds_67 ⟨Nat.le_of_ble_eq_true rfl, Nat.le_of_ble_eq_true rfl⟩) (fun H locs hP hD hS => ?_)
        refine lv_iload hx hb dX12_odds_70 (lv_at hl 5 rfl) ?_
        refine lv_aload_n hx hb dX12_odds_72 rfl (lv_at hl 0 rfl) ?_
        replace h := kb9_ok h
        obtain ⟨r_33, w_34, w_35, w_36, w_37, w_38, w_39, w_40, w_41, hc_32, h⟩ := h
        refine gCallI (isC := [0, 2, 5, 6]) (wc := [(q_this, .inr (12, [.ref q_d, .ref q_kept, .int v_images, .ref q_found, .ref q_aside, .int w_23, .int w_24, .int w_25, .int w_26, .int w_27, .int w_28, .ref q_names, .ref q_seenKept, .ref q_movedKept, .int v_isKeeping, .int v_bubbleMany, .int v_bubbleMost, .int v_bubbleCell, .int v_bestShown, .ref q_traced, .int v_traceMany, .int v_who, .ref q_bitsOf, .ref q_sizeOf, .ref q_number, .ref q_lifted])), (q_d, .inl (c 0, 244, .inl w_29)), (q_names, .inl (c 0, 3, .inl w_31)), (q_seenKept, .inl (c 0, 2500, .inl v_seenKept))]) (w1 := [(q_this, .inr (12, [.ref q_d, .ref q_kept, .int v_images, .ref q_found, .ref q_aside, .int w_34, .int w_35, .int w_36, .int w_37, .int w_38, .int w_39, .ref q_names, .ref q_seenKept, .ref q_movedKept, .int v_isKeeping, .int v_bubbleMany, .int v_bubbleMost, .int v_bubbleCell, .int v_bestShown, .ref q_traced, .int v_traceMany, .int v_who, .ref q_bitsOf, .ref q_sizeOf, .ref q_number, .ref q_lifted])), (q_d, .inl (c 0, 244, .inl w_29)), (q_names, .inl (c 0, 3, .inl w_40)), (q_seenKept, .inl (c 0, 2500, .inl w_41))]) (ws2 := [(q_this, .inr (12, [.ref q_d, .ref q_kept, .int v_images, .ref q_found, .ref q_aside, .int w_34, .int w_35, .int w_36, .int w_37, .int w_38, .int w_39, .ref q_names, .ref q_seenKept, .ref q_movedKept, .int v_isKeeping, .int v_bubbleMany, .int v_bubbleMost, .int v_bubbleCell, .int v_bestShown, .ref q_traced, .int v_traceMany, .int v_who, .ref q_bitsOf, .ref q_sizeOf, .ref q_number, .ref q_lifted])), (q_aside, .inl (c 0, 120, .inl w_21)), (q_d, .inl (c 0, 244, .inl w_29)), (q_found, .inl (c 0, 6, .inl v_found)), (q_movedKept, .inl (c 0, 1000, .inl w_30)), (q_names, .inl (c 0, 3, .inl w_40)), (q_seenKept, .inl (c 0, 2500, .inl w_41))]) (ms := [(some 0), none, (some 1), none, none, (some 2), (some 3)]) hP hD hS hA ⟨rfl, rfl, rfl, rfl, trivial⟩ (by decide +kernel) ⟨rfl, rfl, rfl, rfl, rfl, rfl, rfl, trivial⟩ (va_runV (rm := rm_X12_seen) (ws := wsX12_seen) (As := []) (rest := [.int x5]) (gFix hF) (c_X12_seen l D c q_this q_d q_kept q_found q_aside q_names q_seenKept q_movedKept q_traced q_bitsOf q_sizeOf q_number q_lifted v_images w_23 w_24 w_25 w_26 w_27 w_28 v_isKeeping v_bubbleMany v_bubbleMost v_bubbleCell v_bestShown v_traceMany v_who w_29 w_31 v_seenKept r_33 w_34 w_35 w_36 w_37 w_38 w_39 w_40 w_41 hc_32 H.size) (cwV 0 hts gX12_odds_X12_seen rfl rfl rfl (by decide +kernel) ⟨Nat.le_of_ble_eq_true rfl, Nat.le_of_ble_eq_true rfl⟩) (gPreV (wc := [(q_this, .inr (12, [.ref q_d, .ref q_kept, .int v_images, .ref q_found, .ref q_aside, .int w_23, .int w_24, .int w_25, .int w_26, .int w_27, .int w_28, .ref q_names, .ref q_seenKept, .ref q_movedKept, .int v_isKeeping, .int v_bubbleMany, .int v_bubbleMost, .int v_bubbleCell, .int v_bestShown, .ref q_traced, .int v_traceMany, .int v_who, .ref q_bitsOf, .ref q_sizeOf, .ref q_number, .ref q_lifted])), (q_d, .inl (c 0, 244, .inl w_29)), (q_names, .inl (c 0, 3, .inl w_31)), (q_seenKept, .inl (c 0, 2500, .inl v_seenKept))]) (q := (RX12, TX12, 26)) (ci := 12) (q0 := 0) (isC := [0, 2, 5, 6]) hK hX hS hA hP hD ⟨rfl, rfl, rfl, rfl, trivial⟩ (by decide +kernel) rfl rfl) rfl rfl hl.1 rfl (lv_room (Nat.le_of_ble_eq_true rfl)) dX12_odds_73 ⟨Nat.le_of_ble_eq_true rfl, Nat.le_of_ble_eq_true rfl⟩) (fun H locs hP hD hS => ?_)
        refine lv_iload_n hx hb dX12_odds_76 rfl (lv_at hl 3 rfl) ?_
        refine lv_icmp_gt (tgt := 84) hx hb dX12_odds_77 (by decide) (fun c_42 => ?_) (fun c_42 => ?_)
        · replace h := it_t c_42 h
          refine lv_iconst (v := 0) hx hb dX12_odds_84 (by decide) ?_
          exact t_L85 _ ih x6 x5 0 w_34 w_35 w_36 w_37 w_38 w_39 w_21 w_29 v_found w_30 w_40 w_41 H locs hP hD hS ls (lv_sub hl [0, 1, 2, 3, 4, 6] rfl) h
        · replace h := it_f c_42 h
          refine lv_iconst (v := 1) hx hb dX12_odds_80 (by decide) ?_
          refine lv_goto (tgt := 85) hx hb dX12_odds_81 (by decide) ?_
          exact t_L85 _ ih x6 x5 1 w_34 w_35 w_36 w_37 w_38 w_39 w_21 w_29 v_found w_30 w_40 w_41 H locs hP hD hS ls (lv_sub hl [0, 1, 2, 3, 4, 6] rfl) h
  unfold f_X12_odds at h
  refine lv_aload_n hx hb dX12_odds_0 rfl (lv_at hl 0 rfl) ?_
  refine lv_iload_n hx hb dX12_odds_1 rfl (lv_at hl 1 rfl) ?_
  replace h := kb_ok h
  obtain ⟨r_2, hc_1, h⟩ := h
  refine gCallIr (isC := [0, 2]) (wc := [(q_this, .inr (12, [.ref q_d, .ref q_kept, .int v_images, .ref q_found, .ref q_aside, .int v_base, .int v_at, .int v_size, .int v_fault, .int v_opened, .int v_isSeen, .ref q_names, .ref q_seenKept, .ref q_movedKept, .int v_isKeeping, .int v_bubbleMany, .int v_bubbleMost, .int v_bubbleCell, .int v_bestShown, .ref q_traced, .int v_traceMany, .int v_who, .ref q_bitsOf, .ref q_sizeOf, .ref q_number, .ref q_lifted])), (q_d, .inl (c 0, 244, .inl v_d))]) hP hD hS hA ⟨rfl, rfl, trivial⟩ (va_runV (rm := rm_X12_isTool) (ws := wsX12_isTool) (As := [.int a_1]) (rest := []) (gFix hF) (c_X12_isTool l D c q_this q_d q_kept q_found q_aside q_names q_seenKept q_movedKept q_traced q_bitsOf q_sizeOf q_number q_lifted a_1 v_images v_base v_at v_size v_fault v_opened v_isSeen v_isKeeping v_bubbleMany v_bubbleMost v_bubbleCell v_bestShown v_traceMany v_who v_d r_2 hc_1 s.heap.size) (cwV 1 hts gX12_odds_X12_isTool rfl rfl rfl (by decide +kernel) ⟨Nat.le_of_ble_eq_true rfl, Nat.le_of_ble_eq_true rfl⟩) (gPreV (wc := [(q_this, .inr (12, [.ref q_d, .ref q_kept, .int v_images, .ref q_found, .ref q_aside, .int v_base, .int v_at, .int v_size, .int v_fault, .int v_opened, .int v_isSeen, .ref q_names, .ref q_seenKept, .ref q_movedKept, .int v_isKeeping, .int v_bubbleMany, .int v_bubbleMost, .int v_bubbleCell, .int v_bestShown, .ref q_traced, .int v_traceMany, .int v_who, .ref q_bitsOf, .ref q_sizeOf, .ref q_number, .ref q_lifted])), (q_d, .inl (c 0, 244, .inl v_d))]) (q := (RX12, TX12, 26)) (ci := 12) (q0 := 0) (isC := [0, 2]) hK hX hS hA hP hD ⟨rfl, rfl, trivial⟩ (by decide +kernel) rfl rfl) rfl rfl hl.1 rfl (lv_room (Nat.le_of_ble_eq_true rfl)) dX12_odds_2 ⟨Nat.le_of_ble_eq_true rfl, Nat.le_of_ble_eq_true rfl⟩) (fun H locs hP hS => ?_)
  refine lv_if_eq (tgt := 39) hx hb dX12_odds_5 (by decide) (fun c_3 => ?_) (fun c_3 => ?_)
  · replace h := it_t c_3 h
    exact t_L39 v_base v_at v_size v_fault v_opened v_isSeen v_aside v_d v_found v_movedKept v_names v_seenKept H locs hP hD hS ls (lv_sub hl [0] rfl) h
  · replace h := it_f c_3 h
    refine lv_aload_n hx hb dX12_odds_8 rfl (lv_at hl 0 rfl) ?_
    refine lv_iload_n hx hb dX12_odds_9 rfl (lv_at hl 2 rfl) ?_
    replace h := kb_ok h
    obtain ⟨r_5, hc_4, h⟩ := h
    refine gCallIr (isC := [0, 2]) (wc := [(q_this, .inr (12, [.ref q_d, .ref q_kept, .int v_images, .ref q_found, .ref q_aside, .int v_base, .int v_at, .int v_size, .int v_fault, .int v_opened, .int v_isSeen, .ref q_names, .ref q_seenKept, .ref q_movedKept, .int v_isKeeping, .int v_bubbleMany, .int v_bubbleMost, .int v_bubbleCell, .int v_bestShown, .ref q_traced, .int v_traceMany, .int v_who, .ref q_bitsOf, .ref q_sizeOf, .ref q_number, .ref q_lifted])), (q_d, .inl (c 0, 244, .inl v_d))]) hP hD hS hA ⟨rfl, rfl, trivial⟩ (va_runV (rm := rm_X12_isCell) (ws := wsX12_isCell) (As := [.int a_2]) (rest := []) (gFix hF) (c_X12_isCell l D c q_this q_d q_kept q_found q_aside q_names q_seenKept q_movedKept q_traced q_bitsOf q_sizeOf q_number q_lifted a_2 v_images v_base v_at v_size v_fault v_opened v_isSeen v_isKeeping v_bubbleMany v_bubbleMost v_bubbleCell v_bestShown v_traceMany v_who v_d r_5 hc_4 H.size) (cwV 1 hts gX12_odds_X12_isCell rfl rfl rfl (by decide +kernel) ⟨Nat.le_of_ble_eq_true rfl, Nat.le_of_ble_eq_true rfl⟩) (gPreV (wc := [(q_this, .inr (12, [.ref q_d, .ref q_kept, .int v_images, .ref q_found, .ref q_aside, .int v_base, .int v_at, .int v_size, .int v_fault, .int v_opened, .int v_isSeen, .ref q_names, .ref q_seenKept, .ref q_movedKept, .int v_isKeeping, .int v_bubbleMany, .int v_bubbleMost, .int v_bubbleCell, .int v_bestShown, .ref q_traced, .int v_traceMany, .int v_who, .ref q_bitsOf, .ref q_sizeOf, .ref q_number, .ref q_lifted])), (q_d, .inl (c 0, 244, .inl v_d))]) (q := (RX12, TX12, 26)) (ci := 12) (q0 := 0) (isC := [0, 2]) hK hX hS hA hP hD ⟨rfl, rfl, trivial⟩ (by decide +kernel) rfl rfl) rfl rfl hl.1 rfl (lv_room (Nat.le_of_ble_eq_true rfl)) dX12_odds_10 ⟨Nat.le_of_ble_eq_true rfl, Nat.le_of_ble_eq_true rfl⟩) (fun H locs hP hS => ?_)
    refine lv_if_eq (tgt := 39) hx hb dX12_odds_13 (by decide) (fun c_6 => ?_) (fun c_6 => ?_)
    · replace h := it_t c_6 h
      exact t_L39 v_base v_at v_size v_fault v_opened v_isSeen v_aside v_d v_found v_movedKept v_names v_seenKept H locs hP hD hS ls (lv_sub hl [0] rfl) h
    · replace h := it_f c_6 h
      refine lv_iload_n hx hb dX12_odds_16 rfl (lv_at hl 3 rfl) ?_
      refine lv_i2l hx hb dX12_odds_17 rfl ?_
      refine lv_lconst (v := 0) hx hb dX12_odds_18 (by decide) ?_
      refine lv_ldc2 (v := 9999) hx hb hown (hts (.constantLong RX12 257 (9999)) (List.mem_of_getElem? (i := 1) rfl)) dX12_odds_19 ?_
      replace h := kb_ok h
      obtain ⟨r_8, hc_7, h⟩ := h
      refine gCallIr (isC := []) (wc := []) hP hD hS hA trivial (va_runS (rm := rm_X12_in) (ws := wsX12_in) (As := [.long ((a_3 : Int32).toInt64), .long 0, .long 9999]) (rest := []) (gFix hF) (c_X12_in l D c ((a_3 : Int32).toInt64) 0 9999 r_8 hc_7 H.size) (va_cwS 3 hts gX12_odds_X12_in rfl rfl rfl (by decide +kernel) ⟨Nat.le_of_ble_eq_true rfl, Nat.le_of_ble_eq_true rfl⟩) (gPreS (wc := []) (isC := []) hK hX hS hA hP hD trivial (by decide +kernel)) rfl rfl hl.1 rfl (lv_room (Nat.le_of_ble_eq_true rfl)) dX12_odds_22 ⟨Nat.le_of_ble_eq_true rfl, Nat.le_of_ble_eq_true rfl⟩) (fun H locs hP hS => ?_)
      refine lv_if_eq (tgt := 39) hx hb dX12_odds_25 (by decide) (fun c_9 => ?_) (fun c_9 => ?_)
      · replace h := it_t c_9 h
        exact t_L39 v_base v_at v_size v_fault v_opened v_isSeen v_aside v_d v_found v_movedKept v_names v_seenKept H locs hP hD hS ls (lv_sub hl [0] rfl) h
      · replace h := it_f c_9 h
        refine lv_iload hx hb dX12_odds_28 (lv_at hl 4 rfl) ?_
        refine lv_i2l hx hb dX12_odds_30 rfl ?_
        refine lv_lconst (v := 0) hx hb dX12_odds_31 (by decide) ?_
        refine lv_lconst (v := 1) hx hb dX12_odds_32 (by decide) ?_
        replace h := kb_ok h
        obtain ⟨r_11, hc_10, h⟩ := h
        refine gCallIr (isC := []) (wc := []) hP hD hS hA trivial (va_runS (rm := rm_X12_in) (ws := wsX12_in) (As := [.long ((a_4 : Int32).toInt64), .long 0, .long 1]) (rest := []) (gFix hF) (c_X12_in l D c ((a_4 : Int32).toInt64) 0 1 r_11 hc_10 H.size) (va_cwS 3 hts gX12_odds_X12_in rfl rfl rfl (by decide +kernel) ⟨Nat.le_of_ble_eq_true rfl, Nat.le_of_ble_eq_true rfl⟩) (gPreS (wc := []) (isC := []) hK hX hS hA hP hD trivial (by decide +kernel)) rfl rfl hl.1 rfl (lv_room (Nat.le_of_ble_eq_true rfl)) dX12_odds_33 ⟨Nat.le_of_ble_eq_true rfl, Nat.le_of_ble_eq_true rfl⟩) (fun H locs hP hS => ?_)
        refine lv_if_ne (tgt := 45) hx hb dX12_odds_36 (by decide) (fun c_12 => ?_) (fun c_12 => ?_)
        · replace h := it_f c_12 h
          refine lv_iconst (v := 0) hx hb dX12_odds_45 (by decide) ?_
          refine lv_istore (lv' := [(5, .int 0), (0, .ref q_this), (1, .int a_1), (2, .int a_2), (3, .int a_3), (4, .int a_4)]) hx hb dX12_odds_46 hl (by decide) rfl (fun ls hl => ?_)
          refine lv_iconst (v := 0) hx hb dX12_odds_48 (by decide) ?_
          refine lv_istore (lv' := [(6, .int 0), (5, .int 0), (0, .ref q_this), (1, .int a_1), (2, .int a_2), (3, .int a_3), (4, .int a_4)]) hx hb dX12_odds_49 hl (by decide) rfl (fun ls hl => ?_)
          exact t_L51 gFuel 0 0 v_base v_at v_size v_fault v_opened v_isSeen v_aside v_d v_found v_movedKept v_names v_seenKept H locs hP hD hS ls (lv_sub hl [2, 3, 4, 5, 6, 1, 0] rfl) h
        · replace h := it_t c_12 h
          exact t_L39 v_base v_at v_size v_fault v_opened v_isSeen v_aside v_d v_found v_movedKept v_names v_seenKept H locs hP hD hS ls (lv_sub hl [0] rfl) h
