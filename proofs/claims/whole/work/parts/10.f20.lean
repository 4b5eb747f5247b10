set_option maxRecDepth 20000 in
theorem in_X12_biggest_X12 : ∀ w ∈ u_ws RX12 TX12 26, w ∈ wsX12_biggest := by decide +kernel
def f_X12_biggest (a_1 : Int32) (v_bubbleMany : Int32) (v_bubbleMost : Int32) (v_bubbleCell : Int32) (v_d : Nat → Int32) (v_found : Nat → Int32) : Option (Int32 × Int32 × Int32 × Int32 × (Nat → Int32)) :=
  kb (f_X12_in ((a_1 : Int32).toInt64) 0 1) fun r_2 =>
  if r_2 = 0 then
    kb2 (f_X12_finds 1 v_found) fun r_14 w_15 =>
    some (r_14, v_bubbleMany, v_bubbleMost, v_bubbleCell, w_15)
  else
    kb3 (f_X12_findBubbles v_bubbleMany v_bubbleMost v_bubbleCell v_d) fun w_5 w_6 w_7 =>
    if w_5 = 0 then
      kb2 (f_X12_finds 2 v_found) fun r_11 w_12 =>
      some (r_11, w_5, w_6, w_7, w_12)
    else
      if a_1 = 0 then
        some (w_6, w_5, w_6, w_7, v_found)
      else
        some (w_7, w_5, w_6, w_7, v_found)

abbrev rm_X12_biggest : Room := { frames := 4, cells := 0, slots := 0, locals := 99 }
set_option maxHeartbeats 4000000 in
set_option maxRecDepth 100000 in
theorem c_X12_biggest (l : Launch) (D : va_G) (c : Nat → ClassId) (q_this q_d q_kept q_found q_aside q_names q_seenKept q_movedKept q_traced q_bitsOf q_sizeOf q_number q_lifted : Nat) (a_1 : Int32) (v_images : Int32) (v_base : Int32) (v_at : Int32) (v_size : Int32) (v_fault : Int32) (v_opened : Int32) (v_isSeen : Int32) (v_isKeeping : Int32) (v_bubbleMany : Int32) (v_bubbleMost : Int32) (v_bubbleCell : Int32) (v_bestShown : Int32) (v_traceMany : Int32) (v_who : Int32) (v_d : Nat → Int32) (v_found : Nat → Int32) (o_r : Int32) (o_v_bubbleMany : Int32) (o_v_bubbleMost : Int32) (o_v_bubbleCell : Int32) (o_v_found : Nat → Int32) (h : f_X12_biggest a_1 v_bubbleMany v_bubbleMost v_bubbleCell v_d v_found = some (o_r, o_v_bubbleMany, o_v_bubbleMost, o_v_bubbleCell, o_v_found)) : gMI l yX12_biggest wsX12_biggest rm_X12_biggest D c [.ref q_this, .int a_1] [(q_this, .inr (12, [.ref q_d, .ref q_kept, .int v_images, .ref q_found, .ref q_aside, .int v_base, .int v_at, .int v_size, .int v_fault, .int v_opened, .int v_isSeen, .ref q_names, .ref q_seenKept, .ref q_movedKept, .int v_isKeeping, .int v_bubbleMany, .int v_bubbleMost, .int v_bubbleCell, .int v_bestShown, .ref q_traced, .int v_traceMany, .int v_who, .ref q_bitsOf, .ref q_sizeOf, .ref q_number, .ref q_lifted])), (q_d, .inl (c 0, 244, .inl v_d)), (q_found, .inl (c 0, 6, .inl v_found))] [(q_this, .inr (12, [.ref q_d, .ref q_kept, .int v_images, .ref q_found, .ref q_aside, .int v_base, .int v_at, .int v_size, .int v_fault, .int v_opened, .int v_isSeen, .ref q_names, .ref q_seenKept, .ref q_movedKept, .int v_isKeeping, .int o_v_bubbleMany, .int o_v_bubbleMost, .int o_v_bubbleCell, .int v_bestShown, .ref q_traced, .int v_traceMany, .int v_who, .ref q_bitsOf, .ref q_sizeOf, .ref q_number, .ref q_lifted])), (q_d, .inl (c 0, 244, .inl v_d)), (q_found, .inl (c 0, 6, .inl o_v_found))] o_r := by
  refine gMI_of (cc := cX12_biggest) (maxL := 2) (rt := (some .int)) (by decide +kernel) rfl (Nat.le_of_ble_eq_true rfl) ?_
  intro p e s m below meth co A hF hK hX hP hD hA hS ls hl
  obtain ⟨hx, hb, hr, hts, hown, hlocks, hml⟩ := id hF
  have hl : lv_has ls 2 [(0, .ref q_this), (1, .int a_1)] := hl
  unfold f_X12_biggest at h
  refine lv_iload_n hx hb dX12_biggest_0 rfl (lv_at hl 1 rfl) ?_
  refine lv_i2l hx hb dX12_biggest_1 rfl ?_
  refine lv_lconst (v := 0) hx hb dX12_biggest_2 (by decide) ?_
  refine lv_lconst (v := 1) hx hb dX12_biggest_3 (by decide) ?_
  replace h := kb_ok h
  obtain ⟨r_2, hc_1, h⟩ := h
  refine gCallIr (isC := []) (wc := []) hP hD hS hA trivial (va_runS (rm := rm_X12_in) (ws := wsX12_in) (As := [.long ((a_1 : Int32).toInt64), .long 0, .long 1]) (rest := []) (gFix hF) (c_X12_in l D c ((a_1 : Int32).toInt64) 0 1 r_2 hc_1 s.heap.size) (va_cwS 3 hts gX12_biggest_X12_in rfl rfl rfl (by decide +kernel) ⟨Nat.le_of_ble_eq_true rfl, Nat.le_of_ble_eq_true rfl⟩) (gPreS (wc := []) (isC := []) hK hX hS hA hP hD trivial (by decide +kernel)) rfl rfl hl.1 rfl (lv_room (Nat.le_of_ble_eq_true rfl)) dX12_biggest_4 ⟨Nat.le_of_ble_eq_true rfl, Nat.le_of_ble_eq_true rfl⟩) (fun H locs hP hS => ?_)
  refine lv_if_ne (tgt := 16) hx hb dX12_biggest_7 (by decide) (fun c_3 => ?_) (fun c_3 => ?_)
  · replace h := it_f c_3 h
    refine lv_aload_n hx hb dX12_biggest_16 rfl (lv_at hl 0 rfl) ?_
    replace h := kb3_ok h
    obtain ⟨w_5, w_6, w_7, hc_4, h⟩ := h
    refine gCallV (isC := [0, 1]) (wc := [(q_this, .inr (12, [.ref q_d, .ref q_kept, .int v_images, .ref q_found, .ref q_aside, .int v_base, .int v_at, .int v_size, .int v_fault, .int v_opened, .int v_isSeen, .ref q_names, .ref q_seenKept, .ref q_movedKept, .int v_isKeeping, .int v_bubbleMany, .int v_bubbleMost, .int v_bubbleCell, .int v_bestShown, .ref q_traced, .int v_traceMany, .int v_who, .ref q_bitsOf, .ref q_sizeOf, .ref q_number, .ref q_lifted])), (q_d, .inl (c 0, 244, .inl v_d))]) (w1 := [(q_this, .inr (12, [.ref q_d, .ref q_kept, .int v_images, .ref q_found, .ref q_aside, .int v_base, .int v_at, .int v_size, .int v_fault, .int v_opened, .int v_isSeen, .ref q_names, .ref q_seenKept, .ref q_movedKept, .int v_isKeeping, .int w_5, .int w_6, .int w_7, .int v_bestShown, .ref q_traced, .int v_traceMany, .int v_who, .ref q_bitsOf, .ref q_sizeOf, .ref q_number, .ref q_lifted])), (q_d, .inl (c 0, 244, .inl v_d))]) (ws2 := [(q_this, .inr (12, [.ref q_d, .ref q_kept, .int v_images, .ref q_found, .ref q_aside, .int v_base, .int v_at, .int v_size, .int v_fault, .int v_opened, .int v_isSeen, .ref q_names, .ref q_seenKept, .ref q_movedKept, .int v_isKeeping, .int w_5, .int w_6, .int w_7, .int v_bestShown, .ref q_traced, .int v_traceMany, .int v_who, .ref q_bitsOf, .ref q_sizeOf, .ref q_number, .ref q_lifted])), (q_d, .inl (c 0, 244, .inl v_d)), (q_found, .inl (c 0, 6, .inl v_found))]) (ms := [(some 0), (some 1), none]) hP hD hS hA ⟨rfl, rfl, trivial⟩ (by decide +kernel) ⟨rfl, rfl, rfl, trivial⟩ (va_runV (rm := rm_X12_findBubbles) (ws := wsX12_findBubbles) (As := []) (rest := []) (gFix hF) (c_X12_findBubbles l D c q_this q_d q_kept q_found q_aside q_names q_seenKept q_movedKept q_traced q_bitsOf q_sizeOf q_number q_lifted v_images v_base v_at v_size v_fault v_opened v_isSeen v_isKeeping v_bubbleMany v_bubbleMost v_bubbleCell v_bestShown v_traceMany v_who v_d w_5 w_6 w_7 hc_4 H.size) (cwV 0 hts gX12_biggest_X12_findBubbles rfl rfl rfl (by decide +kernel) ⟨Nat.le_of_ble_eq_true rfl, Nat.le_of_ble_eq_true rfl⟩) (gPreV (wc := [(q_this, .inr (12, [.ref q_d, .ref q_kept, .int v_images, .ref q_found, .ref q_aside, .int v_base, .int v_at, .int v_size, .int v_fault, .int v_opened, .int v_isSeen, .ref q_names, .ref q_seenKept, .ref q_movedKept, .int v_isKeeping, .int v_bubbleMany, .int v_bubbleMost, .int v_bubbleCell, .int v_bestShown, .ref q_traced, .int v_traceMany, .int v_who, .ref q_bitsOf, .ref q_sizeOf, .ref q_number, .ref q_lifted])), (q_d, .inl (c 0, 244, .inl v_d))]) (q := (RX12, TX12, 26)) (ci := 12) (q0 := 0) (isC := [0, 1]) hK hX hS hA hP hD ⟨rfl, rfl, trivial⟩ (by decide +kernel) rfl rfl) rfl rfl hl.1 rfl (lv_room (Nat.le_of_ble_eq_true rfl)) dX12_biggest_17 ⟨Nat.le_of_ble_eq_true rfl, Nat.le_of_ble_eq_true rfl⟩) (fun H locs hP hD hS => ?_)
    refine lv_aload_n hx hb dX12_biggest_20 rfl (lv_at hl 0 rfl) ?_
    refine va_get (D := D) (ci := 12) (v := .int w_5) (C := RX12) (T := TX12) (N := 26) hx hb hts in_X12_biggest_X12 hown hK.1 hP 0 rfl rfl 15 (by decide) (hts (.fieldLink RX12 221 "PaperBubblesModel" "bubbleMany" "I") (List.mem_of_getElem? (i := 1) rfl)) (fun _ h9 => h9) rfl dX12_biggest_21 ?_
    refine lv_if_ne (tgt := 35) hx hb dX12_biggest_24 (by decide) (fun c_8 => ?_) (fun c_8 => ?_)
    · replace h := it_f c_8 h
      refine lv_iload_n hx hb dX12_biggest_35 rfl (lv_at hl 1 rfl) ?_
      refine lv_if_ne (tgt := 46) hx hb dX12_biggest_36 (by decide) (fun c_9 => ?_) (fun c_9 => ?_)
      · replace h := it_f c_9 h
        refine lv_aload_n hx hb dX12_biggest_46 rfl (lv_at hl 0 rfl) ?_
        refine va_get (D := D) (ci := 12) (v := .int w_7) (C := RX12) (T := TX12) (N := 26) hx hb hts in_X12_biggest_X12 hown hK.1 hP 0 rfl rfl 17 (by decide) (hts (.fieldLink RX12 227 "PaperBubblesModel" "bubbleCell" "I") (List.mem_of_getElem? (i := 3) rfl)) (fun _ h9 => h9) rfl dX12_biggest_47 ?_
        replace h := so5 h
        obtain ⟨z0, z1, z2, z3, z4⟩ := h
        subst z0 z1 z2 z3 z4
        exact gIret hF hP hD hS rfl dX12_biggest_50
      · replace h := it_t c_9 h
        refine lv_aload_n hx hb dX12_biggest_39 rfl (lv_at hl 0 rfl) ?_
        refine va_get (D := D) (ci := 12) (v := .int w_6) (C := RX12) (T := TX12) (N := 26) hx hb hts in_X12_biggest_X12 hown hK.1 hP 0 rfl rfl 16 (by decide) (hts (.fieldLink RX12 224 "PaperBubblesModel" "bubbleMost" "I") (List.mem_of_getElem? (i := 2) rfl)) (fun _ h9 => h9) rfl dX12_biggest_40 ?_
        refine lv_goto (tgt := 50) hx hb dX12_biggest_43 (by decide) ?_
        replace h := so5 h
        obtain ⟨z0, z1, z2, z3, z4⟩ := h
        subst z0 z1 z2 z3 z4
        exact gIret hF hP hD hS rfl dX12_biggest_50
    · replace h := it_t c_8 h
      refine lv_aload_n hx hb dX12_biggest_27 rfl (lv_at hl 0 rfl) ?_
      refine lv_iconst (v := 2) hx hb dX12_biggest_28 (by decide) ?_
      replace h := kb2_ok h
      obtain ⟨r_11, w_12, hc_10, h⟩ := h
      refine gCallI (isC := [0, 2]) (wc := [(q_this, .inr (12, [.ref q_d, .ref q_kept, .int v_images, .ref q_found, .ref q_aside, .int v_base, .int v_at, .int v_size, .int v_fault, .int v_opened, .int v_isSeen, .ref q_names, .ref q_seenKept, .ref q_movedKept, .int v_isKeeping, .int w_5, .int w_6, .int w_7, .int v_bestShown, .ref q_traced, .int v_traceMany, .int v_who, .ref q_bitsOf, .ref q_sizeOf, .ref q_number, .ref q_lifted])), (q_found, .inl (c 0, 6, .inl v_found))]) (w1 := [(q_this, .inr (12, [.ref q_d, .ref q_kept, .int v_images, .ref q_found, .ref q_aside, .int v_base, .int v_at, .int v_size, .int v_fault, .int v_opened, .int v_isSeen, .ref q_names, .ref q_seenKept, .ref q_movedKept, .int v_isKeeping, .int w_5, .int w_6, .int w_7, .int v_bestShown, .ref q_traced, .int v_traceMany, .int v_who, .ref q_bitsOf, .ref q_sizeOf, .ref q_number, .ref q_lifted])), (q_found, .inl (c 0, 6, .inl w_12))]) (ws2 := [(q_this, .inr (12, [.ref q_d, .ref q_kept, .int v_images, .ref q_found, .ref q_aside, .int v_base, .int v_at, .int v_size, .int v_fault, .int v_opened, .int v_isSeen, .ref q_names, .ref q_seenKept, .ref q_movedKept, .int v_isKeeping, .int w_5, .int w_6, .int w_7, .int v_bestShown, .ref q_traced, .int v_traceMany, .int v_who, .ref q_bitsOf, .ref q_sizeOf, .ref q_number, .ref q_lifted])), (q_d, .inl (c 0, 244, .inl v_d)), (q_found, .inl (c 0, 6, .inl w_12))]) (ms := [(some 0), none, (some 1)]) hP hD hS hA ⟨rfl, rfl, trivial⟩ (by decide +kernel) ⟨rfl, rfl, rfl, trivial⟩ (va_runV (rm := rm_X12_finds) (ws := wsX12_finds) (As := [.int 2]) (rest := []) (gFix hF) (c_X12_finds l D c q_this q_d q_kept q_found q_aside q_names q_seenKept q_movedKept q_traced q_bitsOf q_sizeOf q_number q_lifted 2 v_images v_base v_at v_size v_fault v_opened v_isSeen v_isKeeping w_5 w_6 w_7 v_bestShown v_traceMany v_who v_found r_11 w_12 hc_10 H.size) (cwV 1 hts gX12_biggest_X12_finds rfl rfl rfl (by decide +kernel) ⟨Nat.le_of_ble_eq_true rfl, Nat.le_of_ble_eq_true rfl⟩) (gPreV (wc := [(q_this, .inr (12, [.ref q_d, .ref q_kept, .int v_images, .ref q_found, .ref q_aside, .int v_base, .int v_at, .int v_size, .int v_fault, .int v_opened, .int v_isSeen, .ref q_names, .ref q_seenKept, .ref q_movedKept, .int v_isKeeping, .int w_5, .int w_6, .int w_7, .int v_bestShown, .ref q_traced, .int v_traceMany, .int v_who, .ref q_bitsOf, .ref q_sizeOf, .ref q_number, .ref q_lifted])), (q_found, .inl (c 0, 6, .inl v_found))]) (q := (RX12, TX12, 26)) (ci := 12) (q0 := 0) (isC := [0, 2]) hK hX hS hA hP hD ⟨rfl, rfl, trivial⟩ (by decide +kernel) rfl rfl) rfl rfl hl.1 rfl (lv_room (Nat.le_of_ble_eq_true rfl)) dX12_biggest_29 ⟨Nat.le_of_ble_eq_true rfl, Nat.le_of_ble_eq_true rfl⟩) (fun H locs hP hD hS => ?_)
      refine lv_goto (tgt := 50) hx hb dX12_biggest_32 (by decide) ?_
      replace h := so5 h
      obtain ⟨z0, z1, z2, z3, z4⟩ := h
      subst z0 z1 z2 z3 z4
      exact gIret hF hP hD hS rfl dX12_biggest_50
  · replace h := it_t c_3 h
    refine lv_aload_n hx hb dX12_biggest_10 rfl (lv_at hl 0 rfl) ?_
    refine lv_iconst (v := 1) hx hb dX12_biggest_11 (by decide) ?_
    replace h := kb2_ok h
    obtain ⟨r_14, w_15, hc_13, h⟩ := h
    refine gCallI (isC := [0, 2]) (wc := [(q_this, .inr (12, [.ref q_d, .ref q_kept, .int v_images, .ref q_found, .ref q_aside, .int v_base, .int v_at, .int v_size, .int v_fault, .int v_opened, .int v_isSeen, .ref q_names, .ref q_seenKept, .ref q_movedKept, .int v_isKeeping, .int v_bubbleMany, .int v_bubbleMost, .int v_bubbleCell, .int v_bestShown, .ref q_traced, .int v_traceMany, .int v_who, .ref q_bitsOf, .ref q_sizeOf, .ref q_number, .ref q_lifted])), (q_found, .inl (c 0, 6, .inl v_found))]) (w1 := [(q_this, .inr (12, [.ref q_d, .ref q_kept, .int v_images, .ref q_found, .ref q_aside, .int v_base, .int v_at, .int v_size, .int v_fault, .int v_opened, .int v_isSeen, .ref q_names, .ref q_seenKept, .ref q_movedKept, .int v_isKeeping, .int v_bubbleMany, .int v_bubbleMost, .int v_bubbleCell, .int v_bestShown, .ref q_traced, .int v_traceMany, .int v_who, .ref q_bitsOf, .ref q_sizeOf, .ref q_number, .ref q_lifted])), (q_found, .inl (c 0, 6, .inl w_15))]) (ws2 := [(q_this, .inr (12, [.ref q_d, .ref q_kept, .int v_images, .ref q_found, .ref q_aside, .int v_base, .int v_at, .int v_size, .int v_fault, .int v_opened, .int v_isSeen, .ref q_names, .ref q_seenKept, .ref q_movedKept, .int v_isKeeping, .int v_bubbleMany, .int v_bubbleMost, .int v_bubbleCell, .int v_bestShown, .ref q_traced, .int v_traceMany, .int v_who, .ref q_bitsOf, .ref q_sizeOf, .ref q_number, .ref q_lifted])), (q_d, .inl (c 0, 244, .inl v_d)), (q_found, .inl (c 0, 6, .inl w_15))]) (ms := [(some 0), none, (some 1)]) hP hD hS hA ⟨rfl, rfl, trivial⟩ (by decide +kernel) ⟨rfl, rfl, rfl, trivial⟩ (va_runV (rm := rm_X12_finds) (ws := wsX12_finds) (As := [.int 1]) (rest := []) (gFix hF) (c_X12_finds l D c q_this q_d q_kept q_found q_aside q_names q_seenKept q_movedKept q_traced q_bitsOf q_sizeOf q_number q_lifted 1 v_images v_base v_at v_size v_fault v_opened v_isSeen v_isKeeping v_bubbleMany v_bubbleMost v_bubbleCell v_bestShown v_traceMany v_who v_found r_14 w_15 hc_13 H.size) (cwV 1 hts gX12_biggest_X12_finds rfl rfl rfl (by decide +kernel) ⟨Nat.le_of_ble_eq_true rfl, Nat.le_of_ble_eq_true rfl⟩) (gPreV (wc := [(q_this, .inr (12, [.ref q_d, .ref q_kept, .int v_images, .ref q_found, .ref q_aside, .int v_base, .int v_at, .int v_size, .int v_fault, .int v_opened, .int v_isSeen, .ref q_names, .ref q_seenKept, .ref q_movedKept, .int v_isKeeping, .int v_bubbleMany, .int v_bubbleMost, .int v_bubbleCell, .int v_bestShown, .ref q_traced, .int v_traceMany, .int v_who, .ref q_bitsOf, .ref q_sizeOf, .ref q_number, .ref q_lifted])), (q_found, .inl (c 0, 6, .inl v_found))]) (q := (RX12, TX12, 26)) (ci := 12) (q0 := 0) (isC := [0, 2]) hK hX hS hA hP hD ⟨rfl, rfl, trivial⟩ (by decide +kernel) rfl rfl) rfl rfl hl.1 rfl (lv_room (Nat.le_of_ble_eq_true rfl)) dX12_biggest_12 ⟨Nat.le_of_ble_eq_true rfl, Nat.le_of_ble_eq_true rfl⟩) (fun H locs hP hD hS => ?_)
    replace h := so5 h
    obtain ⟨z0, z1, z2, z3, z4⟩ := h
    subst z0 z1 z2 z3 z4
    exact gIret hF hP hD hS rfl dX12_biggest_15
set_option maxRecDepth 20000 in
theorem in_X12_bubbles_X12 : ∀ w ∈ u_ws RX12 TX12 26, w ∈ wsX12_bubbles := by decide +kernel
def f_X12_bubbles (v_bubbleMany : Int32) (v_bubbleMost : Int32) (v_bubbleCell : Int32) (v_d : Nat → Int32) : Option (Int32 × Int32 × Int32 × Int32) :=
  kb3 (f_X12_findBubbles v_bubbleMany v_bubbleMost v_bubbleCell v_d) fun w_2 w_3 w_4 =>
  some (w_2, w_2, w_3, w_4)

abbrev rm_X12_bubbles : Room := { frames := 4, cells := 0, slots := 0, locals := 99 }
set_option maxHeartbeats 4000000 in
set_option maxRecDepth 100000 in
theorem c_X12_bubbles (l : Launch) (D : va_G) (c : Nat → ClassId) (q_this q_d q_kept q_found q_aside q_names q_seenKept q_movedKept q_traced q_bitsOf q_sizeOf q_number q_lifted : Nat) (v_images : Int32) (v_base : Int32) (v_at : Int32) (v_size : Int32) (v_fault : Int32) (v_opened : Int32) (v_isSeen : Int32) (v_isKeeping : Int32) (v_bubbleMany : Int32) (v_bubbleMost : Int32) (v_bubbleCell : Int32) (v_bestShown : Int32) (v_traceMany : Int32) (v_who : Int32) (v_d : Nat → Int32) (o_r : Int32) (o_v_bubbleMany : Int32) (o_v_bubbleMost : Int32) (o_v_bubbleCell : Int32) (h : f_X12_bubbles v_bubbleMany v_bubbleMost v_bubbleCell v_d = some (o_r, o_v_bubbleMany, o_v_bubbleMost, o_v_bubbleCell)) : gMI l yX12_bubbles wsX12_bubbles rm_X12_bubbles D c [.ref q_this] [(q_this, .inr (12, [.ref q_d, .ref q_kept, .int v_images, .ref q_found, .ref q_aside, .int v_base, .int v_at, .int v_size, .int v_fault, .int v_opened, .int v_isSeen, .ref q_names, .ref q_seenKept, .ref q_movedKept, .int v_isKeeping, .int v_bubbleMany, .int v_bubbleMost, .int v_bubbleCell, .int v_bestShown, .ref q_traced, .int v_traceMany, .int v_who, .ref q_bitsOf, .ref q_sizeOf, .ref q_number, .ref q_lifted])), (q_d, .inl (c 0, 244, .inl v_d))] [(q_this, .inr (12, [.ref q_d, .ref q_kept, .int v_images, .ref q_found, .ref q_aside, .int v_base, .int v_at, .int v_size, .int v_fault, .int v_opened, .int v_isSeen, .ref q_names, .ref q_seenKept, .ref q_movedKept, .int v_isKeeping, .int o_v_bubbleMany, .int o_v_bubbleMost, .int o_v_bubbleCell, .int v_bestShown, .ref q_traced, .int v_traceMany, .int v_who, .ref q_bitsOf, .ref q_sizeOf, .ref q_number, .ref q_lifted])), (q_d, .inl (c 0, 244, .inl v_d))] o_r := by
  refine gMI_of (cc := cX12_bubbles) (maxL := 1) (rt := (some .int)) (by decide +kernel) rfl (Nat.le_of_ble_eq_true rfl) ?_
  intro p e s m below meth co A hF hK hX hP hD hA hS ls hl
  obtain ⟨hx, hb, hr, hts, hown, hlocks, hml⟩ := id hF
  have hl : lv_has ls 1 [(0, .ref q_this)] := hl
  unfold f_X12_bubbles at h
  refine lv_aload_n hx hb dX12_bubbles_0 rfl (lv_at hl 0 rfl) ?_
  replace h := kb3_ok h
  obtain ⟨w_2, w_3, w_4, hc_1, h⟩ := h
  refine gCallV (isC := [0, 1]) (wc := [(q_this, .inr (12, [.ref q_d, .ref q_kept, .int v_images, .ref q_found, .ref q_aside, .int v_base, .int v_at, .int v_size, .int v_fault, .int v_opened, .int v_isSeen, .ref q_names, .ref q_seenKept, .ref q_movedKept, .int v_isKeeping, .int v_bubbleMany, .int v_bubbleMost, .int v_bubbleCell, .int v_bestShown, .ref q_traced, .int v_traceMany, .int v_who, .ref q_bitsOf, .ref q_sizeOf, .ref q_number, .ref q_lifted])), (q_d, .inl (c 0, 244, .inl v_d))]) (w1 := [(q_this, .inr (12, [.ref q_d, .ref q_kept, .int v_images, .ref q_found, .ref q_aside, .int v_base, .int v_at, .int v_size, .int v_fault, .int v_opened, .int v_isSeen, .ref q_names, .ref q_seenKept, .ref q_movedKept, .int v_isKeeping, .int w_2, .int w_3, .int w_4, .int v_bestShown, .ref q_traced, .int v_traceMany, .int v_who, .ref q_bitsOf, .ref q_sizeOf, .ref q_number, .ref q_lifted])), (q_d, .inl (c 0, 244, .inl v_d))]) (ws2 := [(q_this, .inr (12, [.ref q_d, .ref q_kept, .int v_images, .ref q_found, .ref q_aside, .int v_base, .int v_at, .int v_size, .int v_fault, .int v_opened, .int v_isSeen, .ref q_names, .ref q_seenKept, .ref q_movedKept, .int v_isKeeping, .int w_2, .int w_3, .int w_4, .int v_bestShown, .ref q_traced, .int v_traceMany, .int v_who, .ref q_bitsOf, .ref q_sizeOf, .ref q_number, .ref q_lifted])), (q_d, .inl (c 0, 244, .inl v_d))]) (ms := [(some 0), (some 1)]) hP hD hS hA ⟨rfl, rfl, trivial⟩ (by decide +kernel) ⟨rfl, rfl, trivial⟩ (va_runV (rm := rm_X12_findBubbles) (ws := wsX12_findBubbles) (As := []) (rest := []) (gFix hF) (c_X12_findBubbles l D c q_this q_d q_kept q_found q_aside q_names q_seenKept q_movedKept q_traced q_bitsOf q_sizeOf q_number q_lifted v_images v_base v_at v_size v_fault v_opened v_isSeen v_isKeeping v_bubbleMany v_bubbleMost v_bubbleCell v_bestShown v_traceMany v_who v_d w_2 w_3 w_4 hc_1 s.heap.size) (cwV 0 hts gX12_bubbles_X12_findBubbles rfl rfl rfl (by decide +kernel) ⟨Nat.le_of_ble_eq_true rfl, Nat.le_of_ble_eq_true rfl⟩) (gPreV (wc := [(q_this, .inr (12, [.ref q_d, .ref q_kept, .int v_images, .ref q_found, .ref q_aside, .int v_base, .int v_at, .int v_size, .int v_fault, .int v_opened, .int v_isSeen, .ref q_names, .ref q_seenKept, .ref q_movedKept, .int v_isKeeping, .int v_bubbleMany, .int v_bubbleMost, .int v_bubbleCell, .int v_bestShown, .ref q_traced, .int v_traceMany, .int v_who, .ref q_bitsOf, .ref q_sizeOf, .ref q_number, .ref q_lifted])), (q_d, .inl (c 0, 244, .inl v_d))]) (q := (RX12, TX12, 26)) (ci := 12) (q0 := 0) (isC := [0, 1]) hK hX hS hA hP hD ⟨rfl, rfl, trivial⟩ (by decide +kernel) rfl rfl) rfl rfl hl.1 rfl (lv_room (Nat.le_of_ble_eq_true rfl)) dX12_bubbles_1 ⟨Nat.le_of_ble_eq_true rfl, Nat.le_of_ble_eq_true rfl⟩) (fun H locs hP hD hS => ?_)
  refine lv_aload_n hx hb dX12_bubbles_4 rfl (lv_at hl 0 rfl) ?_
  refine va_get (D := D) (ci := 12) (v := .int w_2) (C := RX12) (T := TX12) (N := 26) hx hb hts in_X12_bubbles_X12 hown hK.1 hP 0 rfl rfl 15 (by decide) (hts (.fieldLink RX12 221 "PaperBubblesModel" "bubbleMany" "I") (List.mem_of_getElem? (i := 1) rfl)) (fun _ h9 => h9) rfl dX12_bubbles_5 ?_
  replace h := so4 h
  obtain ⟨z0, z1, z2, z3⟩ := h
  subst z0 z1 z2 z3
  exact gIret hF hP hD hS rfl dX12_bubbles_8
set_option maxRecDepth 20000 in
theorem in_X12_builds_X12 : ∀ w ∈ u_ws RX12 TX12 26, w ∈ wsX12_builds := by decide +kernel
def f_X12_builds_L16 : Nat → Int32 → (Nat → Int32) → Option ((Nat → Int32))
  | 0, _, _ => none
  | n + 1, x3, v_d =>
    if 25 ≤ x3 then
      some v_d
    else
      nm (10 + x3 : Int32) fun t_6 =>
      chi t_6 244 <|
      nm (upd v_d t_6.toNatClampNeg 0) fun w_8 =>
      nm (35 + x3 : Int32) fun t_9 =>
      chi t_9 244 <|
      nm (upd w_8 t_9.toNatClampNeg 5) fun w_11 =>
      nm (x3 + 1 : Int32) fun t_12 =>
      f_X12_builds_L16 n t_12 w_11

def f_X12_builds (a_1 : Int32) (a_2 : Int32) (v_d : Nat → Int32) : Option ((Nat → Int32)) :=
  chi 0 244 <|
  nm (upd v_d (0 : Int32).toNatClampNeg a_1) fun w_2 =>
  chi 1 244 <|
  nm (upd w_2 (1 : Int32).toNatClampNeg a_2) fun w_4 =>
  f_X12_builds_L16 gFuel 0 w_4

abbrev rm_X12_builds : Room := { frames := 0, cells := 0, slots := 0, locals := 0 }
set_option maxHeartbeats 4000000 in
set_option maxRecDepth 100000 in
theorem c_X12_builds (l : Launch) (D : va_G) (c : Nat → ClassId) (q_this q_d q_kept q_found q_aside q_names q_seenKept q_movedKept q_traced q_bitsOf q_sizeOf q_number q_lifted : Nat) (a_1 : Int32) (a_2 : Int32) (v_images : Int32) (v_base : Int32) (v_at : Int32) (v_size : Int32) (v_fault : Int32) (v_opened : Int32) (v_isSeen : Int32) (v_isKeeping : Int32) (v_bubbleMany : Int32) (v_bubbleMost : Int32) (v_bubbleCell : Int32) (v_bestShown : Int32) (v_traceMany : Int32) (v_who : Int32) (v_d : Nat → Int32) (o_v_d : Nat → Int32) (h : f_X12_builds a_1 a_2 v_d = some o_v_d) : gMV l yX12_builds wsX12_builds rm_X12_builds D c [.ref q_this, .int a_1, .int a_2] [(q_this, .inr (12, [.ref q_d, .ref q_kept, .int v_images, .ref q_found, .ref q_aside, .int v_base, .int v_at, .int v_size, .int v_fault, .int v_opened, .int v_isSeen, .ref q_names, .ref q_seenKept, .ref q_movedKept, .int v_isKeeping, .int v_bubbleMany, .int v_bubbleMost, .int v_bubbleCell, .int v_bestShown, .ref q_traced, .int v_traceMany, .int v_who, .ref q_bitsOf, .ref q_sizeOf, .ref q_number, .ref q_lifted])), (q_d, .inl (c 0, 244, .inl v_d))] [(q_this, .inr (12, [.ref q_d, .ref q_kept, .int v_images, .ref q_found, .ref q_aside, .int v_base, .int v_at, .int v_size, .int v_fault, .int v_opened, .int v_isSeen, .ref q_names, .ref q_seenKept, .ref q_movedKept, .int v_isKeeping, .int v_bubbleMany, .int v_bubbleMost, .int v_bubbleCell, .int v_bestShown, .ref q_traced, .int v_traceMany, .int v_who, .ref q_bitsOf, .ref q_sizeOf, .ref q_number, .ref q_lifted])), (q_d, .inl (c 0, 244, .inl o_v_d))] := by
  refine gMV_of (cc := cX12_builds) (maxL := 4) (rt := none) (by decide +kernel) rfl (Nat.le_of_ble_eq_true rfl) ?_
  intro p e s m below meth co A hF hK hX hP hD hA hS ls hl
  obtain ⟨hx, hb, hr, hts, hown, hlocks, hml⟩ := id hF
  have hl : lv_has ls 4 [(0, .ref q_this), (1, .int a_1), (2, .int a_2)] := hl
  have t_L16 : ∀ (n : Nat), ∀ (x3 : Int32) (v_d : Nat → Int32) (H : Heap) (locs : List Loc), va_P D gcl [(q_this, .inr (12, [.ref q_d, .ref q_kept, .int v_images, .ref q_found, .ref q_aside, .int v_base, .int v_at, .int v_size, .int v_fault, .int v_opened, .int v_isSeen, .ref q_names, .ref q_seenKept, .ref q_movedKept, .int v_isKeeping, .int v_bubbleMany, .int v_bubbleMost, .int v_bubbleCell, .int v_bestShown, .ref q_traced, .int v_traceMany, .int v_who, .ref q_bitsOf, .ref q_sizeOf, .ref q_number, .ref q_lifted])), (q_d, .inl (c 0, 244, .inl v_d))] H → va_D A [(q_this, .inr (12, [.ref q_d, .ref q_kept, .int v_images, .ref q_found, .ref q_aside, .int v_base, .int v_at, .int v_size, .int v_fault, .int v_opened, .int v_isSeen, .ref q_names, .ref q_seenKept, .ref q_movedKept, .int v_isKeeping, .int v_bubbleMany, .int v_bubbleMost, .int v_bubbleCell, .int v_bestShown, .ref q_traced, .int v_traceMany, .int v_who, .ref q_bitsOf, .ref q_sizeOf, .ref q_number, .ref q_lifted])), (q_d, .inl (c 0, 244, .inl v_d))] → va_S A s.heap H locs → ∀ ls, lv_has ls 4 [(0, .ref q_this), (3, .int x3)] → f_X12_builds_L16 n x3 v_d = some o_v_d → W p l e (headSpec wsX12_builds rm_X12_builds).room s m [.ref q_this, .int a_1, .int a_2].toArray below meth co H locs 0 0 (gQV D [(q_this, .inr (12, [.ref q_d, .ref q_kept, .int v_images, .ref q_found, .ref q_aside, .int v_base, .int v_at, .int v_size, .int v_fault, .int v_opened, .int v_isSeen, .ref q_names, .ref q_seenKept, .ref q_movedKept, .int v_isKeeping, .int v_bubbleMany, .int v_bubbleMost, .int v_bubbleCell, .int v_bestShown, .ref q_traced, .int v_traceMany, .int v_who, .ref q_bitsOf, .ref q_sizeOf, .ref q_number, .ref q_lifted])), (q_d, .inl (c 0, 244, .inl o_v_d))] A below [.ref q_this, .int a_1, .int a_2] s) (F0 m 16 ls []) := by
    intro n
    induction n with
    | zero => intro x3 v_d H locs hP hD hS ls hl h; exact no_ok h
    | succ n ih =>
      intro x3 v_d H locs hP hD hS ls hl h
      rw [f_X12_builds_L16] at h
      refine lv_iload_n hx hb dX12_builds_16 rfl (lv_at hl 1 rfl) ?_
      refine lv_bipush (v := 25) hx hb dX12_builds_17 (by decide) ?_
      refine lv_icmp_ge (tgt := 48) hx hb dX12_builds_19 (by decide) (fun c_5 => ?_) (fun c_5 => ?_)
      · replace h := it_t c_5 h
        replace h := so1 h
        subst h
        exact gVret hF hP hD hS dX12_builds_48
      · replace h := it_f c_5 h
        refine lv_aload_n hx hb dX12_builds_22 rfl (lv_at hl 0 rfl) ?_
        refine va_get (D := D) (ci := 12) (v := .ref q_d) (C := RX12) (T := TX12) (N := 26) hx hb hts in_X12_builds_X12 hown hK.1 hP 0 rfl rfl 0 (by decide) (hts (.fieldLink RX12 7 "PaperBubblesModel" "d" "[I") (List.mem_of_getElem? (i := 1) rfl)) (fun _ h9 => h9) rfl dX12_builds_23 ?_
        refine lv_bipush (v := 10) hx hb dX12_builds_26 (by decide) ?_
        refine lv_iload_n hx hb dX12_builds_28 rfl (lv_at hl 1 rfl) ?_
        refine lv_iadd hx hb dX12_builds_29 ?_
        replace h := nm_ok h
        obtain ⟨t_6, et_6, h⟩ := h
        refine gTop et_6 ?_
        refine lv_iconst (v := 0) hx hb dX12_builds_30 (by decide) ?_
        replace h := chi_ok h
        obtain ⟨hi_7, h⟩ := h
        replace h := nm_ok h
        obtain ⟨w_8, ew_8, h⟩ := h
        refine va_iast hx hb hK.1 hP hD hS 1 0 rfl rfl hi_7 dX12_builds_31 (fun H locs hP hD hS => ?_)
        have hP : va_P D gcl [(q_this, .inr (12, [.ref q_d, .ref q_kept, .int v_images, .ref q_found, .ref q_aside, .int v_base, .int v_at, .int v_size, .int v_fault, .int v_opened, .int v_isSeen, .ref q_names, .ref q_seenKept, .ref q_movedKept, .int v_isKeeping, .int v_bubbleMany, .int v_bubbleMost, .int v_bubbleCell, .int v_bestShown, .ref q_traced, .int v_traceMany, .int v_who, .ref q_bitsOf, .ref q_sizeOf, .ref q_number, .ref q_lifted])), (q_d, .inl (c 0, 244, .inl w_8))] H := by subst ew_8; exact hP
        have hD : va_D A [(q_this, .inr (12, [.ref q_d, .ref q_kept, .int v_images, .ref q_found, .ref q_aside, .int v_base, .int v_at, .int v_size, .int v_fault, .int v_opened, .int v_isSeen, .ref q_names, .ref q_seenKept, .ref q_movedKept, .int v_isKeeping, .int v_bubbleMany, .int v_bubbleMost, .int v_bubbleCell, .int v_bestShown, .ref q_traced, .int v_traceMany, .int v_who, .ref q_bitsOf, .ref q_sizeOf, .ref q_number, .ref q_lifted])), (q_d, .inl (c 0, 244, .inl w_8))] := by subst ew_8; exact hD
        refine lv_aload_n hx hb dX12_builds_32 rfl (lv_at hl 0 rfl) ?_
        refine va_get (D := D) (ci := 12) (v := .ref q_d) (C := RX12) (T := TX12) (N := 26) hx hb hts in_X12_builds_X12 hown hK.1 hP 0 rfl rfl 0 (by decide) (hts (.fieldLink RX12 7 "PaperBubblesModel" "d" "[I") (List.mem_of_getElem? (i := 1) rfl)) (fun _ h9 => h9) rfl dX12_builds_33 ?_
        refine lv_bipush (v := 35) hx hb dX12_builds_36 (by decide) ?_
        refine lv_iload_n hx hb dX12_builds_38 rfl (lv_at hl 1 rfl) ?_
        refine lv_iadd hx hb dX12_builds_39 ?_
        replace h := nm_ok h
        obtain ⟨t_9, et_9, h⟩ := h
        refine gTop et_9 ?_
        refine lv_iconst (v := 5) hx hb dX12_builds_40 (by decide) ?_
        replace h := chi_ok h
        obtain ⟨hi_10, h⟩ := h
        replace h := nm_ok h
        obtain ⟨w_11, ew_11, h⟩ := h
        refine va_iast hx hb hK.1 hP hD hS 1 0 rfl rfl hi_10 dX12_builds_41 (fun H locs hP hD hS => ?_)
        have hP : va_P D gcl [(q_this, .inr (12, [.ref q_d, .ref q_kept, .int v_images, .ref q_found, .ref q_aside, .int v_base, .int v_at, .int v_size, .int v_fault, .int v_opened, .int v_isSeen, .ref q_names, .ref q_seenKept, .ref q_movedKept, .int v_isKeeping, .int v_bubbleMany, .int v_bubbleMost, .int v_bubbleCell, .int v_bestShown, .ref q_traced, .int v_traceMany, .int v_who, .ref q_bitsOf, .ref q_sizeOf, .ref q_number, .ref q_lifted])), (q_d, .inl (c 0, 244, .inl w_11))] H := by subst ew_11; exact hP
        have hD : va_D A [(q_this, .inr (12, [.ref q_d, .ref q_kept, .int v_images, .ref q_found, .ref q_aside, .int v_base, .int v_at, .int v_size, .int v_fault, .int v_opened, .int v_isSeen, .ref q_names, .ref q_seenKept, .ref q_movedKept, .int v_isKeeping, .int v_bubbleMany, .int v_bubbleMost, .int v_bubbleCell, .int v_bestShown, .ref q_traced, .int v_traceMany, .int v_who, .ref q_bitsOf, .ref q_sizeOf, .ref q_number, .ref q_lifted])), (q_d, .inl (c 0, 244, .inl w_11))] := by subst ew_11; exact hD
        replace h := nm_ok h
        obtain ⟨t_12, et_12, h⟩ := h
        refine lv_iinc (v := t_12) (lv' := [(3, .int t_12), (0, .ref q_this)]) hx hb dX12_builds_42 hl (k := 1) rfl (by rw [et_12]; rfl) (by decide) rfl (fun ls hl => ?_)
        refine lv_goto (tgt := 16) hx hb dX12_builds_45 (by decide) ?_
        exact ih t_12 w_11 H locs hP hD hS ls (lv_sub hl [1, 0] rfl) h
  unfold f_X12_builds at h
  refine lv_aload_n hx hb dX12_builds_0 rfl (lv_at hl 0 rfl) ?_
  refine va_get (D := D) (ci := 12) (v := .ref q_d) (C := RX12) (T := TX12) (N := 26) hx hb hts in_X12_builds_X12 hown hK.1 hP 0 rfl rfl 0 (by decide) (hts (.fieldLink RX12 7 "PaperBubblesModel" "d" "[I") (List.mem_of_getElem? (i := 1) rfl)) (fun _ h9 => h9) rfl dX12_builds_1 ?_
  refine lv_iconst (v := 0) hx hb dX12_builds_4 (by decide) ?_
  refine lv_iload_n hx hb dX12_builds_5 rfl (lv_at hl 1 rfl) ?_
  replace h := chi_ok h
  obtain ⟨hi_1, h⟩ := h
  replace h := nm_ok h
  obtain ⟨w_2, ew_2, h⟩ := h
  refine va_iast hx hb hK.1 hP hD hS 1 0 rfl rfl hi_1 dX12_builds_6 (fun H locs hP hD hS => ?_)
  have hP : va_P D gcl [(q_this, .inr (12, [.ref q_d, .ref q_kept, .int v_images, .ref q_found, .ref q_aside, .int v_base, .int v_at, .int v_size, .int v_fault, .int v_opened, .int v_isSeen, .ref q_names, .ref q_seenKept, .ref q_movedKept, .int v_isKeeping, .int v_bubbleMany, .int v_bubbleMost, .int v_bubbleCell, .int v_bestShown, .ref q_traced, .int v_traceMany, .int v_who, .ref q_bitsOf, .ref q_sizeOf, .ref q_number, .ref q_lifted])), (q_d, .inl (c 0, 244, .inl w_2))] H := by subst ew_2; exact hP
  have hD : va_D A [(q_this, .inr (12, [.ref q_d, .ref q_kept, .int v_images, .ref q_found, .ref q_aside, .int v_base, .int v_at, .int v_size, .int v_fault, .int v_opened, .int v_isSeen, .ref q_names, .ref q_seenKept, .ref q_movedKept, .int v_isKeeping, .int v_bubbleMany, .int v_bubbleMost, .int v_bubbleCell, .int v_bestShown, .ref q_traced, .int v_traceMany, .int v_who, .ref q_bitsOf, .ref q_sizeOf, .ref q_number, .ref q_lifted])), (q_d, .inl (c 0, 244, .inl w_2))] := by subst ew_2; exact hD
  refine lv_aload_n hx hb dX12_builds_7 rfl (lv_at hl 0 rfl) ?_
  refine va_get (D := D) (ci := 12) (v := .ref q_d) (C := RX12) (T := TX12) (N := 26) hx hb hts in_X12_builds_X12 hown hK.1 hP 0 rfl rfl 0 (by decide) (hts (.fieldLink RX12 7 "PaperBubblesModel" "d" "[I") (List.mem_of_getElem? (i := 1) rfl)) (fun _ h9 => h9) rfl dX12_builds_8 ?_
  refine lv_iconst (v := 1) hx hb dX12_builds_11 (by decide) ?_
  refine lv_iload_n hx hb dX12_builds_12 rfl (lv_at hl 2 rfl) ?_
  replace h := chi_ok h
  obtain ⟨hi_3, h⟩ := h
  replace h := nm_ok h
  obtain ⟨w_4, ew_4, h⟩ := h
  refine va_iast hx hb hK.1 hP hD hS 1 0 rfl rfl hi_3 dX12_builds_13 (fun H locs hP hD hS => ?_)
  have hP : va_P D gcl [(q_this, .inr (12, [.ref q_d, .ref q_kept, .int v_images, .ref q_found, .ref q_aside, .int v_base, .int v_at, .int v_size, .int v_fault, .int v_opened, .int v_isSeen, .ref q_names, .ref q_seenKept, .ref q_movedKept, .int v_isKeeping, .int v_bubbleMany, .int v_bubbleMost, .int v_bubbleCell, .int v_bestShown, .ref q_traced, .int v_traceMany, .int v_who, .ref q_bitsOf, .ref q_sizeOf, .ref q_number, .ref q_lifted])), (q_d, .inl (c 0, 244, .inl w_4))] H := by subst ew_4; exact hP
  have hD : va_D A [(q_this, .inr (12, [.ref q_d, .ref q_kept, .int v_images, .ref q_found, .ref q_aside, .int v_base, .int v_at, .int v_size, .int v_fault, .int v_opened, .int v_isSeen, .ref q_names, .ref q_seenKept, .ref q_movedKept, .int v_isKeeping, .int v_bubbleMany, .int v_bubbleMost, .int v_bubbleCell, .int v_bestShown, .ref q_traced, .int v_traceMany, .int v_who, .ref q_bitsOf, .ref q_sizeOf, .ref q_number, .ref q_lifted])), (q_d, .inl (c 0, 244, .inl w_4))] := by subst ew_4; exact hD
  refine lv_iconst (v := 0) hx hb dX12_builds_14 (by decide) ?_
  refine lv_istore_n (lv' := [(3, .int 0), (0, .ref q_this), (1, .int a_1), (2, .int a_2)]) hx hb dX12_builds_15 rfl hl (by decide) rfl (fun ls hl => ?_)
  exact t_L16 gFuel 0 w_4 H locs hP hD hS ls (lv_sub hl [1, 0] rfl) h
set_option maxRecDepth 20000 in
theorem in_X12_isAs_X12 : ∀ w ∈ u_ws RX12 TX12 26, w ∈ wsX12_isAs := by decide +kernel
def f_X12_isAs_L4 (a_1 : Int32) (v_d : Nat → Int32) (v_number : Nat → Int32) : Nat → Int32 → Int32 → Option (Int32)
  | 0, _, _ => none
  | n + 1, x2, x3 =>
    kb (f_X12_cells v_d) fun r_2 =>
    if r_2 ≤ x3 then
      chb x2 <|
      some x2
    else
      if x2 = 0 then
        nm (x3 + 1 : Int32) fun t_6 =>
        f_X12_isAs_L4 a_1 v_d v_number n 0 t_6
      else
        nm (40 * a_1 : Int32) fun t_7 =>
        nm (t_7 + x3 : Int32) fun t_8 =>
        chi t_8 160 <|
        nm (v_number t_8.toNatClampNeg : Int32) fun t_10 =>
        nm (10 + x3 : Int32) fun t_11 =>
        chi t_11 244 <|
        if t_10 = (v_d t_11.toNatClampNeg) then
          nm (x3 + 1 : Int32) fun t_15 =>
          f_X12_isAs_L4 a_1 v_d v_number n 1 t_15
        else
          nm (x3 + 1 : Int32) fun t_14 =>
          f_X12_isAs_L4 a_1 v_d v_number n 0 t_14

def f_X12_isAs (a_1 : Int32) (v_d : Nat → Int32) (v_number : Nat → Int32) : Option (Int32) :=
  f_X12_isAs_L4 a_1 v_d v_number gFuel 1 0

abbrev rm_X12_isAs : Room := { frames := 1, cells := 0, slots := 0, locals := 20 }
set_option maxHeartbeats 4000000 in
set_option maxRecDepth 100000 in
theorem c_X12_isAs (l : Launch) (D : va_G) (c : Nat → ClassId) (q_this q_d q_kept q_found q_aside q_names q_seenKept q_movedKept q_traced q_bitsOf q_sizeOf q_number q_lifted : Nat) (a_1 : Int32) (v_images : Int32) (v_base : Int32) (v_at : Int32) (v_size : Int32) (v_fault : Int32) (v_opened : Int32) (v_isSeen : Int32) (v_isKeeping : Int32) (v_bubbleMany : Int32) (v_bubbleMost : Int32) (v_bubbleCell : Int32) (v_bestShown : Int32) (v_traceMany : Int32) (v_who : Int32) (v_d : Nat → Int32) (v_number : Nat → Int32) (o_r : Int32) (h : f_X12_isAs a_1 v_d v_number = some o_r) : gMI l yX12_isAs wsX12_isAs rm_X12_isAs D c [.ref q_this, .int a_1] [(q_this, .inr (12, [.ref q_d, .ref q_kept, .int v_images, .ref q_found, .ref q_aside, .int v_base, .int v_at, .int v_size, .int v_fault, .int v_opened, .int v_isSeen, .ref q_names, .ref q_seenKept, .ref q_movedKept, .int v_isKeeping, .int v_bubbleMany, .int v_bubbleMost, .int v_bubbleCell, .int v_bestShown, .ref q_traced, .int v_traceMany, .int v_who, .ref q_bitsOf, .ref q_sizeOf, .ref q_number, .ref q_lifted])), (q_d, .inl (c 0, 244, .inl v_d)), (q_number, .inl (c 0, 160, .inl v_number))] [(q_this, .inr (12, [.ref q_d, .ref q_kept, .int v_images, .ref q_found, .ref q_aside, .int v_base, .int v_at, .int v_size, .int v_fault, .int v_opened, .int v_isSeen, .ref q_names, .ref q_seenKept, .ref q_movedKept, .int v_isKeeping, .int v_bubbleMany, .int v_bubbleMost, .int v_bubbleCell, .int v_bestShown, .ref q_traced, .int v_traceMany, .int v_who, .ref q_bitsOf, .ref q_sizeOf, .ref q_number, .ref q_lifted])), (q_d, .inl (c 0, 244, .inl v_d)), (q_number, .inl (c 0, 160, .inl v_number))] o_r := by
  refine gMI_of (cc := cX12_isAs) (maxL := 4) (rt := (some .boolean)) (by decide +kernel) rfl (Nat.le_of_ble_eq_true rfl) ?_
  intro p e s m below meth co A hF hK hX hP hD hA hS ls hl
  obtain ⟨hx, hb, hr, hts, hown, hlocks, hml⟩ := id hF
  have hl : lv_has ls 4 [(0, .ref q_this), (1, .int a_1)] := hl
  have t_L4 : ∀ (n : Nat), ∀ (x2 : Int32) (x3 : Int32) (H : Heap) (locs : List Loc), va_P D gcl [(q_this, .inr (12, [.ref q_d, .ref q_kept, .int v_images, .ref q_found, .ref q_aside, .int v_base, .int v_at, .int v_size, .int v_fault, .int v_opened, .int v_isSeen, .ref q_names, .ref q_seenKept, .ref q_movedKept, .int v_isKeeping, .int v_bubbleMany, .int v_bubbleMost, .int v_bubbleCell, .int v_bestShown, .ref q_traced, .int v_traceMany, .int v_who, .ref q_bitsOf, .ref q_sizeOf, .ref q_number, .ref q_lifted])), (q_d, .inl (c 0, 244, .inl v_d)), (q_number, .inl (c 0, 160, .inl v_number))] H → va_D A [(q_this, .inr (12, [.ref q_d, .ref q_kept, .int v_images, .ref q_found, .ref q_aside, .int v_base, .int v_at, .int v_size, .int v_fault, .int v_opened, .int v_isSeen, .ref q_names, .ref q_seenKept, .ref q_movedKept, .int v_isKeeping, .int v_bubbleMany, .int v_bubbleMost, .int v_bubbleCell, .int v_bestShown, .ref q_traced, .int v_traceMany, .int v_who, .ref q_bitsOf, .ref q_sizeOf, .ref q_number, .ref q_lifted])), (q_d, .inl (c 0, 244, .inl v_d)), (q_number, .inl (c 0, 160, .inl v_number))] → va_S A s.heap H locs → ∀ ls, lv_has ls 4 [(0, .ref q_this), (1, .int a_1), (2, .int x2), (3, .int x3)] → f_X12_isAs_L4 a_1 v_d v_number n x2 x3 = some o_r → W p l e (headSpec wsX12_isAs rm_X12_isAs).room s m [.ref q_this, .int a_1].toArray below meth co H locs 0 0 (gQI D [(q_this, .inr (12, [.ref q_d, .ref q_kept, .int v_images, .ref q_found, .ref q_aside, .int v_base, .int v_at, .int v_size, .int v_fault, .int v_opened, .int v_isSeen, .ref q_names, .ref q_seenKept, .ref q_movedKept, .int v_isKeeping, .int v_bubbleMany, .int v_bubbleMost, .int v_bubbleCell, .int v_bestShown, .ref q_traced, .int v_traceMany, .int v_who, .ref q_bitsOf, .ref q_sizeOf, .ref q_number, .ref q_lifted])), (q_d, .inl (c 0, 244, .inl v_d)), (q_number, .inl (c 0, 160, .inl v_number))] o_r A below [.ref q_this, .int a_1] s) (F0 m 4 ls []) := by
    intro n
    induction n with
    | zero => intro x2 x3 H locs hP hD hS ls hl h; exact no_ok h
    | succ n ih =>
      intro x2 x3 H locs hP hD hS ls hl h
      rw [f_X12_isAs_L4] at h
      refine lv_iload_n hx hb dX12_isAs_4 rfl (lv_at hl 3 rfl) ?_
      refine lv_aload_n hx hb dX12_isAs_5 rfl (lv_at hl 0 rfl) ?_
      replace h := kb_ok h
      obtain ⟨r_2, hc_1, h⟩ := h
      refine gCallIr (isC := [0, 1]) (wc := [(q_this, .inr (12, [.ref q_d, .ref q_kept, .int v_images, .ref q_found, .ref q_aside, .int v_base, .int v_at, .int v_size, .int v_fault, .int v_opened, .int v_isSeen, .ref q_names, .ref q_seenKept, .ref q_movedKept, .int v_isKeeping, .int v_bubbleMany, .int v_bubbleMost, .int v_bubbleCell, .int v_bestShown, .ref q_traced, .int v_traceMany, .int v_who, .ref q_bitsOf, .ref q_sizeOf, .ref q_number, .ref q_lifted])), (q_d, .inl (c 0, 244, .inl v_d))]) hP hD hS hA ⟨rfl, rfl, trivial⟩ (va_runV (rm := rm_X12_cells) (ws := wsX12_cells) (As := []) (rest := [.int x3]) (gFix hF) (c_X12_cells l D c q_this q_d q_kept q_found q_aside q_names q_seenKept q_movedKept q_traced q_bitsOf q_sizeOf q_number q_lifted v_images v_base v_at v_size v_fault v_opened v_isSeen v_isKeeping v_bubbleMany v_bubbleMost v_bubbleCell v_bestShown v_traceMany v_who v_d r_2 hc_1 H.size) (cwV 0 hts gX12_isAs_X12_cells rfl rfl rfl (by decide +kernel) ⟨Nat.le_of_ble_eq_true rfl, Nat.le_of_ble_eq_true rfl⟩) (gPreV (wc := [(q_this, .inr (12, [.ref q_d, .ref q_kept, .int v_images, .ref q_found, .ref q_aside, .int v_base, .int v_at, .int v_size, .int v_fault, .int v_opened, .int v_isSeen, .ref q_names, .ref q_seenKept, .ref q_movedKept, .int v_isKeeping, .int v_bubbleMany, .int v_bubbleMost, .int v_bubbleCell, .int v_bestShown, .ref q_traced, .int v_traceMany, .int v_who, .ref q_bitsOf, .ref q_sizeOf, .ref q_number, .ref q_lifted])), (q_d, .inl (c 0, 244, .inl v_d))]) (q := (RX12, TX12, 26)) (ci := 12) (q0 := 0) (isC := [0, 1]) hK hX hS hA hP hD ⟨rfl, rfl, trivial⟩ (by decide +kernel) rfl rfl) rfl rfl hl.1 rfl (lv_room (Nat.le_of_ble_eq_true rfl)) dX12_isAs_6 ⟨Nat.le_of_ble_eq_true rfl, Nat.le_of_ble_eq_true rfl⟩) (fun H locs hP hS => ?_)
      refine lv_icmp_ge (tgt := 51) hx hb dX12_isAs_9 (by decide) (fun c_3 => ?_) (fun c_3 => ?_)
      · replace h := it_t c_3 h
        refine lv_iload_n hx hb dX12_isAs_51 rfl (lv_at hl 2 rfl) ?_
        replace h := chb_ok h
        obtain ⟨hz_4, h⟩ := h
        replace h := so1 h
        subst h
        exact gIret hF hP hD hS (chb_n hz_4) dX12_isAs_52
      · replace h := it_f c_3 h
        refine lv_iload_n hx hb dX12_isAs_12 rfl (lv_at hl 2 rfl) ?_
        refine lv_if_eq (tgt := 43) hx hb dX12_isAs_13 (by decide) (fun c_5 => ?_) (fun c_5 => ?_)
        · replace h := it_t c_5 h
          refine lv_iconst (v := 0) hx hb dX12_isAs_43 (by decide) ?_
          refine lv_istore_n (lv' := [(2, .int 0), (0, .ref q_this), (1, .int a_1), (3, .int x3)]) hx hb dX12_isAs_44 rfl hl (by decide) rfl (fun ls hl => ?_)
          replace h := nm_ok h
          obtain ⟨t_6, et_6, h⟩ := h
          refine lv_iinc (v := t_6) (lv' := [(3, .int t_6), (2, .int 0), (0, .ref q_this), (1, .int a_1)]) hx hb dX12_isAs_45 hl (k := 3) rfl (by rw [et_6]; rfl) (by decide) rfl (fun ls hl => ?_)
          refine lv_goto (tgt := 4) hx hb dX12_isAs_48 (by decide) ?_
          exact ih 0 t_6 H locs hP hD hS ls (lv_sub hl [2, 3, 1, 0] rfl) h
        · replace h := it_f c_5 h
          refine lv_aload_n hx hb dX12_isAs_16 rfl (lv_at hl 0 rfl) ?_
          refine va_get (D := D) (ci := 12) (v := .ref q_number) (C := RX12) (T := TX12) (N := 26) hx hb hts in_X12_isAs_X12 hown hK.1 hP 0 rfl rfl 24 (by decide) (hts (.fieldLink RX12 40 "PaperBubblesModel" "number" "[I") (List.mem_of_getElem? (i := 1) rfl)) (fun _ h9 => h9) rfl dX12_isAs_17 ?_
          refine lv_bipush (v := 40) hx hb dX12_isAs_20 (by decide) ?_
          refine lv_iload_n hx hb dX12_isAs_22 rfl (lv_at hl 1 rfl) ?_
          refine lv_imul hx hb dX12_isAs_23 ?_
          replace h := nm_ok h
          obtain ⟨t_7, et_7, h⟩ := h
          refine gTop et_7 ?_
          refine lv_iload_n hx hb dX12_isAs_24 rfl (lv_at hl 3 rfl) ?_
          refine lv_iadd hx hb dX12_isAs_25 ?_
          replace h := nm_ok h
          obtain ⟨t_8, et_8, h⟩ := h
          refine gTop et_8 ?_
          replace h := chi_ok h
          obtain ⟨hi_9, h⟩ := h
          refine va_iald hx hb hK.1 hP 2 0 rfl rfl hi_9 dX12_isAs_26 ?_
          replace h := nm_ok h
          obtain ⟨t_10, et_10, h⟩ := h
          refine gTop et_10 ?_
          refine lv_aload_n hx hb dX12_isAs_27 rfl (lv_at hl 0 rfl) ?_
          refine va_get (D := D) (ci := 12) (v := .ref q_d) (C := RX12) (T := TX12) (N := 26) hx hb hts in_X12_isAs_X12 hown hK.1 hP 0 rfl rfl 0 (by decide) (hts (.fieldLink RX12 7 "PaperBubblesModel" "d" "[I") (List.mem_of_getElem? (i := 2) rfl)) (fun _ h9 => h9) rfl dX12_isAs_28 ?_
          refine lv_bipush (v := 10) hx hb dX12_isAs_31 (by decide) ?_
          refine lv_iload_n hx hb dX12_isAs_33 rfl (lv_at hl 3 rfl) ?_
          refine lv_iadd hx hb dX12_isAs_34 ?_
          replace h := nm_ok h
          obtain ⟨t_11, et_11, h⟩ := h
          refine gTop et_11 ?_
          replace h := chi_ok h
          obtain ⟨hi_12, h⟩ := h
          refine va_iald hx hb hK.1 hP 1 0 rfl rfl hi_12 dX12_isAs_35 ?_
          refine lv_icmp_ne (tgt := 43) hx hb dX12_isAs_36 (by decide) (fun c_13 => ?_) (fun c_13 => ?_)
          · replace h := it_f c_13 h
            refine lv_iconst (v := 0) hx hb dX12_isAs_43 (by decide) ?_
            refine lv_istore_n (lv' := [(2, .int 0), (0, .ref q_this), (1, .int a_1), (3, .int x3)]) hx hb dX12_isAs_44 rfl hl (by decide) rfl (fun ls hl => ?_)
            replace h := nm_ok h
            obtain ⟨t_14, et_14, h⟩ := h
            refine lv_iinc (v := t_14) (lv' := [(3, .int t_14), (2, .int 0), (0, .ref q_this), (1, .int a_1)]) hx hb dX12_isAs_45 hl (k := 3) rfl (by rw [et_14]; rfl) (by decide) rfl (fun ls hl => ?_)
            refine lv_goto (tgt := 4) hx hb dX12_isAs_48 (by decide) ?_
            exact ih 0 t_14 H locs hP hD hS ls (lv_sub hl [2, 3, 1, 0] rfl) h
          · replace h := it_t c_13 h
            refine lv_iconst (v := 1) hx hb dX12_isAs_39 (by decide) ?_
            refine lv_goto (tgt := 44) hx hb dX12_isAs_40 (by decide) ?_
            refine lv_istore_n (lv' := [(2, .int 1), (0, .ref q_this), (1, .int a_1), (3, .int x3)]) hx hb dX12_isAs_44 rfl hl (by decide) rfl (fun ls hl => ?_)
            replace h := nm_ok h
            obtain ⟨t_15, et_15, h⟩ := h
            refine lv_iinc (v := t_15) (lv' := [(3, .int t_15), (2, .int 1), (0, .ref q_this), (1, .int a_1)]) hx hb dX12_isAs_45 hl (k := 3) rfl (by rw [et_15]; rfl) (by decide) rfl (fun ls hl => ?_)
            refine lv_goto (tgt := 4) hx hb dX12_isAs_48 (by decide) ?_
            exact ih 1 t_15 H locs hP hD hS ls (lv_sub hl [2, 3, 1, 0] rfl) h
  unfold f_X12_isAs at h
  refine lv_iconst (v := 1) hx hb dX12_isAs_0 (by decide) ?_
  refine lv_istore_n (lv' := [(2, .int 1), (0, .ref q_this), (1, .int a_1)]) hx hb dX12_isAs_1 rfl hl (by decide) rfl (fun ls hl => ?_)
  refine lv_iconst (v := 0) hx hb dX12_isAs_2 (by decide) ?_
  refine lv_istore_n (lv' := [(3, .int 0), (2, .int 1), (0, .ref q_this), (1, .int a_1)]) hx hb dX12_isAs_3 rfl hl (by decide) rfl (fun ls hl => ?_)
  exact t_L4 gFuel 1 0 s.heap [] hP hD hS ls (lv_sub hl [2, 3, 1, 0] rfl) h
def f_X12_isCell (a_1 : Int32) (v_d : Nat → Int32) : Option (Int32) :=
  kb (f_X12_cells v_d) fun r_2 =>
  kb (f_X12_in ((a_1 : Int32).toInt64) 0 (((r_2 - 1) : Int32).toInt64)) fun r_4 =>
  chb r_4 <|
  some r_4

abbrev rm_X12_isCell : Room := { frames := 1, cells := 0, slots := 0, locals := 25 }
set_option maxHeartbeats 4000000 in
set_option maxRecDepth 100000 in
theorem c_X12_isCell (l : Launch) (D : va_G) (c : Nat → ClassId) (q_this q_d q_kept q_found q_aside q_names q_seenKept q_movedKept q_traced q_bitsOf q_sizeOf q_number q_lifted : Nat) (a_1 : Int32) (v_images : Int32) (v_base : Int32) (v_at : Int32) (v_size : Int32) (v_fault : Int32) (v_opened : Int32) (v_isSeen : Int32) (v_isKeeping : Int32) (v_bubbleMany : Int32) (v_bubbleMost : Int32) (v_bubbleCell : Int32) (v_bestShown : Int32) (v_traceMany : Int32) (v_who : Int32) (v_d : Nat → Int32) (o_r : Int32) (h : f_X12_isCell a_1 v_d = some o_r) : gMI l yX12_isCell wsX12_isCell rm_X12_isCell D c [.ref q_this, .int a_1] [(q_this, .inr (12, [.ref q_d, .ref q_kept, .int v_images, .ref q_found, .ref q_aside, .int v_base, .int v_at, .int v_size, .int v_fault, .int v_opened, .int v_isSeen, .ref q_names, .ref q_seenKept, .ref q_movedKept, .int v_isKeeping, .int v_bubbleMany, .int v_bubbleMost, .int v_bubbleCell, .int v_bestShown, .ref q_traced, .int v_traceMany, .int v_who, .ref q_bitsOf, .ref q_sizeOf, .ref q_number, .ref q_lifted])), (q_d, .inl (c 0, 244, .inl v_d))] [(q_this, .inr (12, [.ref q_d, .ref q_kept, .int v_images, .ref q_found, .ref q_aside, .int v_base, .int v_at, .int v_size, .int v_fault, .int v_opened, .int v_isSeen, .ref q_names, .ref q_seenKept, .ref q_movedKept, .int v_isKeeping, .int v_bubbleMany, .int v_bubbleMost, .int v_bubbleCell, .int v_bestShown, .ref q_traced, .int v_traceMany, .int v_who, .ref q_bitsOf, .ref q_sizeOf, .ref q_number, .ref q_lifted])), (q_d, .inl (c 0, 244, .inl v_d))] o_r := by
  refine gMI_of (cc := cX12_isCell) (maxL := 2) (rt := (some .boolean)) (by decide +kernel) rfl (Nat.le_of_ble_eq_true rfl) ?_
  intro p e s m below meth co A hF hK hX hP hD hA hS ls hl
  obtain ⟨hx, hb, hr, hts, hown, hlocks, hml⟩ := id hF
  have hl : lv_has ls 2 [(0, .ref q_this), (1, .int a_1)] := hl
  unfold f_X12_isCell at h
  refine lv_iload_n hx hb dX12_isCell_0 rfl (lv_at hl 1 rfl) ?_
  refine lv_i2l hx hb dX12_isCell_1 rfl ?_
  refine lv_lconst (v := 0) hx hb dX12_isCell_2 (by decide) ?_
  refine lv_aload_n hx hb dX12_isCell_3 rfl (lv_at hl 0 rfl) ?_
  replace h := kb_ok h
  obtain ⟨r_2, hc_1, h⟩ := h
  refine gCallIr (isC := [0, 1]) (wc := [(q_this, .inr (12, [.ref q_d, .ref q_kept, .int v_images, .ref q_found, .ref q_aside, .int v_base, .int v_at, .int v_size, .int v_fault, .int v_opened, .int v_isSeen, .ref q_names, .ref q_seenKept, .ref q_movedKept, .int v_isKeeping, .int v_bubbleMany, .int v_bubbleMost, .int v_bubbleCell, .int v_bestShown, .ref q_traced, .int v_traceMany, .int v_who, .ref q_bitsOf, .ref q_sizeOf, .ref q_number, .ref q_lifted])), (q_d, .inl (c 0, 244, .inl v_d))]) hP hD hS hA ⟨rfl, rfl, trivial⟩ (va_runV (rm := rm_X12_cells) (ws := wsX12_cells) (As := []) (rest := [.long 0, .long ((a_1 : Int32).toInt64)]) (gFix hF) (c_X12_cells l D c q_this q_d q_kept q_found q_aside q_names q_seenKept q_movedKept q_traced q_bitsOf q_sizeOf q_number q_lifted v_images v_base v_at v_size v_fault v_opened v_isSeen v_isKeeping v_bubbleMany v_bubbleMost v_bubbleCell v_bestShown v_traceMany v_who v_d r_2 hc_1 s.heap.size) (cwV 0 hts gX12_isCell_X12_cells rfl rfl rfl (by decide +kernel) ⟨Nat.le_of_ble_eq_true rfl, Nat.le_of_ble_eq_true rfl⟩) (gPreV (wc := [(q_this, .inr (12, [.ref q_d, .ref q_kept, .int v_images, .ref q_found, .ref q_aside, .int v_base, .int v_at, .int v_size, .int v_fault, .int v_opened, .int v_isSeen, .ref q_names, .ref q_seenKept, .ref q_movedKept, .int v_isKeeping, .int v_bubbleMany, .int v_bubbleMost, .int v_bubbleCell, .int v_bestShown, .ref q_traced, .int v_traceMany, .int v_who, .ref q_bitsOf, .ref q_sizeOf, .ref q_number, .ref q_lifted])), (q_d, .inl (c 0, 244, .inl v_d))]) (q := (RX12, TX12, 26)) (ci := 12) (q0 := 0) (isC := [0, 1]) hK hX hS hA hP hD ⟨rfl, rfl, trivial⟩ (by decide +kernel) rfl rfl) rfl rfl hl.1 rfl (lv_room (Nat.le_of_ble_eq_true rfl)) dX12_isCell_4 ⟨Nat.le_of_ble_eq_true rfl, Nat.le_of_ble_eq_true rfl⟩) (fun H locs hP hS => ?_)
  refine lv_iconst (v := 1) hx hb dX12_isCell_7 (by decide) ?_
  refine lv_isub hx hb dX12_isCell_8 ?_
  refine lv_i2l hx hb dX12_isCell_9 rfl ?_
  replace h := kb_ok h
  obtain ⟨r_4, hc_3, h⟩ := h
  refine gCallIr (isC := []) (wc := []) hP hD hS hA trivial (va_runS (rm := rm_X12_in) (ws := wsX12_in) (As := [.long ((a_1 : Int32).toInt64), .long 0, .long (((r_2 - 1) : Int32).toInt64)]) (rest := []) (gFix hF) (c_X12_in l D c ((a_1 : Int32).toInt64) 0 (((r_2 - 1) : Int32).toInt64) r_4 hc_3 H.size) (va_cwS 3 hts gX12_isCell_X12_in rfl rfl rfl (by decide +kernel) ⟨Nat.le_of_ble_eq_true rfl, Nat.le_of_ble_eq_true rfl⟩) (gPreS (wc := []) (isC := []) hK hX hS hA hP hD trivial (by decide +kernel)) rfl rfl hl.1 rfl (lv_room (Nat.le_of_ble_eq_true rfl)) dX12_isCell_10 ⟨Nat.le_of_ble_eq_true rfl, Nat.le_of_ble_eq_true rfl⟩) (fun H locs hP hS => ?_)
  replace h := chb_ok h
  obtain ⟨hz_5, h⟩ := h
  replace h := so1 h
  subst h
  exact gIret hF hP hD hS (chb_n hz_5) dX12_isCell_13
def f_X12_isWay (a_0 : Int32) : Option (Int32) :=
  kb (f_X12_in ((a_0 : Int32).toInt64) 0 3) fun r_2 =>
  chb r_2 <|
  some r_2

abbrev rm_X12_isWay : Room := { frames := 1, cells := 0, slots := 0, locals := 25 }
set_option maxHeartbeats 4000000 in
set_option maxRecDepth 100000 in
theorem c_X12_isWay (l : Launch) (D : va_G) (c : Nat → ClassId) (a_0 : Int32) (o_r : Int32) (h : f_X12_isWay a_0 = some o_r) : gMI l yX12_isWay wsX12_isWay rm_X12_isWay D c [.int a_0] [] [] o_r := by
  refine gMI_of (cc := cX12_isWay) (maxL := 1) (rt := (some .boolean)) (by decide +kernel) rfl (Nat.le_of_ble_eq_true rfl) ?_
  intro p e s m below meth co A hF hK hX hP hD hA hS ls hl
  obtain ⟨hx, hb, hr, hts, hown, hlocks, hml⟩ := id hF
  have hl : lv_has ls 1 [(0, .int a_0)] := hl
  unfold f_X12_isWay at h
  refine lv_iload_n hx hb dX12_isWay_0 rfl (lv_at hl 0 rfl) ?_
  refine lv_i2l hx hb dX12_isWay_1 rfl ?_
  refine lv_lconst (v := 0) hx hb dX12_isWay_2 (by decide) ?_
  refine lv_ldc2 (v := 3) hx hb hown (hts (.constantLong RX12 59 (3)) (List.mem_of_getElem? (i := 1) rfl)) dX12_isWay_3 ?_
  replace h := kb_ok h
  obtain ⟨r_2, hc_1, h⟩ := h
  refine gCallIr (isC := []) (wc := []) hP hD hS hA trivial (va_runS (rm := rm_X12_in) (ws := wsX12_in) (As := [.long ((a_0 : Int32).toInt64), .long 0, .long 3]) (rest := []) (gFix hF) (c_X12_in l D c ((a_0 : Int32).toInt64) 0 3 r_2 hc_1 s.heap.size) (va_cwS 3 hts gX12_isWay_X12_in rfl rfl rfl (by decide +kernel) ⟨Nat.le_of_ble_eq_true rfl, Nat.le_of_ble_eq_true rfl⟩) (gPreS (wc := []) (isC := []) hK hX hS hA hP hD trivial (by decide +kernel)) rfl rfl hl.1 rfl (lv_room (Nat.le_of_ble_eq_true rfl)) dX12_isWay_6 ⟨Nat.le_of_ble_eq_true rfl, Nat.le_of_ble_eq_true rfl⟩) (fun H locs hP hS => ?_)
  replace h := chb_ok h
  obtain ⟨hz_3, h⟩ := h
  replace h := so1 h
  subst h
  exact gIret hF hP hD hS (chb_n hz_3) dX12_isWay_9
set_option maxRecDepth 20000 in
theorem in_X12_came_X12 : ∀ w ∈ u_ws RX12 TX12 26, w ∈ wsX12_came := by decide +kernel
def f_X12_came_L31 (v_base : Int32) (v_at : Int32) (v_size : Int32) (v_fault : Int32) (v_opened : Int32) (v_isSeen : Int32) (v_aside : Nat → Int32) (v_d : Nat → Int32) (v_found : Nat → Int32) (v_movedKept : Nat → Int32) (v_names : Nat → Int32) : Option (Int32 × Int32 × Int32 × Int32 × Int32 × Int32 × Int32 × (Nat → Int32) × (Nat → Int32) × (Nat → Int32) × (Nat → Int32) × (Nat → Int32)) :=
  kb2 (f_X12_finds 1 v_found) fun r_23 w_24 =>
  some (r_23, v_base, v_at, v_size, v_fault, v_opened, v_isSeen, v_aside, v_d, w_24, v_movedKept, v_names)

def f_X12_came_L61 (v_base : Int32) (v_at : Int32) (v_size : Int32) (v_fault : Int32) (v_opened : Int32) (v_isSeen : Int32) (v_aside : Nat → Int32) (v_d : Nat → Int32) (v_found : Nat → Int32) (v_movedKept : Nat → Int32) (v_names : Nat → Int32) : Option (Int32 × Int32 × Int32 × Int32 × Int32 × Int32 × Int32 × (Nat → Int32) × (Nat → Int32) × (Nat → Int32) × (Nat → Int32) × (Nat → Int32)) :=
  kb2 (f_X12_finds 2 v_found) fun r_26 w_27 =>
  some (r_26, v_base, v_at, v_size, v_fault, v_opened, v_isSeen, v_aside, v_d, w_27, v_movedKept, v_names)

def f_X12_came_L145 (a_1 : Int32) (x5 : Int32) (x6 : Int32) (v_base : Int32) (v_at : Int32) (v_size : Int32) (v_fault : Int32) (v_opened : Int32) (v_isSeen : Int32) (v_aside : Nat → Int32) (v_d : Nat → Int32) (v_found : Nat → Int32) (v_movedKept : Nat → Int32) (v_names : Nat → Int32) : Option (Int32 × Int32 × Int32 × Int32 × Int32 × Int32 × Int32 × (Nat → Int32) × (Nat → Int32) × (Nat → Int32) × (Nat → Int32) × (Nat → Int32)) :=
  nm (60 + (2 * a_1) : Int32) fun t_48 =>
  chi t_48 244 <|
  nm (upd v_d t_48.toNatClampNeg x5) fun w_50 =>
  if 0 ≤ x6 then
    some (x6, v_base, v_at, v_size, v_fault, v_opened, v_isSeen, v_aside, w_50, v_found, v_movedKept, v_names)
  else
    kb2 (f_X12_finds 2 v_found) fun r_53 w_54 =>
    some (r_53, v_base, v_at, v_size, v_fault, v_opened, v_isSeen, v_aside, w_50, w_54, v_movedKept, v_names)

def f_X12_came_L132 (kk_L80 : Int32 → Int32 → Int32 → Int32 → Int32 → Int32 → Int32 → Int32 → Int32 → (Nat → Int32) → (Nat → Int32) → (Nat → Int32) → (Nat → Int32) → (Nat → Int32) → Option (Int32 × Int32 × Int32 × Int32 × Int32 × Int32 × Int32 × (Nat → Int32) × (Nat → Int32) × (Nat → Int32) × (Nat → Int32) × (Nat → Int32))) (a_1 : Int32) (a_2 : Int32) (a_3 : Int32) (a_4 : Int32) (v_isKeeping : Int32) (v_number : Nat → Int32) (x5 : Int32) (x7 : Int32) (y0 : Int32) (v_base : Int32) (v_at : Int32) (v_size : Int32) (v_fault : Int32) (v_opened : Int32) (v_isSeen : Int32) (v_aside : Nat → Int32) (v_d : Nat → Int32) (v_found : Nat → Int32) (v_movedKept : Nat → Int32) (v_names : Nat → Int32) : Option (Int32 × Int32 × Int32 × Int32 × Int32 × Int32 × Int32 × (Nat → Int32) × (Nat → Int32) × (Nat → Int32) × (Nat → Int32) × (Nat → Int32)) :=
  kb (f_X12_putBack 0 v_aside v_d) fun w_56 =>
  nm (x7 + 1 : Int32) fun t_57 =>
  kk_L80 x5 y0 t_57 v_base v_at v_size v_fault v_opened v_isSeen v_aside w_56 v_found v_movedKept v_names

def f_X12_came_L80 (a_1 : Int32) (a_2 : Int32) (a_3 : Int32) (a_4 : Int32) (v_isKeeping : Int32) (v_number : Nat → Int32) : Nat → Int32 → Int32 → Int32 → Int32 → Int32 → Int32 → Int32 → Int32 → Int32 → (Nat → Int32) → (Nat → Int32) → (Nat → Int32) → (Nat → Int32) → (Nat → Int32) → Option (Int32 × Int32 × Int32 × Int32 × Int32 × Int32 × Int32 × (Nat → Int32) × (Nat → Int32) × (Nat → Int32) × (Nat → Int32) × (Nat → Int32))
  | 0, _, _, _, _, _, _, _, _, _, _, _, _, _, _ => none
  | n + 1, x5, x6, x7, v_base, v_at, v_size, v_fault, v_opened, v_isSeen, v_aside, v_d, v_found, v_movedKept, v_names =>
    if 6 < x7 then
      f_X12_came_L145 a_1 x5 x6 v_base v_at v_size v_fault v_opened v_isSeen v_aside v_d v_found v_movedKept v_names
    else
      if 0 ≤ x6 then
        f_X12_came_L145 a_1 x5 x6 v_base v_at v_size v_fault v_opened v_isSeen v_aside v_d v_found v_movedKept v_names
      else
        nm (60 + (2 * a_1) : Int32) fun t_30 =>
        chi t_30 244 <|
        nm (upd v_d t_30.toNatClampNeg x7) fun w_32 =>
        kb (f_X12_keepAside 0 v_aside w_32) fun w_34 =>
        kb9 (f_X12_strokes a_1 a_2 a_3 v_base v_at v_size v_fault v_opened v_isSeen v_isKeeping w_32 v_movedKept v_names) fun w_36 w_37 w_38 w_39 w_40 w_41 w_42 w_43 w_44 =>
        kb (f_X12_isAs a_4 w_42 v_number) fun r_46 =>
        if r_46 = 0 then
          f_X12_came_L132 (f_X12_came_L80 a_1 a_2 a_3 a_4 v_isKeeping v_number n) a_1 a_2 a_3 a_4 v_isKeeping v_number x5 x7 (-1) w_36 w_37 w_38 w_39 w_40 w_41 w_34 w_42 v_found w_43 w_44
        else
          f_X12_came_L132 (f_X12_came_L80 a_1 a_2 a_3 a_4 v_isKeeping v_number n) a_1 a_2 a_3 a_4 v_isKeeping v_number x5 x7 x7 w_36 w_37 w_38 w_39 w_40 w_41 w_34 w_42 v_found w_43 w_44

def f_X12_came (a_1 : Int32) (a_2 : Int32) (a_3 : Int32) (a_4 : Int32) (v_base : Int32) (v_at : Int32) (v_size : Int32) (v_fault : Int32) (v_opened : Int32) (v_isSeen : Int32) (v_isKeeping : Int32) (v_aside : Nat → Int32) (v_bitsOf : Nat → Int32) (v_d : Nat → Int32) (v_found : Nat → Int32) (v_movedKept : Nat → Int32) (v_names : Nat → Int32) (v_number : Nat → Int32) (v_sizeOf : Nat → Int32) : Option (Int32 × Int32 × Int32 × Int32 × Int32 × Int32 × Int32 × (Nat → Int32) × (Nat → Int32) × (Nat → Int32) × (Nat → Int32) × (Nat → Int32)) :=
  kb (f_X12_isTool a_1 v_d) fun r_2 =>
  if r_2 = 0 then
    f_X12_came_L31 v_base v_at v_size v_fault v_opened v_isSeen v_aside v_d v_found v_movedKept v_names
  else
    kb (f_X12_isCell a_2 v_d) fun r_5 =>
    if r_5 = 0 then
      f_X12_came_L31 v_base v_at v_size v_fault v_opened v_isSeen v_aside v_d v_found v_movedKept v_names
    else
      kb (f_X12_isWay a_3) fun r_8 =>
      if r_8 = 0 then
        f_X12_came_L31 v_base v_at v_size v_fault v_opened v_isSeen v_aside v_d v_found v_movedKept v_names
      else
        kb (f_X12_isSheet a_4) fun r_11 =>
        if r_11 = 0 then
          f_X12_came_L31 v_base v_at v_size v_fault v_opened v_isSeen v_aside v_d v_found v_movedKept v_names
        else
          chi a_4 4 <|
          if (v_bitsOf a_4.toNatClampNeg) = 0 then
            f_X12_came_L61 v_base v_at v_size v_fault v_opened v_isSeen v_aside v_d v_found v_movedKept v_names
          else
            chi a_4 4 <|
            nm (v_sizeOf a_4.toNatClampNeg : Int32) fun t_16 =>
            kb (f_X12_cells v_d) fun r_18 =>
            if t_16 = r_18 then
              kb (f_X12_kindOf a_1 v_d) fun r_21 =>
              f_X12_came_L80 a_1 a_2 a_3 a_4 v_isKeeping v_number gFuel r_21 (-1) 0 v_base v_at v_size v_fault v_opened v_isSeen v_aside v_d v_found v_movedKept v_names
            else
              f_X12_came_L61 v_base v_at v_size v_fault v_opened v_isSeen v_aside v_d v_found v_movedKept v_names

abbrev rm_X12_came : Room := { frames := 59, cells := 0, slots := 0, locals := 1361 }
set_option maxHeartbeats 4000000 in
set_option maxRecDepth 100000 in
theorem c_X12_came (l : Launch) (D : va_G) (c : Nat → ClassId) (q_this q_d q_kept q_found q_aside q_names q_seenKept q_movedKept q_traced q_bitsOf q_sizeOf q_number q_lifted : Nat) (a_1 : Int32) (a_2 : Int32) (a_3 : Int32) (a_4 : Int32) (v_images : Int32) (v_base : Int32) (v_at : Int32) (v_size : Int32) (v_fault : Int32) (v_opened : Int32) (v_isSeen : Int32) (v_isKeeping : Int32) (v_bubbleMany : Int32) (v_bubbleMost : Int32) (v_bubbleCell : Int32) (v_bestShown : Int32) (v_traceMany : Int32) (v_who : Int32) (v_aside : Nat → Int32) (v_bitsOf : Nat → Int32) (v_d : Nat → Int32) (v_found : Nat → Int32) (v_movedKept : Nat → Int32) (v_names : Nat → Int32) (v_number : Nat → Int32) (v_sizeOf : Nat → Int32) (o_r : Int32) (o_v_base : Int32) (o_v_at : Int32) (o_v_size : Int32) (o_v_fault : Int32) (o_v_opened : Int32) (o_v_isSeen : Int32) (o_v_aside : Nat → Int32) (o_v_d : Nat → Int32) (o_v_found : Nat → Int32) (o_v_movedKept : Nat → Int32) (o_v_names : Nat → Int32) (h : f_X12_came a_1 a_2 a_3 a_4 v_base v_at v_size v_fault v_opened v_isSeen v_isKeeping v_aside v_bitsOf v_d v_found v_movedKept v_names v_number v_sizeOf = some (o_r, o_v_base, o_v_at, o_v_size, o_v_fault, o_v_opened, o_v_isSeen, o_v_aside, o_v_d, o_v_found, o_v_movedKept, o_v_names)) : gMI l yX12_came wsX12_came rm_X12_came D c [.ref q_this, .int a_1, .int a_2, .int a_3, .int a_4] [(q_this, .inr (12, [.ref q_d, .ref q_kept, .int v_images, .ref q_found, .ref q_aside, .int v_base, .int v_at, .int v_size, .int v_fault, .int v_opened, .int v_isSeen, .ref q_names, .ref q_seenKept, .ref q_movedKept, .int v_isKeeping, .int v_bubbleMany, .int v_bubbleMost, .int v_bubbleCell, .int v_bestShown, .ref q_traced, .int v_traceMany, .int v_who, .ref q_bitsOf, .ref q_sizeOf, .ref q_number, .ref q_lifted])), (q_aside, .inl (c 0, 120, .inl v_aside)), (q_bitsOf, .inl (c 0, 4, .inl v_bitsOf)), (q_d, .inl (c 0, 244, .inl v_d)), (q_found, .inl (c 0, 6, .inl v_found)), (q_movedKept, .inl (c 0, 1000, .inl v_movedKept)), (q_names, .inl (c 0, 3, .inl v_names)), (q_number, .inl (c 0, 160, .inl v_number)), (q_sizeOf, .inl (c 0, 4, .inl v_sizeOf))] [(q_this, .inr (12, [.ref q_d, .ref q_kept, .int v_images, .ref q_found, .ref q_aside, .int o_v_base, .int o_v_at, .int o_v_size, .int o_v_fault, .int o_v_opened, .int o_v_isSeen, .ref q_names, .ref q_seenKept, .ref q_movedKept, .int v_isKeeping, .int v_bubbleMany, .int v_bubbleMost, .int v_bubbleCell, .int v_bestShown, .ref q_traced, .int v_traceMany, .int v_who, .ref q_bitsOf, .ref q_sizeOf, .ref q_number, .ref q_lifted])), (q_aside, .inl (c 0, 120, .inl o_v_aside)), (q_bitsOf, .inl (c 0, 4, .inl v_bitsOf)), (q_d, .inl (c 0, 244, .inl o_v_d)), (q_found, .inl (c 0, 6, .inl o_v_found)), (q_movedKept, .inl (c 0, 1000, .inl o_v_movedKept)), (q_names, .inl (c 0, 3, .inl o_v_names)), (q_number, .inl (c 0, 160, .inl v_number)), (q_sizeOf, .inl (c 0, 4, .inl v_sizeOf))] o_r := by
  refine gMI_of (cc := cX12_came) (maxL := 8) (rt := (some .int)) (by decide +kernel) rfl (Nat.le_of_ble_eq_true rfl) ?_
  intro p e s m below meth co A hF hK hX hP hD hA hS ls hl
  obtain ⟨hx, hb, hr, hts, hown, hlocks, hml⟩ := id hF
  have hl : lv_has ls 8 [(0, .ref q_this), (1, .int a_1), (2, .int a_2), (3, .int a_3), (4, .int a_4)] := hl
  have t_L31 : ∀ (v_base : Int32) (v_at : Int32) (v_size : Int32) (v_fault : Int32) (v_opened : Int32) (v_isSeen : Int32) (v_aside : Nat → Int32) (v_d : Nat → Int32) (v_found : Nat → Int32) (v_movedKept : Nat → Int32) (v_names : Nat → Int32) (H : Heap) (locs : List Loc), va_P D gcl [(q_this, .inr (12, [.ref q_d, .ref q_kept, .int v_images, .ref q_found, .ref q_aside, .int v_base, .int v_at, .int v_size, .int v_fault, .int v_opened, .int v_isSeen, .ref q_names, .ref q_seenKept, .ref q_movedKept, .int v_isKeeping, .int v_bubbleMany, .int v_bubbleMost, .int v_bubbleCell, .int v_bestShown, .ref q_traced, .int v_traceMany, .int v_who, .ref q_bitsOf, .ref q_sizeOf, .ref q_number, .ref q_lifted])), (q_aside, .inl (c 0, 120, .inl v_aside)), (q_bitsOf, .inl (c 0, 4, .inl v_bitsOf)), (q_d, .inl (c 0, 244, .inl v_d)), (q_found, .inl (c 0, 6, .inl v_found)), (q_movedKept, .inl (c 0, 1000, .inl v_movedKept)), (q_names, .inl (c 0, 3, .inl v_names)), (q_number, .inl (c 0, 160, .inl v_number)), (q_sizeOf, .inl (c 0, 4, .inl v_sizeOf))] H → va_D A [(q_this, .inr (12, [.ref q_d, .ref q_kept, .int v_images, .ref q_found, .ref q_aside, .int v_base, .int v_at, .int v_size, .int v_fault, .int v_opened, .int v_isSeen, .ref q_names, .ref q_seenKept, .ref q_movedKept, .int v_isKeeping, .int v_bubbleMany, .int v_bubbleMost, .int v_bubbleCell, .int v_bestShown, .ref q_traced, .int v_traceMany, .int v_who, .ref q_bitsOf, .ref q_sizeOf, .ref q_number, .ref q_lifted])), (q_aside, .inl (c 0, 120, .inl v_aside)), (q_bitsOf, .inl (c 0, 4, .inl v_bitsOf)), (q_d, .inl (c 0, 244, .inl v_d)), (q_found, .inl (c 0, 6, .inl v_found)), (q_movedKept, .inl (c 0, 1000, .inl v_movedKept)), (q_names, .inl (c 0, 3, .inl v_names)), (q_number, .inl (c 0, 160, .inl v_number)), (q_sizeOf, .inl (c 0, 4, .inl v_sizeOf))] → va_S A s.heap H locs → ∀ ls, lv_has ls 8 [(0, .ref q_this)] → f_X12_came_L31 v_base v_at v_size v_fault v_opened v_isSeen v_aside v_d v_found v_movedKept v_names = some (o_r, o_v_base, o_v_at, o_v_size, o_v_fault, o_v_opened, o_v_isSeen, o_v_aside, o_v_d, o_v_found, o_v_movedKept, o_v_names) → W p l e (headSpec wsX12_came rm_X12_came).room s m [.ref q_this, .int a_1, .int a_2, .int a_3, .int a_4].toArray below meth co H locs 0 0 (gQI D [(q_this, .inr (12, [.ref q_d, .ref q_kept, .int v_images, .ref q_found, .ref q_aside, .int o_v_base, .int o_v_at, .int o_v_size, .int o_v_fault, .int o_v_opened, .int o_v_isSeen, .ref q_names, .ref q_seenKept, .ref q_movedKept, .int v_isKeeping, .int v_bubbleMany, .int v_bubbleMost, .int v_bubbleCell, .int v_bestShown, .ref q_traced, .int v_traceMany, .int v_who, .ref q_bitsOf, .ref q_sizeOf, .ref q_number, .ref q_lifted])), (q_aside, .inl (c 0, 120, .inl o_v_aside)), (q_bitsOf, .inl (c 0, 4, .inl v_bitsOf)), (q_d, .inl (c 0, 244, .inl o_v_d)), (q_found, .inl (c 0, 6, .inl o_v_found)), (q_movedKept, .inl (c 0, 1000, .inl o_v_movedKept)), (q_names, .inl (c 0, 3, .inl o_v_names)), (q_number, .inl (c 0, 160, .inl v_number)), (q_sizeOf, .inl (c 0, 4, .inl v_sizeOf))] o_r A below [.ref q_this, .int a_1, .int a_2, .int a_3, .int a_4] s) (F0 m 31 ls []) := by
    intro  v_base v_at v_size v_fault v_opened v_isSeen v_aside v_d v_found v_movedKept v_names H locs hP hD hS ls hl h
    unfold f_X12_came_L31 at h
    refine lv_aload_n hx hb dX12_came_31 rfl (lv_at hl 0 rfl) ?_
    refine lv_iconst (v := 1) hx hb dX12_came_32 (by decide) ?_
    replace h := kb2_ok h
    obtain ⟨r_23, w_24, hc_22, h⟩ := h
    refine gCallI (isC := [0, 4]) (wc := [(q_this, .inr (12, [.ref q_d, .ref q_kept, .int v_images, .ref q_found, .ref q_aside, .int v_base, .int v_at, .int v_size, .int v_fault, .int v_opened, .int v_isSeen, .ref q_names, .ref q_seenKept, .ref q_movedKept, .int v_isKeeping, .int v_bubbleMany, .int v_bubbleMost, .int v_bubbleCell, .int v_bestShown, .ref q_traced, .int v_traceMany, .int v_who, .ref q_bitsOf, .ref q_sizeOf, .ref q_number, .ref q_lifted])), (q_found, .inl (c 0, 6, .inl v_found))]) (w1 := [(q_this, .inr (12, [.ref q_d, .ref q_kept, .int v_images, .ref q_found, .ref q_aside, .int v_base, .int v_at, .int v_size, .int v_fault, .int v_opened, .int v_isSeen, .ref q_names, .ref q_seenKept, .ref q_movedKept, .int v_isKeeping, .int v_bubbleMany, .int v_bubbleMost, .int v_bubbleCell, .int v_bestShown, .ref q_traced, .int v_traceMany, .int v_who, .ref q_bitsOf, .ref q_sizeOf, .ref q_number, .ref q_lifted])), (q_found, .inl (c 0, 6, .inl w_24))]) (ws2 := [(q_this, .inr (12, [.ref q_d, .ref q_kept, .int v_images, .ref q_found, .ref q_aside, .int v_base, .int v_at, .int v_size, .int v_fault, .int v_opened, .int v_isSeen, .ref q_names, .ref q_seenKept, .ref q_movedKept, .int v_isKeeping, .int v_bubbleMany, .int v_bubbleMost, .int v_bubbleCell, .int v_bestShown, .ref q_traced, .int v_traceMany, .int v_who, .ref q_bitsOf, .ref q_sizeOf, .ref q_number, .ref q_lifted])), (q_aside, .inl (c 0, 120, .inl v_aside)), (q_bitsOf, .inl (c 0, 4, .inl v_bitsOf)), (q_d, .inl (c 0, 244, .inl v_d)), (q_found, .inl (c 0, 6, .inl w_24)), (q_movedKept, .inl (c 0, 1000, .inl v_movedKept)), (q_names, .inl (c 0, 3, .inl v_names)), (q_number, .inl (c 0, 160, .inl v_number)), (q_sizeOf, .inl (c 0, 4, .inl v_sizeOf))]) (ms := [(some 0), none, none, none, (some 1), none, none, none, none]) hP hD hS hA ⟨rfl, rfl, trivial⟩ (by decide +kernel) ⟨rfl, rfl, rfl, rfl, rfl, rfl, rfl, rfl, rfl, trivial⟩ (va_runV (rm := rm_X12_finds) (ws := wsX12_finds) (As := [.int 1]) (rest := []) (gFix hF) (c_X12_finds l D c q_this q_d q_kept q_found q_aside q_names q_seenKept q_movedKept q_traced q_bitsOf q_sizeOf q_number q_lifted 1 v_images v_base v_at v_size v_fault v_opened v_isSeen v_isKeeping v_bubbleMany v_bubbleMost v_bubbleCell v_bestShown v_traceMany v_who v_found r_23 w_24 hc_22 H.size) (cwV 1 hts gX12_came_X12_finds rfl rfl rfl (by decide +kernel) ⟨Nat.le_of_ble_eq_true rfl, Nat.le_of_ble_eq_true rfl⟩) (gPreV (wc := [(q_this, .inr (12, [.ref q_d, .ref q_kept, .int v_images, .ref q_found, .ref q_aside, .int v_base, .int v_at, .int v_size, .int v_fault, .int v_opened, .int v_isSeen, .ref q_names, .ref q_seenKept, .ref q_movedKept, .int v_isKeeping, .int v_bubbleMany, .int v_bubbleMost, .int v_bubbleCell, .int v_bestShown, .ref q_traced, .int v_traceMany, .int v_who, .ref q_bitsOf, .ref q_sizeOf, .ref q_number, .ref q_lifted])), (q_found, .inl (c 0, 6, .inl v_found))]) (q := (RX12, TX12, 26)) (ci := 12) (q0 := 0) (isC := [0, 4]) hK hX hS hA hP hD ⟨rfl, rfl, trivial⟩ (by decide +kernel) rfl rfl) rfl rfl hl.1 rfl (lv_room (Nat.le_of_ble_eq_true rfl)) dX12_came_33 ⟨Nat.le_of_ble_eq_true rfl, Nat.le_of_ble_eq_true rfl⟩) (fun H locs hP hD hS => ?_)
    replace h := so12 h
    obtain ⟨z0, z1, z2, z3, z4, z5, z6, z7, z8, z9, z10, z11⟩ := h
    subst z0 z1 z2 z3 z4 z5 z6 z7 z8 z9 z10 z11
    exact gIret hF hP hD hS rfl dX12_came_36
  have t_L61 : ∀ (v_base : Int32) (v_at : Int32) (v_size : Int32) (v_fault : Int32) (v_opened : Int32) (v_isSeen : Int32) (v_aside : Nat → Int32) (v_d : Nat → Int32) (v_found : Nat → Int32) (v_movedKept : Nat → Int32) (v_names : Nat → Int32) (H : Heap) (locs : List Loc), va_P D gcl [(q_this, .inr (12, [.ref q_d, .ref q_kept, .int v_images, .ref q_found, .ref q_aside, .int v_base, .int v_at, .int v_size, .int v_fault, .int v_opened, .int v_isSeen, .ref q_names, .ref q_seenKept, .ref q_movedKept, .int v_isKeeping, .int v_bubbleMany, .int v_bubbleMost, .int v_bubbleCell, .int v_bestShown, .ref q_traced, .int v_traceMany, .int v_who, .ref q_bitsOf, .ref q_sizeOf, .ref q_number, .ref q_lifted])), (q_aside, .inl (c 0, 120, .inl v_aside)), (q_bitsOf, .inl (c 0, 4, .inl v_bitsOf)), (q_d, .inl (c 0, 244, .inl v_d)), (q_found, .inl (c 0, 6, .inl v_found)), (q_movedKept, .inl (c 0, 1000, .inl v_movedKept)), (q_names, .inl (c 0, 3, .inl v_names)), (q_number, .inl (c 0, 160, .inl v_number)), (q_sizeOf, .inl (c 0, 4, .inl v_sizeOf))] H → va_D A [(q_this, .inr (12, [.ref q_d, .ref q_kept, .int v_images, .ref q_found, .ref q_aside, .int v_base, .int v_at, .int v_size, .int v_fault, .int v_opened, .int v_isSeen, .ref q_names, .ref q_seenKept, .ref q_movedKept, .int v_isKeeping, .int v_bubbleMany, .int v_bubbleMost, .int v_bubbleCell, .int v_bestShown, .ref q_traced, .int v_traceMany, .int v_who, .ref q_bitsOf, .ref q_sizeOf, .ref q_number, .ref q_lifted])), (q_aside, .inl (c 0, 120, .inl v_aside)), (q_bitsOf, .inl (c 0, 4, .inl v_bitsOf)), (q_d, .inl (c 0, 244, .inl v_d)), (q_found, .inl (c 0, 6, .inl v_found)), (q_movedKept, .inl (c 0, 1000, .inl v_movedKept)), (q_names, .inl (c 0, 3, .inl v_names)), (q_number, .inl (c 0, 160, .inl v_number)), (q_sizeOf, .inl (c 0, 4, .inl v_sizeOf))] → va_S A s.heap H locs → ∀ ls, lv_has ls 8 [(0, .ref q_this)] → f_X12_came_L61 v_base v_at v_size v_fault v_opened v_isSeen v_aside v_d v_found v_movedKept v_names = some (o_r, o_v_base, o_v_at, o_v_size, o_v_fault, o_v_opened, o_v_isSeen, o_v_aside, o_v_d, o_v_found, o_v_movedKept, o_v_names) → W p l e (headSpec wsX12_came rm_X12_came).room s m [.ref q_this, .int a_1, .int a_2, .int a_3, .int a_4].toArray below meth co H locs 0 0 (gQI D [(q_this, .inr (12, [.ref q_d, .ref q_kept, .int v_images, .ref q_found, .ref q_aside, .int o_v_base, .int o_v_at, .int o_v_size, .int o_v_fault, .int o_v_opened, .int o_v_isSeen, .ref q_names, .ref q_seenKept, .ref q_movedKept, .int v_isKeeping, .int v_bubbleMany, .int v_bubbleMost, .int v_bubbleCell, .int v_bestShown, .ref q_traced, .int v_traceMany, .int v_who, .ref q_bitsOf, .ref q_sizeOf, .ref q_number, .ref q_lifted])), (q_aside, .inl (c 0, 120, .inl o_v_aside)), (q_bitsOf, .inl (c 0, 4, .inl v_bitsOf)), (q_d, .inl (c 0, 244, .inl o_v_d)), (q_found, .inl (c 0, 6, .inl o_v_found)), (q_movedKept, .inl (c 0, 1000, .inl o_v_movedKept)), (q_names, .inl (c 0, 3, .inl o_v_names)), (q_number, .inl (c 0, 160, .inl v_number)), (q_sizeOf, .inl (c 0, 4, .inl v_sizeOf))] o_r A below [.ref q_this, .int a_1, .int a_2, .int a_3, .int a_4] s) (F0 m 61 ls []) := by
    intro  v_base v_at v_size v_fault v_opened v_isSeen v_aside v_d v_found v_movedKept v_names H locs hP hD hS ls hl h
    unfold f_X12_came_L61 at h
    refine lv_aload_n hx hb dX12_came_61 rfl (lv_at hl 0 rfl) ?_
    refine lv_iconst (v := 2) hx hb dX12_came_62 (by decide) ?_
    replace h := kb2_ok h
    obtain ⟨r_26, w_27, hc_25, h⟩ := h
    refine gCallI (isC := [0, 4]) (wc := [(q_this, .inr (12, [.ref q_d, .ref q_kept, .int v_images, .ref q_found, .ref q_aside, .int v_base, .int v_at, .int v_size, .int v_fault, .int v_opened, .int v_isSeen, .ref q_names, .ref q_seenKept, .ref q_movedKept, .int v_isKeeping, .int v_bubbleMany, .int v_bubbleMost, .int v_bubbleCell, .int v_bestShown, .ref q_traced, .int v_traceMany, .int v_who, .ref q_bitsOf, .ref q_sizeOf, .ref q_number, .ref q_lifted])), (q_found, .inl (c 0, 6, .inl v_found))]) (w1 := [(q_this, .inr (12, [.ref q_d, .ref q_kept, .int v_images, .ref q_found, .ref q_aside, .int v_base, .int v_at, .int v_size, .int v_fault, .int v_opened, .int v_isSeen, .ref q_names, .ref q_seenKept, .ref q_movedKept, .int v_isKeeping, .int v_bubbleMany, .int v_bubbleMost, .int v_bubbleCell, .int v_bestShown, .ref q_traced, .int v_traceMany, .int v_who, .ref q_bitsOf, .ref q_sizeOf, .ref q_number, .ref q_lifted])), (q_found, .inl (c 0, 6, .inl w_27))]) (ws2 := [(q_this, .inr (12, [.ref q_d, .ref q_kept, .int v_images, .ref q_found, .ref q_aside, .int v_base, .int v_at, .int v_size, .int v_fault, .int v_opened, .int v_isSeen, .ref q_names, .ref q_seenKept, .ref q_movedKept, .int v_isKeeping, .int v_bubbleMany, .int v_bubbleMost, .int v_bubbleCell, .int v_bestShown, .ref q_traced, .int v_traceMany, .int v_who, .ref q_bitsOf, .ref q_sizeOf, .ref q_number, .ref q_lifted])), (q_aside, .inl (c 0, 120, .inl v_aside)), (q_bitsOf, .inl (c 0, 4, .inl v_bitsOf)), (q_d, .inl (c 0, 244, .inl v_d)), (q_found, .inl (c 0, 6, .inl w_27)), (q_movedKept, .inl (c 0, 1000, .inl v_movedKept)), (q_names, .inl (c 0, 3, .inl v_names)), (q_number, .inl (c 0, 160, .inl v_number)), (q_sizeOf, .inl (c 0, 4, .inl v_sizeOf))]) (ms := [(some 0), none, none, none, (some 1), none, none, none, none]) hP hD hS hA ⟨rfl, rfl, trivial⟩ (by decide +kernel) ⟨rfl, rfl, rfl, rfl, rfl, rfl, rfl, rfl, rfl, trivial⟩ (va_runV (rm := rm_X12_finds) (ws := wsX12_finds) (As := [.int 2]) (rest := []) (gFix hF) (c_X12_finds l D c q_this q_d q_kept q_found q_aside q_names q_seenKept q_movedKept q_traced q_bitsOf q_sizeOf q_number q_lifted 2 v_images v_base v_at v_size v_fault v_opened v_isSeen v_isKeeping v_bubbleMany v_bubbleMost v_bubbleCell v_bestShown v_traceMany v_who v_found r_26 w_27 hc_25 H.size) (cwV 1 hts gX12_came_X12_finds rfl rfl rfl (by decide +kernel) ⟨Nat.le_of_ble_eq_true rfl, Nat.le_of_ble_eq_true rfl⟩) (gPreV (wc := [(q_this, .inr (12, [.ref q_d, .ref q_kept, .int v_images, .ref q_found, .ref q_aside, .int v_base, .int v_at, .int v_size, .int v_fault, .int v_opened, .int v_isSeen, .ref q_names, .ref q_seenKept, .ref q_movedKept, .int v_isKeeping, .int v_bubbleMany, .int v_bubbleMost, .int v_bubbleCell, .int v_bestShown, .ref q_traced, .int v_traceMany, .int v_who, .ref q_bitsOf, .ref q_sizeOf, .ref q_number, .ref q_lifted])), (q_found, .inl (c 0, 6, .inl v_found))]) (q := (RX12, TX12, 26)) (ci := 12) (q0 := 0) (isC := [0, 4]) hK hX hS hA hP hD ⟨rfl, rfl, trivial⟩ (by decide +kernel) rfl rfl) rfl rfl hl.1 rfl (lv_room (Nat.le_of_ble_eq_true rfl)) dX12_came_63 ⟨Nat.le_of_ble_eq_true rfl, Nat.le_of_ble_eq_true rfl⟩) (fun H locs hP hD hS => ?_)
    replace h := so12 h
    obtain ⟨z0, z1, z2, z3, z4, z5, z6, z7, z8, z9, z10, z11⟩ := h
    subst z0 z1 z2 z3 z4 z5 z6 z7 z8 z9 z10 z11
    exact gIret hF hP hD hS rfl dX12_came_66
  have t_L145 : ∀ (x5 : Int32) (x6 : Int32) (v_base : Int32) (v_at : Int32) (v_size : Int32) (v_fault : Int32) (v_opened : Int32) (v_isSeen : Int32) (v_aside : Nat → Int32) (v_d : Nat → Int32) (v_found : Nat → Int32) (v_movedKept : Nat → Int32) (v_names : Nat → Int32) (H : Heap) (locs : List Loc), va_P D gcl [(q_this, .inr (12, [.ref q_d, .ref q_kept, .int v_images, .ref q_found, .ref q_aside, .int v_base, .int v_at, .int v_size, .int v_fault, .int v_opened, .int v_isSeen, .ref q_names, .ref q_seenKept, .ref q_movedKept, .int v_isKeeping, .int v_bubbleMany, .int v_bubbleMost, .int v_bubbleCell, .int v_bestShown, .ref q_traced, .int v_traceMany, .int v_who, .ref q_bitsOf, .ref q_sizeOf, .ref q_number, .ref q_lifted])), (q_aside, .inl (c 0, 120, .inl v_aside)), (q_bitsOf, .inl (c 0, 4, .inl v_bitsOf)), (q_d, .inl (c 0, 244, .inl v_d)), (q_found, .inl (c 0, 6, .inl v_found)), (q_movedKept, .inl (c 0, 1000, .inl v_movedKept)), (q_names, .inl (c 0, 3, .inl v_names)), (q_number, .inl (c 0, 160, .inl v_number)), (q_sizeOf, .inl (c 0, 4, .inl v_sizeOf))] H → va_D A [(q_this, .inr (12, [.ref q_d, .ref q_kept, .int v_images, .ref q_found, .ref q_aside, .int v_base, .int v_at, .int v_size, .int v_fault, .int v_opened, .int v_isSeen, .ref q_names, .ref q_seenKept, .ref q_movedKept, .int v_isKeeping, .int v_bubbleMany, .int v_bubbleMost, .int v_bubbleCell, .int v_bestShown, .ref q_traced, .int v_traceMany, .int v_who, .ref q_bitsOf, .ref q_sizeOf, .ref q_number, .ref q_lifted])), (q_aside, .inl (c 0, 120, .inl v_aside)), (q_bitsOf, .inl (c 0, 4, .inl v_bitsOf)), (q_d, .inl (c 0, 244, .inl v_d)), (q_found, .inl (c 0, 6, .inl v_found)), (q_movedKept, .inl (c 0, 1000, .inl v_movedKept)), (q_names, .inl (c 0, 3, .inl v_names)), (q_number, .inl (c 0, 160, .inl v_number)), (q_sizeOf, .inl (c 0, 4, .inl v_sizeOf))] → va_S A s.heap H locs → ∀ ls, lv_has ls 8 [(0, .ref q_this), (1, .int a_1), (5, .int x5), (6, .int x6)] → f_X12_came_L145 a_1 x5 x6 v_base v_at v_size v_fault v_opened v_isSeen v_aside v_d v_found v_movedKept v_names = some (o_r, o_v_base, o_v_at, o_v_size, o_v_fault, o_v_opened, o_v_isSeen, o_v_aside, o_v_d, o_v_found, o_v_movedKept, o_v_names) → W p l e (headSpec wsX12_came rm_X12_came).room s m [.ref q_this, .int a_1, .int a_2, .int a_3, .int a_4].toArray below meth co H locs 0 0 (gQI D [(q_this, .inr (12, [.ref q_d, .ref q_kept, .int v_images, .ref q_found, .ref q_aside, .int o_v_base, .int o_v_at, .int o_v_size, .int o_v_fault, .int o_v_opened, .int o_v_isSeen, .ref q_names, .ref q_seenKept, .ref q_movedKept, .int v_isKeeping, .int v_bubbleMany, .int v_bubbleMost, .int v_bubbleCell, .int v_bestShown, .ref q_traced, .int v_traceMany, .int v_who, .ref q_bitsOf, .ref q_sizeOf, .ref q_number, .ref q_lifted])), (q_aside, .inl (c 0, 120, .inl o_v_aside)), (q_bitsOf, .inl (c 0, 4, .inl v_bitsOf)), (q_d, .inl (c 0, 244, .inl o_v_d)), (q_found, .inl (c 0, 6, .inl o_v_found)), (q_movedKept, .inl (c 0, 1000, .inl o_v_movedKept)), (q_names, .inl (c 0, 3, .inl o_v_names)), (q_number, .inl (c 0, 160, .inl v_number)), (q_sizeOf, .inl (c 0, 4, .inl v_sizeOf))] o_r A below [.ref q_this, .int a_1, .int a_2, .int a_3, .int a_4] s) (F0 m 145 ls []) := by
    intro  x5 x6 v_base v_at v_size v_fault v_opened v_isSeen v_aside v_d v_found v_movedKept v_names H locs hP hD hS ls hl h
    unfold f_X12_came_L145 at h
    refine lv_aload_n hx hb dX12_came_145 rfl (lv_at hl 0 rfl) ?_
    refine va_get (D := D) (ci := 12) (v := .ref q_d) (C := RX12) (T := TX12) (N := 26) hx hb hts in_X12_came_X12 hown hK.1 hP 0 rfl rfl 0 (by decide) (hts (.fieldLink RX12 7 "PaperBubblesModel" "d" "[I") (List.mem_of_getElem? (i := 3) rfl)) (fun _ h9 => h9) rfl dX12_came_146 ?_
    refine lv_bipush (v := 60) hx hb dX12_came_149 (by decide) ?_
    refine lv_iconst (v := 2) hx hb dX12_came_151 (by decide) ?_
    refine lv_iload_n hx hb dX12_came_152 rfl (lv_at hl 1 rfl) ?_
    refine lv_imul hx hb dX12_came_153 ?_
    refine lv_iadd hx hb dX12_came_154 ?_
    replace h := nm_ok h
    obtain ⟨t_48, et_48, h⟩ := h
    refine gTop et_48 ?_
    refine lv_iload hx hb dX12_came_155 (lv_at hl 2 rfl) ?_
    replace h := chi_ok h
    obtain ⟨hi_49, h⟩ := h
    replace h := nm_ok h
    obtain ⟨w_50, ew_50, h⟩ := h
    refine va_iast hx hb hK.1 hP hD hS 3 0 rfl rfl hi_49 dX12_came_157 (fun H locs hP hD hS => ?_)
    have hP : va_P D gcl [(q_this, .inr (12, [.ref q_d, .ref q_kept, .int v_images, .ref q_found, .ref q_aside, .int v_base, .int v_at, .int v_size, .int v_fault, .int v_opened, .int v_isSeen, .ref q_names, .ref q_seenKept, .ref q_movedKept, .int v_isKeeping, .int v_bubbleMany, .int v_bubbleMost, .int v_bubbleCell, .int v_bestShown, .ref q_traced, .int v_traceMany, .int v_who, .ref q_bitsOf, .ref q_sizeOf, .ref q_number, .ref q_lifted])), (q_aside, .inl (c 0, 120, .inl v_aside)), (q_bitsOf, .inl (c 0, 4, .inl v_bitsOf)), (q_d, .inl (c 0, 244, .inl w_50)), (q_found, .inl (c 0, 6, .inl v_found)), (q_movedKept, .inl (c 0, 1000, .inl v_movedKept)), (q_names, .inl (c 0, 3, .inl v_names)), (q_number, .inl (c 0, 160, .inl v_number)), (q_sizeOf, .inl (c 0, 4, .inl v_sizeOf))] H := by subst ew_50; exact hP
    have hD : va_D A [(q_this, .inr (12, [.ref q_d, .ref q_kept, .int v_images, .ref q_found, .ref q_aside, .int v_base, .int v_at, .int v_size, .int v_fault, .int v_opened, .int v_isSeen, .ref q_names, .ref q_seenKept, .ref q_movedKept, .int v_isKeeping, .int v_bubbleMany, .int v_bubbleMost, .int v_bubbleCell, .int v_bestShown, .ref q_traced, .int v_traceMany, .int v_who, .ref q_bitsOf, .ref q_sizeOf, .ref q_number, .ref q_lifted])), (q_aside, .inl (c 0, 120, .inl v_aside)), (q_bitsOf, .inl (c 0, 4, .inl v_bitsOf)), (q_d, .inl (c 0, 244, .inl w_50)), (q_found, .inl (c 0, 6, .inl v_found)), (q_movedKept, .inl (c 0, 1000, .inl v_movedKept)), (q_names, .inl (c 0, 3, .inl v_names)), (q_number, .inl (c 0, 160, .inl v_number)), (q_sizeOf, .inl (c 0, 4, .inl v_sizeOf))] := by subst ew_50; exact hD
    refine lv_iload hx hb dX12_came_158 (lv_at hl 3 rfl) ?_
    refine lv_if_ge (tgt := 171) hx hb dX12_came_160 (by decide) (fun c_51 => ?_) (fun c_51 => ?_)
    · replace h := it_t c_51 h
      refine lv_iload hx hb dX12_came_171 (lv_at hl 3 rfl) ?_
      replace h := so12 h
      obtain ⟨z0, z1, z2, z3, z4, z5, z6, z7, z8, z9, z10, z11⟩ := h
      subst z0 z1 z2 z3 z4 z5 z6 z7 z8 z9 z10 z11
      exact gIret hF hP hD hS rfl dX12_came_173
    · replace h := it_f c_51 h
      refine lv_aload_n hx hb dX12_came_163 rfl (lv_at hl 0 rfl) ?_
      refine lv_iconst (v := 2) hx hb dX12_came_164 (by decide) ?_
      replace h := kb2_ok h
      obtain ⟨r_53, w_54, hc_52, h⟩ := h
      refine gCallI (isC := [0, 4]) (wc := [(q_this, .inr (12, [.ref q_d, .ref q_kept, .int v_images, .ref q_found, .ref q_aside, .int v_base, .int v_at, .int v_size, .int v_fault, .int v_opened, .int v_isSeen, .ref q_names, .ref q_seenKept, .ref q_movedKept, .int v_isKeeping, .int v_bubbleMany, .int v_bubbleMost, .int v_bubbleCell, .int v_bestShown, .ref q_traced, .int v_traceMany, .int v_who, .ref q_bitsOf, .ref q_sizeOf, .ref q_number, .ref q_lifted])), (q_found, .inl (c 0, 6, .inl v_found))]) (w1 := [(q_this, .inr (12, [.ref q_d, .ref q_kept, .int v_images, .ref q_found, .ref q_aside, .int v_base, .int v_at, .int v_size, .int v_fault, .int v_opened, .int v_isSeen, .ref q_names, .ref q_seenKept, .ref q_movedKept, .int v_isKeeping, .int v_bubbleMany, .int v_bubbleMost, .int v_bubbleCell, .int v_bestShown, .ref q_traced, .int v_traceMany, .int v_who, .ref q_bitsOf, .ref q_sizeOf, .ref q_number, .ref q_lifted])), (q_found, .inl (c 0, 6, .inl w_54))]) (ws2 := [(q_this, .inr (12, [.ref q_d, .ref q_kept, .int v_images, .ref q_found, .ref q_aside, .int v_base, .int v_at, .int v_size, .int v_fault, .int v_opened, .int v_isSeen, .ref q_names, .ref q_seenKept, .ref q_movedKept, .int v_isKeeping, .int v_bubbleMany, .int v_bubbleMost, .int v_bubbleCell, .int v_bestShown, .ref q_traced, .int v_traceMany, .int v_who, .ref q_bitsOf, .ref q_sizeOf, .ref q_number, .ref q_lifted])), (q_aside, .inl (c 0, 120, .inl v_aside)), (q_bitsOf, .inl (c 0, 4, .inl v_bitsOf)), (q_d, .inl (c 0, 244, .inl w_50)), (q_found, .inl (c 0, 6, .inl w_54)), (q_movedKept, .inl (c 0, 1000, .inl v_movedKept)), (q_names, .inl (c 0, 3, .inl v_names)), (q_number, .inl (c 0, 160, .inl v_number)), (q_sizeOf, .inl (c 0, 4, .inl v_sizeOf))]) (ms := [(some 0), none, none, none, (some 1), none, none, none, none]) hP hD hS hA ⟨rfl, rfl, trivial⟩ (by decide +kernel) ⟨rfl, rfl, rfl, rfl, rfl, rfl, rfl, rfl, rfl, trivial⟩ (va_runV (rm := rm_X12_finds) (ws := wsX12_finds) (As := [.int 2]) (rest := []) (gFix hF) (c_X12_finds l D c q_this q_d q_kept q_found q_aside q_names q_seenKept q_movedKept q_traced q_bitsOf q_sizeOf q_number q_lifted 2 v_images v_base v_at v_size v_fault v_opened v_isSeen v_isKeeping v_bubbleMany v_bubbleMost v_bubbleCell v_bestShown v_traceMany v_who v_found r_53 w_54 hc_52 H.size) (cwV 1 hts gX12_came_X12_finds rfl rfl rfl (by decide +kernel) ⟨Nat.le_of_ble_eq_true rfl, Nat.le_of_ble_eq_true rfl⟩) (gPreV (wc := [(q_this, .inr (12, [.ref q_d, .ref q_kept, .int v_images, .ref q_found, .ref q_aside, .int v_base, .int v_at, .int v_size, .int v_fault, .int v_opened, .int v_isSeen, .ref q_names, .ref q_seenKept, .ref q_movedKept, .int v_isKeeping, .int v_bubbleMany, .int v_bubbleMost, .int v_bubbleCell, .int v_bestShown, .ref q_traced, .int v_traceMany, .int v_who, .ref q_bitsOf, .ref q_sizeOf, .ref q_number, .ref q_lifted])), (q_found, .inl (c 0, 6, .inl v_found))]) (q := (RX12, TX12, 26)) (ci := 12) (q0 := 0) (isC := [0, 4]) hK hX hS hA hP hD ⟨rfl, rfl, trivial⟩ (by decide +kernel) rfl rfl) rfl rfl hl.1 rfl (lv_room (Nat.le_of_ble_eq_true rfl)) dX12_came_165 ⟨Nat.le_of_ble_eq_true rfl, Nat.le_of_ble_eq_true rfl⟩) (fun H locs hP hD hS => ?_)
      refine lv_goto (tgt := 173) hx hb dX12_came_168 (by decide) ?_
      replace h := so12 h
      obtain ⟨z0, z1, z2, z3, z4, z5, z6, z7, z8, z9, z10, z11⟩ := h
      subst z0 z1 z2 z3 z4 z5 z6 z7 z8 z9 z10 z11
      exact gIret hF hP hD hS rfl dX12_came_173
  have t_L132 : ∀ (kk_L80 : Int32 → Int32 → Int32 → Int32 → Int32 → Int32 → Int32 → Int32 → Int32 → (Nat → Int32) → (Nat → Int32) → (Nat → Int32) → (Nat → Int32) → (Nat → Int32) → Option (Int32 × Int32 × Int32 × Int32 × Int32 × Int32 × Int32 × (Nat → Int32) × (Nat → Int32) × (Nat → Int32) × (Nat → Int32) × (Nat → Int32))), (∀ (x5 : Int32) (x6 : Int32) (x7 : Int32) (v_base : Int32) (v_at : Int32) (v_size : Int32) (v_fault : Int32) (v_opened : Int32) (v_isSeen : Int32) (v_aside : Nat → Int32) (v_d : Nat → Int32) (v_found : Nat → Int32) (v_movedKept : Nat → Int32) (v_names : Nat → Int32) (H : Heap) (locs : List Loc), va_P D gcl [(q_this, .inr (12, [.ref q_d, .ref q_kept, .int v_images, .ref q_found, .ref q_aside, .int v_base, .int v_at, .int v_size, .int v_fault, .int v_opened, .int v_isSeen, .ref q_names, .ref q_seenKept, .ref q_movedKept, .int v_isKeeping, .int v_bubbleMany, .int v_bubbleMost, .int v_bubbleCell, .int v_bestShown, .ref q_traced, .int v_traceMany, .int v_who, .ref q_bitsOf, .ref q_sizeOf, .ref q_number, .ref q_lifted])), (q_aside, .inl (c 0, 120, .inl v_aside)), (q_bitsOf, .inl (c 0, 4, .inl v_bitsOf)), (q_d, .inl (c 0, 244, .inl v_d)), (q_found, .inl (c 0, 6, .inl v_found)), (q_movedKept, .inl (c 0, 1000, .inl v_movedKept)), (q_names, .inl (c 0, 3, .inl v_names)), (q_number, .inl (c 0, 160, .inl v_number)), (q_sizeOf, .inl (c 0, 4, .inl v_sizeOf))] H → va_D A [(q_this, .inr (12, [.ref q_d, .ref q_kept, .int v_images, .ref q_found, .ref q_aside, .int v_base, .int v_at, .int v_size, .int v_fault, .int v_opened, .int v_isSeen, .ref q_names, .ref q_seenKept, .ref q_movedKept, .int v_isKeeping, .int v_bubbleMany, .int v_bubbleMost, .int v_bubbleCell, .int v_bestShown, .ref q_traced, .int v_traceMany, .int v_who, .ref q_bitsOf, .ref q_sizeOf, .ref q_number, .ref q_lifted])), (q_aside, .inl (c 0, 120, .inl v_aside)), (q_bitsOf, .inl (c 0, 4, .inl v_bitsOf)), (q_d, .inl (c 0, 244, .inl v_d)), (q_found, .inl (c 0, 6, .inl v_found)), (q_movedKept, .inl (c 0, 1000, .inl v_movedKept)), (q_names, .inl (c 0, 3, .inl v_names)), (q_number, .inl (c 0, 160, .inl v_number)), (q_sizeOf, .inl (c 0, 4, .inl v_sizeOf))] → va_S A s.heap H locs → ∀ ls, lv_has ls 8 [(0, .ref q_this), (1, .int a_1), (2, .int a_2), (3, .int a_3), (4, .int a_4), (5, .int x5), (6, .int x6), (7, .int x7)] → kk_L80 x5 x6 x7 v_base v_at v_size v_fault v_opened v_isSeen v_aside v_d v_found v_movedKept v_names = some (o_r, o_v_base, o_v_at, o_v_size, o_v_fault, o_v_opened, o_v_isSeen, o_v_aside, o_v_d, o_v_found, o_v_movedKept, o_v_names) → W p l e (headSpec wsX12_came rm_X12_came).room s m [.ref q_this, .int a_1, .int a_2, .int a_3, .int a_4].toArray below meth co H locs 0 0 (gQI D [(q_this, .inr (12, [.ref q_d, .ref q_kept, .int v_images, .ref q_found, .ref q_aside, .int o_v_base, .int o_v_at, .int o_v_size, .int o_v_fault, .int o_v_opened, .int o_v_isSeen, .ref q_names, .ref q_seenKept, .ref q_movedKept, .int v_isKeeping, .int v_bubbleMany, .int v_bubbleMost, .int v_bubbleCell, .int v_bestShown, .ref q_traced, .int v_traceMany, .int v_who, .ref q_bitsOf, .ref q_sizeOf, .ref q_number, .ref q_lifted])), (q_aside, .inl (c 0, 120, .inl o_v_aside)), (q_bitsOf, .inl (c 0, 4, .inl v_bitsOf)), (q_d, .inl (c 0, 244, .inl o_v_d)), (q_found, .inl (c 0, 6, .inl o_v_found)), (q_movedKept, .inl (c 0, 1000, .inl o_v_movedKept)), (q_names, .inl (c 0, 3, .inl o_v_names)), (q_number, .inl (c 0, 160, .inl v_number)), (q_sizeOf, .inl (c 0, 4, .inl v_sizeOf))] o_r A below [.ref q_this, .int a_1, .int a_2, .int a_3, .int a_4] s) (F0 m 80 ls [])) → ∀ (x5 : Int32) (x7 : Int32) (y0 : Int32) (v_base : Int32) (v_at : Int32) (v_size : Int32) (v_fault : Int32) (v_opened : Int32) (v_isSeen : Int32) (v_aside : Nat → Int32) (v_d : Nat → Int32) (v_found : Nat → Int32) (v_movedKept : Nat → Int32) (v_names : Nat → Int32) (H : Heap) (locs : List Loc), va_P D gcl [(q_this, .inr (12, [.ref q_d, .ref q_kept, .int v_images, .ref q_found, .ref q_aside, .int v_base, .int v_at, .int v_size, .int v_fault, .int v_opened, .int v_isSeen, .ref q_names, .ref q_seenKept, .ref q_movedKept, .int v_isKeeping, .int v_bubbleMany, .int v_bubbleMost, .int v_bubbleCell, .int v_bestShown, .ref q_traced, .int v_traceMany, .int v_who, .ref q_bitsOf, .ref q_sizeOf, .ref q_number, .ref q_lifted])), (q_aside, .inl (c 0, 120, .inl v_aside)), (q_bitsOf, .inl (c 0, 4, .inl v_bitsOf)), (q_d, .inl (c 0, 244, .inl v_d)), (q_found, .inl (c 0, 6, .inl v_found)), (q_movedKept, .inl (c 0, 1000, .inl v_movedKept)), (q_names, .inl (c 0, 3, .inl v_names)), (q_number, .inl (c 0, 160, .inl v_number)), (q_sizeOf, .inl (c 0, 4, .inl v_sizeOf))] H → va_D A [(q_this, .inr (12, [.ref q_d, .ref q_kept, .int v_images, .ref q_found, .ref q_aside, .int v_base, .int v_at, .int v_size, .int v_fault, .int v_opened, .int v_isSeen, .ref q_names, .ref q_seenKept, .ref q_movedKept, .int v_isKeeping, .int v_bubbleMany, .int v_bubbleMost, .int v_bubbleCell, .int v_bestShown, .ref q_traced, .int v_traceMany, .int v_who, .ref q_bitsOf, .ref q_sizeOf, .ref q_number, .ref q_lifted])), (q_aside, .inl (c 0, 120, .inl v_aside)), (q_bitsOf, .inl (c 0, 4, .inl v_bitsOf)), (q_d, .inl (c 0, 244, .inl v_d)), (q_found, .inl (c 0, 6, .inl v_found)), (q_movedKept, .inl (c 0, 1000, .inl v_movedKept)), (q_names, .inl (c 0, 3, .inl v_names)), (q_number, .inl (c 0, 160, .inl v_number)), (q_sizeOf, .inl (c 0, 4, .inl v_sizeOf))] → va_S A s.heap H locs → ∀ ls, lv_has ls 8 [(0, .ref q_this), (1, .int a_1), (2, .int a_2), (3, .int a_3), (4, .int a_4), (5, .int x5), (7, .int x7)] → f_X12_came_L132 kk_L80 a_1 a_2 a_3 a_4 v_isKeeping v_number x5 x7 y0 v_base v_at v_size v_fault v_opened v_isSeen v_aside v_d v_found v_movedKept v_names = some (o_r, o_v_base, o_v_at, o_v_size, o_v_fault, o_v_opened, o_v_isSeen, o_v_aside, o_v_d, o_v_found, o_v_movedKept, o_v_names) → W p l e (headSpec wsX12_came rm_X12_came).room s m [.ref q_this, .int a_1, .int a_2, .int a_3, .int a_4].toArray below meth co H locs 0 0 (gQI D [(q_this, .inr (12, [.ref q_d, .ref q_kept, .int v_images, .ref q_found, .ref q_aside, .int o_v_base, .int o_v_at, .int o_v_size, .int o_v_fault, .int o_v_opened, .int o_v_isSeen, .ref q_names, .ref q_seenKept, .ref q_movedKept, .int v_isKeeping, .int v_bubbleMany, .int v_bubbleMost, .int v_bubbleCell, .int v_bestShown, .ref q_traced, .int v_traceMany, .int v_who, .ref q_bitsOf, .ref q_sizeOf, .ref q_number, .ref q_lifted])), (q_aside, .inl (c 0, 120, .inl o_v_aside)), (q_bitsOf, .inl (c 0, 4, .inl v_bitsOf)), (q_d, .inl (c 0, 244, .inl o_v_d)), (q_found, .inl (c 0, 6, .inl o_v_found)), (q_movedKept, .inl (c 0, 1000, .inl o_v_movedKept)), (q_names, .inl (c 0, 3, .inl o_v_names)), (q_number, .inl (c 0, 160, .inl v_number)), (q_sizeOf, .inl (c 0, 4, .inl v_sizeOf))] o_r A below [.ref q_this, .int a_1, .int a_2, .int a_3, .int a_4] s) (F0 m 132 ls [.int y0]) := by
    intro kk_L80 hkk_L80 x5 x7 y0 v_base v_at v_size v_fault v_opened v_isSeen v_aside v_d v_found v_movedKept v_names H locs hP hD hS ls hl h
    unfold f_X12_came_L132 at h
    refine lv_istore (lv' := [(6, .int y0), (0, .ref q_this), (1, .int a_1), (2, .int a_2), (3, .int a_3), (4, .int a_4), (5, .int x5), (7, .int x7)]) hx hb dX12_came_132 hl (by decide) rfl (fun ls hl => ?_)
    refine lv_aload_n hx hb dX12_came_134 rfl (lv_at hl 1 rfl) ?_
    refine lv_iconst (v := 0) hx hb dX12_came_135 (by decide) ?_
    replace h := kb_ok h
    obtain ⟨w_56, hc_55, h⟩ := h
    refine gCallV (isC := [0, 1, 3]) (wc := [(q_this, .inr (12, [.ref q_d, .ref q_kept, .int v_images, .ref q_found, .ref q_aside, .int v_base, .int v_at, .int v_size, .int v_fault, .int v_opened, .int v_isSeen, .ref q_names, .ref q_seenKept, .ref q_movedKept, .int v_isKeeping, .int v_bubbleMany, .int v_bubbleMost, .int v_bubbleCell, .int v_bestShown, .ref q_traced, .int v_traceMany, .int v_who, .ref q_bitsOf, .ref q_sizeOf, .ref q_number, .ref q_lifted])), (q_aside, .inl (c 0, 120, .inl v_aside)), (q_d, .inl (c 0, 244, .inl v_d))]) (w1 := [(q_this, .inr (12, [.ref q_d, .ref q_kept, .int v_images, .ref q_found, .ref q_aside, .int v_base, .int v_at, .int v_size, .int v_fault, .int v_opened, .int v_isSeen, .ref q_names, .ref q_seenKept, .ref q_movedKept, .int v_isKeeping, .int v_bubbleMany, .int v_bubbleMost, .int v_bubbleCell, .int v_bestShown, .ref q_traced, .int v_traceMany, .int v_who, .ref q_bitsOf, .ref q_sizeOf, .ref q_number, .ref q_lifted])), (q_aside, .inl (c 0, 120, .inl v_aside)), (q_d, .inl (c 0, 244, .inl w_56))]) (ws2 := [(q_this, .inr (12, [.ref q_d, .ref q_kept, .int v_images, .ref q_found, .ref q_aside, .int v_base, .int v_at, .int v_size, .int v_fault, .int v_opened, .int v_isSeen, .ref q_names, .ref q_seenKept, .ref q_movedKept, .int v_isKeeping, .int v_bubbleMany, .int v_bubbleMost, .int v_bubbleCell, .int v_bestShown, .ref q_traced, .int v_traceMany, .int v_who, .ref q_bitsOf, .ref q_sizeOf, .ref q_number, .ref q_lifted])), (q_aside, .inl (c 0, 120, .inl v_aside)), (q_bitsOf, .inl (c 0, 4, .inl v_bitsOf)), (q_d, .inl (c 0, 244, .inl w_56)), (q_found, .inl (c 0, 6, .inl v_found)), (q_movedKept, .inl (c 0, 1000, .inl v_movedKept)), (q_names, .inl (c 0, 3, .inl v_names)), (q_number, .inl (c 0, 160, .inl v_number)), (q_sizeOf, .inl (c 0, 4, .inl v_sizeOf))]) (ms := [(some 0), (some 1), none, (some 2), none, none, none, none, none]) hP hD hS hA ⟨rfl, rfl, rfl, trivial⟩ (by decide +kernel) ⟨rfl, rfl, rfl, rfl, rfl, rfl, rfl, rfl, rfl, trivial⟩ (va_runV (rm := rm_X12_putBack) (ws := wsX12_putBack) (As := [.int 0]) (rest := []) (gFix hF) (c_X12_putBack l D c q_this q_d q_kept q_found q_aside q_names q_seenKept q_movedKept q_traced q_bitsOf q_sizeOf q_number q_lifted 0 v_images v_base v_at v_size v_fault v_opened v_isSeen v_isKeeping v_bubbleMany v_bubbleMost v_bubbleCell v_bestShown v_traceMany v_who v_aside v_d w_56 hc_55 H.size) (cwV 1 hts gX12_came_X12_putBack rfl rfl rfl (by decide +kernel) ⟨Nat.le_of_ble_eq_true rfl, Nat.le_of_ble_eq_true rfl⟩) (gPreV (wc := [(q_this, .inr (12, [.ref q_d, .ref q_kept, .int v_images, .ref q_found, .ref q_aside, .int v_base, .int v_at, .int v_size, .int v_fault, .int v_opened, .int v_isSeen, .ref q_names, .ref q_seenKept, .ref q_movedKept, .int v_isKeeping, .int v_bubbleMany, .int v_bubbleMost, .int v_bubbleCell, .int v_bestShown, .ref q_traced, .int v_traceMany, .int v_who, .ref q_bitsOf, .ref q_sizeOf, .ref q_number, .ref q_lifted])), (q_aside, .inl (c 0, 120, .inl v_aside)), (q_d, .inl (c 0, 244, .inl v_d))]) (q := (RX12, TX12, 26)) (ci := 12) (q0 := 0) (isC := [0, 1, 3]) hK hX hS hA hP hD ⟨rfl, rfl, rfl, trivial⟩ (by decide +kernel) rfl rfl) rfl rfl hl.1 rfl (lv_room (Nat.le_of_ble_eq_true rfl)) dX12_came_136 ⟨Nat.le_of_ble_eq_true rfl, Nat.le_of_ble_eq_true rfl⟩) (fun H locs hP hD hS => ?_)
    replace h := nm_ok h
    obtain ⟨t_57, et_57, h⟩ := h
    refine lv_iinc (v := t_57) (lv' := [(7, .int t_57), (6, .int y0), (0, .ref q_this), (1, .int a_1), (2, .int a_2), (3, .int a_3), (4, .int a_4), (5, .int x5)]) hx hb dX12_came_139 hl (k := 7) rfl (by rw [et_57]; rfl) (by decide) rfl (fun ls hl => ?_)
    refine lv_goto (tgt := 80) hx hb dX12_came_142 (by decide) ?_
    exact hkk_L80 x5 y0 t_57 v_base v_at v_size v_fault v_opened v_isSeen v_aside w_56 v_found v_movedKept v_names H locs hP hD hS ls (lv_sub hl [2, 3, 4, 5, 6, 7, 1, 0] rfl) h
  have t_L80 : ∀ (n : Nat), ∀ (x5 : Int32) (x6 : Int32) (x7 : Int32) (v_base : Int32) (v_at : Int32) (v_size : Int32) (v_fault : Int32) (v_opened : Int32) (v_isSeen : Int32) (v_aside : Nat → Int32) (v_d : Nat → Int32) (v_found : Nat → Int32) (v_movedKept : Nat → Int32) (v_names : Nat → Int32) (H : Heap) (locs : List Loc), va_P D gcl [(q_this, .inr (12, [.ref q_d, .ref q_kept, .int v_images, .ref q_found, .ref q_aside, .int v_base, .int v_at, .int v_size, .int v_fault, .int v_opened, .int v_isSeen, .ref q_names, .ref q_seenKept, .ref q_movedKept, .int v_isKeeping, .int v_bubbleMany, .int v_bubbleMost, .int v_bubbleCell, .int v_bestShown, .ref q_traced, .int v_traceMany, .int v_who, .ref q_bitsOf, .ref q_sizeOf, .ref q_number, .ref q_lifted])), (q_aside, .inl (c 0, 120, .inl v_aside)), (q_bitsOf, .inl (c 0, 4, .inl v_bitsOf)), (q_d, .inl (c 0, 244, .inl v_d)), (q_found, .inl (c 0, 6, .inl v_found)), (q_movedKept, .inl (c 0, 1000, .inl v_movedKept)), (q_names, .inl (c 0, 3, .inl v_names)), (q_number, .inl (c 0, 160, .inl v_number)), (q_sizeOf, .inl (c 0, 4, .inl v_sizeOf))] H → va_D A [(q_this, .inr (12, [.ref q_d, .ref q_kept, .int v_images, .ref q_found, .ref q_aside, .int v_base, .int v_at, .int v_size, .int v_fault, .int v_opened, .int v_isSeen, .ref q_names, .ref q_seenKept, .ref q_movedKept, .int v_isKeeping, .int v_bubbleMany, .int v_bubbleMost, .int v_bubbleCell, .int v_bestShown, .ref q_traced, .int v_traceMany, .int v_who, .ref q_bitsOf, .ref q_sizeOf, .ref q_number, .ref q_lifted])), (q_aside, .inl (c 0, 120, .inl v_aside)), (q_bitsOf, .inl (c 0, 4, .inl v_bitsOf)), (q_d, .inl (c 0, 244, .inl v_d)), (q_found, .inl (c 0, 6, .inl v_found)), (q_movedKept, .inl (c 0, 1000, .inl v_movedKept)), (q_names, .inl (c 0, 3, .inl v_names)), (q_number, .inl (c 0, 160, .inl v_number)), (q_sizeOf, .inl (c 0, 4, .inl v_sizeOf))] → va_S A s.heap H locs → ∀ ls, lv_has ls 8 [(0, .ref q_this), (1, .int a_1), (2, .int a_2), (3, .int a_3), (4, .int a_4), (5, .int x5), (6, .int x6), (7, .int x7)] → f_X12_came_L80 a_1 a_2 a_3 a_4 v_isKeeping v_number n x5 x6 x7 v_base v_at v_size v_fault v_opened v_isSeen v_aside v_d v_found v_movedKept v_names = some (o_r, o_v_base, o_v_at, o_v_size, o_v_fault, o_v_opened, o_v_isSeen, o_v_aside, o_v_d, o_v_found, o_v_movedKept, o_v_names) → W p l e (headSpec wsX12_came rm_X12_came).room s m [.ref q_this, .int a_1, .int a_2, .int a_3, .int a_4].toArray below meth co H locs 0 0 (gQI D [(q_this, .inr (12, [.ref q_d, .ref q_kept, .int v_images, .ref q_found, .ref q_aside, .int o_v_base, .int o_v_at, .int o_v_size, .int o_v_fault, .int o_v_opened, .int o_v_isSeen, .ref q_names, .ref q_seenKept, .ref q_movedKept, .int v_isKeeping, .int v_bubbleMany, .int v_bubbleMost, .int v_bubbleCell, .int v_bestShown, .ref q_traced, .int v_traceMany, .int v_who, .ref q_bitsOf, .ref q_sizeOf, .ref q_number, .ref q_lifted])), (q_aside, .inl (c 0, 120, .inl o_v_aside)), (q_bitsOf, .inl (c 0, 4, .inl v_bitsOf)), (q_d, .inl (c 0, 244, .inl o_v_d)), (q_found, .inl (c 0, 6, .inl o_v_found)), (q_movedKept, .inl (c 0, 1000, .inl o_v_movedKept)), (q_names, .inl (c 0, 3, .inl o_v_names)), (q_number, .inl (c 0, 160, .inl v_number)), (q_sizeOf, .inl (c 0, 4, .inl v_sizeOf))] o_r A below [.ref q_this, .int a_1, .int a_2, .int a_3, .int a_4] s) (F0 m 80 ls []) := by
    intro n
    induction n with
    | zero => intro x5 x6 x7 v_base v_at v_size v_fault v_opened v_isSeen v_aside v_d v_found v_movedKept v_names H locs hP hD hS ls hl h; exact no_ok h
    | succ n ih =>
      intro x5 x6 x7 v_base v_at v_size v_fault v_opened v_isSeen v_aside v_d v_found v_movedKept v_names H locs hP hD hS ls hl h
      rw [f_X12_came_L80] at h
      refine lv_iload hx hb dX12_came_80 (lv_at hl 7 rfl) ?_
      refine lv_bipush (v := 6) hx hb dX12_came_82 (by decide) ?_
      refine lv_icmp_gt (tgt := 145) hx hb dX12_came_84 (by decide) (fun c_28 => ?_) (fun c_28 => ?_)
      · replace h := it_t c_28 h
        exact t_L145 x5 x6 v_base v_at v_size v_fault v_opened v_isSeen v_aside v_d v_found v_movedKept v_names H locs hP hD hS ls (lv_sub hl [0, 1, 5, 6] rfl) h
      · replace h := it_f c_28 h
        refine lv_iload hx hb dX12_came_87 (lv_at hl 6 rfl) ?_
        refine lv_if_ge (tgt := 145) hx hb dX12_came_89 (by decide) (fun c_29 => ?_) (fun c_29 => ?_)
        · replace h := it_t c_29 h
          exact t_L145 x5 x6 v_base v_at v_size v_fault v_opened v_isSeen v_aside v_d v_found v_movedKept v_names H locs hP hD hS ls (lv_sub hl [0, 1, 5, 6] rfl) h
        · replace h := it_f c_29 h
          refine lv_aload_n hx hb dX12_came_92 rfl (lv_at hl 0 rfl) ?_
          refine va_get (D := D) (ci := 12) (v := .ref q_d) (C := RX12) (T := TX12) (N := 26) hx hb hts in_X12_came_X12 hown hK.1 hP 0 rfl rfl 0 (by decide) (hts (.fieldLink RX12 7 "PaperBubblesModel" "d" "[I") (List.mem_of_getElem? (i := 3) rfl)) (fun _ h9 => h9) rfl dX12_came_93 ?_
          refine lv_bipush (v := 60) hx hb dX12_came_96 (by decide) ?_
          refine lv_iconst (v := 2) hx hb dX12_came_98 (by decide) ?_
          refine lv_iload_n hx hb dX12_came_99 rfl (lv_at hl 1 rfl) ?_
          refine lv_imul hx hb dX12_came_100 ?_
          refine lv_iadd hx hb dX12_came_101 ?_
          replace h := nm_ok h
          obtain ⟨t_30, et_30, h⟩ := h
          refine gTop et_30 ?_
          refine lv_iload hx hb dX12_came_102 (lv_at hl 7 rfl) ?_
          replace h := chi_ok h
          obtain ⟨hi_31, h⟩ := h
          replace h := nm_ok h
          obtain ⟨w_32, ew_32, h⟩ := h
          refine va_iast hx hb hK.1 hP hD hS 3 0 rfl rfl hi_31 dX12_came_104 (fun H locs hP hD hS => ?_)
          have hP : va_P D gcl [(q_this, .inr (12, [.ref q_d, .ref q_kept, .int v_images, .ref q_found, .ref q_aside, .int v_base, .int v_at, .int v_size, .int v_fault, .int v_opened, .int v_isSeen, .ref q_names, .ref q_seenKept, .ref q_movedKept, .int v_isKeeping, .int v_bubbleMany, .int v_bubbleMost, .int v_bubbleCell, .int v_bestShown, .ref q_traced, .int v_traceMany, .int v_who, .ref q_bitsOf, .ref q_sizeOf, .ref q_number, .ref q_lifted])), (q_aside, .inl (c 0, 120, .inl v_aside)), (q_bitsOf, .inl (c 0, 4, .inl v_bitsOf)), (q_d, .inl (c 0, 244, .inl w_32)), (q_found, .inl (c 0, 6, .inl v_found)), (q_movedKept, .inl (c 0, 1000, .inl v_movedKept)), (q_names, .inl (c 0, 3, .inl v_names)), (q_number, .inl (c 0, 160, .inl v_number)), (q_sizeOf, .inl (c 0, 4, .inl v_sizeOf))] H := by subst ew_32; exact hP
          have hD : va_D A [(q_this, .inr (12, [.ref q_d, .ref q_kept, .int v_images, .ref q_found, .ref q_aside, .int v_base, .int v_at, .int v_size, .int v_fault, .int v_opened, .int v_isSeen, .ref q_names, .ref q_seenKept, .ref q_movedKept, .int v_isKeeping, .int v_bubbleMany, .int v_bubbleMost, .int v_bubbleCell, .int v_bestShown, .ref q_traced, .int v_traceMany, .int v_who, .ref q_bitsOf, .ref q_sizeOf, .ref q_number, .ref q_lifted])), (q_aside, .inl (c 0, 120, .inl v_aside)), (q_bitsOf, .inl (c 0, 4, .inl v_bitsOf)), (q_d, .inl (c 0, 244, .inl w_32)), (q_found, .inl (c 0, 6, .inl v_found)), (q_movedKept, .inl (c 0, 1000, .inl v_movedKept)), (q_names, .inl (c 0, 3, .inl v_names)), (q_number, .inl (c 0, 160, .inl v_number)), (q_sizeOf, .inl (c 0, 4, .inl v_sizeOf))] := by subst ew_32; exact hD
          refine lv_aload_n hx hb dX12_came_105 rfl (lv_at hl 0 rfl) ?_
          refine lv_iconst (v := 0) hx hb dX12_came_106 (by decide) ?_
          replace h := kb_ok h
          obtain ⟨w_34, hc_33, h⟩ := h
          refine gCallV (isC := [0, 1, 3]) (wc := [(q_this, .inr (12, [.ref q_d, .ref q_kept, .int v_images, .ref q_found, .ref q_aside, .int v_base, .int v_at, .int v_size, .int v_fault, .int v_opened, .int v_isSeen, .ref q_names, .ref q_seenKept, .ref q_movedKept, .int v_isKeeping, .int v_bubbleMany, .int v_bubbleMost, .int v_bubbleCell, .int v_bestShown, .ref q_traced, .int v_traceMany, .int v_who, .ref q_bitsOf, .ref q_sizeOf, .ref q_number, .ref q_lifted])), (q_aside, .inl (c 0, 120, .inl v_aside)), (q_d, .inl (c 0, 244, .inl w_32))]) (w1 := [(q_this, .inr (12, [.ref q_d, .ref q_kept, .int v_images, .ref q_found, .ref q_aside, .int v_base, .int v_at, .int v_size, .int v_fault, .int v_opened, .int v_isSeen, .ref q_names, .ref q_seenKept, .ref q_movedKept, .int v_isKeeping, .int v_bubbleMany, .int v_bubbleMost, .int v_bubbleCell, .int v_bestShown, .ref q_traced, .int v_traceMany, .int v_who, .ref q_bitsOf, .ref q_sizeOf, .ref q_number, .ref q_lifted])), (q_aside, .inl (c 0, 120, .inl w_34)), (q_d, .inl (c 0, 244, .inl w_32))]) (ws2 := [(q_this, .inr (12, [.ref q_d, .ref q_kept, .int v_images, .ref q_found, .ref q_aside, .int v_base, .int v_at, .int v_size, .int v_fault, .int v_opened, .int v_isSeen, .ref q_names, .ref q_seenKept, .ref q_movedKept, .int v_isKeeping, .int v_bubbleMany, .int v_bubbleMost, .int v_bubbleCell, .int v_bestShown, .ref q_traced, .int v_traceMany, .int v_who, .ref q_bitsOf, .ref q_sizeOf, .ref q_number, .ref q_lifted])), (q_aside, .inl (c 0, 120, .inl w_34)), (q_bitsOf, .inl (c 0, 4, .inl v_bitsOf)), (q_d, .inl (c 0, 244, .inl w_32)), (q_found, .inl (c 0, 6, .inl v_found)), (q_movedKept, .inl (c 0, 1000, .inl v_movedKept)), (q_names, .inl (c 0, 3, .inl v_names)), (q_number, .inl (c 0, 160, .inl v_number)), (q_sizeOf, .inl (c 0, 4, .inl v_sizeOf))]) (ms := [(some 0), (some 1), none, (some 2), none, none, none, none, none]) hP hD hS hA ⟨rfl, rfl, rfl, trivial⟩ (by decide +kernel) ⟨rfl, rfl, rfl, rfl, rfl, rfl, rfl, rfl, rfl, trivial⟩ (va_runV (rm := rm_X12_keepAside) (ws := wsX12_keepAside) (As := [.int 0]) (rest := []) (gFix hF) (c_X12_keepAside l D c q_this q_d q_kept q_found q_aside q_names q_seenKept q_movedKept q_traced q_bitsOf q_sizeOf q_number q_lifted 0 v_images v_base v_at v_size v_fault v_opened v_isSeen v_isKeeping v_bubbleMany v_bubbleMost v_bubbleCell v_bestShown v_traceMany v_who v_aside w_32 w_34 hc_33 H.size) (cwV 1 hts gX12_came_X12_keepAside rfl rfl rfl (by decide +kernel) ⟨Nat.le_of_ble_eq_true rfl, Nat.le_of_ble_eq_true rfl⟩) (gPreV (wc := [(q_this, .inr (12, [.ref q_d, .ref q_kept, .int v_images, .ref q_found, .ref q_aside, .int v_base, .int v_at, .int v_size, .int v_fault, .int v_opened, .int v_isSeen, .ref q_names, .ref q_seenKept, .ref q_movedKept, .int v_isKeeping, .int v_bubbleMany, .int v_bubbleMost, .int v_bubbleCell, .int v_bestShown, .ref q_traced, .int v_traceMany, .int v_who, .ref q_bitsOf, .ref q_sizeOf, .ref q_number, .ref q_lifted])), (q_aside, .inl (c 0, 120, .inl v_aside)), (q_d, .inl (c 0, 244, .inl w_32))]) (q := (RX12, TX12, 26)) (ci := 12) (q0 := 0) (isC := [0, 1, 3]) hK hX hS hA hP hD ⟨rfl, rfl, rfl, trivial⟩ (by decide +kernel) rfl rfl) rfl rfl hl.1 rfl (lv_room (Nat.le_of_ble_eq_true rfl)) dX12_came_107 ⟨Nat.le_of_ble_eq_true rfl, Nat.le_of_ble_eq_true rfl⟩) (fun H locs hP hD hS => ?_)
          refine lv_aload_n hx hb dX12_came_110 rfl (lv_at hl 0 rfl) ?_
          refine lv_iload_n hx hb dX12_came_111 rfl (lv_at hl 1 rfl) ?_
          refine lv_iload_n hx hb dX12_came_112 rfl (lv_at hl 2 rfl) ?_
          refine lv_iload_n hx hb dX12_came_113 rfl (lv_at hl 3 rfl) ?_
          replace h := kb9_ok h
          obtain ⟨w_36, w_37, w_38, w_39, w_40, w_41, w_42, w_43, w_44, hc_35, h⟩ := h
          refine gCallV (isC := [0, 3, 5, 6]) (wc := [(q_this, .inr (12, [.ref q_d, .ref q_kept, .int v_images, .ref q_found, .ref q_aside, .int v_base, .int v_at, .int v_size, .int v_fault, .int v_opened, .int v_isSeen, .ref q_names, .ref q_seenKept, .ref q_movedKept, .int v_isKeeping, .int v_bubbleMany, .int v_bubbleMost, .int v_bubbleCell, .int v_bestShown, .ref q_traced, .int v_traceMany, .int v_who, .ref q_bitsOf, .ref q_sizeOf, .ref q_number, .ref q_lifted])), (q_d, .inl (c 0, 244, .inl w_32)), (q_movedKept, .inl (c 0, 1000, .inl v_movedKept)), (q_names, .inl (c 0, 3, .inl v_names))]) (w1 := [(q_this, .inr (12, [.ref q_d, .ref q_kept, .int v_images, .ref q_found, .ref q_aside, .int w_36, .int w_37, .int w_38, .int w_39, .int w_40, .int w_41, .ref q_names, .ref q_seenKept, .ref q_movedKept, .int v_isKeeping, .int v_bubbleMany, .int v_bubbleMost, .int v_bubbleCell, .int v_bestShown, .ref q_traced, .int v_traceMany, .int v_who, .ref q_bitsOf, .ref q_sizeOf, .ref q_number, .ref q_lifted])), (q_d, .inl (c 0, 244, .inl w_42)), (q_movedKept, .inl (c 0, 1000, .inl w_43)), (q_names, .inl (c 0, 3, .inl w_44))]) (ws2 := [(q_this, .inr (12, [.ref q_d, .ref q_kept, .int v_images, .ref q_found, .ref q_aside, .int w_36, .int w_37, .int w_38, .int w_39, .int w_40, .int w_41, .ref q_names, .ref q_seenKept, .ref q_movedKept, .int v_isKeeping, .int v_bubbleMany, .int v_bubbleMost, .int v_bubbleCell, .int v_bestShown, .ref q_traced, .int v_traceMany, .int v_who, .ref q_bitsOf, .ref q_sizeOf, .ref q_number, .ref q_lifted])), (q_aside, .inl (c 0, 120, .inl w_34)), (q_bitsOf, .inl (c 0, 4, .inl v_bitsOf)), (q_d, .inl (c 0, 244, .inl w_42)), (q_found, .inl (c 0, 6, .inl v_found)), (q_movedKept, .inl (c 0, 1000, .inl w_43)), (q_names, .inl (c 0, 3, .inl w_44)), (q_number, .inl (c 0, 160, .inl v_number)), (q_sizeOf, .inl (c 0, 4, .inl v_sizeOf))]) (ms := [(some 0), none, none, (some 1), none, (some 2), (some 3), none, none]) hP hD hS hA ⟨rfl, rfl, rfl, rfl, trivial⟩ (by decide +kernel) ⟨rfl, rfl, rfl, rfl, rfl, rfl, rfl, rfl, rfl, trivial⟩ (va_runV (rm := rm_X12_strokes) (ws := wsX12_strokes) (As := [.int a_1, .int a_2, .int a_3]) (rest := []) (gFix hF) (c_X12_strokes l D c q_this q_d q_kept q_found q_aside q_names q_seenKept q_movedKept q_traced q_bitsOf q_sizeOf q_number q_lifted a_1 a_2 a_3 v_images v_base v_at v_size v_fault v_opened v_isSeen v_isKeeping v_bubbleMany v_bubbleMost v_bubbleCell v_bestShown v_traceMany v_who w_32 v_movedKept v_names w_36 w_37 w_38 w_39 w_40 w_41 w_42 w_43 w_44 hc_35 H.size) (cwV 3 hts gX12_came_X12_strokes rfl rfl rfl (by decide +kernel) ⟨Nat.le_of_ble_eq_true rfl, Nat.le_of_ble_eq_true rfl⟩) (gPreV (wc := [(q_this, .inr (12, [.ref q_d, .ref q_kept, .int v_images, .ref q_found, .ref q_aside, .int v_base, .int v_at, .int v_size, .int v_fault, .int v_opened, .int v_isSeen, .ref q_names, .ref q_seenKept, .ref q_movedKept, .int v_isKeeping, .int v_bubbleMany, .int v_bubbleMost, .int v_bubbleCell, .int v_bestShown, .ref q_traced, .int v_traceMany, .int v_who, .ref q_bitsOf, .ref q_sizeOf, .ref q_number, .ref q_lifted])), (q_d, .inl (c 0, 244, .inl w_32)), (q_movedKept, .inl (c 0, 1000, .inl v_movedKept)), (q_names, .inl (c 0, 3, .inl v_names))]) (q := (RX12, TX12, 26)) (ci := 12) (q0 := 0) (isC := [0, 3, 5, 6]) hK hX hS hA hP hD ⟨rfl, rfl, rfl, rfl, trivial⟩ (by decide +kernel) rfl rfl) rfl rfl hl.1 rfl (lv_room (Nat.le_of_ble_eq_true rfl)) dX12_came_114 ⟨Nat.le_of_ble_eq_true rfl, Nat.le_of_ble_eq_true rfl⟩) (fun H locs hP hD hS => ?_)
          refine lv_aload_n hx hb dX12_came_117 rfl (lv_at hl 0 rfl) ?_
          refine lv_iload hx hb dX12_came_118 (lv_at hl 4 rfl) ?_
          replace h := kb_ok h
          obtain ⟨r_46, hc_45, h⟩ := h
          refine gCallIr (isC := [0, 3, 7]) (wc := [(q_this, .inr (12, [.ref q_d, .ref q_kept, .int v_images, .ref q_found, .ref q_aside, .int w_36, .int w_37, .int w_38, .int w_39, .int w_40, .int w_41, .ref q_names, .ref q_seenKept, .ref q_movedKept, .int v_isKeeping, .int v_bubbleMany, .int v_bubbleMost, .int v_bubbleCell, .int v_bestShown, .ref q_traced, .int v_traceMany, .int v_who, .ref q_bitsOf, .ref q_sizeOf, .ref q_number, .ref q_lifted])), (q_d, .inl (c 0, 244, .inl w_42)), (q_number, .inl (c 0, 160, .inl v_number))]) hP hD hS hA ⟨rfl, rfl, rfl, trivial⟩ (va_runV (rm := rm_X12_isAs) (ws := wsX12_isAs) (As := [.int a_4]) (rest := []) (gFix hF) (c_X12_isAs l D c q_this q_d q_kept q_found q_aside q_names q_seenKept q_movedKept q_traced q_bitsOf q_sizeOf q_number q_lifted a_4 v_images w_36 w_37 w_38 w_39 w_40 w_41 v_isKeeping v_bubbleMany v_bubbleMost v_bubbleCell v_bestShown v_traceMany v_who w_42 v_number r_46 hc_45 H.size) (cwV 1 hts gX12_came_X12_isAs rfl rfl rfl (by decide +kernel) ⟨Nat.le_of_ble_eq_true rfl, Nat.le_of_ble_eq_true rfl⟩) (gPreV (wc := [(q_this, .inr (12, [.ref q_d, .ref q_kept, .int v_images, .ref q_found, .ref q_aside, .int w_36, .int w_37, .int w_38, .int w_39, .int w_40, .int w_41, .ref q_names, .ref q_seenKept, .ref q_movedKept, .int v_isKeeping, .int v_bubbleMany, .int v_bubbleMost, .int v_bubbleCell, .int v_bestShown, .ref q_traced, .int v_traceMany, .int v_who, .ref q_bitsOf, .ref q_sizeOf, .ref q_number, .ref q_lifted])), (q_d, .inl (c 0, 244, .inl w_42)), (q_number, .inl (c 0, 160, .inl v_number))]) (q := (RX12, TX12, 26)) (ci := 12) (q0 := 0) (isC := [0, 3, 7]) hK hX hS hA hP hD ⟨rfl, rfl, rfl, trivial⟩ (by decide +kernel) rfl rfl) rfl rfl hl.1 rfl (lv_room (Nat.le_of_ble_eq_true rfl)) dX12_came_120 ⟨Nat.le_of_ble_eq_true rfl, Nat.le_of_ble_eq_true rfl⟩) (fun H locs hP hS => ?_)
          refine lv_if_eq (tgt := 131) hx hb dX12_came_123 (by decide) (fun c_47 => ?_) (fun c_47 => ?_)
          · replace h := it_t c_47 h
            refine lv_iconst (v := (-1)) hx hb dX12_came_131 (by decide) ?_
            exact t_L132 _ ih x5 x7 (-1) w_36 w_37 w_38 w_39 w_40 w_41 w_34 w_42 v_found w_43 w_44 H locs hP hD hS ls (lv_sub hl [0, 1, 2, 3, 4, 5, 7] rfl) h
          · replace h := it_f c_47 h
            refine lv_iload hx hb dX12_came_126 (lv_at hl 7 rfl) ?_
            refine lv_goto (tgt := 132) hx hb dX12_came_128 (by decide) ?_
            exact t_L132 _ ih x5 x7 x7 w_36 w_37 w_38 w_39 w_40 w_41 w_34 w_42 v_found w_43 w_44 H locs hP hD hS ls (lv_sub hl [0, 1, 2, 3, 4, 5, 7] rfl) h
  unfold f_X12_came at h
  refine lv_aload_n hx hb dX12_came_0 rfl (lv_at hl 0 rfl) ?_
  refine lv_iload_n hx hb dX12_came_1 rfl (lv_at hl 1 rfl) ?_
  replace h := kb_ok h
  obtain ⟨r_2, hc_1, h⟩ := h
  refine gCallIr (isC := [0, 3]) (wc := [(q_this, .inr (12, [.ref q_d, .ref q_kept, .int v_images, .ref q_found, .ref q_aside, .int v_base, .int v_at, .int v_size, .int v_fault, .int v_opened, .int v_isSeen, .ref q_names, .ref q_seenKept, .ref q_movedKept, .int v_isKeeping, .int v_bubbleMany, .int v_bubbleMost, .int v_bubbleCell, .int v_bestShown, .ref q_traced, .int v_traceMany, .int v_who, .ref q_bitsOf, .ref q_sizeOf, .ref q_number, .ref q_lifted])), (q_d, .inl (c 0, 244, .inl v_d))]) hP hD hS hA ⟨rfl, rfl, trivial⟩ (va_runV (rm := rm_X12_isTool) (ws := wsX12_isTool) (As := [.int a_1]) (rest := []) (gFix hF) (c_X12_isTool l D c q_this q_d q_kept q_found q_aside q_names q_seenKept q_movedKept q_traced q_bitsOf q_sizeOf q_number q_lifted a_1 v_images v_base v_at v_size v_fault v_opened v_isSeen v_isKeeping v_bubbleMany v_bubbleMost v_bubbleCell v_bestShown v_traceMany v_who v_d r_2 hc_1 s.heap.size) (cwV 1 hts gX12_came_X12_isTool rfl rfl rfl (by decide +kernel) ⟨Nat.le_of_ble_eq_true rfl, Nat.le_of_ble_eq_true rfl⟩) (gPreV (wc := [(q_this, .inr (12, [.ref q_d, .ref q_kept, .int v_images, .ref q_found, .ref q_aside, .int v_base, .int v_at, .int v_size, .int v_fault, .int v_opened, .int v_isSeen, .ref q_names, .ref q_seenKept, .ref q_movedKept, .int v_isKeeping, .int v_bubbleMany, .int v_bubbleMost, .int v_bubbleCell, .int v_bestShown, .ref q_traced, .int v_traceMany, .int v_who, .ref q_bitsOf, .ref q_sizeOf, .ref q_number, .ref q_lifted])), (q_d, .inl (c 0, 244, .inl v_d))]) (q := (RX12, TX12, 26)) (ci := 12) (q0 := 0) (isC := [0, 3]) hK hX hS hA hP hD ⟨rfl, rfl, trivial⟩ (by decide +kernel) rfl rfl) rfl rfl hl.1 rfl (lv_room (Nat.le_of_ble_eq_true rfl)) dX12_came_2 ⟨Nat.le_of_ble_eq_true rfl, Nat.le_of_ble_eq_true rfl⟩) (fun H locs hP hS => ?_)
  refine lv_if_eq (tgt := 31) hx hb dX12_came_5 (by decide) (fun c_3 => ?_) (fun c_3 => ?_)
  · replace h := it_t c_3 h
    exact t_L31 v_base v_at v_size v_fault v_opened v_isSeen v_aside v_d v_found v_movedKept v_names H locs hP hD hS ls (lv_sub hl [0] rfl) h
  · replace h := it_f c_3 h
    refine lv_aload_n hx hb dX12_came_8 rfl (lv_at hl 0 rfl) ?_
    refine lv_iload_n hx hb dX12_came_9 rfl (lv_at hl 2 rfl) ?_
    replace h := kb_ok h
    obtain ⟨r_5, hc_4, h⟩ := h
    refine gCallIr (isC := [0, 3]) (wc := [(q_this, .inr (12, [.ref q_d, .ref q_kept, .int v_images, .ref q_found, .ref q_aside, .int v_base, .int v_at, .int v_size, .int v_fault, .int v_opened, .int v_isSeen, .ref q_names, .ref q_seenKept, .ref q_movedKept, .int v_isKeeping, .int v_bubbleMany, .int v_bubbleMost, .int v_bubbleCell, .int v_bestShown, .ref q_traced, .int v_traceMany, .int v_who, .ref q_bitsOf, .ref q_sizeOf, .ref q_number, .ref q_lifted])), (q_d, .inl (c 0, 244, .inl v_d))]) hP hD hS hA ⟨rfl, rfl, trivial⟩ (va_runV (rm := rm_X12_isCell) (ws := wsX12_isCell) (As := [.int a_2]) (rest := []) (gFix hF) (c_X12_isCell l D c q_this q_d q_kept q_found q_aside q_names q_seenKept q_movedKept q_traced q_bitsOf q_sizeOf q_number q_lifted a_2 v_images v_base v_at v_size v_fault v_opened v_isSeen v_isKeeping v_bubbleMany v_bubbleMost v_bubbleCell v_bestShown v_traceMany v_who v_d r_5 hc_4 H.size) (cwV 1 hts gX12_came_X12_isCell rfl rfl rfl (by decide +kernel) ⟨Nat.le_of_ble_eq_true rfl, Nat.le_of_ble_eq_true rfl⟩) (gPreV (wc := [(q_this, .inr (12, [.ref q_d, .ref q_kept, .int v_images, .ref q_found, .ref q_aside, .int v_base, .int v_at, .int v_size, .int v_fault, .int v_opened, .int v_isSeen, .ref q_names, .ref q_seenKept, .ref q_movedKept, .int v_isKeeping, .int v_bubbleMany, .int v_bubbleMost, .int v_bubbleCell, .int v_bestShown, .ref q_traced, .int v_traceMany, .int v_who, .ref q_bitsOf, .ref q_sizeOf, .ref q_number, .ref q_lifted])), (q_d, .inl (c 0, 244, .inl v_d))]) (q := (RX12, TX12, 26)) (ci := 12) (q0 := 0) (isC := [0, 3]) hK hX hS hA hP hD ⟨rfl, rfl, trivial⟩ (by decide +kernel) rfl rfl) rfl rfl hl.1 rfl (lv_room (Nat.le_of_ble_eq_true rfl)) dX12_came_10 ⟨Nat.le_of_ble_eq_true rfl, Nat.le_of_ble_eq_true rfl⟩) (fun H locs hP hS => ?_)
    refine lv_if_eq (tgt := 31) hx hb dX12_came_13 (by decide) (fun c_6 => ?_) (fun c_6 => ?_)
    · replace h := it_t c_6 h
      exact t_L31 v_base v_at v_size v_fault v_opened v_isSeen v_aside v_d v_found v_movedKept v_names H locs hP hD hS ls (lv_sub hl [0] rfl) h
    · replace h := it_f c_6 h
      refine lv_iload_n hx hb dX12_came_16 rfl (lv_at hl 3 rfl) ?_
      replace h := kb_ok h
      obtain ⟨r_8, hc_7, h⟩ := h
      refine gCallIr (isC := []) (wc := []) hP hD hS hA trivial (va_runS (rm := rm_X12_isWay) (ws := wsX12_isWay) (As := [.int a_3]) (rest := []) (gFix hF) (c_X12_isWay l D c a_3 r_8 hc_7 H.size) (va_cwS 1 hts gX12_came_X12_isWay rfl rfl rfl (by decide +kernel) ⟨Nat.le_of_ble_eq_true rfl, Nat.le_of_ble_eq_true rfl⟩) (gPreS (wc := []) (isC := []) hK hX hS hA hP hD trivial (by decide +kernel)) rfl rfl hl.1 rfl (lv_room (Nat.le_of_ble_eq_true rfl)) dX12_came_17 ⟨Nat.le_of_ble_eq_true rfl, Nat.le_of_ble_eq_true rfl⟩) (fun H locs hP hS => ?_)
      refine lv_if_eq (tgt := 31) hx hb dX12_came_20 (by decide) (fun c_9 => ?_) (fun c_9 => ?_)
      · replace h := it_t c_9 h
        exact t_L31 v_base v_at v_size v_fault v_opened v_isSeen v_aside v_d v_found v_movedKept v_names H locs hP hD hS ls (lv_sub hl [0] rfl) h
      · replace h := it_f c_9 h
        refine lv_iload hx hb dX12_came_23 (lv_at hl 4 rfl) ?_
        replace h := kb_ok h
        obtain ⟨r_11, hc_10, h⟩ := h
        refine gCallIr (isC := []) (wc := []) hP hD hS hA trivial (va_runS (rm := rm_X12_isSheet) (ws := wsX12_isSheet) (As := [.int a_4]) (rest := []) (gFix hF) (c_X12_isSheet l D c a_4 r_11 hc_10 H.size) (va_cwS 1 hts gX12_came_X12_isSheet rfl rfl rfl (by decide +kernel) ⟨Nat.le_of_ble_eq_true rfl, Nat.le_of_ble_eq_true rfl⟩) (gPreS (wc := []) (isC := []) hK hX hS hA hP hD trivial (by decide +kernel)) rfl rfl hl.1 rfl (lv_room (Nat.le_of_ble_eq_true rfl)) dX12_came_25 ⟨Nat.le_of_ble_eq_true rfl, Nat.le_of_ble_eq_true rfl⟩) (fun H locs hP hS => ?_)
        refine lv_if_ne (tgt := 37) hx hb dX12_came_28 (by decide) (fun c_12 => ?_) (fun c_12 => ?_)
        · replace h := it_f c_12 h
          refine lv_aload_n hx hb dX12_came_37 rfl (lv_at hl 0 rfl) ?_
          refine va_get (D := D) (ci := 12) (v := .ref q_bitsOf) (C := RX12) (T := TX12) (N := 26) hx hb hts in_X12_came_X12 hown hK.1 hP 0 rfl rfl 22 (by decide) (hts (.fieldLink RX12 34 "PaperBubblesModel" "bitsOf" "[I") (List.mem_of_getElem? (i := 1) rfl)) (fun _ h9 => h9) rfl dX12_came_38 ?_
          refine lv_iload hx hb dX12_came_41 (lv_at hl 4 rfl) ?_
          replace h := chi_ok h
          obtain ⟨hi_13, h⟩ := h
          refine va_iald hx hb hK.1 hP 2 0 rfl rfl hi_13 dX12_came_43 ?_
          refine lv_if_eq (tgt := 61) hx hb dX12_came_44 (by decide) (fun c_14 => ?_) (fun c_14 => ?_)
          · replace h := it_t c_14 h
            exact t_L61 v_base v_at v_size v_fault v_opened v_isSeen v_aside v_d v_found v_movedKept v_names H locs hP hD hS ls (lv_sub hl [0] rfl) h
          · replace h := it_f c_14 h
            refine lv_aload_n hx hb dX12_came_47 rfl (lv_at hl 0 rfl) ?_
            refine va_get (D := D) (ci := 12) (v := .ref q_sizeOf) (C := RX12) (T := TX12) (N := 26) hx hb hts in_X12_came_X12 hown hK.1 hP 0 rfl rfl 23 (by decide) (hts (.fieldLink RX12 37 "PaperBubblesModel" "sizeOf" "[I") (List.mem_of_getElem? (i := 2) rfl)) (fun _ h9 => h9) rfl dX12_came_48 ?_
            refine lv_iload hx hb dX12_came_51 (lv_at hl 4 rfl) ?_
            replace h := chi_ok h
            obtain ⟨hi_15, h⟩ := h
            refine va_iald hx hb hK.1 hP 8 0 rfl rfl hi_15 dX12_came_53 ?_
            replace h := nm_ok h
            obtain ⟨t_16, et_16, h⟩ := h
            refine gTop et_16 ?_
            refine lv_aload_n hx hb dX12_came_54 rfl (lv_at hl 0 rfl) ?_
            replace h := kb_ok h
            obtain ⟨r_18, hc_17, h⟩ := h
            refine gCallIr (isC := [0, 3]) (wc := [(q_this, .inr (12, [.ref q_d, .ref q_kept, .int v_images, .ref q_found, .ref q_aside, .int v_base, .int v_at, .int v_size, .int v_fault, .int v_opened, .int v_isSeen, .ref q_names, .ref q_seenKept, .ref q_movedKept, .int v_isKeeping, .int v_bubbleMany, .int v_bubbleMost, .int v_bubbleCell, .int v_bestShown, .ref q_traced, .int v_traceMany, .int v_who, .ref q_bitsOf, .ref q_sizeOf, .ref q_number, .ref q_lifted])), (q_d, .inl (c 0, 244, .inl v_d))]) hP hD hS hA ⟨rfl, rfl, trivial⟩ (va_runV (rm := rm_X12_cells) (ws := wsX12_cells) (As := []) (rest := [.int t_16]) (gFix hF) (c_X12_cells l D c q_this q_d q_kept q_found q_aside q_names q_seenKept q_movedKept q_traced q_bitsOf q_sizeOf q_number q_lifted v_images v_base v_at v_size v_fault v_opened v_isSeen v_isKeeping v_bubbleMany v_bubbleMost v_bubbleCell v_bestShown v_traceMany v_who v_d r_18 hc_17 H.size) (cwV 0 hts gX12_came_X12_cells rfl rfl rfl (by decide +kernel) ⟨Nat.le_of_ble_eq_true rfl, Nat.le_of_ble_eq_true rfl⟩) (gPreV (wc := [(q_this, .inr (12, [.ref q_d, .ref q_kept, .int v_images, .ref q_found, .ref q_aside, .int v_base, .int v_at, .int v_size, .int v_fault, .int v_opened, .int v_isSeen, .ref q_names, .ref q_seenKept, .ref q_movedKept, .int v_isKeeping, .int v_bubbleMany, .int v_bubbleMost, .int v_bubbleCell, .int v_bestShown, .ref q_traced, .int v_traceMany, .int v_who, .ref q_bitsOf, .ref q_sizeOf, .ref q_number, .ref q_lifted])), (q_d, .inl (c 0, 244, .inl v_d))]) (q := (RX12, TX12, 26)) (ci := 12) (q0 := 0) (isC := [0, 3]) hK hX hS hA hP hD ⟨rfl, rfl, trivial⟩ (by decide +kernel) rfl rfl) rfl rfl hl.1 rfl (lv_room (Nat.le_of_ble_eq_true rfl)) dX12_came_55 ⟨Nat.le_of_ble_eq_true rfl, Nat.le_of_ble_eq_true rfl⟩) (fun H locs hP hS => ?_)
            refine lv_icmp_eq (tgt := 67) hx hb dX12_came_58 (by decide) (fun c_19 => ?_) (fun c_19 => ?_)
            · replace h := it_t c_19 h
              refine lv_aload_n hx hb dX12_came_67 rfl (lv_at hl 0 rfl) ?_
              refine lv_iload_n hx hb dX12_came_68 rfl (lv_at hl 1 rfl) ?_
              replace h := kb_ok h
              obtain ⟨r_21, hc_20, h⟩ := h
              refine gCallIr (isC := [0, 3]) (wc := [(q_this, .inr (12, [.ref q_d, .ref q_kept, .int v_images, .ref q_found, .ref q_aside, .int v_base, .int v_at, .int v_size, .int v_fault, .int v_opened, .int v_isSeen, .ref q_names, .ref q_seenKept, .ref q_movedKept, .int v_isKeeping, .int v_bubbleMany, .int v_bubbleMost, .int v_bubbleCell, .int v_bestShown, .ref q_traced, .int v_traceMany, .int v_who, .ref q_bitsOf, .ref q_sizeOf, .ref q_number, .ref q_lifted])), (q_d, .inl (c 0, 244, .inl v_d))]) hP hD hS hA ⟨rfl, rfl, trivial⟩ (va_runV (rm := rm_X12_kindOf) (ws := wsX12_kindOf) (As := [.int a_1]) (rest := []) (gFix hF) (c_X12_kindOf l D c q_this q_d q_kept q_found q_aside q_names q_seenKept q_movedKept q_traced q_bitsOf q_sizeOf q_number q_lifted a_1 v_images v_base v_at v_size v_fault v_opened v_isSeen v_isKeeping v_bubbleMany v_bubbleMost v_bubbleCell v_bestShown v_traceMany v_who v_d r_21 hc_20 H.size) (cwV 1 hts gX12_came_X12_kindOf rfl rfl rfl (by decide +kernel) ⟨Nat.le_of_ble_eq_true rfl, Nat.le_of_ble_eq_true rfl⟩) (gPreV (wc := [(q_this, .inr (12, [.ref q_d, .ref q_kept, .int v_images, .ref q_found, .ref q_aside, .int v_base, .int v_at, .int v_size, .int v_fault, .int v_opened, .int v_isSeen, .ref q_names, .ref q_seenKept, .ref q_movedKept, .int v_isKeeping, .int v_bubbleMany, .int v_bubbleMost, .int v_bubbleCell, .int v_bestShown, .ref q_traced, .int v_traceMany, .int v_who, .ref q_bitsOf, .ref q_sizeOf, .ref q_number, .ref q_lifted])), (q_d, .inl (c 0, 244, .inl v_d))]) (q := (RX12, TX12, 26)) (ci := 12) (q0 := 0) (isC := [0, 3]) hK hX hS hA hP hD ⟨rfl, rfl, trivial⟩ (by decide +kernel) rfl rfl) rfl rfl hl.1 rfl (lv_room (Nat.le_of_ble_eq_true rfl)) dX12_came_69 ⟨Nat.le_of_ble_eq_true rfl, Nat.le_of_ble_eq_true rfl⟩) (fun H locs hP hS => ?_)
              refine lv_istore (lv' := [(5, .int r_21), (0, .ref q_this), (1, .int a_1), (2, .int a_2), (3, .int a_3), (4, .int a_4)]) hx hb dX12_came_72 hl (by decide) rfl (fun ls hl => ?_)
              refine lv_iconst (v := (-1)) hx hb dX12_came_74 (by decide) ?_
              refine lv_istore (lv' := [(6, .int (-1)), (5, .int r_21), (0, .ref q_this), (1, .int a_1), (2, .int a_2), (3, .int a_3), (4, .int a_4)]) hx hb dX12_came_75 hl (by decide) rfl (fun ls hl => ?_)
              refine lv_iconst (v := 0) hx hb dX12_came_77 (by decide) ?_
              refine lv_istore (lv' := [(7, .int 0), (6, .int (-1)), (5, .int r_21), (0, .ref q_this), (1, .int a_1), (2, .int a_2), (3, .int a_3), (4, .int a_4)]) hx hb dX12_came_78 hl (by decide) rfl (fun ls hl => ?_)
              exact t_L80 gFuel r_21 (-1) 0 v_base v_at v_size v_fault v_opened v_isSeen v_aside v_d v_found v_movedKept v_names H locs hP hD hS ls (lv_sub hl [3, 4, 5, 6, 7, 2, 1, 0] rfl) h
            · replace h := it_f c_19 h
              exact t_L61 v_base v_at v_size v_fault v_opened v_isSeen v_aside v_d v_found v_movedKept v_names H locs hP hD hS ls (lv_sub hl [0] rfl) h
        · replace h := it_t c_12 h
          exact t_L31 v_base v_at v_size v_fault v_opened v_isSeen v_aside v_d v_found v_movedKept v_names H locs hP hD hS ls (lv_sub hl [0] rfl) h
set_option maxRecDepth 20000 in
theorem in_X12_nightGoes_X12 : ∀ w ∈ u_ws RX12 TX12 26, w ∈ wsX12_nightGoes := by decide +kernel
def f_X12_nightGoes_L47 (kk_L2 : Int32 → (Nat → Int32) → Option ((Nat → Int32))) (x1 : Int32) (y1 : Int32) (y2 : Int32) (v_d : Nat → Int32) : Option ((Nat → Int32)) :=
  chi y1 244 <|
  nm (upd v_d y1.toNatClampNeg y2) fun w_18 =>
  nm (35 + x1 : Int32) fun t_19 =>
  chi t_19 244 <|
  nm (w_18 t_19.toNatClampNeg : Int32) fun t_21 =>
  nm (35 + x1 : Int32) fun t_22 =>
  chi t_22 244 <|
  if (w_18 t_22.toNatClampNeg) ≤ 0 then
    nm (t_21 - 0 : Int32) fun t_25 =>
    chi t_19 244 <|
    nm (upd w_18 t_19.toNatClampNeg t_25) fun w_27 =>
    nm (x1 + 1 : Int32) fun t_28 =>
    kk_L2 t_28 w_27
  else
    nm (t_21 - 1 : Int32) fun t_29 =>
    chi t_19 244 <|
    nm (upd w_18 t_19.toNatClampNeg t_29) fun w_31 =>
    nm (x1 + 1 : Int32) fun t_32 =>
    kk_L2 t_32 w_31

def f_X12_nightGoes_L2 : Nat → Int32 → (Nat → Int32) → Option ((Nat → Int32))
  | 0, _, _ => none
  | n + 1, x1, v_d =>
    kb (f_X12_cells v_d) fun r_2 =>
    if r_2 ≤ x1 then
      chi 5 244 <|
      nm (v_d (5 : Int32).toNatClampNeg : Int32) fun t_5 =>
      nm (t_5 + 1 : Int32) fun t_6 =>
      chi 5 244 <|
      nm (upd v_d (5 : Int32).toNatClampNeg t_6) fun w_8 =>
      some w_8
    else
      nm (10 + x1 : Int32) fun t_9 =>
      chi t_9 244 <|
      nm (v_d t_9.toNatClampNeg : Int32) fun t_11 =>
      nm (35 + x1 : Int32) fun t_12 =>
      chi t_12 244 <|
      nm (t_11 - (v_d t_12.toNatClampNeg) : Int32) fun t_14 =>
      nm (10 + x1 : Int32) fun t_15 =>
      if 0 ≤ t_14 then
        f_X12_nightGoes_L47 (f_X12_nightGoes_L2 n) x1 t_15 t_14 v_d
      else
        f_X12_nightGoes_L47 (f_X12_nightGoes_L2 n) x1 t_15 0 v_d

def f_X12_nightGoes (v_d : Nat → Int32) : Option ((Nat → Int32)) :=
  f_X12_nightGoes_L2 gFuel 0 v_d

abbrev rm_X12_nightGoes : Room := { frames := 1, cells := 0, slots := 0, locals := 20 }
set_option maxHeartbeats 4000000 in
set_option maxRecDepth 100000 in
theorem c_X12_nightGoes (l : Launch) (D : va_G) (c : Nat → ClassId) (q_this q_d q_kept q_found q_aside q_names q_seenKept q_movedKept q_traced q_bitsOf q_sizeOf q_number q_lifted : Nat) (v_images : Int32) (v_base : Int32) (v_at : Int32) (v_size : Int32) (v_fault : Int32) (v_opened : Int32) (v_isSeen : Int32) (v_isKeeping : Int32) (v_bubbleMany : Int32) (v_bubbleMost : Int32) (v_bubbleCell : Int32) (v_bestShown : Int32) (v_traceMany : Int32) (v_who : Int32) (v_d : Nat → Int32) (o_v_d : Nat → Int32) (h : f_X12_nightGoes v_d = some o_v_d) : gMV l yX12_nightGoes wsX12_nightGoes rm_X12_nightGoes D c [.ref q_this] [(q_this, .inr (12, [.ref q_d, .ref q_kept, .int v_images, .ref q_found, .ref q_aside, .int v_base, .int v_at, .int v_size, .int v_fault, .int v_opened, .int v_isSeen, .ref q_names, .ref q_seenKept, .ref q_movedKept, .int v_isKeeping, .int v_bubbleMany, .int v_bubbleMost, .int v_bubbleCell, .int v_bestShown, .ref q_traced, .int v_traceMany, .int v_who, .ref q_bitsOf, .ref q_sizeOf, .ref q_number, .ref q_lifted])), (q_d, .inl (c 0, 244, .inl v_d))] [(q_this, .inr (12, [.ref q_d, .ref q_kept, .int v_images, .ref q_found, .ref q_aside, .int v_base, .int v_at, .int v_size, .int v_fault, .int v_opened, .int v_isSeen, .ref q_names, .ref q_seenKept, .ref q_movedKept, .int v_isKeeping, .int v_bubbleMany, .int v_bubbleMost, .int v_bubbleCell, .int v_bestShown, .ref q_traced, .int v_traceMany, .int v_who, .ref q_bitsOf, .ref q_sizeOf, .ref q_number, .ref q_lifted])), (q_d, .inl (c 0, 244, .inl o_v_d))] := by
  refine gMV_of (cc := cX12_nightGoes) (maxL := 3) (rt := none) (by decide +kernel) rfl (Nat.le_of_ble_eq_true rfl) ?_
  intro p e s m below meth co A hF hK hX hP hD hA hS ls hl
  obtain ⟨hx, hb, hr, hts, hown, hlocks, hml⟩ := id hF
  have hl : lv_has ls 3 [(0, .ref q_this)] := hl
  have t_L47 : ∀ (kk_L2 : Int32 → (Nat → Int32) → Option ((Nat → Int32))), (∀ (x1 : Int32) (v_d : Nat → Int32) (H : Heap) (locs : List Loc), va_P D gcl [(q_this, .inr (12, [.ref q_d, .ref q_kept, .int v_images, .ref q_found, .ref q_aside, .int v_base, .int v_at, .int v_size, .int v_fault, .int v_opened, .int v_isSeen, .ref q_names, .ref q_seenKept, .ref q_movedKept, .int v_isKeeping, .int v_bubbleMany, .int v_bubbleMost, .int v_bubbleCell, .int v_bestShown, .ref q_traced, .int v_traceMany, .int v_who, .ref q_bitsOf, .ref q_sizeOf, .ref q_number, .ref q_lifted])), (q_d, .inl (c 0, 244, .inl v_d))] H → va_D A [(q_this, .inr (12, [.ref q_d, .ref q_kept, .int v_images, .ref q_found, .ref q_aside, .int v_base, .int v_at, .int v_size, .int v_fault, .int v_opened, .int v_isSeen, .ref q_names, .ref q_seenKept, .ref q_movedKept, .int v_isKeeping, .int v_bubbleMany, .int v_bubbleMost, .int v_bubbleCell, .int v_bestShown, .ref q_traced, .int v_traceMany, .int v_who, .ref q_bitsOf, .ref q_sizeOf, .ref q_number, .ref q_lifted])), (q_d, .inl (c 0, 244, .inl v_d))] → va_S A s.heap H locs → ∀ ls, lv_has ls 3 [(0, .ref q_this), (1, .int x1)] → kk_L2 x1 v_d = some o_v_d → W p l e (headSpec wsX12_nightGoes rm_X12_nightGoes).room s m [.ref q_this].toArray below meth co H locs 0 0 (gQV D [(q_this, .inr (12, [.ref q_d, .ref q_kept, .int v_images, .ref q_found, .ref q_aside, .int v_base, .int v_at, .int v_size, .int v_fault, .int v_opened, .int v_isSeen, .ref q_names, .ref q_seenKept, .ref q_movedKept, .int v_isKeeping, .int v_bubbleMany, .int v_bubbleMost, .int v_bubbleCell, .int v_bestShown, .ref q_traced, .int v_traceMany, .int v_who, .ref q_bitsOf, .ref q_sizeOf, .ref q_number, .ref q_lifted])), (q_d, .inl (c 0, 244, .inl o_v_d))] A below [.ref q_this] s) (F0 m 2 ls [])) → ∀ (x1 : Int32) (y1 : Int32) (y2 : Int32) (v_d : Nat → Int32) (H : Heap) (locs : List Loc), va_P D gcl [(q_this, .inr (12, [.ref q_d, .ref q_kept, .int v_images, .ref q_found, .ref q_aside, .int v_base, .int v_at, .int v_size, .int v_fault, .int v_opened, .int v_isSeen, .ref q_names, .ref q_seenKept, .ref q_movedKept, .int v_isKeeping, .int v_bubbleMany, .int v_bubbleMost, .int v_bubbleCell, .int v_bestShown, .ref q_traced, .int v_traceMany, .int v_who, .ref q_bitsOf, .ref q_sizeOf, .ref q_number, .ref q_lifted])), (q_d, .inl (c 0, 244, .inl v_d))] H → va_D A [(q_this, .inr (12, [.ref q_d, .ref q_kept, .int v_images, .ref q_found, .ref q_aside, .int v_base, .int v_at, .int v_size, .int v_fault, .int v_opened, .int v_isSeen, .ref q_names, .ref q_seenKept, .ref q_movedKept, .int v_isKeeping, .int v_bubbleMany, .int v_bubbleMost, .int v_bubbleCell, .int v_bestShown, .ref q_traced, .int v_traceMany, .int v_who, .ref q_bitsOf, .ref q_sizeOf, .ref q_number, .ref q_lifted])), (q_d, .inl (c 0, 244, .inl v_d))] → va_S A s.heap H locs → ∀ ls, lv_has ls 3 [(0, .ref q_this), (1, .int x1)] → f_X12_nightGoes_L47 kk_L2 x1 y1 y2 v_d = some o_v_d → W p l e (headSpec wsX12_nightGoes rm_X12_nightGoes).room s m [.ref q_this].toArray below meth co H locs 0 0 (gQV D [(q_this, .inr (12, [.ref q_d, .ref q_kept, .int v_images, .ref q_found, .ref q_aside, .int v_base, .int v_at, .int v_size, .int v_fault, .int v_opened, .int v_isSeen, .ref q_names, .ref q_seenKept, .ref q_movedKept, .int v_isKeeping, .int v_bubbleMany, .int v_bubbleMost, .int v_bubbleCell, .int v_bestShown, .ref q_traced, .int v_traceMany, .int v_who, .ref q_bitsOf, .ref q_sizeOf, .ref q_number, .ref q_lifted])), (q_d, .inl (c 0, 244, .inl o_v_d))] A below [.ref q_this] s) (F0 m 47 ls [.int y2, .int y1, .ref q_d]) := by
    intro kk_L2 hkk_L2 x1 y1 y2 v_d H locs hP hD hS ls hl h
    unfold f_X12_nightGoes_L47 at h
    replace h := chi_ok h
    obtain ⟨hi_17, h⟩ := h
    replace h := nm_ok h
    obtain ⟨w_18, ew_18, h⟩ := h
    refine va_iast hx hb hK.1 hP hD hS 1 0 rfl rfl hi_17 dX12_nightGoes_47 (fun H locs hP hD hS => ?_)
    have hP : va_P D gcl [(q_this, .inr (12, [.ref q_d, .ref q_kept, .int v_images, .ref q_found, .ref q_aside, .int v_base, .int v_at, .int v_size, .int v_fault, .int v_opened, .int v_isSeen, .ref q_names, .ref q_seenKept, .ref q_movedKept, .int v_isKeeping, .int v_bubbleMany, .int v_bubbleMost, .int v_bubbleCell, .int v_bestShown, .ref q_traced, .int v_traceMany, .int v_who, .ref q_bitsOf, .ref q_sizeOf, .ref q_number, .ref q_lifted])), (q_d, .inl (c 0, 244, .inl w_18))] H := by subst ew_18; exact hP
    have hD : va_D A [(q_this, .inr (12, [.ref q_d, .ref q_kept, .int v_images, .ref q_found, .ref q_aside, .int v_base, .int v_at, .int v_size, .int v_fault, .int v_opened, .int v_isSeen, .ref q_names, .ref q_seenKept, .ref q_movedKept, .int v_isKeeping, .int v_bubbleMany, .int v_bubbleMost, .int v_bubbleCell, .int v_bestShown, .ref q_traced, .int v_traceMany, .int v_who, .ref q_bitsOf, .ref q_sizeOf, .ref q_number, .ref q_lifted])), (q_d, .inl (c 0, 244, .inl w_18))] := by subst ew_18; exact hD
    refine lv_aload_n hx hb dX12_nightGoes_48 rfl (lv_at hl 0 rfl) ?_
    refine va_get (D := D) (ci := 12) (v := .ref q_d) (C := RX12) (T := TX12) (N := 26) hx hb hts in_X12_nightGoes_X12 hown hK.1 hP 0 rfl rfl 0 (by decide) (hts (.fieldLink RX12 7 "PaperBubblesModel" "d" "[I") (List.mem_of_getElem? (i := 1) rfl)) (fun _ h9 => h9) rfl dX12_nightGoes_49 ?_
    refine lv_bipush (v := 35) hx hb dX12_nightGoes_52 (by decide) ?_
    refine lv_iload_n hx hb dX12_nightGoes_54 rfl (lv_at hl 1 rfl) ?_
    refine lv_iadd hx hb dX12_nightGoes_55 ?_
    replace h := nm_ok h
    obtain ⟨t_19, et_19, h⟩ := h
    refine gTop et_19 ?_
    refine lv_dup2_11 hx hb dX12_nightGoes_56 rfl rfl ?_
    replace h := chi_ok h
    obtain ⟨hi_20, h⟩ := h
    refine va_iald hx hb hK.1 hP 1 0 rfl rfl hi_20 dX12_nightGoes_57 ?_
    replace h := nm_ok h
    obtain ⟨t_21, et_21, h⟩ := h
    refine gTop et_21 ?_
    refine lv_aload_n hx hb dX12_nightGoes_58 rfl (lv_at hl 0 rfl) ?_
    refine va_get (D := D) (ci := 12) (v := .ref q_d) (C := RX12) (T := TX12) (N := 26) hx hb hts in_X12_nightGoes_X12 hown hK.1 hP 0 rfl rfl 0 (by decide) (hts (.fieldLink RX12 7 "PaperBubblesModel" "d" "[I") (List.mem_of_getElem? (i := 1) rfl)) (fun _ h9 => h9) rfl dX12_nightGoes_59 ?_
    refine lv_bipush (v := 35) hx hb dX12_nightGoes_62 (by decide) ?_
    refine lv_iload_n hx hb dX12_nightGoes_64 rfl (lv_at hl 1 rfl) ?_
    refine lv_iadd hx hb dX12_nightGoes_65 ?_
    replace h := nm_ok h
    obtain ⟨t_22, et_22, h⟩ := h
    refine gTop et_22 ?_
    replace h := chi_ok h
    obtain ⟨hi_23, h⟩ := h
    refine va_iald hx hb hK.1 hP 1 0 rfl rfl hi_23 dX12_nightGoes_66 ?_
    refine lv_if_le (tgt := 74) hx hb dX12_nightGoes_67 (by decide) (fun c_24 => ?_) (fun c_24 => ?_)
    · replace h := it_t c_24 h
      refine lv_iconst (v := 0) hx hb dX12_nightGoes_74 (by decide) ?_
      refine lv_isub hx hb dX12_nightGoes_75 ?_
      replace h := nm_ok h
      obtain ⟨t_25, et_25, h⟩ := h
      refine gTop et_25 ?_
      replace h := chi_ok h
      obtain ⟨hi_26, h⟩ := h
      replace h := nm_ok h
      obtain ⟨w_27, ew_27, h⟩ := h
      refine va_iast hx hb hK.1 hP hD hS 1 0 rfl rfl hi_26 dX12_nightGoes_76 (fun H locs hP hD hS => ?_)
      have hP : va_P D gcl [(q_this, .inr (12, [.ref q_d, .ref q_kept, .int v_images, .ref q_found, .ref q_aside, .int v_base, .int v_at, .int v_size, .int v_fault, .int v_opened, .int v_isSeen, .ref q_names, .ref q_seenKept, .ref q_movedKept, .int v_isKeeping, .int v_bubbleMany, .int v_bubbleMost, .int v_bubbleCell, .int v_bestShown, .ref q_traced, .int v_traceMany, .int v_who, .ref q_bitsOf, .ref q_sizeOf, .ref q_number, .ref q_lifted])), (q_d, .inl (c 0, 244, .inl w_27))] H := by subst ew_27; exact hP
      have hD : va_D A [(q_this, .inr (12, [.ref q_d, .ref q_kept, .int v_images, .ref q_found, .ref q_aside, .int v_base, .int v_at, .int v_size, .int v_fault, .int v_opened, .int v_isSeen, .ref q_names, .ref q_seenKept, .ref q_movedKept, .int v_isKeeping, .int v_bubbleMany, .int v_bubbleMost, .int v_bubbleCell, .int v_bestShown, .ref q_traced, .int v_traceMany, .int v_who, .ref q_bitsOf, .ref q_sizeOf, .ref q_number, .ref q_lifted])), (q_d, .inl (c 0, 244, .inl w_27))] := by subst ew_27; exact hD
      replace h := nm_ok h
      obtain ⟨t_28, et_28, h⟩ := h
      refine lv_iinc (v := t_28) (lv' := [(1, .int t_28), (0, .ref q_this)]) hx hb dX12_nightGoes_77 hl (k := 1) rfl (by rw [et_28]; rfl) (by decide) rfl (fun ls hl => ?_)
      refine lv_goto (tgt := 2) hx hb dX12_nightGoes_80 (by decide) ?_
      exact hkk_L2 t_28 w_27 H locs hP hD hS ls (lv_sub hl [1, 0] rfl) h
    · replace h := it_f c_24 h
      refine lv_iconst (v := 1) hx hb dX12_nightGoes_70 (by decide) ?_
      refine lv_goto (tgt := 75) hx hb dX12_nightGoes_71 (by decide) ?_
      refine lv_isub hx hb dX12_nightGoes_75 ?_
      replace h := nm_ok h
      obtain ⟨t_29, et_29, h⟩ := h
      refine gTop et_29 ?_
      replace h := chi_ok h
      obtain ⟨hi_30, h⟩ := h
      replace h := nm_ok h
      obtain ⟨w_31, ew_31, h⟩ := h
      refine va_iast hx hb hK.1 hP hD hS 1 0 rfl rfl hi_30 dX12_nightGoes_76 (fun H locs hP hD hS => ?_)
      have hP : va_P D gcl [(q_this, .inr (12, [.ref q_d, .ref q_kept, .int v_images, .ref q_found, .ref q_aside, .int v_base, .int v_at, .int v_size, .int v_fault, .int v_opened, .int v_isSeen, .ref q_names, .ref q_seenKept, .ref q_movedKept, .int v_isKeeping, .int v_bubbleMany, .int v_bubbleMost, .int v_bubbleCell, .int v_bestShown, .ref q_traced, .int v_traceMany, .int v_who, .ref q_bitsOf, .ref q_sizeOf, .ref q_number, .ref q_lifted])), (q_d, .inl (c 0, 244, .inl w_31))] H := by subst ew_31; exact hP
      have hD : va_D A [(q_this, .inr (12, [.ref q_d, .ref q_kept, .int v_images, .ref q_found, .ref q_aside, .int v_base, .int v_at, .int v_size, .int v_fault, .int v_opened, .int v_isSeen, .ref q_names, .ref q_seenKept, .ref q_movedKept, .int v_isKeeping, .int v_bubbleMany, .int v_bubbleMost, .int v_bubbleCell, .int v_bestShown, .ref q_traced, .int v_traceMany, .int v_who, .ref q_bitsOf, .ref q_sizeOf, .ref q_number, .ref q_lifted])), (q_d, .inl (c 0, 244, .inl w_31))] := by subst ew_31; exact hD
      replace h := nm_ok h
      obtain ⟨t_32, et_32, h⟩ := h
      refine lv_iinc (v := t_32) (lv' := [(1, .int t_32), (0, .ref q_this)]) hx hb dX12_nightGoes_77 hl (k := 1) rfl (by rw [et_32]; rfl) (by decide) rfl (fun ls hl => ?_)
      refine lv_goto (tgt := 2) hx hb dX12_nightGoes_80 (by decide) ?_
      exact hkk_L2 t_32 w_31 H locs hP hD hS ls (lv_sub hl [1, 0] rfl) h
  have t_L2 : ∀ (n : Nat), ∀ (x1 : Int32) (v_d : Nat → Int32) (H : Heap) (locs : List Loc), va_P D gcl [(q_this, .inr (12, [.ref q_d, .ref q_kept, .int v_images, .ref q_found, .ref q_aside, .int v_base, .int v_at, .int v_size, .int v_fault, .int v_opened, .int v_isSeen, .ref q_names, .ref q_seenKept, .ref q_movedKept, .int v_isKeeping, .int v_bubbleMany, .int v_bubbleMost, .int v_bubbleCell, .int v_bestShown, .ref q_traced, .int v_traceMany, .int v_who, .ref q_bitsOf, .ref q_sizeOf, .ref q_number, .ref q_lifted])), (q_d, .inl (c 0, 244, .inl v_d))] H → va_D A [(q_this, .inr (12, [.ref q_d, .ref q_kept, .int v_images, .ref q_found, .ref q_aside, .int v_base, .int v_at, .int v_size, .int v_fault, .int v_opened, .int v_isSeen, .ref q_names, .ref q_seenKept, .ref q_movedKept, .int v_isKeeping, .int v_bubbleMany, .int v_bubbleMost, .int v_bubbleCell, .int v_bestShown, .ref q_traced, .int v_traceMany, .int v_who, .ref q_bitsOf, .ref q_sizeOf, .ref q_number, .ref q_lifted])), (q_d, .inl (c 0, 244, .inl v_d))] → va_S A s.heap H locs → ∀ ls, lv_has ls 3 [(0, .ref q_this), (1, .int x1)] → f_X12_nightGoes_L2 n x1 v_d = some o_v_d → W p l e (headSpec wsX12_nightGoes rm_X12_nightGoes).room s m [.ref q_this].toArray below meth co H locs 0 0 (gQV D [(q_this, .inr (12, [.ref q_d, .ref q_kept, .int v_images, .ref q_found, .ref q_aside, .int v_base, .int v_at, .int v_size, .int v_fault, .int v_opened, .int v_isSeen, .ref q_names, .ref q_seenKept, .ref q_movedKept, .int v_isKeeping, .int v_bubbleMany, .int v_bubbleMost, .int v_bubbleCell, .int v_bestShown, .ref q_traced, .int v_traceMany, .int v_who, .ref q_bitsOf, .ref q_sizeOf, .ref q_number, .ref q_lifted])), (q_d, .inl (c 0, 244, .inl o_v_d))] A below [.ref q_this] s) (F0 m 2 ls []) := by
    intro n
    induction n with
    | zero => intro x1 v_d H locs hP hD hS ls hl h; exact no_ok h
    | succ n ih =>
      intro x1 v_d H locs hP hD hS ls hl h
      rw [f_X12_nightGoes_L2] at h
      refine lv_iload_n hx hb dX12_nightGoes_2 rfl (lv_at hl 1 rfl) ?_
      refine lv_aload_n hx hb dX12_nightGoes_3 rfl (lv_at hl 0 rfl) ?_
      replace h := kb_ok h
      obtain ⟨r_2, hc_1, h⟩ := h
      refine gCallIr (isC := [0, 1]) (wc := [(q_this, .inr (12, [.ref q_d, .ref q_kept, .int v_images, .ref q_found, .ref q_aside, .int v_base, .int v_at, .int v_size, .int v_fault, .int v_opened, .int v_isSeen, .ref q_names, .ref q_seenKept, .ref q_movedKept, .int v_isKeeping, .int v_bubbleMany, .int v_bubbleMost, .int v_bubbleCell, .int v_bestShown, .ref q_traced, .int v_traceMany, .int v_who, .ref q_bitsOf, .ref q_sizeOf, .ref q_number, .ref q_lifted])), (q_d, .inl (c 0, 244, .inl v_d))]) hP hD hS hA ⟨rfl, rfl, trivial⟩ (va_runV (rm := rm_X12_cells) (ws := wsX12_cells) (As := []) (rest := [.int x1]) (gFix hF) (c_X12_cells l D c q_this q_d q_kept q_found q_aside q_names q_seenKept q_movedKept q_traced q_bitsOf q_sizeOf q_number q_lifted v_images v_base v_at v_size v_fault v_opened v_isSeen v_isKeeping v_bubbleMany v_bubbleMost v_bubbleCell v_bestShown v_traceMany v_who v_d r_2 hc_1 H.size) (cwV 0 hts gX12_nightGoes_X12_cells rfl rfl rfl (by decide +kernel) ⟨Nat.le_of_ble_eq_true rfl, Nat.le_of_ble_eq_true rfl⟩) (gPreV (wc := [(q_this, .inr (12, [.ref q_d, .ref q_kept, .int v_images, .ref q_found, .ref q_aside, .int v_base, .int v_at, .int v_size, .int v_fault, .int v_opened, .int v_isSeen, .ref q_names, .ref q_seenKept, .ref q_movedKept, .int v_isKeeping, .int v_bubbleMany, .int v_bubbleMost, .int v_bubbleCell, .int v_bestShown, .ref q_traced, .int v_traceMany, .int v_who, .ref q_bitsOf, .ref q_sizeOf, .ref q_number, .ref q_lifted])), (q_d, .inl (c 0, 244, .inl v_d))]) (q := (RX12, TX12, 26)) (ci := 12) (q0 := 0) (isC := [0, 1]) hK hX hS hA hP hD ⟨rfl, rfl, trivial⟩ (by decide +kernel) rfl rfl) rfl rfl hl.1 rfl (lv_room (Nat.le_of_ble_eq_true rfl)) dX12_nightGoes_4 ⟨Nat.le_of_ble_eq_true rfl, Nat.le_of_ble_eq_true rfl⟩) (fun H locs hP hS => ?_)
      refine lv_icmp_ge (tgt := 83) hx hb dX12_nightGoes_7 (by decide) (fun c_3 => ?_) (fun c_3 => ?_)
      · replace h := it_t c_3 h
        refine lv_aload_n hx hb dX12_nightGoes_83 rfl (lv_at hl 0 rfl) ?_
        refine va_get (D := D) (ci := 12) (v := .ref q_d) (C := RX12) (T := TX12) (N := 26) hx hb hts in_X12_nightGoes_X12 hown hK.1 hP 0 rfl rfl 0 (by decide) (hts (.fieldLink RX12 7 "PaperBubblesModel" "d" "[I") (List.mem_of_getElem? (i := 1) rfl)) (fun _ h9 => h9) rfl dX12_nightGoes_84 ?_
        refine lv_iconst (v := 5) hx hb dX12_nightGoes_87 (by decide) ?_
        refine lv_dup2_11 hx hb dX12_nightGoes_88 rfl rfl ?_
        replace h := chi_ok h
        obtain ⟨hi_4, h⟩ := h
        refine va_iald hx hb hK.1 hP 1 0 rfl rfl hi_4 dX12_nightGoes_89 ?_
        replace h := nm_ok h
        obtain ⟨t_5, et_5, h⟩ := h
        refine gTop et_5 ?_
        refine lv_iconst (v := 1) hx hb dX12_nightGoes_90 (by decide) ?_
        refine lv_iadd hx hb dX12_nightGoes_91 ?_
        replace h := nm_ok h
        obtain ⟨t_6, et_6, h⟩ := h
        refine gTop et_6 ?_
        replace h := chi_ok h
        obtain ⟨hi_7, h⟩ := h
        replace h := nm_ok h
        obtain ⟨w_8, ew_8, h⟩ := h
        refine va_iast hx hb hK.1 hP hD hS 1 0 rfl rfl hi_7 dX12_nightGoes_92 (fun H locs hP hD hS => ?_)
        have hP : va_P D gcl [(q_this, .inr (12, [.ref q_d, .ref q_kept, .int v_images, .ref q_found, .ref q_aside, .int v_base, .int v_at, .int v_size, .int v_fault, .int v_opened, .int v_isSeen, .ref q_names, .ref q_seenKept, .ref q_movedKept, .int v_isKeeping, .int v_bubbleMany, .int v_bubbleMost, .int v_bubbleCell, .int v_bestShown, .ref q_traced, .int v_traceMany, .int v_who, .ref q_bitsOf, .ref q_sizeOf, .ref q_number, .ref q_lifted])), (q_d, .inl (c 0, 244, .inl w_8))] H := by subst ew_8; exact hP
        have hD : va_D A [(q_this, .inr (12, [.ref q_d, .ref q_kept, .int v_images, .ref q_found, .ref q_aside, .int v_base, .int v_at, .int v_size, .int v_fault, .int v_opened, .int v_isSeen, .ref q_names, .ref q_seenKept, .ref q_movedKept, .int v_isKeeping, .int v_bubbleMany, .int v_bubbleMost, .int v_bubbleCell, .int v_bestShown, .ref q_traced, .int v_traceMany, .int v_who, .ref q_bitsOf, .ref q_sizeOf, .ref q_number, .ref q_lifted])), (q_d, .inl (c 0, 244, .inl w_8))] := by subst ew_8; exact hD
        replace h := so1 h
        subst h
        exact gVret hF hP hD hS dX12_nightGoes_93
      · replace h := it_f c_3 h
        refine lv_aload_n hx hb dX12_nightGoes_10 rfl (lv_at hl 0 rfl) ?_
        refine va_get (D := D) (ci := 12) (v := .ref q_d) (C := RX12) (T := TX12) (N := 26) hx hb hts in_X12_nightGoes_X12 hown hK.1 hP 0 rfl rfl 0 (by decide) (hts (.fieldLink RX12 7 "PaperBubblesModel" "d" "[I") (List.mem_of_getElem? (i := 1) rfl)) (fun _ h9 => h9) rfl dX12_nightGoes_11 ?_
        refine lv_bipush (v := 10) hx hb dX12_nightGoes_14 (by decide) ?_
        refine lv_iload_n hx hb dX12_nightGoes_16 rfl (lv_at hl 1 rfl) ?_
        refine lv_iadd hx hb dX12_nightGoes_17 ?_
        replace h := nm_ok h
        obtain ⟨t_9, et_9, h⟩ := h
        refine gTop et_9 ?_
        replace h := chi_ok h
        obtain ⟨hi_10, h⟩ := h
        refine va_iald hx hb hK.1 hP 1 0 rfl rfl hi_10 dX12_nightGoes_18 ?_
        replace h := nm_ok h
        obtain ⟨t_11, et_11, h⟩ := h
        refine gTop et_11 ?_
        refine lv_aload_n hx hb dX12_nightGoes_19 rfl (lv_at hl 0 rfl) ?_
        refine va_get (D := D) (ci := 12) (v := .ref q_d) (C := RX12) (T := TX12) (N := 26) hx hb hts in_X12_nightGoes_X12 hown hK.1 hP 0 rfl rfl 0 (by decide) (hts (.fieldLink RX12 7 "PaperBubblesModel" "d" "[I") (List.mem_of_getElem? (i := 1) rfl)) (fun _ h9 => h9) rfl dX12_nightGoes_20 ?_
        refine lv_bipush (v := 35) hx hb dX12_nightGoes_23 (by decide) ?_
        refine lv_iload_n hx hb dX12_nightGoes_25 rfl (lv_at hl 1 rfl) ?_
        refine lv_iadd hx hb dX12_nightGoes_26 ?_
        replace h := nm_ok h
        obtain ⟨t_12, et_12, h⟩ := h
        refine gTop et_12 ?_
        replace h := chi_ok h
        obtain ⟨hi_13, h⟩ := h
        refine va_iald hx hb hK.1 hP 1 0 rfl rfl hi_13 dX12_nightGoes_27 ?_
        refine lv_isub hx hb dX12_nightGoes_28 ?_
        replace h := nm_ok h
        obtain ⟨t_14, et_14, h⟩ := h
        refine gTop et_14 ?_
        refine lv_istore_n (lv' := [(2, .int t_14), (0, .ref q_this), (1, .int x1)]) hx hb dX12_nightGoes_29 rfl hl (by decide) rfl (fun ls hl => ?_)
        refine lv_aload_n hx hb dX12_nightGoes_30 rfl (lv_at hl 1 rfl) ?_
        refine va_get (D := D) (ci := 12) (v := .ref q_d) (C := RX12) (T := TX12) (N := 26) hx hb hts in_X12_nightGoes_X12 hown hK.1 hP 0 rfl rfl 0 (by decide) (hts (.fieldLink RX12 7 "PaperBubblesModel" "d" "[I") (List.mem_of_getElem? (i := 1) rfl)) (fun _ h9 => h9) rfl dX12_nightGoes_31 ?_
        refine lv_bipush (v := 10) hx hb dX12_nightGoes_34 (by decide) ?_
        refine lv_iload_n hx hb dX12_nightGoes_36 rfl (lv_at hl 2 rfl) ?_
        refine lv_iadd hx hb dX12_nightGoes_37 ?_
        replace h := nm_ok h
        obtain ⟨t_15, et_15, h⟩ := h
        refine gTop et_15 ?_
        refine lv_iload_n hx hb dX12_nightGoes_38 rfl (lv_at hl 0 rfl) ?_
        refine lv_if_ge (tgt := 46) hx hb dX12_nightGoes_39 (by decide) (fun c_16 => ?_) (fun c_16 => ?_)
        · replace h := it_t c_16 h
          refine lv_iload_n hx hb dX12_nightGoes_46 rfl (lv_at hl 0 rfl) ?_
          exact t_L47 _ ih x1 t_15 t_14 v_d H locs hP hD hS ls (lv_sub hl [1, 2] rfl) h
        · replace h := it_f c_16 h
          refine lv_iconst (v := 0) hx hb dX12_nightGoes_42 (by decide) ?_
          refine lv_goto (tgt := 47) hx hb dX12_nightGoes_43 (by decide) ?_
          exact t_L47 _ ih x1 t_15 0 v_d H locs hP hD hS ls (lv_sub hl [1, 2] rfl) h
  unfold f_X12_nightGoes at h
  refine lv_iconst (v := 0) hx hb dX12_nightGoes_0 (by decide) ?_
  refine lv_istore_n (lv' := [(1, .int 0), (0, .ref q_this)]) hx hb dX12_nightGoes_1 rfl hl (by decide) rfl (fun ls hl => ?_)
  exact t_L2 gFuel 0 v_d s.heap [] hP hD hS ls (lv_sub hl [1, 0] rfl) h
set_option maxRecDepth 20000 in
theorem in_X12_check_X12 : ∀ w ∈ u_ws RX12 TX12 26, w ∈ wsX12_check := by decide +kernel
def f_X12_check_L68 (x2 : Int32) (v_aside : Nat → Int32) (v_d : Nat → Int32) : Option (Int32 × (Nat → Int32) × (Nat → Int32)) :=
  kb (f_X12_putBack 0 v_aside v_d) fun w_21 =>
  some (x2, v_aside, w_21)

def f_X12_check_L25 : Nat → Int32 → Int32 → Int32 → (Nat → Int32) → (Nat → Int32) → Option (Int32 × (Nat → Int32) × (Nat → Int32))
  | 0, _, _, _, _, _ => none
  | n + 1, x1, x2, x3, v_aside, v_d =>
    if x1 ≤ x3 then
      f_X12_check_L68 x2 v_aside v_d
    else
      if x2 = 0 then
        kb (f_X12_nightGoes v_d) fun w_10 =>
        nm (74 + x3 : Int32) fun t_11 =>
        chi t_11 244 <|
        nm (w_10 t_11.toNatClampNeg : Int32) fun t_13 =>
        kb (f_X12_allAir w_10) fun r_15 =>
        if t_13 = r_15 then
          nm (x3 + 1 : Int32) fun t_19 =>
          f_X12_check_L25 n x1 0 t_19 v_aside w_10
        else
          nm (1 + x3 : Int32) fun t_17 =>
          nm (x3 + 1 : Int32) fun t_18 =>
          f_X12_check_L25 n x1 t_17 t_18 v_aside w_10
      else
        f_X12_check_L68 x2 v_aside v_d

def f_X12_check (v_aside : Nat → Int32) (v_d : Nat → Int32) : Option (Int32 × (Nat → Int32) × (Nat → Int32)) :=
  chi 8 244 <|
  nm (v_d (8 : Int32).toNatClampNeg : Int32) fun t_2 =>
  chi 8 244 <|
  nm (upd v_d (8 : Int32).toNatClampNeg 0) fun w_4 =>
  kb (f_X12_keepAside 0 v_aside w_4) fun w_6 =>
  f_X12_check_L25 gFuel t_2 0 0 w_6 w_4

abbrev rm_X12_check : Room := { frames := 2, cells := 0, slots := 0, locals := 42 }
set_option maxHeartbeats 4000000 in
set_option maxRecDepth 100000 in
theorem c_X12_check (l : Launch) (D : va_G) (c : Nat → ClassId) (q_this q_d q_kept q_found q_aside q_names q_seenKept q_movedKept q_traced q_bitsOf q_sizeOf q_number q_lifted : Nat) (v_images : Int32) (v_base : Int32) (v_at : Int32) (v_size : Int32) (v_fault : Int32) (v_opened : Int32) (v_isSeen : Int32) (v_isKeeping : Int32) (v_bubbleMany : Int32) (v_bubbleMost : Int32) (v_bubbleCell : Int32) (v_bestShown : Int32) (v_traceMany : Int32) (v_who : Int32) (v_aside : Nat → Int32) (v_d : Nat → Int32) (o_r : Int32) (o_v_aside : Nat → Int32) (o_v_d : Nat → Int32) (h : f_X12_check v_aside v_d = some (o_r, o_v_aside, o_v_d)) : gMI l yX12_check wsX12_check rm_X12_check D c [.ref q_this] [(q_this, .inr (12, [.ref q_d, .ref q_kept, .int v_images, .ref q_found, .ref q_aside, .int v_base, .int v_at, .int v_size, .int v_fault, .int v_opened, .int v_isSeen, .ref q_names, .ref q_seenKept, .ref q_movedKept, .int v_isKeeping, .int v_bubbleMany, .int v_bubbleMost, .int v_bubbleCell, .int v_bestShown, .ref q_traced, .int v_traceMany, .int v_who, .ref q_bitsOf, .ref q_sizeOf, .ref q_number, .ref q_lifted])), (q_aside, .inl (c 0, 120, .inl v_aside)), (q_d, .inl (c 0, 244, .inl v_d))] [(q_this, .inr (12, [.ref q_d, .ref q_kept, .int v_images, .ref q_found, .ref q_aside, .int v_base, .int v_at, .int v_size, .int v_fault, .int v_opened, .int v_isSeen, .ref q_names, .ref q_seenKept, .ref q_movedKept, .int v_isKeeping, .int v_bubbleMany, .int v_bubbleMost, .int v_bubbleCell, .int v_bestShown, .ref q_traced, .int v_traceMany, .int v_who, .ref q_bitsOf, .ref q_sizeOf, .ref q_number, .ref q_lifted])), (q_aside, .inl (c 0, 120, .inl o_v_aside)), (q_d, .inl (c 0, 244, .inl o_v_d))] o_r := by
  refine gMI_of (cc := cX12_check) (maxL := 4) (rt := (some .int)) (by decide +kernel) rfl (Nat.le_of_ble_eq_true rfl) ?_
  intro p e s m below meth co A hF hK hX hP hD hA hS ls hl
  obtain ⟨hx, hb, hr, hts, hown, hlocks, hml⟩ := id hF
  have hl : lv_has ls 4 [(0, .ref q_this)] := hl
  have t_L68 : ∀ (x2 : Int32) (v_aside : Nat → Int32) (v_d : Nat → Int32) (H : Heap) (locs : List Loc), va_P D gcl [(q_this, .inr (12, [.ref q_d, .ref q_kept, .int v_images, .ref q_found, .ref q_aside, .int v_base, .int v_at, .int v_size, .int v_fault, .int v_opened, .int v_isSeen, .ref q_names, .ref q_seenKept, .ref q_movedKept, .int v_isKeeping, .int v_bubbleMany, .int v_bubbleMost, .int v_bubbleCell, .int v_bestShown, .ref q_traced, .int v_traceMany, .int v_who, .ref q_bitsOf, .ref q_sizeOf, .ref q_number, .ref q_lifted])), (q_aside, .inl (c 0, 120, .inl v_aside)), (q_d, .inl (c 0, 244, .inl v_d))] H → va_D A [(q_this, .inr (12, [.ref q_d, .ref q_kept, .int v_images, .ref q_found, .ref q_aside, .int v_base, .int v_at, .int v_size, .int v_fault, .int v_opened, .int v_isSeen, .ref q_names, .ref q_seenKept, .ref q_movedKept, .int v_isKeeping, .int v_bubbleMany, .int v_bubbleMost, .int v_bubbleCell, .int v_bestShown, .ref q_traced, .int v_traceMany, .int v_who, .ref q_bitsOf, .ref q_sizeOf, .ref q_number, .ref q_lifted])), (q_aside, .inl (c 0, 120, .inl v_aside)), (q_d, .inl (c 0, 244, .inl v_d))] → va_S A s.heap H locs → ∀ ls, lv_has ls 4 [(0, .ref q_this), (2, .int x2)] → f_X12_check_L68 x2 v_aside v_d = some (o_r, o_v_aside, o_v_d) → W p l e (headSpec wsX12_check rm_X12_check).room s m [.ref q_this].toArray below meth co H locs 0 0 (gQI D [(q_this, .inr (12, [.ref q_d, .ref q_kept, .int v_images, .ref q_found, .ref q_aside, .int v_base, .int v_at, .int v_size, .int v_fault, .int v_opened, .int v_isSeen, .ref q_names, .ref q_seenKept, .ref q_movedKept, .int v_isKeeping, .int v_bubbleMany, .int v_bubbleMost, .int v_bubbleCell, .int v_bestShown, .ref q_traced, .int v_traceMany, .int v_who, .ref q_bitsOf, .ref q_sizeOf, .ref q_number, .ref q_lifted])), (q_aside, .inl (c 0, 120, .inl o_v_aside)), (q_d, .inl (c 0, 244, .inl o_v_d))] o_r A below [.ref q_this] s) (F0 m 68 ls []) := by
    intro  x2 v_aside v_d H locs hP hD hS ls hl h
    unfold f_X12_check_L68 at h
    refine lv_aload_n hx hb dX12_check_68 rfl (lv_at hl 0 rfl) ?_
    refine lv_iconst (v := 0) hx hb dX12_check_69 (by decide) ?_
    replace h := kb_ok h
    obtain ⟨w_21, hc_20, h⟩ := h
    refine gCallV (isC := [0, 1, 2]) (wc := [(q_this, .inr (12, [.ref q_d, .ref q_kept, .int v_images, .ref q_found, .ref q_aside, .int v_base, .int v_at, .int v_size, .int v_fault, .int v_opened, .int v_isSeen, .ref q_names, .ref q_seenKept, .ref q_movedKept, .int v_isKeeping, .int v_bubbleMany, .int v_bubbleMost, .int v_bubbleCell, .int v_bestShown, .ref q_traced, .int v_traceMany, .int v_who, .ref q_bitsOf, .ref q_sizeOf, .ref q_number, .ref q_lifted])), (q_aside, .inl (c 0, 120, .inl v_aside)), (q_d, .inl (c 0, 244, .inl v_d))]) (w1 := [(q_this, .inr (12, [.ref q_d, .ref q_kept, .int v_images, .ref q_found, .ref q_aside, .int v_base, .int v_at, .int v_size, .int v_fault, .int v_opened, .int v_isSeen, .ref q_names, .ref q_seenKept, .ref q_movedKept, .int v_isKeeping, .int v_bubbleMany, .int v_bubbleMost, .int v_bubbleCell, .int v_bestShown, .ref q_traced, .int v_traceMany, .int v_who, .ref q_bitsOf, .ref q_sizeOf, .ref q_number, .ref q_lifted])), (q_aside, .inl (c 0, 120, .inl v_aside)), (q_d, .inl (c 0, 244, .inl w_21))]) (ws2 := [(q_this, .inr (12, [.ref q_d, .ref q_kept, .int v_images, .ref q_found, .ref q_aside, .int v_base, .int v_at, .int v_size, .int v_fault, .int v_opened, .int v_isSeen, .ref q_names, .ref q_seenKept, .ref q_movedKept, .int v_isKeeping, .int v_bubbleMany, .int v_bubbleMost, .int v_bubbleCell, .int v_bestShown, .ref q_traced, .int v_traceMany, .int v_who, .ref q_bitsOf, .ref q_sizeOf, .ref q_number, .ref q_lifted])), (q_aside, .inl (c 0, 120, .inl v_aside)), (q_d, .inl (c 0, 244, .inl w_21))]) (ms := [(some 0), (some 1), (some 2)]) hP hD hS hA ⟨rfl, rfl, rfl, trivial⟩ (by decide +kernel) ⟨rfl, rfl, rfl, trivial⟩ (va_runV (rm := rm_X12_putBack) (ws := wsX12_putBack) (As := [.int 0]) (rest := []) (gFix hF) (c_X12_putBack l D c q_this q_d q_kept q_found q_aside q_names q_seenKept q_movedKept q_traced q_bitsOf q_sizeOf q_number q_lifted 0 v_images v_base v_at v_size v_fault v_opened v_isSeen v_isKeeping v_bubbleMany v_bubbleMost v_bubbleCell v_bestShown v_traceMany v_who v_aside v_d w_21 hc_20 H.size) (cwV 1 hts gX12_check_X12_putBack rfl rfl rfl (by decide +kernel) ⟨Nat.le_of_ble_eq_true rfl, Nat.le_of_ble_eq_true rfl⟩) (gPreV (wc := [(q_this, .inr (12, [.ref q_d, .ref q_kept, .int v_images, .ref q_found, .ref q_aside, .int v_base, .int v_at, .int v_size, .int v_fault, .int v_opened, .int v_isSeen, .ref q_names, .ref q_seenKept, .ref q_movedKept, .int v_isKeeping, .int v_bubbleMany, .int v_bubbleMost, .int v_bubbleCell, .int v_bestShown, .ref q_traced, .int v_traceMany, .int v_who, .ref q_bitsOf, .ref q_sizeOf, .ref q_number, .ref q_lifted])), (q_aside, .inl (c 0, 120, .inl v_aside)), (q_d, .inl (c 0, 244, .inl v_d))]) (q := (RX12, TX12, 26)) (ci := 12) (q0 := 0) (isC := [0, 1, 2]) hK hX hS hA hP hD ⟨rfl, rfl, rfl, trivial⟩ (by decide +kernel) rfl rfl) rfl rfl hl.1 rfl (lv_room (Nat.le_of_ble_eq_true rfl)) dX12_check_70 ⟨Nat.le_of_ble_eq_true rfl, Nat.le_of_ble_eq_true rfl⟩) (fun H locs hP hD hS => ?_)
    refine lv_iload_n hx hb dX12_check_73 rfl (lv_at hl 1 rfl) ?_
    replace h := so3 h
    obtain ⟨z0, z1, z2⟩ := h
    subst z0 z1 z2
    exact gIret hF hP hD hS rfl dX12_check_74
  have t_L25 : ∀ (n : Nat), ∀ (x1 : Int32) (x2 : Int32) (x3 : Int32) (v_aside : Nat → Int32) (v_d : Nat → Int32) (H : Heap) (locs : List Loc), va_P D gcl [(q_this, .inr (12, [.ref q_d, .ref q_kept, .int v_images, .ref q_found, .ref q_aside, .int v_base, .int v_at, .int v_size, .int v_fault, .int v_opened, .int v_isSeen, .ref q_names, .ref q_seenKept, .ref q_movedKept, .int v_isKeeping, .int v_bubbleMany, .int v_bubbleMost, .int v_bubbleCell, .int v_bestShown, .ref q_traced, .int v_traceMany, .int v_who, .ref q_bitsOf, .ref q_sizeOf, .ref q_number, .ref q_lifted])), (q_aside, .inl (c 0, 120, .inl v_aside)), (q_d, .inl (c 0, 244, .inl v_d))] H → va_D A [(q_this, .inr (12, [.ref q_d, .ref q_kept, .int v_images, .ref q_found, .ref q_aside, .int v_base, .int v_at, .int v_size, .int v_fault, .int v_opened, .int v_isSeen, .ref q_names, .ref q_seenKept, .ref q_movedKept, .int v_isKeeping, .int v_bubbleMany, .int v_bubbleMost, .int v_bubbleCell, .int v_bestShown, .ref q_traced, .int v_traceMany, .int v_who, .ref q_bitsOf, .ref q_sizeOf, .ref q_number, .ref q_lifted])), (q_aside, .inl (c 0, 120, .inl v_aside)), (q_d, .inl (c 0, 244, .inl v_d))] → va_S A s.heap H locs → ∀ ls, lv_has ls 4 [(0, .ref q_this), (1, .int x1), (2, .int x2), (3, .int x3)] → f_X12_check_L25 n x1 x2 x3 v_aside v_d = some (o_r, o_v_aside, o_v_d) → W p l e (headSpec wsX12_check rm_X12_check).room s m [.ref q_this].toArray below meth co H locs 0 0 (gQI D [(q_this, .inr (12, [.ref q_d, .ref q_kept, .int v_images, .ref q_found, .ref q_aside, .int v_base, .int v_at, .int v_size, .int v_fault, .int v_opened, .int v_isSeen, .ref q_names, .ref q_seenKept, .ref q_movedKept, .int v_isKeeping, .int v_bubbleMany, .int v_bubbleMost, .int v_bubbleCell, .int v_bestShown, .ref q_traced, .int v_traceMany, .int v_who, .ref q_bitsOf, .ref q_sizeOf, .ref q_number, .ref q_lifted])), (q_aside, .inl (c 0, 120, .inl o_v_aside)), (q_d, .inl (c 0, 244, .inl o_v_d))] o_r A below [.ref q_this] s) (F0 m 25 ls []) := by
    intro n
    induction n with
    | zero => intro x1 x2 x3 v_aside v_d H locs hP hD hS ls hl h; exact no_ok h
    | succ n ih =>
      intro x1 x2 x3 v_aside v_d H locs hP hD hS ls hl h
      rw [f_X12_check_L25] at h
      refine lv_iload_n hx hb dX12_check_25 rfl (lv_at hl 3 rfl) ?_
      refine lv_iload_n hx hb dX12_check_26 rfl (lv_at hl 1 rfl) ?_
      refine lv_icmp_ge (tgt := 68) hx hb dX12_check_27 (by decide) (fun c_7 => ?_) (fun c_7 => ?_)
      · replace h := it_t c_7 h
        exact t_L68 x2 v_aside v_d H locs hP hD hS ls (lv_sub hl [0, 2] rfl) h
      · replace h := it_f c_7 h
        refine lv_iload_n hx hb dX12_check_30 rfl (lv_at hl 2 rfl) ?_
        refine lv_if_ne (tgt := 68) hx hb dX12_check_31 (by decide) (fun c_8 => ?_) (fun c_8 => ?_)
        · replace h := it_f c_8 h
          exact t_L68 x2 v_aside v_d H locs hP hD hS ls (lv_sub hl [0, 2] rfl) h
        · replace h := it_t c_8 h
          refine lv_aload_n hx hb dX12_check_34 rfl (lv_at hl 0 rfl) ?_
          replace h := kb_ok h
          obtain ⟨w_10, hc_9, h⟩ := h
          refine gCallV (isC := [0, 2]) (wc := [(q_this, .inr (12, [.ref q_d, .ref q_kept, .int v_images, .ref q_found, .ref q_aside, .int v_base, .int v_at, .int v_size, .int v_fault, .int v_opened, .int v_isSeen, .ref q_names, .ref q_seenKept, .ref q_movedKept, .int v_isKeeping, .int v_bubbleMany, .int v_bubbleMost, .int v_bubbleCell, .int v_bestShown, .ref q_traced, .int v_traceMany, .int v_who, .ref q_bitsOf, .ref q_sizeOf, .ref q_number, .ref q_lifted])), (q_d, .inl (c 0, 244, .inl v_d))]) (w1 := [(q_this, .inr (12, [.ref q_d, .ref q_kept, .int v_images, .ref q_found, .ref q_aside, .int v_base, .int v_at, .int v_size, .int v_fault, .int v_opened, .int v_isSeen, .ref q_names, .ref q_seenKept, .ref q_movedKept, .int v_isKeeping, .int v_bubbleMany, .int v_bubbleMost, .int v_bubbleCell, .int v_bestShown, .ref q_traced, .int v_traceMany, .int v_who, .ref q_bitsOf, .ref q_sizeOf, .ref q_number, .ref q_lifted])), (q_d, .inl (c 0, 244, .inl w_10))]) (ws2 := [(q_this, .inr (12, [.ref q_d, .ref q_kept, .int v_images, .ref q_found, .ref q_aside, .int v_base, .int v_at, .int v_size, .int v_fault, .int v_opened, .int v_isSeen, .ref q_names, .ref q_seenKept, .ref q_movedKept, .int v_isKeeping, .int v_bubbleMany, .int v_bubbleMost, .int v_bubbleCell, .int v_bestShown, .ref q_traced, .int v_traceMany, .int v_who, .ref q_bitsOf, .ref q_sizeOf, .ref q_number, .ref q_lifted])), (q_aside, .inl (c 0, 120, .inl v_aside)), (q_d, .inl (c 0, 244, .inl w_10))]) (ms := [(some 0), none, (some 1)]) hP hD hS hA ⟨rfl, rfl, trivial⟩ (by decide +kernel) ⟨rfl, rfl, rfl, trivial⟩ (va_runV (rm := rm_X12_nightGoes) (ws := wsX12_nightGoes) (As := []) (rest := []) (gFix hF) (c_X12_nightGoes l D c q_this q_d q_kept q_found q_aside q_names q_seenKept q_movedKept q_traced q_bitsOf q_sizeOf q_number q_lifted v_images v_base v_at v_size v_fault v_opened v_isSeen v_isKeeping v_bubbleMany v_bubbleMost v_bubbleCell v_bestShown v_traceMany v_who v_d w_10 hc_9 H.size) (cwV 0 hts gX12_check_X12_nightGoes rfl rfl rfl (by decide +kernel) ⟨Nat.le_of_ble_eq_true rfl, Nat.le_of_ble_eq_true rfl⟩) (gPreV (wc := [(q_this, .inr (12, [.ref q_d, .ref q_kept, .int v_images, .ref q_found, .ref q_aside, .int v_base, .int v_at, .int v_size, .int v_fault, .int v_opened, .int v_isSeen, .ref q_names, .ref q_seenKept, .ref q_movedKept, .int v_isKeeping, .int v_bubbleMany, .int v_bubbleMost, .int v_bubbleCell, .int v_bestShown, .ref q_traced, .int v_traceMany, .int v_who, .ref q_bitsOf, .ref q_sizeOf, .ref q_number, .ref q_lifted])), (q_d, .inl (c 0, 244, .inl v_d))]) (q := (RX12, TX12, 26)) (ci := 12) (q0 := 0) (isC := [0, 2]) hK hX hS hA hP hD ⟨rfl, rfl, trivial⟩ (by decide +kernel) rfl rfl) rfl rfl hl.1 rfl (lv_room (Nat.le_of_ble_eq_true rfl)) dX12_check_35 ⟨Nat.le_of_ble_eq_true rfl, Nat.le_of_ble_eq_true rfl⟩) (fun H locs hP hD hS => ?_)
          refine lv_aload_n hx hb dX12_check_38 rfl (lv_at hl 0 rfl) ?_
          refine va_get (D := D) (ci := 12) (v := .ref q_d) (C := RX12) (T := TX12) (N := 26) hx hb hts in_X12_check_X12 hown hK.1 hP 0 rfl rfl 0 (by decide) (hts (.fieldLink RX12 7 "PaperBubblesModel" "d" "[I") (List.mem_of_getElem? (i := 1) rfl)) (fun _ h9 => h9) rfl dX12_check_39 ?_
          refine lv_bipush (v := 74) hx hb dX12_check_42 (by decide) ?_
          refine lv_iload_n hx hb dX12_check_44 rfl (lv_at hl 3 rfl) ?_
          refine lv_iadd hx hb dX12_check_45 ?_
          replace h := nm_ok h
          obtain ⟨t_11, et_11, h⟩ := h
          refine gTop et_11 ?_
          replace h := chi_ok h
          obtain ⟨hi_12, h⟩ := h
          refine va_iald hx hb hK.1 hP 2 0 rfl rfl hi_12 dX12_check_46 ?_
          replace h := nm_ok h
          obtain ⟨t_13, et_13, h⟩ := h
          refine gTop et_13 ?_
          refine lv_aload_n hx hb dX12_check_47 rfl (lv_at hl 0 rfl) ?_
          replace h := kb_ok h
          obtain ⟨r_15, hc_14, h⟩ := h
          refine gCallIr (isC := [0, 2]) (wc := [(q_this, .inr (12, [.ref q_d, .ref q_kept, .int v_images, .ref q_found, .ref q_aside, .int v_base, .int v_at, .int v_size, .int v_fault, .int v_opened, .int v_isSeen, .ref q_names, .ref q_seenKept, .ref q_movedKept, .int v_isKeeping, .int v_bubbleMany, .int v_bubbleMost, .int v_bubbleCell, .int v_bestShown, .ref q_traced, .int v_traceMany, .int v_who, .ref q_bitsOf, .ref q_sizeOf, .ref q_number, .ref q_lifted])), (q_d, .inl (c 0, 244, .inl w_10))]) hP hD hS hA ⟨rfl, rfl, trivial⟩ (va_runV (rm := rm_X12_allAir) (ws := wsX12_allAir) (As := []) (rest := [.int t_13]) (gFix hF) (c_X12_allAir l D c q_this q_d q_kept q_found q_aside q_names q_seenKept q_movedKept q_traced q_bitsOf q_sizeOf q_number q_lifted v_images v_base v_at v_size v_fault v_opened v_isSeen v_isKeeping v_bubbleMany v_bubbleMost v_bubbleCell v_bestShown v_traceMany v_who w_10 r_15 hc_14 H.size) (cwV 0 hts gX12_check_X12_allAir rfl rfl rfl (by decide +kernel) ⟨Nat.le_of_ble_eq_true rfl, Nat.le_of_ble_eq_true rfl⟩) (gPreV (wc := [(q_this, .inr (12, [.ref q_d, .ref q_kept, .int v_images, .ref q_found, .ref q_aside, .int v_base, .int v_at, .int v_size, .int v_fault, .int v_opened, .int v_isSeen, .ref q_names, .ref q_seenKept, .ref q_movedKept, .int v_isKeeping, .int v_bubbleMany, .int v_bubbleMost, .int v_bubbleCell, .int v_bestShown, .ref q_traced, .int v_traceMany, .int v_who, .ref q_bitsOf, .ref q_sizeOf, .ref q_number, .ref q_lifted])), (q_d, .inl (c 0, 244, .inl w_10))]) (q := (RX12, TX12, 26)) (ci := 12) (q0 := 0) (isC := [0, 2]) hK hX hS hA hP hD ⟨rfl, rfl, trivial⟩ (by decide +kernel) rfl rfl) rfl rfl hl.1 rfl (lv_room (Nat.le_of_ble_eq_true rfl)) dX12_check_48 ⟨Nat.le_of_ble_eq_true rfl, Nat.le_of_ble_eq_true rfl⟩) (fun H locs hP hS => ?_)
          refine lv_icmp_ne (tgt := 58) hx hb dX12_check_51 (by decide) (fun c_16 => ?_) (fun c_16 => ?_)
          · replace h := it_f c_16 h
            refine lv_iconst (v := 1) hx hb dX12_check_58 (by decide) ?_
            refine lv_iload_n hx hb dX12_check_59 rfl (lv_at hl 3 rfl) ?_
            refine lv_iadd hx hb dX12_check_60 ?_
            replace h := nm_ok h
            obtain ⟨t_17, et_17, h⟩ := h
            refine gTop et_17 ?_
            refine lv_istore_n (lv' := [(2, .int t_17), (0, .ref q_this), (1, .int x1), (3, .int x3)]) hx hb dX12_check_61 rfl hl (by decide) rfl (fun ls hl => ?_)
            replace h := nm_ok h
            obtain ⟨t_18, et_18, h⟩ := h
            refine lv_iinc (v := t_18) (lv' := [(3, .int t_18), (2, .int t_17), (0, .ref q_this), (1, .int x1)]) hx hb dX12_check_62 hl (k := 3) rfl (by rw [et_18]; rfl) (by decide) rfl (fun ls hl => ?_)
            refine lv_goto (tgt := 25) hx hb dX12_check_65 (by decide) ?_
            exact ih x1 t_17 t_18 v_aside w_10 H locs hP hD hS ls (lv_sub hl [2, 3, 1, 0] rfl) h
          · replace h := it_t c_16 h
            refine lv_iconst (v := 0) hx hb dX12_check_54 (by decide) ?_
            refine lv_goto (tgt := 61) hx hb dX12_check_55 (by decide) ?_
            refine lv_istore_n (lv' := [(2, .int 0), (0, .ref q_this), (1, .int x1), (3, .int x3)]) hx hb dX12_check_61 rfl hl (by decide) rfl (fun ls hl => ?_)
            replace h := nm_ok h
            obtain ⟨t_19, et_19, h⟩ := h
            refine lv_iinc (v := t_19) (lv' := [(3, .int t_19), (2, .int 0), (0, .ref q_this), (1, .int x1)]) hx hb dX12_check_62 hl (k := 3) rfl (by rw [et_19]; rfl) (by decide) rfl (fun ls hl => ?_)
            refine lv_goto (tgt := 25) hx hb dX12_check_65 (by decide) ?_
            exact ih x1 0 t_19 v_aside w_10 H locs hP hD hS ls (lv_sub hl [2, 3, 1, 0] rfl) h
  unfold f_X12_check at h
  refine lv_aload_n hx hb dX12_check_0 rfl (lv_at hl 0 rfl) ?_
  refine va_get (D := D) (ci := 12) (v := .ref q_d) (C := RX12) (T := TX12) (N := 26) hx hb hts in_X12_check_X12 hown hK.1 hP 0 rfl rfl 0 (by decide) (hts (.fieldLink RX12 7 "PaperBubblesModel" "d" "[I") (List.mem_of_getElem? (i := 1) rfl)) (fun _ h9 => h9) rfl dX12_check_1 ?_
  refine lv_bipush (v := 8) hx hb dX12_check_4 (by decide) ?_
  replace h := chi_ok h
  obtain ⟨hi_1, h⟩ := h
  refine va_iald hx hb hK.1 hP 2 0 rfl rfl hi_1 dX12_check_6 ?_
  replace h := nm_ok h
  obtain ⟨t_2, et_2, h⟩ := h
  refine gTop et_2 ?_
  refine lv_istore_n (lv' := [(1, .int t_2), (0, .ref q_this)]) hx hb dX12_check_7 rfl hl (by decide) rfl (fun ls hl => ?_)
  refine lv_aload_n hx hb dX12_check_8 rfl (lv_at hl 1 rfl) ?_
  refine va_get (D := D) (ci := 12) (v := .ref q_d) (C := RX12) (T := TX12) (N := 26) hx hb hts in_X12_check_X12 hown hK.1 hP 0 rfl rfl 0 (by decide) (hts (.fieldLink RX12 7 "PaperBubblesModel" "d" "[I") (List.mem_of_getElem? (i := 1) rfl)) (fun _ h9 => h9) rfl dX12_check_9 ?_
  refine lv_bipush (v := 8) hx hb dX12_check_12 (by decide) ?_
  refine lv_iconst (v := 0) hx hb dX12_check_14 (by decide) ?_
  replace h := chi_ok h
  obtain ⟨hi_3, h⟩ := h
  replace h := nm_ok h
  obtain ⟨w_4, ew_4, h⟩ := h
  refine va_iast hx hb hK.1 hP hD hS 2 0 rfl rfl hi_3 dX12_check_15 (fun H locs hP hD hS => ?_)
  have hP : va_P D gcl [(q_this, .inr (12, [.ref q_d, .ref q_kept, .int v_images, .ref q_found, .ref q_aside, .int v_base, .int v_at, .int v_size, .int v_fault, .int v_opened, .int v_isSeen, .ref q_names, .ref q_seenKept, .ref q_movedKept, .int v_isKeeping, .int v_bubbleMany, .int v_bubbleMost, .int v_bubbleCell, .int v_bestShown, .ref q_traced, .int v_traceMany, .int v_who, .ref q_bitsOf, .ref q_sizeOf, .ref q_number, .ref q_lifted])), (q_aside, .inl (c 0, 120, .inl v_aside)), (q_d, .inl (c 0, 244, .inl w_4))] H := by subst ew_4; exact hP
  have hD : va_D A [(q_this, .inr (12, [.ref q_d, .ref q_kept, .int v_images, .ref q_found, .ref q_aside, .int v_base, .int v_at, .int v_size, .int v_fault, .int v_opened, .int v_isSeen, .ref q_names, .ref q_seenKept, .ref q_movedKept, .int v_isKeeping, .int v_bubbleMany, .int v_bubbleMost, .int v_bubbleCell, .int v_bestShown, .ref q_traced, .int v_traceMany, .int v_who, .ref q_bitsOf, .ref q_sizeOf, .ref q_number, .ref q_lifted])), (q_aside, .inl (c 0, 120, .inl v_aside)), (q_d, .inl (c 0, 244, .inl w_4))] := by subst ew_4; exact hD
  refine lv_aload_n hx hb dX12_check_16 rfl (lv_at hl 1 rfl) ?_
  refine lv_iconst (v := 0) hx hb dX12_check_17 (by decide) ?_
  replace h := kb_ok h
  obtain ⟨w_6, hc_5, h⟩ := h
  refine gCallV (isC := [0, 1, 2]) (wc := [(q_this, .inr (12, [.ref q_d, .ref q_kept, .int v_images, .ref q_found, .ref q_aside, .int v_base, .int v_at, .int v_size, .int v_fault, .int v_opened, .int v_isSeen, .ref q_names, .ref q_seenKept, .ref q_movedKept, .int v_isKeeping, .int v_bubbleMany, .int v_bubbleMost, .int v_bubbleCell, .int v_bestShown, .ref q_traced, .int v_traceMany, .int v_who, .ref q_bitsOf, .ref q_sizeOf, .ref q_number, .ref q_lifted])), (q_aside, .inl (c 0, 120, .inl v_aside)), (q_d, .inl (c 0, 244, .inl w_4))]) (w1 := [(q_this, .inr (12, [.ref q_d, .ref q_kept, .int v_images, .ref q_found, .ref q_aside, .int v_base, .int v_at, .int v_size, .int v_fault, .int v_opened, .int v_isSeen, .ref q_names, .ref q_seenKept, .ref q_movedKept, .int v_isKeeping, .int v_bubbleMany, .int v_bubbleMost, .int v_bubbleCell, .int v_bestShown, .ref q_traced, .int v_traceMany, .int v_who, .ref q_bitsOf, .ref q_sizeOf, .ref q_number, .ref q_lifted])), (q_aside, .inl (c 0, 120, .inl w_6)), (q_d, .inl (c 0, 244, .inl w_4))]) (ws2 := [(q_this, .inr (12, [.ref q_d, .ref q_kept, .int v_images, .ref q_found, .ref q_aside, .int v_base, .int v_at, .int v_size, .int v_fault, .int v_opened, .int v_isSeen, .ref q_names, .ref q_seenKept, .ref q_movedKept, .int v_isKeeping, .int v_bubbleMany, .int v_bubbleMost, .int v_bubbleCell, .int v_bestShown, .ref q_traced, .int v_traceMany, .int v_who, .ref q_bitsOf, .ref q_sizeOf, .ref q_number, .ref q_lifted])), (q_aside, .inl (c 0, 120, .inl w_6)), (q_d, .inl (c 0, 244, .inl w_4))]) (ms := [(some 0), (some 1), (some 2)]) hP hD hS hA ⟨rfl, rfl, rfl, trivial⟩ (by decide +kernel) ⟨rfl, rfl, rfl, trivial⟩ (va_runV (rm := rm_X12_keepAside) (ws := wsX12_keepAside) (As := [.int 0]) (rest := []) (gFix hF) (c_X12_keepAside l D c q_this q_d q_kept q_found q_aside q_names q_seenKept q_movedKept q_traced q_bitsOf q_sizeOf q_number q_lifted 0 v_images v_base v_at v_size v_fault v_opened v_isSeen v_isKeeping v_bubbleMany v_bubbleMost v_bubbleCell v_bestShown v_traceMany v_who v_aside w_4 w_6 hc_5 H.size) (cwV 1 hts gX12_check_X12_keepAside rfl rfl rfl (by decide +kernel) ⟨Nat.le_of_ble_eq_true rfl, Nat.le_of_ble_eq_true rfl⟩) (gPreV (wc := [(q_this, .inr (12, [.ref q_d, .ref q_kept, .int v_images, .ref q_found, .ref q_aside, .int v_base, .int v_at, .int v_size, .int v_fault, .int v_opened, .int v_isSeen, .ref q_names, .ref q_seenKept, .ref q_movedKept, .int v_isKeeping, .int v_bubbleMany, .int v_bubbleMost, .int v_bubbleCell, .int v_bestShown, .ref q_traced, .int v_traceMany, .int v_who, .ref q_bitsOf, .ref q_sizeOf, .ref q_number, .ref q_lifted])), (q_aside, .inl (c 0, 120, .inl v_aside)), (q_d, .inl (c 0, 244, .inl w_4))]) (q := (RX12, TX12, 26)) (ci := 12) (q0 := 0) (isC := [0, 1, 2]) hK hX hS hA hP hD ⟨rfl, rfl, rfl, trivial⟩ (by decide +kernel) rfl rfl) rfl rfl hl.1 rfl (lv_room (Nat.le_of_ble_eq_true rfl)) dX12_check_18 ⟨Nat.le_of_ble_eq_true rfl, Nat.le_of_ble_eq_true rfl⟩) (fun H locs hP hD hS => ?_)
  refine lv_iconst (v := 0) hx hb dX12_check_21 (by decide) ?_
  refine lv_istore_n (lv' := [(2, .int 0), (1, .int t_2), (0, .ref q_this)]) hx hb dX12_check_22 rfl hl (by decide) rfl (fun ls hl => ?_)
  refine lv_iconst (v := 0) hx hb dX12_check_23 (by decide) ?_
  refine lv_istore_n (lv' := [(3, .int 0), (2, .int 0), (1, .int t_2), (0, .ref q_this)]) hx hb dX12_check_24 rfl hl (by decide) rfl (fun ls hl => ?_)
  exact t_L25 gFuel t_2 0 0 w_6 w_4 H locs hP hD hS ls (lv_sub hl [3, 2, 1, 0] rfl) h
