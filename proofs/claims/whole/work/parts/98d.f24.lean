set_option maxRecDepth 20000 in
theorem in_X12_ofCell_X12 : ∀ w ∈ u_ws RX12 TX12 26, w ∈ wsX12_ofCell := by decide +kernel
abbrev rm_X12_ofCell : Room := { frames := 57, cells := 0, slots := 0, locals := 1305 }
set_option maxHeartbeats 4000000 in
set_option maxRecDepth 100000 in
theorem c_X12_ofCell (l : Launch) (D : va_G) (c : Nat → ClassId) (q_this q_d q_kept q_found q_aside q_names q_seenKept q_movedKept q_traced q_bitsOf q_sizeOf q_number q_lifted : Nat) (a_1 : Int32) (a_2 : Int32) (v_images : Int32) (v_base : Int32) (v_at : Int32) (v_size : Int32) (v_fault : Int32) (v_opened : Int32) (v_isSeen : Int32) (v_isKeeping : Int32) (v_bubbleMany : Int32) (v_bubbleMost : Int32) (v_bubbleCell : Int32) (v_bestShown : Int32) (v_traceMany : Int32) (v_who : Int32) (v_d : Nat → Int32) (v_found : Nat → Int32) (v_names : Nat → Int32) (v_seenKept : Nat → Int32) (o_r : Int32) (o_v_base : Int32) (o_v_at : Int32) (o_v_size : Int32) (o_v_fault : Int32) (o_v_opened : Int32) (o_v_isSeen : Int32) (o_v_found : Nat → Int32) (o_v_names : Nat → Int32) (o_v_seenKept : Nat → Int32) (h : f_X12_ofCell a_1 a_2 v_base v_at v_size v_fault v_opened v_isSeen v_isKeeping v_d v_found v_names v_seenKept = some (o_r, o_v_base, o_v_at, o_v_size, o_v_fault, o_v_opened, o_v_isSeen, o_v_found, o_v_names, o_v_seenKept)) : gMI l yX12_ofCell wsX12_ofCell rm_X12_ofCell D c [.ref q_this, .int a_1, .int a_2] [(q_this, .inr (12, [.ref q_d, .ref q_kept, .int v_images, .ref q_found, .ref q_aside, .int v_base, .int v_at, .int v_size, .int v_fault, .int v_opened, .int v_isSeen, .ref q_names, .ref q_seenKept, .ref q_movedKept, .int v_isKeeping, .int v_bubbleMany, .int v_bubbleMost, .int v_bubbleCell, .int v_bestShown, .ref q_traced, .int v_traceMany, .int v_who, .ref q_bitsOf, .ref q_sizeOf, .ref q_number, .ref q_lifted])), (q_d, .inl (c 0, 244, .inl v_d)), (q_found, .inl (c 0, 6, .inl v_found)), (q_names, .inl (c 0, 3, .inl v_names)), (q_seenKept, .inl (c 0, 2500, .inl v_seenKept))] [(q_this, .inr (12, [.ref q_d, .ref q_kept, .int v_images, .ref q_found, .ref q_aside, .int o_v_base, .int o_v_at, .int o_v_size, .int o_v_fault, .int o_v_opened, .int o_v_isSeen, .ref q_names, .ref q_seenKept, .ref q_movedKept, .int v_isKeeping, .int v_bubbleMany, .int v_bubbleMost, .int v_bubbleCell, .int v_bestShown, .ref q_traced, .int v_traceMany, .int v_who, .ref q_bitsOf, .ref q_sizeOf, .ref q_number, .ref q_lifted])), (q_d, .inl (c 0, 244, .inl v_d)), (q_found, .inl (c 0, 6, .inl o_v_found)), (q_names, .inl (c 0, 3, .inl o_v_names)), (q_seenKept, .inl (c 0, 2500, .inl o_v_seenKept))] o_r := by
  refine gMI_of (cc := cX12_ofCell) (maxL := 3) (rt := (some .int)) (by decide +kernel) rfl (Nat.le_of_ble_eq_true rfl) ?_
  intro p e s m below meth co A hF hK hX hP hD hA hS ls hl
  obtain ⟨hx, hb, hr, hts, hown, hlocks, hml⟩ := id hF
  have hl : lv_has ls 3 [(0, .ref q_this), (1, .int a_1), (2, .int a_2)] := hl
  have t_L20 : ∀ (v_base : Int32) (v_at : Int32) (v_size : Int32) (v_fault : Int32) (v_opened : Int32) (v_isSeen : Int32) (v_found : Nat → Int32) (v_names : Nat → Int32) (v_seenKept : Nat → Int32) (H : Heap) (locs : List Loc), va_P D gcl [(q_this, .inr (12, [.ref q_d, .ref q_kept, .int v_images, .ref q_found, .ref q_aside, .int v_base, .int v_at, .int v_size, .int v_fault, .int v_opened, .int v_isSeen, .ref q_names, .ref q_seenKept, .ref q_movedKept, .int v_isKeeping, .int v_bubbleMany, .int v_bubbleMost, .int v_bubbleCell, .int v_bestShown, .ref q_traced, .int v_traceMany, .int v_who, .ref q_bitsOf, .ref q_sizeOf, .ref q_number, .ref q_lifted])), (q_d, .inl (c 0, 244, .inl v_d)), (q_found, .inl (c 0, 6, .inl v_found)), (q_names, .inl (c 0, 3, .inl v_names)), (q_seenKept, .inl (c 0, 2500, .inl v_seenKept))] H → va_D A [(q_this, .inr (12, [.ref q_d, .ref q_kept, .int v_images, .ref q_found, .ref q_aside, .int v_base, .int v_at, .int v_size, .int v_fault, .int v_opened, .int v_isSeen, .ref q_names, .ref q_seenKept, .ref q_movedKept, .int v_isKeeping, .int v_bubbleMany, .int v_bubbleMost, .int v_bubbleCell, .int v_bestShown, .ref q_traced, .int v_traceMany, .int v_who, .ref q_bitsOf, .ref q_sizeOf, .ref q_number, .ref q_lifted])), (q_d, .inl (c 0, 244, .inl v_d)), (q_found, .inl (c 0, 6, .inl v_found)), (q_names, .inl (c 0, 3, .inl v_names)), (q_seenKept, .inl (c 0, 2500, .inl v_seenKept))] → va_S A s.heap H locs → ∀ ls, lv_has ls 3 [(0, .ref q_this)] → f_X12_ofCell_L20 v_base v_at v_size v_fault v_opened v_isSeen v_found v_names v_seenKept = some (o_r, o_v_base, o_v_at, o_v_size, o_v_fault, o_v_opened, o_v_isSeen, o_v_found, o_v_names, o_v_seenKept) → W p l e (headSpec wsX12_ofCell rm_X12_ofCell).room s m [.ref q_this, .int a_1, .int a_2].toArray below meth co H locs 0 0 (gQI D [(q_this, .inr (12, [.ref q_d, .ref q_kept, .int v_images, .ref q_found, .ref q_aside, .int o_v_base, .int o_v_at, .int o_v_size, .int o_v_fault, .int o_v_opened, .int o_v_isSeen, .ref q_names, .ref q_seenKept, .ref q_movedKept, .int v_isKeeping, .int v_bubbleMany, .int v_bubbleMost, .int v_bubbleCell, .int v_bestShown, .ref q_traced, .int v_traceMany, .int v_who, .ref q_bitsOf, .ref q_sizeOf, .ref q_number, .ref q_lifted])), (q_d, .inl (c 0, 244, .inl v_d)), (q_found, .inl (c 0, 6, .inl o_v_found)), (q_names, .inl (c 0, 3, .inl o_v_names)), (q_seenKept, .inl (c 0, 2500, .inl o_v_seenKept))] o_r A below [.ref q_this, .int a_1, .int a_2] s) (F0 m 20 ls []) := by
    intro  v_base v_at v_size v_fault v_opened v_isSeen v_found v_names v_seenKept H locs hP hD hS ls hl h
    unfold f_X12_ofCell_L20 at h
    refine lv_aload_n hx hb dX12_ofCell_20 rfl (lv_at hl 0 rfl) ?_
    refine lv_iconst (v := 1) hx hb dX12_ofCell_21 (by decide) ?_
    replace h := kb2_ok h
    obtain ⟨r_32, w_33, hc_31, h⟩ := h
    refine gCallI (isC := [0, 2]) (wc := [(q_this, .inr (12, [.ref q_d, .ref q_kept, .int v_images, .ref q_found, .ref q_aside, .int v_base, .int v_at, .int v_size, .int v_fault, .int v_opened, .int v_isSeen, .ref q_names, .ref q_seenKept, .ref q_movedKept, .int v_isKeeping, .int v_bubbleMany, .int v_bubbleMost, .int v_bubbleCell, .int v_bestShown, .ref q_traced, .int v_traceMany, .int v_who, .ref q_bitsOf, .ref q_sizeOf, .ref q_number, .ref q_lifted])), (q_found, .inl (c 0, 6, .inl v_found))]) (w1 := [(q_this, .inr (12, [.ref q_d, .ref q_kept, .int v_images, .ref q_found, .ref q_aside, .int v_base, .int v_at, .int v_size, .int v_fault, .int v_opened, .int v_isSeen, .ref q_names, .ref q_seenKept, .ref q_movedKept, .int v_isKeeping, .int v_bubbleMany, .int v_bubbleMost, .int v_bubbleCell, .int v_bestShown, .ref q_traced, .int v_traceMany, .int v_who, .ref q_bitsOf, .ref q_sizeOf, .ref q_number, .ref q_lifted])), (q_found, .inl (c 0, 6, .inl w_33))]) (ws2 := [(q_this, .inr (12, [.ref q_d, .ref q_kept, .int v_images, .ref q_found, .ref q_aside, .int v_base, .int v_at, .int v_size, .int v_fault, .int v_opened, .int v_isSeen, .ref q_names, .ref q_seenKept, .ref q_movedKept, .int v_isKeeping, .int v_bubbleMany, .int v_bubbleMost, .int v_bubbleCell, .int v_bestShown, .ref q_traced, .int v_traceMany, .int v_who, .ref q_bitsOf, .ref q_sizeOf, .ref q_number, .ref q_lifted])), (q_d, .inl (c 0, 244, .inl v_d)), (q_found, .inl (c 0, 6, .inl w_33)), (q_names, .inl (c 0, 3, .inl v_names)), (q_seenKept, .inl (c 0, 2500, .inl v_seenKept))]) (ms := [(some 0), none, (some 1), none, none]) hP hD hS hA ⟨rfl, rfl, trivial⟩ (by decide +kernel) ⟨rfl, rfl, rfl, rfl, rfl, trivial⟩ (va_runV (rm := rm_X12_finds) (ws := wsX12_finds) (As := [.int 1]) (rest := []) (gFix hF) (c_X12_finds l D c q_this q_d q_kept q_found q_aside q_names q_seenKept q_movedKept q_traced q_bitsOf q_sizeOf q_number q_lifted 1 v_images v_base v_at v_size v_fault v_opened v_isSeen v_isKeeping v_bubbleMany v_bubbleMost v_bubbleCell v_bestShown v_traceMany v_who v_found r_32 w_33 hc_31 H.size) (cwV 1 hts gX12_ofCell_X12_finds rfl rfl rfl (by decide +kernel) ⟨Nat.le_of_ble_eq_true rfl, Nat.le_of_ble_eq_true rfl⟩) (gPreV (wc := [(q_this, .inr (12, [.ref q_d, .ref q_kept, .int v_images, .ref q_found, .ref q_aside, .int v_base, .int v_at, .int v_size, .int v_fault, .int v_opened, .int v_isSeen, .ref q_names, .ref q_seenKept, .ref q_movedKept, .int v_isKeeping, .int v_bubbleMany, .int v_bubbleMost, .int v_bubbleCell, .int v_bestShown, .ref q_traced, .int v_traceMany, .int v_who, .ref q_bitsOf, .ref q_sizeOf, .ref q_number, .ref q_lifted])), (q_found, .inl (c 0, 6, .inl v_found))]) (q := (RX12, TX12, 26)) (ci := 12) (q0 := 0) (isC := [0, 2]) hK hX hS hA hP hD ⟨rfl, rfl, trivial⟩ (by decide +kernel) rfl rfl) rfl rfl hl.1 rfl (lv_room (Nat.le_of_ble_eq_true rfl)) dX12_ofCell_22 ⟨Nat.le_of_ble_eq_true rfl, Nat.le_of_ble_eq_true rfl⟩) (fun H locs hP hD hS => ?_)
    replace h := so10 h
    obtain ⟨z0, z1, z2, z3, z4, z5, z6, z7, z8, z9⟩ := h
    subst z0 z1 z2 z3 z4 z5 z6 z7 z8 z9
    exact gIret hF hP hD hS rfl dX12_ofCell_25
  unfold f_X12_ofCell at h
  refine lv_aload_n hx hb dX12_ofCell_0 rfl (lv_at hl 0 rfl) ?_
  refine lv_iload_n hx hb dX12_ofCell_1 rfl (lv_at hl 1 rfl) ?_
  replace h := kb_ok h
  obtain ⟨r_2, hc_1, h⟩ := h
  refine gCallIr (isC := [0, 1]) (wc := [(q_this, .inr (12, [.ref q_d, .ref q_kept, .int v_images, .ref q_found, .ref q_aside, .int v_base, .int v_at, .int v_size, .int v_fault, .int v_opened, .int v_isSeen, .ref q_names, .ref q_seenKept, .ref q_movedKept, .int v_isKeeping, .int v_bubbleMany, .int v_bubbleMost, .int v_bubbleCell, .int v_bestShown, .ref q_traced, .int v_traceMany, .int v_who, .ref q_bitsOf, .ref q_sizeOf, .ref q_number, .ref q_lifted])), (q_d, .inl (c 0, 244, .inl v_d))]) hP hD hS hA ⟨rfl, rfl, trivial⟩ (va_runV (rm := rm_X12_isCell) (ws := wsX12_isCell) (As := [.int a_1]) (rest := []) (gFix hF) (c_X12_isCell l D c q_this q_d q_kept q_found q_aside q_names q_seenKept q_movedKept q_traced q_bitsOf q_sizeOf q_number q_lifted a_1 v_images v_base v_at v_size v_fault v_opened v_isSeen v_isKeeping v_bubbleMany v_bubbleMost v_bubbleCell v_bestShown v_traceMany v_who v_d r_2 hc_1 s.heap.size) (cwV 1 hts gX12_ofCell_X12_isCell rfl rfl rfl (by decide +kernel) ⟨Nat.le_of_ble_eq_true rfl, Nat.le_of_ble_eq_true rfl⟩) (gPreV (wc := [(q_this, .inr (12, [.ref q_d, .ref q_kept, .int v_images, .ref q_found, .ref q_aside, .int v_base, .int v_at, .int v_size, .int v_fault, .int v_opened, .int v_isSeen, .ref q_names, .ref q_seenKept, .ref q_movedKept, .int v_isKeeping, .int v_bubbleMany, .int v_bubbleMost, .int v_bubbleCell, .int v_bestShown, .ref q_traced, .int v_traceMany, .int v_who, .ref q_bitsOf, .ref q_sizeOf, .ref q_number, .ref q_lifted])), (q_d, .inl (c 0, 244, .inl v_d))]) (q := (RX12, TX12, 26)) (ci := 12) (q0 := 0) (isC := [0, 1]) hK hX hS hA hP hD ⟨rfl, rfl, trivial⟩ (by decide +kernel) rfl rfl) rfl rfl hl.1 rfl (lv_room (Nat.le_of_ble_eq_true rfl)) dX12_ofCell_2 ⟨Nat.le_of_ble_eq_true rfl, Nat.le_of_ble_eq_true rfl⟩) (fun H locs hP hS => ?_)
  refine lv_if_eq (tgt := 20) hx hb dX12_ofCell_5 (by decide) (fun c_3 => ?_) (fun c_3 => ?_)
  · replace h := it_t c_3 h
    exact t_L20 v_base v_at v_size v_fault v_opened v_isSeen v_found v_names v_seenKept H locs hP hD hS ls (lv_sub hl [0] rfl) h
  · replace h := it_f c_3 h
    refine lv_iload_n hx hb dX12_ofCell_8 rfl (lv_at hl 2 rfl) ?_
    refine lv_i2l hx hb dX12_ofCell_9 rfl ?_
    refine lv_lconst (v := 0) hx hb dX12_ofCell_10 (by decide) ?_
    refine lv_ldc2 (v := 3) hx hb hown (hts (.constantLong RX12 59 (3)) (List.mem_of_getElem? (i := 1) rfl)) dX12_ofCell_11 ?_
    replace h := kb_ok h
    obtain ⟨r_5, hc_4, h⟩ := h
    refine gCallIr (isC := []) (wc := []) hP hD hS hA trivial (va_runS (rm := rm_X12_in) (ws := wsX12_in) (As := [.long ((a_2 : Int32).toInt64), .long 0, .long 3]) (rest := []) (gFix hF) (c_X12_in l D c ((a_2 : Int32).toInt64) 0 3 r_5 hc_4 H.size) (va_cwS 3 hts gX12_ofCell_X12_in rfl rfl rfl (by decide +kernel) ⟨Nat.le_of_ble_eq_true rfl, Nat.le_of_ble_eq_true rfl⟩) (gPreS (wc := []) (isC := []) hK hX hS hA hP hD trivial (by decide +kernel)) rfl rfl hl.1 rfl (lv_room (Nat.le_of_ble_eq_true rfl)) dX12_ofCell_14 ⟨Nat.le_of_ble_eq_true rfl, Nat.le_of_ble_eq_true rfl⟩) (fun H locs hP hS => ?_)
    refine lv_if_ne (tgt := 26) hx hb dX12_ofCell_17 (by decide) (fun c_6 => ?_) (fun c_6 => ?_)
    · replace h := it_f c_6 h
      refine lv_iload_n hx hb dX12_ofCell_26 rfl (lv_at hl 2 rfl) ?_
      by_cases c_7 : a_2 = 0
      · replace h := it_t c_7 h
        refine lv_tableIn (x := a_2) (off := 25) (tgt := 52) hx hb dX12_ofCell_27 (by rw [c_7]; decide) (by rw [c_7]; decide) (by rw [c_7]; rfl) (by decide) ?_
        refine lv_aload_n hx hb dX12_ofCell_52 rfl (lv_at hl 0 rfl) ?_
        refine va_get (D := D) (ci := 12) (v := .ref q_d) (C := RX12) (T := TX12) (N := 26) hx hb hts in_X12_ofCell_X12 hown hK.1 hP 0 rfl rfl 0 (by decide) (hts (.fieldLink RX12 7 "PaperBubblesModel" "d" "[I") (List.mem_of_getElem? (i := 2) rfl)) (fun _ h9 => h9) rfl dX12_ofCell_53 ?_
        refine lv_bipush (v := 10) hx hb dX12_ofCell_56 (by decide) ?_
        refine lv_iload_n hx hb dX12_ofCell_58 rfl (lv_at hl 1 rfl) ?_
        refine lv_iadd hx hb dX12_ofCell_59 ?_
        replace h := nm_ok h
        obtain ⟨t_8, et_8, h⟩ := h
        refine gTop et_8 ?_
        replace h := chi_ok h
        obtain ⟨hi_9, h⟩ := h
        refine va_iald hx hb hK.1 hP 1 0 rfl rfl hi_9 dX12_ofCell_60 ?_
        replace h := so10 h
        obtain ⟨z0, z1, z2, z3, z4, z5, z6, z7, z8, z9⟩ := h
        subst z0 z1 z2 z3 z4 z5 z6 z7 z8 z9
        exact gIret hF hP hD hS rfl dX12_ofCell_61
      · replace h := it_f c_7 h
        by_cases c_10 : a_2 = 1
        · replace h := it_t c_10 h
          refine lv_tableIn (x := a_2) (off := 35) (tgt := 62) hx hb dX12_ofCell_27 (by rw [c_10]; decide) (by rw [c_10]; decide) (by rw [c_10]; rfl) (by decide) ?_
          refine lv_aload_n hx hb dX12_ofCell_62 rfl (lv_at hl 0 rfl) ?_
          refine va_get (D := D) (ci := 12) (v := .ref q_d) (C := RX12) (T := TX12) (N := 26) hx hb hts in_X12_ofCell_X12 hown hK.1 hP 0 rfl rfl 0 (by decide) (hts (.fieldLink RX12 7 "PaperBubblesModel" "d" "[I") (List.mem_of_getElem? (i := 2) rfl)) (fun _ h9 => h9) rfl dX12_ofCell_63 ?_
          refine lv_bipush (v := 35) hx hb dX12_ofCell_66 (by decide) ?_
          refine lv_iload_n hx hb dX12_ofCell_68 rfl (lv_at hl 1 rfl) ?_
          refine lv_iadd hx hb dX12_ofCell_69 ?_
          replace h := nm_ok h
          obtain ⟨t_11, et_11, h⟩ := h
          refine gTop et_11 ?_
          replace h := chi_ok h
          obtain ⟨hi_12, h⟩ := h
          refine va_iald hx hb hK.1 hP 1 0 rfl rfl hi_12 dX12_ofCell_70 ?_
          replace h := so10 h
          obtain ⟨z0, z1, z2, z3, z4, z5, z6, z7, z8, z9⟩ := h
          subst z0 z1 z2 z3 z4 z5 z6 z7 z8 z9
          exact gIret hF hP hD hS rfl dX12_ofCell_71
        · replace h := it_f c_10 h
          by_cases c_13 : a_2 = 2
          · replace h := it_t c_13 h
            refine lv_tableIn (x := a_2) (off := 45) (tgt := 72) hx hb dX12_ofCell_27 (by rw [c_13]; decide) (by rw [c_13]; decide) (by rw [c_13]; rfl) (by decide) ?_
            refine lv_aload_n hx hb dX12_ofCell_72 rfl (lv_at hl 0 rfl) ?_
            refine lv_iload_n hx hb dX12_ofCell_73 rfl (lv_at hl 1 rfl) ?_
            replace h := kb9_ok h
            obtain ⟨r_15, w_16, w_17, w_18, w_19, w_20, w_21, w_22, w_23, hc_14, h⟩ := h
            refine gCallI (isC := [0, 1, 3, 4]) (wc := [(q_this, .inr (12, [.ref q_d, .ref q_kept, .int v_images, .ref q_found, .ref q_aside, .int v_base, .int v_at, .int v_size, .int v_fault, .int v_opened, .int v_isSeen, .ref q_names, .ref q_seenKept, .ref q_movedKept, .int v_isKeeping, .int v_bubbleMany, .int v_bubbleMost, .int v_bubbleCell, .int v_bestShown, .ref q_traced, .int v_traceMany, .int v_who, .ref q_bitsOf, .ref q_sizeOf, .ref q_number, .ref q_lifted])), (q_d, .inl (c 0, 244, .inl v_d)), (q_names, .inl (c 0, 3, .inl v_names)), (q_seenKept, .inl (c 0, 2500, .inl v_seenKept))]) (w1 := [(q_this, .inr (12, [.ref q_d, .ref q_kept, .int v_images, .ref q_found, .ref q_aside, .int w_16, .int w_17, .int w_18, .int w_19, .int w_20, .int w_21, .ref q_names, .ref q_seenKept, .ref q_movedKept, .int v_isKeeping, .int v_bubbleMany, .int v_bubbleMost, .int v_bubbleCell, .int v_bestShown, .ref q_traced, .int v_traceMany, .int v_who, .ref q_bitsOf, .ref q_sizeOf, .ref q_number, .ref q_lifted])), (q_d, .inl (c 0, 244, .inl v_d)), (q_names, .inl (c 0, 3, .inl w_22)), (q_seenKept, .inl (c 0, 2500, .inl w_23))]) (ws2 := [(q_this, .inr (12, [.ref q_d, .ref q_kept, .int v_images, .ref q_found, .ref q_aside, .int w_16, .int w_17, .int w_18, .int w_19, .int w_20, .int w_21, .ref q_names, .ref q_seenKept, .ref q_movedKept, .int v_isKeeping, .int v_bubbleMany, .int v_bubbleMost, .int v_bubbleCell, .int v_bestShown, .ref q_traced, .int v_traceMany, .int v_who, .ref q_bitsOf, .ref q_sizeOf, .ref q_number, .ref q_lifted])), (q_d, .inl (c 0, 244, .inl v_d)), (q_found, .inl (c 0, 6, .inl v_found)), (q_names, .inl (c 0, 3, .inl w_22)), (q_seenKept, .inl (c 0, 2500, .inl w_23))]) (ms := [(some 0), (some 1), none, (some 2), (some 3)]) hP hD hS hA ⟨rfl, rfl, rfl, rfl, trivial⟩ (by decide +kernel) ⟨rfl, rfl, rfl, rfl, rfl, trivial⟩ (va_runV (rm := rm_X12_seenOf) (ws := wsX12_seenOf) (As := [.int a_1]) (rest := []) (gFix hF) (c_X12_seenOf l D c q_this q_d q_kept q_found q_aside q_names q_seenKept q_movedKept q_traced q_bitsOf q_sizeOf q_number q_lifted a_1 v_images v_base v_at v_size v_fault v_opened v_isSeen v_isKeeping v_bubbleMany v_bubbleMost v_bubbleCell v_bestShown v_traceMany v_who v_d v_names v_seenKept r_15 w_16 w_17 w_18 w_19 w_20 w_21 w_22 w_23 hc_14 H.size) (cwV 1 hts gX12_ofCell_X12_seenOf rfl rfl rfl (by decide +kernel) ⟨Nat.le_of_ble_eq_true rfl, Nat.le_of_ble_eq_true rfl⟩) (gPreV (wc := [(q_this, .inr (12, [.ref q_d, .ref q_kept, .int v_images, .ref q_found, .ref q_aside, .int v_base, .int v_at, .int v_size, .int v_fault, .int v_opened, .int v_isSeen, .ref q_names, .ref q_seenKept, .ref q_movedKept, .int v_isKeeping, .int v_bubbleMany, .int v_bubbleMost, .int v_bubbleCell, .int v_bestShown, .ref q_traced, .int v_traceMany, .int v_who, .ref q_bitsOf, .ref q_sizeOf, .ref q_number, .ref q_lifted])), (q_d, .inl (c 0, 244, .inl v_d)), (q_names, .inl (c 0, 3, .inl v_names)), (q_seenKept, .inl (c 0, 2500, .inl v_seenKept))]) (q := (RX12, TX12, 26)) (ci := 12) (q0 := 0) (isC := [0, 1, 3, 4]) hK hX hS hA hP hD ⟨rfl, rfl, rfl, rfl, trivial⟩ (by decide +kernel) rfl rfl) rfl rfl hl.1 rfl (lv_room (Nat.le_of_ble_eq_true rfl)) dX12_ofCell_74 ⟨Nat.le_of_ble_eq_true rfl, Nat.le_of_ble_eq_true rfl⟩) (fun H locs hP hD hS => ?_)
            replace h := so10 h
            obtain ⟨z0, z1, z2, z3, z4, z5, z6, z7, z8, z9⟩ := h
            subst z0 z1 z2 z3 z4 z5 z6 z7 z8 z9
            exact gIret hF hP hD hS rfl dX12_ofCell_77
          · replace h := it_f c_13 h
            refine lv_tableOut (x := a_2) (tgt := 78) hx hb dX12_ofCell_27 (by have q0 := gNe (z := 0) (by decide) c_7; have q1 := gNe (z := 1) (by decide) c_10; have q2 := gNe (z := 2) (by decide) c_13; omega) (by decide) ?_
            refine lv_aload_n hx hb dX12_ofCell_78 rfl (lv_at hl 0 rfl) ?_
            refine va_get (D := D) (ci := 12) (v := .ref q_d) (C := RX12) (T := TX12) (N := 26) hx hb hts in_X12_ofCell_X12 hown hK.1 hP 0 rfl rfl 0 (by decide) (hts (.fieldLink RX12 7 "PaperBubblesModel" "d" "[I") (List.mem_of_getElem? (i := 2) rfl)) (fun _ h9 => h9) rfl dX12_ofCell_79 ?_
            refine lv_bipush (v := 10) hx hb dX12_ofCell_82 (by decide) ?_
            refine lv_iload_n hx hb dX12_ofCell_84 rfl (lv_at hl 1 rfl) ?_
            refine lv_iadd hx hb dX12_ofCell_85 ?_
            replace h := nm_ok h
            obtain ⟨t_24, et_24, h⟩ := h
            refine gTop et_24 ?_
            replace h := chi_ok h
            obtain ⟨hi_25, h⟩ := h
            refine va_iald hx hb hK.1 hP 1 0 rfl rfl hi_25 dX12_ofCell_86 ?_
            refine lv_if_ne (tgt := 94) hx hb dX12_ofCell_87 (by decide) (fun c_26 => ?_) (fun c_26 => ?_)
            · replace h := it_f c_26 h
              refine lv_aload_n hx hb dX12_ofCell_94 rfl (lv_at hl 0 rfl) ?_
              refine lv_aload_n hx hb dX12_ofCell_95 rfl (lv_at hl 0 rfl) ?_
              refine lv_iload_n hx hb dX12_ofCell_96 rfl (lv_at hl 1 rfl) ?_
              replace h := kb_ok h
              obtain ⟨r_28, hc_27, h⟩ := h
              refine gCallIr (isC := [0, 1]) (wc := [(q_this, .inr (12, [.ref q_d, .ref q_kept, .int v_images, .ref q_found, .ref q_aside, .int v_base, .int v_at, .int v_size, .int v_fault, .int v_opened, .int v_isSeen, .ref q_names, .ref q_seenKept, .ref q_movedKept, .int v_isKeeping, .int v_bubbleMany, .int v_bubbleMost, .int v_bubbleCell, .int v_bestShown, .ref q_traced, .int v_traceMany, .int v_who, .ref q_bitsOf, .ref q_sizeOf, .ref q_number, .ref q_lifted])), (q_d, .inl (c 0, 244, .inl v_d))]) hP hD hS hA ⟨rfl, rfl, trivial⟩ (va_runV (rm := rm_X12_bubbleOf) (ws := wsX12_bubbleOf) (As := [.int a_1]) (rest := [.ref q_this]) (gFix hF) (c_X12_bubbleOf l D c q_this q_d q_kept q_found q_aside q_names q_seenKept q_movedKept q_traced q_bitsOf q_sizeOf q_number q_lifted a_1 v_images v_base v_at v_size v_fault v_opened v_isSeen v_isKeeping v_bubbleMany v_bubbleMost v_bubbleCell v_bestShown v_traceMany v_who v_d r_28 hc_27 H.size) (cwV 1 hts gX12_ofCell_X12_bubbleOf rfl rfl rfl (by decide +kernel) ⟨Nat.le_of_ble_eq_true rfl, Nat.le_of_ble_eq_true rfl⟩) (gPreV (wc := [(q_this, .inr (12, [.ref q_d, .ref q_kept, .int v_images, .ref q_found, .ref q_aside, .int v_base, .int v_at, .int v_size, .int v_fault, .int v_opened, .int v_isSeen, .ref q_names, .ref q_seenKept, .ref q_movedKept, .int v_isKeeping, .int v_bubbleMany, .int v_bubbleMost, .int v_bubbleCell, .int v_bestShown, .ref q_traced, .int v_traceMany, .int v_who, .ref q_bitsOf, .ref q_sizeOf, .ref q_number, .ref q_lifted])), (q_d, .inl (c 0, 244, .inl v_d))]) (q := (RX12, TX12, 26)) (ci := 12) (q0 := 0) (isC := [0, 1]) hK hX hS hA hP hD ⟨rfl, rfl, trivial⟩ (by decide +kernel) rfl rfl) rfl rfl hl.1 rfl (lv_room (Nat.le_of_ble_eq_true rfl)) dX12_ofCell_97 ⟨Nat.le_of_ble_eq_true rfl, Nat.le_of_ble_eq_true rfl⟩) (fun H locs hP hS => ?_)
              replace h := kb_ok h
              obtain ⟨r_30, hc_29, h⟩ := h
              refine gCallIr (isC := [0, 1]) (wc := [(q_this, .inr (12, [.ref q_d, .ref q_kept, .int v_images, .ref q_found, .ref q_aside, .int v_base, .int v_at, .int v_size, .int v_fault, .int v_opened, .int v_isSeen, .ref q_names, .ref q_seenKept, .ref q_movedKept, .int v_isKeeping, .int v_bubbleMany, .int v_bubbleMost, .int v_bubbleCell, .int v_bestShown, .ref q_traced, .int v_traceMany, .int v_who, .ref q_bitsOf, .ref q_sizeOf, .ref q_number, .ref q_lifted])), (q_d, .inl (c 0, 244, .inl v_d))]) hP hD hS hA ⟨rfl, rfl, trivial⟩ (va_runV (rm := rm_X12_sizeOf0) (ws := wsX12_sizeOf0) (As := [.int r_28]) (rest := []) (gFix hF) (c_X12_sizeOf0 l D c q_this q_d q_kept q_found q_aside q_names q_seenKept q_movedKept q_traced q_bitsOf q_sizeOf q_number q_lifted r_28 v_images v_base v_at v_size v_fault v_opened v_isSeen v_isKeeping v_bubbleMany v_bubbleMost v_bubbleCell v_bestShown v_traceMany v_who v_d r_30 hc_29 H.size) (cwV 1 hts gX12_ofCell_X12_sizeOf0 rfl rfl rfl (by decide +kernel) ⟨Nat.le_of_ble_eq_true rfl, Nat.le_of_ble_eq_true rfl⟩) (gPreV (wc := [(q_this, .inr (12, [.ref q_d, .ref q_kept, .int v_images, .ref q_found, .ref q_aside, .int v_base, .int v_at, .int v_size, .int v_fault, .int v_opened, .int v_isSeen, .ref q_names, .ref q_seenKept, .ref q_movedKept, .int v_isKeeping, .int v_bubbleMany, .int v_bubbleMost, .int v_bubbleCell, .int v_bestShown, .ref q_traced, .int v_traceMany, .int v_who, .ref q_bitsOf, .ref q_sizeOf, .ref q_number, .ref q_lifted])), (q_d, .inl (c 0, 244, .inl v_d))]) (q := (RX12, TX12, 26)) (ci := 12) (q0 := 0) (isC := [0, 1]) hK hX hS hA hP hD ⟨rfl, rfl, trivial⟩ (by decide +kernel) rfl rfl) rfl rfl hl.1 rfl (lv_room (Nat.le_of_ble_eq_true rfl)) dX12_ofCell_100 ⟨Nat.le_of_ble_eq_true rfl, Nat.le_of_ble_eq_true rfl⟩) (fun H locs hP hS => ?_)
              replace h := so10 h
              obtain ⟨z0, z1, z2, z3, z4, z5, z6, z7, z8, z9⟩ := h
              subst z0 z1 z2 z3 z4 z5 z6 z7 z8 z9
              exact gIret hF hP hD hS rfl dX12_ofCell_103
            · replace h := it_t c_26 h
              refine lv_iconst (v := 0) hx hb dX12_ofCell_90 (by decide) ?_
              refine lv_goto (tgt := 103) hx hb dX12_ofCell_91 (by decide) ?_
              replace h := so10 h
              obtain ⟨z0, z1, z2, z3, z4, z5, z6, z7, z8, z9⟩ := h
              subst z0 z1 z2 z3 z4 z5 z6 z7 z8 z9
              exact gIret hF hP hD hS rfl dX12_ofCell_103
    · replace h := it_t c_6 h
      exact t_L20 v_base v_at v_size v_fault v_opened v_isSeen v_found v_names v_seenKept H locs hP hD hS ls (lv_sub hl [0] rfl) h
abbrev rm_X12_ofTool : Room := { frames := 58, cells := 0, slots := 0, locals := 1332 }
set_option maxHeartbeats 4000000 in
set_option maxRecDepth 100000 in
theorem c_X12_ofTool (l : Launch) (D : va_G) (c : Nat → ClassId) (q_this q_d q_kept q_found q_aside q_names q_seenKept q_movedKept q_traced q_bitsOf q_sizeOf q_number q_lifted : Nat) (a_1 : Int32) (a_2 : Int32) (v_images : Int32) (v_base : Int32) (v_at : Int32) (v_size : Int32) (v_fault : Int32) (v_opened : Int32) (v_isSeen : Int32) (v_isKeeping : Int32) (v_bubbleMany : Int32) (v_bubbleMost : Int32) (v_bubbleCell : Int32) (v_bestShown : Int32) (v_traceMany : Int32) (v_who : Int32) (v_d : Nat → Int32) (v_found : Nat → Int32) (v_movedKept : Nat → Int32) (v_names : Nat → Int32) (o_r : Int32) (o_v_base : Int32) (o_v_at : Int32) (o_v_size : Int32) (o_v_fault : Int32) (o_v_opened : Int32) (o_v_isSeen : Int32) (o_v_found : Nat → Int32) (o_v_movedKept : Nat → Int32) (o_v_names : Nat → Int32) (h : f_X12_ofTool a_1 a_2 v_base v_at v_size v_fault v_opened v_isSeen v_isKeeping v_d v_found v_movedKept v_names = some (o_r, o_v_base, o_v_at, o_v_size, o_v_fault, o_v_opened, o_v_isSeen, o_v_found, o_v_movedKept, o_v_names)) : gMI l yX12_ofTool wsX12_ofTool rm_X12_ofTool D c [.ref q_this, .int a_1, .int a_2] [(q_this, .inr (12, [.ref q_d, .ref q_kept, .int v_images, .ref q_found, .ref q_aside, .int v_base, .int v_at, .int v_size, .int v_fault, .int v_opened, .int v_isSeen, .ref q_names, .ref q_seenKept, .ref q_movedKept, .int v_isKeeping, .int v_bubbleMany, .int v_bubbleMost, .int v_bubbleCell, .int v_bestShown, .ref q_traced, .int v_traceMany, .int v_who, .ref q_bitsOf, .ref q_sizeOf, .ref q_number, .ref q_lifted])), (q_d, .inl (c 0, 244, .inl v_d)), (q_found, .inl (c 0, 6, .inl v_found)), (q_movedKept, .inl (c 0, 1000, .inl v_movedKept)), (q_names, .inl (c 0, 3, .inl v_names))] [(q_this, .inr (12, [.ref q_d, .ref q_kept, .int v_images, .ref q_found, .ref q_aside, .int o_v_base, .int o_v_at, .int o_v_size, .int o_v_fault, .int o_v_opened, .int o_v_isSeen, .ref q_names, .ref q_seenKept, .ref q_movedKept, .int v_isKeeping, .int v_bubbleMany, .int v_bubbleMost, .int v_bubbleCell, .int v_bestShown, .ref q_traced, .int v_traceMany, .int v_who, .ref q_bitsOf, .ref q_sizeOf, .ref q_number, .ref q_lifted])), (q_d, .inl (c 0, 244, .inl v_d)), (q_found, .inl (c 0, 6, .inl o_v_found)), (q_movedKept, .inl (c 0, 1000, .inl o_v_movedKept)), (q_names, .inl (c 0, 3, .inl o_v_names))] o_r := by
  refine gMI_of (cc := cX12_ofTool) (maxL := 3) (rt := (some .int)) (by decide +kernel) rfl (Nat.le_of_ble_eq_true rfl) ?_
  intro p e s m below meth co A hF hK hX hP hD hA hS ls hl
  obtain ⟨hx, hb, hr, hts, hown, hlocks, hml⟩ := id hF
  have hl : lv_has ls 3 [(0, .ref q_this), (1, .int a_1), (2, .int a_2)] := hl
  have t_L20 : ∀ (v_base : Int32) (v_at : Int32) (v_size : Int32) (v_fault : Int32) (v_opened : Int32) (v_isSeen : Int32) (v_found : Nat → Int32) (v_movedKept : Nat → Int32) (v_names : Nat → Int32) (H : Heap) (locs : List Loc), va_P D gcl [(q_this, .inr (12, [.ref q_d, .ref q_kept, .int v_images, .ref q_found, .ref q_aside, .int v_base, .int v_at, .int v_size, .int v_fault, .int v_opened, .int v_isSeen, .ref q_names, .ref q_seenKept, .ref q_movedKept, .int v_isKeeping, .int v_bubbleMany, .int v_bubbleMost, .int v_bubbleCell, .int v_bestShown, .ref q_traced, .int v_traceMany, .int v_who, .ref q_bitsOf, .ref q_sizeOf, .ref q_number, .ref q_lifted])), (q_d, .inl (c 0, 244, .inl v_d)), (q_found, .inl (c 0, 6, .inl v_found)), (q_movedKept, .inl (c 0, 1000, .inl v_movedKept)), (q_names, .inl (c 0, 3, .inl v_names))] H → va_D A [(q_this, .inr (12, [.ref q_d, .ref q_kept, .int v_images, .ref q_found, .ref q_aside, .int v_base, .int v_at, .int v_size, .int v_fault, .int v_opened, .int v_isSeen, .ref q_names, .ref q_seenKept, .ref q_movedKept, .int v_isKeeping, .int v_bubbleMany, .int v_bubbleMost, .int v_bubbleCell, .int v_bestShown, .ref q_traced, .int v_traceMany, .int v_who, .ref q_bitsOf, .ref q_sizeOf, .ref q_number, .ref q_lifted])), (q_d, .inl (c 0, 244, .inl v_d)), (q_found, .inl (c 0, 6, .inl v_found)), (q_movedKept, .inl (c 0, 1000, .inl v_movedKept)), (q_names, .inl (c 0, 3, .inl v_names))] → va_S A s.heap H locs → ∀ ls, lv_has ls 3 [(0, .ref q_this)] → f_X12_ofTool_L20 v_base v_at v_size v_fault v_opened v_isSeen v_found v_movedKept v_names = some (o_r, o_v_base, o_v_at, o_v_size, o_v_fault, o_v_opened, o_v_isSeen, o_v_found, o_v_movedKept, o_v_names) → W p l e (headSpec wsX12_ofTool rm_X12_ofTool).room s m [.ref q_this, .int a_1, .int a_2].toArray below meth co H locs 0 0 (gQI D [(q_this, .inr (12, [.ref q_d, .ref q_kept, .int v_images, .ref q_found, .ref q_aside, .int o_v_base, .int o_v_at, .int o_v_size, .int o_v_fault, .int o_v_opened, .int o_v_isSeen, .ref q_names, .ref q_seenKept, .ref q_movedKept, .int v_isKeeping, .int v_bubbleMany, .int v_bubbleMost, .int v_bubbleCell, .int v_bestShown, .ref q_traced, .int v_traceMany, .int v_who, .ref q_bitsOf, .ref q_sizeOf, .ref q_number, .ref q_lifted])), (q_d, .inl (c 0, 244, .inl v_d)), (q_found, .inl (c 0, 6, .inl o_v_found)), (q_movedKept, .inl (c 0, 1000, .inl o_v_movedKept)), (q_names, .inl (c 0, 3, .inl o_v_names))] o_r A below [.ref q_this, .int a_1, .int a_2] s) (F0 m 20 ls []) := by
    intro  v_base v_at v_size v_fault v_opened v_isSeen v_found v_movedKept v_names H locs hP hD hS ls hl h
    unfold f_X12_ofTool_L20 at h
    refine lv_aload_n hx hb dX12_ofTool_20 rfl (lv_at hl 0 rfl) ?_
    refine lv_iconst (v := 1) hx hb dX12_ofTool_21 (by decide) ?_
    replace h := kb2_ok h
    obtain ⟨r_32, w_33, hc_31, h⟩ := h
    refine gCallI (isC := [0, 2]) (wc := [(q_this, .inr (12, [.ref q_d, .ref q_kept, .int v_images, .ref q_found, .ref q_aside, .int v_base, .int v_at, .int v_size, .int v_fault, .int v_opened, .int v_isSeen, .ref q_names, .ref q_seenKept, .ref q_movedKept, .int v_isKeeping, .int v_bubbleMany, .int v_bubbleMost, .int v_bubbleCell, .int v_bestShown, .ref q_traced, .int v_traceMany, .int v_who, .ref q_bitsOf, .ref q_sizeOf, .ref q_number, .ref q_lifted])), (q_found, .inl (c 0, 6, .inl v_found))]) (w1 := [(q_this, .inr (12, [.ref q_d, .ref q_kept, .int v_images, .ref q_found, .ref q_aside, .int v_base, .int v_at, .int v_size, .int v_fault, .int v_opened, .int v_isSeen, .ref q_names, .ref q_seenKept, .ref q_movedKept, .int v_isKeeping, .int v_bubbleMany, .int v_bubbleMost, .int v_bubbleCell, .int v_bestShown, .ref q_traced, .int v_traceMany, .int v_who, .ref q_bitsOf, .ref q_sizeOf, .ref q_number, .ref q_lifted])), (q_found, .inl (c 0, 6, .inl w_33))]) (ws2 := [(q_this, .inr (12, [.ref q_d, .ref q_kept, .int v_images, .ref q_found, .ref q_aside, .int v_base, .int v_at, .int v_size, .int v_fault, .int v_opened, .int v_isSeen, .ref q_names, .ref q_seenKept, .ref q_movedKept, .int v_isKeeping, .int v_bubbleMany, .int v_bubbleMost, .int v_bubbleCell, .int v_bestShown, .ref q_traced, .int v_traceMany, .int v_who, .ref q_bitsOf, .ref q_sizeOf, .ref q_number, .ref q_lifted])), (q_d, .inl (c 0, 244, .inl v_d)), (q_found, .inl (c 0, 6, .inl w_33)), (q_movedKept, .inl (c 0, 1000, .inl v_movedKept)), (q_names, .inl (c 0, 3, .inl v_names))]) (ms := [(some 0), none, (some 1), none, none]) hP hD hS hA ⟨rfl, rfl, trivial⟩ (by decide +kernel) ⟨rfl, rfl, rfl, rfl, rfl, trivial⟩ (va_runV (rm := rm_X12_finds) (ws := wsX12_finds) (As := [.int 1]) (rest := []) (gFix hF) (c_X12_finds l D c q_this q_d q_kept q_found q_aside q_names q_seenKept q_movedKept q_traced q_bitsOf q_sizeOf q_number q_lifted 1 v_images v_base v_at v_size v_fault v_opened v_isSeen v_isKeeping v_bubbleMany v_bubbleMost v_bubbleCell v_bestShown v_traceMany v_who v_found r_32 w_33 hc_31 H.size) (cwV 1 hts gX12_ofTool_X12_finds rfl rfl rfl (by decide +kernel) ⟨Nat.le_of_ble_eq_true rfl, Nat.le_of_ble_eq_true rfl⟩) (gPreV (wc := [(q_this, .inr (12, [.ref q_d, .ref q_kept, .int v_images, .ref q_found, .ref q_aside, .int v_base, .int v_at, .int v_size, .int v_fault, .int v_opened, .int v_isSeen, .ref q_names, .ref q_seenKept, .ref q_movedKept, .int v_isKeeping, .int v_bubbleMany, .int v_bubbleMost, .int v_bubbleCell, .int v_bestShown, .ref q_traced, .int v_traceMany, .int v_who, .ref q_bitsOf, .ref q_sizeOf, .ref q_number, .ref q_lifted])), (q_found, .inl (c 0, 6, .inl v_found))]) (q := (RX12, TX12, 26)) (ci := 12) (q0 := 0) (isC := [0, 2]) hK hX hS hA hP hD ⟨rfl, rfl, trivial⟩ (by decide +kernel) rfl rfl) rfl rfl hl.1 rfl (lv_room (Nat.le_of_ble_eq_true rfl)) dX12_ofTool_22 ⟨Nat.le_of_ble_eq_true rfl, Nat.le_of_ble_eq_true rfl⟩) (fun H locs hP hD hS => ?_)
    replace h := so10 h
    obtain ⟨z0, z1, z2, z3, z4, z5, z6, z7, z8, z9⟩ := h
    subst z0 z1 z2 z3 z4 z5 z6 z7 z8 z9
    exact gIret hF hP hD hS rfl dX12_ofTool_25
  have t_L108 : ∀ (y1 : Int32) (y2 : Int32) (v_base : Int32) (v_at : Int32) (v_size : Int32) (v_fault : Int32) (v_opened : Int32) (v_isSeen : Int32) (v_found : Nat → Int32) (v_movedKept : Nat → Int32) (v_names : Nat → Int32) (H : Heap) (locs : List Loc), va_P D gcl [(q_this, .inr (12, [.ref q_d, .ref q_kept, .int v_images, .ref q_found, .ref q_aside, .int v_base, .int v_at, .int v_size, .int v_fault, .int v_opened, .int v_isSeen, .ref q_names, .ref q_seenKept, .ref q_movedKept, .int v_isKeeping, .int v_bubbleMany, .int v_bubbleMost, .int v_bubbleCell, .int v_bestShown, .ref q_traced, .int v_traceMany, .int v_who, .ref q_bitsOf, .ref q_sizeOf, .ref q_number, .ref q_lifted])), (q_d, .inl (c 0, 244, .inl v_d)), (q_found, .inl (c 0, 6, .inl v_found)), (q_movedKept, .inl (c 0, 1000, .inl v_movedKept)), (q_names, .inl (c 0, 3, .inl v_names))] H → va_D A [(q_this, .inr (12, [.ref q_d, .ref q_kept, .int v_images, .ref q_found, .ref q_aside, .int v_base, .int v_at, .int v_size, .int v_fault, .int v_opened, .int v_isSeen, .ref q_names, .ref q_seenKept, .ref q_movedKept, .int v_isKeeping, .int v_bubbleMany, .int v_bubbleMost, .int v_bubbleCell, .int v_bestShown, .ref q_traced, .int v_traceMany, .int v_who, .ref q_bitsOf, .ref q_sizeOf, .ref q_number, .ref q_lifted])), (q_d, .inl (c 0, 244, .inl v_d)), (q_found, .inl (c 0, 6, .inl v_found)), (q_movedKept, .inl (c 0, 1000, .inl v_movedKept)), (q_names, .inl (c 0, 3, .inl v_names))] → va_S A s.heap H locs → ∀ ls, lv_has ls 3 [] → f_X12_ofTool_L108 v_d y1 y2 v_base v_at v_size v_fault v_opened v_isSeen v_found v_movedKept v_names = some (o_r, o_v_base, o_v_at, o_v_size, o_v_fault, o_v_opened, o_v_isSeen, o_v_found, o_v_movedKept, o_v_names) → W p l e (headSpec wsX12_ofTool rm_X12_ofTool).room s m [.ref q_this, .int a_1, .int a_2].toArray below meth co H locs 0 0 (gQI D [(q_this, .inr (12, [.ref q_d, .ref q_kept, .int v_images, .ref q_found, .ref q_aside, .int o_v_base, .int o_v_at, .int o_v_size, .int o_v_fault, .int o_v_opened, .int o_v_isSeen, .ref q_names, .ref q_seenKept, .ref q_movedKept, .int v_isKeeping, .int v_bubbleMany, .int v_bubbleMost, .int v_bubbleCell, .int v_bestShown, .ref q_traced, .int v_traceMany, .int v_who, .ref q_bitsOf, .ref q_sizeOf, .ref q_number, .ref q_lifted])), (q_d, .inl (c 0, 244, .inl v_d)), (q_found, .inl (c 0, 6, .inl o_v_found)), (q_movedKept, .inl (c 0, 1000, .inl o_v_movedKept)), (q_names, .inl (c 0, 3, .inl o_v_names))] o_r A below [.ref q_this, .int a_1, .int a_2] s) (F0 m 108 ls [.int y2, .int y1, .ref q_this]) := by
    intro  y1 y2 v_base v_at v_size v_fault v_opened v_isSeen v_found v_movedKept v_names H locs hP hD hS ls hl h
    unfold f_X12_ofTool_L108 at h
    replace h := kb_ok h
    obtain ⟨r_35, hc_34, h⟩ := h
    refine gCallIr (isC := [0, 1]) (wc := [(q_this, .inr (12, [.ref q_d, .ref q_kept, .int v_images, .ref q_found, .ref q_aside, .int v_base, .int v_at, .int v_size, .int v_fault, .int v_opened, .int v_isSeen, .ref q_names, .ref q_seenKept, .ref q_movedKept, .int v_isKeeping, .int v_bubbleMany, .int v_bubbleMost, .int v_bubbleCell, .int v_bestShown, .ref q_traced, .int v_traceMany, .int v_who, .ref q_bitsOf, .ref q_sizeOf, .ref q_number, .ref q_lifted])), (q_d, .inl (c 0, 244, .inl v_d))]) hP hD hS hA ⟨rfl, rfl, trivial⟩ (va_runV (rm := rm_X12_tearsOf) (ws := wsX12_tearsOf) (As := [.int y1, .int y2]) (rest := []) (gFix hF) (c_X12_tearsOf l D c q_this q_d q_kept q_found q_aside q_names q_seenKept q_movedKept q_traced q_bitsOf q_sizeOf q_number q_lifted y1 y2 v_images v_base v_at v_size v_fault v_opened v_isSeen v_isKeeping v_bubbleMany v_bubbleMost v_bubbleCell v_bestShown v_traceMany v_who v_d r_35 hc_34 H.size) (cwV 2 hts gX12_ofTool_X12_tearsOf rfl rfl rfl (by decide +kernel) ⟨Nat.le_of_ble_eq_true rfl, Nat.le_of_ble_eq_true rfl⟩) (gPreV (wc := [(q_this, .inr (12, [.ref q_d, .ref q_kept, .int v_images, .ref q_found, .ref q_aside, .int v_base, .int v_at, .int v_size, .int v_fault, .int v_opened, .int v_isSeen, .ref q_names, .ref q_seenKept, .ref q_movedKept, .int v_isKeeping, .int v_bubbleMany, .int v_bubbleMost, .int v_bubbleCell, .int v_bestShown, .ref q_traced, .int v_traceMany, .int v_who, .ref q_bitsOf, .ref q_sizeOf, .ref q_number, .ref q_lifted])), (q_d, .inl (c 0, 244, .inl v_d))]) (q := (RX12, TX12, 26)) (ci := 12) (q0 := 0) (isC := [0, 1]) hK hX hS hA hP hD ⟨rfl, rfl, trivial⟩ (by decide +kernel) rfl rfl) rfl rfl hl.1 rfl (lv_room (Nat.le_of_ble_eq_true rfl)) dX12_ofTool_108 ⟨Nat.le_of_ble_eq_true rfl, Nat.le_of_ble_eq_true rfl⟩) (fun H locs hP hS => ?_)
    replace h := so10 h
    obtain ⟨z0, z1, z2, z3, z4, z5, z6, z7, z8, z9⟩ := h
    subst z0 z1 z2 z3 z4 z5 z6 z7 z8 z9
    exact gIret hF hP hD hS rfl dX12_ofTool_111
  unfold f_X12_ofTool at h
  refine lv_aload_n hx hb dX12_ofTool_0 rfl (lv_at hl 0 rfl) ?_
  refine lv_iload_n hx hb dX12_ofTool_1 rfl (lv_at hl 1 rfl) ?_
  replace h := kb_ok h
  obtain ⟨r_2, hc_1, h⟩ := h
  refine gCallIr (isC := [0, 1]) (wc := [(q_this, .inr (12, [.ref q_d, .ref q_kept, .int v_images, .ref q_found, .ref q_aside, .int v_base, .int v_at, .int v_size, .int v_fault, .int v_opened, .int v_isSeen, .ref q_names, .ref q_seenKept, .ref q_movedKept, .int v_isKeeping, .int v_bubbleMany, .int v_bubbleMost, .int v_bubbleCell, .int v_bestShown, .ref q_traced, .int v_traceMany, .int v_who, .ref q_bitsOf, .ref q_sizeOf, .ref q_number, .ref q_lifted])), (q_d, .inl (c 0, 244, .inl v_d))]) hP hD hS hA ⟨rfl, rfl, trivial⟩ (va_runV (rm := rm_X12_isTool) (ws := wsX12_isTool) (As := [.int a_1]) (rest := []) (gFix hF) (c_X12_isTool l D c q_this q_d q_kept q_found q_aside q_names q_seenKept q_movedKept q_traced q_bitsOf q_sizeOf q_number q_lifted a_1 v_images v_base v_at v_size v_fault v_opened v_isSeen v_isKeeping v_bubbleMany v_bubbleMost v_bubbleCell v_bestShown v_traceMany v_who v_d r_2 hc_1 s.heap.size) (cwV 1 hts gX12_ofTool_X12_isTool rfl rfl rfl (by decide +kernel) ⟨Nat.le_of_ble_eq_true rfl, Nat.le_of_ble_eq_true rfl⟩) (gPreV (wc := [(q_this, .inr (12, [.ref q_d, .ref q_kept, .int v_images, .ref q_found, .ref q_aside, .int v_base, .int v_at, .int v_size, .int v_fault, .int v_opened, .int v_isSeen, .ref q_names, .ref q_seenKept, .ref q_movedKept, .int v_isKeeping, .int v_bubbleMany, .int v_bubbleMost, .int v_bubbleCell, .int v_bestShown, .ref q_traced, .int v_traceMany, .int v_who, .ref q_bitsOf, .ref q_sizeOf, .ref q_number, .ref q_lifted])), (q_d, .inl (c 0, 244, .inl v_d))]) (q := (RX12, TX12, 26)) (ci := 12) (q0 := 0) (isC := [0, 1]) hK hX hS hA hP hD ⟨rfl, rfl, trivial⟩ (by decide +kernel) rfl rfl) rfl rfl hl.1 rfl (lv_room (Nat.le_of_ble_eq_true rfl)) dX12_ofTool_2 ⟨Nat.le_of_ble_eq_true rfl, Nat.le_of_ble_eq_true rfl⟩) (fun H locs hP hS => ?_)
  refine lv_if_eq (tgt := 20) hx hb dX12_ofTool_5 (by decide) (fun c_3 => ?_) (fun c_3 => ?_)
  · replace h := it_t c_3 h
    exact t_L20 v_base v_at v_size v_fault v_opened v_isSeen v_found v_movedKept v_names H locs hP hD hS ls (lv_sub hl [0] rfl) h
  · replace h := it_f c_3 h
    refine lv_iload_n hx hb dX12_ofTool_8 rfl (lv_at hl 2 rfl) ?_
    refine lv_i2l hx hb dX12_ofTool_9 rfl ?_
    refine lv_lconst (v := 0) hx hb dX12_ofTool_10 (by decide) ?_
    refine lv_ldc2 (v := 6) hx hb hown (hts (.constantLong RX12 183 (6)) (List.mem_of_getElem? (i := 1) rfl)) dX12_ofTool_11 ?_
    replace h := kb_ok h
    obtain ⟨r_5, hc_4, h⟩ := h
    refine gCallIr (isC := []) (wc := []) hP hD hS hA trivial (va_runS (rm := rm_X12_in) (ws := wsX12_in) (As := [.long ((a_2 : Int32).toInt64), .long 0, .long 6]) (rest := []) (gFix hF) (c_X12_in l D c ((a_2 : Int32).toInt64) 0 6 r_5 hc_4 H.size) (va_cwS 3 hts gX12_ofTool_X12_in rfl rfl rfl (by decide +kernel) ⟨Nat.le_of_ble_eq_true rfl, Nat.le_of_ble_eq_true rfl⟩) (gPreS (wc := []) (isC := []) hK hX hS hA hP hD trivial (by decide +kernel)) rfl rfl hl.1 rfl (lv_room (Nat.le_of_ble_eq_true rfl)) dX12_ofTool_14 ⟨Nat.le_of_ble_eq_true rfl, Nat.le_of_ble_eq_true rfl⟩) (fun H locs hP hS => ?_)
    refine lv_if_ne (tgt := 26) hx hb dX12_ofTool_17 (by decide) (fun c_6 => ?_) (fun c_6 => ?_)
    · replace h := it_f c_6 h
      refine lv_iload_n hx hb dX12_ofTool_26 rfl (lv_at hl 2 rfl) ?_
      by_cases c_7 : a_2 = 0
      · replace h := it_t c_7 h
        refine lv_tableIn (x := a_2) (off := 33) (tgt := 60) hx hb dX12_ofTool_27 (by rw [c_7]; decide) (by rw [c_7]; decide) (by rw [c_7]; rfl) (by decide) ?_
        refine lv_aload_n hx hb dX12_ofTool_60 rfl (lv_at hl 0 rfl) ?_
        refine lv_iload_n hx hb dX12_ofTool_61 rfl (lv_at hl 1 rfl) ?_
        replace h := kb_ok h
        obtain ⟨r_9, hc_8, h⟩ := h
        refine gCallIr (isC := [0, 1]) (wc := [(q_this, .inr (12, [.ref q_d, .ref q_kept, .int v_images, .ref q_found, .ref q_aside, .int v_base, .int v_at, .int v_size, .int v_fault, .int v_opened, .int v_isSeen, .ref q_names, .ref q_seenKept, .ref q_movedKept, .int v_isKeeping, .int v_bubbleMany, .int v_bubbleMost, .int v_bubbleCell, .int v_bestShown, .ref q_traced, .int v_traceMany, .int v_who, .ref q_bitsOf, .ref q_sizeOf, .ref q_number, .ref q_lifted])), (q_d, .inl (c 0, 244, .inl v_d))]) hP hD hS hA ⟨rfl, rfl, trivial⟩ (va_runV (rm := rm_X12_kindOf) (ws := wsX12_kindOf) (As := [.int a_1]) (rest := []) (gFix hF) (c_X12_kindOf l D c q_this q_d q_kept q_found q_aside q_names q_seenKept q_movedKept q_traced q_bitsOf q_sizeOf q_number q_lifted a_1 v_images v_base v_at v_size v_fault v_opened v_isSeen v_isKeeping v_bubbleMany v_bubbleMost v_bubbleCell v_bestShown v_traceMany v_who v_d r_9 hc_8 H.size) (cwV 1 hts gX12_ofTool_X12_kindOf rfl rfl rfl (by decide +kernel) ⟨Nat.le_of_ble_eq_true rfl, Nat.le_of_ble_eq_true rfl⟩) (gPreV (wc := [(q_this, .inr (12, [.ref q_d, .ref q_kept, .int v_images, .ref q_found, .ref q_aside, .int v_base, .int v_at, .int v_size, .int v_fault, .int v_opened, .int v_isSeen, .ref q_names, .ref q_seenKept, .ref q_movedKept, .int v_isKeeping, .int v_bubbleMany, .int v_bubbleMost, .int v_bubbleCell, .int v_bestShown, .ref q_traced, .int v_traceMany, .int v_who, .ref q_bitsOf, .ref q_sizeOf, .ref q_number, .ref q_lifted])), (q_d, .inl (c 0, 244, .inl v_d))]) (q := (RX12, TX12, 26)) (ci := 12) (q0 := 0) (isC := [0, 1]) hK hX hS hA hP hD ⟨rfl, rfl, trivial⟩ (by decide +kernel) rfl rfl) rfl rfl hl.1 rfl (lv_room (Nat.le_of_ble_eq_true rfl)) dX12_ofTool_62 ⟨Nat.le_of_ble_eq_true rfl, Nat.le_of_ble_eq_true rfl⟩) (fun H locs hP hS => ?_)
        replace h := so10 h
        obtain ⟨z0, z1, z2, z3, z4, z5, z6, z7, z8, z9⟩ := h
        subst z0 z1 z2 z3 z4 z5 z6 z7 z8 z9
        exact gIret hF hP hD hS rfl dX12_ofTool_65
      · replace h := it_f c_7 h
        by_cases c_10 : a_2 = 1
        · replace h := it_t c_10 h
          refine lv_tableIn (x := a_2) (off := 39) (tgt := 66) hx hb dX12_ofTool_27 (by rw [c_10]; decide) (by rw [c_10]; decide) (by rw [c_10]; rfl) (by decide) ?_
          refine lv_aload_n hx hb dX12_ofTool_66 rfl (lv_at hl 0 rfl) ?_
          refine lv_iload_n hx hb dX12_ofTool_67 rfl (lv_at hl 1 rfl) ?_
          replace h := kb_ok h
          obtain ⟨r_12, hc_11, h⟩ := h
          refine gCallIr (isC := [0, 1]) (wc := [(q_this, .inr (12, [.ref q_d, .ref q_kept, .int v_images, .ref q_found, .ref q_aside, .int v_base, .int v_at, .int v_size, .int v_fault, .int v_opened, .int v_isSeen, .ref q_names, .ref q_seenKept, .ref q_movedKept, .int v_isKeeping, .int v_bubbleMany, .int v_bubbleMost, .int v_bubbleCell, .int v_bestShown, .ref q_traced, .int v_traceMany, .int v_who, .ref q_bitsOf, .ref q_sizeOf, .ref q_number, .ref q_lifted])), (q_d, .inl (c 0, 244, .inl v_d))]) hP hD hS hA ⟨rfl, rfl, trivial⟩ (va_runV (rm := rm_X12_numberOf) (ws := wsX12_numberOf) (As := [.int a_1]) (rest := []) (gFix hF) (c_X12_numberOf l D c q_this q_d q_kept q_found q_aside q_names q_seenKept q_movedKept q_traced q_bitsOf q_sizeOf q_number q_lifted a_1 v_images v_base v_at v_size v_fault v_opened v_isSeen v_isKeeping v_bubbleMany v_bubbleMost v_bubbleCell v_bestShown v_traceMany v_who v_d r_12 hc_11 H.size) (cwV 1 hts gX12_ofTool_X12_numberOf rfl rfl rfl (by decide +kernel) ⟨Nat.le_of_ble_eq_true rfl, Nat.le_of_ble_eq_true rfl⟩) (gPreV (wc := [(q_this, .inr (12, [.ref q_d, .ref q_kept, .int v_images, .ref q_found, .ref q_aside, .int v_base, .int v_at, .int v_size, .int v_fault, .int v_opened, .int v_isSeen, .ref q_names, .ref q_seenKept, .ref q_movedKept, .int v_isKeeping, .int v_bubbleMany, .int v_bubbleMost, .int v_bubbleCell, .int v_bestShown, .ref q_traced, .int v_traceMany, .int v_who, .ref q_bitsOf, .ref q_sizeOf, .ref q_number, .ref q_lifted])), (q_d, .inl (c 0, 244, .inl v_d))]) (q := (RX12, TX12, 26)) (ci := 12) (q0 := 0) (isC := [0, 1]) hK hX hS hA hP hD ⟨rfl, rfl, trivial⟩ (by decide +kernel) rfl rfl) rfl rfl hl.1 rfl (lv_room (Nat.le_of_ble_eq_true rfl)) dX12_ofTool_68 ⟨Nat.le_of_ble_eq_true rfl, Nat.le_of_ble_eq_true rfl⟩) (fun H locs hP hS => ?_)
          replace h := so10 h
          obtain ⟨z0, z1, z2, z3, z4, z5, z6, z7, z8, z9⟩ := h
          subst z0 z1 z2 z3 z4 z5 z6 z7 z8 z9
          exact gIret hF hP hD hS rfl dX12_ofTool_71
        · replace h := it_f c_10 h
          by_cases c_13 : a_2 = 2
          · replace h := it_t c_13 h
            refine lv_tableIn (x := a_2) (off := 45) (tgt := 72) hx hb dX12_ofTool_27 (by rw [c_13]; decide) (by rw [c_13]; decide) (by rw [c_13]; rfl) (by decide) ?_
            refine lv_aload_n hx hb dX12_ofTool_72 rfl (lv_at hl 0 rfl) ?_
            refine lv_iload_n hx hb dX12_ofTool_73 rfl (lv_at hl 1 rfl) ?_
            replace h := kb_ok h
            obtain ⟨r_15, hc_14, h⟩ := h
            refine gCallIr (isC := [0, 1]) (wc := [(q_this, .inr (12, [.ref q_d, .ref q_kept, .int v_images, .ref q_found, .ref q_aside, .int v_base, .int v_at, .int v_size, .int v_fault, .int v_opened, .int v_isSeen, .ref q_names, .ref q_seenKept, .ref q_movedKept, .int v_isKeeping, .int v_bubbleMany, .int v_bubbleMost, .int v_bubbleCell, .int v_bestShown, .ref q_traced, .int v_traceMany, .int v_who, .ref q_bitsOf, .ref q_sizeOf, .ref q_number, .ref q_lifted])), (q_d, .inl (c 0, 244, .inl v_d))]) hP hD hS hA ⟨rfl, rfl, trivial⟩ (va_runV (rm := rm_X12_reachOf) (ws := wsX12_reachOf) (As := [.int a_1]) (rest := []) (gFix hF) (c_X12_reachOf l D c q_this q_d q_kept q_found q_aside q_names q_seenKept q_movedKept q_traced q_bitsOf q_sizeOf q_number q_lifted a_1 v_images v_base v_at v_size v_fault v_opened v_isSeen v_isKeeping v_bubbleMany v_bubbleMost v_bubbleCell v_bestShown v_traceMany v_who v_d r_15 hc_14 H.size) (cwV 1 hts gX12_ofTool_X12_reachOf rfl rfl rfl (by decide +kernel) ⟨Nat.le_of_ble_eq_true rfl, Nat.le_of_ble_eq_true rfl⟩) (gPreV (wc := [(q_this, .inr (12, [.ref q_d, .ref q_kept, .int v_images, .ref q_found, .ref q_aside, .int v_base, .int v_at, .int v_size, .int v_fault, .int v_opened, .int v_isSeen, .ref q_names, .ref q_seenKept, .ref q_movedKept, .int v_isKeeping, .int v_bubbleMany, .int v_bubbleMost, .int v_bubbleCell, .int v_bestShown, .ref q_traced, .int v_traceMany, .int v_who, .ref q_bitsOf, .ref q_sizeOf, .ref q_number, .ref q_lifted])), (q_d, .inl (c 0, 244, .inl v_d))]) (q := (RX12, TX12, 26)) (ci := 12) (q0 := 0) (isC := [0, 1]) hK hX hS hA hP hD ⟨rfl, rfl, trivial⟩ (by decide +kernel) rfl rfl) rfl rfl hl.1 rfl (lv_room (Nat.le_of_ble_eq_true rfl)) dX12_ofTool_74 ⟨Nat.le_of_ble_eq_true rfl, Nat.le_of_ble_eq_true rfl⟩) (fun H locs hP hS => ?_)
            replace h := so10 h
            obtain ⟨z0, z1, z2, z3, z4, z5, z6, z7, z8, z9⟩ := h
            subst z0 z1 z2 z3 z4 z5 z6 z7 z8 z9
            exact gIret hF hP hD hS rfl dX12_ofTool_77
          · replace h := it_f c_13 h
            by_cases c_16 : a_2 = 3
            · replace h := it_t c_16 h
              refine lv_tableIn (x := a_2) (off := 51) (tgt := 78) hx hb dX12_ofTool_27 (by rw [c_16]; decide) (by rw [c_16]; decide) (by rw [c_16]; rfl) (by decide) ?_
              refine lv_aload_n hx hb dX12_ofTool_78 rfl (lv_at hl 0 rfl) ?_
              refine lv_iload_n hx hb dX12_ofTool_79 rfl (lv_at hl 1 rfl) ?_
              refine lv_bipush (v := 20) hx hb dX12_ofTool_80 (by decide) ?_
              refine lv_iconst (v := 5) hx hb dX12_ofTool_82 (by decide) ?_
              replace h := kb9_ok h
              obtain ⟨r_18, w_19, w_20, w_21, w_22, w_23, w_24, w_25, w_26, hc_17, h⟩ := h
              refine gCallI (isC := [0, 1, 3, 4]) (wc := [(q_this, .inr (12, [.ref q_d, .ref q_kept, .int v_images, .ref q_found, .ref q_aside, .int v_base, .int v_at, .int v_size, .int v_fault, .int v_opened, .int v_isSeen, .ref q_names, .ref q_seenKept, .ref q_movedKept, .int v_isKeeping, .int v_bubbleMany, .int v_bubbleMost, .int v_bubbleCell, .int v_bestShown, .ref q_traced, .int v_traceMany, .int v_who, .ref q_bitsOf, .ref q_sizeOf, .ref q_number, .ref q_lifted])), (q_d, .inl (c 0, 244, .inl v_d)), (q_movedKept, .inl (c 0, 1000, .inl v_movedKept)), (q_names, .inl (c 0, 3, .inl v_names))]) (w1 := [(q_this, .inr (12, [.ref q_d, .ref q_kept, .int v_images, .ref q_found, .ref q_aside, .int w_19, .int w_20, .int w_21, .int w_22, .int w_23, .int w_24, .ref q_names, .ref q_seenKept, .ref q_movedKept, .int v_isKeeping, .int v_bubbleMany, .int v_bubbleMost, .int v_bubbleCell, .int v_bestShown, .ref q_traced, .int v_traceMany, .int v_who, .ref q_bitsOf, .ref q_sizeOf, .ref q_number, .ref q_lifted])), (q_d, .inl (c 0, 244, .inl v_d)), (q_movedKept, .inl (c 0, 1000, .inl w_25)), (q_names, .inl (c 0, 3, .inl w_26))]) (ws2 := [(q_this, .inr (12, [.ref q_d, .ref q_kept, .int v_images, .ref q_found, .ref q_aside, .int w_19, .int w_20, .int w_21, .int w_22, .int w_23, .int w_24, .ref q_names, .ref q_seenKept, .ref q_movedKept, .int v_isKeeping, .int v_bubbleMany, .int v_bubbleMost, .int v_bubbleCell, .int v_bestShown, .ref q_traced, .int v_traceMany, .int v_who, .ref q_bitsOf, .ref q_sizeOf, .ref q_number, .ref q_lifted])), (q_d, .inl (c 0, 244, .inl v_d)), (q_found, .inl (c 0, 6, .inl v_found)), (q_movedKept, .inl (c 0, 1000, .inl w_25)), (q_names, .inl (c 0, 3, .inl w_26))]) (ms := [(some 0), (some 1), none, (some 2), (some 3)]) hP hD hS hA ⟨rfl, rfl, rfl, rfl, trivial⟩ (by decide +kernel) ⟨rfl, rfl, rfl, rfl, rfl, trivial⟩ (va_runV (rm := rm_X12_movesOf) (ws := wsX12_movesOf) (As := [.int a_1, .int 20, .int 5]) (rest := []) (gFix hF) (c_X12_movesOf l D c q_this q_d q_kept q_found q_aside q_names q_seenKept q_movedKept q_traced q_bitsOf q_sizeOf q_number q_lifted a_1 20 5 v_images v_base v_at v_size v_fault v_opened v_isSeen v_isKeeping v_bubbleMany v_bubbleMost v_bubbleCell v_bestShown v_traceMany v_who v_d v_movedKept v_names r_18 w_19 w_20 w_21 w_22 w_23 w_24 w_25 w_26 hc_17 H.size) (cwV 3 hts gX12_ofTool_X12_movesOf rfl rfl rfl (by decide +kernel) ⟨Nat.le_of_ble_eq_true rfl, Nat.le_of_ble_eq_true rfl⟩) (gPreV (wc := [(q_this, .inr (12, [.ref q_d, .ref q_kept, .int v_images, .ref q_found, .ref q_aside, .int v_base, .int v_at, .int v_size, .int v_fault, .int v_opened, .int v_isSeen, .ref q_names, .ref q_seenKept, .ref q_movedKept, .int v_isKeeping, .int v_bubbleMany, .int v_bubbleMost, .int v_bubbleCell, .int v_bestShown, .ref q_traced, .int v_traceMany, .int v_who, .ref q_bitsOf, .ref q_sizeOf, .ref q_number, .ref q_lifted])), (q_d, .inl (c 0, 244, .inl v_d)), (q_movedKept, .inl (c 0, 1000, .inl v_movedKept)), (q_names, .inl (c 0, 3, .inl v_names))]) (q := (RX12, TX12, 26)) (ci := 12) (q0 := 0) (isC := [0, 1, 3, 4]) hK hX hS hA hP hD ⟨rfl, rfl, rfl, rfl, trivial⟩ (by decide +kernel) rfl rfl) rfl rfl hl.1 rfl (lv_room (Nat.le_of_ble_eq_true rfl)) dX12_ofTool_83 ⟨Nat.le_of_ble_eq_true rfl, Nat.le_of_ble_eq_true rfl⟩) (fun H locs hP hD hS => ?_)
              replace h := so10 h
              obtain ⟨z0, z1, z2, z3, z4, z5, z6, z7, z8, z9⟩ := h
              subst z0 z1 z2 z3 z4 z5 z6 z7 z8 z9
              exact gIret hF hP hD hS rfl dX12_ofTool_86
            · replace h := it_f c_16 h
              by_cases c_27 : a_2 = 4
              · replace h := it_t c_27 h
                refine lv_tableIn (x := a_2) (off := 60) (tgt := 87) hx hb dX12_ofTool_27 (by rw [c_27]; decide) (by rw [c_27]; decide) (by rw [c_27]; rfl) (by decide) ?_
                refine lv_aload_n hx hb dX12_ofTool_87 rfl (lv_at hl 0 rfl) ?_
                refine lv_iload_n hx hb dX12_ofTool_88 rfl (lv_at hl 1 rfl) ?_
                refine lv_bipush (v := 20) hx hb dX12_ofTool_89 (by decide) ?_
                replace h := kb_ok h
                obtain ⟨r_29, hc_28, h⟩ := h
                refine gCallIr (isC := [0, 1]) (wc := [(q_this, .inr (12, [.ref q_d, .ref q_kept, .int v_images, .ref q_found, .ref q_aside, .int v_base, .int v_at, .int v_size, .int v_fault, .int v_opened, .int v_isSeen, .ref q_names, .ref q_seenKept, .ref q_movedKept, .int v_isKeeping, .int v_bubbleMany, .int v_bubbleMost, .int v_bubbleCell, .int v_bestShown, .ref q_traced, .int v_traceMany, .int v_who, .ref q_bitsOf, .ref q_sizeOf, .ref q_number, .ref q_lifted])), (q_d, .inl (c 0, 244, .inl v_d))]) hP hD hS hA ⟨rfl, rfl, trivial⟩ (va_runV (rm := rm_X12_letsOf) (ws := wsX12_letsOf) (As := [.int a_1, .int 20]) (rest := []) (gFix hF) (c_X12_letsOf l D c q_this q_d q_kept q_found q_aside q_names q_seenKept q_movedKept q_traced q_bitsOf q_sizeOf q_number q_lifted a_1 20 v_images v_base v_at v_size v_fault v_opened v_isSeen v_isKeeping v_bubbleMany v_bubbleMost v_bubbleCell v_bestShown v_traceMany v_who v_d r_29 hc_28 H.size) (cwV 2 hts gX12_ofTool_X12_letsOf rfl rfl rfl (by decide +kernel) ⟨Nat.le_of_ble_eq_true rfl, Nat.le_of_ble_eq_true rfl⟩) (gPreV (wc := [(q_this, .inr (12, [.ref q_d, .ref q_kept, .int v_images, .ref q_found, .ref q_aside, .int v_base, .int v_at, .int v_size, .int v_fault, .int v_opened, .int v_isSeen, .ref q_names, .ref q_seenKept, .ref q_movedKept, .int v_isKeeping, .int v_bubbleMany, .int v_bubbleMost, .int v_bubbleCell, .int v_bestShown, .ref q_traced, .int v_traceMany, .int v_who, .ref q_bitsOf, .ref q_sizeOf, .ref q_number, .ref q_lifted])), (q_d, .inl (c 0, 244, .inl v_d))]) (q := (RX12, TX12, 26)) (ci := 12) (q0 := 0) (isC := [0, 1]) hK hX hS hA hP hD ⟨rfl, rfl, trivial⟩ (by decide +kernel) rfl rfl) rfl rfl hl.1 rfl (lv_room (Nat.le_of_ble_eq_true rfl)) dX12_ofTool_91 ⟨Nat.le_of_ble_eq_true rfl, Nat.le_of_ble_eq_true rfl⟩) (fun H locs hP hS => ?_)
                replace h := so10 h
                obtain ⟨z0, z1, z2, z3, z4, z5, z6, z7, z8, z9⟩ := h
                subst z0 z1 z2 z3 z4 z5 z6 z7 z8 z9
                exact gIret hF hP hD hS rfl dX12_ofTool_94
              · replace h := it_f c_27 h
                refine lv_tableOut (x := a_2) (tgt := 95) hx hb dX12_ofTool_27 (by have q0 := gNe (z := 0) (by decide) c_7; have q1 := gNe (z := 1) (by decide) c_10; have q2 := gNe (z := 2) (by decide) c_13; have q3 := gNe (z := 3) (by decide) c_16; have q4 := gNe (z := 4) (by decide) c_27; omega) (by decide) ?_
                refine lv_aload_n hx hb dX12_ofTool_95 rfl (lv_at hl 0 rfl) ?_
                refine lv_iload_n hx hb dX12_ofTool_96 rfl (lv_at hl 1 rfl) ?_
                refine lv_iload_n hx hb dX12_ofTool_97 rfl (lv_at hl 2 rfl) ?_
                refine lv_iconst (v := 5) hx hb dX12_ofTool_98 (by decide) ?_
                refine lv_icmp_ne (tgt := 106) hx hb dX12_ofTool_99 (by decide) (fun c_30 => ?_) (fun c_30 => ?_)
                · replace h := it_f c_30 h
                  refine lv_bipush (v := 9) hx hb dX12_ofTool_106 (by decide) ?_
                  exact t_L108 a_1 9 v_base v_at v_size v_fault v_opened v_isSeen v_found v_movedKept v_names H locs hP hD hS ls (lv_sub hl [] rfl) h
                · replace h := it_t c_30 h
                  refine lv_iconst (v := 0) hx hb dX12_ofTool_102 (by decide) ?_
                  refine lv_goto (tgt := 108) hx hb dX12_ofTool_103 (by decide) ?_
                  exact t_L108 a_1 0 v_base v_at v_size v_fault v_opened v_isSeen v_found v_movedKept v_names H locs hP hD hS ls (lv_sub hl [] rfl) h
    · replace h := it_t c_6 h
      exact t_L20 v_base v_at v_size v_fault v_opened v_isSeen v_found v_movedKept v_names H locs hP hD hS ls (lv_sub hl [0] rfl) h
set_option maxRecDepth 20000 in
theorem in_X12_put_X12 : ∀ w ∈ u_ws RX12 TX12 26, w ∈ wsX12_put := by decide +kernel
abbrev rm_X12_put : Room := { frames := 2, cells := 0, slots := 0, locals := 45 }
set_option maxHeartbeats 4000000 in
set_option maxRecDepth 100000 in
theorem c_X12_put (l : Launch) (D : va_G) (c : Nat → ClassId) (q_this q_d q_kept q_found q_aside q_names q_seenKept q_movedKept q_traced q_bitsOf q_sizeOf q_number q_lifted : Nat) (a_1 : Int32) (a_2 : Int32) (a_3 : Int32) (v_images : Int32) (v_base : Int32) (v_at : Int32) (v_size : Int32) (v_fault : Int32) (v_opened : Int32) (v_isSeen : Int32) (v_isKeeping : Int32) (v_bubbleMany : Int32) (v_bubbleMost : Int32) (v_bubbleCell : Int32) (v_bestShown : Int32) (v_traceMany : Int32) (v_who : Int32) (v_bitsOf : Nat → Int32) (v_found : Nat → Int32) (v_number : Nat → Int32) (v_sizeOf : Nat → Int32) (o_r : Int32) (o_v_found : Nat → Int32) (o_v_number : Nat → Int32) (h : f_X12_put a_1 a_2 a_3 v_bitsOf v_found v_number v_sizeOf = some (o_r, o_v_found, o_v_number)) : gMI l yX12_put wsX12_put rm_X12_put D c [.ref q_this, .int a_1, .int a_2, .int a_3] [(q_this, .inr (12, [.ref q_d, .ref q_kept, .int v_images, .ref q_found, .ref q_aside, .int v_base, .int v_at, .int v_size, .int v_fault, .int v_opened, .int v_isSeen, .ref q_names, .ref q_seenKept, .ref q_movedKept, .int v_isKeeping, .int v_bubbleMany, .int v_bubbleMost, .int v_bubbleCell, .int v_bestShown, .ref q_traced, .int v_traceMany, .int v_who, .ref q_bitsOf, .ref q_sizeOf, .ref q_number, .ref q_lifted])), (q_bitsOf, .inl (c 0, 4, .inl v_bitsOf)), (q_found, .inl (c 0, 6, .inl v_found)), (q_number, .inl (c 0, 160, .inl v_number)), (q_sizeOf, .inl (c 0, 4, .inl v_sizeOf))] [(q_this, .inr (12, [.ref q_d, .ref q_kept, .int v_images, .ref q_found, .ref q_aside, .int v_base, .int v_at, .int v_size, .int v_fault, .int v_opened, .int v_isSeen, .ref q_names, .ref q_seenKept, .ref q_movedKept, .int v_isKeeping, .int v_bubbleMany, .int v_bubbleMost, .int v_bubbleCell, .int v_bestShown, .ref q_traced, .int v_traceMany, .int v_who, .ref q_bitsOf, .ref q_sizeOf, .ref q_number, .ref q_lifted])), (q_bitsOf, .inl (c 0, 4, .inl v_bitsOf)), (q_found, .inl (c 0, 6, .inl o_v_found)), (q_number, .inl (c 0, 160, .inl o_v_number)), (q_sizeOf, .inl (c 0, 4, .inl v_sizeOf))] o_r := by
  refine gMI_of (cc := cX12_put) (maxL := 4) (rt := (some .int)) (by decide +kernel) rfl (Nat.le_of_ble_eq_true rfl) ?_
  intro p e s m below meth co A hF hK hX hP hD hA hS ls hl
  obtain ⟨hx, hb, hr, hts, hown, hlocks, hml⟩ := id hF
  have hl : lv_has ls 4 [(0, .ref q_this), (1, .int a_1), (2, .int a_2), (3, .int a_3)] := hl
  unfold f_X12_put at h
  refine lv_iload_n hx hb dX12_put_0 rfl (lv_at hl 1 rfl) ?_
  replace h := kb_ok h
  obtain ⟨r_2, hc_1, h⟩ := h
  refine gCallIr (isC := []) (wc := []) hP hD hS hA trivial (va_runS (rm := rm_X12_isSheet) (ws := wsX12_isSheet) (As := [.int a_1]) (rest := []) (gFix hF) (c_X12_isSheet l D c a_1 r_2 hc_1 s.heap.size) (va_cwS 1 hts gX12_put_X12_isSheet rfl rfl rfl (by decide +kernel) ⟨Nat.le_of_ble_eq_true rfl, Nat.le_of_ble_eq_true rfl⟩) (gPreS (wc := []) (isC := []) hK hX hS hA hP hD trivial (by decide +kernel)) rfl rfl hl.1 rfl (lv_room (Nat.le_of_ble_eq_true rfl)) dX12_put_1 ⟨Nat.le_of_ble_eq_true rfl, Nat.le_of_ble_eq_true rfl⟩) (fun H locs hP hS => ?_)
  refine lv_if_ne (tgt := 13) hx hb dX12_put_4 (by decide) (fun c_3 => ?_) (fun c_3 => ?_)
  · replace h := it_f c_3 h
    refine lv_aload_n hx hb dX12_put_13 rfl (lv_at hl 0 rfl) ?_
    refine va_get (D := D) (ci := 12) (v := .ref q_bitsOf) (C := RX12) (T := TX12) (N := 26) hx hb hts in_X12_put_X12 hown hK.1 hP 0 rfl rfl 22 (by decide) (hts (.fieldLink RX12 34 "PaperBubblesModel" "bitsOf" "[I") (List.mem_of_getElem? (i := 1) rfl)) (fun _ h9 => h9) rfl dX12_put_14 ?_
    refine lv_iload_n hx hb dX12_put_17 rfl (lv_at hl 1 rfl) ?_
    replace h := chi_ok h
    obtain ⟨hi_4, h⟩ := h
    refine va_iald hx hb hK.1 hP 1 0 rfl rfl hi_4 dX12_put_18 ?_
    refine lv_if_ne (tgt := 28) hx hb dX12_put_19 (by decide) (fun c_5 => ?_) (fun c_5 => ?_)
    · replace h := it_f c_5 h
      refine lv_iload_n hx hb dX12_put_28 rfl (lv_at hl 2 rfl) ?_
      refine lv_i2l hx hb dX12_put_29 rfl ?_
      refine lv_lconst (v := 0) hx hb dX12_put_30 (by decide) ?_
      refine lv_aload_n hx hb dX12_put_31 rfl (lv_at hl 0 rfl) ?_
      refine va_get (D := D) (ci := 12) (v := .ref q_sizeOf) (C := RX12) (T := TX12) (N := 26) hx hb hts in_X12_put_X12 hown hK.1 hP 0 rfl rfl 23 (by decide) (hts (.fieldLink RX12 37 "PaperBubblesModel" "sizeOf" "[I") (List.mem_of_getElem? (i := 2) rfl)) (fun _ h9 => h9) rfl dX12_put_32 ?_
      refine lv_iload_n hx hb dX12_put_35 rfl (lv_at hl 1 rfl) ?_
      replace h := chi_ok h
      obtain ⟨hi_6, h⟩ := h
      refine va_iald hx hb hK.1 hP 4 0 rfl rfl hi_6 dX12_put_36 ?_
      replace h := nm_ok h
      obtain ⟨t_7, et_7, h⟩ := h
      refine gTop et_7 ?_
      refine lv_iconst (v := 1) hx hb dX12_put_37 (by decide) ?_
      refine lv_isub hx hb dX12_put_38 ?_
      refine lv_i2l hx hb dX12_put_39 rfl ?_
      replace h := kb_ok h
      obtain ⟨r_9, hc_8, h⟩ := h
      refine gCallIr (isC := []) (wc := []) hP hD hS hA trivial (va_runS (rm := rm_X12_in) (ws := wsX12_in) (As := [.long ((a_2 : Int32).toInt64), .long 0, .long (((t_7 - 1) : Int32).toInt64)]) (rest := []) (gFix hF) (c_X12_in l D c ((a_2 : Int32).toInt64) 0 (((t_7 - 1) : Int32).toInt64) r_9 hc_8 H.size) (va_cwS 3 hts gX12_put_X12_in rfl rfl rfl (by decide +kernel) ⟨Nat.le_of_ble_eq_true rfl, Nat.le_of_ble_eq_true rfl⟩) (gPreS (wc := []) (isC := []) hK hX hS hA hP hD trivial (by decide +kernel)) rfl rfl hl.1 rfl (lv_room (Nat.le_of_ble_eq_true rfl)) dX12_put_40 ⟨Nat.le_of_ble_eq_true rfl, Nat.le_of_ble_eq_true rfl⟩) (fun H locs hP hS => ?_)
      refine lv_if_ne (tgt := 52) hx hb dX12_put_43 (by decide) (fun c_10 => ?_) (fun c_10 => ?_)
      · replace h := it_f c_10 h
        refine lv_aload_n hx hb dX12_put_52 rfl (lv_at hl 0 rfl) ?_
        refine va_get (D := D) (ci := 12) (v := .ref q_number) (C := RX12) (T := TX12) (N := 26) hx hb hts in_X12_put_X12 hown hK.1 hP 0 rfl rfl 24 (by decide) (hts (.fieldLink RX12 40 "PaperBubblesModel" "number" "[I") (List.mem_of_getElem? (i := 3) rfl)) (fun _ h9 => h9) rfl dX12_put_53 ?_
        refine lv_bipush (v := 40) hx hb dX12_put_56 (by decide) ?_
        refine lv_iload_n hx hb dX12_put_58 rfl (lv_at hl 1 rfl) ?_
        refine lv_imul hx hb dX12_put_59 ?_
        replace h := nm_ok h
        obtain ⟨t_11, et_11, h⟩ := h
        refine gTop et_11 ?_
        refine lv_iload_n hx hb dX12_put_60 rfl (lv_at hl 2 rfl) ?_
        refine lv_iadd hx hb dX12_put_61 ?_
        replace h := nm_ok h
        obtain ⟨t_12, et_12, h⟩ := h
        refine gTop et_12 ?_
        refine lv_aload_n hx hb dX12_put_62 rfl (lv_at hl 0 rfl) ?_
        refine va_get (D := D) (ci := 12) (v := .ref q_bitsOf) (C := RX12) (T := TX12) (N := 26) hx hb hts in_X12_put_X12 hown hK.1 hP 0 rfl rfl 22 (by decide) (hts (.fieldLink RX12 34 "PaperBubblesModel" "bitsOf" "[I") (List.mem_of_getElem? (i := 1) rfl)) (fun _ h9 => h9) rfl dX12_put_63 ?_
        refine lv_iload_n hx hb dX12_put_66 rfl (lv_at hl 1 rfl) ?_
        replace h := chi_ok h
        obtain ⟨hi_13, h⟩ := h
        refine va_iald hx hb hK.1 hP 1 0 rfl rfl hi_13 dX12_put_67 ?_
        replace h := nm_ok h
        obtain ⟨t_14, et_14, h⟩ := h
        refine gTop et_14 ?_
        refine lv_bipush (v := 8) hx hb dX12_put_68 (by decide) ?_
        refine lv_icmp_ne (tgt := 78) hx hb dX12_put_70 (by decide) (fun c_15 => ?_) (fun c_15 => ?_)
        · replace h := it_f c_15 h
          refine lv_aload_n hx hb dX12_put_78 rfl (lv_at hl 0 rfl) ?_
          refine va_get (D := D) (ci := 12) (v := .ref q_bitsOf) (C := RX12) (T := TX12) (N := 26) hx hb hts in_X12_put_X12 hown hK.1 hP 0 rfl rfl 22 (by decide) (hts (.fieldLink RX12 34 "PaperBubblesModel" "bitsOf" "[I") (List.mem_of_getElem? (i := 1) rfl)) (fun _ h9 => h9) rfl dX12_put_79 ?_
          refine lv_iload_n hx hb dX12_put_82 rfl (lv_at hl 1 rfl) ?_
          replace h := chi_ok h
          obtain ⟨hi_16, h⟩ := h
          refine va_iald hx hb hK.1 hP 1 0 rfl rfl hi_16 dX12_put_83 ?_
          replace h := nm_ok h
          obtain ⟨t_17, et_17, h⟩ := h
          refine gTop et_17 ?_
          refine lv_bipush (v := 16) hx hb dX12_put_84 (by decide) ?_
          refine lv_icmp_ne (tgt := 94) hx hb dX12_put_86 (by decide) (fun c_18 => ?_) (fun c_18 => ?_)
          · replace h := it_f c_18 h
            refine lv_iload_n hx hb dX12_put_94 rfl (lv_at hl 3 rfl) ?_
            replace h := chi_ok h
            obtain ⟨hi_19, h⟩ := h
            replace h := nm_ok h
            obtain ⟨w_20, ew_20, h⟩ := h
            refine va_iast hx hb hK.1 hP hD hS 3 0 rfl rfl hi_19 dX12_put_95 (fun H locs hP hD hS => ?_)
            have hP : va_P D gcl [(q_this, .inr (12, [.ref q_d, .ref q_kept, .int v_images, .ref q_found, .ref q_aside, .int v_base, .int v_at, .int v_size, .int v_fault, .int v_opened, .int v_isSeen, .ref q_names, .ref q_seenKept, .ref q_movedKept, .int v_isKeeping, .int v_bubbleMany, .int v_bubbleMost, .int v_bubbleCell, .int v_bestShown, .ref q_traced, .int v_traceMany, .int v_who, .ref q_bitsOf, .ref q_sizeOf, .ref q_number, .ref q_lifted])), (q_bitsOf, .inl (c 0, 4, .inl v_bitsOf)), (q_found, .inl (c 0, 6, .inl v_found)), (q_number, .inl (c 0, 160, .inl w_20)), (q_sizeOf, .inl (c 0, 4, .inl v_sizeOf))] H := by subst ew_20; exact hP
            have hD : va_D A [(q_this, .inr (12, [.ref q_d, .ref q_kept, .int v_images, .ref q_found, .ref q_aside, .int v_base, .int v_at, .int v_size, .int v_fault, .int v_opened, .int v_isSeen, .ref q_names, .ref q_seenKept, .ref q_movedKept, .int v_isKeeping, .int v_bubbleMany, .int v_bubbleMost, .int v_bubbleCell, .int v_bestShown, .ref q_traced, .int v_traceMany, .int v_who, .ref q_bitsOf, .ref q_sizeOf, .ref q_number, .ref q_lifted])), (q_bitsOf, .inl (c 0, 4, .inl v_bitsOf)), (q_found, .inl (c 0, 6, .inl v_found)), (q_number, .inl (c 0, 160, .inl w_20)), (q_sizeOf, .inl (c 0, 4, .inl v_sizeOf))] := by subst ew_20; exact hD
            refine lv_iconst (v := 1) hx hb dX12_put_96 (by decide) ?_
            replace h := so3 h
            obtain ⟨z0, z1, z2⟩ := h
            subst z0 z1 z2
            exact gIret hF hP hD hS rfl dX12_put_97
          · replace h := it_t c_18 h
            refine lv_iload_n hx hb dX12_put_89 rfl (lv_at hl 3 rfl) ?_
            refine lv_i2s hx hb dX12_put_90 rfl ?_
            replace h := nm_ok h
            obtain ⟨t_21, et_21, h⟩ := h
            refine gTop et_21 ?_
            refine lv_goto (tgt := 95) hx hb dX12_put_91 (by decide) ?_
            replace h := chi_ok h
            obtain ⟨hi_22, h⟩ := h
            replace h := nm_ok h
            obtain ⟨w_23, ew_23, h⟩ := h
            refine va_iast hx hb hK.1 hP hD hS 3 0 rfl rfl hi_22 dX12_put_95 (fun H locs hP hD hS => ?_)
            have hP : va_P D gcl [(q_this, .inr (12, [.ref q_d, .ref q_kept, .int v_images, .ref q_found, .ref q_aside, .int v_base, .int v_at, .int v_size, .int v_fault, .int v_opened, .int v_isSeen, .ref q_names, .ref q_seenKept, .ref q_movedKept, .int v_isKeeping, .int v_bubbleMany, .int v_bubbleMost, .int v_bubbleCell, .int v_bestShown, .ref q_traced, .int v_traceMany, .int v_who, .ref q_bitsOf, .ref q_sizeOf, .ref q_number, .ref q_lifted])), (q_bitsOf, .inl (c 0, 4, .inl v_bitsOf)), (q_found, .inl (c 0, 6, .inl v_found)), (q_number, .inl (c 0, 160, .inl w_23)), (q_sizeOf, .inl (c 0, 4, .inl v_sizeOf))] H := by subst ew_23; exact hP
            have hD : va_D A [(q_this, .inr (12, [.ref q_d, .ref q_kept, .int v_images, .ref q_found, .ref q_aside, .int v_base, .int v_at, .int v_size, .int v_fault, .int v_opened, .int v_isSeen, .ref q_names, .ref q_seenKept, .ref q_movedKept, .int v_isKeeping, .int v_bubbleMany, .int v_bubbleMost, .int v_bubbleCell, .int v_bestShown, .ref q_traced, .int v_traceMany, .int v_who, .ref q_bitsOf, .ref q_sizeOf, .ref q_number, .ref q_lifted])), (q_bitsOf, .inl (c 0, 4, .inl v_bitsOf)), (q_found, .inl (c 0, 6, .inl v_found)), (q_number, .inl (c 0, 160, .inl w_23)), (q_sizeOf, .inl (c 0, 4, .inl v_sizeOf))] := by subst ew_23; exact hD
            refine lv_iconst (v := 1) hx hb dX12_put_96 (by decide) ?_
            replace h := so3 h
            obtain ⟨z0, z1, z2⟩ := h
            subst z0 z1 z2
            exact gIret hF hP hD hS rfl dX12_put_97
        · replace h := it_t c_15 h
          refine lv_iload_n hx hb dX12_put_73 rfl (lv_at hl 3 rfl) ?_
          refine lv_i2b hx hb dX12_put_74 rfl ?_
          replace h := nm_ok h
          obtain ⟨t_24, et_24, h⟩ := h
          refine gTop et_24 ?_
          refine lv_goto (tgt := 95) hx hb dX12_put_75 (by decide) ?_
          replace h := chi_ok h
          obtain ⟨hi_25, h⟩ := h
          replace h := nm_ok h
          obtain ⟨w_26, ew_26, h⟩ := h
          refine va_iast hx hb hK.1 hP hD hS 3 0 rfl rfl hi_25 dX12_put_95 (fun H locs hP hD hS => ?_)
          have hP : va_P D gcl [(q_this, .inr (12, [.ref q_d, .ref q_kept, .int v_images, .ref q_found, .ref q_aside, .int v_base, .int v_at, .int v_size, .int v_fault, .int v_opened, .int v_isSeen, .ref q_names, .ref q_seenKept, .ref q_movedKept, .int v_isKeeping, .int v_bubbleMany, .int v_bubbleMost, .int v_bubbleCell, .int v_bestShown, .ref q_traced, .int v_traceMany, .int v_who, .ref q_bitsOf, .ref q_sizeOf, .ref q_number, .ref q_lifted])), (q_bitsOf, .inl (c 0, 4, .inl v_bitsOf)), (q_found, .inl (c 0, 6, .inl v_found)), (q_number, .inl (c 0, 160, .inl w_26)), (q_sizeOf, .inl (c 0, 4, .inl v_sizeOf))] H := by subst ew_26; exact hP
          have hD : va_D A [(q_this, .inr (12, [.ref q_d, .ref q_kept, .int v_images, .ref q_found, .ref q_aside, .int v_base, .int v_at, .int v_size, .int v_fault, .int v_opened, .int v_isSeen, .ref q_names, .ref q_seenKept, .ref q_movedKept, .int v_isKeeping, .int v_bubbleMany, .int v_bubbleMost, .int v_bubbleCell, .int v_bestShown, .ref q_traced, .int v_traceMany, .int v_who, .ref q_bitsOf, .ref q_sizeOf, .ref q_number, .ref q_lifted])), (q_bitsOf, .inl (c 0, 4, .inl v_bitsOf)), (q_found, .inl (c 0, 6, .inl v_found)), (q_number, .inl (c 0, 160, .inl w_26)), (q_sizeOf, .inl (c 0, 4, .inl v_sizeOf))] := by subst ew_26; exact hD
          refine lv_iconst (v := 1) hx hb dX12_put_96 (by decide) ?_
          replace h := so3 h
          obtain ⟨z0, z1, z2⟩ := h
          subst z0 z1 z2
          exact gIret hF hP hD hS rfl dX12_put_97
      · replace h := it_t c_10 h
        refine lv_aload_n hx hb dX12_put_46 rfl (lv_at hl 0 rfl) ?_
        refine lv_iconst (v := 1) hx hb dX12_put_47 (by decide) ?_
        replace h := kb2_ok h
        obtain ⟨r_28, w_29, hc_27, h⟩ := h
        refine gCallI (isC := [0, 2]) (wc := [(q_this, .inr (12, [.ref q_d, .ref q_kept, .int v_images, .ref q_found, .ref q_aside, .int v_base, .int v_at, .int v_size, .int v_fault, .int v_opened, .int v_isSeen, .ref q_names, .ref q_seenKept, .ref q_movedKept, .int v_isKeeping, .int v_bubbleMany, .int v_bubbleMost, .int v_bubbleCell, .int v_bestShown, .ref q_traced, .int v_traceMany, .int v_who, .ref q_bitsOf, .ref q_sizeOf, .ref q_number, .ref q_lifted])), (q_found, .inl (c 0, 6, .inl v_found))]) (w1 := [(q_this, .inr (12, [.ref q_d, .ref q_kept, .int v_images, .ref q_found, .ref q_aside, .int v_base, .int v_at, .int v_size, .int v_fault, .int v_opened, .int v_isSeen, .ref q_names, .ref q_seenKept, .ref q_movedKept, .int v_isKeeping, .int v_bubbleMany, .int v_bubbleMost, .int v_bubbleCell, .int v_bestShown, .ref q_traced, .int v_traceMany, .int v_who, .ref q_bitsOf, .ref q_sizeOf, .ref q_number, .ref q_lifted])), (q_found, .inl (c 0, 6, .inl w_29))]) (ws2 := [(q_this, .inr (12, [.ref q_d, .ref q_kept, .int v_images, .ref q_found, .ref q_aside, .int v_base, .int v_at, .int v_size, .int v_fault, .int v_opened, .int v_isSeen, .ref q_names, .ref q_seenKept, .ref q_movedKept, .int v_isKeeping, .int v_bubbleMany, .int v_bubbleMost, .int v_bubbleCell, .int v_bestShown, .ref q_traced, .int v_traceMany, .int v_who, .ref q_bitsOf, .ref q_sizeOf, .ref q_number, .ref q_lifted])), (q_bitsOf, .inl (c 0, 4, .inl v_bitsOf)), (q_found, .inl (c 0, 6, .inl w_29)), (q_number, .inl (c 0, 160, .inl v_number)), (q_sizeOf, .inl (c 0, 4, .inl v_sizeOf))]) (ms := [(some 0), none, (some 1), none, none]) hP hD hS hA ⟨rfl, rfl, trivial⟩ (by decide +kernel) ⟨rfl, rfl, rfl, rfl, rfl, trivial⟩ (va_runV (rm := rm_X12_finds) (ws := wsX12_finds) (As := [.int 1]) (rest := []) (gFix hF) (c_X12_finds l D c q_this q_d q_kept q_found q_aside q_names q_seenKept q_movedKept q_traced q_bitsOf q_sizeOf q_number q_lifted 1 v_images v_base v_at v_size v_fault v_opened v_isSeen v_isKeeping v_bubbleMany v_bubbleMost v_bubbleCell v_bestShown v_traceMany v_who v_found r_28 w_29 hc_27 H.size) (cwV 1 hts gX12_put_X12_finds rfl rfl rfl (by decide +kernel) ⟨Nat.le_of_ble_eq_true rfl, Nat.le_of_ble_eq_true rfl⟩) (gPreV (wc := [(q_this, .inr (12, [.ref q_d, .ref q_kept, .int v_images, .ref q_found, .ref q_aside, .int v_base, .int v_at, .int v_size, .int v_fault, .int v_opened, .int v_isSeen, .ref q_names, .ref q_seenKept, .ref q_movedKept, .int v_isKeeping, .int v_bubbleMany, .int v_bubbleMost, .int v_bubbleCell, .int v_bestShown, .ref q_traced, .int v_traceMany, .int v_who, .ref q_bitsOf, .ref q_sizeOf, .ref q_number, .ref q_lifted])), (q_found, .inl (c 0, 6, .inl v_found))]) (q := (RX12, TX12, 26)) (ci := 12) (q0 := 0) (isC := [0, 2]) hK hX hS hA hP hD ⟨rfl, rfl, trivial⟩ (by decide +kernel) rfl rfl) rfl rfl hl.1 rfl (lv_room (Nat.le_of_ble_eq_true rfl)) dX12_put_48 ⟨Nat.le_of_ble_eq_true rfl, Nat.le_of_ble_eq_true rfl⟩) (fun H locs hP hD hS => ?_)
        replace h := so3 h
        obtain ⟨z0, z1, z2⟩ := h
        subst z0 z1 z2
        exact gIret hF hP hD hS rfl dX12_put_51
    · replace h := it_t c_5 h
      refine lv_aload_n hx hb dX12_put_22 rfl (lv_at hl 0 rfl) ?_
      refine lv_iconst (v := 2) hx hb dX12_put_23 (by decide) ?_
      replace h := kb2_ok h
      obtain ⟨r_31, w_32, hc_30, h⟩ := h
      refine gCallI (isC := [0, 2]) (wc := [(q_this, .inr (12, [.ref q_d, .ref q_kept, .int v_images, .ref q_found, .ref q_aside, .int v_base, .int v_at, .int v_size, .int v_fault, .int v_opened, .int v_isSeen, .ref q_names, .ref q_seenKept, .ref q_movedKept, .int v_isKeeping, .int v_bubbleMany, .int v_bubbleMost, .int v_bubbleCell, .int v_bestShown, .ref q_traced, .int v_traceMany, .int v_who, .ref q_bitsOf, .ref q_sizeOf, .ref q_number, .ref q_lifted])), (q_found, .inl (c 0, 6, .inl v_found))]) (w1 := [(q_this, .inr (12, [.ref q_d, .ref q_kept, .int v_images, .ref q_found, .ref q_aside, .int v_base, .int v_at, .int v_size, .int v_fault, .int v_opened, .int v_isSeen, .ref q_names, .ref q_seenKept, .ref q_movedKept, .int v_isKeeping, .int v_bubbleMany, .int v_bubbleMost, .int v_bubbleCell, .int v_bestShown, .ref q_traced, .int v_traceMany, .int v_who, .ref q_bitsOf, .ref q_sizeOf, .ref q_number, .ref q_lifted])), (q_found, .inl (c 0, 6, .inl w_32))]) (ws2 := [(q_this, .inr (12, [.ref q_d, .ref q_kept, .int v_images, .ref q_found, .ref q_aside, .int v_base, .int v_at, .int v_size, .int v_fault, .int v_opened, .int v_isSeen, .ref q_names, .ref q_seenKept, .ref q_movedKept, .int v_isKeeping, .int v_bubbleMany, .int v_bubbleMost, .int v_bubbleCell, .int v_bestShown, .ref q_traced, .int v_traceMany, .int v_who, .ref q_bitsOf, .ref q_sizeOf, .ref q_number, .ref q_lifted])), (q_bitsOf, .inl (c 0, 4, .inl v_bitsOf)), (q_found, .inl (c 0, 6, .inl w_32)), (q_number, .inl (c 0, 160, .inl v_number)), (q_sizeOf, .inl (c 0, 4, .inl v_sizeOf))]) (ms := [(some 0), none, (some 1), none, none]) hP hD hS hA ⟨rfl, rfl, trivial⟩ (by decide +kernel) ⟨rfl, rfl, rfl, rfl, rfl, trivial⟩ (va_runV (rm := rm_X12_finds) (ws := wsX12_finds) (As := [.int 2]) (rest := []) (gFix hF) (c_X12_finds l D c q_this q_d q_kept q_found q_aside q_names q_seenKept q_movedKept q_traced q_bitsOf q_sizeOf q_number q_lifted 2 v_images v_base v_at v_size v_fault v_opened v_isSeen v_isKeeping v_bubbleMany v_bubbleMost v_bubbleCell v_bestShown v_traceMany v_who v_found r_31 w_32 hc_30 H.size) (cwV 1 hts gX12_put_X12_finds rfl rfl rfl (by decide +kernel) ⟨Nat.le_of_ble_eq_true rfl, Nat.le_of_ble_eq_true rfl⟩) (gPreV (wc := [(q_this, .inr (12, [.ref q_d, .ref q_kept, .int v_images, .ref q_found, .ref q_aside, .int v_base, .int v_at, .int v_size, .int v_fault, .int v_opened, .int v_isSeen, .ref q_names, .ref q_seenKept, .ref q_movedKept, .int v_isKeeping, .int v_bubbleMany, .int v_bubbleMost, .int v_bubbleCell, .int v_bestShown, .ref q_traced, .int v_traceMany, .int v_who, .ref q_bitsOf, .ref q_sizeOf, .ref q_number, .ref q_lifted])), (q_found, .inl (c 0, 6, .inl v_found))]) (q := (RX12, TX12, 26)) (ci := 12) (q0 := 0) (isC := [0, 2]) hK hX hS hA hP hD ⟨rfl, rfl, trivial⟩ (by decide +kernel) rfl rfl) rfl rfl hl.1 rfl (lv_room (Nat.le_of_ble_eq_true rfl)) dX12_put_24 ⟨Nat.le_of_ble_eq_true rfl, Nat.le_of_ble_eq_true rfl⟩) (fun H locs hP hD hS => ?_)
      replace h := so3 h
      obtain ⟨z0, z1, z2⟩ := h
      subst z0 z1 z2
      exact gIret hF hP hD hS rfl dX12_put_27
  · replace h := it_t c_3 h
    refine lv_aload_n hx hb dX12_put_7 rfl (lv_at hl 0 rfl) ?_
    refine lv_iconst (v := 1) hx hb dX12_put_8 (by decide) ?_
    replace h := kb2_ok h
    obtain ⟨r_34, w_35, hc_33, h⟩ := h
    refine gCallI (isC := [0, 2]) (wc := [(q_this, .inr (12, [.ref q_d, .ref q_kept, .int v_images, .ref q_found, .ref q_aside, .int v_base, .int v_at, .int v_size, .int v_fault, .int v_opened, .int v_isSeen, .ref q_names, .ref q_seenKept, .ref q_movedKept, .int v_isKeeping, .int v_bubbleMany, .int v_bubbleMost, .int v_bubbleCell, .int v_bestShown, .ref q_traced, .int v_traceMany, .int v_who, .ref q_bitsOf, .ref q_sizeOf, .ref q_number, .ref q_lifted])), (q_found, .inl (c 0, 6, .inl v_found))]) (w1 := [(q_this, .inr (12, [.ref q_d, .ref q_kept, .int v_images, .ref q_found, .ref q_aside, .int v_base, .int v_at, .int v_size, .int v_fault, .int v_opened, .int v_isSeen, .ref q_names, .ref q_seenKept, .ref q_movedKept, .int v_isKeeping, .int v_bubbleMany, .int v_bubbleMost, .int v_bubbleCell, .int v_bestShown, .ref q_traced, .int v_traceMany, .int v_who, .ref q_bitsOf, .ref q_sizeOf, .ref q_number, .ref q_lifted])), (q_found, .inl (c 0, 6, .inl w_35))]) (ws2 := [(q_this, .inr (12, [.ref q_d, .ref q_kept, .int v_images, .ref q_found, .ref q_aside, .int v_base, .int v_at, .int v_size, .int v_fault, .int v_opened, .int v_isSeen, .ref q_names, .ref q_seenKept, .ref q_movedKept, .int v_isKeeping, .int v_bubbleMany, .int v_bubbleMost, .int v_bubbleCell, .int v_bestShown, .ref q_traced, .int v_traceMany, .int v_who, .ref q_bitsOf, .ref q_sizeOf, .ref q_number, .ref q_lifted])), (q_bitsOf, .inl (c 0, 4, .inl v_bitsOf)), (q_found, .inl (c 0, 6, .inl w_35)), (q_number, .inl (c 0, 160, .inl v_number)), (q_sizeOf, .inl (c 0, 4, .inl v_sizeOf))]) (ms := [(some 0), none, (some 1), none, none]) hP hD hS hA ⟨rfl, rfl, trivial⟩ (by decide +kernel) ⟨rfl, rfl, rfl, rfl, rfl, trivial⟩ (va_runV (rm := rm_X12_finds) (ws := wsX12_finds) (As := [.int 1]) (rest := []) (gFix hF) (c_X12_finds l D c q_this q_d q_kept q_found q_aside q_names q_seenKept q_movedKept q_traced q_bitsOf q_sizeOf q_number q_lifted 1 v_images v_base v_at v_size v_fault v_opened v_isSeen v_isKeeping v_bubbleMany v_bubbleMost v_bubbleCell v_bestShown v_traceMany v_who v_found r_34 w_35 hc_33 H.size) (cwV 1 hts gX12_put_X12_finds rfl rfl rfl (by decide +kernel) ⟨Nat.le_of_ble_eq_true rfl, Nat.le_of_ble_eq_true rfl⟩) (gPreV (wc := [(q_this, .inr (12, [.ref q_d, .ref q_kept, .int v_images, .ref q_found, .ref q_aside, .int v_base, .int v_at, .int v_size, .int v_fault, .int v_opened, .int v_isSeen, .ref q_names, .ref q_seenKept, .ref q_movedKept, .int v_isKeeping, .int v_bubbleMany, .int v_bubbleMost, .int v_bubbleCell, .int v_bestShown, .ref q_traced, .int v_traceMany, .int v_who, .ref q_bitsOf, .ref q_sizeOf, .ref q_number, .ref q_lifted])), (q_found, .inl (c 0, 6, .inl v_found))]) (q := (RX12, TX12, 26)) (ci := 12) (q0 := 0) (isC := [0, 2]) hK hX hS hA hP hD ⟨rfl, rfl, trivial⟩ (by decide +kernel) rfl rfl) rfl rfl hl.1 rfl (lv_room (Nat.le_of_ble_eq_true rfl)) dX12_put_9 ⟨Nat.le_of_ble_eq_true rfl, Nat.le_of_ble_eq_true rfl⟩) (fun H locs hP hD hS => ?_)
    replace h := so3 h
    obtain ⟨z0, z1, z2⟩ := h
    subst z0 z1 z2
    exact gIret hF hP hD hS rfl dX12_put_12
set_option maxRecDepth 20000 in
theorem in_X12_restore_X12 : ∀ w ∈ u_ws RX12 TX12 26, w ∈ wsX12_restore := by decide +kernel
abbrev rm_X12_restore : Room := { frames := 1, cells := 0, slots := 0, locals := 21 }
set_option maxHeartbeats 4000000 in
set_option maxRecDepth 100000 in
theorem c_X12_restore (l : Launch) (D : va_G) (c : Nat → ClassId) (q_this q_d q_kept q_found q_aside q_names q_seenKept q_movedKept q_traced q_bitsOf q_sizeOf q_number q_lifted : Nat) (v_images : Int32) (v_base : Int32) (v_at : Int32) (v_size : Int32) (v_fault : Int32) (v_opened : Int32) (v_isSeen : Int32) (v_isKeeping : Int32) (v_bubbleMany : Int32) (v_bubbleMost : Int32) (v_bubbleCell : Int32) (v_bestShown : Int32) (v_traceMany : Int32) (v_who : Int32) (v_d : Nat → Int32) (v_found : Nat → Int32) (v_kept : Nat → Int32) (o_r : Int32) (o_v_d : Nat → Int32) (o_v_found : Nat → Int32) (h : f_X12_restore v_images v_d v_found v_kept = some (o_r, o_v_d, o_v_found)) : gMI l yX12_restore wsX12_restore rm_X12_restore D c [.ref q_this] [(q_this, .inr (12, [.ref q_d, .ref q_kept, .int v_images, .ref q_found, .ref q_aside, .int v_base, .int v_at, .int v_size, .int v_fault, .int v_opened, .int v_isSeen, .ref q_names, .ref q_seenKept, .ref q_movedKept, .int v_isKeeping, .int v_bubbleMany, .int v_bubbleMost, .int v_bubbleCell, .int v_bestShown, .ref q_traced, .int v_traceMany, .int v_who, .ref q_bitsOf, .ref q_sizeOf, .ref q_number, .ref q_lifted])), (q_d, .inl (c 0, 244, .inl v_d)), (q_found, .inl (c 0, 6, .inl v_found)), (q_kept, .inl (c 0, 244, .inl v_kept))] [(q_this, .inr (12, [.ref q_d, .ref q_kept, .int v_images, .ref q_found, .ref q_aside, .int v_base, .int v_at, .int v_size, .int v_fault, .int v_opened, .int v_isSeen, .ref q_names, .ref q_seenKept, .ref q_movedKept, .int v_isKeeping, .int v_bubbleMany, .int v_bubbleMost, .int v_bubbleCell, .int v_bestShown, .ref q_traced, .int v_traceMany, .int v_who, .ref q_bitsOf, .ref q_sizeOf, .ref q_number, .ref q_lifted])), (q_d, .inl (c 0, 244, .inl o_v_d)), (q_found, .inl (c 0, 6, .inl o_v_found)), (q_kept, .inl (c 0, 244, .inl v_kept))] o_r := by
  refine gMI_of (cc := cX12_restore) (maxL := 2) (rt := (some .int)) (by decide +kernel) rfl (Nat.le_of_ble_eq_true rfl) ?_
  intro p e s m below meth co A hF hK hX hP hD hA hS ls hl
  obtain ⟨hx, hb, hr, hts, hown, hlocks, hml⟩ := id hF
  have hl : lv_has ls 2 [(0, .ref q_this)] := hl
  have t_L15 : ∀ (n : Nat), ∀ (x1 : Int32) (v_d : Nat → Int32) (v_found : Nat → Int32) (H : Heap) (locs : List Loc), va_P D gcl [(q_this, .inr (12, [.ref q_d, .ref q_kept, .int v_images, .ref q_found, .ref q_aside, .int v_base, .int v_at, .int v_size, .int v_fault, .int v_opened, .int v_isSeen, .ref q_names, .ref q_seenKept, .ref q_movedKept, .int v_isKeeping, .int v_bubbleMany, .int v_bubbleMost, .int v_bubbleCell, .int v_bestShown, .ref q_traced, .int v_traceMany, .int v_who, .ref q_bitsOf, .ref q_sizeOf, .ref q_number, .ref q_lifted])), (q_d, .inl (c 0, 244, .inl v_d)), (q_found, .inl (c 0, 6, .inl v_found)), (q_kept, .inl (c 0, 244, .inl v_kept))] H → va_D A [(q_this, .inr (12, [.ref q_d, .ref q_kept, .int v_images, .ref q_found, .ref q_aside, .int v_base, .int v_at, .int v_size, .int v_fault, .int v_opened, .int v_isSeen, .ref q_names, .ref q_seenKept, .ref q_movedKept, .int v_isKeeping, .int v_bubbleMany, .int v_bubbleMost, .int v_bubbleCell, .int v_bestShown, .ref q_traced, .int v_traceMany, .int v_who, .ref q_bitsOf, .ref q_sizeOf, .ref q_number, .ref q_lifted])), (q_d, .inl (c 0, 244, .inl v_d)), (q_found, .inl (c 0, 6, .inl v_found)), (q_kept, .inl (c 0, 244, .inl v_kept))] → va_S A s.heap H locs → ∀ ls, lv_has ls 2 [(0, .ref q_this), (1, .int x1)] → f_X12_restore_L15 v_kept n x1 v_d v_found = some (o_r, o_v_d, o_v_found) → W p l e (headSpec wsX12_restore rm_X12_restore).room s m [.ref q_this].toArray below meth co H locs 0 0 (gQI D [(q_this, .inr (12, [.ref q_d, .ref q_kept, .int v_images, .ref q_found, .ref q_aside, .int v_base, .int v_at, .int v_size, .int v_fault, .int v_opened, .int v_isSeen, .ref q_names, .ref q_seenKept, .ref q_movedKept, .int v_isKeeping, .int v_bubbleMany, .int v_bubbleMost, .int v_bubbleCell, .int v_bestShown, .ref q_traced, .int v_traceMany, .int v_who, .ref q_bitsOf, .ref q_sizeOf, .ref q_number, .ref q_lifted])), (q_d, .inl (c 0, 244, .inl o_v_d)), (q_found, .inl (c 0, 6, .inl o_v_found)), (q_kept, .inl (c 0, 244, .inl v_kept))] o_r A below [.ref q_this] s) (F0 m 15 ls []) := by
    intro n
    induction n with
    | zero => intro x1 v_d v_found H locs hP hD hS ls hl h; exact no_ok h
    | succ n ih =>
      intro x1 v_d v_found H locs hP hD hS ls hl h
      rw [f_X12_restore_L15] at h
      refine lv_iload_n hx hb dX12_restore_15 rfl (lv_at hl 1 rfl) ?_
      refine lv_sipush (v := 244) hx hb dX12_restore_16 (by decide) ?_
      refine lv_icmp_ge (tgt := 40) hx hb dX12_restore_19 (by decide) (fun c_5 => ?_) (fun c_5 => ?_)
      · replace h := it_t c_5 h
        refine lv_aload_n hx hb dX12_restore_40 rfl (lv_at hl 0 rfl) ?_
        refine va_get (D := D) (ci := 12) (v := .ref q_d) (C := RX12) (T := TX12) (N := 26) hx hb hts in_X12_restore_X12 hown hK.1 hP 0 rfl rfl 0 (by decide) (hts (.fieldLink RX12 7 "PaperBubblesModel" "d" "[I") (List.mem_of_getElem? (i := 2) rfl)) (fun _ h9 => h9) rfl dX12_restore_41 ?_
        refine lv_iconst (v := 5) hx hb dX12_restore_44 (by decide) ?_
        replace h := chi_ok h
        obtain ⟨hi_6, h⟩ := h
        refine va_iald hx hb hK.1 hP 1 0 rfl rfl hi_6 dX12_restore_45 ?_
        replace h := so3 h
        obtain ⟨z0, z1, z2⟩ := h
        subst z0 z1 z2
        exact gIret hF hP hD hS rfl dX12_restore_46
      · replace h := it_f c_5 h
        refine lv_aload_n hx hb dX12_restore_22 rfl (lv_at hl 0 rfl) ?_
        refine va_get (D := D) (ci := 12) (v := .ref q_d) (C := RX12) (T := TX12) (N := 26) hx hb hts in_X12_restore_X12 hown hK.1 hP 0 rfl rfl 0 (by decide) (hts (.fieldLink RX12 7 "PaperBubblesModel" "d" "[I") (List.mem_of_getElem? (i := 2) rfl)) (fun _ h9 => h9) rfl dX12_restore_23 ?_
        refine lv_iload_n hx hb dX12_restore_26 rfl (lv_at hl 1 rfl) ?_
        refine lv_aload_n hx hb dX12_restore_27 rfl (lv_at hl 0 rfl) ?_
        refine va_get (D := D) (ci := 12) (v := .ref q_kept) (C := RX12) (T := TX12) (N := 26) hx hb hts in_X12_restore_X12 hown hK.1 hP 0 rfl rfl 1 (by decide) (hts (.fieldLink RX12 13 "PaperBubblesModel" "kept" "[I") (List.mem_of_getElem? (i := 3) rfl)) (fun _ h9 => h9) rfl dX12_restore_28 ?_
        refine lv_iload_n hx hb dX12_restore_31 rfl (lv_at hl 1 rfl) ?_
        replace h := chi_ok h
        obtain ⟨hi_7, h⟩ := h
        refine va_iald hx hb hK.1 hP 3 0 rfl rfl hi_7 dX12_restore_32 ?_
        replace h := nm_ok h
        obtain ⟨t_8, et_8, h⟩ := h
        refine gTop et_8 ?_
        replace h := chi_ok h
        obtain ⟨hi_9, h⟩ := h
        replace h := nm_ok h
        obtain ⟨w_10, ew_10, h⟩ := h
        refine va_iast hx hb hK.1 hP hD hS 1 0 rfl rfl hi_9 dX12_restore_33 (fun H locs hP hD hS => ?_)
        have hP : va_P D gcl [(q_this, .inr (12, [.ref q_d, .ref q_kept, .int v_images, .ref q_found, .ref q_aside, .int v_base, .int v_at, .int v_size, .int v_fault, .int v_opened, .int v_isSeen, .ref q_names, .ref q_seenKept, .ref q_movedKept, .int v_isKeeping, .int v_bubbleMany, .int v_bubbleMost, .int v_bubbleCell, .int v_bestShown, .ref q_traced, .int v_traceMany, .int v_who, .ref q_bitsOf, .ref q_sizeOf, .ref q_number, .ref q_lifted])), (q_d, .inl (c 0, 244, .inl w_10)), (q_found, .inl (c 0, 6, .inl v_found)), (q_kept, .inl (c 0, 244, .inl v_kept))] H := by subst ew_10; exact hP
        have hD : va_D A [(q_this, .inr (12, [.ref q_d, .ref q_kept, .int v_images, .ref q_found, .ref q_aside, .int v_base, .int v_at, .int v_size, .int v_fault, .int v_opened, .int v_isSeen, .ref q_names, .ref q_seenKept, .ref q_movedKept, .int v_isKeeping, .int v_bubbleMany, .int v_bubbleMost, .int v_bubbleCell, .int v_bestShown, .ref q_traced, .int v_traceMany, .int v_who, .ref q_bitsOf, .ref q_sizeOf, .ref q_number, .ref q_lifted])), (q_d, .inl (c 0, 244, .inl w_10)), (q_found, .inl (c 0, 6, .inl v_found)), (q_kept, .inl (c 0, 244, .inl v_kept))] := by subst ew_10; exact hD
        replace h := nm_ok h
        obtain ⟨t_11, et_11, h⟩ := h
        refine lv_iinc (v := t_11) (lv' := [(1, .int t_11), (0, .ref q_this)]) hx hb dX12_restore_34 hl (k := 1) rfl (by rw [et_11]; rfl) (by decide) rfl (fun ls hl => ?_)
        refine lv_goto (tgt := 15) hx hb dX12_restore_37 (by decide) ?_
        exact ih t_11 w_10 v_found H locs hP hD hS ls (lv_sub hl [1, 0] rfl) h
  unfold f_X12_restore at h
  refine lv_aload_n hx hb dX12_restore_0 rfl (lv_at hl 0 rfl) ?_
  refine va_get (D := D) (ci := 12) (v := .int v_images) (C := RX12) (T := TX12) (N := 26) hx hb hts in_X12_restore_X12 hown hK.1 hP 0 rfl rfl 2 (by decide) (hts (.fieldLink RX12 283 "PaperBubblesModel" "images" "I") (List.mem_of_getElem? (i := 1) rfl)) (fun _ h9 => h9) rfl dX12_restore_1 ?_
  refine lv_if_ne (tgt := 13) hx hb dX12_restore_4 (by decide) (fun c_1 => ?_) (fun c_1 => ?_)
  · replace h := it_f c_1 h
    refine lv_iconst (v := 0) hx hb dX12_restore_13 (by decide) ?_
    refine lv_istore_n (lv' := [(1, .int 0), (0, .ref q_this)]) hx hb dX12_restore_14 rfl hl (by decide) rfl (fun ls hl => ?_)
    exact t_L15 gFuel 0 v_d v_found s.heap [] hP hD hS ls (lv_sub hl [1, 0] rfl) h
  · replace h := it_t c_1 h
    refine lv_aload_n hx hb dX12_restore_7 rfl (lv_at hl 0 rfl) ?_
    refine lv_iconst (v := 2) hx hb dX12_restore_8 (by decide) ?_
    replace h := kb2_ok h
    obtain ⟨r_3, w_4, hc_2, h⟩ := h
    refine gCallI (isC := [0, 2]) (wc := [(q_this, .inr (12, [.ref q_d, .ref q_kept, .int v_images, .ref q_found, .ref q_aside, .int v_base, .int v_at, .int v_size, .int v_fault, .int v_opened, .int v_isSeen, .ref q_names, .ref q_seenKept, .ref q_movedKept, .int v_isKeeping, .int v_bubbleMany, .int v_bubbleMost, .int v_bubbleCell, .int v_bestShown, .ref q_traced, .int v_traceMany, .int v_who, .ref q_bitsOf, .ref q_sizeOf, .ref q_number, .ref q_lifted])), (q_found, .inl (c 0, 6, .inl v_found))]) (w1 := [(q_this, .inr (12, [.ref q_d, .ref q_kept, .int v_images, .ref q_found, .ref q_aside, .int v_base, .int v_at, .int v_size, .int v_fault, .int v_opened, .int v_isSeen, .ref q_names, .ref q_seenKept, .ref q_movedKept, .int v_isKeeping, .int v_bubbleMany, .int v_bubbleMost, .int v_bubbleCell, .int v_bestShown, .ref q_traced, .int v_traceMany, .int v_who, .ref q_bitsOf, .ref q_sizeOf, .ref q_number, .ref q_lifted])), (q_found, .inl (c 0, 6, .inl w_4))]) (ws2 := [(q_this, .inr (12, [.ref q_d, .ref q_kept, .int v_images, .ref q_found, .ref q_aside, .int v_base, .int v_at, .int v_size, .int v_fault, .int v_opened, .int v_isSeen, .ref q_names, .ref q_seenKept, .ref q_movedKept, .int v_isKeeping, .int v_bubbleMany, .int v_bubbleMost, .int v_bubbleCell, .int v_bestShown, .ref q_traced, .int v_traceMany, .int v_who, .ref q_bitsOf, .ref q_sizeOf, .ref q_number, .ref q_lifted])), (q_d, .inl (c 0, 244, .inl v_d)), (q_found, .inl (c 0, 6, .inl w_4)), (q_kept, .inl (c 0, 244, .inl v_kept))]) (ms := [(some 0), none, (some 1), none]) hP hD hS hA ⟨rfl, rfl, trivial⟩ (by decide +kernel) ⟨rfl, rfl, rfl, rfl, trivial⟩ (va_runV (rm := rm_X12_finds) (ws := wsX12_finds) (As := [.int 2]) (rest := []) (gFix hF) (c_X12_finds l D c q_this q_d q_kept q_found q_aside q_names q_seenKept q_movedKept q_traced q_bitsOf q_sizeOf q_number q_lifted 2 v_images v_base v_at v_size v_fault v_opened v_isSeen v_isKeeping v_bubbleMany v_bubbleMost v_bubbleCell v_bestShown v_traceMany v_who v_found r_3 w_4 hc_2 s.heap.size) (cwV 1 hts gX12_restore_X12_finds rfl rfl rfl (by decide +kernel) ⟨Nat.le_of_ble_eq_true rfl, Nat.le_of_ble_eq_true rfl⟩) (gPreV (wc := [(q_this, .inr (12, [.ref q_d, .ref q_kept, .int v_images, .ref q_found, .ref q_aside, .int v_base, .int v_at, .int v_size, .int v_fault, .int v_opened, .int v_isSeen, .ref q_names, .ref q_seenKept, .ref q_movedKept, .int v_isKeeping, .int v_bubbleMany, .int v_bubbleMost, .int v_bubbleCell, .int v_bestShown, .ref q_traced, .int v_traceMany, .int v_who, .ref q_bitsOf, .ref q_sizeOf, .ref q_number, .ref q_lifted])), (q_found, .inl (c 0, 6, .inl v_found))]) (q := (RX12, TX12, 26)) (ci := 12) (q0 := 0) (isC := [0, 2]) hK hX hS hA hP hD ⟨rfl, rfl, trivial⟩ (by decide +kernel) rfl rfl) rfl rfl hl.1 rfl (lv_room (Nat.le_of_ble_eq_true rfl)) dX12_restore_9 ⟨Nat.le_of_ble_eq_true rfl, Nat.le_of_ble_eq_true rfl⟩) (fun H locs hP hD hS => ?_)
    replace h := so3 h
    obtain ⟨z0, z1, z2⟩ := h
    subst z0 z1 z2
    exact gIret hF hP hD hS rfl dX12_restore_12
set_option maxRecDepth 20000 in
theorem in_X12_seed_X12 : ∀ w ∈ u_ws RX12 TX12 26, w ∈ wsX12_seed := by decide +kernel
abbrev rm_X12_seed : Room := { frames := 0, cells := 0, slots := 0, locals := 0 }
set_option maxHeartbeats 4000000 in
set_option maxRecDepth 100000 in
theorem c_X12_seed (l : Launch) (D : va_G) (c : Nat → ClassId) (q_this q_d q_kept q_found q_aside q_names q_seenKept q_movedKept q_traced q_bitsOf q_sizeOf q_number q_lifted : Nat) (a_1 : Int32) (v_images : Int32) (v_base : Int32) (v_at : Int32) (v_size : Int32) (v_fault : Int32) (v_opened : Int32) (v_isSeen : Int32) (v_isKeeping : Int32) (v_bubbleMany : Int32) (v_bubbleMost : Int32) (v_bubbleCell : Int32) (v_bestShown : Int32) (v_traceMany : Int32) (v_who : Int32) (v_d : Nat → Int32) (o_r : Int32) (o_v_d : Nat → Int32) (h : f_X12_seed a_1 v_d = some (o_r, o_v_d)) : gMI l yX12_seed wsX12_seed rm_X12_seed D c [.ref q_this, .int a_1] [(q_this, .inr (12, [.ref q_d, .ref q_kept, .int v_images, .ref q_found, .ref q_aside, .int v_base, .int v_at, .int v_size, .int v_fault, .int v_opened, .int v_isSeen, .ref q_names, .ref q_seenKept, .ref q_movedKept, .int v_isKeeping, .int v_bubbleMany, .int v_bubbleMost, .int v_bubbleCell, .int v_bestShown, .ref q_traced, .int v_traceMany, .int v_who, .ref q_bitsOf, .ref q_sizeOf, .ref q_number, .ref q_lifted])), (q_d, .inl (c 0, 244, .inl v_d))] [(q_this, .inr (12, [.ref q_d, .ref q_kept, .int v_images, .ref q_found, .ref q_aside, .int v_base, .int v_at, .int v_size, .int v_fault, .int v_opened, .int v_isSeen, .ref q_names, .ref q_seenKept, .ref q_movedKept, .int v_isKeeping, .int v_bubbleMany, .int v_bubbleMost, .int v_bubbleCell, .int v_bestShown, .ref q_traced, .int v_traceMany, .int v_who, .ref q_bitsOf, .ref q_sizeOf, .ref q_number, .ref q_lifted])), (q_d, .inl (c 0, 244, .inl o_v_d))] o_r := by
  refine gMI_of (cc := cX12_seed) (maxL := 3) (rt := (some .int)) (by decide +kernel) rfl (Nat.le_of_ble_eq_true rfl) ?_
  intro p e s m below meth co A hF hK hX hP hD hA hS ls hl
  obtain ⟨hx, hb, hr, hts, hown, hlocks, hml⟩ := id hF
  have hl : lv_has ls 3 [(0, .ref q_this), (1, .int a_1)] := hl
  unfold f_X12_seed at h
  refine lv_aload_n hx hb dX12_seed_0 rfl (lv_at hl 0 rfl) ?_
  refine va_get (D := D) (ci := 12) (v := .ref q_d) (C := RX12) (T := TX12) (N := 26) hx hb hts in_X12_seed_X12 hown hK.1 hP 0 rfl rfl 0 (by decide) (hts (.fieldLink RX12 7 "PaperBubblesModel" "d" "[I") (List.mem_of_getElem? (i := 1) rfl)) (fun _ h9 => h9) rfl dX12_seed_1 ?_
  refine lv_bipush (v := 6) hx hb dX12_seed_4 (by decide) ?_
  replace h := chi_ok h
  obtain ⟨hi_1, h⟩ := h
  refine va_iald hx hb hK.1 hP 1 0 rfl rfl hi_1 dX12_seed_6 ?_
  replace h := nm_ok h
  obtain ⟨t_2, et_2, h⟩ := h
  refine gTop et_2 ?_
  refine lv_istore_n (lv' := [(2, .int t_2), (0, .ref q_this), (1, .int a_1)]) hx hb dX12_seed_7 rfl hl (by decide) rfl (fun ls hl => ?_)
  refine lv_aload_n hx hb dX12_seed_8 rfl (lv_at hl 1 rfl) ?_
  refine va_get (D := D) (ci := 12) (v := .ref q_d) (C := RX12) (T := TX12) (N := 26) hx hb hts in_X12_seed_X12 hown hK.1 hP 0 rfl rfl 0 (by decide) (hts (.fieldLink RX12 7 "PaperBubblesModel" "d" "[I") (List.mem_of_getElem? (i := 1) rfl)) (fun _ h9 => h9) rfl dX12_seed_9 ?_
  refine lv_bipush (v := 6) hx hb dX12_seed_12 (by decide) ?_
  refine lv_iload_n hx hb dX12_seed_14 rfl (lv_at hl 2 rfl) ?_
  replace h := chi_ok h
  obtain ⟨hi_3, h⟩ := h
  replace h := nm_ok h
  obtain ⟨w_4, ew_4, h⟩ := h
  refine va_iast hx hb hK.1 hP hD hS 1 0 rfl rfl hi_3 dX12_seed_15 (fun H locs hP hD hS => ?_)
  have hP : va_P D gcl [(q_this, .inr (12, [.ref q_d, .ref q_kept, .int v_images, .ref q_found, .ref q_aside, .int v_base, .int v_at, .int v_size, .int v_fault, .int v_opened, .int v_isSeen, .ref q_names, .ref q_seenKept, .ref q_movedKept, .int v_isKeeping, .int v_bubbleMany, .int v_bubbleMost, .int v_bubbleCell, .int v_bestShown, .ref q_traced, .int v_traceMany, .int v_who, .ref q_bitsOf, .ref q_sizeOf, .ref q_number, .ref q_lifted])), (q_d, .inl (c 0, 244, .inl w_4))] H := by subst ew_4; exact hP
  have hD : va_D A [(q_this, .inr (12, [.ref q_d, .ref q_kept, .int v_images, .ref q_found, .ref q_aside, .int v_base, .int v_at, .int v_size, .int v_fault, .int v_opened, .int v_isSeen, .ref q_names, .ref q_seenKept, .ref q_movedKept, .int v_isKeeping, .int v_bubbleMany, .int v_bubbleMost, .int v_bubbleCell, .int v_bestShown, .ref q_traced, .int v_traceMany, .int v_who, .ref q_bitsOf, .ref q_sizeOf, .ref q_number, .ref q_lifted])), (q_d, .inl (c 0, 244, .inl w_4))] := by subst ew_4; exact hD
  refine lv_iload_n hx hb dX12_seed_16 rfl (lv_at hl 0 rfl) ?_
  replace h := so2 h
  obtain ⟨z0, z1⟩ := h
  subst z0 z1
  exact gIret hF hP hD hS rfl dX12_seed_17
set_option maxRecDepth 20000 in
theorem in_X12_set_X12 : ∀ w ∈ u_ws RX12 TX12 26, w ∈ wsX12_set := by decide +kernel
abbrev rm_X12_set : Room := { frames := 2, cells := 0, slots := 0, locals := 46 }
set_option maxHeartbeats 4000000 in
set_option maxRecDepth 100000 in
theorem c_X12_set (l : Launch) (D : va_G) (c : Nat → ClassId) (q_this q_d q_kept q_found q_aside q_names q_seenKept q_movedKept q_traced q_bitsOf q_sizeOf q_number q_lifted : Nat) (a_1 : Int32) (a_2 : Int32) (a_3 : Int32) (v_images : Int32) (v_base : Int32) (v_at : Int32) (v_size : Int32) (v_fault : Int32) (v_opened : Int32) (v_isSeen : Int32) (v_isKeeping : Int32) (v_bubbleMany : Int32) (v_bubbleMost : Int32) (v_bubbleCell : Int32) (v_bestShown : Int32) (v_traceMany : Int32) (v_who : Int32) (v_d : Nat → Int32) (v_found : Nat → Int32) (o_r : Int32) (o_v_d : Nat → Int32) (o_v_found : Nat → Int32) (h : f_X12_set a_1 a_2 a_3 v_d v_found = some (o_r, o_v_d, o_v_found)) : gMI l yX12_set wsX12_set rm_X12_set D c [.ref q_this, .int a_1, .int a_2, .int a_3] [(q_this, .inr (12, [.ref q_d, .ref q_kept, .int v_images, .ref q_found, .ref q_aside, .int v_base, .int v_at, .int v_size, .int v_fault, .int v_opened, .int v_isSeen, .ref q_names, .ref q_seenKept, .ref q_movedKept, .int v_isKeeping, .int v_bubbleMany, .int v_bubbleMost, .int v_bubbleCell, .int v_bestShown, .ref q_traced, .int v_traceMany, .int v_who, .ref q_bitsOf, .ref q_sizeOf, .ref q_number, .ref q_lifted])), (q_d, .inl (c 0, 244, .inl v_d)), (q_found, .inl (c 0, 6, .inl v_found))] [(q_this, .inr (12, [.ref q_d, .ref q_kept, .int v_images, .ref q_found, .ref q_aside, .int v_base, .int v_at, .int v_size, .int v_fault, .int v_opened, .int v_isSeen, .ref q_names, .ref q_seenKept, .ref q_movedKept, .int v_isKeeping, .int v_bubbleMany, .int v_bubbleMost, .int v_bubbleCell, .int v_bestShown, .ref q_traced, .int v_traceMany, .int v_who, .ref q_bitsOf, .ref q_sizeOf, .ref q_number, .ref q_lifted])), (q_d, .inl (c 0, 244, .inl o_v_d)), (q_found, .inl (c 0, 6, .inl o_v_found))] o_r := by
  refine gMI_of (cc := cX12_set) (maxL := 6) (rt := (some .int)) (by decide +kernel) rfl (Nat.le_of_ble_eq_true rfl) ?_
  intro p e s m below meth co A hF hK hX hP hD hA hS ls hl
  obtain ⟨hx, hb, hr, hts, hown, hlocks, hml⟩ := id hF
  have hl : lv_has ls 6 [(0, .ref q_this), (1, .int a_1), (2, .int a_2), (3, .int a_3)] := hl
  have t_L40 : ∀ (v_d : Nat → Int32) (v_found : Nat → Int32) (H : Heap) (locs : List Loc), va_P D gcl [(q_this, .inr (12, [.ref q_d, .ref q_kept, .int v_images, .ref q_found, .ref q_aside, .int v_base, .int v_at, .int v_size, .int v_fault, .int v_opened, .int v_isSeen, .ref q_names, .ref q_seenKept, .ref q_movedKept, .int v_isKeeping, .int v_bubbleMany, .int v_bubbleMost, .int v_bubbleCell, .int v_bestShown, .ref q_traced, .int v_traceMany, .int v_who, .ref q_bitsOf, .ref q_sizeOf, .ref q_number, .ref q_lifted])), (q_d, .inl (c 0, 244, .inl v_d)), (q_found, .inl (c 0, 6, .inl v_found))] H → va_D A [(q_this, .inr (12, [.ref q_d, .ref q_kept, .int v_images, .ref q_found, .ref q_aside, .int v_base, .int v_at, .int v_size, .int v_fault, .int v_opened, .int v_isSeen, .ref q_names, .ref q_seenKept, .ref q_movedKept, .int v_isKeeping, .int v_bubbleMany, .int v_bubbleMost, .int v_bubbleCell, .int v_bestShown, .ref q_traced, .int v_traceMany, .int v_who, .ref q_bitsOf, .ref q_sizeOf, .ref q_number, .ref q_lifted])), (q_d, .inl (c 0, 244, .inl v_d)), (q_found, .inl (c 0, 6, .inl v_found))] → va_S A s.heap H locs → ∀ ls, lv_has ls 6 [(0, .ref q_this)] → f_X12_set_L40 v_d v_found = some (o_r, o_v_d, o_v_found) → W p l e (headSpec wsX12_set rm_X12_set).room s m [.ref q_this, .int a_1, .int a_2, .int a_3].toArray below meth co H locs 0 0 (gQI D [(q_this, .inr (12, [.ref q_d, .ref q_kept, .int v_images, .ref q_found, .ref q_aside, .int v_base, .int v_at, .int v_size, .int v_fault, .int v_opened, .int v_isSeen, .ref q_names, .ref q_seenKept, .ref q_movedKept, .int v_isKeeping, .int v_bubbleMany, .int v_bubbleMost, .int v_bubbleCell, .int v_bestShown, .ref q_traced, .int v_traceMany, .int v_who, .ref q_bitsOf, .ref q_sizeOf, .ref q_number, .ref q_lifted])), (q_d, .inl (c 0, 244, .inl o_v_d)), (q_found, .inl (c 0, 6, .inl o_v_found))] o_r A below [.ref q_this, .int a_1, .int a_2, .int a_3] s) (F0 m 40 ls []) := by
    intro  v_d v_found H locs hP hD hS ls hl h
    unfold f_X12_set_L40 at h
    refine lv_aload_n hx hb dX12_set_40 rfl (lv_at hl 0 rfl) ?_
    refine lv_iconst (v := 1) hx hb dX12_set_41 (by decide) ?_
    replace h := kb2_ok h
    obtain ⟨r_9, w_10, hc_8, h⟩ := h
    refine gCallI (isC := [0, 2]) (wc := [(q_this, .inr (12, [.ref q_d, .ref q_kept, .int v_images, .ref q_found, .ref q_aside, .int v_base, .int v_at, .int v_size, .int v_fault, .int v_opened, .int v_isSeen, .ref q_names, .ref q_seenKept, .ref q_movedKept, .int v_isKeeping, .int v_bubbleMany, .int v_bubbleMost, .int v_bubbleCell, .int v_bestShown, .ref q_traced, .int v_traceMany, .int v_who, .ref q_bitsOf, .ref q_sizeOf, .ref q_number, .ref q_lifted])), (q_found, .inl (c 0, 6, .inl v_found))]) (w1 := [(q_this, .inr (12, [.ref q_d, .ref q_kept, .int v_images, .ref q_found, .ref q_aside, .int v_base, .int v_at, .int v_size, .int v_fault, .int v_opened, .int v_isSeen, .ref q_names, .ref q_seenKept, .ref q_movedKept, .int v_isKeeping, .int v_bubbleMany, .int v_bubbleMost, .int v_bubbleCell, .int v_bestShown, .ref q_traced, .int v_traceMany, .int v_who, .ref q_bitsOf, .ref q_sizeOf, .ref q_number, .ref q_lifted])), (q_found, .inl (c 0, 6, .inl w_10))]) (ws2 := [(q_this, .inr (12, [.ref q_d, .ref q_kept, .int v_images, .ref q_found, .ref q_aside, .int v_base, .int v_at, .int v_size, .int v_fault, .int v_opened, .int v_isSeen, .ref q_names, .ref q_seenKept, .ref q_movedKept, .int v_isKeeping, .int v_bubbleMany, .int v_bubbleMost, .int v_bubbleCell, .int v_bestShown, .ref q_traced, .int v_traceMany, .int v_who, .ref q_bitsOf, .ref q_sizeOf, .ref q_number, .ref q_lifted])), (q_d, .inl (c 0, 244, .inl v_d)), (q_found, .inl (c 0, 6, .inl w_10))]) (ms := [(some 0), none, (some 1)]) hP hD hS hA ⟨rfl, rfl, trivial⟩ (by decide +kernel) ⟨rfl, rfl, rfl, trivial⟩ (va_runV (rm := rm_X12_finds) (ws := wsX12_finds) (As := [.int 1]) (rest := []) (gFix hF) (c_X12_finds l D c q_this q_d q_kept q_found q_aside q_names q_seenKept q_movedKept q_traced q_bitsOf q_sizeOf q_number q_lifted 1 v_images v_base v_at v_size v_fault v_opened v_isSeen v_isKeeping v_bubbleMany v_bubbleMost v_bubbleCell v_bestShown v_traceMany v_who v_found r_9 w_10 hc_8 H.size) (cwV 1 hts gX12_set_X12_finds rfl rfl rfl (by decide +kernel) ⟨Nat.le_of_ble_eq_true rfl, Nat.le_of_ble_eq_true rfl⟩) (gPreV (wc := [(q_this, .inr (12, [.ref q_d, .ref q_kept, .int v_images, .ref q_found, .ref q_aside, .int v_base, .int v_at, .int v_size, .int v_fault, .int v_opened, .int v_isSeen, .ref q_names, .ref q_seenKept, .ref q_movedKept, .int v_isKeeping, .int v_bubbleMany, .int v_bubbleMost, .int v_bubbleCell, .int v_bestShown, .ref q_traced, .int v_traceMany, .int v_who, .ref q_bitsOf, .ref q_sizeOf, .ref q_number, .ref q_lifted])), (q_found, .inl (c 0, 6, .inl v_found))]) (q := (RX12, TX12, 26)) (ci := 12) (q0 := 0) (isC := [0, 2]) hK hX hS hA hP hD ⟨rfl, rfl, trivial⟩ (by decide +kernel) rfl rfl) rfl rfl hl.1 rfl (lv_room (Nat.le_of_ble_eq_true rfl)) dX12_set_42 ⟨Nat.le_of_ble_eq_true rfl, Nat.le_of_ble_eq_true rfl⟩) (fun H locs hP hD hS => ?_)
    replace h := so3 h
    obtain ⟨z0, z1, z2⟩ := h
    subst z0 z1 z2
    exact gIret hF hP hD hS rfl dX12_set_45
  have t_L57 : ∀ (y0 : Int32) (v_d : Nat → Int32) (v_found : Nat → Int32) (H : Heap) (locs : List Loc), va_P D gcl [(q_this, .inr (12, [.ref q_d, .ref q_kept, .int v_images, .ref q_found, .ref q_aside, .int v_base, .int v_at, .int v_size, .int v_fault, .int v_opened, .int v_isSeen, .ref q_names, .ref q_seenKept, .ref q_movedKept, .int v_isKeeping, .int v_bubbleMany, .int v_bubbleMost, .int v_bubbleCell, .int v_bestShown, .ref q_traced, .int v_traceMany, .int v_who, .ref q_bitsOf, .ref q_sizeOf, .ref q_number, .ref q_lifted])), (q_d, .inl (c 0, 244, .inl v_d)), (q_found, .inl (c 0, 6, .inl v_found))] H → va_D A [(q_this, .inr (12, [.ref q_d, .ref q_kept, .int v_images, .ref q_found, .ref q_aside, .int v_base, .int v_at, .int v_size, .int v_fault, .int v_opened, .int v_isSeen, .ref q_names, .ref q_seenKept, .ref q_movedKept, .int v_isKeeping, .int v_bubbleMany, .int v_bubbleMost, .int v_bubbleCell, .int v_bestShown, .ref q_traced, .int v_traceMany, .int v_who, .ref q_bitsOf, .ref q_sizeOf, .ref q_number, .ref q_lifted])), (q_d, .inl (c 0, 244, .inl v_d)), (q_found, .inl (c 0, 6, .inl v_found))] → va_S A s.heap H locs → ∀ ls, lv_has ls 6 [(0, .ref q_this), (1, .int a_1), (3, .int a_3)] → f_X12_set_L57 a_1 a_3 y0 v_d v_found = some (o_r, o_v_d, o_v_found) → W p l e (headSpec wsX12_set rm_X12_set).room s m [.ref q_this, .int a_1, .int a_2, .int a_3].toArray below meth co H locs 0 0 (gQI D [(q_this, .inr (12, [.ref q_d, .ref q_kept, .int v_images, .ref q_found, .ref q_aside, .int v_base, .int v_at, .int v_size, .int v_fault, .int v_opened, .int v_isSeen, .ref q_names, .ref q_seenKept, .ref q_movedKept, .int v_isKeeping, .int v_bubbleMany, .int v_bubbleMost, .int v_bubbleCell, .int v_bestShown, .ref q_traced, .int v_traceMany, .int v_who, .ref q_bitsOf, .ref q_sizeOf, .ref q_number, .ref q_lifted])), (q_d, .inl (c 0, 244, .inl o_v_d)), (q_found, .inl (c 0, 6, .inl o_v_found))] o_r A below [.ref q_this, .int a_1, .int a_2, .int a_3] s) (F0 m 57 ls [.int y0]) := by
    intro  y0 v_d v_found H locs hP hD hS ls hl h
    unfold f_X12_set_L57 at h
    refine lv_iload_n hx hb dX12_set_57 rfl (lv_at hl 1 rfl) ?_
    refine lv_iadd hx hb dX12_set_58 ?_
    replace h := nm_ok h
    obtain ⟨t_15, et_15, h⟩ := h
    refine gTop et_15 ?_
    refine lv_istore (lv' := [(4, .int t_15), (0, .ref q_this), (1, .int a_1), (3, .int a_3)]) hx hb dX12_set_59 hl (by decide) rfl (fun ls hl => ?_)
    refine lv_aload_n hx hb dX12_set_61 rfl (lv_at hl 1 rfl) ?_
    refine va_get (D := D) (ci := 12) (v := .ref q_d) (C := RX12) (T := TX12) (N := 26) hx hb hts in_X12_set_X12 hown hK.1 hP 0 rfl rfl 0 (by decide) (hts (.fieldLink RX12 7 "PaperBubblesModel" "d" "[I") (List.mem_of_getElem? (i := 3) rfl)) (fun _ h9 => h9) rfl dX12_set_62 ?_
    refine lv_iload hx hb dX12_set_65 (lv_at hl 0 rfl) ?_
    replace h := chi_ok h
    obtain ⟨hi_16, h⟩ := h
    refine va_iald hx hb hK.1 hP 1 0 rfl rfl hi_16 dX12_set_67 ?_
    replace h := nm_ok h
    obtain ⟨t_17, et_17, h⟩ := h
    refine gTop et_17 ?_
    refine lv_istore (lv' := [(5, .int t_17), (4, .int t_15), (0, .ref q_this), (1, .int a_1), (3, .int a_3)]) hx hb dX12_set_68 hl (by decide) rfl (fun ls hl => ?_)
    refine lv_aload_n hx hb dX12_set_70 rfl (lv_at hl 2 rfl) ?_
    refine va_get (D := D) (ci := 12) (v := .ref q_d) (C := RX12) (T := TX12) (N := 26) hx hb hts in_X12_set_X12 hown hK.1 hP 0 rfl rfl 0 (by decide) (hts (.fieldLink RX12 7 "PaperBubblesModel" "d" "[I") (List.mem_of_getElem? (i := 3) rfl)) (fun _ h9 => h9) rfl dX12_set_71 ?_
    refine lv_iload hx hb dX12_set_74 (lv_at hl 1 rfl) ?_
    refine lv_iload_n hx hb dX12_set_76 rfl (lv_at hl 4 rfl) ?_
    replace h := chi_ok h
    obtain ⟨hi_18, h⟩ := h
    replace h := nm_ok h
    obtain ⟨w_19, ew_19, h⟩ := h
    refine va_iast hx hb hK.1 hP hD hS 1 0 rfl rfl hi_18 dX12_set_77 (fun H locs hP hD hS => ?_)
    have hP : va_P D gcl [(q_this, .inr (12, [.ref q_d, .ref q_kept, .int v_images, .ref q_found, .ref q_aside, .int v_base, .int v_at, .int v_size, .int v_fault, .int v_opened, .int v_isSeen, .ref q_names, .ref q_seenKept, .ref q_movedKept, .int v_isKeeping, .int v_bubbleMany, .int v_bubbleMost, .int v_bubbleCell, .int v_bestShown, .ref q_traced, .int v_traceMany, .int v_who, .ref q_bitsOf, .ref q_sizeOf, .ref q_number, .ref q_lifted])), (q_d, .inl (c 0, 244, .inl w_19)), (q_found, .inl (c 0, 6, .inl v_found))] H := by subst ew_19; exact hP
    have hD : va_D A [(q_this, .inr (12, [.ref q_d, .ref q_kept, .int v_images, .ref q_found, .ref q_aside, .int v_base, .int v_at, .int v_size, .int v_fault, .int v_opened, .int v_isSeen, .ref q_names, .ref q_seenKept, .ref q_movedKept, .int v_isKeeping, .int v_bubbleMany, .int v_bubbleMost, .int v_bubbleCell, .int v_bestShown, .ref q_traced, .int v_traceMany, .int v_who, .ref q_bitsOf, .ref q_sizeOf, .ref q_number, .ref q_lifted])), (q_d, .inl (c 0, 244, .inl w_19)), (q_found, .inl (c 0, 6, .inl v_found))] := by subst ew_19; exact hD
    refine lv_iload hx hb dX12_set_78 (lv_at hl 0 rfl) ?_
    replace h := so3 h
    obtain ⟨z0, z1, z2⟩ := h
    subst z0 z1 z2
    exact gIret hF hP hD hS rfl dX12_set_80
  have t_L34 : ∀ (y0 : Int64) (y1 : Int64) (y2 : Int64) (v_d : Nat → Int32) (v_found : Nat → Int32) (H : Heap) (locs : List Loc), va_P D gcl [(q_this, .inr (12, [.ref q_d, .ref q_kept, .int v_images, .ref q_found, .ref q_aside, .int v_base, .int v_at, .int v_size, .int v_fault, .int v_opened, .int v_isSeen, .ref q_names, .ref q_seenKept, .ref q_movedKept, .int v_isKeeping, .int v_bubbleMany, .int v_bubbleMost, .int v_bubbleCell, .int v_bestShown, .ref q_traced, .int v_traceMany, .int v_who, .ref q_bitsOf, .ref q_sizeOf, .ref q_number, .ref q_lifted])), (q_d, .inl (c 0, 244, .inl v_d)), (q_found, .inl (c 0, 6, .inl v_found))] H → va_D A [(q_this, .inr (12, [.ref q_d, .ref q_kept, .int v_images, .ref q_found, .ref q_aside, .int v_base, .int v_at, .int v_size, .int v_fault, .int v_opened, .int v_isSeen, .ref q_names, .ref q_seenKept, .ref q_movedKept, .int v_isKeeping, .int v_bubbleMany, .int v_bubbleMost, .int v_bubbleCell, .int v_bestShown, .ref q_traced, .int v_traceMany, .int v_who, .ref q_bitsOf, .ref q_sizeOf, .ref q_number, .ref q_lifted])), (q_d, .inl (c 0, 244, .inl v_d)), (q_found, .inl (c 0, 6, .inl v_found))] → va_S A s.heap H locs → ∀ ls, lv_has ls 6 [(0, .ref q_this), (1, .int a_1), (2, .int a_2), (3, .int a_3)] → f_X12_set_L34 a_1 a_2 a_3 y0 y1 y2 v_d v_found = some (o_r, o_v_d, o_v_found) → W p l e (headSpec wsX12_set rm_X12_set).room s m [.ref q_this, .int a_1, .int a_2, .int a_3].toArray below meth co H locs 0 0 (gQI D [(q_this, .inr (12, [.ref q_d, .ref q_kept, .int v_images, .ref q_found, .ref q_aside, .int v_base, .int v_at, .int v_size, .int v_fault, .int v_opened, .int v_isSeen, .ref q_names, .ref q_seenKept, .ref q_movedKept, .int v_isKeeping, .int v_bubbleMany, .int v_bubbleMost, .int v_bubbleCell, .int v_bestShown, .ref q_traced, .int v_traceMany, .int v_who, .ref q_bitsOf, .ref q_sizeOf, .ref q_number, .ref q_lifted])), (q_d, .inl (c 0, 244, .inl o_v_d)), (q_found, .inl (c 0, 6, .inl o_v_found))] o_r A below [.ref q_this, .int a_1, .int a_2, .int a_3] s) (F0 m 34 ls [.long y2, .long y1, .long y0]) := by
    intro  y0 y1 y2 v_d v_found H locs hP hD hS ls hl h
    unfold f_X12_set_L34 at h
    replace h := kb_ok h
    obtain ⟨r_12, hc_11, h⟩ := h
    refine gCallIr (isC := []) (wc := []) hP hD hS hA trivial (va_runS (rm := rm_X12_in) (ws := wsX12_in) (As := [.long y0, .long y1, .long y2]) (rest := []) (gFix hF) (c_X12_in l D c y0 y1 y2 r_12 hc_11 H.size) (va_cwS 3 hts gX12_set_X12_in rfl rfl rfl (by decide +kernel) ⟨Nat.le_of_ble_eq_true rfl, Nat.le_of_ble_eq_true rfl⟩) (gPreS (wc := []) (isC := []) hK hX hS hA hP hD trivial (by decide +kernel)) rfl rfl hl.1 rfl (lv_room (Nat.le_of_ble_eq_true rfl)) dX12_set_34 ⟨Nat.le_of_ble_eq_true rfl, Nat.le_of_ble_eq_true rfl⟩) (fun H locs hP hS => ?_)
    refine lv_if_ne (tgt := 46) hx hb dX12_set_37 (by decide) (fun c_13 => ?_) (fun c_13 => ?_)
    · replace h := it_f c_13 h
      refine lv_iload_n hx hb dX12_set_46 rfl (lv_at hl 2 rfl) ?_
      refine lv_if_ne (tgt := 55) hx hb dX12_set_47 (by decide) (fun c_14 => ?_) (fun c_14 => ?_)
      · replace h := it_f c_14 h
        refine lv_bipush (v := 35) hx hb dX12_set_55 (by decide) ?_
        exact t_L57 35 v_d v_found H locs hP hD hS ls (lv_sub hl [0, 1, 3] rfl) h
      · replace h := it_t c_14 h
        refine lv_bipush (v := 10) hx hb dX12_set_50 (by decide) ?_
        refine lv_goto (tgt := 57) hx hb dX12_set_52 (by decide) ?_
        exact t_L57 10 v_d v_found H locs hP hD hS ls (lv_sub hl [0, 1, 3] rfl) h
    · replace h := it_t c_13 h
      exact t_L40 v_d v_found H locs hP hD hS ls (lv_sub hl [0] rfl) h
  unfold f_X12_set at h
  refine lv_aload_n hx hb dX12_set_0 rfl (lv_at hl 0 rfl) ?_
  refine lv_iload_n hx hb dX12_set_1 rfl (lv_at hl 1 rfl) ?_
  replace h := kb_ok h
  obtain ⟨r_2, hc_1, h⟩ := h
  refine gCallIr (isC := [0, 1]) (wc := [(q_this, .inr (12, [.ref q_d, .ref q_kept, .int v_images, .ref q_found, .ref q_aside, .int v_base, .int v_at, .int v_size, .int v_fault, .int v_opened, .int v_isSeen, .ref q_names, .ref q_seenKept, .ref q_movedKept, .int v_isKeeping, .int v_bubbleMany, .int v_bubbleMost, .int v_bubbleCell, .int v_bestShown, .ref q_traced, .int v_traceMany, .int v_who, .ref q_bitsOf, .ref q_sizeOf, .ref q_number, .ref q_lifted])), (q_d, .inl (c 0, 244, .inl v_d))]) hP hD hS hA ⟨rfl, rfl, trivial⟩ (va_runV (rm := rm_X12_isCell) (ws := wsX12_isCell) (As := [.int a_1]) (rest := []) (gFix hF) (c_X12_isCell l D c q_this q_d q_kept q_found q_aside q_names q_seenKept q_movedKept q_traced q_bitsOf q_sizeOf q_number q_lifted a_1 v_images v_base v_at v_size v_fault v_opened v_isSeen v_isKeeping v_bubbleMany v_bubbleMost v_bubbleCell v_bestShown v_traceMany v_who v_d r_2 hc_1 s.heap.size) (cwV 1 hts gX12_set_X12_isCell rfl rfl rfl (by decide +kernel) ⟨Nat.le_of_ble_eq_true rfl, Nat.le_of_ble_eq_true rfl⟩) (gPreV (wc := [(q_this, .inr (12, [.ref q_d, .ref q_kept, .int v_images, .ref q_found, .ref q_aside, .int v_base, .int v_at, .int v_size, .int v_fault, .int v_opened, .int v_isSeen, .ref q_names, .ref q_seenKept, .ref q_movedKept, .int v_isKeeping, .int v_bubbleMany, .int v_bubbleMost, .int v_bubbleCell, .int v_bestShown, .ref q_traced, .int v_traceMany, .int v_who, .ref q_bitsOf, .ref q_sizeOf, .ref q_number, .ref q_lifted])), (q_d, .inl (c 0, 244, .inl v_d))]) (q := (RX12, TX12, 26)) (ci := 12) (q0 := 0) (isC := [0, 1]) hK hX hS hA hP hD ⟨rfl, rfl, trivial⟩ (by decide +kernel) rfl rfl) rfl rfl hl.1 rfl (lv_room (Nat.le_of_ble_eq_true rfl)) dX12_set_2 ⟨Nat.le_of_ble_eq_true rfl, Nat.le_of_ble_eq_true rfl⟩) (fun H locs hP hS => ?_)
  refine lv_if_eq (tgt := 40) hx hb dX12_set_5 (by decide) (fun c_3 => ?_) (fun c_3 => ?_)
  · replace h := it_t c_3 h
    exact t_L40 v_d v_found H locs hP hD hS ls (lv_sub hl [0] rfl) h
  · replace h := it_f c_3 h
    refine lv_iload_n hx hb dX12_set_8 rfl (lv_at hl 2 rfl) ?_
    refine lv_i2l hx hb dX12_set_9 rfl ?_
    refine lv_lconst (v := 0) hx hb dX12_set_10 (by decide) ?_
    refine lv_lconst (v := 1) hx hb dX12_set_11 (by decide) ?_
    replace h := kb_ok h
    obtain ⟨r_5, hc_4, h⟩ := h
    refine gCallIr (isC := []) (wc := []) hP hD hS hA trivial (va_runS (rm := rm_X12_in) (ws := wsX12_in) (As := [.long ((a_2 : Int32).toInt64), .long 0, .long 1]) (rest := []) (gFix hF) (c_X12_in l D c ((a_2 : Int32).toInt64) 0 1 r_5 hc_4 H.size) (va_cwS 3 hts gX12_set_X12_in rfl rfl rfl (by decide +kernel) ⟨Nat.le_of_ble_eq_true rfl, Nat.le_of_ble_eq_true rfl⟩) (gPreS (wc := []) (isC := []) hK hX hS hA hP hD trivial (by decide +kernel)) rfl rfl hl.1 rfl (lv_room (Nat.le_of_ble_eq_true rfl)) dX12_set_12 ⟨Nat.le_of_ble_eq_true rfl, Nat.le_of_ble_eq_true rfl⟩) (fun H locs hP hS => ?_)
    refine lv_if_eq (tgt := 40) hx hb dX12_set_15 (by decide) (fun c_6 => ?_) (fun c_6 => ?_)
    · replace h := it_t c_6 h
      exact t_L40 v_d v_found H locs hP hD hS ls (lv_sub hl [0] rfl) h
    · replace h := it_f c_6 h
      refine lv_iload_n hx hb dX12_set_18 rfl (lv_at hl 3 rfl) ?_
      refine lv_i2l hx hb dX12_set_19 rfl ?_
      refine lv_lconst (v := 0) hx hb dX12_set_20 (by decide) ?_
      refine lv_iload_n hx hb dX12_set_21 rfl (lv_at hl 2 rfl) ?_
      refine lv_if_ne (tgt := 31) hx hb dX12_set_22 (by decide) (fun c_7 => ?_) (fun c_7 => ?_)
      · replace h := it_f c_7 h
        refine lv_ldc2 (v := 9) hx hb hown (hts (.constantLong RX12 142 (9)) (List.mem_of_getElem? (i := 2) rfl)) dX12_set_31 ?_
        exact t_L34 ((a_3 : Int32).toInt64) 0 9 v_d v_found H locs hP hD hS ls (lv_sub hl [0, 1, 2, 3] rfl) h
      · replace h := it_t c_7 h
        refine lv_ldc2 (v := 99) hx hb hown (hts (.constantLong RX12 140 (99)) (List.mem_of_getElem? (i := 1) rfl)) dX12_set_25 ?_
        refine lv_goto (tgt := 34) hx hb dX12_set_28 (by decide) ?_
        exact t_L34 ((a_3 : Int32).toInt64) 0 99 v_d v_found H locs hP hD hS ls (lv_sub hl [0, 1, 2, 3] rfl) h
set_option maxRecDepth 20000 in
theorem in_X12_sheet_X12 : ∀ w ∈ u_ws RX12 TX12 26, w ∈ wsX12_sheet := by decide +kernel
abbrev rm_X12_sheet : Room := { frames := 2, cells := 0, slots := 0, locals := 45 }
set_option maxHeartbeats 4000000 in
set_option maxRecDepth 100000 in
theorem c_X12_sheet (l : Launch) (D : va_G) (c : Nat → ClassId) (q_this q_d q_kept q_found q_aside q_names q_seenKept q_movedKept q_traced q_bitsOf q_sizeOf q_number q_lifted : Nat) (a_1 : Int32) (a_2 : Int32) (a_3 : Int32) (v_images : Int32) (v_base : Int32) (v_at : Int32) (v_size : Int32) (v_fault : Int32) (v_opened : Int32) (v_isSeen : Int32) (v_isKeeping : Int32) (v_bubbleMany : Int32) (v_bubbleMost : Int32) (v_bubbleCell : Int32) (v_bestShown : Int32) (v_traceMany : Int32) (v_who : Int32) (v_bitsOf : Nat → Int32) (v_found : Nat → Int32) (v_number : Nat → Int32) (v_sizeOf : Nat → Int32) (o_r : Int32) (o_v_bitsOf : Nat → Int32) (o_v_found : Nat → Int32) (o_v_number : Nat → Int32) (o_v_sizeOf : Nat → Int32) (h : f_X12_sheet a_1 a_2 a_3 v_bitsOf v_found v_number v_sizeOf = some (o_r, o_v_bitsOf, o_v_found, o_v_number, o_v_sizeOf)) : gMI l yX12_sheet wsX12_sheet rm_X12_sheet D c [.ref q_this, .int a_1, .int a_2, .int a_3] [(q_this, .inr (12, [.ref q_d, .ref q_kept, .int v_images, .ref q_found, .ref q_aside, .int v_base, .int v_at, .int v_size, .int v_fault, .int v_opened, .int v_isSeen, .ref q_names, .ref q_seenKept, .ref q_movedKept, .int v_isKeeping, .int v_bubbleMany, .int v_bubbleMost, .int v_bubbleCell, .int v_bestShown, .ref q_traced, .int v_traceMany, .int v_who, .ref q_bitsOf, .ref q_sizeOf, .ref q_number, .ref q_lifted])), (q_bitsOf, .inl (c 0, 4, .inl v_bitsOf)), (q_found, .inl (c 0, 6, .inl v_found)), (q_number, .inl (c 0, 160, .inl v_number)), (q_sizeOf, .inl (c 0, 4, .inl v_sizeOf))] [(q_this, .inr (12, [.ref q_d, .ref q_kept, .int v_images, .ref q_found, .ref q_aside, .int v_base, .int v_at, .int v_size, .int v_fault, .int v_opened, .int v_isSeen, .ref q_names, .ref q_seenKept, .ref q_movedKept, .int v_isKeeping, .int v_bubbleMany, .int v_bubbleMost, .int v_bubbleCell, .int v_bestShown, .ref q_traced, .int v_traceMany, .int v_who, .ref q_bitsOf, .ref q_sizeOf, .ref q_number, .ref q_lifted])), (q_bitsOf, .inl (c 0, 4, .inl o_v_bitsOf)), (q_found, .inl (c 0, 6, .inl o_v_found)), (q_number, .inl (c 0, 160, .inl o_v_number)), (q_sizeOf, .inl (c 0, 4, .inl o_v_sizeOf))] o_r := by
  refine gMI_of (cc := cX12_sheet) (maxL := 5) (rt := (some .int)) (by decide +kernel) rfl (Nat.le_of_ble_eq_true rfl) ?_
  intro p e s m below meth co A hF hK hX hP hD hA hS ls hl
  obtain ⟨hx, hb, hr, hts, hown, hlocks, hml⟩ := id hF
  have hl : lv_has ls 5 [(0, .ref q_this), (1, .int a_1), (2, .int a_2), (3, .int a_3)] := hl
  have t_L29 : ∀ (v_bitsOf : Nat → Int32) (v_found : Nat → Int32) (v_number : Nat → Int32) (v_sizeOf : Nat → Int32) (H : Heap) (locs : List Loc), va_P D gcl [(q_this, .inr (12, [.ref q_d, .ref q_kept, .int v_images, .ref q_found, .ref q_aside, .int v_base, .int v_at, .int v_size, .int v_fault, .int v_opened, .int v_isSeen, .ref q_names, .ref q_seenKept, .ref q_movedKept, .int v_isKeeping, .int v_bubbleMany, .int v_bubbleMost, .int v_bubbleCell, .int v_bestShown, .ref q_traced, .int v_traceMany, .int v_who, .ref q_bitsOf, .ref q_sizeOf, .ref q_number, .ref q_lifted])), (q_bitsOf, .inl (c 0, 4, .inl v_bitsOf)), (q_found, .inl (c 0, 6, .inl v_found)), (q_number, .inl (c 0, 160, .inl v_number)), (q_sizeOf, .inl (c 0, 4, .inl v_sizeOf))] H → va_D A [(q_this, .inr (12, [.ref q_d, .ref q_kept, .int v_images, .ref q_found, .ref q_aside, .int v_base, .int v_at, .int v_size, .int v_fault, .int v_opened, .int v_isSeen, .ref q_names, .ref q_seenKept, .ref q_movedKept, .int v_isKeeping, .int v_bubbleMany, .int v_bubbleMost, .int v_bubbleCell, .int v_bestShown, .ref q_traced, .int v_traceMany, .int v_who, .ref q_bitsOf, .ref q_sizeOf, .ref q_number, .ref q_lifted])), (q_bitsOf, .inl (c 0, 4, .inl v_bitsOf)), (q_found, .inl (c 0, 6, .inl v_found)), (q_number, .inl (c 0, 160, .inl v_number)), (q_sizeOf, .inl (c 0, 4, .inl v_sizeOf))] → va_S A s.heap H locs → ∀ ls, lv_has ls 5 [(0, .ref q_this)] → f_X12_sheet_L29 v_bitsOf v_found v_number v_sizeOf = some (o_r, o_v_bitsOf, o_v_found, o_v_number, o_v_sizeOf) → W p l e (headSpec wsX12_sheet rm_X12_sheet).room s m [.ref q_this, .int a_1, .int a_2, .int a_3].toArray below meth co H locs 0 0 (gQI D [(q_this, .inr (12, [.ref q_d, .ref q_kept, .int v_images, .ref q_found, .ref q_aside, .int v_base, .int v_at, .int v_size, .int v_fault, .int v_opened, .int v_isSeen, .ref q_names, .ref q_seenKept, .ref q_movedKept, .int v_isKeeping, .int v_bubbleMany, .int v_bubbleMost, .int v_bubbleCell, .int v_bestShown, .ref q_traced, .int v_traceMany, .int v_who, .ref q_bitsOf, .ref q_sizeOf, .ref q_number, .ref q_lifted])), (q_bitsOf, .inl (c 0, 4, .inl o_v_bitsOf)), (q_found, .inl (c 0, 6, .inl o_v_found)), (q_number, .inl (c 0, 160, .inl o_v_number)), (q_sizeOf, .inl (c 0, 4, .inl o_v_sizeOf))] o_r A below [.ref q_this, .int a_1, .int a_2, .int a_3] s) (F0 m 29 ls []) := by
    intro  v_bitsOf v_found v_number v_sizeOf H locs hP hD hS ls hl h
    unfold f_X12_sheet_L29 at h
    refine lv_aload_n hx hb dX12_sheet_29 rfl (lv_at hl 0 rfl) ?_
    refine lv_iconst (v := 1) hx hb dX12_sheet_30 (by decide) ?_
    replace h := kb2_ok h
    obtain ⟨r_9, w_10, hc_8, h⟩ := h
    refine gCallI (isC := [0, 2]) (wc := [(q_this, .inr (12, [.ref q_d, .ref q_kept, .int v_images, .ref q_found, .ref q_aside, .int v_base, .int v_at, .int v_size, .int v_fault, .int v_opened, .int v_isSeen, .ref q_names, .ref q_seenKept, .ref q_movedKept, .int v_isKeeping, .int v_bubbleMany, .int v_bubbleMost, .int v_bubbleCell, .int v_bestShown, .ref q_traced, .int v_traceMany, .int v_who, .ref q_bitsOf, .ref q_sizeOf, .ref q_number, .ref q_lifted])), (q_found, .inl (c 0, 6, .inl v_found))]) (w1 := [(q_this, .inr (12, [.ref q_d, .ref q_kept, .int v_images, .ref q_found, .ref q_aside, .int v_base, .int v_at, .int v_size, .int v_fault, .int v_opened, .int v_isSeen, .ref q_names, .ref q_seenKept, .ref q_movedKept, .int v_isKeeping, .int v_bubbleMany, .int v_bubbleMost, .int v_bubbleCell, .int v_bestShown, .ref q_traced, .int v_traceMany, .int v_who, .ref q_bitsOf, .ref q_sizeOf, .ref q_number, .ref q_lifted])), (q_found, .inl (c 0, 6, .inl w_10))]) (ws2 := [(q_this, .inr (12, [.ref q_d, .ref q_kept, .int v_images, .ref q_found, .ref q_aside, .int v_base, .int v_at, .int v_size, .int v_fault, .int v_opened, .int v_isSeen, .ref q_names, .ref q_seenKept, .ref q_movedKept, .int v_isKeeping, .int v_bubbleMany, .int v_bubbleMost, .int v_bubbleCell, .int v_bestShown, .ref q_traced, .int v_traceMany, .int v_who, .ref q_bitsOf, .ref q_sizeOf, .ref q_number, .ref q_lifted])), (q_bitsOf, .inl (c 0, 4, .inl v_bitsOf)), (q_found, .inl (c 0, 6, .inl w_10)), (q_number, .inl (c 0, 160, .inl v_number)), (q_sizeOf, .inl (c 0, 4, .inl v_sizeOf))]) (ms := [(some 0), none, (some 1), none, none]) hP hD hS hA ⟨rfl, rfl, trivial⟩ (by decide +kernel) ⟨rfl, rfl, rfl, rfl, rfl, trivial⟩ (va_runV (rm := rm_X12_finds) (ws := wsX12_finds) (As := [.int 1]) (rest := []) (gFix hF) (c_X12_finds l D c q_this q_d q_kept q_found q_aside q_names q_seenKept q_movedKept q_traced q_bitsOf q_sizeOf q_number q_lifted 1 v_images v_base v_at v_size v_fault v_opened v_isSeen v_isKeeping v_bubbleMany v_bubbleMost v_bubbleCell v_bestShown v_traceMany v_who v_found r_9 w_10 hc_8 H.size) (cwV 1 hts gX12_sheet_X12_finds rfl rfl rfl (by decide +kernel) ⟨Nat.le_of_ble_eq_true rfl, Nat.le_of_ble_eq_true rfl⟩) (gPreV (wc := [(q_this, .inr (12, [.ref q_d, .ref q_kept, .int v_images, .ref q_found, .ref q_aside, .int v_base, .int v_at, .int v_size, .int v_fault, .int v_opened, .int v_isSeen, .ref q_names, .ref q_seenKept, .ref q_movedKept, .int v_isKeeping, .int v_bubbleMany, .int v_bubbleMost, .int v_bubbleCell, .int v_bestShown, .ref q_traced, .int v_traceMany, .int v_who, .ref q_bitsOf, .ref q_sizeOf, .ref q_number, .ref q_lifted])), (q_found, .inl (c 0, 6, .inl v_found))]) (q := (RX12, TX12, 26)) (ci := 12) (q0 := 0) (isC := [0, 2]) hK hX hS hA hP hD ⟨rfl, rfl, trivial⟩ (by decide +kernel) rfl rfl) rfl rfl hl.1 rfl (lv_room (Nat.le_of_ble_eq_true rfl)) dX12_sheet_31 ⟨Nat.le_of_ble_eq_true rfl, Nat.le_of_ble_eq_true rfl⟩) (fun H locs hP hD hS => ?_)
    replace h := so5 h
    obtain ⟨z0, z1, z2, z3, z4⟩ := h
    subst z0 z1 z2 z3 z4
    exact gIret hF hP hD hS rfl dX12_sheet_34
  have t_L90 : ∀ (n : Nat), ∀ (x4 : Int32) (v_bitsOf : Nat → Int32) (v_found : Nat → Int32) (v_number : Nat → Int32) (v_sizeOf : Nat → Int32) (H : Heap) (locs : List Loc), va_P D gcl [(q_this, .inr (12, [.ref q_d, .ref q_kept, .int v_images, .ref q_found, .ref q_aside, .int v_base, .int v_at, .int v_size, .int v_fault, .int v_opened, .int v_isSeen, .ref q_names, .ref q_seenKept, .ref q_movedKept, .int v_isKeeping, .int v_bubbleMany, .int v_bubbleMost, .int v_bubbleCell, .int v_bestShown, .ref q_traced, .int v_traceMany, .int v_who, .ref q_bitsOf, .ref q_sizeOf, .ref q_number, .ref q_lifted])), (q_bitsOf, .inl (c 0, 4, .inl v_bitsOf)), (q_found, .inl (c 0, 6, .inl v_found)), (q_number, .inl (c 0, 160, .inl v_number)), (q_sizeOf, .inl (c 0, 4, .inl v_sizeOf))] H → va_D A [(q_this, .inr (12, [.ref q_d, .ref q_kept, .int v_images, .ref q_found, .ref q_aside, .int v_base, .int v_at, .int v_size, .int v_fault, .int v_opened, .int v_isSeen, .ref q_names, .ref q_seenKept, .ref q_movedKept, .int v_isKeeping, .int v_bubbleMany, .int v_bubbleMost, .int v_bubbleCell, .int v_bestShown, .ref q_traced, .int v_traceMany, .int v_who, .ref q_bitsOf, .ref q_sizeOf, .ref q_number, .ref q_lifted])), (q_bitsOf, .inl (c 0, 4, .inl v_bitsOf)), (q_found, .inl (c 0, 6, .inl v_found)), (q_number, .inl (c 0, 160, .inl v_number)), (q_sizeOf, .inl (c 0, 4, .inl v_sizeOf))] → va_S A s.heap H locs → ∀ ls, lv_has ls 5 [(0, .ref q_this), (1, .int a_1), (4, .int x4)] → f_X12_sheet_L90 a_1 n x4 v_bitsOf v_found v_number v_sizeOf = some (o_r, o_v_bitsOf, o_v_found, o_v_number, o_v_sizeOf) → W p l e (headSpec wsX12_sheet rm_X12_sheet).room s m [.ref q_this, .int a_1, .int a_2, .int a_3].toArray below meth co H locs 0 0 (gQI D [(q_this, .inr (12, [.ref q_d, .ref q_kept, .int v_images, .ref q_found, .ref q_aside, .int v_base, .int v_at, .int v_size, .int v_fault, .int v_opened, .int v_isSeen, .ref q_names, .ref q_seenKept, .ref q_movedKept, .int v_isKeeping, .int v_bubbleMany, .int v_bubbleMost, .int v_bubbleCell, .int v_bestShown, .ref q_traced, .int v_traceMany, .int v_who, .ref q_bitsOf, .ref q_sizeOf, .ref q_number, .ref q_lifted])), (q_bitsOf, .inl (c 0, 4, .inl o_v_bitsOf)), (q_found, .inl (c 0, 6, .inl o_v_found)), (q_number, .inl (c 0, 160, .inl o_v_number)), (q_sizeOf, .inl (c 0, 4, .inl o_v_sizeOf))] o_r A below [.ref q_this, .int a_1, .int a_2, .int a_3] s) (F0 m 90 ls []) := by
    intro n
    induction n with
    | zero => intro x4 v_bitsOf v_found v_number v_sizeOf H locs hP hD hS ls hl h; exact no_ok h
    | succ n ih =>
      intro x4 v_bitsOf v_found v_number v_sizeOf H locs hP hD hS ls hl h
      rw [f_X12_sheet_L90] at h
      refine lv_iload hx hb dX12_sheet_90 (lv_at hl 2 rfl) ?_
      refine lv_bipush (v := 40) hx hb dX12_sheet_92 (by decide) ?_
      refine lv_icmp_ge (tgt := 116) hx hb dX12_sheet_94 (by decide) (fun c_28 => ?_) (fun c_28 => ?_)
      · replace h := it_t c_28 h
        refine lv_iconst (v := 1) hx hb dX12_sheet_116 (by decide) ?_
        replace h := so5 h
        obtain ⟨z0, z1, z2, z3, z4⟩ := h
        subst z0 z1 z2 z3 z4
        exact gIret hF hP hD hS rfl dX12_sheet_117
      · replace h := it_f c_28 h
        refine lv_aload_n hx hb dX12_sheet_97 rfl (lv_at hl 0 rfl) ?_
        refine va_get (D := D) (ci := 12) (v := .ref q_number) (C := RX12) (T := TX12) (N := 26) hx hb hts in_X12_sheet_X12 hown hK.1 hP 0 rfl rfl 24 (by decide) (hts (.fieldLink RX12 40 "PaperBubblesModel" "number" "[I") (List.mem_of_getElem? (i := 3) rfl)) (fun _ h9 => h9) rfl dX12_sheet_98 ?_
        refine lv_bipush (v := 40) hx hb dX12_sheet_101 (by decide) ?_
        refine lv_iload_n hx hb dX12_sheet_103 rfl (lv_at hl 1 rfl) ?_
        refine lv_imul hx hb dX12_sheet_104 ?_
        replace h := nm_ok h
        obtain ⟨t_29, et_29, h⟩ := h
        refine gTop et_29 ?_
        refine lv_iload hx hb dX12_sheet_105 (lv_at hl 2 rfl) ?_
        refine lv_iadd hx hb dX12_sheet_107 ?_
        replace h := nm_ok h
        obtain ⟨t_30, et_30, h⟩ := h
        refine gTop et_30 ?_
        refine lv_iconst (v := 0) hx hb dX12_sheet_108 (by decide) ?_
        replace h := chi_ok h
        obtain ⟨hi_31, h⟩ := h
        replace h := nm_ok h
        obtain ⟨w_32, ew_32, h⟩ := h
        refine va_iast hx hb hK.1 hP hD hS 3 0 rfl rfl hi_31 dX12_sheet_109 (fun H locs hP hD hS => ?_)
        have hP : va_P D gcl [(q_this, .inr (12, [.ref q_d, .ref q_kept, .int v_images, .ref q_found, .ref q_aside, .int v_base, .int v_at, .int v_size, .int v_fault, .int v_opened, .int v_isSeen, .ref q_names, .ref q_seenKept, .ref q_movedKept, .int v_isKeeping, .int v_bubbleMany, .int v_bubbleMost, .int v_bubbleCell, .int v_bestShown, .ref q_traced, .int v_traceMany, .int v_who, .ref q_bitsOf, .ref q_sizeOf, .ref q_number, .ref q_lifted])), (q_bitsOf, .inl (c 0, 4, .inl v_bitsOf)), (q_found, .inl (c 0, 6, .inl v_found)), (q_number, .inl (c 0, 160, .inl w_32)), (q_sizeOf, .inl (c 0, 4, .inl v_sizeOf))] H := by subst ew_32; exact hP
        have hD : va_D A [(q_this, .inr (12, [.ref q_d, .ref q_kept, .int v_images, .ref q_found, .ref q_aside, .int v_base, .int v_at, .int v_size, .int v_fault, .int v_opened, .int v_isSeen, .ref q_names, .ref q_seenKept, .ref q_movedKept, .int v_isKeeping, .int v_bubbleMany, .int v_bubbleMost, .int v_bubbleCell, .int v_bestShown, .ref q_traced, .int v_traceMany, .int v_who, .ref q_bitsOf, .ref q_sizeOf, .ref q_number, .ref q_lifted])), (q_bitsOf, .inl (c 0, 4, .inl v_bitsOf)), (q_found, .inl (c 0, 6, .inl v_found)), (q_number, .inl (c 0, 160, .inl w_32)), (q_sizeOf, .inl (c 0, 4, .inl v_sizeOf))] := by subst ew_32; exact hD
        replace h := nm_ok h
        obtain ⟨t_33, et_33, h⟩ := h
        refine lv_iinc (v := t_33) (lv' := [(4, .int t_33), (0, .ref q_this), (1, .int a_1)]) hx hb dX12_sheet_110 hl (k := 2) rfl (by rw [et_33]; rfl) (by decide) rfl (fun ls hl => ?_)
        refine lv_goto (tgt := 90) hx hb dX12_sheet_113 (by decide) ?_
        exact ih t_33 v_bitsOf v_found w_32 v_sizeOf H locs hP hD hS ls (lv_sub hl [1, 2, 0] rfl) h
  have t_L65 : ∀ (v_bitsOf : Nat → Int32) (v_found : Nat → Int32) (v_number : Nat → Int32) (v_sizeOf : Nat → Int32) (H : Heap) (locs : List Loc), va_P D gcl [(q_this, .inr (12, [.ref q_d, .ref q_kept, .int v_images, .ref q_found, .ref q_aside, .int v_base, .int v_at, .int v_size, .int v_fault, .int v_opened, .int v_isSeen, .ref q_names, .ref q_seenKept, .ref q_movedKept, .int v_isKeeping, .int v_bubbleMany, .int v_bubbleMost, .int v_bubbleCell, .int v_bestShown, .ref q_traced, .int v_traceMany, .int v_who, .ref q_bitsOf, .ref q_sizeOf, .ref q_number, .ref q_lifted])), (q_bitsOf, .inl (c 0, 4, .inl v_bitsOf)), (q_found, .inl (c 0, 6, .inl v_found)), (q_number, .inl (c 0, 160, .inl v_number)), (q_sizeOf, .inl (c 0, 4, .inl v_sizeOf))] H → va_D A [(q_this, .inr (12, [.ref q_d, .ref q_kept, .int v_images, .ref q_found, .ref q_aside, .int v_base, .int v_at, .int v_size, .int v_fault, .int v_opened, .int v_isSeen, .ref q_names, .ref q_seenKept, .ref q_movedKept, .int v_isKeeping, .int v_bubbleMany, .int v_bubbleMost, .int v_bubbleCell, .int v_bestShown, .ref q_traced, .int v_traceMany, .int v_who, .ref q_bitsOf, .ref q_sizeOf, .ref q_number, .ref q_lifted])), (q_bitsOf, .inl (c 0, 4, .inl v_bitsOf)), (q_found, .inl (c 0, 6, .inl v_found)), (q_number, .inl (c 0, 160, .inl v_number)), (q_sizeOf, .inl (c 0, 4, .inl v_sizeOf))] → va_S A s.heap H locs → ∀ ls, lv_has ls 5 [(0, .ref q_this), (1, .int a_1), (2, .int a_2), (3, .int a_3)] → f_X12_sheet_L65 a_1 a_2 a_3 v_bitsOf v_found v_number v_sizeOf = some (o_r, o_v_bitsOf, o_v_found, o_v_number, o_v_sizeOf) → W p l e (headSpec wsX12_sheet rm_X12_sheet).room s m [.ref q_this, .int a_1, .int a_2, .int a_3].toArray below meth co H locs 0 0 (gQI D [(q_this, .inr (12, [.ref q_d, .ref q_kept, .int v_images, .ref q_found, .ref q_aside, .int v_base, .int v_at, .int v_size, .int v_fault, .int v_opened, .int v_isSeen, .ref q_names, .ref q_seenKept, .ref q_movedKept, .int v_isKeeping, .int v_bubbleMany, .int v_bubbleMost, .int v_bubbleCell, .int v_bestShown, .ref q_traced, .int v_traceMany, .int v_who, .ref q_bitsOf, .ref q_sizeOf, .ref q_number, .ref q_lifted])), (q_bitsOf, .inl (c 0, 4, .inl o_v_bitsOf)), (q_found, .inl (c 0, 6, .inl o_v_found)), (q_number, .inl (c 0, 160, .inl o_v_number)), (q_sizeOf, .inl (c 0, 4, .inl o_v_sizeOf))] o_r A below [.ref q_this, .int a_1, .int a_2, .int a_3] s) (F0 m 65 ls []) := by
    intro  v_bitsOf v_found v_number v_sizeOf H locs hP hD hS ls hl h
    unfold f_X12_sheet_L65 at h
    refine lv_aload_n hx hb dX12_sheet_65 rfl (lv_at hl 0 rfl) ?_
    refine va_get (D := D) (ci := 12) (v := .ref q_bitsOf) (C := RX12) (T := TX12) (N := 26) hx hb hts in_X12_sheet_X12 hown hK.1 hP 0 rfl rfl 22 (by decide) (hts (.fieldLink RX12 34 "PaperBubblesModel" "bitsOf" "[I") (List.mem_of_getElem? (i := 1) rfl)) (fun _ h9 => h9) rfl dX12_sheet_66 ?_
    refine lv_iload_n hx hb dX12_sheet_69 rfl (lv_at hl 1 rfl) ?_
    refine lv_iload_n hx hb dX12_sheet_70 rfl (lv_at hl 2 rfl) ?_
    replace h := chi_ok h
    obtain ⟨hi_21, h⟩ := h
    replace h := nm_ok h
    obtain ⟨w_22, ew_22, h⟩ := h
    refine va_iast hx hb hK.1 hP hD hS 1 0 rfl rfl hi_21 dX12_sheet_71 (fun H locs hP hD hS => ?_)
    have hP : va_P D gcl [(q_this, .inr (12, [.ref q_d, .ref q_kept, .int v_images, .ref q_found, .ref q_aside, .int v_base, .int v_at, .int v_size, .int v_fault, .int v_opened, .int v_isSeen, .ref q_names, .ref q_seenKept, .ref q_movedKept, .int v_isKeeping, .int v_bubbleMany, .int v_bubbleMost, .int v_bubbleCell, .int v_bestShown, .ref q_traced, .int v_traceMany, .int v_who, .ref q_bitsOf, .ref q_sizeOf, .ref q_number, .ref q_lifted])), (q_bitsOf, .inl (c 0, 4, .inl w_22)), (q_found, .inl (c 0, 6, .inl v_found)), (q_number, .inl (c 0, 160, .inl v_number)), (q_sizeOf, .inl (c 0, 4, .inl v_sizeOf))] H := by subst ew_22; exact hP
    have hD : va_D A [(q_this, .inr (12, [.ref q_d, .ref q_kept, .int v_images, .ref q_found, .ref q_aside, .int v_base, .int v_at, .int v_size, .int v_fault, .int v_opened, .int v_isSeen, .ref q_names, .ref q_seenKept, .ref q_movedKept, .int v_isKeeping, .int v_bubbleMany, .int v_bubbleMost, .int v_bubbleCell, .int v_bestShown, .ref q_traced, .int v_traceMany, .int v_who, .ref q_bitsOf, .ref q_sizeOf, .ref q_number, .ref q_lifted])), (q_bitsOf, .inl (c 0, 4, .inl w_22)), (q_found, .inl (c 0, 6, .inl v_found)), (q_number, .inl (c 0, 160, .inl v_number)), (q_sizeOf, .inl (c 0, 4, .inl v_sizeOf))] := by subst ew_22; exact hD
    refine lv_aload_n hx hb dX12_sheet_72 rfl (lv_at hl 0 rfl) ?_
    refine va_get (D := D) (ci := 12) (v := .ref q_sizeOf) (C := RX12) (T := TX12) (N := 26) hx hb hts in_X12_sheet_X12 hown hK.1 hP 0 rfl rfl 23 (by decide) (hts (.fieldLink RX12 37 "PaperBubblesModel" "sizeOf" "[I") (List.mem_of_getElem? (i := 2) rfl)) (fun _ h9 => h9) rfl dX12_sheet_73 ?_
    refine lv_iload_n hx hb dX12_sheet_76 rfl (lv_at hl 1 rfl) ?_
    refine lv_iload_n hx hb dX12_sheet_77 rfl (lv_at hl 2 rfl) ?_
    refine lv_if_ne (tgt := 85) hx hb dX12_sheet_78 (by decide) (fun c_23 => ?_) (fun c_23 => ?_)
    · replace h := it_f c_23 h
      refine lv_iload_n hx hb dX12_sheet_85 rfl (lv_at hl 3 rfl) ?_
      replace h := chi_ok h
      obtain ⟨hi_24, h⟩ := h
      replace h := nm_ok h
      obtain ⟨w_25, ew_25, h⟩ := h
      refine va_iast hx hb hK.1 hP hD hS 4 0 rfl rfl hi_24 dX12_sheet_86 (fun H locs hP hD hS => ?_)
      have hP : va_P D gcl [(q_this, .inr (12, [.ref q_d, .ref q_kept, .int v_images, .ref q_found, .ref q_aside, .int v_base, .int v_at, .int v_size, .int v_fault, .int v_opened, .int v_isSeen, .ref q_names, .ref q_seenKept, .ref q_movedKept, .int v_isKeeping, .int v_bubbleMany, .int v_bubbleMost, .int v_bubbleCell, .int v_bestShown, .ref q_traced, .int v_traceMany, .int v_who, .ref q_bitsOf, .ref q_sizeOf, .ref q_number, .ref q_lifted])), (q_bitsOf, .inl (c 0, 4, .inl w_22)), (q_found, .inl (c 0, 6, .inl v_found)), (q_number, .inl (c 0, 160, .inl v_number)), (q_sizeOf, .inl (c 0, 4, .inl w_25))] H := by subst ew_25; exact hP
      have hD : va_D A [(q_this, .inr (12, [.ref q_d, .ref q_kept, .int v_images, .ref q_found, .ref q_aside, .int v_base, .int v_at, .int v_size, .int v_fault, .int v_opened, .int v_isSeen, .ref q_names, .ref q_seenKept, .ref q_movedKept, .int v_isKeeping, .int v_bubbleMany, .int v_bubbleMost, .int v_bubbleCell, .int v_bestShown, .ref q_traced, .int v_traceMany, .int v_who, .ref q_bitsOf, .ref q_sizeOf, .ref q_number, .ref q_lifted])), (q_bitsOf, .inl (c 0, 4, .inl w_22)), (q_found, .inl (c 0, 6, .inl v_found)), (q_number, .inl (c 0, 160, .inl v_number)), (q_sizeOf, .inl (c 0, 4, .inl w_25))] := by subst ew_25; exact hD
      refine lv_iconst (v := 0) hx hb dX12_sheet_87 (by decide) ?_
      refine lv_istore (lv' := [(4, .int 0), (0, .ref q_this), (1, .int a_1), (2, .int a_2), (3, .int a_3)]) hx hb dX12_sheet_88 hl (by decide) rfl (fun ls hl => ?_)
      exact t_L90 gFuel 0 w_22 v_found v_number w_25 H locs hP hD hS ls (lv_sub hl [1, 2, 0] rfl) h
    · replace h := it_t c_23 h
      refine lv_iconst (v := 0) hx hb dX12_sheet_81 (by decide) ?_
      refine lv_goto (tgt := 86) hx hb dX12_sheet_82 (by decide) ?_
      replace h := chi_ok h
      obtain ⟨hi_26, h⟩ := h
      replace h := nm_ok h
      obtain ⟨w_27, ew_27, h⟩ := h
      refine va_iast hx hb hK.1 hP hD hS 4 0 rfl rfl hi_26 dX12_sheet_86 (fun H locs hP hD hS => ?_)
      have hP : va_P D gcl [(q_this, .inr (12, [.ref q_d, .ref q_kept, .int v_images, .ref q_found, .ref q_aside, .int v_base, .int v_at, .int v_size, .int v_fault, .int v_opened, .int v_isSeen, .ref q_names, .ref q_seenKept, .ref q_movedKept, .int v_isKeeping, .int v_bubbleMany, .int v_bubbleMost, .int v_bubbleCell, .int v_bestShown, .ref q_traced, .int v_traceMany, .int v_who, .ref q_bitsOf, .ref q_sizeOf, .ref q_number, .ref q_lifted])), (q_bitsOf, .inl (c 0, 4, .inl w_22)), (q_found, .inl (c 0, 6, .inl v_found)), (q_number, .inl (c 0, 160, .inl v_number)), (q_sizeOf, .inl (c 0, 4, .inl w_27))] H := by subst ew_27; exact hP
      have hD : va_D A [(q_this, .inr (12, [.ref q_d, .ref q_kept, .int v_images, .ref q_found, .ref q_aside, .int v_base, .int v_at, .int v_size, .int v_fault, .int v_opened, .int v_isSeen, .ref q_names, .ref q_seenKept, .ref q_movedKept, .int v_isKeeping, .int v_bubbleMany, .int v_bubbleMost, .int v_bubbleCell, .int v_bestShown, .ref q_traced, .int v_traceMany, .int v_who, .ref q_bitsOf, .ref q_sizeOf, .ref q_number, .ref q_lifted])), (q_bitsOf, .inl (c 0, 4, .inl w_22)), (q_found, .inl (c 0, 6, .inl v_found)), (q_number, .inl (c 0, 160, .inl v_number)), (q_sizeOf, .inl (c 0, 4, .inl w_27))] := by subst ew_27; exact hD
      refine lv_iconst (v := 0) hx hb dX12_sheet_87 (by decide) ?_
      refine lv_istore (lv' := [(4, .int 0), (0, .ref q_this), (1, .int a_1), (2, .int a_2), (3, .int a_3)]) hx hb dX12_sheet_88 hl (by decide) rfl (fun ls hl => ?_)
      exact t_L90 gFuel 0 w_22 v_found v_number w_27 H locs hP hD hS ls (lv_sub hl [1, 2, 0] rfl) h
  have t_L49 : ∀ (v_bitsOf : Nat → Int32) (v_found : Nat → Int32) (v_number : Nat → Int32) (v_sizeOf : Nat → Int32) (H : Heap) (locs : List Loc), va_P D gcl [(q_this, .inr (12, [.ref q_d, .ref q_kept, .int v_images, .ref q_found, .ref q_aside, .int v_base, .int v_at, .int v_size, .int v_fault, .int v_opened, .int v_isSeen, .ref q_names, .ref q_seenKept, .ref q_movedKept, .int v_isKeeping, .int v_bubbleMany, .int v_bubbleMost, .int v_bubbleCell, .int v_bestShown, .ref q_traced, .int v_traceMany, .int v_who, .ref q_bitsOf, .ref q_sizeOf, .ref q_number, .ref q_lifted])), (q_bitsOf, .inl (c 0, 4, .inl v_bitsOf)), (q_found, .inl (c 0, 6, .inl v_found)), (q_number, .inl (c 0, 160, .inl v_number)), (q_sizeOf, .inl (c 0, 4, .inl v_sizeOf))] H → va_D A [(q_this, .inr (12, [.ref q_d, .ref q_kept, .int v_images, .ref q_found, .ref q_aside, .int v_base, .int v_at, .int v_size, .int v_fault, .int v_opened, .int v_isSeen, .ref q_names, .ref q_seenKept, .ref q_movedKept, .int v_isKeeping, .int v_bubbleMany, .int v_bubbleMost, .int v_bubbleCell, .int v_bestShown, .ref q_traced, .int v_traceMany, .int v_who, .ref q_bitsOf, .ref q_sizeOf, .ref q_number, .ref q_lifted])), (q_bitsOf, .inl (c 0, 4, .inl v_bitsOf)), (q_found, .inl (c 0, 6, .inl v_found)), (q_number, .inl (c 0, 160, .inl v_number)), (q_sizeOf, .inl (c 0, 4, .inl v_sizeOf))] → va_S A s.heap H locs → ∀ ls, lv_has ls 5 [(0, .ref q_this), (1, .int a_1), (2, .int a_2), (3, .int a_3)] → f_X12_sheet_L49 a_1 a_2 a_3 v_bitsOf v_found v_number v_sizeOf = some (o_r, o_v_bitsOf, o_v_found, o_v_number, o_v_sizeOf) → W p l e (headSpec wsX12_sheet rm_X12_sheet).room s m [.ref q_this, .int a_1, .int a_2, .int a_3].toArray below meth co H locs 0 0 (gQI D [(q_this, .inr (12, [.ref q_d, .ref q_kept, .int v_images, .ref q_found, .ref q_aside, .int v_base, .int v_at, .int v_size, .int v_fault, .int v_opened, .int v_isSeen, .ref q_names, .ref q_seenKept, .ref q_movedKept, .int v_isKeeping, .int v_bubbleMany, .int v_bubbleMost, .int v_bubbleCell, .int v_bestShown, .ref q_traced, .int v_traceMany, .int v_who, .ref q_bitsOf, .ref q_sizeOf, .ref q_number, .ref q_lifted])), (q_bitsOf, .inl (c 0, 4, .inl o_v_bitsOf)), (q_found, .inl (c 0, 6, .inl o_v_found)), (q_number, .inl (c 0, 160, .inl o_v_number)), (q_sizeOf, .inl (c 0, 4, .inl o_v_sizeOf))] o_r A below [.ref q_this, .int a_1, .int a_2, .int a_3] s) (F0 m 49 ls []) := by
    intro  v_bitsOf v_found v_number v_sizeOf H locs hP hD hS ls hl h
    unfold f_X12_sheet_L49 at h
    refine lv_iload_n hx hb dX12_sheet_49 rfl (lv_at hl 2 rfl) ?_
    refine lv_if_eq (tgt := 65) hx hb dX12_sheet_50 (by decide) (fun c_16 => ?_) (fun c_16 => ?_)
    · replace h := it_t c_16 h
      exact t_L65 v_bitsOf v_found v_number v_sizeOf H locs hP hD hS ls (lv_sub hl [0, 1, 2, 3] rfl) h
    · replace h := it_f c_16 h
      refine lv_iload_n hx hb dX12_sheet_53 rfl (lv_at hl 3 rfl) ?_
      refine lv_bipush (v := 40) hx hb dX12_sheet_54 (by decide) ?_
      refine lv_icmp_le (tgt := 65) hx hb dX12_sheet_56 (by decide) (fun c_17 => ?_) (fun c_17 => ?_)
      · replace h := it_t c_17 h
        exact t_L65 v_bitsOf v_found v_number v_sizeOf H locs hP hD hS ls (lv_sub hl [0, 1, 2, 3] rfl) h
      · replace h := it_f c_17 h
        refine lv_aload_n hx hb dX12_sheet_59 rfl (lv_at hl 0 rfl) ?_
        refine lv_iconst (v := 1) hx hb dX12_sheet_60 (by decide) ?_
        replace h := kb2_ok h
        obtain ⟨r_19, w_20, hc_18, h⟩ := h
        refine gCallI (isC := [0, 2]) (wc := [(q_this, .inr (12, [.ref q_d, .ref q_kept, .int v_images, .ref q_found, .ref q_aside, .int v_base, .int v_at, .int v_size, .int v_fault, .int v_opened, .int v_isSeen, .ref q_names, .ref q_seenKept, .ref q_movedKept, .int v_isKeeping, .int v_bubbleMany, .int v_bubbleMost, .int v_bubbleCell, .int v_bestShown, .ref q_traced, .int v_traceMany, .int v_who, .ref q_bitsOf, .ref q_sizeOf, .ref q_number, .ref q_lifted])), (q_found, .inl (c 0, 6, .inl v_found))]) (w1 := [(q_this, .inr (12, [.ref q_d, .ref q_kept, .int v_images, .ref q_found, .ref q_aside, .int v_base, .int v_at, .int v_size, .int v_fault, .int v_opened, .int v_isSeen, .ref q_names, .ref q_seenKept, .ref q_movedKept, .int v_isKeeping, .int v_bubbleMany, .int v_bubbleMost, .int v_bubbleCell, .int v_bestShown, .ref q_traced, .int v_traceMany, .int v_who, .ref q_bitsOf, .ref q_sizeOf, .ref q_number, .ref q_lifted])), (q_found, .inl (c 0, 6, .inl w_20))]) (ws2 := [(q_this, .inr (12, [.ref q_d, .ref q_kept, .int v_images, .ref q_found, .ref q_aside, .int v_base, .int v_at, .int v_size, .int v_fault, .int v_opened, .int v_isSeen, .ref q_names, .ref q_seenKept, .ref q_movedKept, .int v_isKeeping, .int v_bubbleMany, .int v_bubbleMost, .int v_bubbleCell, .int v_bestShown, .ref q_traced, .int v_traceMany, .int v_who, .ref q_bitsOf, .ref q_sizeOf, .ref q_number, .ref q_lifted])), (q_bitsOf, .inl (c 0, 4, .inl v_bitsOf)), (q_found, .inl (c 0, 6, .inl w_20)), (q_number, .inl (c 0, 160, .inl v_number)), (q_sizeOf, .inl (c 0, 4, .inl v_sizeOf))]) (ms := [(some 0), none, (some 1), none, none]) hP hD hS hA ⟨rfl, rfl, trivial⟩ (by decide +kernel) ⟨rfl, rfl, rfl, rfl, rfl, trivial⟩ (va_runV (rm := rm_X12_finds) (ws := wsX12_finds) (As := [.int 1]) (rest := []) (gFix hF) (c_X12_finds l D c q_this q_d q_kept q_found q_aside q_names q_seenKept q_movedKept q_traced q_bitsOf q_sizeOf q_number q_lifted 1 v_images v_base v_at v_size v_fault v_opened v_isSeen v_isKeeping v_bubbleMany v_bubbleMost v_bubbleCell v_bestShown v_traceMany v_who v_found r_19 w_20 hc_18 H.size) (cwV 1 hts gX12_sheet_X12_finds rfl rfl rfl (by decide +kernel) ⟨Nat.le_of_ble_eq_true rfl, Nat.le_of_ble_eq_true rfl⟩) (gPreV (wc := [(q_this, .inr (12, [.ref q_d, .ref q_kept, .int v_images, .ref q_found, .ref q_aside, .int v_base, .int v_at, .int v_size, .int v_fault, .int v_opened, .int v_isSeen, .ref q_names, .ref q_seenKept, .ref q_movedKept, .int v_isKeeping, .int v_bubbleMany, .int v_bubbleMost, .int v_bubbleCell, .int v_bestShown, .ref q_traced, .int v_traceMany, .int v_who, .ref q_bitsOf, .ref q_sizeOf, .ref q_number, .ref q_lifted])), (q_found, .inl (c 0, 6, .inl v_found))]) (q := (RX12, TX12, 26)) (ci := 12) (q0 := 0) (isC := [0, 2]) hK hX hS hA hP hD ⟨rfl, rfl, trivial⟩ (by decide +kernel) rfl rfl) rfl rfl hl.1 rfl (lv_room (Nat.le_of_ble_eq_true rfl)) dX12_sheet_61 ⟨Nat.le_of_ble_eq_true rfl, Nat.le_of_ble_eq_true rfl⟩) (fun H locs hP hD hS => ?_)
        replace h := so5 h
        obtain ⟨z0, z1, z2, z3, z4⟩ := h
        subst z0 z1 z2 z3 z4
        exact gIret hF hP hD hS rfl dX12_sheet_64
  have t_L35 : ∀ (v_bitsOf : Nat → Int32) (v_found : Nat → Int32) (v_number : Nat → Int32) (v_sizeOf : Nat → Int32) (H : Heap) (locs : List Loc), va_P D gcl [(q_this, .inr (12, [.ref q_d, .ref q_kept, .int v_images, .ref q_found, .ref q_aside, .int v_base, .int v_at, .int v_size, .int v_fault, .int v_opened, .int v_isSeen, .ref q_names, .ref q_seenKept, .ref q_movedKept, .int v_isKeeping, .int v_bubbleMany, .int v_bubbleMost, .int v_bubbleCell, .int v_bestShown, .ref q_traced, .int v_traceMany, .int v_who, .ref q_bitsOf, .ref q_sizeOf, .ref q_number, .ref q_lifted])), (q_bitsOf, .inl (c 0, 4, .inl v_bitsOf)), (q_found, .inl (c 0, 6, .inl v_found)), (q_number, .inl (c 0, 160, .inl v_number)), (q_sizeOf, .inl (c 0, 4, .inl v_sizeOf))] H → va_D A [(q_this, .inr (12, [.ref q_d, .ref q_kept, .int v_images, .ref q_found, .ref q_aside, .int v_base, .int v_at, .int v_size, .int v_fault, .int v_opened, .int v_isSeen, .ref q_names, .ref q_seenKept, .ref q_movedKept, .int v_isKeeping, .int v_bubbleMany, .int v_bubbleMost, .int v_bubbleCell, .int v_bestShown, .ref q_traced, .int v_traceMany, .int v_who, .ref q_bitsOf, .ref q_sizeOf, .ref q_number, .ref q_lifted])), (q_bitsOf, .inl (c 0, 4, .inl v_bitsOf)), (q_found, .inl (c 0, 6, .inl v_found)), (q_number, .inl (c 0, 160, .inl v_number)), (q_sizeOf, .inl (c 0, 4, .inl v_sizeOf))] → va_S A s.heap H locs → ∀ ls, lv_has ls 5 [(0, .ref q_this), (1, .int a_1), (2, .int a_2), (3, .int a_3)] → f_X12_sheet_L35 a_1 a_2 a_3 v_bitsOf v_found v_number v_sizeOf = some (o_r, o_v_bitsOf, o_v_found, o_v_number, o_v_sizeOf) → W p l e (headSpec wsX12_sheet rm_X12_sheet).room s m [.ref q_this, .int a_1, .int a_2, .int a_3].toArray below meth co H locs 0 0 (gQI D [(q_this, .inr (12, [.ref q_d, .ref q_kept, .int v_images, .ref q_found, .ref q_aside, .int v_base, .int v_at, .int v_size, .int v_fault, .int v_opened, .int v_isSeen, .ref q_names, .ref q_seenKept, .ref q_movedKept, .int v_isKeeping, .int v_bubbleMany, .int v_bubbleMost, .int v_bubbleCell, .int v_bestShown, .ref q_traced, .int v_traceMany, .int v_who, .ref q_bitsOf, .ref q_sizeOf, .ref q_number, .ref q_lifted])), (q_bitsOf, .inl (c 0, 4, .inl o_v_bitsOf)), (q_found, .inl (c 0, 6, .inl o_v_found)), (q_number, .inl (c 0, 160, .inl o_v_number)), (q_sizeOf, .inl (c 0, 4, .inl o_v_sizeOf))] o_r A below [.ref q_this, .int a_1, .int a_2, .int a_3] s) (F0 m 35 ls []) := by
    intro  v_bitsOf v_found v_number v_sizeOf H locs hP hD hS ls hl h
    unfold f_X12_sheet_L35 at h
    refine lv_iload_n hx hb dX12_sheet_35 rfl (lv_at hl 2 rfl) ?_
    refine lv_if_eq (tgt := 49) hx hb dX12_sheet_36 (by decide) (fun c_11 => ?_) (fun c_11 => ?_)
    · replace h := it_t c_11 h
      exact t_L49 v_bitsOf v_found v_number v_sizeOf H locs hP hD hS ls (lv_sub hl [0, 1, 2, 3] rfl) h
    · replace h := it_f c_11 h
      refine lv_iload_n hx hb dX12_sheet_39 rfl (lv_at hl 3 rfl) ?_
      refine lv_if_ge (tgt := 49) hx hb dX12_sheet_40 (by decide) (fun c_12 => ?_) (fun c_12 => ?_)
      · replace h := it_t c_12 h
        exact t_L49 v_bitsOf v_found v_number v_sizeOf H locs hP hD hS ls (lv_sub hl [0, 1, 2, 3] rfl) h
      · replace h := it_f c_12 h
        refine lv_aload_n hx hb dX12_sheet_43 rfl (lv_at hl 0 rfl) ?_
        refine lv_iconst (v := 3) hx hb dX12_sheet_44 (by decide) ?_
        replace h := kb2_ok h
        obtain ⟨r_14, w_15, hc_13, h⟩ := h
        refine gCallI (isC := [0, 2]) (wc := [(q_this, .inr (12, [.ref q_d, .ref q_kept, .int v_images, .ref q_found, .ref q_aside, .int v_base, .int v_at, .int v_size, .int v_fault, .int v_opened, .int v_isSeen, .ref q_names, .ref q_seenKept, .ref q_movedKept, .int v_isKeeping, .int v_bubbleMany, .int v_bubbleMost, .int v_bubbleCell, .int v_bestShown, .ref q_traced, .int v_traceMany, .int v_who, .ref q_bitsOf, .ref q_sizeOf, .ref q_number, .ref q_lifted])), (q_found, .inl (c 0, 6, .inl v_found))]) (w1 := [(q_this, .inr (12, [.ref q_d, .ref q_kept, .int v_images, .ref q_found, .ref q_aside, .int v_base, .int v_at, .int v_size, .int v_fault, .int v_opened, .int v_isSeen, .ref q_names, .ref q_seenKept, .ref q_movedKept, .int v_isKeeping, .int v_bubbleMany, .int v_bubbleMost, .int v_bubbleCell, .int v_bestShown, .ref q_traced, .int v_traceMany, .int v_who, .ref q_bitsOf, .ref q_sizeOf, .ref q_number, .ref q_lifted])), (q_found, .inl (c 0, 6, .inl w_15))]) (ws2 := [(q_this, .inr (12, [.ref q_d, .ref q_kept, .int v_images, .ref q_found, .ref q_aside, .int v_base, .int v_at, .int v_size, .int v_fault, .int v_opened, .int v_isSeen, .ref q_names, .ref q_seenKept, .ref q_movedKept, .int v_isKeeping, .int v_bubbleMany, .int v_bubbleMost, .int v_bubbleCell, .int v_bestShown, .ref q_traced, .int v_traceMany, .int v_who, .ref q_bitsOf, .ref q_sizeOf, .ref q_number, .ref q_lifted])), (q_bitsOf, .inl (c 0, 4, .inl v_bitsOf)), (q_found, .inl (c 0, 6, .inl w_15)), (q_number, .inl (c 0, 160, .inl v_number)), (q_sizeOf, .inl (c 0, 4, .inl v_sizeOf))]) (ms := [(some 0), none, (some 1), none, none]) hP hD hS hA ⟨rfl, rfl, trivial⟩ (by decide +kernel) ⟨rfl, rfl, rfl, rfl, rfl, trivial⟩ (va_runV (rm := rm_X12_finds) (ws := wsX12_finds) (As := [.int 3]) (rest := []) (gFix hF) (c_X12_finds l D c q_this q_d q_kept q_found q_aside q_names q_seenKept q_movedKept q_traced q_bitsOf q_sizeOf q_number q_lifted 3 v_images v_base v_at v_size v_fault v_opened v_isSeen v_isKeeping v_bubbleMany v_bubbleMost v_bubbleCell v_bestShown v_traceMany v_who v_found r_14 w_15 hc_13 H.size) (cwV 1 hts gX12_sheet_X12_finds rfl rfl rfl (by decide +kernel) ⟨Nat.le_of_ble_eq_true rfl, Nat.le_of_ble_eq_true rfl⟩) (gPreV (wc := [(q_this, .inr (12, [.ref q_d, .ref q_kept, .int v_images, .ref q_found, .ref q_aside, .int v_base, .int v_at, .int v_size, .int v_fault, .int v_opened, .int v_isSeen, .ref q_names, .ref q_seenKept, .ref q_movedKept, .int v_isKeeping, .int v_bubbleMany, .int v_bubbleMost, .int v_bubbleCell, .int v_bestShown, .ref q_traced, .int v_traceMany, .int v_who, .ref q_bitsOf, .ref q_sizeOf, .ref q_number, .ref q_lifted])), (q_found, .inl (c 0, 6, .inl v_found))]) (q := (RX12, TX12, 26)) (ci := 12) (q0 := 0) (isC := [0, 2]) hK hX hS hA hP hD ⟨rfl, rfl, trivial⟩ (by decide +kernel) rfl rfl) rfl rfl hl.1 rfl (lv_room (Nat.le_of_ble_eq_true rfl)) dX12_sheet_45 ⟨Nat.le_of_ble_eq_true rfl, Nat.le_of_ble_eq_true rfl⟩) (fun H locs hP hD hS => ?_)
        replace h := so5 h
        obtain ⟨z0, z1, z2, z3, z4⟩ := h
        subst z0 z1 z2 z3 z4
        exact gIret hF hP hD hS rfl dX12_sheet_48
  unfold f_X12_sheet at h
  refine lv_iload_n hx hb dX12_sheet_0 rfl (lv_at hl 1 rfl) ?_
  replace h := kb_ok h
  obtain ⟨r_2, hc_1, h⟩ := h
  refine gCallIr (isC := []) (wc := []) hP hD hS hA trivial (va_runS (rm := rm_X12_isSheet) (ws := wsX12_isSheet) (As := [.int a_1]) (rest := []) (gFix hF) (c_X12_isSheet l D c a_1 r_2 hc_1 s.heap.size) (va_cwS 1 hts gX12_sheet_X12_isSheet rfl rfl rfl (by decide +kernel) ⟨Nat.le_of_ble_eq_true rfl, Nat.le_of_ble_eq_true rfl⟩) (gPreS (wc := []) (isC := []) hK hX hS hA hP hD trivial (by decide +kernel)) rfl rfl hl.1 rfl (lv_room (Nat.le_of_ble_eq_true rfl)) dX12_sheet_1 ⟨Nat.le_of_ble_eq_true rfl, Nat.le_of_ble_eq_true rfl⟩) (fun H locs hP hS => ?_)
  refine lv_if_eq (tgt := 29) hx hb dX12_sheet_4 (by decide) (fun c_3 => ?_) (fun c_3 => ?_)
  · replace h := it_t c_3 h
    exact t_L29 v_bitsOf v_found v_number v_sizeOf H locs hP hD hS ls (lv_sub hl [0] rfl) h
  · replace h := it_f c_3 h
    refine lv_iload_n hx hb dX12_sheet_7 rfl (lv_at hl 2 rfl) ?_
    refine lv_if_eq (tgt := 35) hx hb dX12_sheet_8 (by decide) (fun c_4 => ?_) (fun c_4 => ?_)
    · replace h := it_t c_4 h
      exact t_L35 v_bitsOf v_found v_number v_sizeOf H locs hP hD hS ls (lv_sub hl [0, 1, 2, 3] rfl) h
    · replace h := it_f c_4 h
      refine lv_iload_n hx hb dX12_sheet_11 rfl (lv_at hl 2 rfl) ?_
      refine lv_bipush (v := 8) hx hb dX12_sheet_12 (by decide) ?_
      refine lv_icmp_eq (tgt := 35) hx hb dX12_sheet_14 (by decide) (fun c_5 => ?_) (fun c_5 => ?_)
      · replace h := it_t c_5 h
        exact t_L35 v_bitsOf v_found v_number v_sizeOf H locs hP hD hS ls (lv_sub hl [0, 1, 2, 3] rfl) h
      · replace h := it_f c_5 h
        refine lv_iload_n hx hb dX12_sheet_17 rfl (lv_at hl 2 rfl) ?_
        refine lv_bipush (v := 16) hx hb dX12_sheet_18 (by decide) ?_
        refine lv_icmp_eq (tgt := 35) hx hb dX12_sheet_20 (by decide) (fun c_6 => ?_) (fun c_6 => ?_)
        · replace h := it_t c_6 h
          exact t_L35 v_bitsOf v_found v_number v_sizeOf H locs hP hD hS ls (lv_sub hl [0, 1, 2, 3] rfl) h
        · replace h := it_f c_6 h
          refine lv_iload_n hx hb dX12_sheet_23 rfl (lv_at hl 2 rfl) ?_
          refine lv_bipush (v := 32) hx hb dX12_sheet_24 (by decide) ?_
          refine lv_icmp_eq (tgt := 35) hx hb dX12_sheet_26 (by decide) (fun c_7 => ?_) (fun c_7 => ?_)
          · replace h := it_t c_7 h
            exact t_L35 v_bitsOf v_found v_number v_sizeOf H locs hP hD hS ls (lv_sub hl [0, 1, 2, 3] rfl) h
          · replace h := it_f c_7 h
            exact t_L29 v_bitsOf v_found v_number v_sizeOf H locs hP hD hS ls (lv_sub hl [0] rfl) h
