set_option maxRecDepth 20000 in
theorem in_X12_nextTo_X12 : ∀ w ∈ u_ws RX12 TX12 26, w ∈ wsX12_nextTo := by decide +kernel
abbrev rm_X12_nextTo : Room := { frames := 1, cells := 0, slots := 0, locals := 25 }
set_option maxHeartbeats 4000000 in
set_option maxRecDepth 100000 in
theorem c_X12_nextTo (l : Launch) (D : va_G) (c : Nat → ClassId) (q_this q_d q_kept q_found q_aside q_names q_seenKept q_movedKept q_traced q_bitsOf q_sizeOf q_number q_lifted : Nat) (a_1 : Int32) (a_2 : Int32) (v_images : Int32) (v_base : Int32) (v_at : Int32) (v_size : Int32) (v_fault : Int32) (v_opened : Int32) (v_isSeen : Int32) (v_isKeeping : Int32) (v_bubbleMany : Int32) (v_bubbleMost : Int32) (v_bubbleCell : Int32) (v_bestShown : Int32) (v_traceMany : Int32) (v_who : Int32) (v_d : Nat → Int32) (o_r : Int32) (h : f_X12_nextTo a_1 a_2 v_d = some o_r) : gMI l yX12_nextTo wsX12_nextTo rm_X12_nextTo D c [.ref q_this, .int a_1, .int a_2] [(q_this, .inr (12, [.ref q_d, .ref q_kept, .int v_images, .ref q_found, .ref q_aside, .int v_base, .int v_at, .int v_size, .int v_fault, .int v_opened, .int v_isSeen, .ref q_names, .ref q_seenKept, .ref q_movedKept, .int v_isKeeping, .int v_bubbleMany, .int v_bubbleMost, .int v_bubbleCell, .int v_bestShown, .ref q_traced, .int v_traceMany, .int v_who, .ref q_bitsOf, .ref q_sizeOf, .ref q_number, .ref q_lifted])), (q_d, .inl (c 0, 244, .inl v_d))] [(q_this, .inr (12, [.ref q_d, .ref q_kept, .int v_images, .ref q_found, .ref q_aside, .int v_base, .int v_at, .int v_size, .int v_fault, .int v_opened, .int v_isSeen, .ref q_names, .ref q_seenKept, .ref q_movedKept, .int v_isKeeping, .int v_bubbleMany, .int v_bubbleMost, .int v_bubbleCell, .int v_bestShown, .ref q_traced, .int v_traceMany, .int v_who, .ref q_bitsOf, .ref q_sizeOf, .ref q_number, .ref q_lifted])), (q_d, .inl (c 0, 244, .inl v_d))] o_r := by
  refine gMI_of (cc := cX12_nextTo) (maxL := 5) (rt := (some .int)) (by decide +kernel) rfl (Nat.le_of_ble_eq_true rfl) ?_
  intro p e s m below meth co A hF hK hX hP hD hA hS ls hl
  obtain ⟨hx, hb, hr, hts, hown, hlocks, hml⟩ := id hF
  have hl : lv_has ls 5 [(0, .ref q_this), (1, .int a_1), (2, .int a_2)] := hl
  have t_L55 : ∀ (x3 : Int32) (y0 : Int32) (y1 : Int32) (H : Heap) (locs : List Loc), va_P D gcl [(q_this, .inr (12, [.ref q_d, .ref q_kept, .int v_images, .ref q_found, .ref q_aside, .int v_base, .int v_at, .int v_size, .int v_fault, .int v_opened, .int v_isSeen, .ref q_names, .ref q_seenKept, .ref q_movedKept, .int v_isKeeping, .int v_bubbleMany, .int v_bubbleMost, .int v_bubbleCell, .int v_bestShown, .ref q_traced, .int v_traceMany, .int v_who, .ref q_bitsOf, .ref q_sizeOf, .ref q_number, .ref q_lifted])), (q_d, .inl (c 0, 244, .inl v_d))] H → va_D A [(q_this, .inr (12, [.ref q_d, .ref q_kept, .int v_images, .ref q_found, .ref q_aside, .int v_base, .int v_at, .int v_size, .int v_fault, .int v_opened, .int v_isSeen, .ref q_names, .ref q_seenKept, .ref q_movedKept, .int v_isKeeping, .int v_bubbleMany, .int v_bubbleMost, .int v_bubbleCell, .int v_bestShown, .ref q_traced, .int v_traceMany, .int v_who, .ref q_bitsOf, .ref q_sizeOf, .ref q_number, .ref q_lifted])), (q_d, .inl (c 0, 244, .inl v_d))] → va_S A s.heap H locs → ∀ ls, lv_has ls 5 [(0, .ref q_this), (3, .int x3)] → f_X12_nextTo_L55 v_d x3 y0 y1 = some o_r → W p l e (headSpec wsX12_nextTo rm_X12_nextTo).room s m [.ref q_this, .int a_1, .int a_2].toArray below meth co H locs 0 0 (gQI D [(q_this, .inr (12, [.ref q_d, .ref q_kept, .int v_images, .ref q_found, .ref q_aside, .int v_base, .int v_at, .int v_size, .int v_fault, .int v_opened, .int v_isSeen, .ref q_names, .ref q_seenKept, .ref q_movedKept, .int v_isKeeping, .int v_bubbleMany, .int v_bubbleMost, .int v_bubbleCell, .int v_bestShown, .ref q_traced, .int v_traceMany, .int v_who, .ref q_bitsOf, .ref q_sizeOf, .ref q_number, .ref q_lifted])), (q_d, .inl (c 0, 244, .inl v_d))] o_r A below [.ref q_this, .int a_1, .int a_2] s) (F0 m 55 ls [.int y1, .int y0]) := by
    intro  x3 y0 y1 H locs hP hD hS ls hl h
    unfold f_X12_nextTo_L55 at h
    refine lv_iadd hx hb dX12_nextTo_55 ?_
    replace h := nm_ok h
    obtain ⟨t_14, et_14, h⟩ := h
    refine gTop et_14 ?_
    refine lv_istore (lv' := [(4, .int t_14), (0, .ref q_this), (3, .int x3)]) hx hb dX12_nextTo_56 hl (by decide) rfl (fun ls hl => ?_)
    refine lv_iload_n hx hb dX12_nextTo_58 rfl (lv_at hl 2 rfl) ?_
    refine lv_i2l hx hb dX12_nextTo_59 rfl ?_
    refine lv_lconst (v := 0) hx hb dX12_nextTo_60 (by decide) ?_
    refine lv_aload_n hx hb dX12_nextTo_61 rfl (lv_at hl 1 rfl) ?_
    refine va_get (D := D) (ci := 12) (v := .ref q_d) (C := RX12) (T := TX12) (N := 26) hx hb hts in_X12_nextTo_X12 hown hK.1 hP 0 rfl rfl 0 (by decide) (hts (.fieldLink RX12 7 "PaperBubblesModel" "d" "[I") (List.mem_of_getElem? (i := 1) rfl)) (fun _ h9 => h9) rfl dX12_nextTo_62 ?_
    refine lv_iconst (v := 0) hx hb dX12_nextTo_65 (by decide) ?_
    replace h := chi_ok h
    obtain ⟨hi_15, h⟩ := h
    refine va_iald hx hb hK.1 hP 1 0 rfl rfl hi_15 dX12_nextTo_66 ?_
    replace h := nm_ok h
    obtain ⟨t_16, et_16, h⟩ := h
    refine gTop et_16 ?_
    refine lv_iconst (v := 1) hx hb dX12_nextTo_67 (by decide) ?_
    refine lv_isub hx hb dX12_nextTo_68 ?_
    refine lv_i2l hx hb dX12_nextTo_69 rfl ?_
    replace h := kb_ok h
    obtain ⟨r_18, hc_17, h⟩ := h
    refine gCallIr (isC := []) (wc := []) hP hD hS hA trivial (va_runS (rm := rm_X12_in) (ws := wsX12_in) (As := [.long ((x3 : Int32).toInt64), .long 0, .long (((t_16 - 1) : Int32).toInt64)]) (rest := []) (gFix hF) (c_X12_in l D c ((x3 : Int32).toInt64) 0 (((t_16 - 1) : Int32).toInt64) r_18 hc_17 H.size) (va_cwS 3 hts gX12_nextTo_X12_in rfl rfl rfl (by decide +kernel) ⟨Nat.le_of_ble_eq_true rfl, Nat.le_of_ble_eq_true rfl⟩) (gPreS (wc := []) (isC := []) hK hX hS hA hP hD trivial (by decide +kernel)) rfl rfl hl.1 rfl (lv_room (Nat.le_of_ble_eq_true rfl)) dX12_nextTo_70 ⟨Nat.le_of_ble_eq_true rfl, Nat.le_of_ble_eq_true rfl⟩) (fun H locs hP hS => ?_)
    refine lv_if_eq (tgt := 109) hx hb dX12_nextTo_73 (by decide) (fun c_19 => ?_) (fun c_19 => ?_)
    · replace h := it_t c_19 h
      refine lv_iconst (v := (-1)) hx hb dX12_nextTo_109 (by decide) ?_
      replace h := so1 h
      subst h
      exact gIret hF hP hD hS rfl dX12_nextTo_110
    · replace h := it_f c_19 h
      refine lv_iload hx hb dX12_nextTo_76 (lv_at hl 0 rfl) ?_
      refine lv_i2l hx hb dX12_nextTo_78 rfl ?_
      refine lv_lconst (v := 0) hx hb dX12_nextTo_79 (by decide) ?_
      refine lv_aload_n hx hb dX12_nextTo_80 rfl (lv_at hl 1 rfl) ?_
      refine va_get (D := D) (ci := 12) (v := .ref q_d) (C := RX12) (T := TX12) (N := 26) hx hb hts in_X12_nextTo_X12 hown hK.1 hP 0 rfl rfl 0 (by decide) (hts (.fieldLink RX12 7 "PaperBubblesModel" "d" "[I") (List.mem_of_getElem? (i := 1) rfl)) (fun _ h9 => h9) rfl dX12_nextTo_81 ?_
      refine lv_iconst (v := 1) hx hb dX12_nextTo_84 (by decide) ?_
      replace h := chi_ok h
      obtain ⟨hi_20, h⟩ := h
      refine va_iald hx hb hK.1 hP 1 0 rfl rfl hi_20 dX12_nextTo_85 ?_
      replace h := nm_ok h
      obtain ⟨t_21, et_21, h⟩ := h
      refine gTop et_21 ?_
      refine lv_iconst (v := 1) hx hb dX12_nextTo_86 (by decide) ?_
      refine lv_isub hx hb dX12_nextTo_87 ?_
      refine lv_i2l hx hb dX12_nextTo_88 rfl ?_
      replace h := kb_ok h
      obtain ⟨r_23, hc_22, h⟩ := h
      refine gCallIr (isC := []) (wc := []) hP hD hS hA trivial (va_runS (rm := rm_X12_in) (ws := wsX12_in) (As := [.long ((t_14 : Int32).toInt64), .long 0, .long (((t_21 - 1) : Int32).toInt64)]) (rest := []) (gFix hF) (c_X12_in l D c ((t_14 : Int32).toInt64) 0 (((t_21 - 1) : Int32).toInt64) r_23 hc_22 H.size) (va_cwS 3 hts gX12_nextTo_X12_in rfl rfl rfl (by decide +kernel) ⟨Nat.le_of_ble_eq_true rfl, Nat.le_of_ble_eq_true rfl⟩) (gPreS (wc := []) (isC := []) hK hX hS hA hP hD trivial (by decide +kernel)) rfl rfl hl.1 rfl (lv_room (Nat.le_of_ble_eq_true rfl)) dX12_nextTo_89 ⟨Nat.le_of_ble_eq_true rfl, Nat.le_of_ble_eq_true rfl⟩) (fun H locs hP hS => ?_)
      refine lv_if_eq (tgt := 109) hx hb dX12_nextTo_92 (by decide) (fun c_24 => ?_) (fun c_24 => ?_)
      · replace h := it_t c_24 h
        refine lv_iconst (v := (-1)) hx hb dX12_nextTo_109 (by decide) ?_
        replace h := so1 h
        subst h
        exact gIret hF hP hD hS rfl dX12_nextTo_110
      · replace h := it_f c_24 h
        refine lv_iload_n hx hb dX12_nextTo_95 rfl (lv_at hl 2 rfl) ?_
        refine lv_aload_n hx hb dX12_nextTo_96 rfl (lv_at hl 1 rfl) ?_
        refine va_get (D := D) (ci := 12) (v := .ref q_d) (C := RX12) (T := TX12) (N := 26) hx hb hts in_X12_nextTo_X12 hown hK.1 hP 0 rfl rfl 0 (by decide) (hts (.fieldLink RX12 7 "PaperBubblesModel" "d" "[I") (List.mem_of_getElem? (i := 1) rfl)) (fun _ h9 => h9) rfl dX12_nextTo_97 ?_
        refine lv_iconst (v := 1) hx hb dX12_nextTo_100 (by decide) ?_
        replace h := chi_ok h
        obtain ⟨hi_25, h⟩ := h
        refine va_iald hx hb hK.1 hP 1 0 rfl rfl hi_25 dX12_nextTo_101 ?_
        refine lv_imul hx hb dX12_nextTo_102 ?_
        replace h := nm_ok h
        obtain ⟨t_26, et_26, h⟩ := h
        refine gTop et_26 ?_
        refine lv_iload hx hb dX12_nextTo_103 (lv_at hl 0 rfl) ?_
        refine lv_iadd hx hb dX12_nextTo_105 ?_
        replace h := nm_ok h
        obtain ⟨t_27, et_27, h⟩ := h
        refine gTop et_27 ?_
        refine lv_goto (tgt := 110) hx hb dX12_nextTo_106 (by decide) ?_
        replace h := so1 h
        subst h
        exact gIret hF hP hD hS rfl dX12_nextTo_110
  have t_L26 : ∀ (y0 : Int32) (y1 : Int32) (H : Heap) (locs : List Loc), va_P D gcl [(q_this, .inr (12, [.ref q_d, .ref q_kept, .int v_images, .ref q_found, .ref q_aside, .int v_base, .int v_at, .int v_size, .int v_fault, .int v_opened, .int v_isSeen, .ref q_names, .ref q_seenKept, .ref q_movedKept, .int v_isKeeping, .int v_bubbleMany, .int v_bubbleMost, .int v_bubbleCell, .int v_bestShown, .ref q_traced, .int v_traceMany, .int v_who, .ref q_bitsOf, .ref q_sizeOf, .ref q_number, .ref q_lifted])), (q_d, .inl (c 0, 244, .inl v_d))] H → va_D A [(q_this, .inr (12, [.ref q_d, .ref q_kept, .int v_images, .ref q_found, .ref q_aside, .int v_base, .int v_at, .int v_size, .int v_fault, .int v_opened, .int v_isSeen, .ref q_names, .ref q_seenKept, .ref q_movedKept, .int v_isKeeping, .int v_bubbleMany, .int v_bubbleMost, .int v_bubbleCell, .int v_bestShown, .ref q_traced, .int v_traceMany, .int v_who, .ref q_bitsOf, .ref q_sizeOf, .ref q_number, .ref q_lifted])), (q_d, .inl (c 0, 244, .inl v_d))] → va_S A s.heap H locs → ∀ ls, lv_has ls 5 [(0, .ref q_this), (1, .int a_1), (2, .int a_2)] → f_X12_nextTo_L26 a_1 a_2 v_d y0 y1 = some o_r → W p l e (headSpec wsX12_nextTo rm_X12_nextTo).room s m [.ref q_this, .int a_1, .int a_2].toArray below meth co H locs 0 0 (gQI D [(q_this, .inr (12, [.ref q_d, .ref q_kept, .int v_images, .ref q_found, .ref q_aside, .int v_base, .int v_at, .int v_size, .int v_fault, .int v_opened, .int v_isSeen, .ref q_names, .ref q_seenKept, .ref q_movedKept, .int v_isKeeping, .int v_bubbleMany, .int v_bubbleMost, .int v_bubbleCell, .int v_bestShown, .ref q_traced, .int v_traceMany, .int v_who, .ref q_bitsOf, .ref q_sizeOf, .ref q_number, .ref q_lifted])), (q_d, .inl (c 0, 244, .inl v_d))] o_r A below [.ref q_this, .int a_1, .int a_2] s) (F0 m 26 ls [.int y1, .int y0]) := by
    intro  y0 y1 H locs hP hD hS ls hl h
    unfold f_X12_nextTo_L26 at h
    refine lv_iadd hx hb dX12_nextTo_26 ?_
    replace h := nm_ok h
    obtain ⟨t_7, et_7, h⟩ := h
    refine gTop et_7 ?_
    refine lv_istore_n (lv' := [(3, .int t_7), (0, .ref q_this), (1, .int a_1), (2, .int a_2)]) hx hb dX12_nextTo_27 rfl hl (by decide) rfl (fun ls hl => ?_)
    refine lv_iload_n hx hb dX12_nextTo_28 rfl (lv_at hl 2 rfl) ?_
    refine lv_aload_n hx hb dX12_nextTo_29 rfl (lv_at hl 1 rfl) ?_
    refine va_get (D := D) (ci := 12) (v := .ref q_d) (C := RX12) (T := TX12) (N := 26) hx hb hts in_X12_nextTo_X12 hown hK.1 hP 0 rfl rfl 0 (by decide) (hts (.fieldLink RX12 7 "PaperBubblesModel" "d" "[I") (List.mem_of_getElem? (i := 1) rfl)) (fun _ h9 => h9) rfl dX12_nextTo_30 ?_
    refine lv_iconst (v := 1) hx hb dX12_nextTo_33 (by decide) ?_
    replace h := chi_ok h
    obtain ⟨hi_8, h⟩ := h
    refine va_iald hx hb hK.1 hP 1 0 rfl rfl hi_8 dX12_nextTo_34 ?_
    replace h := nm_ok h
    obtain ⟨t_9, et_9, h⟩ := h
    refine gTop et_9 ?_
    replace h := chz_ok h
    obtain ⟨hz_10, h⟩ := h
    refine lv_irem hx hb dX12_nextTo_35 hz_10 ?_
    replace h := nm_ok h
    obtain ⟨t_11, et_11, h⟩ := h
    refine gTop et_11 ?_
    refine lv_iload_n hx hb dX12_nextTo_36 rfl (lv_at hl 3 rfl) ?_
    refine lv_iconst (v := 1) hx hb dX12_nextTo_37 (by decide) ?_
    refine lv_icmp_ne (tgt := 45) hx hb dX12_nextTo_38 (by decide) (fun c_12 => ?_) (fun c_12 => ?_)
    · replace h := it_f c_12 h
      refine lv_iload_n hx hb dX12_nextTo_45 rfl (lv_at hl 3 rfl) ?_
      refine lv_iconst (v := 3) hx hb dX12_nextTo_46 (by decide) ?_
      refine lv_icmp_ne (tgt := 54) hx hb dX12_nextTo_47 (by decide) (fun c_13 => ?_) (fun c_13 => ?_)
      · replace h := it_f c_13 h
        refine lv_iconst (v := 0) hx hb dX12_nextTo_54 (by decide) ?_
        exact t_L55 t_7 t_11 0 H locs hP hD hS ls (lv_sub hl [1, 0] rfl) h
      · replace h := it_t c_13 h
        refine lv_iconst (v := (-1)) hx hb dX12_nextTo_50 (by decide) ?_
        refine lv_goto (tgt := 55) hx hb dX12_nextTo_51 (by decide) ?_
        exact t_L55 t_7 t_11 (-1) H locs hP hD hS ls (lv_sub hl [1, 0] rfl) h
    · replace h := it_t c_12 h
      refine lv_iconst (v := 1) hx hb dX12_nextTo_41 (by decide) ?_
      refine lv_goto (tgt := 55) hx hb dX12_nextTo_42 (by decide) ?_
      exact t_L55 t_7 t_11 1 H locs hP hD hS ls (lv_sub hl [1, 0] rfl) h
  unfold f_X12_nextTo at h
  refine lv_iload_n hx hb dX12_nextTo_0 rfl (lv_at hl 1 rfl) ?_
  refine lv_aload_n hx hb dX12_nextTo_1 rfl (lv_at hl 0 rfl) ?_
  refine va_get (D := D) (ci := 12) (v := .ref q_d) (C := RX12) (T := TX12) (N := 26) hx hb hts in_X12_nextTo_X12 hown hK.1 hP 0 rfl rfl 0 (by decide) (hts (.fieldLink RX12 7 "PaperBubblesModel" "d" "[I") (List.mem_of_getElem? (i := 1) rfl)) (fun _ h9 => h9) rfl dX12_nextTo_2 ?_
  refine lv_iconst (v := 1) hx hb dX12_nextTo_5 (by decide) ?_
  replace h := chi_ok h
  obtain ⟨hi_1, h⟩ := h
  refine va_iald hx hb hK.1 hP 1 0 rfl rfl hi_1 dX12_nextTo_6 ?_
  replace h := nm_ok h
  obtain ⟨t_2, et_2, h⟩ := h
  refine gTop et_2 ?_
  replace h := chz_ok h
  obtain ⟨hz_3, h⟩ := h
  refine lv_idiv hx hb dX12_nextTo_7 hz_3 ?_
  replace h := nm_ok h
  obtain ⟨t_4, et_4, h⟩ := h
  refine gTop et_4 ?_
  refine lv_iload_n hx hb dX12_nextTo_8 rfl (lv_at hl 2 rfl) ?_
  refine lv_if_ne (tgt := 16) hx hb dX12_nextTo_9 (by decide) (fun c_5 => ?_) (fun c_5 => ?_)
  · replace h := it_f c_5 h
    refine lv_iload_n hx hb dX12_nextTo_16 rfl (lv_at hl 2 rfl) ?_
    refine lv_iconst (v := 2) hx hb dX12_nextTo_17 (by decide) ?_
    refine lv_icmp_ne (tgt := 25) hx hb dX12_nextTo_18 (by decide) (fun c_6 => ?_) (fun c_6 => ?_)
    · replace h := it_f c_6 h
      refine lv_iconst (v := 0) hx hb dX12_nextTo_25 (by decide) ?_
      exact t_L26 t_4 0 s.heap [] hP hD hS ls (lv_sub hl [0, 1, 2] rfl) h
    · replace h := it_t c_6 h
      refine lv_iconst (v := 1) hx hb dX12_nextTo_21 (by decide) ?_
      refine lv_goto (tgt := 26) hx hb dX12_nextTo_22 (by decide) ?_
      exact t_L26 t_4 1 s.heap [] hP hD hS ls (lv_sub hl [0, 1, 2] rfl) h
  · replace h := it_t c_5 h
    refine lv_iconst (v := (-1)) hx hb dX12_nextTo_12 (by decide) ?_
    refine lv_goto (tgt := 26) hx hb dX12_nextTo_13 (by decide) ?_
    exact t_L26 t_4 (-1) s.heap [] hP hD hS ls (lv_sub hl [0, 1, 2] rfl) h
abbrev rm_X12_reachOf : Room := { frames := 1, cells := 0, slots := 0, locals := 21 }
set_option maxHeartbeats 4000000 in
set_option maxRecDepth 100000 in
theorem c_X12_reachOf (l : Launch) (D : va_G) (c : Nat → ClassId) (q_this q_d q_kept q_found q_aside q_names q_seenKept q_movedKept q_traced q_bitsOf q_sizeOf q_number q_lifted : Nat) (a_1 : Int32) (v_images : Int32) (v_base : Int32) (v_at : Int32) (v_size : Int32) (v_fault : Int32) (v_opened : Int32) (v_isSeen : Int32) (v_isKeeping : Int32) (v_bubbleMany : Int32) (v_bubbleMost : Int32) (v_bubbleCell : Int32) (v_bestShown : Int32) (v_traceMany : Int32) (v_who : Int32) (v_d : Nat → Int32) (o_r : Int32) (h : f_X12_reachOf a_1 v_d = some o_r) : gMI l yX12_reachOf wsX12_reachOf rm_X12_reachOf D c [.ref q_this, .int a_1] [(q_this, .inr (12, [.ref q_d, .ref q_kept, .int v_images, .ref q_found, .ref q_aside, .int v_base, .int v_at, .int v_size, .int v_fault, .int v_opened, .int v_isSeen, .ref q_names, .ref q_seenKept, .ref q_movedKept, .int v_isKeeping, .int v_bubbleMany, .int v_bubbleMost, .int v_bubbleCell, .int v_bestShown, .ref q_traced, .int v_traceMany, .int v_who, .ref q_bitsOf, .ref q_sizeOf, .ref q_number, .ref q_lifted])), (q_d, .inl (c 0, 244, .inl v_d))] [(q_this, .inr (12, [.ref q_d, .ref q_kept, .int v_images, .ref q_found, .ref q_aside, .int v_base, .int v_at, .int v_size, .int v_fault, .int v_opened, .int v_isSeen, .ref q_names, .ref q_seenKept, .ref q_movedKept, .int v_isKeeping, .int v_bubbleMany, .int v_bubbleMost, .int v_bubbleCell, .int v_bestShown, .ref q_traced, .int v_traceMany, .int v_who, .ref q_bitsOf, .ref q_sizeOf, .ref q_number, .ref q_lifted])), (q_d, .inl (c 0, 244, .inl v_d))] o_r := by
  refine gMI_of (cc := cX12_reachOf) (maxL := 2) (rt := (some .int)) (by decide +kernel) rfl (Nat.le_of_ble_eq_true rfl) ?_
  intro p e s m below meth co A hF hK hX hP hD hA hS ls hl
  obtain ⟨hx, hb, hr, hts, hown, hlocks, hml⟩ := id hF
  have hl : lv_has ls 2 [(0, .ref q_this), (1, .int a_1)] := hl
  unfold f_X12_reachOf at h
  refine lv_aload_n hx hb dX12_reachOf_0 rfl (lv_at hl 0 rfl) ?_
  refine lv_iload_n hx hb dX12_reachOf_1 rfl (lv_at hl 1 rfl) ?_
  replace h := kb_ok h
  obtain ⟨r_2, hc_1, h⟩ := h
  refine gCallIr (isC := [0, 1]) (wc := [(q_this, .inr (12, [.ref q_d, .ref q_kept, .int v_images, .ref q_found, .ref q_aside, .int v_base, .int v_at, .int v_size, .int v_fault, .int v_opened, .int v_isSeen, .ref q_names, .ref q_seenKept, .ref q_movedKept, .int v_isKeeping, .int v_bubbleMany, .int v_bubbleMost, .int v_bubbleCell, .int v_bestShown, .ref q_traced, .int v_traceMany, .int v_who, .ref q_bitsOf, .ref q_sizeOf, .ref q_number, .ref q_lifted])), (q_d, .inl (c 0, 244, .inl v_d))]) hP hD hS hA ⟨rfl, rfl, trivial⟩ (va_runV (rm := rm_X12_kindOf) (ws := wsX12_kindOf) (As := [.int a_1]) (rest := []) (gFix hF) (c_X12_kindOf l D c q_this q_d q_kept q_found q_aside q_names q_seenKept q_movedKept q_traced q_bitsOf q_sizeOf q_number q_lifted a_1 v_images v_base v_at v_size v_fault v_opened v_isSeen v_isKeeping v_bubbleMany v_bubbleMost v_bubbleCell v_bestShown v_traceMany v_who v_d r_2 hc_1 s.heap.size) (cwV 1 hts gX12_reachOf_X12_kindOf rfl rfl rfl (by decide +kernel) ⟨Nat.le_of_ble_eq_true rfl, Nat.le_of_ble_eq_true rfl⟩) (gPreV (wc := [(q_this, .inr (12, [.ref q_d, .ref q_kept, .int v_images, .ref q_found, .ref q_aside, .int v_base, .int v_at, .int v_size, .int v_fault, .int v_opened, .int v_isSeen, .ref q_names, .ref q_seenKept, .ref q_movedKept, .int v_isKeeping, .int v_bubbleMany, .int v_bubbleMost, .int v_bubbleCell, .int v_bestShown, .ref q_traced, .int v_traceMany, .int v_who, .ref q_bitsOf, .ref q_sizeOf, .ref q_number, .ref q_lifted])), (q_d, .inl (c 0, 244, .inl v_d))]) (q := (RX12, TX12, 26)) (ci := 12) (q0 := 0) (isC := [0, 1]) hK hX hS hA hP hD ⟨rfl, rfl, trivial⟩ (by decide +kernel) rfl rfl) rfl rfl hl.1 rfl (lv_room (Nat.le_of_ble_eq_true rfl)) dX12_reachOf_2 ⟨Nat.le_of_ble_eq_true rfl, Nat.le_of_ble_eq_true rfl⟩) (fun H locs hP hS => ?_)
  refine lv_iconst (v := 3) hx hb dX12_reachOf_5 (by decide) ?_
  refine lv_icmp_ne (tgt := 13) hx hb dX12_reachOf_6 (by decide) (fun c_3 => ?_) (fun c_3 => ?_)
  · replace h := it_f c_3 h
    refine lv_aload_n hx hb dX12_reachOf_13 rfl (lv_at hl 0 rfl) ?_
    refine lv_iload_n hx hb dX12_reachOf_14 rfl (lv_at hl 1 rfl) ?_
    replace h := kb_ok h
    obtain ⟨r_5, hc_4, h⟩ := h
    refine gCallIr (isC := [0, 1]) (wc := [(q_this, .inr (12, [.ref q_d, .ref q_kept, .int v_images, .ref q_found, .ref q_aside, .int v_base, .int v_at, .int v_size, .int v_fault, .int v_opened, .int v_isSeen, .ref q_names, .ref q_seenKept, .ref q_movedKept, .int v_isKeeping, .int v_bubbleMany, .int v_bubbleMost, .int v_bubbleCell, .int v_bestShown, .ref q_traced, .int v_traceMany, .int v_who, .ref q_bitsOf, .ref q_sizeOf, .ref q_number, .ref q_lifted])), (q_d, .inl (c 0, 244, .inl v_d))]) hP hD hS hA ⟨rfl, rfl, trivial⟩ (va_runV (rm := rm_X12_kindOf) (ws := wsX12_kindOf) (As := [.int a_1]) (rest := []) (gFix hF) (c_X12_kindOf l D c q_this q_d q_kept q_found q_aside q_names q_seenKept q_movedKept q_traced q_bitsOf q_sizeOf q_number q_lifted a_1 v_images v_base v_at v_size v_fault v_opened v_isSeen v_isKeeping v_bubbleMany v_bubbleMost v_bubbleCell v_bestShown v_traceMany v_who v_d r_5 hc_4 H.size) (cwV 1 hts gX12_reachOf_X12_kindOf rfl rfl rfl (by decide +kernel) ⟨Nat.le_of_ble_eq_true rfl, Nat.le_of_ble_eq_true rfl⟩) (gPreV (wc := [(q_this, .inr (12, [.ref q_d, .ref q_kept, .int v_images, .ref q_found, .ref q_aside, .int v_base, .int v_at, .int v_size, .int v_fault, .int v_opened, .int v_isSeen, .ref q_names, .ref q_seenKept, .ref q_movedKept, .int v_isKeeping, .int v_bubbleMany, .int v_bubbleMost, .int v_bubbleCell, .int v_bestShown, .ref q_traced, .int v_traceMany, .int v_who, .ref q_bitsOf, .ref q_sizeOf, .ref q_number, .ref q_lifted])), (q_d, .inl (c 0, 244, .inl v_d))]) (q := (RX12, TX12, 26)) (ci := 12) (q0 := 0) (isC := [0, 1]) hK hX hS hA hP hD ⟨rfl, rfl, trivial⟩ (by decide +kernel) rfl rfl) rfl rfl hl.1 rfl (lv_room (Nat.le_of_ble_eq_true rfl)) dX12_reachOf_15 ⟨Nat.le_of_ble_eq_true rfl, Nat.le_of_ble_eq_true rfl⟩) (fun H locs hP hS => ?_)
    refine lv_bipush (v := 6) hx hb dX12_reachOf_18 (by decide) ?_
    refine lv_icmp_ne (tgt := 35) hx hb dX12_reachOf_20 (by decide) (fun c_6 => ?_) (fun c_6 => ?_)
    · replace h := it_f c_6 h
      refine lv_iconst (v := 1) hx hb dX12_reachOf_35 (by decide) ?_
      replace h := so1 h
      subst h
      exact gIret hF hP hD hS rfl dX12_reachOf_36
    · replace h := it_t c_6 h
      refine lv_iconst (v := 2) hx hb dX12_reachOf_23 (by decide) ?_
      refine lv_aload_n hx hb dX12_reachOf_24 rfl (lv_at hl 0 rfl) ?_
      refine lv_iload_n hx hb dX12_reachOf_25 rfl (lv_at hl 1 rfl) ?_
      replace h := kb_ok h
      obtain ⟨r_8, hc_7, h⟩ := h
      refine gCallIr (isC := [0, 1]) (wc := [(q_this, .inr (12, [.ref q_d, .ref q_kept, .int v_images, .ref q_found, .ref q_aside, .int v_base, .int v_at, .int v_size, .int v_fault, .int v_opened, .int v_isSeen, .ref q_names, .ref q_seenKept, .ref q_movedKept, .int v_isKeeping, .int v_bubbleMany, .int v_bubbleMost, .int v_bubbleCell, .int v_bestShown, .ref q_traced, .int v_traceMany, .int v_who, .ref q_bitsOf, .ref q_sizeOf, .ref q_number, .ref q_lifted])), (q_d, .inl (c 0, 244, .inl v_d))]) hP hD hS hA ⟨rfl, rfl, trivial⟩ (va_runV (rm := rm_X12_numberOf) (ws := wsX12_numberOf) (As := [.int a_1]) (rest := [.int 2]) (gFix hF) (c_X12_numberOf l D c q_this q_d q_kept q_found q_aside q_names q_seenKept q_movedKept q_traced q_bitsOf q_sizeOf q_number q_lifted a_1 v_images v_base v_at v_size v_fault v_opened v_isSeen v_isKeeping v_bubbleMany v_bubbleMost v_bubbleCell v_bestShown v_traceMany v_who v_d r_8 hc_7 H.size) (cwV 1 hts gX12_reachOf_X12_numberOf rfl rfl rfl (by decide +kernel) ⟨Nat.le_of_ble_eq_true rfl, Nat.le_of_ble_eq_true rfl⟩) (gPreV (wc := [(q_this, .inr (12, [.ref q_d, .ref q_kept, .int v_images, .ref q_found, .ref q_aside, .int v_base, .int v_at, .int v_size, .int v_fault, .int v_opened, .int v_isSeen, .ref q_names, .ref q_seenKept, .ref q_movedKept, .int v_isKeeping, .int v_bubbleMany, .int v_bubbleMost, .int v_bubbleCell, .int v_bestShown, .ref q_traced, .int v_traceMany, .int v_who, .ref q_bitsOf, .ref q_sizeOf, .ref q_number, .ref q_lifted])), (q_d, .inl (c 0, 244, .inl v_d))]) (q := (RX12, TX12, 26)) (ci := 12) (q0 := 0) (isC := [0, 1]) hK hX hS hA hP hD ⟨rfl, rfl, trivial⟩ (by decide +kernel) rfl rfl) rfl rfl hl.1 rfl (lv_room (Nat.le_of_ble_eq_true rfl)) dX12_reachOf_26 ⟨Nat.le_of_ble_eq_true rfl, Nat.le_of_ble_eq_true rfl⟩) (fun H locs hP hS => ?_)
      refine lv_iconst (v := 3) hx hb dX12_reachOf_29 (by decide) ?_
      replace h := chz_ok h
      obtain ⟨hz_9, h⟩ := h
      refine lv_irem hx hb dX12_reachOf_30 hz_9 ?_
      refine lv_iadd hx hb dX12_reachOf_31 ?_
      replace h := nm_ok h
      obtain ⟨t_10, et_10, h⟩ := h
      refine gTop et_10 ?_
      refine lv_goto (tgt := 36) hx hb dX12_reachOf_32 (by decide) ?_
      replace h := so1 h
      subst h
      exact gIret hF hP hD hS rfl dX12_reachOf_36
  · replace h := it_t c_3 h
    refine lv_iconst (v := 2) hx hb dX12_reachOf_9 (by decide) ?_
    refine lv_goto (tgt := 36) hx hb dX12_reachOf_10 (by decide) ?_
    replace h := so1 h
    subst h
    exact gIret hF hP hD hS rfl dX12_reachOf_36
abbrev rm_X12_tearsOf : Room := { frames := 1, cells := 0, slots := 0, locals := 21 }
set_option maxHeartbeats 4000000 in
set_option maxRecDepth 100000 in
theorem c_X12_tearsOf (l : Launch) (D : va_G) (c : Nat → ClassId) (q_this q_d q_kept q_found q_aside q_names q_seenKept q_movedKept q_traced q_bitsOf q_sizeOf q_number q_lifted : Nat) (a_1 : Int32) (a_2 : Int32) (v_images : Int32) (v_base : Int32) (v_at : Int32) (v_size : Int32) (v_fault : Int32) (v_opened : Int32) (v_isSeen : Int32) (v_isKeeping : Int32) (v_bubbleMany : Int32) (v_bubbleMost : Int32) (v_bubbleCell : Int32) (v_bestShown : Int32) (v_traceMany : Int32) (v_who : Int32) (v_d : Nat → Int32) (o_r : Int32) (h : f_X12_tearsOf a_1 a_2 v_d = some o_r) : gMI l yX12_tearsOf wsX12_tearsOf rm_X12_tearsOf D c [.ref q_this, .int a_1, .int a_2] [(q_this, .inr (12, [.ref q_d, .ref q_kept, .int v_images, .ref q_found, .ref q_aside, .int v_base, .int v_at, .int v_size, .int v_fault, .int v_opened, .int v_isSeen, .ref q_names, .ref q_seenKept, .ref q_movedKept, .int v_isKeeping, .int v_bubbleMany, .int v_bubbleMost, .int v_bubbleCell, .int v_bestShown, .ref q_traced, .int v_traceMany, .int v_who, .ref q_bitsOf, .ref q_sizeOf, .ref q_number, .ref q_lifted])), (q_d, .inl (c 0, 244, .inl v_d))] [(q_this, .inr (12, [.ref q_d, .ref q_kept, .int v_images, .ref q_found, .ref q_aside, .int v_base, .int v_at, .int v_size, .int v_fault, .int v_opened, .int v_isSeen, .ref q_names, .ref q_seenKept, .ref q_movedKept, .int v_isKeeping, .int v_bubbleMany, .int v_bubbleMost, .int v_bubbleCell, .int v_bestShown, .ref q_traced, .int v_traceMany, .int v_who, .ref q_bitsOf, .ref q_sizeOf, .ref q_number, .ref q_lifted])), (q_d, .inl (c 0, 244, .inl v_d))] o_r := by
  refine gMI_of (cc := cX12_tearsOf) (maxL := 4) (rt := (some .int)) (by decide +kernel) rfl (Nat.le_of_ble_eq_true rfl) ?_
  intro p e s m below meth co A hF hK hX hP hD hA hS ls hl
  obtain ⟨hx, hb, hr, hts, hown, hlocks, hml⟩ := id hF
  have hl : lv_has ls 4 [(0, .ref q_this), (1, .int a_1), (2, .int a_2)] := hl
  have t_L10 : ∀ (y0 : Int32) (H : Heap) (locs : List Loc), va_P D gcl [(q_this, .inr (12, [.ref q_d, .ref q_kept, .int v_images, .ref q_found, .ref q_aside, .int v_base, .int v_at, .int v_size, .int v_fault, .int v_opened, .int v_isSeen, .ref q_names, .ref q_seenKept, .ref q_movedKept, .int v_isKeeping, .int v_bubbleMany, .int v_bubbleMost, .int v_bubbleCell, .int v_bestShown, .ref q_traced, .int v_traceMany, .int v_who, .ref q_bitsOf, .ref q_sizeOf, .ref q_number, .ref q_lifted])), (q_d, .inl (c 0, 244, .inl v_d))] H → va_D A [(q_this, .inr (12, [.ref q_d, .ref q_kept, .int v_images, .ref q_found, .ref q_aside, .int v_base, .int v_at, .int v_size, .int v_fault, .int v_opened, .int v_isSeen, .ref q_names, .ref q_seenKept, .ref q_movedKept, .int v_isKeeping, .int v_bubbleMany, .int v_bubbleMost, .int v_bubbleCell, .int v_bestShown, .ref q_traced, .int v_traceMany, .int v_who, .ref q_bitsOf, .ref q_sizeOf, .ref q_number, .ref q_lifted])), (q_d, .inl (c 0, 244, .inl v_d))] → va_S A s.heap H locs → ∀ ls, lv_has ls 4 [(0, .ref q_this), (1, .int a_1), (2, .int a_2)] → f_X12_tearsOf_L10 a_1 a_2 v_d y0 = some o_r → W p l e (headSpec wsX12_tearsOf rm_X12_tearsOf).room s m [.ref q_this, .int a_1, .int a_2].toArray below meth co H locs 0 0 (gQI D [(q_this, .inr (12, [.ref q_d, .ref q_kept, .int v_images, .ref q_found, .ref q_aside, .int v_base, .int v_at, .int v_size, .int v_fault, .int v_opened, .int v_isSeen, .ref q_names, .ref q_seenKept, .ref q_movedKept, .int v_isKeeping, .int v_bubbleMany, .int v_bubbleMost, .int v_bubbleCell, .int v_bestShown, .ref q_traced, .int v_traceMany, .int v_who, .ref q_bitsOf, .ref q_sizeOf, .ref q_number, .ref q_lifted])), (q_d, .inl (c 0, 244, .inl v_d))] o_r A below [.ref q_this, .int a_1, .int a_2] s) (F0 m 10 ls [.int y0]) := by
    intro  y0 H locs hP hD hS ls hl h
    unfold f_X12_tearsOf_L10 at h
    refine lv_istore_n (lv' := [(3, .int y0), (0, .ref q_this), (1, .int a_1), (2, .int a_2)]) hx hb dX12_tearsOf_10 rfl hl (by decide) rfl (fun ls hl => ?_)
    refine lv_aload_n hx hb dX12_tearsOf_11 rfl (lv_at hl 1 rfl) ?_
    refine lv_iload_n hx hb dX12_tearsOf_12 rfl (lv_at hl 2 rfl) ?_
    replace h := kb_ok h
    obtain ⟨r_3, hc_2, h⟩ := h
    refine gCallIr (isC := [0, 1]) (wc := [(q_this, .inr (12, [.ref q_d, .ref q_kept, .int v_images, .ref q_found, .ref q_aside, .int v_base, .int v_at, .int v_size, .int v_fault, .int v_opened, .int v_isSeen, .ref q_names, .ref q_seenKept, .ref q_movedKept, .int v_isKeeping, .int v_bubbleMany, .int v_bubbleMost, .int v_bubbleCell, .int v_bestShown, .ref q_traced, .int v_traceMany, .int v_who, .ref q_bitsOf, .ref q_sizeOf, .ref q_number, .ref q_lifted])), (q_d, .inl (c 0, 244, .inl v_d))]) hP hD hS hA ⟨rfl, rfl, trivial⟩ (va_runV (rm := rm_X12_kindOf) (ws := wsX12_kindOf) (As := [.int a_1]) (rest := []) (gFix hF) (c_X12_kindOf l D c q_this q_d q_kept q_found q_aside q_names q_seenKept q_movedKept q_traced q_bitsOf q_sizeOf q_number q_lifted a_1 v_images v_base v_at v_size v_fault v_opened v_isSeen v_isKeeping v_bubbleMany v_bubbleMost v_bubbleCell v_bestShown v_traceMany v_who v_d r_3 hc_2 H.size) (cwV 1 hts gX12_tearsOf_X12_kindOf rfl rfl rfl (by decide +kernel) ⟨Nat.le_of_ble_eq_true rfl, Nat.le_of_ble_eq_true rfl⟩) (gPreV (wc := [(q_this, .inr (12, [.ref q_d, .ref q_kept, .int v_images, .ref q_found, .ref q_aside, .int v_base, .int v_at, .int v_size, .int v_fault, .int v_opened, .int v_isSeen, .ref q_names, .ref q_seenKept, .ref q_movedKept, .int v_isKeeping, .int v_bubbleMany, .int v_bubbleMost, .int v_bubbleCell, .int v_bestShown, .ref q_traced, .int v_traceMany, .int v_who, .ref q_bitsOf, .ref q_sizeOf, .ref q_number, .ref q_lifted])), (q_d, .inl (c 0, 244, .inl v_d))]) (q := (RX12, TX12, 26)) (ci := 12) (q0 := 0) (isC := [0, 1]) hK hX hS hA hP hD ⟨rfl, rfl, trivial⟩ (by decide +kernel) rfl rfl) rfl rfl hl.1 rfl (lv_room (Nat.le_of_ble_eq_true rfl)) dX12_tearsOf_13 ⟨Nat.le_of_ble_eq_true rfl, Nat.le_of_ble_eq_true rfl⟩) (fun H locs hP hS => ?_)
    by_cases c_4 : r_3 = 2
    · replace h := it_t c_4 h
      refine lv_tableIn (x := r_3) (off := 36) (tgt := 52) hx hb dX12_tearsOf_16 (by rw [c_4]; decide) (by rw [c_4]; decide) (by rw [c_4]; rfl) (by decide) ?_
      refine lv_iload_n hx hb dX12_tearsOf_52 rfl (lv_at hl 0 rfl) ?_
      replace h := so1 h
      subst h
      exact gIret hF hP hD hS rfl dX12_tearsOf_53
    · replace h := it_f c_4 h
      by_cases c_5 : r_3 = 3
      · replace h := it_t c_5 h
        refine lv_tableIn (x := r_3) (off := 54) (tgt := 70) hx hb dX12_tearsOf_16 (by rw [c_5]; decide) (by rw [c_5]; decide) (by rw [c_5]; rfl) (by decide) ?_
        refine lv_iconst (v := 0) hx hb dX12_tearsOf_70 (by decide) ?_
        replace h := so1 h
        subst h
        exact gIret hF hP hD hS rfl dX12_tearsOf_71
      · replace h := it_f c_5 h
        by_cases c_6 : r_3 = 4
        · replace h := it_t c_6 h
          refine lv_tableIn (x := r_3) (off := 54) (tgt := 70) hx hb dX12_tearsOf_16 (by rw [c_6]; decide) (by rw [c_6]; decide) (by rw [c_6]; rfl) (by decide) ?_
          refine lv_iconst (v := 0) hx hb dX12_tearsOf_70 (by decide) ?_
          replace h := so1 h
          subst h
          exact gIret hF hP hD hS rfl dX12_tearsOf_71
        · replace h := it_f c_6 h
          by_cases c_7 : r_3 = 5
          · replace h := it_t c_7 h
            refine lv_tableIn (x := r_3) (off := 38) (tgt := 54) hx hb dX12_tearsOf_16 (by rw [c_7]; decide) (by rw [c_7]; decide) (by rw [c_7]; rfl) (by decide) ?_
            refine lv_iconst (v := 1) hx hb dX12_tearsOf_54 (by decide) ?_
            refine lv_iload_n hx hb dX12_tearsOf_55 rfl (lv_at hl 0 rfl) ?_
            refine lv_iadd hx hb dX12_tearsOf_56 ?_
            replace h := so1 h
            subst h
            exact gIret hF hP hD hS rfl dX12_tearsOf_57
          · replace h := it_f c_7 h
            by_cases c_8 : r_3 = 6
            · replace h := it_t c_8 h
              refine lv_tableIn (x := r_3) (off := 42) (tgt := 58) hx hb dX12_tearsOf_16 (by rw [c_8]; decide) (by rw [c_8]; decide) (by rw [c_8]; rfl) (by decide) ?_
              refine lv_iload_n hx hb dX12_tearsOf_58 rfl (lv_at hl 3 rfl) ?_
              refine lv_bipush (v := 7) hx hb dX12_tearsOf_59 (by decide) ?_
              refine lv_icmp_le (tgt := 68) hx hb dX12_tearsOf_61 (by decide) (fun c_9 => ?_) (fun c_9 => ?_)
              · replace h := it_t c_9 h
                refine lv_iconst (v := 0) hx hb dX12_tearsOf_68 (by decide) ?_
                replace h := so1 h
                subst h
                exact gIret hF hP hD hS rfl dX12_tearsOf_69
              · replace h := it_f c_9 h
                refine lv_iconst (v := 1) hx hb dX12_tearsOf_64 (by decide) ?_
                refine lv_goto (tgt := 69) hx hb dX12_tearsOf_65 (by decide) ?_
                replace h := so1 h
                subst h
                exact gIret hF hP hD hS rfl dX12_tearsOf_69
            · replace h := it_f c_8 h
              refine lv_tableOut (x := r_3) (tgt := 70) hx hb dX12_tearsOf_16 (by have q0 := gNe (z := 2) (by decide) c_4; have q1 := gNe (z := 3) (by decide) c_5; have q2 := gNe (z := 4) (by decide) c_6; have q3 := gNe (z := 5) (by decide) c_7; have q4 := gNe (z := 6) (by decide) c_8; omega) (by decide) ?_
              refine lv_iconst (v := 0) hx hb dX12_tearsOf_70 (by decide) ?_
              replace h := so1 h
              subst h
              exact gIret hF hP hD hS rfl dX12_tearsOf_71
  unfold f_X12_tearsOf at h
  refine lv_iload_n hx hb dX12_tearsOf_0 rfl (lv_at hl 2 rfl) ?_
  refine lv_iconst (v := 3) hx hb dX12_tearsOf_1 (by decide) ?_
  refine lv_icmp_ge (tgt := 9) hx hb dX12_tearsOf_2 (by decide) (fun c_1 => ?_) (fun c_1 => ?_)
  · replace h := it_t c_1 h
    refine lv_iconst (v := 0) hx hb dX12_tearsOf_9 (by decide) ?_
    exact t_L10 0 s.heap [] hP hD hS ls (lv_sub hl [0, 1, 2] rfl) h
  · replace h := it_f c_1 h
    refine lv_iconst (v := 1) hx hb dX12_tearsOf_5 (by decide) ?_
    refine lv_goto (tgt := 10) hx hb dX12_tearsOf_6 (by decide) ?_
    exact t_L10 1 s.heap [] hP hD hS ls (lv_sub hl [0, 1, 2] rfl) h
set_option maxRecDepth 20000 in
theorem in_X12_strokes_X12 : ∀ w ∈ u_ws RX12 TX12 26, w ∈ wsX12_strokes := by decide +kernel
abbrev rm_X12_strokes : Room := { frames := 58, cells := 0, slots := 0, locals := 1332 }
set_option maxHeartbeats 4000000 in
set_option maxRecDepth 100000 in
theorem c_X12_strokes (l : Launch) (D : va_G) (c : Nat → ClassId) (q_this q_d q_kept q_found q_aside q_names q_seenKept q_movedKept q_traced q_bitsOf q_sizeOf q_number q_lifted : Nat) (a_1 : Int32) (a_2 : Int32) (a_3 : Int32) (v_images : Int32) (v_base : Int32) (v_at : Int32) (v_size : Int32) (v_fault : Int32) (v_opened : Int32) (v_isSeen : Int32) (v_isKeeping : Int32) (v_bubbleMany : Int32) (v_bubbleMost : Int32) (v_bubbleCell : Int32) (v_bestShown : Int32) (v_traceMany : Int32) (v_who : Int32) (v_d : Nat → Int32) (v_movedKept : Nat → Int32) (v_names : Nat → Int32) (o_v_base : Int32) (o_v_at : Int32) (o_v_size : Int32) (o_v_fault : Int32) (o_v_opened : Int32) (o_v_isSeen : Int32) (o_v_d : Nat → Int32) (o_v_movedKept : Nat → Int32) (o_v_names : Nat → Int32) (h : f_X12_strokes a_1 a_2 a_3 v_base v_at v_size v_fault v_opened v_isSeen v_isKeeping v_d v_movedKept v_names = some (o_v_base, o_v_at, o_v_size, o_v_fault, o_v_opened, o_v_isSeen, o_v_d, o_v_movedKept, o_v_names)) : gMV l yX12_strokes wsX12_strokes rm_X12_strokes D c [.ref q_this, .int a_1, .int a_2, .int a_3] [(q_this, .inr (12, [.ref q_d, .ref q_kept, .int v_images, .ref q_found, .ref q_aside, .int v_base, .int v_at, .int v_size, .int v_fault, .int v_opened, .int v_isSeen, .ref q_names, .ref q_seenKept, .ref q_movedKept, .int v_isKeeping, .int v_bubbleMany, .int v_bubbleMost, .int v_bubbleCell, .int v_bestShown, .ref q_traced, .int v_traceMany, .int v_who, .ref q_bitsOf, .ref q_sizeOf, .ref q_number, .ref q_lifted])), (q_d, .inl (c 0, 244, .inl v_d)), (q_movedKept, .inl (c 0, 1000, .inl v_movedKept)), (q_names, .inl (c 0, 3, .inl v_names))] [(q_this, .inr (12, [.ref q_d, .ref q_kept, .int v_images, .ref q_found, .ref q_aside, .int o_v_base, .int o_v_at, .int o_v_size, .int o_v_fault, .int o_v_opened, .int o_v_isSeen, .ref q_names, .ref q_seenKept, .ref q_movedKept, .int v_isKeeping, .int v_bubbleMany, .int v_bubbleMost, .int v_bubbleCell, .int v_bestShown, .ref q_traced, .int v_traceMany, .int v_who, .ref q_bitsOf, .ref q_sizeOf, .ref q_number, .ref q_lifted])), (q_d, .inl (c 0, 244, .inl o_v_d)), (q_movedKept, .inl (c 0, 1000, .inl o_v_movedKept)), (q_names, .inl (c 0, 3, .inl o_v_names))] := by
  refine gMV_of (cc := cX12_strokes) (maxL := 10) (rt := none) (by decide +kernel) rfl (Nat.le_of_ble_eq_true rfl) ?_
  intro p e s m below meth co A hF hK hX hP hD hA hS ls hl
  obtain ⟨hx, hb, hr, hts, hown, hlocks, hml⟩ := id hF
  have hl : lv_has ls 10 [(0, .ref q_this), (1, .int a_1), (2, .int a_2), (3, .int a_3)] := hl
  have t_L96 : ∀ (n : Nat), ∀ (x6 : Int32) (x7 : Int32) (v_base : Int32) (v_at : Int32) (v_size : Int32) (v_fault : Int32) (v_opened : Int32) (v_isSeen : Int32) (v_d : Nat → Int32) (v_movedKept : Nat → Int32) (v_names : Nat → Int32) (H : Heap) (locs : List Loc), va_P D gcl [(q_this, .inr (12, [.ref q_d, .ref q_kept, .int v_images, .ref q_found, .ref q_aside, .int v_base, .int v_at, .int v_size, .int v_fault, .int v_opened, .int v_isSeen, .ref q_names, .ref q_seenKept, .ref q_movedKept, .int v_isKeeping, .int v_bubbleMany, .int v_bubbleMost, .int v_bubbleCell, .int v_bestShown, .ref q_traced, .int v_traceMany, .int v_who, .ref q_bitsOf, .ref q_sizeOf, .ref q_number, .ref q_lifted])), (q_d, .inl (c 0, 244, .inl v_d)), (q_movedKept, .inl (c 0, 1000, .inl v_movedKept)), (q_names, .inl (c 0, 3, .inl v_names))] H → va_D A [(q_this, .inr (12, [.ref q_d, .ref q_kept, .int v_images, .ref q_found, .ref q_aside, .int v_base, .int v_at, .int v_size, .int v_fault, .int v_opened, .int v_isSeen, .ref q_names, .ref q_seenKept, .ref q_movedKept, .int v_isKeeping, .int v_bubbleMany, .int v_bubbleMost, .int v_bubbleCell, .int v_bestShown, .ref q_traced, .int v_traceMany, .int v_who, .ref q_bitsOf, .ref q_sizeOf, .ref q_number, .ref q_lifted])), (q_d, .inl (c 0, 244, .inl v_d)), (q_movedKept, .inl (c 0, 1000, .inl v_movedKept)), (q_names, .inl (c 0, 3, .inl v_names))] → va_S A s.heap H locs → ∀ ls, lv_has ls 10 [(0, .ref q_this), (1, .int a_1), (3, .int a_3), (6, .int x6), (7, .int x7)] → f_X12_strokes_L96 a_1 a_3 v_isKeeping n x6 x7 v_base v_at v_size v_fault v_opened v_isSeen v_d v_movedKept v_names = some (o_v_base, o_v_at, o_v_size, o_v_fault, o_v_opened, o_v_isSeen, o_v_d, o_v_movedKept, o_v_names) → W p l e (headSpec wsX12_strokes rm_X12_strokes).room s m [.ref q_this, .int a_1, .int a_2, .int a_3].toArray below meth co H locs 0 0 (gQV D [(q_this, .inr (12, [.ref q_d, .ref q_kept, .int v_images, .ref q_found, .ref q_aside, .int o_v_base, .int o_v_at, .int o_v_size, .int o_v_fault, .int o_v_opened, .int o_v_isSeen, .ref q_names, .ref q_seenKept, .ref q_movedKept, .int v_isKeeping, .int v_bubbleMany, .int v_bubbleMost, .int v_bubbleCell, .int v_bestShown, .ref q_traced, .int v_traceMany, .int v_who, .ref q_bitsOf, .ref q_sizeOf, .ref q_number, .ref q_lifted])), (q_d, .inl (c 0, 244, .inl o_v_d)), (q_movedKept, .inl (c 0, 1000, .inl o_v_movedKept)), (q_names, .inl (c 0, 3, .inl o_v_names))] A below [.ref q_this, .int a_1, .int a_2, .int a_3] s) (F0 m 96 ls []) := by
    intro n
    induction n with
    | zero => intro x6 x7 v_base v_at v_size v_fault v_opened v_isSeen v_d v_movedKept v_names H locs hP hD hS ls hl h; exact no_ok h
    | succ n ih =>
      intro x6 x7 v_base v_at v_size v_fault v_opened v_isSeen v_d v_movedKept v_names H locs hP hD hS ls hl h
      rw [f_X12_strokes_L96] at h
      refine lv_iload hx hb dX12_strokes_96 (lv_at hl 4 rfl) ?_
      refine lv_if_le (tgt := 261) hx hb dX12_strokes_98 (by decide) (fun c_30 => ?_) (fun c_30 => ?_)
      · replace h := it_t c_30 h
        replace h := so9 h
        obtain ⟨z0, z1, z2, z3, z4, z5, z6, z7, z8⟩ := h
        subst z0 z1 z2 z3 z4 z5 z6 z7 z8
        exact gVret hF hP hD hS dX12_strokes_261
      · replace h := it_f c_30 h
        refine lv_aload_n hx hb dX12_strokes_101 rfl (lv_at hl 0 rfl) ?_
        refine lv_iload_n hx hb dX12_strokes_102 rfl (lv_at hl 1 rfl) ?_
        refine lv_aload_n hx hb dX12_strokes_103 rfl (lv_at hl 0 rfl) ?_
        refine va_get (D := D) (ci := 12) (v := .ref q_d) (C := RX12) (T := TX12) (N := 26) hx hb hts in_X12_strokes_X12 hown hK.1 hP 0 rfl rfl 0 (by decide) (hts (.fieldLink RX12 7 "PaperBubblesModel" "d" "[I") (List.mem_of_getElem? (i := 1) rfl)) (fun _ h9 => h9) rfl dX12_strokes_104 ?_
        refine lv_bipush (v := 10) hx hb dX12_strokes_107 (by decide) ?_
        refine lv_iload hx hb dX12_strokes_109 (lv_at hl 3 rfl) ?_
        refine lv_iadd hx hb dX12_strokes_111 ?_
        replace h := nm_ok h
        obtain ⟨t_31, et_31, h⟩ := h
        refine gTop et_31 ?_
        replace h := chi_ok h
        obtain ⟨hi_32, h⟩ := h
        refine va_iald hx hb hK.1 hP 1 0 rfl rfl hi_32 dX12_strokes_112 ?_
        replace h := nm_ok h
        obtain ⟨t_33, et_33, h⟩ := h
        refine gTop et_33 ?_
        refine lv_aload_n hx hb dX12_strokes_113 rfl (lv_at hl 0 rfl) ?_
        refine va_get (D := D) (ci := 12) (v := .ref q_d) (C := RX12) (T := TX12) (N := 26) hx hb hts in_X12_strokes_X12 hown hK.1 hP 0 rfl rfl 0 (by decide) (hts (.fieldLink RX12 7 "PaperBubblesModel" "d" "[I") (List.mem_of_getElem? (i := 1) rfl)) (fun _ h9 => h9) rfl dX12_strokes_114 ?_
        refine lv_bipush (v := 35) hx hb dX12_strokes_117 (by decide) ?_
        refine lv_iload hx hb dX12_strokes_119 (lv_at hl 3 rfl) ?_
        refine lv_iadd hx hb dX12_strokes_121 ?_
        replace h := nm_ok h
        obtain ⟨t_34, et_34, h⟩ := h
        refine gTop et_34 ?_
        replace h := chi_ok h
        obtain ⟨hi_35, h⟩ := h
        refine va_iald hx hb hK.1 hP 1 0 rfl rfl hi_35 dX12_strokes_122 ?_
        replace h := nm_ok h
        obtain ⟨t_36, et_36, h⟩ := h
        refine gTop et_36 ?_
        replace h := kb9_ok h
        obtain ⟨r_38, w_39, w_40, w_41, w_42, w_43, w_44, w_45, w_46, hc_37, h⟩ := h
        refine gCallI (isC := [0, 1, 2, 3]) (wc := [(q_this, .inr (12, [.ref q_d, .ref q_kept, .int v_images, .ref q_found, .ref q_aside, .int v_base, .int v_at, .int v_size, .int v_fault, .int v_opened, .int v_isSeen, .ref q_names, .ref q_seenKept, .ref q_movedKept, .int v_isKeeping, .int v_bubbleMany, .int v_bubbleMost, .int v_bubbleCell, .int v_bestShown, .ref q_traced, .int v_traceMany, .int v_who, .ref q_bitsOf, .ref q_sizeOf, .ref q_number, .ref q_lifted])), (q_d, .inl (c 0, 244, .inl v_d)), (q_movedKept, .inl (c 0, 1000, .inl v_movedKept)), (q_names, .inl (c 0, 3, .inl v_names))]) (w1 := [(q_this, .inr (12, [.ref q_d, .ref q_kept, .int v_images, .ref q_found, .ref q_aside, .int w_39, .int w_40, .int w_41, .int w_42, .int w_43, .int w_44, .ref q_names, .ref q_seenKept, .ref q_movedKept, .int v_isKeeping, .int v_bubbleMany, .int v_bubbleMost, .int v_bubbleCell, .int v_bestShown, .ref q_traced, .int v_traceMany, .int v_who, .ref q_bitsOf, .ref q_sizeOf, .ref q_number, .ref q_lifted])), (q_d, .inl (c 0, 244, .inl v_d)), (q_movedKept, .inl (c 0, 1000, .inl w_45)), (q_names, .inl (c 0, 3, .inl w_46))]) (ws2 := [(q_this, .inr (12, [.ref q_d, .ref q_kept, .int v_images, .ref q_found, .ref q_aside, .int w_39, .int w_40, .int w_41, .int w_42, .int w_43, .int w_44, .ref q_names, .ref q_seenKept, .ref q_movedKept, .int v_isKeeping, .int v_bubbleMany, .int v_bubbleMost, .int v_bubbleCell, .int v_bestShown, .ref q_traced, .int v_traceMany, .int v_who, .ref q_bitsOf, .ref q_sizeOf, .ref q_number, .ref q_lifted])), (q_d, .inl (c 0, 244, .inl v_d)), (q_movedKept, .inl (c 0, 1000, .inl w_45)), (q_names, .inl (c 0, 3, .inl w_46))]) (ms := [(some 0), (some 1), (some 2), (some 3)]) hP hD hS hA ⟨rfl, rfl, rfl, rfl, trivial⟩ (by decide +kernel) ⟨rfl, rfl, rfl, rfl, trivial⟩ (va_runV (rm := rm_X12_movesOf) (ws := wsX12_movesOf) (As := [.int a_1, .int t_33, .int t_36]) (rest := []) (gFix hF) (c_X12_movesOf l D c q_this q_d q_kept q_found q_aside q_names q_seenKept q_movedKept q_traced q_bitsOf q_sizeOf q_number q_lifted a_1 t_33 t_36 v_images v_base v_at v_size v_fault v_opened v_isSeen v_isKeeping v_bubbleMany v_bubbleMost v_bubbleCell v_bestShown v_traceMany v_who v_d v_movedKept v_names r_38 w_39 w_40 w_41 w_42 w_43 w_44 w_45 w_46 hc_37 H.size) (cwV 3 hts gX12_strokes_X12_movesOf rfl rfl rfl (by decide +kernel) ⟨Nat.le_of_ble_eq_true rfl, Nat.le_of_ble_eq_true rfl⟩) (gPreV (wc := [(q_this, .inr (12, [.ref q_d, .ref q_kept, .int v_images, .ref q_found, .ref q_aside, .int v_base, .int v_at, .int v_size, .int v_fault, .int v_opened, .int v_isSeen, .ref q_names, .ref q_seenKept, .ref q_movedKept, .int v_isKeeping, .int v_bubbleMany, .int v_bubbleMost, .int v_bubbleCell, .int v_bestShown, .ref q_traced, .int v_traceMany, .int v_who, .ref q_bitsOf, .ref q_sizeOf, .ref q_number, .ref q_lifted])), (q_d, .inl (c 0, 244, .inl v_d)), (q_movedKept, .inl (c 0, 1000, .inl v_movedKept)), (q_names, .inl (c 0, 3, .inl v_names))]) (q := (RX12, TX12, 26)) (ci := 12) (q0 := 0) (isC := [0, 1, 2, 3]) hK hX hS hA hP hD ⟨rfl, rfl, rfl, rfl, trivial⟩ (by decide +kernel) rfl rfl) rfl rfl hl.1 rfl (lv_room (Nat.le_of_ble_eq_true rfl)) dX12_strokes_123 ⟨Nat.le_of_ble_eq_true rfl, Nat.le_of_ble_eq_true rfl⟩) (fun H locs hP hD hS => ?_)
        refine lv_istore (lv' := [(8, .int r_38), (0, .ref q_this), (1, .int a_1), (3, .int a_3), (6, .int x6), (7, .int x7)]) hx hb dX12_strokes_126 hl (by decide) rfl (fun ls hl => ?_)
        refine lv_aload_n hx hb dX12_strokes_128 rfl (lv_at hl 1 rfl) ?_
        refine lv_iload hx hb dX12_strokes_129 (lv_at hl 4 rfl) ?_
        refine lv_iload_n hx hb dX12_strokes_131 rfl (lv_at hl 3 rfl) ?_
        replace h := kb_ok h
        obtain ⟨r_48, hc_47, h⟩ := h
        refine gCallIr (isC := [0, 1]) (wc := [(q_this, .inr (12, [.ref q_d, .ref q_kept, .int v_images, .ref q_found, .ref q_aside, .int w_39, .int w_40, .int w_41, .int w_42, .int w_43, .int w_44, .ref q_names, .ref q_seenKept, .ref q_movedKept, .int v_isKeeping, .int v_bubbleMany, .int v_bubbleMost, .int v_bubbleCell, .int v_bestShown, .ref q_traced, .int v_traceMany, .int v_who, .ref q_bitsOf, .ref q_sizeOf, .ref q_number, .ref q_lifted])), (q_d, .inl (c 0, 244, .inl v_d))]) hP hD hS hA ⟨rfl, rfl, trivial⟩ (va_runV (rm := rm_X12_nextTo) (ws := wsX12_nextTo) (As := [.int x6, .int a_3]) (rest := []) (gFix hF) (c_X12_nextTo l D c q_this q_d q_kept q_found q_aside q_names q_seenKept q_movedKept q_traced q_bitsOf q_sizeOf q_number q_lifted x6 a_3 v_images w_39 w_40 w_41 w_42 w_43 w_44 v_isKeeping v_bubbleMany v_bubbleMost v_bubbleCell v_bestShown v_traceMany v_who v_d r_48 hc_47 H.size) (cwV 2 hts gX12_strokes_X12_nextTo rfl rfl rfl (by decide +kernel) ⟨Nat.le_of_ble_eq_true rfl, Nat.le_of_ble_eq_true rfl⟩) (gPreV (wc := [(q_this, .inr (12, [.ref q_d, .ref q_kept, .int v_images, .ref q_found, .ref q_aside, .int w_39, .int w_40, .int w_41, .int w_42, .int w_43, .int w_44, .ref q_names, .ref q_seenKept, .ref q_movedKept, .int v_isKeeping, .int v_bubbleMany, .int v_bubbleMost, .int v_bubbleCell, .int v_bestShown, .ref q_traced, .int v_traceMany, .int v_who, .ref q_bitsOf, .ref q_sizeOf, .ref q_number, .ref q_lifted])), (q_d, .inl (c 0, 244, .inl v_d))]) (q := (RX12, TX12, 26)) (ci := 12) (q0 := 0) (isC := [0, 1]) hK hX hS hA hP hD ⟨rfl, rfl, trivial⟩ (by decide +kernel) rfl rfl) rfl rfl hl.1 rfl (lv_room (Nat.le_of_ble_eq_true rfl)) dX12_strokes_132 ⟨Nat.le_of_ble_eq_true rfl, Nat.le_of_ble_eq_true rfl⟩) (fun H locs hP hS => ?_)
        refine lv_istore (lv' := [(9, .int r_48), (8, .int r_38), (0, .ref q_this), (1, .int a_1), (3, .int a_3), (6, .int x6), (7, .int x7)]) hx hb dX12_strokes_135 hl (by decide) rfl (fun ls hl => ?_)
        refine lv_iload hx hb dX12_strokes_137 (lv_at hl 0 rfl) ?_
        refine lv_if_ge (tgt := 177) hx hb dX12_strokes_139 (by decide) (fun c_49 => ?_) (fun c_49 => ?_)
        · replace h := it_t c_49 h
          refine lv_aload_n hx hb dX12_strokes_177 rfl (lv_at hl 2 rfl) ?_
          refine va_get (D := D) (ci := 12) (v := .ref q_d) (C := RX12) (T := TX12) (N := 26) hx hb hts in_X12_strokes_X12 hown hK.1 hP 0 rfl rfl 0 (by decide) (hts (.fieldLink RX12 7 "PaperBubblesModel" "d" "[I") (List.mem_of_getElem? (i := 1) rfl)) (fun _ h9 => h9) rfl dX12_strokes_178 ?_
          refine lv_bipush (v := 10) hx hb dX12_strokes_181 (by decide) ?_
          refine lv_iload hx hb dX12_strokes_183 (lv_at hl 5 rfl) ?_
          refine lv_iadd hx hb dX12_strokes_185 ?_
          replace h := nm_ok h
          obtain ⟨t_50, et_50, h⟩ := h
          refine gTop et_50 ?_
          refine lv_dup2_11 hx hb dX12_strokes_186 rfl rfl ?_
          replace h := chi_ok h
          obtain ⟨hi_51, h⟩ := h
          refine va_iald hx hb hK.1 hP 1 0 rfl rfl hi_51 dX12_strokes_187 ?_
          replace h := nm_ok h
          obtain ⟨t_52, et_52, h⟩ := h
          refine gTop et_52 ?_
          refine lv_iload hx hb dX12_strokes_188 (lv_at hl 1 rfl) ?_
          refine lv_isub hx hb dX12_strokes_190 ?_
          replace h := nm_ok h
          obtain ⟨t_53, et_53, h⟩ := h
          refine gTop et_53 ?_
          replace h := chi_ok h
          obtain ⟨hi_54, h⟩ := h
          replace h := nm_ok h
          obtain ⟨w_55, ew_55, h⟩ := h
          refine va_iast hx hb hK.1 hP hD hS 1 0 rfl rfl hi_54 dX12_strokes_191 (fun H locs hP hD hS => ?_)
          have hP : va_P D gcl [(q_this, .inr (12, [.ref q_d, .ref q_kept, .int v_images, .ref q_found, .ref q_aside, .int w_39, .int w_40, .int w_41, .int w_42, .int w_43, .int w_44, .ref q_names, .ref q_seenKept, .ref q_movedKept, .int v_isKeeping, .int v_bubbleMany, .int v_bubbleMost, .int v_bubbleCell, .int v_bestShown, .ref q_traced, .int v_traceMany, .int v_who, .ref q_bitsOf, .ref q_sizeOf, .ref q_number, .ref q_lifted])), (q_d, .inl (c 0, 244, .inl w_55)), (q_movedKept, .inl (c 0, 1000, .inl w_45)), (q_names, .inl (c 0, 3, .inl w_46))] H := by subst ew_55; exact hP
          have hD : va_D A [(q_this, .inr (12, [.ref q_d, .ref q_kept, .int v_images, .ref q_found, .ref q_aside, .int w_39, .int w_40, .int w_41, .int w_42, .int w_43, .int w_44, .ref q_names, .ref q_seenKept, .ref q_movedKept, .int v_isKeeping, .int v_bubbleMany, .int v_bubbleMost, .int v_bubbleCell, .int v_bestShown, .ref q_traced, .int v_traceMany, .int v_who, .ref q_bitsOf, .ref q_sizeOf, .ref q_number, .ref q_lifted])), (q_d, .inl (c 0, 244, .inl w_55)), (q_movedKept, .inl (c 0, 1000, .inl w_45)), (q_names, .inl (c 0, 3, .inl w_46))] := by subst ew_55; exact hD
          refine lv_aload_n hx hb dX12_strokes_192 rfl (lv_at hl 2 rfl) ?_
          refine va_get (D := D) (ci := 12) (v := .ref q_d) (C := RX12) (T := TX12) (N := 26) hx hb hts in_X12_strokes_X12 hown hK.1 hP 0 rfl rfl 0 (by decide) (hts (.fieldLink RX12 7 "PaperBubblesModel" "d" "[I") (List.mem_of_getElem? (i := 1) rfl)) (fun _ h9 => h9) rfl dX12_strokes_193 ?_
          refine lv_bipush (v := 10) hx hb dX12_strokes_196 (by decide) ?_
          refine lv_iload hx hb dX12_strokes_198 (lv_at hl 0 rfl) ?_
          refine lv_iadd hx hb dX12_strokes_200 ?_
          replace h := nm_ok h
          obtain ⟨t_56, et_56, h⟩ := h
          refine gTop et_56 ?_
          refine lv_dup2_11 hx hb dX12_strokes_201 rfl rfl ?_
          replace h := chi_ok h
          obtain ⟨hi_57, h⟩ := h
          refine va_iald hx hb hK.1 hP 1 0 rfl rfl hi_57 dX12_strokes_202 ?_
          replace h := nm_ok h
          obtain ⟨t_58, et_58, h⟩ := h
          refine gTop et_58 ?_
          refine lv_iload hx hb dX12_strokes_203 (lv_at hl 1 rfl) ?_
          refine lv_iadd hx hb dX12_strokes_205 ?_
          replace h := nm_ok h
          obtain ⟨t_59, et_59, h⟩ := h
          refine gTop et_59 ?_
          replace h := chi_ok h
          obtain ⟨hi_60, h⟩ := h
          replace h := nm_ok h
          obtain ⟨w_61, ew_61, h⟩ := h
          refine va_iast hx hb hK.1 hP hD hS 1 0 rfl rfl hi_60 dX12_strokes_206 (fun H locs hP hD hS => ?_)
          have hP : va_P D gcl [(q_this, .inr (12, [.ref q_d, .ref q_kept, .int v_images, .ref q_found, .ref q_aside, .int w_39, .int w_40, .int w_41, .int w_42, .int w_43, .int w_44, .ref q_names, .ref q_seenKept, .ref q_movedKept, .int v_isKeeping, .int v_bubbleMany, .int v_bubbleMost, .int v_bubbleCell, .int v_bestShown, .ref q_traced, .int v_traceMany, .int v_who, .ref q_bitsOf, .ref q_sizeOf, .ref q_number, .ref q_lifted])), (q_d, .inl (c 0, 244, .inl w_61)), (q_movedKept, .inl (c 0, 1000, .inl w_45)), (q_names, .inl (c 0, 3, .inl w_46))] H := by subst ew_61; exact hP
          have hD : va_D A [(q_this, .inr (12, [.ref q_d, .ref q_kept, .int v_images, .ref q_found, .ref q_aside, .int w_39, .int w_40, .int w_41, .int w_42, .int w_43, .int w_44, .ref q_names, .ref q_seenKept, .ref q_movedKept, .int v_isKeeping, .int v_bubbleMany, .int v_bubbleMost, .int v_bubbleCell, .int v_bestShown, .ref q_traced, .int v_traceMany, .int v_who, .ref q_bitsOf, .ref q_sizeOf, .ref q_number, .ref q_lifted])), (q_d, .inl (c 0, 244, .inl w_61)), (q_movedKept, .inl (c 0, 1000, .inl w_45)), (q_names, .inl (c 0, 3, .inl w_46))] := by subst ew_61; exact hD
          refine lv_aload_n hx hb dX12_strokes_207 rfl (lv_at hl 2 rfl) ?_
          refine va_get (D := D) (ci := 12) (v := .ref q_d) (C := RX12) (T := TX12) (N := 26) hx hb hts in_X12_strokes_X12 hown hK.1 hP 0 rfl rfl 0 (by decide) (hts (.fieldLink RX12 7 "PaperBubblesModel" "d" "[I") (List.mem_of_getElem? (i := 1) rfl)) (fun _ h9 => h9) rfl dX12_strokes_208 ?_
          refine lv_bipush (v := 10) hx hb dX12_strokes_211 (by decide) ?_
          refine lv_iload hx hb dX12_strokes_213 (lv_at hl 0 rfl) ?_
          refine lv_iadd hx hb dX12_strokes_215 ?_
          replace h := nm_ok h
          obtain ⟨t_62, et_62, h⟩ := h
          refine gTop et_62 ?_
          replace h := chi_ok h
          obtain ⟨hi_63, h⟩ := h
          refine va_iald hx hb hK.1 hP 1 0 rfl rfl hi_63 dX12_strokes_216 ?_
          replace h := nm_ok h
          obtain ⟨t_64, et_64, h⟩ := h
          refine gTop et_64 ?_
          refine lv_bipush (v := 99) hx hb dX12_strokes_217 (by decide) ?_
          refine lv_icmp_le (tgt := 251) hx hb dX12_strokes_219 (by decide) (fun c_65 => ?_) (fun c_65 => ?_)
          · replace h := it_t c_65 h
            refine lv_iload hx hb dX12_strokes_251 (lv_at hl 0 rfl) ?_
            refine lv_istore (lv' := [(6, .int r_48), (9, .int r_48), (8, .int r_38), (0, .ref q_this), (1, .int a_1), (3, .int a_3), (7, .int x7)]) hx hb dX12_strokes_253 hl (by decide) rfl (fun ls hl => ?_)
            replace h := nm_ok h
            obtain ⟨t_66, et_66, h⟩ := h
            refine lv_iinc (v := t_66) (lv' := [(7, .int t_66), (6, .int r_48), (9, .int r_48), (8, .int r_38), (0, .ref q_this), (1, .int a_1), (3, .int a_3)]) hx hb dX12_strokes_255 hl (k := 6) rfl (by rw [et_66]; rfl) (by decide) rfl (fun ls hl => ?_)
            refine lv_goto (tgt := 96) hx hb dX12_strokes_258 (by decide) ?_
            exact ih r_48 t_66 w_39 w_40 w_41 w_42 w_43 w_44 w_61 w_45 w_46 H locs hP hD hS ls (lv_sub hl [4, 5, 6, 1, 0] rfl) h
          · replace h := it_f c_65 h
            refine lv_aload_n hx hb dX12_strokes_222 rfl (lv_at hl 2 rfl) ?_
            refine lv_aload_n hx hb dX12_strokes_223 rfl (lv_at hl 2 rfl) ?_
            refine va_get (D := D) (ci := 12) (v := .ref q_d) (C := RX12) (T := TX12) (N := 26) hx hb hts in_X12_strokes_X12 hown hK.1 hP 0 rfl rfl 0 (by decide) (hts (.fieldLink RX12 7 "PaperBubblesModel" "d" "[I") (List.mem_of_getElem? (i := 1) rfl)) (fun _ h9 => h9) rfl dX12_strokes_224 ?_
            refine lv_bipush (v := 10) hx hb dX12_strokes_227 (by decide) ?_
            refine lv_iload hx hb dX12_strokes_229 (lv_at hl 0 rfl) ?_
            refine lv_iadd hx hb dX12_strokes_231 ?_
            replace h := nm_ok h
            obtain ⟨t_67, et_67, h⟩ := h
            refine gTop et_67 ?_
            replace h := chi_ok h
            obtain ⟨hi_68, h⟩ := h
            refine va_iald hx hb hK.1 hP 1 0 rfl rfl hi_68 dX12_strokes_232 ?_
            replace h := nm_ok h
            obtain ⟨t_69, et_69, h⟩ := h
            refine gTop et_69 ?_
            refine lv_bipush (v := 99) hx hb dX12_strokes_233 (by decide) ?_
            refine lv_isub hx hb dX12_strokes_235 ?_
            replace h := nm_ok h
            obtain ⟨t_70, et_70, h⟩ := h
            refine gTop et_70 ?_
            replace h := kb_ok h
            obtain ⟨w_72, hc_71, h⟩ := h
            refine gCallV (isC := [0, 1]) (wc := [(q_this, .inr (12, [.ref q_d, .ref q_kept, .int v_images, .ref q_found, .ref q_aside, .int w_39, .int w_40, .int w_41, .int w_42, .int w_43, .int w_44, .ref q_names, .ref q_seenKept, .ref q_movedKept, .int v_isKeeping, .int v_bubbleMany, .int v_bubbleMost, .int v_bubbleCell, .int v_bestShown, .ref q_traced, .int v_traceMany, .int v_who, .ref q_bitsOf, .ref q_sizeOf, .ref q_number, .ref q_lifted])), (q_d, .inl (c 0, 244, .inl w_61))]) (w1 := [(q_this, .inr (12, [.ref q_d, .ref q_kept, .int v_images, .ref q_found, .ref q_aside, .int w_39, .int w_40, .int w_41, .int w_42, .int w_43, .int w_44, .ref q_names, .ref q_seenKept, .ref q_movedKept, .int v_isKeeping, .int v_bubbleMany, .int v_bubbleMost, .int v_bubbleCell, .int v_bestShown, .ref q_traced, .int v_traceMany, .int v_who, .ref q_bitsOf, .ref q_sizeOf, .ref q_number, .ref q_lifted])), (q_d, .inl (c 0, 244, .inl w_72))]) (ws2 := [(q_this, .inr (12, [.ref q_d, .ref q_kept, .int v_images, .ref q_found, .ref q_aside, .int w_39, .int w_40, .int w_41, .int w_42, .int w_43, .int w_44, .ref q_names, .ref q_seenKept, .ref q_movedKept, .int v_isKeeping, .int v_bubbleMany, .int v_bubbleMost, .int v_bubbleCell, .int v_bestShown, .ref q_traced, .int v_traceMany, .int v_who, .ref q_bitsOf, .ref q_sizeOf, .ref q_number, .ref q_lifted])), (q_d, .inl (c 0, 244, .inl w_72)), (q_movedKept, .inl (c 0, 1000, .inl w_45)), (q_names, .inl (c 0, 3, .inl w_46))]) (ms := [(some 0), (some 1), none, none]) hP hD hS hA ⟨rfl, rfl, trivial⟩ (by decide +kernel) ⟨rfl, rfl, rfl, rfl, trivial⟩ (va_runV (rm := rm_X12_goesOut) (ws := wsX12_goesOut) (As := [.int t_70]) (rest := []) (gFix hF) (c_X12_goesOut l D c q_this q_d q_kept q_found q_aside q_names q_seenKept q_movedKept q_traced q_bitsOf q_sizeOf q_number q_lifted t_70 v_images w_39 w_40 w_41 w_42 w_43 w_44 v_isKeeping v_bubbleMany v_bubbleMost v_bubbleCell v_bestShown v_traceMany v_who w_61 w_72 hc_71 H.size) (cwV 1 hts gX12_strokes_X12_goesOut rfl rfl rfl (by decide +kernel) ⟨Nat.le_of_ble_eq_true rfl, Nat.le_of_ble_eq_true rfl⟩) (gPreV (wc := [(q_this, .inr (12, [.ref q_d, .ref q_kept, .int v_images, .ref q_found, .ref q_aside, .int w_39, .int w_40, .int w_41, .int w_42, .int w_43, .int w_44, .ref q_names, .ref q_seenKept, .ref q_movedKept, .int v_isKeeping, .int v_bubbleMany, .int v_bubbleMost, .int v_bubbleCell, .int v_bestShown, .ref q_traced, .int v_traceMany, .int v_who, .ref q_bitsOf, .ref q_sizeOf, .ref q_number, .ref q_lifted])), (q_d, .inl (c 0, 244, .inl w_61))]) (q := (RX12, TX12, 26)) (ci := 12) (q0 := 0) (isC := [0, 1]) hK hX hS hA hP hD ⟨rfl, rfl, trivial⟩ (by decide +kernel) rfl rfl) rfl rfl hl.1 rfl (lv_room (Nat.le_of_ble_eq_true rfl)) dX12_strokes_236 ⟨Nat.le_of_ble_eq_true rfl, Nat.le_of_ble_eq_true rfl⟩) (fun H locs hP hD hS => ?_)
            refine lv_aload_n hx hb dX12_strokes_239 rfl (lv_at hl 2 rfl) ?_
            refine va_get (D := D) (ci := 12) (v := .ref q_d) (C := RX12) (T := TX12) (N := 26) hx hb hts in_X12_strokes_X12 hown hK.1 hP 0 rfl rfl 0 (by decide) (hts (.fieldLink RX12 7 "PaperBubblesModel" "d" "[I") (List.mem_of_getElem? (i := 1) rfl)) (fun _ h9 => h9) rfl dX12_strokes_240 ?_
            refine lv_bipush (v := 10) hx hb dX12_strokes_243 (by decide) ?_
            refine lv_iload hx hb dX12_strokes_245 (lv_at hl 0 rfl) ?_
            refine lv_iadd hx hb dX12_strokes_247 ?_
            replace h := nm_ok h
            obtain ⟨t_73, et_73, h⟩ := h
            refine gTop et_73 ?_
            refine lv_bipush (v := 99) hx hb dX12_strokes_248 (by decide) ?_
            replace h := chi_ok h
            obtain ⟨hi_74, h⟩ := h
            replace h := nm_ok h
            obtain ⟨w_75, ew_75, h⟩ := h
            refine va_iast hx hb hK.1 hP hD hS 1 0 rfl rfl hi_74 dX12_strokes_250 (fun H locs hP hD hS => ?_)
            have hP : va_P D gcl [(q_this, .inr (12, [.ref q_d, .ref q_kept, .int v_images, .ref q_found, .ref q_aside, .int w_39, .int w_40, .int w_41, .int w_42, .int w_43, .int w_44, .ref q_names, .ref q_seenKept, .ref q_movedKept, .int v_isKeeping, .int v_bubbleMany, .int v_bubbleMost, .int v_bubbleCell, .int v_bestShown, .ref q_traced, .int v_traceMany, .int v_who, .ref q_bitsOf, .ref q_sizeOf, .ref q_number, .ref q_lifted])), (q_d, .inl (c 0, 244, .inl w_75)), (q_movedKept, .inl (c 0, 1000, .inl w_45)), (q_names, .inl (c 0, 3, .inl w_46))] H := by subst ew_75; exact hP
            have hD : va_D A [(q_this, .inr (12, [.ref q_d, .ref q_kept, .int v_images, .ref q_found, .ref q_aside, .int w_39, .int w_40, .int w_41, .int w_42, .int w_43, .int w_44, .ref q_names, .ref q_seenKept, .ref q_movedKept, .int v_isKeeping, .int v_bubbleMany, .int v_bubbleMost, .int v_bubbleCell, .int v_bestShown, .ref q_traced, .int v_traceMany, .int v_who, .ref q_bitsOf, .ref q_sizeOf, .ref q_number, .ref q_lifted])), (q_d, .inl (c 0, 244, .inl w_75)), (q_movedKept, .inl (c 0, 1000, .inl w_45)), (q_names, .inl (c 0, 3, .inl w_46))] := by subst ew_75; exact hD
            refine lv_iload hx hb dX12_strokes_251 (lv_at hl 0 rfl) ?_
            refine lv_istore (lv' := [(6, .int r_48), (9, .int r_48), (8, .int r_38), (0, .ref q_this), (1, .int a_1), (3, .int a_3), (7, .int x7)]) hx hb dX12_strokes_253 hl (by decide) rfl (fun ls hl => ?_)
            replace h := nm_ok h
            obtain ⟨t_76, et_76, h⟩ := h
            refine lv_iinc (v := t_76) (lv' := [(7, .int t_76), (6, .int r_48), (9, .int r_48), (8, .int r_38), (0, .ref q_this), (1, .int a_1), (3, .int a_3)]) hx hb dX12_strokes_255 hl (k := 6) rfl (by rw [et_76]; rfl) (by decide) rfl (fun ls hl => ?_)
            refine lv_goto (tgt := 96) hx hb dX12_strokes_258 (by decide) ?_
            exact ih r_48 t_76 w_39 w_40 w_41 w_42 w_43 w_44 w_75 w_45 w_46 H locs hP hD hS ls (lv_sub hl [4, 5, 6, 1, 0] rfl) h
        · replace h := it_f c_49 h
          refine lv_iconst (v := 0) hx hb dX12_strokes_142 (by decide) ?_
          refine lv_istore (lv' := [(7, .int 0), (9, .int r_48), (8, .int r_38), (0, .ref q_this), (1, .int a_1), (3, .int a_3), (6, .int x6)]) hx hb dX12_strokes_143 hl (by decide) rfl (fun ls hl => ?_)
          refine lv_aload_n hx hb dX12_strokes_145 rfl (lv_at hl 3 rfl) ?_
          refine lv_iload_n hx hb dX12_strokes_146 rfl (lv_at hl 5 rfl) ?_
          replace h := kb_ok h
          obtain ⟨r_78, hc_77, h⟩ := h
          refine gCallIr (isC := [0, 1]) (wc := [(q_this, .inr (12, [.ref q_d, .ref q_kept, .int v_images, .ref q_found, .ref q_aside, .int w_39, .int w_40, .int w_41, .int w_42, .int w_43, .int w_44, .ref q_names, .ref q_seenKept, .ref q_movedKept, .int v_isKeeping, .int v_bubbleMany, .int v_bubbleMost, .int v_bubbleCell, .int v_bestShown, .ref q_traced, .int v_traceMany, .int v_who, .ref q_bitsOf, .ref q_sizeOf, .ref q_number, .ref q_lifted])), (q_d, .inl (c 0, 244, .inl v_d))]) hP hD hS hA ⟨rfl, rfl, trivial⟩ (va_runV (rm := rm_X12_isOpen) (ws := wsX12_isOpen) (As := [.int a_3]) (rest := []) (gFix hF) (c_X12_isOpen l D c q_this q_d q_kept q_found q_aside q_names q_seenKept q_movedKept q_traced q_bitsOf q_sizeOf q_number q_lifted a_3 v_images w_39 w_40 w_41 w_42 w_43 w_44 v_isKeeping v_bubbleMany v_bubbleMost v_bubbleCell v_bestShown v_traceMany v_who v_d r_78 hc_77 H.size) (cwV 1 hts gX12_strokes_X12_isOpen rfl rfl rfl (by decide +kernel) ⟨Nat.le_of_ble_eq_true rfl, Nat.le_of_ble_eq_true rfl⟩) (gPreV (wc := [(q_this, .inr (12, [.ref q_d, .ref q_kept, .int v_images, .ref q_found, .ref q_aside, .int w_39, .int w_40, .int w_41, .int w_42, .int w_43, .int w_44, .ref q_names, .ref q_seenKept, .ref q_movedKept, .int v_isKeeping, .int v_bubbleMany, .int v_bubbleMost, .int v_bubbleCell, .int v_bestShown, .ref q_traced, .int v_traceMany, .int v_who, .ref q_bitsOf, .ref q_sizeOf, .ref q_number, .ref q_lifted])), (q_d, .inl (c 0, 244, .inl v_d))]) (q := (RX12, TX12, 26)) (ci := 12) (q0 := 0) (isC := [0, 1]) hK hX hS hA hP hD ⟨rfl, rfl, trivial⟩ (by decide +kernel) rfl rfl) rfl rfl hl.1 rfl (lv_room (Nat.le_of_ble_eq_true rfl)) dX12_strokes_147 ⟨Nat.le_of_ble_eq_true rfl, Nat.le_of_ble_eq_true rfl⟩) (fun H locs hP hS => ?_)
          refine lv_if_eq (tgt := 255) hx hb dX12_strokes_150 (by decide) (fun c_79 => ?_) (fun c_79 => ?_)
          · replace h := it_t c_79 h
            replace h := nm_ok h
            obtain ⟨t_80, et_80, h⟩ := h
            refine lv_iinc (v := t_80) (lv' := [(7, .int t_80), (9, .int r_48), (8, .int r_38), (0, .ref q_this), (1, .int a_1), (3, .int a_3), (6, .int x6)]) hx hb dX12_strokes_255 hl (k := 0) rfl (by rw [et_80]; rfl) (by decide) rfl (fun ls hl => ?_)
            refine lv_goto (tgt := 96) hx hb dX12_strokes_258 (by decide) ?_
            exact ih x6 t_80 w_39 w_40 w_41 w_42 w_43 w_44 v_d w_45 w_46 H locs hP hD hS ls (lv_sub hl [3, 4, 5, 6, 0] rfl) h
          · replace h := it_f c_79 h
            refine lv_aload_n hx hb dX12_strokes_153 rfl (lv_at hl 3 rfl) ?_
            refine va_get (D := D) (ci := 12) (v := .ref q_d) (C := RX12) (T := TX12) (N := 26) hx hb hts in_X12_strokes_X12 hown hK.1 hP 0 rfl rfl 0 (by decide) (hts (.fieldLink RX12 7 "PaperBubblesModel" "d" "[I") (List.mem_of_getElem? (i := 1) rfl)) (fun _ h9 => h9) rfl dX12_strokes_154 ?_
            refine lv_bipush (v := 10) hx hb dX12_strokes_157 (by decide) ?_
            refine lv_iload hx hb dX12_strokes_159 (lv_at hl 6 rfl) ?_
            refine lv_iadd hx hb dX12_strokes_161 ?_
            replace h := nm_ok h
            obtain ⟨t_81, et_81, h⟩ := h
            refine gTop et_81 ?_
            refine lv_dup2_11 hx hb dX12_strokes_162 rfl rfl ?_
            replace h := chi_ok h
            obtain ⟨hi_82, h⟩ := h
            refine va_iald hx hb hK.1 hP 1 0 rfl rfl hi_82 dX12_strokes_163 ?_
            replace h := nm_ok h
            obtain ⟨t_83, et_83, h⟩ := h
            refine gTop et_83 ?_
            refine lv_iload hx hb dX12_strokes_164 (lv_at hl 2 rfl) ?_
            refine lv_isub hx hb dX12_strokes_166 ?_
            replace h := nm_ok h
            obtain ⟨t_84, et_84, h⟩ := h
            refine gTop et_84 ?_
            replace h := chi_ok h
            obtain ⟨hi_85, h⟩ := h
            replace h := nm_ok h
            obtain ⟨w_86, ew_86, h⟩ := h
            refine va_iast hx hb hK.1 hP hD hS 1 0 rfl rfl hi_85 dX12_strokes_167 (fun H locs hP hD hS => ?_)
            have hP : va_P D gcl [(q_this, .inr (12, [.ref q_d, .ref q_kept, .int v_images, .ref q_found, .ref q_aside, .int w_39, .int w_40, .int w_41, .int w_42, .int w_43, .int w_44, .ref q_names, .ref q_seenKept, .ref q_movedKept, .int v_isKeeping, .int v_bubbleMany, .int v_bubbleMost, .int v_bubbleCell, .int v_bestShown, .ref q_traced, .int v_traceMany, .int v_who, .ref q_bitsOf, .ref q_sizeOf, .ref q_number, .ref q_lifted])), (q_d, .inl (c 0, 244, .inl w_86)), (q_movedKept, .inl (c 0, 1000, .inl w_45)), (q_names, .inl (c 0, 3, .inl w_46))] H := by subst ew_86; exact hP
            have hD : va_D A [(q_this, .inr (12, [.ref q_d, .ref q_kept, .int v_images, .ref q_found, .ref q_aside, .int w_39, .int w_40, .int w_41, .int w_42, .int w_43, .int w_44, .ref q_names, .ref q_seenKept, .ref q_movedKept, .int v_isKeeping, .int v_bubbleMany, .int v_bubbleMost, .int v_bubbleCell, .int v_bestShown, .ref q_traced, .int v_traceMany, .int v_who, .ref q_bitsOf, .ref q_sizeOf, .ref q_number, .ref q_lifted])), (q_d, .inl (c 0, 244, .inl w_86)), (q_movedKept, .inl (c 0, 1000, .inl w_45)), (q_names, .inl (c 0, 3, .inl w_46))] := by subst ew_86; exact hD
            refine lv_aload_n hx hb dX12_strokes_168 rfl (lv_at hl 3 rfl) ?_
            refine lv_iload hx hb dX12_strokes_169 (lv_at hl 2 rfl) ?_
            replace h := kb_ok h
            obtain ⟨w_88, hc_87, h⟩ := h
            refine gCallV (isC := [0, 1]) (wc := [(q_this, .inr (12, [.ref q_d, .ref q_kept, .int v_images, .ref q_found, .ref q_aside, .int w_39, .int w_40, .int w_41, .int w_42, .int w_43, .int w_44, .ref q_names, .ref q_seenKept, .ref q_movedKept, .int v_isKeeping, .int v_bubbleMany, .int v_bubbleMost, .int v_bubbleCell, .int v_bestShown, .ref q_traced, .int v_traceMany, .int v_who, .ref q_bitsOf, .ref q_sizeOf, .ref q_number, .ref q_lifted])), (q_d, .inl (c 0, 244, .inl w_86))]) (w1 := [(q_this, .inr (12, [.ref q_d, .ref q_kept, .int v_images, .ref q_found, .ref q_aside, .int w_39, .int w_40, .int w_41, .int w_42, .int w_43, .int w_44, .ref q_names, .ref q_seenKept, .ref q_movedKept, .int v_isKeeping, .int v_bubbleMany, .int v_bubbleMost, .int v_bubbleCell, .int v_bestShown, .ref q_traced, .int v_traceMany, .int v_who, .ref q_bitsOf, .ref q_sizeOf, .ref q_number, .ref q_lifted])), (q_d, .inl (c 0, 244, .inl w_88))]) (ws2 := [(q_this, .inr (12, [.ref q_d, .ref q_kept, .int v_images, .ref q_found, .ref q_aside, .int w_39, .int w_40, .int w_41, .int w_42, .int w_43, .int w_44, .ref q_names, .ref q_seenKept, .ref q_movedKept, .int v_isKeeping, .int v_bubbleMany, .int v_bubbleMost, .int v_bubbleCell, .int v_bestShown, .ref q_traced, .int v_traceMany, .int v_who, .ref q_bitsOf, .ref q_sizeOf, .ref q_number, .ref q_lifted])), (q_d, .inl (c 0, 244, .inl w_88)), (q_movedKept, .inl (c 0, 1000, .inl w_45)), (q_names, .inl (c 0, 3, .inl w_46))]) (ms := [(some 0), (some 1), none, none]) hP hD hS hA ⟨rfl, rfl, trivial⟩ (by decide +kernel) ⟨rfl, rfl, rfl, rfl, trivial⟩ (va_runV (rm := rm_X12_goesOut) (ws := wsX12_goesOut) (As := [.int r_38]) (rest := []) (gFix hF) (c_X12_goesOut l D c q_this q_d q_kept q_found q_aside q_names q_seenKept q_movedKept q_traced q_bitsOf q_sizeOf q_number q_lifted r_38 v_images w_39 w_40 w_41 w_42 w_43 w_44 v_isKeeping v_bubbleMany v_bubbleMost v_bubbleCell v_bestShown v_traceMany v_who w_86 w_88 hc_87 H.size) (cwV 1 hts gX12_strokes_X12_goesOut rfl rfl rfl (by decide +kernel) ⟨Nat.le_of_ble_eq_true rfl, Nat.le_of_ble_eq_true rfl⟩) (gPreV (wc := [(q_this, .inr (12, [.ref q_d, .ref q_kept, .int v_images, .ref q_found, .ref q_aside, .int w_39, .int w_40, .int w_41, .int w_42, .int w_43, .int w_44, .ref q_names, .ref q_seenKept, .ref q_movedKept, .int v_isKeeping, .int v_bubbleMany, .int v_bubbleMost, .int v_bubbleCell, .int v_bestShown, .ref q_traced, .int v_traceMany, .int v_who, .ref q_bitsOf, .ref q_sizeOf, .ref q_number, .ref q_lifted])), (q_d, .inl (c 0, 244, .inl w_86))]) (q := (RX12, TX12, 26)) (ci := 12) (q0 := 0) (isC := [0, 1]) hK hX hS hA hP hD ⟨rfl, rfl, trivial⟩ (by decide +kernel) rfl rfl) rfl rfl hl.1 rfl (lv_room (Nat.le_of_ble_eq_true rfl)) dX12_strokes_171 ⟨Nat.le_of_ble_eq_true rfl, Nat.le_of_ble_eq_true rfl⟩) (fun H locs hP hD hS => ?_)
            refine lv_goto (tgt := 255) hx hb dX12_strokes_174 (by decide) ?_
            replace h := nm_ok h
            obtain ⟨t_89, et_89, h⟩ := h
            refine lv_iinc (v := t_89) (lv' := [(7, .int t_89), (9, .int r_48), (8, .int r_38), (0, .ref q_this), (1, .int a_1), (3, .int a_3), (6, .int x6)]) hx hb dX12_strokes_255 hl (k := 0) rfl (by rw [et_89]; rfl) (by decide) rfl (fun ls hl => ?_)
            refine lv_goto (tgt := 96) hx hb dX12_strokes_258 (by decide) ?_
            exact ih x6 t_89 w_39 w_40 w_41 w_42 w_43 w_44 w_88 w_45 w_46 H locs hP hD hS ls (lv_sub hl [3, 4, 5, 6, 0] rfl) h
  have t_L85 : ∀ (y1 : Int32) (y2 : Int32) (v_base : Int32) (v_at : Int32) (v_size : Int32) (v_fault : Int32) (v_opened : Int32) (v_isSeen : Int32) (v_d : Nat → Int32) (v_movedKept : Nat → Int32) (v_names : Nat → Int32) (H : Heap) (locs : List Loc), va_P D gcl [(q_this, .inr (12, [.ref q_d, .ref q_kept, .int v_images, .ref q_found, .ref q_aside, .int v_base, .int v_at, .int v_size, .int v_fault, .int v_opened, .int v_isSeen, .ref q_names, .ref q_seenKept, .ref q_movedKept, .int v_isKeeping, .int v_bubbleMany, .int v_bubbleMost, .int v_bubbleCell, .int v_bestShown, .ref q_traced, .int v_traceMany, .int v_who, .ref q_bitsOf, .ref q_sizeOf, .ref q_number, .ref q_lifted])), (q_d, .inl (c 0, 244, .inl v_d)), (q_movedKept, .inl (c 0, 1000, .inl v_movedKept)), (q_names, .inl (c 0, 3, .inl v_names))] H → va_D A [(q_this, .inr (12, [.ref q_d, .ref q_kept, .int v_images, .ref q_found, .ref q_aside, .int v_base, .int v_at, .int v_size, .int v_fault, .int v_opened, .int v_isSeen, .ref q_names, .ref q_seenKept, .ref q_movedKept, .int v_isKeeping, .int v_bubbleMany, .int v_bubbleMost, .int v_bubbleCell, .int v_bestShown, .ref q_traced, .int v_traceMany, .int v_who, .ref q_bitsOf, .ref q_sizeOf, .ref q_number, .ref q_lifted])), (q_d, .inl (c 0, 244, .inl v_d)), (q_movedKept, .inl (c 0, 1000, .inl v_movedKept)), (q_names, .inl (c 0, 3, .inl v_names))] → va_S A s.heap H locs → ∀ ls, lv_has ls 10 [(0, .ref q_this), (1, .int a_1), (2, .int a_2), (3, .int a_3)] → f_X12_strokes_L85 a_1 a_2 a_3 v_isKeeping y1 y2 v_base v_at v_size v_fault v_opened v_isSeen v_d v_movedKept v_names = some (o_v_base, o_v_at, o_v_size, o_v_fault, o_v_opened, o_v_isSeen, o_v_d, o_v_movedKept, o_v_names) → W p l e (headSpec wsX12_strokes rm_X12_strokes).room s m [.ref q_this, .int a_1, .int a_2, .int a_3].toArray below meth co H locs 0 0 (gQV D [(q_this, .inr (12, [.ref q_d, .ref q_kept, .int v_images, .ref q_found, .ref q_aside, .int o_v_base, .int o_v_at, .int o_v_size, .int o_v_fault, .int o_v_opened, .int o_v_isSeen, .ref q_names, .ref q_seenKept, .ref q_movedKept, .int v_isKeeping, .int v_bubbleMany, .int v_bubbleMost, .int v_bubbleCell, .int v_bestShown, .ref q_traced, .int v_traceMany, .int v_who, .ref q_bitsOf, .ref q_sizeOf, .ref q_number, .ref q_lifted])), (q_d, .inl (c 0, 244, .inl o_v_d)), (q_movedKept, .inl (c 0, 1000, .inl o_v_movedKept)), (q_names, .inl (c 0, 3, .inl o_v_names))] A below [.ref q_this, .int a_1, .int a_2, .int a_3] s) (F0 m 85 ls [.int y2, .int y1, .ref q_d]) := by
    intro  y1 y2 v_base v_at v_size v_fault v_opened v_isSeen v_d v_movedKept v_names H locs hP hD hS ls hl h
    unfold f_X12_strokes_L85 at h
    replace h := chi_ok h
    obtain ⟨hi_26, h⟩ := h
    replace h := nm_ok h
    obtain ⟨w_27, ew_27, h⟩ := h
    refine va_iast hx hb hK.1 hP hD hS 1 0 rfl rfl hi_26 dX12_strokes_85 (fun H locs hP hD hS => ?_)
    have hP : va_P D gcl [(q_this, .inr (12, [.ref q_d, .ref q_kept, .int v_images, .ref q_found, .ref q_aside, .int v_base, .int v_at, .int v_size, .int v_fault, .int v_opened, .int v_isSeen, .ref q_names, .ref q_seenKept, .ref q_movedKept, .int v_isKeeping, .int v_bubbleMany, .int v_bubbleMost, .int v_bubbleCell, .int v_bestShown, .ref q_traced, .int v_traceMany, .int v_who, .ref q_bitsOf, .ref q_sizeOf, .ref q_number, .ref q_lifted])), (q_d, .inl (c 0, 244, .inl w_27)), (q_movedKept, .inl (c 0, 1000, .inl v_movedKept)), (q_names, .inl (c 0, 3, .inl v_names))] H := by subst ew_27; exact hP
    have hD : va_D A [(q_this, .inr (12, [.ref q_d, .ref q_kept, .int v_images, .ref q_found, .ref q_aside, .int v_base, .int v_at, .int v_size, .int v_fault, .int v_opened, .int v_isSeen, .ref q_names, .ref q_seenKept, .ref q_movedKept, .int v_isKeeping, .int v_bubbleMany, .int v_bubbleMost, .int v_bubbleCell, .int v_bestShown, .ref q_traced, .int v_traceMany, .int v_who, .ref q_bitsOf, .ref q_sizeOf, .ref q_number, .ref q_lifted])), (q_d, .inl (c 0, 244, .inl w_27)), (q_movedKept, .inl (c 0, 1000, .inl v_movedKept)), (q_names, .inl (c 0, 3, .inl v_names))] := by subst ew_27; exact hD
    refine lv_iload_n hx hb dX12_strokes_86 rfl (lv_at hl 2 rfl) ?_
    refine lv_istore (lv' := [(6, .int a_2), (0, .ref q_this), (1, .int a_1), (2, .int a_2), (3, .int a_3)]) hx hb dX12_strokes_87 hl (by decide) rfl (fun ls hl => ?_)
    refine lv_aload_n hx hb dX12_strokes_89 rfl (lv_at hl 1 rfl) ?_
    refine lv_iload_n hx hb dX12_strokes_90 rfl (lv_at hl 2 rfl) ?_
    replace h := kb_ok h
    obtain ⟨r_29, hc_28, h⟩ := h
    refine gCallIr (isC := [0, 1]) (wc := [(q_this, .inr (12, [.ref q_d, .ref q_kept, .int v_images, .ref q_found, .ref q_aside, .int v_base, .int v_at, .int v_size, .int v_fault, .int v_opened, .int v_isSeen, .ref q_names, .ref q_seenKept, .ref q_movedKept, .int v_isKeeping, .int v_bubbleMany, .int v_bubbleMost, .int v_bubbleCell, .int v_bestShown, .ref q_traced, .int v_traceMany, .int v_who, .ref q_bitsOf, .ref q_sizeOf, .ref q_number, .ref q_lifted])), (q_d, .inl (c 0, 244, .inl w_27))]) hP hD hS hA ⟨rfl, rfl, trivial⟩ (va_runV (rm := rm_X12_reachOf) (ws := wsX12_reachOf) (As := [.int a_1]) (rest := []) (gFix hF) (c_X12_reachOf l D c q_this q_d q_kept q_found q_aside q_names q_seenKept q_movedKept q_traced q_bitsOf q_sizeOf q_number q_lifted a_1 v_images v_base v_at v_size v_fault v_opened v_isSeen v_isKeeping v_bubbleMany v_bubbleMost v_bubbleCell v_bestShown v_traceMany v_who w_27 r_29 hc_28 H.size) (cwV 1 hts gX12_strokes_X12_reachOf rfl rfl rfl (by decide +kernel) ⟨Nat.le_of_ble_eq_true rfl, Nat.le_of_ble_eq_true rfl⟩) (gPreV (wc := [(q_this, .inr (12, [.ref q_d, .ref q_kept, .int v_images, .ref q_found, .ref q_aside, .int v_base, .int v_at, .int v_size, .int v_fault, .int v_opened, .int v_isSeen, .ref q_names, .ref q_seenKept, .ref q_movedKept, .int v_isKeeping, .int v_bubbleMany, .int v_bubbleMost, .int v_bubbleCell, .int v_bestShown, .ref q_traced, .int v_traceMany, .int v_who, .ref q_bitsOf, .ref q_sizeOf, .ref q_number, .ref q_lifted])), (q_d, .inl (c 0, 244, .inl w_27))]) (q := (RX12, TX12, 26)) (ci := 12) (q0 := 0) (isC := [0, 1]) hK hX hS hA hP hD ⟨rfl, rfl, trivial⟩ (by decide +kernel) rfl rfl) rfl rfl hl.1 rfl (lv_room (Nat.le_of_ble_eq_true rfl)) dX12_strokes_91 ⟨Nat.le_of_ble_eq_true rfl, Nat.le_of_ble_eq_true rfl⟩) (fun H locs hP hS => ?_)
    refine lv_istore (lv' := [(7, .int r_29), (6, .int a_2), (0, .ref q_this), (1, .int a_1), (2, .int a_2), (3, .int a_3)]) hx hb dX12_strokes_94 hl (by decide) rfl (fun ls hl => ?_)
    exact t_L96 gFuel a_2 r_29 v_base v_at v_size v_fault v_opened v_isSeen w_27 v_movedKept v_names H locs hP hD hS ls (lv_sub hl [2, 3, 5, 1, 0] rfl) h
  unfold f_X12_strokes at h
  refine lv_aload_n hx hb dX12_strokes_0 rfl (lv_at hl 0 rfl) ?_
  refine lv_iload_n hx hb dX12_strokes_1 rfl (lv_at hl 1 rfl) ?_
  refine lv_aload_n hx hb dX12_strokes_2 rfl (lv_at hl 0 rfl) ?_
  refine va_get (D := D) (ci := 12) (v := .ref q_d) (C := RX12) (T := TX12) (N := 26) hx hb hts in_X12_strokes_X12 hown hK.1 hP 0 rfl rfl 0 (by decide) (hts (.fieldLink RX12 7 "PaperBubblesModel" "d" "[I") (List.mem_of_getElem? (i := 1) rfl)) (fun _ h9 => h9) rfl dX12_strokes_3 ?_
  refine lv_bipush (v := 10) hx hb dX12_strokes_6 (by decide) ?_
  refine lv_iload_n hx hb dX12_strokes_8 rfl (lv_at hl 2 rfl) ?_
  refine lv_iadd hx hb dX12_strokes_9 ?_
  replace h := nm_ok h
  obtain ⟨t_1, et_1, h⟩ := h
  refine gTop et_1 ?_
  replace h := chi_ok h
  obtain ⟨hi_2, h⟩ := h
  refine va_iald hx hb hK.1 hP 1 0 rfl rfl hi_2 dX12_strokes_10 ?_
  replace h := nm_ok h
  obtain ⟨t_3, et_3, h⟩ := h
  refine gTop et_3 ?_
  replace h := kb_ok h
  obtain ⟨r_5, hc_4, h⟩ := h
  refine gCallIr (isC := [0, 1]) (wc := [(q_this, .inr (12, [.ref q_d, .ref q_kept, .int v_images, .ref q_found, .ref q_aside, .int v_base, .int v_at, .int v_size, .int v_fault, .int v_opened, .int v_isSeen, .ref q_names, .ref q_seenKept, .ref q_movedKept, .int v_isKeeping, .int v_bubbleMany, .int v_bubbleMost, .int v_bubbleCell, .int v_bestShown, .ref q_traced, .int v_traceMany, .int v_who, .ref q_bitsOf, .ref q_sizeOf, .ref q_number, .ref q_lifted])), (q_d, .inl (c 0, 244, .inl v_d))]) hP hD hS hA ⟨rfl, rfl, trivial⟩ (va_runV (rm := rm_X12_letsOf) (ws := wsX12_letsOf) (As := [.int a_1, .int t_3]) (rest := []) (gFix hF) (c_X12_letsOf l D c q_this q_d q_kept q_found q_aside q_names q_seenKept q_movedKept q_traced q_bitsOf q_sizeOf q_number q_lifted a_1 t_3 v_images v_base v_at v_size v_fault v_opened v_isSeen v_isKeeping v_bubbleMany v_bubbleMost v_bubbleCell v_bestShown v_traceMany v_who v_d r_5 hc_4 s.heap.size) (cwV 2 hts gX12_strokes_X12_letsOf rfl rfl rfl (by decide +kernel) ⟨Nat.le_of_ble_eq_true rfl, Nat.le_of_ble_eq_true rfl⟩) (gPreV (wc := [(q_this, .inr (12, [.ref q_d, .ref q_kept, .int v_images, .ref q_found, .ref q_aside, .int v_base, .int v_at, .int v_size, .int v_fault, .int v_opened, .int v_isSeen, .ref q_names, .ref q_seenKept, .ref q_movedKept, .int v_isKeeping, .int v_bubbleMany, .int v_bubbleMost, .int v_bubbleCell, .int v_bestShown, .ref q_traced, .int v_traceMany, .int v_who, .ref q_bitsOf, .ref q_sizeOf, .ref q_number, .ref q_lifted])), (q_d, .inl (c 0, 244, .inl v_d))]) (q := (RX12, TX12, 26)) (ci := 12) (q0 := 0) (isC := [0, 1]) hK hX hS hA hP hD ⟨rfl, rfl, trivial⟩ (by decide +kernel) rfl rfl) rfl rfl hl.1 rfl (lv_room (Nat.le_of_ble_eq_true rfl)) dX12_strokes_11 ⟨Nat.le_of_ble_eq_true rfl, Nat.le_of_ble_eq_true rfl⟩) (fun H locs hP hS => ?_)
  refine lv_istore (lv' := [(4, .int r_5), (0, .ref q_this), (1, .int a_1), (2, .int a_2), (3, .int a_3)]) hx hb dX12_strokes_14 hl (by decide) rfl (fun ls hl => ?_)
  refine lv_aload_n hx hb dX12_strokes_16 rfl (lv_at hl 1 rfl) ?_
  refine va_get (D := D) (ci := 12) (v := .ref q_d) (C := RX12) (T := TX12) (N := 26) hx hb hts in_X12_strokes_X12 hown hK.1 hP 0 rfl rfl 0 (by decide) (hts (.fieldLink RX12 7 "PaperBubblesModel" "d" "[I") (List.mem_of_getElem? (i := 1) rfl)) (fun _ h9 => h9) rfl dX12_strokes_17 ?_
  refine lv_bipush (v := 10) hx hb dX12_strokes_20 (by decide) ?_
  refine lv_iload_n hx hb dX12_strokes_22 rfl (lv_at hl 3 rfl) ?_
  refine lv_iadd hx hb dX12_strokes_23 ?_
  replace h := nm_ok h
  obtain ⟨t_6, et_6, h⟩ := h
  refine gTop et_6 ?_
  refine lv_dup2_11 hx hb dX12_strokes_24 rfl rfl ?_
  replace h := chi_ok h
  obtain ⟨hi_7, h⟩ := h
  refine va_iald hx hb hK.1 hP 1 0 rfl rfl hi_7 dX12_strokes_25 ?_
  replace h := nm_ok h
  obtain ⟨t_8, et_8, h⟩ := h
  refine gTop et_8 ?_
  refine lv_iload hx hb dX12_strokes_26 (lv_at hl 0 rfl) ?_
  refine lv_isub hx hb dX12_strokes_28 ?_
  replace h := nm_ok h
  obtain ⟨t_9, et_9, h⟩ := h
  refine gTop et_9 ?_
  replace h := chi_ok h
  obtain ⟨hi_10, h⟩ := h
  replace h := nm_ok h
  obtain ⟨w_11, ew_11, h⟩ := h
  refine va_iast hx hb hK.1 hP hD hS 1 0 rfl rfl hi_10 dX12_strokes_29 (fun H locs hP hD hS => ?_)
  have hP : va_P D gcl [(q_this, .inr (12, [.ref q_d, .ref q_kept, .int v_images, .ref q_found, .ref q_aside, .int v_base, .int v_at, .int v_size, .int v_fault, .int v_opened, .int v_isSeen, .ref q_names, .ref q_seenKept, .ref q_movedKept, .int v_isKeeping, .int v_bubbleMany, .int v_bubbleMost, .int v_bubbleCell, .int v_bestShown, .ref q_traced, .int v_traceMany, .int v_who, .ref q_bitsOf, .ref q_sizeOf, .ref q_number, .ref q_lifted])), (q_d, .inl (c 0, 244, .inl w_11)), (q_movedKept, .inl (c 0, 1000, .inl v_movedKept)), (q_names, .inl (c 0, 3, .inl v_names))] H := by subst ew_11; exact hP
  have hD : va_D A [(q_this, .inr (12, [.ref q_d, .ref q_kept, .int v_images, .ref q_found, .ref q_aside, .int v_base, .int v_at, .int v_size, .int v_fault, .int v_opened, .int v_isSeen, .ref q_names, .ref q_seenKept, .ref q_movedKept, .int v_isKeeping, .int v_bubbleMany, .int v_bubbleMost, .int v_bubbleCell, .int v_bestShown, .ref q_traced, .int v_traceMany, .int v_who, .ref q_bitsOf, .ref q_sizeOf, .ref q_number, .ref q_lifted])), (q_d, .inl (c 0, 244, .inl w_11)), (q_movedKept, .inl (c 0, 1000, .inl v_movedKept)), (q_names, .inl (c 0, 3, .inl v_names))] := by subst ew_11; exact hD
  refine lv_aload_n hx hb dX12_strokes_30 rfl (lv_at hl 1 rfl) ?_
  refine lv_iload hx hb dX12_strokes_31 (lv_at hl 0 rfl) ?_
  replace h := kb_ok h
  obtain ⟨w_13, hc_12, h⟩ := h
  refine gCallV (isC := [0, 1]) (wc := [(q_this, .inr (12, [.ref q_d, .ref q_kept, .int v_images, .ref q_found, .ref q_aside, .int v_base, .int v_at, .int v_size, .int v_fault, .int v_opened, .int v_isSeen, .ref q_names, .ref q_seenKept, .ref q_movedKept, .int v_isKeeping, .int v_bubbleMany, .int v_bubbleMost, .int v_bubbleCell, .int v_bestShown, .ref q_traced, .int v_traceMany, .int v_who, .ref q_bitsOf, .ref q_sizeOf, .ref q_number, .ref q_lifted])), (q_d, .inl (c 0, 244, .inl w_11))]) (w1 := [(q_this, .inr (12, [.ref q_d, .ref q_kept, .int v_images, .ref q_found, .ref q_aside, .int v_base, .int v_at, .int v_size, .int v_fault, .int v_opened, .int v_isSeen, .ref q_names, .ref q_seenKept, .ref q_movedKept, .int v_isKeeping, .int v_bubbleMany, .int v_bubbleMost, .int v_bubbleCell, .int v_bestShown, .ref q_traced, .int v_traceMany, .int v_who, .ref q_bitsOf, .ref q_sizeOf, .ref q_number, .ref q_lifted])), (q_d, .inl (c 0, 244, .inl w_13))]) (ws2 := [(q_this, .inr (12, [.ref q_d, .ref q_kept, .int v_images, .ref q_found, .ref q_aside, .int v_base, .int v_at, .int v_size, .int v_fault, .int v_opened, .int v_isSeen, .ref q_names, .ref q_seenKept, .ref q_movedKept, .int v_isKeeping, .int v_bubbleMany, .int v_bubbleMost, .int v_bubbleCell, .int v_bestShown, .ref q_traced, .int v_traceMany, .int v_who, .ref q_bitsOf, .ref q_sizeOf, .ref q_number, .ref q_lifted])), (q_d, .inl (c 0, 244, .inl w_13)), (q_movedKept, .inl (c 0, 1000, .inl v_movedKept)), (q_names, .inl (c 0, 3, .inl v_names))]) (ms := [(some 0), (some 1), none, none]) hP hD hS hA ⟨rfl, rfl, trivial⟩ (by decide +kernel) ⟨rfl, rfl, rfl, rfl, trivial⟩ (va_runV (rm := rm_X12_goesOut) (ws := wsX12_goesOut) (As := [.int r_5]) (rest := []) (gFix hF) (c_X12_goesOut l D c q_this q_d q_kept q_found q_aside q_names q_seenKept q_movedKept q_traced q_bitsOf q_sizeOf q_number q_lifted r_5 v_images v_base v_at v_size v_fault v_opened v_isSeen v_isKeeping v_bubbleMany v_bubbleMost v_bubbleCell v_bestShown v_traceMany v_who w_11 w_13 hc_12 H.size) (cwV 1 hts gX12_strokes_X12_goesOut rfl rfl rfl (by decide +kernel) ⟨Nat.le_of_ble_eq_true rfl, Nat.le_of_ble_eq_true rfl⟩) (gPreV (wc := [(q_this, .inr (12, [.ref q_d, .ref q_kept, .int v_images, .ref q_found, .ref q_aside, .int v_base, .int v_at, .int v_size, .int v_fault, .int v_opened, .int v_isSeen, .ref q_names, .ref q_seenKept, .ref q_movedKept, .int v_isKeeping, .int v_bubbleMany, .int v_bubbleMost, .int v_bubbleCell, .int v_bestShown, .ref q_traced, .int v_traceMany, .int v_who, .ref q_bitsOf, .ref q_sizeOf, .ref q_number, .ref q_lifted])), (q_d, .inl (c 0, 244, .inl w_11))]) (q := (RX12, TX12, 26)) (ci := 12) (q0 := 0) (isC := [0, 1]) hK hX hS hA hP hD ⟨rfl, rfl, trivial⟩ (by decide +kernel) rfl rfl) rfl rfl hl.1 rfl (lv_room (Nat.le_of_ble_eq_true rfl)) dX12_strokes_33 ⟨Nat.le_of_ble_eq_true rfl, Nat.le_of_ble_eq_true rfl⟩) (fun H locs hP hD hS => ?_)
  refine lv_aload_n hx hb dX12_strokes_36 rfl (lv_at hl 1 rfl) ?_
  refine lv_iload_n hx hb dX12_strokes_37 rfl (lv_at hl 2 rfl) ?_
  refine lv_aload_n hx hb dX12_strokes_38 rfl (lv_at hl 1 rfl) ?_
  refine va_get (D := D) (ci := 12) (v := .ref q_d) (C := RX12) (T := TX12) (N := 26) hx hb hts in_X12_strokes_X12 hown hK.1 hP 0 rfl rfl 0 (by decide) (hts (.fieldLink RX12 7 "PaperBubblesModel" "d" "[I") (List.mem_of_getElem? (i := 1) rfl)) (fun _ h9 => h9) rfl dX12_strokes_39 ?_
  refine lv_bipush (v := 35) hx hb dX12_strokes_42 (by decide) ?_
  refine lv_iload_n hx hb dX12_strokes_44 rfl (lv_at hl 3 rfl) ?_
  refine lv_iadd hx hb dX12_strokes_45 ?_
  replace h := nm_ok h
  obtain ⟨t_14, et_14, h⟩ := h
  refine gTop et_14 ?_
  replace h := chi_ok h
  obtain ⟨hi_15, h⟩ := h
  refine va_iald hx hb hK.1 hP 1 0 rfl rfl hi_15 dX12_strokes_46 ?_
  replace h := nm_ok h
  obtain ⟨t_16, et_16, h⟩ := h
  refine gTop et_16 ?_
  replace h := kb_ok h
  obtain ⟨r_18, hc_17, h⟩ := h
  refine gCallIr (isC := [0, 1]) (wc := [(q_this, .inr (12, [.ref q_d, .ref q_kept, .int v_images, .ref q_found, .ref q_aside, .int v_base, .int v_at, .int v_size, .int v_fault, .int v_opened, .int v_isSeen, .ref q_names, .ref q_seenKept, .ref q_movedKept, .int v_isKeeping, .int v_bubbleMany, .int v_bubbleMost, .int v_bubbleCell, .int v_bestShown, .ref q_traced, .int v_traceMany, .int v_who, .ref q_bitsOf, .ref q_sizeOf, .ref q_number, .ref q_lifted])), (q_d, .inl (c 0, 244, .inl w_13))]) hP hD hS hA ⟨rfl, rfl, trivial⟩ (va_runV (rm := rm_X12_tearsOf) (ws := wsX12_tearsOf) (As := [.int a_1, .int t_16]) (rest := []) (gFix hF) (c_X12_tearsOf l D c q_this q_d q_kept q_found q_aside q_names q_seenKept q_movedKept q_traced q_bitsOf q_sizeOf q_number q_lifted a_1 t_16 v_images v_base v_at v_size v_fault v_opened v_isSeen v_isKeeping v_bubbleMany v_bubbleMost v_bubbleCell v_bestShown v_traceMany v_who w_13 r_18 hc_17 H.size) (cwV 2 hts gX12_strokes_X12_tearsOf rfl rfl rfl (by decide +kernel) ⟨Nat.le_of_ble_eq_true rfl, Nat.le_of_ble_eq_true rfl⟩) (gPreV (wc := [(q_this, .inr (12, [.ref q_d, .ref q_kept, .int v_images, .ref q_found, .ref q_aside, .int v_base, .int v_at, .int v_size, .int v_fault, .int v_opened, .int v_isSeen, .ref q_names, .ref q_seenKept, .ref q_movedKept, .int v_isKeeping, .int v_bubbleMany, .int v_bubbleMost, .int v_bubbleCell, .int v_bestShown, .ref q_traced, .int v_traceMany, .int v_who, .ref q_bitsOf, .ref q_sizeOf, .ref q_number, .ref q_lifted])), (q_d, .inl (c 0, 244, .inl w_13))]) (q := (RX12, TX12, 26)) (ci := 12) (q0 := 0) (isC := [0, 1]) hK hX hS hA hP hD ⟨rfl, rfl, trivial⟩ (by decide +kernel) rfl rfl) rfl rfl hl.1 rfl (lv_room (Nat.le_of_ble_eq_true rfl)) dX12_strokes_47 ⟨Nat.le_of_ble_eq_true rfl, Nat.le_of_ble_eq_true rfl⟩) (fun H locs hP hS => ?_)
  refine lv_istore (lv' := [(5, .int r_18), (4, .int r_5), (0, .ref q_this), (1, .int a_1), (2, .int a_2), (3, .int a_3)]) hx hb dX12_strokes_50 hl (by decide) rfl (fun ls hl => ?_)
  refine lv_aload_n hx hb dX12_strokes_52 rfl (lv_at hl 2 rfl) ?_
  refine va_get (D := D) (ci := 12) (v := .ref q_d) (C := RX12) (T := TX12) (N := 26) hx hb hts in_X12_strokes_X12 hown hK.1 hP 0 rfl rfl 0 (by decide) (hts (.fieldLink RX12 7 "PaperBubblesModel" "d" "[I") (List.mem_of_getElem? (i := 1) rfl)) (fun _ h9 => h9) rfl dX12_strokes_53 ?_
  refine lv_iconst (v := 3) hx hb dX12_strokes_56 (by decide) ?_
  refine lv_aload_n hx hb dX12_strokes_57 rfl (lv_at hl 2 rfl) ?_
  refine va_get (D := D) (ci := 12) (v := .ref q_d) (C := RX12) (T := TX12) (N := 26) hx hb hts in_X12_strokes_X12 hown hK.1 hP 0 rfl rfl 0 (by decide) (hts (.fieldLink RX12 7 "PaperBubblesModel" "d" "[I") (List.mem_of_getElem? (i := 1) rfl)) (fun _ h9 => h9) rfl dX12_strokes_58 ?_
  refine lv_iconst (v := 3) hx hb dX12_strokes_61 (by decide) ?_
  replace h := chi_ok h
  obtain ⟨hi_19, h⟩ := h
  refine va_iald hx hb hK.1 hP 1 0 rfl rfl hi_19 dX12_strokes_62 ?_
  replace h := nm_ok h
  obtain ⟨t_20, et_20, h⟩ := h
  refine gTop et_20 ?_
  refine lv_iload hx hb dX12_strokes_63 (lv_at hl 0 rfl) ?_
  refine lv_iadd hx hb dX12_strokes_65 ?_
  replace h := nm_ok h
  obtain ⟨t_21, et_21, h⟩ := h
  refine gTop et_21 ?_
  refine lv_ldc (v := 99999) hx hb hown (hts (.constant RX12 200 (99999)) (List.mem_of_getElem? (i := 2) rfl)) dX12_strokes_66 ?_
  refine lv_icmp_le (tgt := 76) hx hb dX12_strokes_68 (by decide) (fun c_22 => ?_) (fun c_22 => ?_)
  · replace h := it_t c_22 h
    refine lv_aload_n hx hb dX12_strokes_76 rfl (lv_at hl 2 rfl) ?_
    refine va_get (D := D) (ci := 12) (v := .ref q_d) (C := RX12) (T := TX12) (N := 26) hx hb hts in_X12_strokes_X12 hown hK.1 hP 0 rfl rfl 0 (by decide) (hts (.fieldLink RX12 7 "PaperBubblesModel" "d" "[I") (List.mem_of_getElem? (i := 1) rfl)) (fun _ h9 => h9) rfl dX12_strokes_77 ?_
    refine lv_iconst (v := 3) hx hb dX12_strokes_80 (by decide) ?_
    replace h := chi_ok h
    obtain ⟨hi_23, h⟩ := h
    refine va_iald hx hb hK.1 hP 1 0 rfl rfl hi_23 dX12_strokes_81 ?_
    replace h := nm_ok h
    obtain ⟨t_24, et_24, h⟩ := h
    refine gTop et_24 ?_
    refine lv_iload hx hb dX12_strokes_82 (lv_at hl 0 rfl) ?_
    refine lv_iadd hx hb dX12_strokes_84 ?_
    replace h := nm_ok h
    obtain ⟨t_25, et_25, h⟩ := h
    refine gTop et_25 ?_
    exact t_L85 3 t_25 v_base v_at v_size v_fault v_opened v_isSeen w_13 v_movedKept v_names H locs hP hD hS ls (lv_sub hl [2, 3, 4, 5] rfl) h
  · replace h := it_f c_22 h
    refine lv_ldc (v := 99999) hx hb hown (hts (.constant RX12 200 (99999)) (List.mem_of_getElem? (i := 2) rfl)) dX12_strokes_71 ?_
    refine lv_goto (tgt := 85) hx hb dX12_strokes_73 (by decide) ?_
    exact t_L85 3 99999 v_base v_at v_size v_fault v_opened v_isSeen w_13 v_movedKept v_names H locs hP hD hS ls (lv_sub hl [2, 3, 4, 5] rfl) h
set_option maxRecDepth 20000 in
theorem in_X12_bestOf_X12 : ∀ w ∈ u_ws RX12 TX12 26, w ∈ wsX12_bestOf := by decide +kernel
abbrev rm_X12_bestOf : Room := { frames := 59, cells := 0, slots := 0, locals := 1361 }
set_option maxHeartbeats 4000000 in
set_option maxRecDepth 100000 in
theorem c_X12_bestOf (l : Launch) (D : va_G) (c : Nat → ClassId) (q_this q_d q_kept q_found q_aside q_names q_seenKept q_movedKept q_traced q_bitsOf q_sizeOf q_number q_lifted : Nat) (a_1 : Int32) (a_2 : Int32) (v_images : Int32) (v_base : Int32) (v_at : Int32) (v_size : Int32) (v_fault : Int32) (v_opened : Int32) (v_isSeen : Int32) (v_isKeeping : Int32) (v_bubbleMany : Int32) (v_bubbleMost : Int32) (v_bubbleCell : Int32) (v_bestShown : Int32) (v_traceMany : Int32) (v_who : Int32) (v_aside : Nat → Int32) (v_d : Nat → Int32) (v_movedKept : Nat → Int32) (v_names : Nat → Int32) (v_seenKept : Nat → Int32) (o_r : Int32) (o_v_base : Int32) (o_v_at : Int32) (o_v_size : Int32) (o_v_fault : Int32) (o_v_opened : Int32) (o_v_isSeen : Int32) (o_v_bestShown : Int32) (o_v_aside : Nat → Int32) (o_v_d : Nat → Int32) (o_v_movedKept : Nat → Int32) (o_v_names : Nat → Int32) (o_v_seenKept : Nat → Int32) (h : f_X12_bestOf a_1 a_2 v_base v_at v_size v_fault v_opened v_isSeen v_isKeeping v_bestShown v_aside v_d v_movedKept v_names v_seenKept = some (o_r, o_v_base, o_v_at, o_v_size, o_v_fault, o_v_opened, o_v_isSeen, o_v_bestShown, o_v_aside, o_v_d, o_v_movedKept, o_v_names, o_v_seenKept)) : gMI l yX12_bestOf wsX12_bestOf rm_X12_bestOf D c [.ref q_this, .int a_1, .int a_2] [(q_this, .inr (12, [.ref q_d, .ref q_kept, .int v_images, .ref q_found, .ref q_aside, .int v_base, .int v_at, .int v_size, .int v_fault, .int v_opened, .int v_isSeen, .ref q_names, .ref q_seenKept, .ref q_movedKept, .int v_isKeeping, .int v_bubbleMany, .int v_bubbleMost, .int v_bubbleCell, .int v_bestShown, .ref q_traced, .int v_traceMany, .int v_who, .ref q_bitsOf, .ref q_sizeOf, .ref q_number, .ref q_lifted])), (q_aside, .inl (c 0, 120, .inl v_aside)), (q_d, .inl (c 0, 244, .inl v_d)), (q_movedKept, .inl (c 0, 1000, .inl v_movedKept)), (q_names, .inl (c 0, 3, .inl v_names)), (q_seenKept, .inl (c 0, 2500, .inl v_seenKept))] [(q_this, .inr (12, [.ref q_d, .ref q_kept, .int v_images, .ref q_found, .ref q_aside, .int o_v_base, .int o_v_at, .int o_v_size, .int o_v_fault, .int o_v_opened, .int o_v_isSeen, .ref q_names, .ref q_seenKept, .ref q_movedKept, .int v_isKeeping, .int v_bubbleMany, .int v_bubbleMost, .int v_bubbleCell, .int o_v_bestShown, .ref q_traced, .int v_traceMany, .int v_who, .ref q_bitsOf, .ref q_sizeOf, .ref q_number, .ref q_lifted])), (q_aside, .inl (c 0, 120, .inl o_v_aside)), (q_d, .inl (c 0, 244, .inl o_v_d)), (q_movedKept, .inl (c 0, 1000, .inl o_v_movedKept)), (q_names, .inl (c 0, 3, .inl o_v_names)), (q_seenKept, .inl (c 0, 2500, .inl o_v_seenKept))] o_r := by
  refine gMI_of (cc := cX12_bestOf) (maxL := 7) (rt := (some .int)) (by decide +kernel) rfl (Nat.le_of_ble_eq_true rfl) ?_
  intro p e s m below meth co A hF hK hX hP hD hA hS ls hl
  obtain ⟨hx, hb, hr, hts, hown, hlocks, hml⟩ := id hF
  have hl : lv_has ls 7 [(0, .ref q_this), (1, .int a_1), (2, .int a_2)] := hl
  have t_L66 : ∀ (kk_L22 : Int32 → Int32 → Int32 → Int32 → Int32 → Int32 → Int32 → Int32 → Int32 → Int32 → (Nat → Int32) → (Nat → Int32) → (Nat → Int32) → (Nat → Int32) → (Nat → Int32) → Option (Int32 × Int32 × Int32 × Int32 × Int32 × Int32 × Int32 × Int32 × (Nat → Int32) × (Nat → Int32) × (Nat → Int32) × (Nat → Int32) × (Nat → Int32))), (∀ (x3 : Int32) (x4 : Int32) (x5 : Int32) (v_base : Int32) (v_at : Int32) (v_size : Int32) (v_fault : Int32) (v_opened : Int32) (v_isSeen : Int32) (v_bestShown : Int32) (v_aside : Nat → Int32) (v_d : Nat → Int32) (v_movedKept : Nat → Int32) (v_names : Nat → Int32) (v_seenKept : Nat → Int32) (H : Heap) (locs : List Loc), va_P D gcl [(q_this, .inr (12, [.ref q_d, .ref q_kept, .int v_images, .ref q_found, .ref q_aside, .int v_base, .int v_at, .int v_size, .int v_fault, .int v_opened, .int v_isSeen, .ref q_names, .ref q_seenKept, .ref q_movedKept, .int v_isKeeping, .int v_bubbleMany, .int v_bubbleMost, .int v_bubbleCell, .int v_bestShown, .ref q_traced, .int v_traceMany, .int v_who, .ref q_bitsOf, .ref q_sizeOf, .ref q_number, .ref q_lifted])), (q_aside, .inl (c 0, 120, .inl v_aside)), (q_d, .inl (c 0, 244, .inl v_d)), (q_movedKept, .inl (c 0, 1000, .inl v_movedKept)), (q_names, .inl (c 0, 3, .inl v_names)), (q_seenKept, .inl (c 0, 2500, .inl v_seenKept))] H → va_D A [(q_this, .inr (12, [.ref q_d, .ref q_kept, .int v_images, .ref q_found, .ref q_aside, .int v_base, .int v_at, .int v_size, .int v_fault, .int v_opened, .int v_isSeen, .ref q_names, .ref q_seenKept, .ref q_movedKept, .int v_isKeeping, .int v_bubbleMany, .int v_bubbleMost, .int v_bubbleCell, .int v_bestShown, .ref q_traced, .int v_traceMany, .int v_who, .ref q_bitsOf, .ref q_sizeOf, .ref q_number, .ref q_lifted])), (q_aside, .inl (c 0, 120, .inl v_aside)), (q_d, .inl (c 0, 244, .inl v_d)), (q_movedKept, .inl (c 0, 1000, .inl v_movedKept)), (q_names, .inl (c 0, 3, .inl v_names)), (q_seenKept, .inl (c 0, 2500, .inl v_seenKept))] → va_S A s.heap H locs → ∀ ls, lv_has ls 7 [(0, .ref q_this), (1, .int a_1), (2, .int a_2), (3, .int x3), (4, .int x4), (5, .int x5)] → kk_L22 x3 x4 x5 v_base v_at v_size v_fault v_opened v_isSeen v_bestShown v_aside v_d v_movedKept v_names v_seenKept = some (o_r, o_v_base, o_v_at, o_v_size, o_v_fault, o_v_opened, o_v_isSeen, o_v_bestShown, o_v_aside, o_v_d, o_v_movedKept, o_v_names, o_v_seenKept) → W p l e (headSpec wsX12_bestOf rm_X12_bestOf).room s m [.ref q_this, .int a_1, .int a_2].toArray below meth co H locs 0 0 (gQI D [(q_this, .inr (12, [.ref q_d, .ref q_kept, .int v_images, .ref q_found, .ref q_aside, .int o_v_base, .int o_v_at, .int o_v_size, .int o_v_fault, .int o_v_opened, .int o_v_isSeen, .ref q_names, .ref q_seenKept, .ref q_movedKept, .int v_isKeeping, .int v_bubbleMany, .int v_bubbleMost, .int v_bubbleCell, .int o_v_bestShown, .ref q_traced, .int v_traceMany, .int v_who, .ref q_bitsOf, .ref q_sizeOf, .ref q_number, .ref q_lifted])), (q_aside, .inl (c 0, 120, .inl o_v_aside)), (q_d, .inl (c 0, 244, .inl o_v_d)), (q_movedKept, .inl (c 0, 1000, .inl o_v_movedKept)), (q_names, .inl (c 0, 3, .inl o_v_names)), (q_seenKept, .inl (c 0, 2500, .inl o_v_seenKept))] o_r A below [.ref q_this, .int a_1, .int a_2] s) (F0 m 22 ls [])) → ∀ (x4 : Int32) (x5 : Int32) (x6 : Int32) (v_base : Int32) (v_at : Int32) (v_size : Int32) (v_fault : Int32) (v_opened : Int32) (v_isSeen : Int32) (v_bestShown : Int32) (v_aside : Nat → Int32) (v_d : Nat → Int32) (v_movedKept : Nat → Int32) (v_names : Nat → Int32) (v_seenKept : Nat → Int32) (H : Heap) (locs : List Loc), va_P D gcl [(q_this, .inr (12, [.ref q_d, .ref q_kept, .int v_images, .ref q_found, .ref q_aside, .int v_base, .int v_at, .int v_size, .int v_fault, .int v_opened, .int v_isSeen, .ref q_names, .ref q_seenKept, .ref q_movedKept, .int v_isKeeping, .int v_bubbleMany, .int v_bubbleMost, .int v_bubbleCell, .int v_bestShown, .ref q_traced, .int v_traceMany, .int v_who, .ref q_bitsOf, .ref q_sizeOf, .ref q_number, .ref q_lifted])), (q_aside, .inl (c 0, 120, .inl v_aside)), (q_d, .inl (c 0, 244, .inl v_d)), (q_movedKept, .inl (c 0, 1000, .inl v_movedKept)), (q_names, .inl (c 0, 3, .inl v_names)), (q_seenKept, .inl (c 0, 2500, .inl v_seenKept))] H → va_D A [(q_this, .inr (12, [.ref q_d, .ref q_kept, .int v_images, .ref q_found, .ref q_aside, .int v_base, .int v_at, .int v_size, .int v_fault, .int v_opened, .int v_isSeen, .ref q_names, .ref q_seenKept, .ref q_movedKept, .int v_isKeeping, .int v_bubbleMany, .int v_bubbleMost, .int v_bubbleCell, .int v_bestShown, .ref q_traced, .int v_traceMany, .int v_who, .ref q_bitsOf, .ref q_sizeOf, .ref q_number, .ref q_lifted])), (q_aside, .inl (c 0, 120, .inl v_aside)), (q_d, .inl (c 0, 244, .inl v_d)), (q_movedKept, .inl (c 0, 1000, .inl v_movedKept)), (q_names, .inl (c 0, 3, .inl v_names)), (q_seenKept, .inl (c 0, 2500, .inl v_seenKept))] → va_S A s.heap H locs → ∀ ls, lv_has ls 7 [(0, .ref q_this), (1, .int a_1), (2, .int a_2), (4, .int x4), (5, .int x5), (6, .int x6)] → f_X12_bestOf_L66 kk_L22 a_1 a_2 v_isKeeping x4 x5 x6 v_base v_at v_size v_fault v_opened v_isSeen v_aside v_d v_movedKept v_names v_seenKept = some (o_r, o_v_base, o_v_at, o_v_size, o_v_fault, o_v_opened, o_v_isSeen, o_v_bestShown, o_v_aside, o_v_d, o_v_movedKept, o_v_names, o_v_seenKept) → W p l e (headSpec wsX12_bestOf rm_X12_bestOf).room s m [.ref q_this, .int a_1, .int a_2].toArray below meth co H locs 0 0 (gQI D [(q_this, .inr (12, [.ref q_d, .ref q_kept, .int v_images, .ref q_found, .ref q_aside, .int o_v_base, .int o_v_at, .int o_v_size, .int o_v_fault, .int o_v_opened, .int o_v_isSeen, .ref q_names, .ref q_seenKept, .ref q_movedKept, .int v_isKeeping, .int v_bubbleMany, .int v_bubbleMost, .int v_bubbleCell, .int o_v_bestShown, .ref q_traced, .int v_traceMany, .int v_who, .ref q_bitsOf, .ref q_sizeOf, .ref q_number, .ref q_lifted])), (q_aside, .inl (c 0, 120, .inl o_v_aside)), (q_d, .inl (c 0, 244, .inl o_v_d)), (q_movedKept, .inl (c 0, 1000, .inl o_v_movedKept)), (q_names, .inl (c 0, 3, .inl o_v_names)), (q_seenKept, .inl (c 0, 2500, .inl o_v_seenKept))] o_r A below [.ref q_this, .int a_1, .int a_2] s) (F0 m 66 ls []) := by
    intro kk_L22 hkk_L22 x4 x5 x6 v_base v_at v_size v_fault v_opened v_isSeen v_bestShown v_aside v_d v_movedKept v_names v_seenKept H locs hP hD hS ls hl h
    unfold f_X12_bestOf_L66 at h
    refine lv_bipush (v := 10) hx hb dX12_bestOf_66 (by decide) ?_
    refine lv_iload hx hb dX12_bestOf_68 (lv_at hl 3 rfl) ?_
    refine lv_imul hx hb dX12_bestOf_70 ?_
    replace h := nm_ok h
    obtain ⟨t_33, et_33, h⟩ := h
    refine gTop et_33 ?_
    refine lv_iload hx hb dX12_bestOf_71 (lv_at hl 4 rfl) ?_
    refine lv_iadd hx hb dX12_bestOf_73 ?_
    replace h := nm_ok h
    obtain ⟨t_34, et_34, h⟩ := h
    refine gTop et_34 ?_
    refine lv_istore_n (lv' := [(3, .int t_34), (0, .ref q_this), (1, .int a_1), (2, .int a_2), (4, .int x4), (5, .int x5), (6, .int x6)]) hx hb dX12_bestOf_74 rfl hl (by decide) rfl (fun ls hl => ?_)
    refine lv_aload_n hx hb dX12_bestOf_75 rfl (lv_at hl 1 rfl) ?_
    refine lv_iload hx hb dX12_bestOf_76 (lv_at hl 6 rfl) ?_
    refine va_put (D := D) (ci := 12) (v := .int x6) (ty := .int) (C := RX12) (T := TX12) (N := 26) hx hb hts in_X12_bestOf_X12 tyX12 tyX12_ok nmX12 hown hK.1 hP hD hS 0 rfl rfl 18 (by decide) (hts (.fieldLink RX12 233 "PaperBubblesModel" "bestShown" "I") (List.mem_of_getElem? (i := 1) rfl)) (fun _ h9 => h9) rfl (by decide +kernel) rfl rfl (Nat.le_of_ble_eq_true rfl) dX12_bestOf_78 (fun H locs hP hD hS => ?_)
    have hP : va_P D gcl [(q_this, .inr (12, [.ref q_d, .ref q_kept, .int v_images, .ref q_found, .ref q_aside, .int v_base, .int v_at, .int v_size, .int v_fault, .int v_opened, .int v_isSeen, .ref q_names, .ref q_seenKept, .ref q_movedKept, .int v_isKeeping, .int v_bubbleMany, .int v_bubbleMost, .int v_bubbleCell, .int x6, .ref q_traced, .int v_traceMany, .int v_who, .ref q_bitsOf, .ref q_sizeOf, .ref q_number, .ref q_lifted])), (q_aside, .inl (c 0, 120, .inl v_aside)), (q_d, .inl (c 0, 244, .inl v_d)), (q_movedKept, .inl (c 0, 1000, .inl v_movedKept)), (q_names, .inl (c 0, 3, .inl v_names)), (q_seenKept, .inl (c 0, 2500, .inl v_seenKept))] H := hP
    have hD : va_D A [(q_this, .inr (12, [.ref q_d, .ref q_kept, .int v_images, .ref q_found, .ref q_aside, .int v_base, .int v_at, .int v_size, .int v_fault, .int v_opened, .int v_isSeen, .ref q_names, .ref q_seenKept, .ref q_movedKept, .int v_isKeeping, .int v_bubbleMany, .int v_bubbleMost, .int v_bubbleCell, .int x6, .ref q_traced, .int v_traceMany, .int v_who, .ref q_bitsOf, .ref q_sizeOf, .ref q_number, .ref q_lifted])), (q_aside, .inl (c 0, 120, .inl v_aside)), (q_d, .inl (c 0, 244, .inl v_d)), (q_movedKept, .inl (c 0, 1000, .inl v_movedKept)), (q_names, .inl (c 0, 3, .inl v_names)), (q_seenKept, .inl (c 0, 2500, .inl v_seenKept))] := hD
    replace h := nm_ok h
    obtain ⟨t_35, et_35, h⟩ := h
    refine lv_iinc (v := t_35) (lv' := [(5, .int t_35), (3, .int t_34), (0, .ref q_this), (1, .int a_1), (2, .int a_2), (4, .int x4), (6, .int x6)]) hx hb dX12_bestOf_81 hl (k := 5) rfl (by rw [et_35]; rfl) (by decide) rfl (fun ls hl => ?_)
    refine lv_goto (tgt := 22) hx hb dX12_bestOf_84 (by decide) ?_
    exact hkk_L22 t_34 x4 t_35 v_base v_at v_size v_fault v_opened v_isSeen x6 v_aside v_d v_movedKept v_names v_seenKept H locs hP hD hS ls (lv_sub hl [2, 3, 4, 1, 5, 0] rfl) h
  have t_L22 : ∀ (kk_L10 : Int32 → Int32 → Int32 → Int32 → Int32 → Int32 → Int32 → Int32 → Int32 → (Nat → Int32) → (Nat → Int32) → (Nat → Int32) → (Nat → Int32) → (Nat → Int32) → Option (Int32 × Int32 × Int32 × Int32 × Int32 × Int32 × Int32 × Int32 × (Nat → Int32) × (Nat → Int32) × (Nat → Int32) × (Nat → Int32) × (Nat → Int32))), (∀ (x3 : Int32) (x4 : Int32) (v_base : Int32) (v_at : Int32) (v_size : Int32) (v_fault : Int32) (v_opened : Int32) (v_isSeen : Int32) (v_bestShown : Int32) (v_aside : Nat → Int32) (v_d : Nat → Int32) (v_movedKept : Nat → Int32) (v_names : Nat → Int32) (v_seenKept : Nat → Int32) (H : Heap) (locs : List Loc), va_P D gcl [(q_this, .inr (12, [.ref q_d, .ref q_kept, .int v_images, .ref q_found, .ref q_aside, .int v_base, .int v_at, .int v_size, .int v_fault, .int v_opened, .int v_isSeen, .ref q_names, .ref q_seenKept, .ref q_movedKept, .int v_isKeeping, .int v_bubbleMany, .int v_bubbleMost, .int v_bubbleCell, .int v_bestShown, .ref q_traced, .int v_traceMany, .int v_who, .ref q_bitsOf, .ref q_sizeOf, .ref q_number, .ref q_lifted])), (q_aside, .inl (c 0, 120, .inl v_aside)), (q_d, .inl (c 0, 244, .inl v_d)), (q_movedKept, .inl (c 0, 1000, .inl v_movedKept)), (q_names, .inl (c 0, 3, .inl v_names)), (q_seenKept, .inl (c 0, 2500, .inl v_seenKept))] H → va_D A [(q_this, .inr (12, [.ref q_d, .ref q_kept, .int v_images, .ref q_found, .ref q_aside, .int v_base, .int v_at, .int v_size, .int v_fault, .int v_opened, .int v_isSeen, .ref q_names, .ref q_seenKept, .ref q_movedKept, .int v_isKeeping, .int v_bubbleMany, .int v_bubbleMost, .int v_bubbleCell, .int v_bestShown, .ref q_traced, .int v_traceMany, .int v_who, .ref q_bitsOf, .ref q_sizeOf, .ref q_number, .ref q_lifted])), (q_aside, .inl (c 0, 120, .inl v_aside)), (q_d, .inl (c 0, 244, .inl v_d)), (q_movedKept, .inl (c 0, 1000, .inl v_movedKept)), (q_names, .inl (c 0, 3, .inl v_names)), (q_seenKept, .inl (c 0, 2500, .inl v_seenKept))] → va_S A s.heap H locs → ∀ ls, lv_has ls 7 [(0, .ref q_this), (1, .int a_1), (2, .int a_2), (3, .int x3), (4, .int x4)] → kk_L10 x3 x4 v_base v_at v_size v_fault v_opened v_isSeen v_bestShown v_aside v_d v_movedKept v_names v_seenKept = some (o_r, o_v_base, o_v_at, o_v_size, o_v_fault, o_v_opened, o_v_isSeen, o_v_bestShown, o_v_aside, o_v_d, o_v_movedKept, o_v_names, o_v_seenKept) → W p l e (headSpec wsX12_bestOf rm_X12_bestOf).room s m [.ref q_this, .int a_1, .int a_2].toArray below meth co H locs 0 0 (gQI D [(q_this, .inr (12, [.ref q_d, .ref q_kept, .int v_images, .ref q_found, .ref q_aside, .int o_v_base, .int o_v_at, .int o_v_size, .int o_v_fault, .int o_v_opened, .int o_v_isSeen, .ref q_names, .ref q_seenKept, .ref q_movedKept, .int v_isKeeping, .int v_bubbleMany, .int v_bubbleMost, .int v_bubbleCell, .int o_v_bestShown, .ref q_traced, .int v_traceMany, .int v_who, .ref q_bitsOf, .ref q_sizeOf, .ref q_number, .ref q_lifted])), (q_aside, .inl (c 0, 120, .inl o_v_aside)), (q_d, .inl (c 0, 244, .inl o_v_d)), (q_movedKept, .inl (c 0, 1000, .inl o_v_movedKept)), (q_names, .inl (c 0, 3, .inl o_v_names)), (q_seenKept, .inl (c 0, 2500, .inl o_v_seenKept))] o_r A below [.ref q_this, .int a_1, .int a_2] s) (F0 m 10 ls [])) → ∀ (n : Nat), ∀ (x3 : Int32) (x4 : Int32) (x5 : Int32) (v_base : Int32) (v_at : Int32) (v_size : Int32) (v_fault : Int32) (v_opened : Int32) (v_isSeen : Int32) (v_bestShown : Int32) (v_aside : Nat → Int32) (v_d : Nat → Int32) (v_movedKept : Nat → Int32) (v_names : Nat → Int32) (v_seenKept : Nat → Int32) (H : Heap) (locs : List Loc), va_P D gcl [(q_this, .inr (12, [.ref q_d, .ref q_kept, .int v_images, .ref q_found, .ref q_aside, .int v_base, .int v_at, .int v_size, .int v_fault, .int v_opened, .int v_isSeen, .ref q_names, .ref q_seenKept, .ref q_movedKept, .int v_isKeeping, .int v_bubbleMany, .int v_bubbleMost, .int v_bubbleCell, .int v_bestShown, .ref q_traced, .int v_traceMany, .int v_who, .ref q_bitsOf, .ref q_sizeOf, .ref q_number, .ref q_lifted])), (q_aside, .inl (c 0, 120, .inl v_aside)), (q_d, .inl (c 0, 244, .inl v_d)), (q_movedKept, .inl (c 0, 1000, .inl v_movedKept)), (q_names, .inl (c 0, 3, .inl v_names)), (q_seenKept, .inl (c 0, 2500, .inl v_seenKept))] H → va_D A [(q_this, .inr (12, [.ref q_d, .ref q_kept, .int v_images, .ref q_found, .ref q_aside, .int v_base, .int v_at, .int v_size, .int v_fault, .int v_opened, .int v_isSeen, .ref q_names, .ref q_seenKept, .ref q_movedKept, .int v_isKeeping, .int v_bubbleMany, .int v_bubbleMost, .int v_bubbleCell, .int v_bestShown, .ref q_traced, .int v_traceMany, .int v_who, .ref q_bitsOf, .ref q_sizeOf, .ref q_number, .ref q_lifted])), (q_aside, .inl (c 0, 120, .inl v_aside)), (q_d, .inl (c 0, 244, .inl v_d)), (q_movedKept, .inl (c 0, 1000, .inl v_movedKept)), (q_names, .inl (c 0, 3, .inl v_names)), (q_seenKept, .inl (c 0, 2500, .inl v_seenKept))] → va_S A s.heap H locs → ∀ ls, lv_has ls 7 [(0, .ref q_this), (1, .int a_1), (2, .int a_2), (3, .int x3), (4, .int x4), (5, .int x5)] → f_X12_bestOf_L22 kk_L10 a_1 a_2 v_isKeeping n x3 x4 x5 v_base v_at v_size v_fault v_opened v_isSeen v_bestShown v_aside v_d v_movedKept v_names v_seenKept = some (o_r, o_v_base, o_v_at, o_v_size, o_v_fault, o_v_opened, o_v_isSeen, o_v_bestShown, o_v_aside, o_v_d, o_v_movedKept, o_v_names, o_v_seenKept) → W p l e (headSpec wsX12_bestOf rm_X12_bestOf).room s m [.ref q_this, .int a_1, .int a_2].toArray below meth co H locs 0 0 (gQI D [(q_this, .inr (12, [.ref q_d, .ref q_kept, .int v_images, .ref q_found, .ref q_aside, .int o_v_base, .int o_v_at, .int o_v_size, .int o_v_fault, .int o_v_opened, .int o_v_isSeen, .ref q_names, .ref q_seenKept, .ref q_movedKept, .int v_isKeeping, .int v_bubbleMany, .int v_bubbleMost, .int v_bubbleCell, .int o_v_bestShown, .ref q_traced, .int v_traceMany, .int v_who, .ref q_bitsOf, .ref q_sizeOf, .ref q_number, .ref q_lifted])), (q_aside, .inl (c 0, 120, .inl o_v_aside)), (q_d, .inl (c 0, 244, .inl o_v_d)), (q_movedKept, .inl (c 0, 1000, .inl o_v_movedKept)), (q_names, .inl (c 0, 3, .inl o_v_names)), (q_seenKept, .inl (c 0, 2500, .inl o_v_seenKept))] o_r A below [.ref q_this, .int a_1, .int a_2] s) (F0 m 22 ls []) := by
    intro kk_L10 hkk_L10
    intro n
    induction n with
    | zero => intro x3 x4 x5 v_base v_at v_size v_fault v_opened v_isSeen v_bestShown v_aside v_d v_movedKept v_names v_seenKept H locs hP hD hS ls hl h; exact no_ok h
    | succ n ih =>
      intro x3 x4 x5 v_base v_at v_size v_fault v_opened v_isSeen v_bestShown v_aside v_d v_movedKept v_names v_seenKept H locs hP hD hS ls hl h
      rw [f_X12_bestOf_L22] at h
      refine lv_iload hx hb dX12_bestOf_22 (lv_at hl 5 rfl) ?_
      refine lv_iconst (v := 4) hx hb dX12_bestOf_24 (by decide) ?_
      refine lv_icmp_ge (tgt := 87) hx hb dX12_bestOf_25 (by decide) (fun c_4 => ?_) (fun c_4 => ?_)
      · replace h := it_t c_4 h
        replace h := nm_ok h
        obtain ⟨t_5, et_5, h⟩ := h
        refine lv_iinc (v := t_5) (lv' := [(4, .int t_5), (0, .ref q_this), (1, .int a_1), (2, .int a_2), (3, .int x3), (5, .int x5)]) hx hb dX12_bestOf_87 hl (k := 4) rfl (by rw [et_5]; rfl) (by decide) rfl (fun ls hl => ?_)
        refine lv_goto (tgt := 10) hx hb dX12_bestOf_90 (by decide) ?_
        exact hkk_L10 x3 t_5 v_base v_at v_size v_fault v_opened v_isSeen v_bestShown v_aside v_d v_movedKept v_names v_seenKept H locs hP hD hS ls (lv_sub hl [1, 2, 3, 4, 0] rfl) h
      · replace h := it_f c_4 h
        refine lv_aload_n hx hb dX12_bestOf_28 rfl (lv_at hl 0 rfl) ?_
        refine lv_iload_n hx hb dX12_bestOf_29 rfl (lv_at hl 2 rfl) ?_
        replace h := kb_ok h
        obtain ⟨w_7, hc_6, h⟩ := h
        refine gCallV (isC := [0, 1, 2]) (wc := [(q_this, .inr (12, [.ref q_d, .ref q_kept, .int v_images, .ref q_found, .ref q_aside, .int v_base, .int v_at, .int v_size, .int v_fault, .int v_opened, .int v_isSeen, .ref q_names, .ref q_seenKept, .ref q_movedKept, .int v_isKeeping, .int v_bubbleMany, .int v_bubbleMost, .int v_bubbleCell, .int v_bestShown, .ref q_traced, .int v_traceMany, .int v_who, .ref q_bitsOf, .ref q_sizeOf, .ref q_number, .ref q_lifted])), (q_aside, .inl (c 0, 120, .inl v_aside)), (q_d, .inl (c 0, 244, .inl v_d))]) (w1 := [(q_this, .inr (12, [.ref q_d, .ref q_kept, .int v_images, .ref q_found, .ref q_aside, .int v_base, .int v_at, .int v_size, .int v_fault, .int v_opened, .int v_isSeen, .ref q_names, .ref q_seenKept, .ref q_movedKept, .int v_isKeeping, .int v_bubbleMany, .int v_bubbleMost, .int v_bubbleCell, .int v_bestShown, .ref q_traced, .int v_traceMany, .int v_who, .ref q_bitsOf, .ref q_sizeOf, .ref q_number, .ref q_lifted])), (q_aside, .inl (c 0, 120, .inl w_7)), (q_d, .inl (c 0, 244, .inl v_d))]) (ws2 := [(q_this, .inr (12, [.ref q_d, .ref q_kept, .int v_images, .ref q_found, .ref q_aside, .int v_base, .int v_at, .int v_size, .int v_fault, .int v_opened, .int v_isSeen, .ref q_names, .ref q_seenKept, .ref q_movedKept, .int v_isKeeping, .int v_bubbleMany, .int v_bubbleMost, .int v_bubbleCell, .int v_bestShown, .ref q_traced, .int v_traceMany, .int v_who, .ref q_bitsOf, .ref q_sizeOf, .ref q_number, .ref q_lifted])), (q_aside, .inl (c 0, 120, .inl w_7)), (q_d, .inl (c 0, 244, .inl v_d)), (q_movedKept, .inl (c 0, 1000, .inl v_movedKept)), (q_names, .inl (c 0, 3, .inl v_names)), (q_seenKept, .inl (c 0, 2500, .inl v_seenKept))]) (ms := [(some 0), (some 1), (some 2), none, none, none]) hP hD hS hA ⟨rfl, rfl, rfl, trivial⟩ (by decide +kernel) ⟨rfl, rfl, rfl, rfl, rfl, rfl, trivial⟩ (va_runV (rm := rm_X12_keepAside) (ws := wsX12_keepAside) (As := [.int a_2]) (rest := []) (gFix hF) (c_X12_keepAside l D c q_this q_d q_kept q_found q_aside q_names q_seenKept q_movedKept q_traced q_bitsOf q_sizeOf q_number q_lifted a_2 v_images v_base v_at v_size v_fault v_opened v_isSeen v_isKeeping v_bubbleMany v_bubbleMost v_bubbleCell v_bestShown v_traceMany v_who v_aside v_d w_7 hc_6 H.size) (cwV 1 hts gX12_bestOf_X12_keepAside rfl rfl rfl (by decide +kernel) ⟨Nat.le_of_ble_eq_true rfl, Nat.le_of_ble_eq_true rfl⟩) (gPreV (wc := [(q_this, .inr (12, [.ref q_d, .ref q_kept, .int v_images, .ref q_found, .ref q_aside, .int v_base, .int v_at, .int v_size, .int v_fault, .int v_opened, .int v_isSeen, .ref q_names, .ref q_seenKept, .ref q_movedKept, .int v_isKeeping, .int v_bubbleMany, .int v_bubbleMost, .int v_bubbleCell, .int v_bestShown, .ref q_traced, .int v_traceMany, .int v_who, .ref q_bitsOf, .ref q_sizeOf, .ref q_number, .ref q_lifted])), (q_aside, .inl (c 0, 120, .inl v_aside)), (q_d, .inl (c 0, 244, .inl v_d))]) (q := (RX12, TX12, 26)) (ci := 12) (q0 := 0) (isC := [0, 1, 2]) hK hX hS hA hP hD ⟨rfl, rfl, rfl, trivial⟩ (by decide +kernel) rfl rfl) rfl rfl hl.1 rfl (lv_room (Nat.le_of_ble_eq_true rfl)) dX12_bestOf_30 ⟨Nat.le_of_ble_eq_true rfl, Nat.le_of_ble_eq_true rfl⟩) (fun H locs hP hD hS => ?_)
        refine lv_aload_n hx hb dX12_bestOf_33 rfl (lv_at hl 0 rfl) ?_
        refine lv_iload_n hx hb dX12_bestOf_34 rfl (lv_at hl 1 rfl) ?_
        refine lv_iload hx hb dX12_bestOf_35 (lv_at hl 4 rfl) ?_
        refine lv_iload hx hb dX12_bestOf_37 (lv_at hl 5 rfl) ?_
        replace h := kb9_ok h
        obtain ⟨w_9, w_10, w_11, w_12, w_13, w_14, w_15, w_16, w_17, hc_8, h⟩ := h
        refine gCallV (isC := [0, 2, 3, 4]) (wc := [(q_this, .inr (12, [.ref q_d, .ref q_kept, .int v_images, .ref q_found, .ref q_aside, .int v_base, .int v_at, .int v_size, .int v_fault, .int v_opened, .int v_isSeen, .ref q_names, .ref q_seenKept, .ref q_movedKept, .int v_isKeeping, .int v_bubbleMany, .int v_bubbleMost, .int v_bubbleCell, .int v_bestShown, .ref q_traced, .int v_traceMany, .int v_who, .ref q_bitsOf, .ref q_sizeOf, .ref q_number, .ref q_lifted])), (q_d, .inl (c 0, 244, .inl v_d)), (q_movedKept, .inl (c 0, 1000, .inl v_movedKept)), (q_names, .inl (c 0, 3, .inl v_names))]) (w1 := [(q_this, .inr (12, [.ref q_d, .ref q_kept, .int v_images, .ref q_found, .ref q_aside, .int w_9, .int w_10, .int w_11, .int w_12, .int w_13, .int w_14, .ref q_names, .ref q_seenKept, .ref q_movedKept, .int v_isKeeping, .int v_bubbleMany, .int v_bubbleMost, .int v_bubbleCell, .int v_bestShown, .ref q_traced, .int v_traceMany, .int v_who, .ref q_bitsOf, .ref q_sizeOf, .ref q_number, .ref q_lifted])), (q_d, .inl (c 0, 244, .inl w_15)), (q_movedKept, .inl (c 0, 1000, .inl w_16)), (q_names, .inl (c 0, 3, .inl w_17))]) (ws2 := [(q_this, .inr (12, [.ref q_d, .ref q_kept, .int v_images, .ref q_found, .ref q_aside, .int w_9, .int w_10, .int w_11, .int w_12, .int w_13, .int w_14, .ref q_names, .ref q_seenKept, .ref q_movedKept, .int v_isKeeping, .int v_bubbleMany, .int v_bubbleMost, .int v_bubbleCell, .int v_bestShown, .ref q_traced, .int v_traceMany, .int v_who, .ref q_bitsOf, .ref q_sizeOf, .ref q_number, .ref q_lifted])), (q_aside, .inl (c 0, 120, .inl w_7)), (q_d, .inl (c 0, 244, .inl w_15)), (q_movedKept, .inl (c 0, 1000, .inl w_16)), (q_names, .inl (c 0, 3, .inl w_17)), (q_seenKept, .inl (c 0, 2500, .inl v_seenKept))]) (ms := [(some 0), none, (some 1), (some 2), (some 3), none]) hP hD hS hA ⟨rfl, rfl, rfl, rfl, trivial⟩ (by decide +kernel) ⟨rfl, rfl, rfl, rfl, rfl, rfl, trivial⟩ (va_runV (rm := rm_X12_strokes) (ws := wsX12_strokes) (As := [.int a_1, .int x4, .int x5]) (rest := []) (gFix hF) (c_X12_strokes l D c q_this q_d q_kept q_found q_aside q_names q_seenKept q_movedKept q_traced q_bitsOf q_sizeOf q_number q_lifted a_1 x4 x5 v_images v_base v_at v_size v_fault v_opened v_isSeen v_isKeeping v_bubbleMany v_bubbleMost v_bubbleCell v_bestShown v_traceMany v_who v_d v_movedKept v_names w_9 w_10 w_11 w_12 w_13 w_14 w_15 w_16 w_17 hc_8 H.size) (cwV 3 hts gX12_bestOf_X12_strokes rfl rfl rfl (by decide +kernel) ⟨Nat.le_of_ble_eq_true rfl, Nat.le_of_ble_eq_true rfl⟩) (gPreV (wc := [(q_this, .inr (12, [.ref q_d, .ref q_kept, .int v_images, .ref q_found, .ref q_aside, .int v_base, .int v_at, .int v_size, .int v_fault, .int v_opened, .int v_isSeen, .ref q_names, .ref q_seenKept, .ref q_movedKept, .int v_isKeeping, .int v_bubbleMany, .int v_bubbleMost, .int v_bubbleCell, .int v_bestShown, .ref q_traced, .int v_traceMany, .int v_who, .ref q_bitsOf, .ref q_sizeOf, .ref q_number, .ref q_lifted])), (q_d, .inl (c 0, 244, .inl v_d)), (q_movedKept, .inl (c 0, 1000, .inl v_movedKept)), (q_names, .inl (c 0, 3, .inl v_names))]) (q := (RX12, TX12, 26)) (ci := 12) (q0 := 0) (isC := [0, 2, 3, 4]) hK hX hS hA hP hD ⟨rfl, rfl, rfl, rfl, trivial⟩ (by decide +kernel) rfl rfl) rfl rfl hl.1 rfl (lv_room (Nat.le_of_ble_eq_true rfl)) dX12_bestOf_39 ⟨Nat.le_of_ble_eq_true rfl, Nat.le_of_ble_eq_true rfl⟩) (fun H locs hP hD hS => ?_)
        refine lv_aload_n hx hb dX12_bestOf_42 rfl (lv_at hl 0 rfl) ?_
        replace h := kb9_ok h
        obtain ⟨r_19, w_20, w_21, w_22, w_23, w_24, w_25, w_26, w_27, hc_18, h⟩ := h
        refine gCallI (isC := [0, 2, 4, 5]) (wc := [(q_this, .inr (12, [.ref q_d, .ref q_kept, .int v_images, .ref q_found, .ref q_aside, .int w_9, .int w_10, .int w_11, .int w_12, .int w_13, .int w_14, .ref q_names, .ref q_seenKept, .ref q_movedKept, .int v_isKeeping, .int v_bubbleMany, .int v_bubbleMost, .int v_bubbleCell, .int v_bestShown, .ref q_traced, .int v_traceMany, .int v_who, .ref q_bitsOf, .ref q_sizeOf, .ref q_number, .ref q_lifted])), (q_d, .inl (c 0, 244, .inl w_15)), (q_names, .inl (c 0, 3, .inl w_17)), (q_seenKept, .inl (c 0, 2500, .inl v_seenKept))]) (w1 := [(q_this, .inr (12, [.ref q_d, .ref q_kept, .int v_images, .ref q_found, .ref q_aside, .int w_20, .int w_21, .int w_22, .int w_23, .int w_24, .int w_25, .ref q_names, .ref q_seenKept, .ref q_movedKept, .int v_isKeeping, .int v_bubbleMany, .int v_bubbleMost, .int v_bubbleCell, .int v_bestShown, .ref q_traced, .int v_traceMany, .int v_who, .ref q_bitsOf, .ref q_sizeOf, .ref q_number, .ref q_lifted])), (q_d, .inl (c 0, 244, .inl w_15)), (q_names, .inl (c 0, 3, .inl w_26)), (q_seenKept, .inl (c 0, 2500, .inl w_27))]) (ws2 := [(q_this, .inr (12, [.ref q_d, .ref q_kept, .int v_images, .ref q_found, .ref q_aside, .int w_20, .int w_21, .int w_22, .int w_23, .int w_24, .int w_25, .ref q_names, .ref q_seenKept, .ref q_movedKept, .int v_isKeeping, .int v_bubbleMany, .int v_bubbleMost, .int v_bubbleCell, .int v_bestShown, .ref q_traced, .int v_traceMany, .int v_who, .ref q_bitsOf, .ref q_sizeOf, .ref q_number, .ref q_lifted])), (q_aside, .inl (c 0, 120, .inl w_7)), (q_d, .inl (c 0, 244, .inl w_15)), (q_movedKept, .inl (c 0, 1000, .inl w_16)), (q_names, .inl (c 0, 3, .inl w_26)), (q_seenKept, .inl (c 0, 2500, .inl w_27))]) (ms := [(some 0), none, (some 1), none, (some 2), (some 3)]) hP hD hS hA ⟨rfl, rfl, rfl, rfl, trivial⟩ (by decide +kernel) ⟨rfl, rfl, rfl, rfl, rfl, rfl, trivial⟩ (va_runV (rm := rm_X12_seen) (ws := wsX12_seen) (As := []) (rest := []) (gFix hF) (c_X12_seen l D c q_this q_d q_kept q_found q_aside q_names q_seenKept q_movedKept q_traced q_bitsOf q_sizeOf q_number q_lifted v_images w_9 w_10 w_11 w_12 w_13 w_14 v_isKeeping v_bubbleMany v_bubbleMost v_bubbleCell v_bestShown v_traceMany v_who w_15 w_17 v_seenKept r_19 w_20 w_21 w_22 w_23 w_24 w_25 w_26 w_27 hc_18 H.size) (cwV 0 hts gX12_bestOf_X12_seen rfl rfl rfl (by decide +kernel) ⟨Nat.le_of_ble_eq_true rfl, Nat.le_of_ble_eq_true rfl⟩) (gPreV (wc := [(q_this, .inr (12, [.ref q_d, .ref q_kept, .int v_images, .ref q_found, .ref q_aside, .int w_9, .int w_10, .int w_11, .int w_12, .int w_13, .int w_14, .ref q_names, .ref q_seenKept, .ref q_movedKept, .int v_isKeeping, .int v_bubbleMany, .int v_bubbleMost, .int v_bubbleCell, .int v_bestShown, .ref q_traced, .int v_traceMany, .int v_who, .ref q_bitsOf, .ref q_sizeOf, .ref q_number, .ref q_lifted])), (q_d, .inl (c 0, 244, .inl w_15)), (q_names, .inl (c 0, 3, .inl w_17)), (q_seenKept, .inl (c 0, 2500, .inl v_seenKept))]) (q := (RX12, TX12, 26)) (ci := 12) (q0 := 0) (isC := [0, 2, 4, 5]) hK hX hS hA hP hD ⟨rfl, rfl, rfl, rfl, trivial⟩ (by decide +kernel) rfl rfl) rfl rfl hl.1 rfl (lv_room (Nat.le_of_ble_eq_true rfl)) dX12_bestOf_43 ⟨Nat.le_of_ble_eq_true rfl, Nat.le_of_ble_eq_true rfl⟩) (fun H locs hP hD hS => ?_)
        refine lv_istore (lv' := [(6, .int r_19), (0, .ref q_this), (1, .int a_1), (2, .int a_2), (3, .int x3), (4, .int x4), (5, .int x5)]) hx hb dX12_bestOf_46 hl (by decide) rfl (fun ls hl => ?_)
        refine lv_aload_n hx hb dX12_bestOf_48 rfl (lv_at hl 1 rfl) ?_
        refine lv_iload_n hx hb dX12_bestOf_49 rfl (lv_at hl 3 rfl) ?_
        replace h := kb_ok h
        obtain ⟨w_29, hc_28, h⟩ := h
        refine gCallV (isC := [0, 1, 2]) (wc := [(q_this, .inr (12, [.ref q_d, .ref q_kept, .int v_images, .ref q_found, .ref q_aside, .int w_20, .int w_21, .int w_22, .int w_23, .int w_24, .int w_25, .ref q_names, .ref q_seenKept, .ref q_movedKept, .int v_isKeeping, .int v_bubbleMany, .int v_bubbleMost, .int v_bubbleCell, .int v_bestShown, .ref q_traced, .int v_traceMany, .int v_who, .ref q_bitsOf, .ref q_sizeOf, .ref q_number, .ref q_lifted])), (q_aside, .inl (c 0, 120, .inl w_7)), (q_d, .inl (c 0, 244, .inl w_15))]) (w1 := [(q_this, .inr (12, [.ref q_d, .ref q_kept, .int v_images, .ref q_found, .ref q_aside, .int w_20, .int w_21, .int w_22, .int w_23, .int w_24, .int w_25, .ref q_names, .ref q_seenKept, .ref q_movedKept, .int v_isKeeping, .int v_bubbleMany, .int v_bubbleMost, .int v_bubbleCell, .int v_bestShown, .ref q_traced, .int v_traceMany, .int v_who, .ref q_bitsOf, .ref q_sizeOf, .ref q_number, .ref q_lifted])), (q_aside, .inl (c 0, 120, .inl w_7)), (q_d, .inl (c 0, 244, .inl w_29))]) (ws2 := [(q_this, .inr (12, [.ref q_d, .ref q_kept, .int v_images, .ref q_found, .ref q_aside, .int w_20, .int w_21, .int w_22, .int w_23, .int w_24, .int w_25, .ref q_names, .ref q_seenKept, .ref q_movedKept, .int v_isKeeping, .int v_bubbleMany, .int v_bubbleMost, .int v_bubbleCell, .int v_bestShown, .ref q_traced, .int v_traceMany, .int v_who, .ref q_bitsOf, .ref q_sizeOf, .ref q_number, .ref q_lifted])), (q_aside, .inl (c 0, 120, .inl w_7)), (q_d, .inl (c 0, 244, .inl w_29)), (q_movedKept, .inl (c 0, 1000, .inl w_16)), (q_names, .inl (c 0, 3, .inl w_26)), (q_seenKept, .inl (c 0, 2500, .inl w_27))]) (ms := [(some 0), (some 1), (some 2), none, none, none]) hP hD hS hA ⟨rfl, rfl, rfl, trivial⟩ (by decide +kernel) ⟨rfl, rfl, rfl, rfl, rfl, rfl, trivial⟩ (va_runV (rm := rm_X12_putBack) (ws := wsX12_putBack) (As := [.int a_2]) (rest := []) (gFix hF) (c_X12_putBack l D c q_this q_d q_kept q_found q_aside q_names q_seenKept q_movedKept q_traced q_bitsOf q_sizeOf q_number q_lifted a_2 v_images w_20 w_21 w_22 w_23 w_24 w_25 v_isKeeping v_bubbleMany v_bubbleMost v_bubbleCell v_bestShown v_traceMany v_who w_7 w_15 w_29 hc_28 H.size) (cwV 1 hts gX12_bestOf_X12_putBack rfl rfl rfl (by decide +kernel) ⟨Nat.le_of_ble_eq_true rfl, Nat.le_of_ble_eq_true rfl⟩) (gPreV (wc := [(q_this, .inr (12, [.ref q_d, .ref q_kept, .int v_images, .ref q_found, .ref q_aside, .int w_20, .int w_21, .int w_22, .int w_23, .int w_24, .int w_25, .ref q_names, .ref q_seenKept, .ref q_movedKept, .int v_isKeeping, .int v_bubbleMany, .int v_bubbleMost, .int v_bubbleCell, .int v_bestShown, .ref q_traced, .int v_traceMany, .int v_who, .ref q_bitsOf, .ref q_sizeOf, .ref q_number, .ref q_lifted])), (q_aside, .inl (c 0, 120, .inl w_7)), (q_d, .inl (c 0, 244, .inl w_15))]) (q := (RX12, TX12, 26)) (ci := 12) (q0 := 0) (isC := [0, 1, 2]) hK hX hS hA hP hD ⟨rfl, rfl, rfl, trivial⟩ (by decide +kernel) rfl rfl) rfl rfl hl.1 rfl (lv_room (Nat.le_of_ble_eq_true rfl)) dX12_bestOf_50 ⟨Nat.le_of_ble_eq_true rfl, Nat.le_of_ble_eq_true rfl⟩) (fun H locs hP hD hS => ?_)
        refine lv_iload_n hx hb dX12_bestOf_53 rfl (lv_at hl 4 rfl) ?_
        refine lv_if_lt (tgt := 66) hx hb dX12_bestOf_54 (by decide) (fun c_30 => ?_) (fun c_30 => ?_)
        · replace h := it_t c_30 h
          exact t_L66 _ ih x4 x5 r_19 w_20 w_21 w_22 w_23 w_24 w_25 v_bestShown w_7 w_29 w_16 w_26 w_27 H locs hP hD hS ls (lv_sub hl [1, 2, 3, 5, 6, 0] rfl) h
        · replace h := it_f c_30 h
          refine lv_iload hx hb dX12_bestOf_57 (lv_at hl 0 rfl) ?_
          refine lv_aload_n hx hb dX12_bestOf_59 rfl (lv_at hl 1 rfl) ?_
          refine va_get (D := D) (ci := 12) (v := .int v_bestShown) (C := RX12) (T := TX12) (N := 26) hx hb hts in_X12_bestOf_X12 hown hK.1 hP 0 rfl rfl 18 (by decide) (hts (.fieldLink RX12 233 "PaperBubblesModel" "bestShown" "I") (List.mem_of_getElem? (i := 1) rfl)) (fun _ h9 => h9) rfl dX12_bestOf_60 ?_
          refine lv_icmp_ge (tgt := 81) hx hb dX12_bestOf_63 (by decide) (fun c_31 => ?_) (fun c_31 => ?_)
          · replace h := it_t c_31 h
            replace h := nm_ok h
            obtain ⟨t_32, et_32, h⟩ := h
            refine lv_iinc (v := t_32) (lv' := [(5, .int t_32), (6, .int r_19), (0, .ref q_this), (1, .int a_1), (2, .int a_2), (3, .int x3), (4, .int x4)]) hx hb dX12_bestOf_81 hl (k := 6) rfl (by rw [et_32]; rfl) (by decide) rfl (fun ls hl => ?_)
            refine lv_goto (tgt := 22) hx hb dX12_bestOf_84 (by decide) ?_
            exact ih x3 x4 t_32 w_20 w_21 w_22 w_23 w_24 w_25 v_bestShown w_7 w_29 w_16 w_26 w_27 H locs hP hD hS ls (lv_sub hl [2, 3, 4, 5, 6, 0] rfl) h
          · replace h := it_f c_31 h
            exact t_L66 _ ih x4 x5 r_19 w_20 w_21 w_22 w_23 w_24 w_25 v_bestShown w_7 w_29 w_16 w_26 w_27 H locs hP hD hS ls (lv_sub hl [1, 2, 3, 5, 6, 0] rfl) h
  have t_L10 : ∀ (n : Nat), ∀ (x3 : Int32) (x4 : Int32) (v_base : Int32) (v_at : Int32) (v_size : Int32) (v_fault : Int32) (v_opened : Int32) (v_isSeen : Int32) (v_bestShown : Int32) (v_aside : Nat → Int32) (v_d : Nat → Int32) (v_movedKept : Nat → Int32) (v_names : Nat → Int32) (v_seenKept : Nat → Int32) (H : Heap) (locs : List Loc), va_P D gcl [(q_this, .inr (12, [.ref q_d, .ref q_kept, .int v_images, .ref q_found, .ref q_aside, .int v_base, .int v_at, .int v_size, .int v_fault, .int v_opened, .int v_isSeen, .ref q_names, .ref q_seenKept, .ref q_movedKept, .int v_isKeeping, .int v_bubbleMany, .int v_bubbleMost, .int v_bubbleCell, .int v_bestShown, .ref q_traced, .int v_traceMany, .int v_who, .ref q_bitsOf, .ref q_sizeOf, .ref q_number, .ref q_lifted])), (q_aside, .inl (c 0, 120, .inl v_aside)), (q_d, .inl (c 0, 244, .inl v_d)), (q_movedKept, .inl (c 0, 1000, .inl v_movedKept)), (q_names, .inl (c 0, 3, .inl v_names)), (q_seenKept, .inl (c 0, 2500, .inl v_seenKept))] H → va_D A [(q_this, .inr (12, [.ref q_d, .ref q_kept, .int v_images, .ref q_found, .ref q_aside, .int v_base, .int v_at, .int v_size, .int v_fault, .int v_opened, .int v_isSeen, .ref q_names, .ref q_seenKept, .ref q_movedKept, .int v_isKeeping, .int v_bubbleMany, .int v_bubbleMost, .int v_bubbleCell, .int v_bestShown, .ref q_traced, .int v_traceMany, .int v_who, .ref q_bitsOf, .ref q_sizeOf, .ref q_number, .ref q_lifted])), (q_aside, .inl (c 0, 120, .inl v_aside)), (q_d, .inl (c 0, 244, .inl v_d)), (q_movedKept, .inl (c 0, 1000, .inl v_movedKept)), (q_names, .inl (c 0, 3, .inl v_names)), (q_seenKept, .inl (c 0, 2500, .inl v_seenKept))] → va_S A s.heap H locs → ∀ ls, lv_has ls 7 [(0, .ref q_this), (1, .int a_1), (2, .int a_2), (3, .int x3), (4, .int x4)] → f_X12_bestOf_L10 a_1 a_2 v_isKeeping n x3 x4 v_base v_at v_size v_fault v_opened v_isSeen v_bestShown v_aside v_d v_movedKept v_names v_seenKept = some (o_r, o_v_base, o_v_at, o_v_size, o_v_fault, o_v_opened, o_v_isSeen, o_v_bestShown, o_v_aside, o_v_d, o_v_movedKept, o_v_names, o_v_seenKept) → W p l e (headSpec wsX12_bestOf rm_X12_bestOf).room s m [.ref q_this, .int a_1, .int a_2].toArray below meth co H locs 0 0 (gQI D [(q_this, .inr (12, [.ref q_d, .ref q_kept, .int v_images, .ref q_found, .ref q_aside, .int o_v_base, .int o_v_at, .int o_v_size, .int o_v_fault, .int o_v_opened, .int o_v_isSeen, .ref q_names, .ref q_seenKept, .ref q_movedKept, .int v_isKeeping, .int v_bubbleMany, .int v_bubbleMost, .int v_bubbleCell, .int o_v_bestShown, .ref q_traced, .int v_traceMany, .int v_who, .ref q_bitsOf, .ref q_sizeOf, .ref q_number, .ref q_lifted])), (q_aside, .inl (c 0, 120, .inl o_v_aside)), (q_d, .inl (c 0, 244, .inl o_v_d)), (q_movedKept, .inl (c 0, 1000, .inl o_v_movedKept)), (q_names, .inl (c 0, 3, .inl o_v_names)), (q_seenKept, .inl (c 0, 2500, .inl o_v_seenKept))] o_r A below [.ref q_this, .int a_1, .int a_2] s) (F0 m 10 ls []) := by
    intro n
    induction n with
    | zero => intro x3 x4 v_base v_at v_size v_fault v_opened v_isSeen v_bestShown v_aside v_d v_movedKept v_names v_seenKept H locs hP hD hS ls hl h; exact no_ok h
    | succ n ih =>
      intro x3 x4 v_base v_at v_size v_fault v_opened v_isSeen v_bestShown v_aside v_d v_movedKept v_names v_seenKept H locs hP hD hS ls hl h
      rw [f_X12_bestOf_L10] at h
      refine lv_iload hx hb dX12_bestOf_10 (lv_at hl 4 rfl) ?_
      refine lv_aload_n hx hb dX12_bestOf_12 rfl (lv_at hl 0 rfl) ?_
      replace h := kb_ok h
      obtain ⟨r_2, hc_1, h⟩ := h
      refine gCallIr (isC := [0, 2]) (wc := [(q_this, .inr (12, [.ref q_d, .ref q_kept, .int v_images, .ref q_found, .ref q_aside, .int v_base, .int v_at, .int v_size, .int v_fault, .int v_opened, .int v_isSeen, .ref q_names, .ref q_seenKept, .ref q_movedKept, .int v_isKeeping, .int v_bubbleMany, .int v_bubbleMost, .int v_bubbleCell, .int v_bestShown, .ref q_traced, .int v_traceMany, .int v_who, .ref q_bitsOf, .ref q_sizeOf, .ref q_number, .ref q_lifted])), (q_d, .inl (c 0, 244, .inl v_d))]) hP hD hS hA ⟨rfl, rfl, trivial⟩ (va_runV (rm := rm_X12_cells) (ws := wsX12_cells) (As := []) (rest := [.int x4]) (gFix hF) (c_X12_cells l D c q_this q_d q_kept q_found q_aside q_names q_seenKept q_movedKept q_traced q_bitsOf q_sizeOf q_number q_lifted v_images v_base v_at v_size v_fault v_opened v_isSeen v_isKeeping v_bubbleMany v_bubbleMost v_bubbleCell v_bestShown v_traceMany v_who v_d r_2 hc_1 H.size) (cwV 0 hts gX12_bestOf_X12_cells rfl rfl rfl (by decide +kernel) ⟨Nat.le_of_ble_eq_true rfl, Nat.le_of_ble_eq_true rfl⟩) (gPreV (wc := [(q_this, .inr (12, [.ref q_d, .ref q_kept, .int v_images, .ref q_found, .ref q_aside, .int v_base, .int v_at, .int v_size, .int v_fault, .int v_opened, .int v_isSeen, .ref q_names, .ref q_seenKept, .ref q_movedKept, .int v_isKeeping, .int v_bubbleMany, .int v_bubbleMost, .int v_bubbleCell, .int v_bestShown, .ref q_traced, .int v_traceMany, .int v_who, .ref q_bitsOf, .ref q_sizeOf, .ref q_number, .ref q_lifted])), (q_d, .inl (c 0, 244, .inl v_d))]) (q := (RX12, TX12, 26)) (ci := 12) (q0 := 0) (isC := [0, 2]) hK hX hS hA hP hD ⟨rfl, rfl, trivial⟩ (by decide +kernel) rfl rfl) rfl rfl hl.1 rfl (lv_room (Nat.le_of_ble_eq_true rfl)) dX12_bestOf_13 ⟨Nat.le_of_ble_eq_true rfl, Nat.le_of_ble_eq_true rfl⟩) (fun H locs hP hS => ?_)
      refine lv_icmp_ge (tgt := 93) hx hb dX12_bestOf_16 (by decide) (fun c_3 => ?_) (fun c_3 => ?_)
      · replace h := it_t c_3 h
        refine lv_iload_n hx hb dX12_bestOf_93 rfl (lv_at hl 3 rfl) ?_
        replace h := so13 h
        obtain ⟨z0, z1, z2, z3, z4, z5, z6, z7, z8, z9, z10, z11, z12⟩ := h
        subst z0 z1 z2 z3 z4 z5 z6 z7 z8 z9 z10 z11 z12
        exact gIret hF hP hD hS rfl dX12_bestOf_94
      · replace h := it_f c_3 h
        refine lv_iconst (v := 0) hx hb dX12_bestOf_19 (by decide) ?_
        refine lv_istore (lv' := [(5, .int 0), (0, .ref q_this), (1, .int a_1), (2, .int a_2), (3, .int x3), (4, .int x4)]) hx hb dX12_bestOf_20 hl (by decide) rfl (fun ls hl => ?_)
        exact t_L22 _ ih gFuel x3 x4 0 v_base v_at v_size v_fault v_opened v_isSeen v_bestShown v_aside v_d v_movedKept v_names v_seenKept H locs hP hD hS ls (lv_sub hl [1, 2, 3, 4, 5, 0] rfl) h
  unfold f_X12_bestOf at h
  refine lv_iconst (v := (-1)) hx hb dX12_bestOf_0 (by decide) ?_
  refine lv_istore_n (lv' := [(3, .int (-1)), (0, .ref q_this), (1, .int a_1), (2, .int a_2)]) hx hb dX12_bestOf_1 rfl hl (by decide) rfl (fun ls hl => ?_)
  refine lv_aload_n hx hb dX12_bestOf_2 rfl (lv_at hl 1 rfl) ?_
  refine lv_iconst (v := 0) hx hb dX12_bestOf_3 (by decide) ?_
  refine va_put (D := D) (ci := 12) (v := .int 0) (ty := .int) (C := RX12) (T := TX12) (N := 26) hx hb hts in_X12_bestOf_X12 tyX12 tyX12_ok nmX12 hown hK.1 hP hD hS 0 rfl rfl 18 (by decide) (hts (.fieldLink RX12 233 "PaperBubblesModel" "bestShown" "I") (List.mem_of_getElem? (i := 1) rfl)) (fun _ h9 => h9) rfl (by decide +kernel) rfl rfl (Nat.le_of_ble_eq_true rfl) dX12_bestOf_4 (fun H locs hP hD hS => ?_)
  have hP : va_P D gcl [(q_this, .inr (12, [.ref q_d, .ref q_kept, .int v_images, .ref q_found, .ref q_aside, .int v_base, .int v_at, .int v_size, .int v_fault, .int v_opened, .int v_isSeen, .ref q_names, .ref q_seenKept, .ref q_movedKept, .int v_isKeeping, .int v_bubbleMany, .int v_bubbleMost, .int v_bubbleCell, .int 0, .ref q_traced, .int v_traceMany, .int v_who, .ref q_bitsOf, .ref q_sizeOf, .ref q_number, .ref q_lifted])), (q_aside, .inl (c 0, 120, .inl v_aside)), (q_d, .inl (c 0, 244, .inl v_d)), (q_movedKept, .inl (c 0, 1000, .inl v_movedKept)), (q_names, .inl (c 0, 3, .inl v_names)), (q_seenKept, .inl (c 0, 2500, .inl v_seenKept))] H := hP
  have hD : va_D A [(q_this, .inr (12, [.ref q_d, .ref q_kept, .int v_images, .ref q_found, .ref q_aside, .int v_base, .int v_at, .int v_size, .int v_fault, .int v_opened, .int v_isSeen, .ref q_names, .ref q_seenKept, .ref q_movedKept, .int v_isKeeping, .int v_bubbleMany, .int v_bubbleMost, .int v_bubbleCell, .int 0, .ref q_traced, .int v_traceMany, .int v_who, .ref q_bitsOf, .ref q_sizeOf, .ref q_number, .ref q_lifted])), (q_aside, .inl (c 0, 120, .inl v_aside)), (q_d, .inl (c 0, 244, .inl v_d)), (q_movedKept, .inl (c 0, 1000, .inl v_movedKept)), (q_names, .inl (c 0, 3, .inl v_names)), (q_seenKept, .inl (c 0, 2500, .inl v_seenKept))] := hD
  refine lv_iconst (v := 0) hx hb dX12_bestOf_7 (by decide) ?_
  refine lv_istore (lv' := [(4, .int 0), (3, .int (-1)), (0, .ref q_this), (1, .int a_1), (2, .int a_2)]) hx hb dX12_bestOf_8 hl (by decide) rfl (fun ls hl => ?_)
  exact t_L10 gFuel (-1) 0 v_base v_at v_size v_fault v_opened v_isSeen 0 v_aside v_d v_movedKept v_names v_seenKept H locs hP hD hS ls (lv_sub hl [2, 3, 4, 1, 0] rfl) h
