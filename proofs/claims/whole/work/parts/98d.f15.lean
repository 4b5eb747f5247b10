set_option maxRecDepth 20000 in
theorem in_X12_airs_X12 : ∀ w ∈ u_ws RX12 TX12 26, w ∈ wsX12_airs := by decide +kernel
abbrev rm_X12_airs : Room := { frames := 2, cells := 0, slots := 0, locals := 45 }
set_option maxHeartbeats 4000000 in
set_option maxRecDepth 100000 in
theorem c_X12_airs (l : Launch) (D : va_G) (c : Nat → ClassId) (q_this q_d q_kept q_found q_aside q_names q_seenKept q_movedKept q_traced q_bitsOf q_sizeOf q_number q_lifted : Nat) (a_1 : Int32) (v_images : Int32) (v_base : Int32) (v_at : Int32) (v_size : Int32) (v_fault : Int32) (v_opened : Int32) (v_isSeen : Int32) (v_isKeeping : Int32) (v_bubbleMany : Int32) (v_bubbleMost : Int32) (v_bubbleCell : Int32) (v_bestShown : Int32) (v_traceMany : Int32) (v_who : Int32) (v_bitsOf : Nat → Int32) (v_d : Nat → Int32) (v_found : Nat → Int32) (v_number : Nat → Int32) (v_sizeOf : Nat → Int32) (o_r : Int32) (o_v_d : Nat → Int32) (o_v_found : Nat → Int32) (h : f_X12_airs a_1 v_bitsOf v_d v_found v_number v_sizeOf = some (o_r, o_v_d, o_v_found)) : gMI l yX12_airs wsX12_airs rm_X12_airs D c [.ref q_this, .int a_1] [(q_this, .inr (12, [.ref q_d, .ref q_kept, .int v_images, .ref q_found, .ref q_aside, .int v_base, .int v_at, .int v_size, .int v_fault, .int v_opened, .int v_isSeen, .ref q_names, .ref q_seenKept, .ref q_movedKept, .int v_isKeeping, .int v_bubbleMany, .int v_bubbleMost, .int v_bubbleCell, .int v_bestShown, .ref q_traced, .int v_traceMany, .int v_who, .ref q_bitsOf, .ref q_sizeOf, .ref q_number, .ref q_lifted])), (q_bitsOf, .inl (c 0, 4, .inl v_bitsOf)), (q_d, .inl (c 0, 244, .inl v_d)), (q_found, .inl (c 0, 6, .inl v_found)), (q_number, .inl (c 0, 160, .inl v_number)), (q_sizeOf, .inl (c 0, 4, .inl v_sizeOf))] [(q_this, .inr (12, [.ref q_d, .ref q_kept, .int v_images, .ref q_found, .ref q_aside, .int v_base, .int v_at, .int v_size, .int v_fault, .int v_opened, .int v_isSeen, .ref q_names, .ref q_seenKept, .ref q_movedKept, .int v_isKeeping, .int v_bubbleMany, .int v_bubbleMost, .int v_bubbleCell, .int v_bestShown, .ref q_traced, .int v_traceMany, .int v_who, .ref q_bitsOf, .ref q_sizeOf, .ref q_number, .ref q_lifted])), (q_bitsOf, .inl (c 0, 4, .inl v_bitsOf)), (q_d, .inl (c 0, 244, .inl o_v_d)), (q_found, .inl (c 0, 6, .inl o_v_found)), (q_number, .inl (c 0, 160, .inl v_number)), (q_sizeOf, .inl (c 0, 4, .inl v_sizeOf))] o_r := by
  refine gMI_of (cc := cX12_airs) (maxL := 3) (rt := (some .int)) (by decide +kernel) rfl (Nat.le_of_ble_eq_true rfl) ?_
  intro p e s m below meth co A hF hK hX hP hD hA hS ls hl
  obtain ⟨hx, hb, hr, hts, hown, hlocks, hml⟩ := id hF
  have hl : lv_has ls 3 [(0, .ref q_this), (1, .int a_1)] := hl
  have t_L30 : ∀ (n : Nat), ∀ (x2 : Int32) (v_d : Nat → Int32) (v_found : Nat → Int32) (H : Heap) (locs : List Loc), va_P D gcl [(q_this, .inr (12, [.ref q_d, .ref q_kept, .int v_images, .ref q_found, .ref q_aside, .int v_base, .int v_at, .int v_size, .int v_fault, .int v_opened, .int v_isSeen, .ref q_names, .ref q_seenKept, .ref q_movedKept, .int v_isKeeping, .int v_bubbleMany, .int v_bubbleMost, .int v_bubbleCell, .int v_bestShown, .ref q_traced, .int v_traceMany, .int v_who, .ref q_bitsOf, .ref q_sizeOf, .ref q_number, .ref q_lifted])), (q_bitsOf, .inl (c 0, 4, .inl v_bitsOf)), (q_d, .inl (c 0, 244, .inl v_d)), (q_found, .inl (c 0, 6, .inl v_found)), (q_number, .inl (c 0, 160, .inl v_number)), (q_sizeOf, .inl (c 0, 4, .inl v_sizeOf))] H → va_D A [(q_this, .inr (12, [.ref q_d, .ref q_kept, .int v_images, .ref q_found, .ref q_aside, .int v_base, .int v_at, .int v_size, .int v_fault, .int v_opened, .int v_isSeen, .ref q_names, .ref q_seenKept, .ref q_movedKept, .int v_isKeeping, .int v_bubbleMany, .int v_bubbleMost, .int v_bubbleCell, .int v_bestShown, .ref q_traced, .int v_traceMany, .int v_who, .ref q_bitsOf, .ref q_sizeOf, .ref q_number, .ref q_lifted])), (q_bitsOf, .inl (c 0, 4, .inl v_bitsOf)), (q_d, .inl (c 0, 244, .inl v_d)), (q_found, .inl (c 0, 6, .inl v_found)), (q_number, .inl (c 0, 160, .inl v_number)), (q_sizeOf, .inl (c 0, 4, .inl v_sizeOf))] → va_S A s.heap H locs → ∀ ls, lv_has ls 3 [(0, .ref q_this), (1, .int a_1), (2, .int x2)] → f_X12_airs_L30 a_1 v_number v_sizeOf n x2 v_d v_found = some (o_r, o_v_d, o_v_found) → W p l e (headSpec wsX12_airs rm_X12_airs).room s m [.ref q_this, .int a_1].toArray below meth co H locs 0 0 (gQI D [(q_this, .inr (12, [.ref q_d, .ref q_kept, .int v_images, .ref q_found, .ref q_aside, .int v_base, .int v_at, .int v_size, .int v_fault, .int v_opened, .int v_isSeen, .ref q_names, .ref q_seenKept, .ref q_movedKept, .int v_isKeeping, .int v_bubbleMany, .int v_bubbleMost, .int v_bubbleCell, .int v_bestShown, .ref q_traced, .int v_traceMany, .int v_who, .ref q_bitsOf, .ref q_sizeOf, .ref q_number, .ref q_lifted])), (q_bitsOf, .inl (c 0, 4, .inl v_bitsOf)), (q_d, .inl (c 0, 244, .inl o_v_d)), (q_found, .inl (c 0, 6, .inl o_v_found)), (q_number, .inl (c 0, 160, .inl v_number)), (q_sizeOf, .inl (c 0, 4, .inl v_sizeOf))] o_r A below [.ref q_this, .int a_1] s) (F0 m 30 ls []) := by
    intro n
    induction n with
    | zero => intro x2 v_d v_found H locs hP hD hS ls hl h; exact no_ok h
    | succ n ih =>
      intro x2 v_d v_found H locs hP hD hS ls hl h
      rw [f_X12_airs_L30] at h
      refine lv_iload_n hx hb dX12_airs_30 rfl (lv_at hl 2 rfl) ?_
      refine lv_aload_n hx hb dX12_airs_31 rfl (lv_at hl 0 rfl) ?_
      refine va_get (D := D) (ci := 12) (v := .ref q_sizeOf) (C := RX12) (T := TX12) (N := 26) hx hb hts in_X12_airs_X12 hown hK.1 hP 0 rfl rfl 23 (by decide) (hts (.fieldLink RX12 37 "PaperBubblesModel" "sizeOf" "[I") (List.mem_of_getElem? (i := 2) rfl)) (fun _ h9 => h9) rfl dX12_airs_32 ?_
      refine lv_iload_n hx hb dX12_airs_35 rfl (lv_at hl 1 rfl) ?_
      replace h := chi_ok h
      obtain ⟨hi_12, h⟩ := h
      refine va_iald hx hb hK.1 hP 5 0 rfl rfl hi_12 dX12_airs_36 ?_
      refine lv_icmp_ge (tgt := 96) hx hb dX12_airs_37 (by decide) (fun c_13 => ?_) (fun c_13 => ?_)
      · replace h := it_t c_13 h
        refine lv_iload_n hx hb dX12_airs_96 rfl (lv_at hl 2 rfl) ?_
        replace h := so3 h
        obtain ⟨z0, z1, z2⟩ := h
        subst z0 z1 z2
        exact gIret hF hP hD hS rfl dX12_airs_97
      · replace h := it_f c_13 h
        refine lv_iload_n hx hb dX12_airs_40 rfl (lv_at hl 2 rfl) ?_
        refine lv_aload_n hx hb dX12_airs_41 rfl (lv_at hl 0 rfl) ?_
        replace h := kb_ok h
        obtain ⟨r_15, hc_14, h⟩ := h
        refine gCallIr (isC := [0, 2]) (wc := [(q_this, .inr (12, [.ref q_d, .ref q_kept, .int v_images, .ref q_found, .ref q_aside, .int v_base, .int v_at, .int v_size, .int v_fault, .int v_opened, .int v_isSeen, .ref q_names, .ref q_seenKept, .ref q_movedKept, .int v_isKeeping, .int v_bubbleMany, .int v_bubbleMost, .int v_bubbleCell, .int v_bestShown, .ref q_traced, .int v_traceMany, .int v_who, .ref q_bitsOf, .ref q_sizeOf, .ref q_number, .ref q_lifted])), (q_d, .inl (c 0, 244, .inl v_d))]) hP hD hS hA ⟨rfl, rfl, trivial⟩ (va_runV (rm := rm_X12_cells) (ws := wsX12_cells) (As := []) (rest := [.int x2]) (gFix hF) (c_X12_cells l D c q_this q_d q_kept q_found q_aside q_names q_seenKept q_movedKept q_traced q_bitsOf q_sizeOf q_number q_lifted v_images v_base v_at v_size v_fault v_opened v_isSeen v_isKeeping v_bubbleMany v_bubbleMost v_bubbleCell v_bestShown v_traceMany v_who v_d r_15 hc_14 H.size) (cwV 0 hts gX12_airs_X12_cells rfl rfl rfl (by decide +kernel) ⟨Nat.le_of_ble_eq_true rfl, Nat.le_of_ble_eq_true rfl⟩) (gPreV (wc := [(q_this, .inr (12, [.ref q_d, .ref q_kept, .int v_images, .ref q_found, .ref q_aside, .int v_base, .int v_at, .int v_size, .int v_fault, .int v_opened, .int v_isSeen, .ref q_names, .ref q_seenKept, .ref q_movedKept, .int v_isKeeping, .int v_bubbleMany, .int v_bubbleMost, .int v_bubbleCell, .int v_bestShown, .ref q_traced, .int v_traceMany, .int v_who, .ref q_bitsOf, .ref q_sizeOf, .ref q_number, .ref q_lifted])), (q_d, .inl (c 0, 244, .inl v_d))]) (q := (RX12, TX12, 26)) (ci := 12) (q0 := 0) (isC := [0, 2]) hK hX hS hA hP hD ⟨rfl, rfl, trivial⟩ (by decide +kernel) rfl rfl) rfl rfl hl.1 rfl (lv_room (Nat.le_of_ble_eq_true rfl)) dX12_airs_42 ⟨Nat.le_of_ble_eq_true rfl, Nat.le_of_ble_eq_true rfl⟩) (fun H locs hP hS => ?_)
        refine lv_icmp_ge (tgt := 96) hx hb dX12_airs_45 (by decide) (fun c_16 => ?_) (fun c_16 => ?_)
        · replace h := it_t c_16 h
          refine lv_iload_n hx hb dX12_airs_96 rfl (lv_at hl 2 rfl) ?_
          replace h := so3 h
          obtain ⟨z0, z1, z2⟩ := h
          subst z0 z1 z2
          exact gIret hF hP hD hS rfl dX12_airs_97
        · replace h := it_f c_16 h
          refine lv_aload_n hx hb dX12_airs_48 rfl (lv_at hl 0 rfl) ?_
          refine va_get (D := D) (ci := 12) (v := .ref q_number) (C := RX12) (T := TX12) (N := 26) hx hb hts in_X12_airs_X12 hown hK.1 hP 0 rfl rfl 24 (by decide) (hts (.fieldLink RX12 40 "PaperBubblesModel" "number" "[I") (List.mem_of_getElem? (i := 3) rfl)) (fun _ h9 => h9) rfl dX12_airs_49 ?_
          refine lv_bipush (v := 40) hx hb dX12_airs_52 (by decide) ?_
          refine lv_iload_n hx hb dX12_airs_54 rfl (lv_at hl 1 rfl) ?_
          refine lv_imul hx hb dX12_airs_55 ?_
          replace h := nm_ok h
          obtain ⟨t_17, et_17, h⟩ := h
          refine gTop et_17 ?_
          refine lv_iload_n hx hb dX12_airs_56 rfl (lv_at hl 2 rfl) ?_
          refine lv_iadd hx hb dX12_airs_57 ?_
          replace h := nm_ok h
          obtain ⟨t_18, et_18, h⟩ := h
          refine gTop et_18 ?_
          replace h := chi_ok h
          obtain ⟨hi_19, h⟩ := h
          refine va_iald hx hb hK.1 hP 4 0 rfl rfl hi_19 dX12_airs_58 ?_
          refine lv_i2l hx hb dX12_airs_59 rfl ?_
          refine lv_lconst (v := 0) hx hb dX12_airs_60 (by decide) ?_
          refine lv_ldc2 (v := 99) hx hb hown (hts (.constantLong RX12 140 (99)) (List.mem_of_getElem? (i := 4) rfl)) dX12_airs_61 ?_
          replace h := kb_ok h
          obtain ⟨r_21, hc_20, h⟩ := h
          refine gCallIr (isC := []) (wc := []) hP hD hS hA trivial (va_runS (rm := rm_X12_in) (ws := wsX12_in) (As := [.long (((v_number t_18.toNatClampNeg) : Int32).toInt64), .long 0, .long 99]) (rest := []) (gFix hF) (c_X12_in l D c (((v_number t_18.toNatClampNeg) : Int32).toInt64) 0 99 r_21 hc_20 H.size) (va_cwS 3 hts gX12_airs_X12_in rfl rfl rfl (by decide +kernel) ⟨Nat.le_of_ble_eq_true rfl, Nat.le_of_ble_eq_true rfl⟩) (gPreS (wc := []) (isC := []) hK hX hS hA hP hD trivial (by decide +kernel)) rfl rfl hl.1 rfl (lv_room (Nat.le_of_ble_eq_true rfl)) dX12_airs_64 ⟨Nat.le_of_ble_eq_true rfl, Nat.le_of_ble_eq_true rfl⟩) (fun H locs hP hS => ?_)
          refine lv_if_eq (tgt := 96) hx hb dX12_airs_67 (by decide) (fun c_22 => ?_) (fun c_22 => ?_)
          · replace h := it_t c_22 h
            refine lv_iload_n hx hb dX12_airs_96 rfl (lv_at hl 2 rfl) ?_
            replace h := so3 h
            obtain ⟨z0, z1, z2⟩ := h
            subst z0 z1 z2
            exact gIret hF hP hD hS rfl dX12_airs_97
          · replace h := it_f c_22 h
            refine lv_aload_n hx hb dX12_airs_70 rfl (lv_at hl 0 rfl) ?_
            refine va_get (D := D) (ci := 12) (v := .ref q_d) (C := RX12) (T := TX12) (N := 26) hx hb hts in_X12_airs_X12 hown hK.1 hP 0 rfl rfl 0 (by decide) (hts (.fieldLink RX12 7 "PaperBubblesModel" "d" "[I") (List.mem_of_getElem? (i := 5) rfl)) (fun _ h9 => h9) rfl dX12_airs_71 ?_
            refine lv_bipush (v := 10) hx hb dX12_airs_74 (by decide) ?_
            refine lv_iload_n hx hb dX12_airs_76 rfl (lv_at hl 2 rfl) ?_
            refine lv_iadd hx hb dX12_airs_77 ?_
            replace h := nm_ok h
            obtain ⟨t_23, et_23, h⟩ := h
            refine gTop et_23 ?_
            refine lv_aload_n hx hb dX12_airs_78 rfl (lv_at hl 0 rfl) ?_
            refine va_get (D := D) (ci := 12) (v := .ref q_number) (C := RX12) (T := TX12) (N := 26) hx hb hts in_X12_airs_X12 hown hK.1 hP 0 rfl rfl 24 (by decide) (hts (.fieldLink RX12 40 "PaperBubblesModel" "number" "[I") (List.mem_of_getElem? (i := 3) rfl)) (fun _ h9 => h9) rfl dX12_airs_79 ?_
            refine lv_bipush (v := 40) hx hb dX12_airs_82 (by decide) ?_
            refine lv_iload_n hx hb dX12_airs_84 rfl (lv_at hl 1 rfl) ?_
            refine lv_imul hx hb dX12_airs_85 ?_
            replace h := nm_ok h
            obtain ⟨t_24, et_24, h⟩ := h
            refine gTop et_24 ?_
            refine lv_iload_n hx hb dX12_airs_86 rfl (lv_at hl 2 rfl) ?_
            refine lv_iadd hx hb dX12_airs_87 ?_
            replace h := nm_ok h
            obtain ⟨t_25, et_25, h⟩ := h
            refine gTop et_25 ?_
            replace h := chi_ok h
            obtain ⟨hi_26, h⟩ := h
            refine va_iald hx hb hK.1 hP 4 0 rfl rfl hi_26 dX12_airs_88 ?_
            replace h := nm_ok h
            obtain ⟨t_27, et_27, h⟩ := h
            refine gTop et_27 ?_
            replace h := chi_ok h
            obtain ⟨hi_28, h⟩ := h
            replace h := nm_ok h
            obtain ⟨w_29, ew_29, h⟩ := h
            refine va_iast hx hb hK.1 hP hD hS 2 0 rfl rfl hi_28 dX12_airs_89 (fun H locs hP hD hS => ?_)
            have hP : va_P D gcl [(q_this, .inr (12, [.ref q_d, .ref q_kept, .int v_images, .ref q_found, .ref q_aside, .int v_base, .int v_at, .int v_size, .int v_fault, .int v_opened, .int v_isSeen, .ref q_names, .ref q_seenKept, .ref q_movedKept, .int v_isKeeping, .int v_bubbleMany, .int v_bubbleMost, .int v_bubbleCell, .int v_bestShown, .ref q_traced, .int v_traceMany, .int v_who, .ref q_bitsOf, .ref q_sizeOf, .ref q_number, .ref q_lifted])), (q_bitsOf, .inl (c 0, 4, .inl v_bitsOf)), (q_d, .inl (c 0, 244, .inl w_29)), (q_found, .inl (c 0, 6, .inl v_found)), (q_number, .inl (c 0, 160, .inl v_number)), (q_sizeOf, .inl (c 0, 4, .inl v_sizeOf))] H := by subst ew_29; exact hP
            have hD : va_D A [(q_this, .inr (12, [.ref q_d, .ref q_kept, .int v_images, .ref q_found, .ref q_aside, .int v_base, .int v_at, .int v_size, .int v_fault, .int v_opened, .int v_isSeen, .ref q_names, .ref q_seenKept, .ref q_movedKept, .int v_isKeeping, .int v_bubbleMany, .int v_bubbleMost, .int v_bubbleCell, .int v_bestShown, .ref q_traced, .int v_traceMany, .int v_who, .ref q_bitsOf, .ref q_sizeOf, .ref q_number, .ref q_lifted])), (q_bitsOf, .inl (c 0, 4, .inl v_bitsOf)), (q_d, .inl (c 0, 244, .inl w_29)), (q_found, .inl (c 0, 6, .inl v_found)), (q_number, .inl (c 0, 160, .inl v_number)), (q_sizeOf, .inl (c 0, 4, .inl v_sizeOf))] := by subst ew_29; exact hD
            replace h := nm_ok h
            obtain ⟨t_30, et_30, h⟩ := h
            refine lv_iinc (v := t_30) (lv' := [(2, .int t_30), (0, .ref q_this), (1, .int a_1)]) hx hb dX12_airs_90 hl (k := 2) rfl (by rw [et_30]; rfl) (by decide) rfl (fun ls hl => ?_)
            refine lv_goto (tgt := 30) hx hb dX12_airs_93 (by decide) ?_
            exact ih t_30 w_29 v_found H locs hP hD hS ls (lv_sub hl [1, 2, 0] rfl) h
  unfold f_X12_airs at h
  refine lv_iload_n hx hb dX12_airs_0 rfl (lv_at hl 1 rfl) ?_
  replace h := kb_ok h
  obtain ⟨r_2, hc_1, h⟩ := h
  refine gCallIr (isC := []) (wc := []) hP hD hS hA trivial (va_runS (rm := rm_X12_isSheet) (ws := wsX12_isSheet) (As := [.int a_1]) (rest := []) (gFix hF) (c_X12_isSheet l D c a_1 r_2 hc_1 s.heap.size) (va_cwS 1 hts gX12_airs_X12_isSheet rfl rfl rfl (by decide +kernel) ⟨Nat.le_of_ble_eq_true rfl, Nat.le_of_ble_eq_true rfl⟩) (gPreS (wc := []) (isC := []) hK hX hS hA hP hD trivial (by decide +kernel)) rfl rfl hl.1 rfl (lv_room (Nat.le_of_ble_eq_true rfl)) dX12_airs_1 ⟨Nat.le_of_ble_eq_true rfl, Nat.le_of_ble_eq_true rfl⟩) (fun H locs hP hS => ?_)
  refine lv_if_ne (tgt := 13) hx hb dX12_airs_4 (by decide) (fun c_3 => ?_) (fun c_3 => ?_)
  · replace h := it_f c_3 h
    refine lv_aload_n hx hb dX12_airs_13 rfl (lv_at hl 0 rfl) ?_
    refine va_get (D := D) (ci := 12) (v := .ref q_bitsOf) (C := RX12) (T := TX12) (N := 26) hx hb hts in_X12_airs_X12 hown hK.1 hP 0 rfl rfl 22 (by decide) (hts (.fieldLink RX12 34 "PaperBubblesModel" "bitsOf" "[I") (List.mem_of_getElem? (i := 1) rfl)) (fun _ h9 => h9) rfl dX12_airs_14 ?_
    refine lv_iload_n hx hb dX12_airs_17 rfl (lv_at hl 1 rfl) ?_
    replace h := chi_ok h
    obtain ⟨hi_4, h⟩ := h
    refine va_iald hx hb hK.1 hP 1 0 rfl rfl hi_4 dX12_airs_18 ?_
    refine lv_if_ne (tgt := 28) hx hb dX12_airs_19 (by decide) (fun c_5 => ?_) (fun c_5 => ?_)
    · replace h := it_f c_5 h
      refine lv_iconst (v := 0) hx hb dX12_airs_28 (by decide) ?_
      refine lv_istore_n (lv' := [(2, .int 0), (0, .ref q_this), (1, .int a_1)]) hx hb dX12_airs_29 rfl hl (by decide) rfl (fun ls hl => ?_)
      exact t_L30 gFuel 0 v_d v_found H locs hP hD hS ls (lv_sub hl [1, 2, 0] rfl) h
    · replace h := it_t c_5 h
      refine lv_aload_n hx hb dX12_airs_22 rfl (lv_at hl 0 rfl) ?_
      refine lv_iconst (v := 2) hx hb dX12_airs_23 (by decide) ?_
      replace h := kb2_ok h
      obtain ⟨r_7, w_8, hc_6, h⟩ := h
      refine gCallI (isC := [0, 3]) (wc := [(q_this, .inr (12, [.ref q_d, .ref q_kept, .int v_images, .ref q_found, .ref q_aside, .int v_base, .int v_at, .int v_size, .int v_fault, .int v_opened, .int v_isSeen, .ref q_names, .ref q_seenKept, .ref q_movedKept, .int v_isKeeping, .int v_bubbleMany, .int v_bubbleMost, .int v_bubbleCell, .int v_bestShown, .ref q_traced, .int v_traceMany, .int v_who, .ref q_bitsOf, .ref q_sizeOf, .ref q_number, .ref q_lifted])), (q_found, .inl (c 0, 6, .inl v_found))]) (w1 := [(q_this, .inr (12, [.ref q_d, .ref q_kept, .int v_images, .ref q_found, .ref q_aside, .int v_base, .int v_at, .int v_size, .int v_fault, .int v_opened, .int v_isSeen, .ref q_names, .ref q_seenKept, .ref q_movedKept, .int v_isKeeping, .int v_bubbleMany, .int v_bubbleMost, .int v_bubbleCell, .int v_bestShown, .ref q_traced, .int v_traceMany, .int v_who, .ref q_bitsOf, .ref q_sizeOf, .ref q_number, .ref q_lifted])), (q_found, .inl (c 0, 6, .inl w_8))]) (ws2 := [(q_this, .inr (12, [.ref q_d, .ref q_kept, .int v_images, .ref q_found, .ref q_aside, .int v_base, .int v_at, .int v_size, .int v_fault, .int v_opened, .int v_isSeen, .ref q_names, .ref q_seenKept, .ref q_movedKept, .int v_isKeeping, .int v_bubbleMany, .int v_bubbleMost, .int v_bubbleCell, .int v_bestShown, .ref q_traced, .int v_traceMany, .int v_who, .ref q_bitsOf, .ref q_sizeOf, .ref q_number, .ref q_lifted])), (q_bitsOf, .inl (c 0, 4, .inl v_bitsOf)), (q_d, .inl (c 0, 244, .inl v_d)), (q_found, .inl (c 0, 6, .inl w_8)), (q_number, .inl (c 0, 160, .inl v_number)), (q_sizeOf, .inl (c 0, 4, .inl v_sizeOf))]) (ms := [(some 0), none, none, (some 1), none, none]) hP hD hS hA ⟨rfl, rfl, trivial⟩ (by decide +kernel) ⟨rfl, rfl, rfl, rfl, rfl, rfl, trivial⟩ (va_runV (rm := rm_X12_finds) (ws := wsX12_finds) (As := [.int 2]) (rest := []) (gFix hF) (c_X12_finds l D c q_this q_d q_kept q_found q_aside q_names q_seenKept q_movedKept q_traced q_bitsOf q_sizeOf q_number q_lifted 2 v_images v_base v_at v_size v_fault v_opened v_isSeen v_isKeeping v_bubbleMany v_bubbleMost v_bubbleCell v_bestShown v_traceMany v_who v_found r_7 w_8 hc_6 H.size) (cwV 1 hts gX12_airs_X12_finds rfl rfl rfl (by decide +kernel) ⟨Nat.le_of_ble_eq_true rfl, Nat.le_of_ble_eq_true rfl⟩) (gPreV (wc := [(q_this, .inr (12, [.ref q_d, .ref q_kept, .int v_images, .ref q_found, .ref q_aside, .int v_base, .int v_at, .int v_size, .int v_fault, .int v_opened, .int v_isSeen, .ref q_names, .ref q_seenKept, .ref q_movedKept, .int v_isKeeping, .int v_bubbleMany, .int v_bubbleMost, .int v_bubbleCell, .int v_bestShown, .ref q_traced, .int v_traceMany, .int v_who, .ref q_bitsOf, .ref q_sizeOf, .ref q_number, .ref q_lifted])), (q_found, .inl (c 0, 6, .inl v_found))]) (q := (RX12, TX12, 26)) (ci := 12) (q0 := 0) (isC := [0, 3]) hK hX hS hA hP hD ⟨rfl, rfl, trivial⟩ (by decide +kernel) rfl rfl) rfl rfl hl.1 rfl (lv_room (Nat.le_of_ble_eq_true rfl)) dX12_airs_24 ⟨Nat.le_of_ble_eq_true rfl, Nat.le_of_ble_eq_true rfl⟩) (fun H locs hP hD hS => ?_)
      replace h := so3 h
      obtain ⟨z0, z1, z2⟩ := h
      subst z0 z1 z2
      exact gIret hF hP hD hS rfl dX12_airs_27
  · replace h := it_t c_3 h
    refine lv_aload_n hx hb dX12_airs_7 rfl (lv_at hl 0 rfl) ?_
    refine lv_iconst (v := 1) hx hb dX12_airs_8 (by decide) ?_
    replace h := kb2_ok h
    obtain ⟨r_10, w_11, hc_9, h⟩ := h
    refine gCallI (isC := [0, 3]) (wc := [(q_this, .inr (12, [.ref q_d, .ref q_kept, .int v_images, .ref q_found, .ref q_aside, .int v_base, .int v_at, .int v_size, .int v_fault, .int v_opened, .int v_isSeen, .ref q_names, .ref q_seenKept, .ref q_movedKept, .int v_isKeeping, .int v_bubbleMany, .int v_bubbleMost, .int v_bubbleCell, .int v_bestShown, .ref q_traced, .int v_traceMany, .int v_who, .ref q_bitsOf, .ref q_sizeOf, .ref q_number, .ref q_lifted])), (q_found, .inl (c 0, 6, .inl v_found))]) (w1 := [(q_this, .inr (12, [.ref q_d, .ref q_kept, .int v_images, .ref q_found, .ref q_aside, .int v_base, .int v_at, .int v_size, .int v_fault, .int v_opened, .int v_isSeen, .ref q_names, .ref q_seenKept, .ref q_movedKept, .int v_isKeeping, .int v_bubbleMany, .int v_bubbleMost, .int v_bubbleCell, .int v_bestShown, .ref q_traced, .int v_traceMany, .int v_who, .ref q_bitsOf, .ref q_sizeOf, .ref q_number, .ref q_lifted])), (q_found, .inl (c 0, 6, .inl w_11))]) (ws2 := [(q_this, .inr (12, [.ref q_d, .ref q_kept, .int v_images, .ref q_found, .ref q_aside, .int v_base, .int v_at, .int v_size, .int v_fault, .int v_opened, .int v_isSeen, .ref q_names, .ref q_seenKept, .ref q_movedKept, .int v_isKeeping, .int v_bubbleMany, .int v_bubbleMost, .int v_bubbleCell, .int v_bestShown, .ref q_traced, .int v_traceMany, .int v_who, .ref q_bitsOf, .ref q_sizeOf, .ref q_number, .ref q_lifted])), (q_bitsOf, .inl (c 0, 4, .inl v_bitsOf)), (q_d, .inl (c 0, 244, .inl v_d)), (q_found, .inl (c 0, 6, .inl w_11)), (q_number, .inl (c 0, 160, .inl v_number)), (q_sizeOf, .inl (c 0, 4, .inl v_sizeOf))]) (ms := [(some 0), none, none, (some 1), none, none]) hP hD hS hA ⟨rfl, rfl, trivial⟩ (by decide +kernel) ⟨rfl, rfl, rfl, rfl, rfl, rfl, trivial⟩ (va_runV (rm := rm_X12_finds) (ws := wsX12_finds) (As := [.int 1]) (rest := []) (gFix hF) (c_X12_finds l D c q_this q_d q_kept q_found q_aside q_names q_seenKept q_movedKept q_traced q_bitsOf q_sizeOf q_number q_lifted 1 v_images v_base v_at v_size v_fault v_opened v_isSeen v_isKeeping v_bubbleMany v_bubbleMost v_bubbleCell v_bestShown v_traceMany v_who v_found r_10 w_11 hc_9 H.size) (cwV 1 hts gX12_airs_X12_finds rfl rfl rfl (by decide +kernel) ⟨Nat.le_of_ble_eq_true rfl, Nat.le_of_ble_eq_true rfl⟩) (gPreV (wc := [(q_this, .inr (12, [.ref q_d, .ref q_kept, .int v_images, .ref q_found, .ref q_aside, .int v_base, .int v_at, .int v_size, .int v_fault, .int v_opened, .int v_isSeen, .ref q_names, .ref q_seenKept, .ref q_movedKept, .int v_isKeeping, .int v_bubbleMany, .int v_bubbleMost, .int v_bubbleCell, .int v_bestShown, .ref q_traced, .int v_traceMany, .int v_who, .ref q_bitsOf, .ref q_sizeOf, .ref q_number, .ref q_lifted])), (q_found, .inl (c 0, 6, .inl v_found))]) (q := (RX12, TX12, 26)) (ci := 12) (q0 := 0) (isC := [0, 3]) hK hX hS hA hP hD ⟨rfl, rfl, trivial⟩ (by decide +kernel) rfl rfl) rfl rfl hl.1 rfl (lv_room (Nat.le_of_ble_eq_true rfl)) dX12_airs_9 ⟨Nat.le_of_ble_eq_true rfl, Nat.le_of_ble_eq_true rfl⟩) (fun H locs hP hD hS => ?_)
    replace h := so3 h
    obtain ⟨z0, z1, z2⟩ := h
    subst z0 z1 z2
    exact gIret hF hP hD hS rfl dX12_airs_12
set_option maxRecDepth 20000 in
theorem in_X12_allAir_X12 : ∀ w ∈ u_ws RX12 TX12 26, w ∈ wsX12_allAir := by decide +kernel
abbrev rm_X12_allAir : Room := { frames := 1, cells := 0, slots := 0, locals := 20 }
set_option maxHeartbeats 4000000 in
set_option maxRecDepth 100000 in
theorem c_X12_allAir (l : Launch) (D : va_G) (c : Nat → ClassId) (q_this q_d q_kept q_found q_aside q_names q_seenKept q_movedKept q_traced q_bitsOf q_sizeOf q_number q_lifted : Nat) (v_images : Int32) (v_base : Int32) (v_at : Int32) (v_size : Int32) (v_fault : Int32) (v_opened : Int32) (v_isSeen : Int32) (v_isKeeping : Int32) (v_bubbleMany : Int32) (v_bubbleMost : Int32) (v_bubbleCell : Int32) (v_bestShown : Int32) (v_traceMany : Int32) (v_who : Int32) (v_d : Nat → Int32) (o_r : Int32) (h : f_X12_allAir v_d = some o_r) : gMI l yX12_allAir wsX12_allAir rm_X12_allAir D c [.ref q_this] [(q_this, .inr (12, [.ref q_d, .ref q_kept, .int v_images, .ref q_found, .ref q_aside, .int v_base, .int v_at, .int v_size, .int v_fault, .int v_opened, .int v_isSeen, .ref q_names, .ref q_seenKept, .ref q_movedKept, .int v_isKeeping, .int v_bubbleMany, .int v_bubbleMost, .int v_bubbleCell, .int v_bestShown, .ref q_traced, .int v_traceMany, .int v_who, .ref q_bitsOf, .ref q_sizeOf, .ref q_number, .ref q_lifted])), (q_d, .inl (c 0, 244, .inl v_d))] [(q_this, .inr (12, [.ref q_d, .ref q_kept, .int v_images, .ref q_found, .ref q_aside, .int v_base, .int v_at, .int v_size, .int v_fault, .int v_opened, .int v_isSeen, .ref q_names, .ref q_seenKept, .ref q_movedKept, .int v_isKeeping, .int v_bubbleMany, .int v_bubbleMost, .int v_bubbleCell, .int v_bestShown, .ref q_traced, .int v_traceMany, .int v_who, .ref q_bitsOf, .ref q_sizeOf, .ref q_number, .ref q_lifted])), (q_d, .inl (c 0, 244, .inl v_d))] o_r := by
  refine gMI_of (cc := cX12_allAir) (maxL := 3) (rt := (some .int)) (by decide +kernel) rfl (Nat.le_of_ble_eq_true rfl) ?_
  intro p e s m below meth co A hF hK hX hP hD hA hS ls hl
  obtain ⟨hx, hb, hr, hts, hown, hlocks, hml⟩ := id hF
  have hl : lv_has ls 3 [(0, .ref q_this)] := hl
  have t_L4 : ∀ (n : Nat), ∀ (x1 : Int32) (x2 : Int32) (H : Heap) (locs : List Loc), va_P D gcl [(q_this, .inr (12, [.ref q_d, .ref q_kept, .int v_images, .ref q_found, .ref q_aside, .int v_base, .int v_at, .int v_size, .int v_fault, .int v_opened, .int v_isSeen, .ref q_names, .ref q_seenKept, .ref q_movedKept, .int v_isKeeping, .int v_bubbleMany, .int v_bubbleMost, .int v_bubbleCell, .int v_bestShown, .ref q_traced, .int v_traceMany, .int v_who, .ref q_bitsOf, .ref q_sizeOf, .ref q_number, .ref q_lifted])), (q_d, .inl (c 0, 244, .inl v_d))] H → va_D A [(q_this, .inr (12, [.ref q_d, .ref q_kept, .int v_images, .ref q_found, .ref q_aside, .int v_base, .int v_at, .int v_size, .int v_fault, .int v_opened, .int v_isSeen, .ref q_names, .ref q_seenKept, .ref q_movedKept, .int v_isKeeping, .int v_bubbleMany, .int v_bubbleMost, .int v_bubbleCell, .int v_bestShown, .ref q_traced, .int v_traceMany, .int v_who, .ref q_bitsOf, .ref q_sizeOf, .ref q_number, .ref q_lifted])), (q_d, .inl (c 0, 244, .inl v_d))] → va_S A s.heap H locs → ∀ ls, lv_has ls 3 [(0, .ref q_this), (1, .int x1), (2, .int x2)] → f_X12_allAir_L4 v_d n x1 x2 = some o_r → W p l e (headSpec wsX12_allAir rm_X12_allAir).room s m [.ref q_this].toArray below meth co H locs 0 0 (gQI D [(q_this, .inr (12, [.ref q_d, .ref q_kept, .int v_images, .ref q_found, .ref q_aside, .int v_base, .int v_at, .int v_size, .int v_fault, .int v_opened, .int v_isSeen, .ref q_names, .ref q_seenKept, .ref q_movedKept, .int v_isKeeping, .int v_bubbleMany, .int v_bubbleMost, .int v_bubbleCell, .int v_bestShown, .ref q_traced, .int v_traceMany, .int v_who, .ref q_bitsOf, .ref q_sizeOf, .ref q_number, .ref q_lifted])), (q_d, .inl (c 0, 244, .inl v_d))] o_r A below [.ref q_this] s) (F0 m 4 ls []) := by
    intro n
    induction n with
    | zero => intro x1 x2 H locs hP hD hS ls hl h; exact no_ok h
    | succ n ih =>
      intro x1 x2 H locs hP hD hS ls hl h
      rw [f_X12_allAir_L4] at h
      refine lv_iload_n hx hb dX12_allAir_4 rfl (lv_at hl 2 rfl) ?_
      refine lv_aload_n hx hb dX12_allAir_5 rfl (lv_at hl 0 rfl) ?_
      replace h := kb_ok h
      obtain ⟨r_2, hc_1, h⟩ := h
      refine gCallIr (isC := [0, 1]) (wc := [(q_this, .inr (12, [.ref q_d, .ref q_kept, .int v_images, .ref q_found, .ref q_aside, .int v_base, .int v_at, .int v_size, .int v_fault, .int v_opened, .int v_isSeen, .ref q_names, .ref q_seenKept, .ref q_movedKept, .int v_isKeeping, .int v_bubbleMany, .int v_bubbleMost, .int v_bubbleCell, .int v_bestShown, .ref q_traced, .int v_traceMany, .int v_who, .ref q_bitsOf, .ref q_sizeOf, .ref q_number, .ref q_lifted])), (q_d, .inl (c 0, 244, .inl v_d))]) hP hD hS hA ⟨rfl, rfl, trivial⟩ (va_runV (rm := rm_X12_cells) (ws := wsX12_cells) (As := []) (rest := [.int x2]) (gFix hF) (c_X12_cells l D c q_this q_d q_kept q_found q_aside q_names q_seenKept q_movedKept q_traced q_bitsOf q_sizeOf q_number q_lifted v_images v_base v_at v_size v_fault v_opened v_isSeen v_isKeeping v_bubbleMany v_bubbleMost v_bubbleCell v_bestShown v_traceMany v_who v_d r_2 hc_1 H.size) (cwV 0 hts gX12_allAir_X12_cells rfl rfl rfl (by decide +kernel) ⟨Nat.le_of_ble_eq_true rfl, Nat.le_of_ble_eq_true rfl⟩) (gPreV (wc := [(q_this, .inr (12, [.ref q_d, .ref q_kept, .int v_images, .ref q_found, .ref q_aside, .int v_base, .int v_at, .int v_size, .int v_fault, .int v_opened, .int v_isSeen, .ref q_names, .ref q_seenKept, .ref q_movedKept, .int v_isKeeping, .int v_bubbleMany, .int v_bubbleMost, .int v_bubbleCell, .int v_bestShown, .ref q_traced, .int v_traceMany, .int v_who, .ref q_bitsOf, .ref q_sizeOf, .ref q_number, .ref q_lifted])), (q_d, .inl (c 0, 244, .inl v_d))]) (q := (RX12, TX12, 26)) (ci := 12) (q0 := 0) (isC := [0, 1]) hK hX hS hA hP hD ⟨rfl, rfl, trivial⟩ (by decide +kernel) rfl rfl) rfl rfl hl.1 rfl (lv_room (Nat.le_of_ble_eq_true rfl)) dX12_allAir_6 ⟨Nat.le_of_ble_eq_true rfl, Nat.le_of_ble_eq_true rfl⟩) (fun H locs hP hS => ?_)
      refine lv_icmp_ge (tgt := 30) hx hb dX12_allAir_9 (by decide) (fun c_3 => ?_) (fun c_3 => ?_)
      · replace h := it_t c_3 h
        refine lv_iload_n hx hb dX12_allAir_30 rfl (lv_at hl 1 rfl) ?_
        replace h := so1 h
        subst h
        exact gIret hF hP hD hS rfl dX12_allAir_31
      · replace h := it_f c_3 h
        refine lv_iload_n hx hb dX12_allAir_12 rfl (lv_at hl 1 rfl) ?_
        refine lv_aload_n hx hb dX12_allAir_13 rfl (lv_at hl 0 rfl) ?_
        refine va_get (D := D) (ci := 12) (v := .ref q_d) (C := RX12) (T := TX12) (N := 26) hx hb hts in_X12_allAir_X12 hown hK.1 hP 0 rfl rfl 0 (by decide) (hts (.fieldLink RX12 7 "PaperBubblesModel" "d" "[I") (List.mem_of_getElem? (i := 1) rfl)) (fun _ h9 => h9) rfl dX12_allAir_14 ?_
        refine lv_bipush (v := 10) hx hb dX12_allAir_17 (by decide) ?_
        refine lv_iload_n hx hb dX12_allAir_19 rfl (lv_at hl 2 rfl) ?_
        refine lv_iadd hx hb dX12_allAir_20 ?_
        replace h := nm_ok h
        obtain ⟨t_4, et_4, h⟩ := h
        refine gTop et_4 ?_
        replace h := chi_ok h
        obtain ⟨hi_5, h⟩ := h
        refine va_iald hx hb hK.1 hP 1 0 rfl rfl hi_5 dX12_allAir_21 ?_
        refine lv_iadd hx hb dX12_allAir_22 ?_
        replace h := nm_ok h
        obtain ⟨t_6, et_6, h⟩ := h
        refine gTop et_6 ?_
        refine lv_istore_n (lv' := [(1, .int t_6), (0, .ref q_this), (2, .int x2)]) hx hb dX12_allAir_23 rfl hl (by decide) rfl (fun ls hl => ?_)
        replace h := nm_ok h
        obtain ⟨t_7, et_7, h⟩ := h
        refine lv_iinc (v := t_7) (lv' := [(2, .int t_7), (1, .int t_6), (0, .ref q_this)]) hx hb dX12_allAir_24 hl (k := 2) rfl (by rw [et_7]; rfl) (by decide) rfl (fun ls hl => ?_)
        refine lv_goto (tgt := 4) hx hb dX12_allAir_27 (by decide) ?_
        exact ih t_6 t_7 H locs hP hD hS ls (lv_sub hl [2, 1, 0] rfl) h
  unfold f_X12_allAir at h
  refine lv_iconst (v := 0) hx hb dX12_allAir_0 (by decide) ?_
  refine lv_istore_n (lv' := [(1, .int 0), (0, .ref q_this)]) hx hb dX12_allAir_1 rfl hl (by decide) rfl (fun ls hl => ?_)
  refine lv_iconst (v := 0) hx hb dX12_allAir_2 (by decide) ?_
  refine lv_istore_n (lv' := [(2, .int 0), (1, .int 0), (0, .ref q_this)]) hx hb dX12_allAir_3 rfl hl (by decide) rfl (fun ls hl => ?_)
  exact t_L4 gFuel 0 0 s.heap [] hP hD hS ls (lv_sub hl [2, 1, 0] rfl) h
set_option maxRecDepth 20000 in
theorem in_X12_isTool_X12 : ∀ w ∈ u_ws RX12 TX12 26, w ∈ wsX12_isTool := by decide +kernel
abbrev rm_X12_isTool : Room := { frames := 1, cells := 0, slots := 0, locals := 25 }
set_option maxHeartbeats 4000000 in
set_option maxRecDepth 100000 in
theorem c_X12_isTool (l : Launch) (D : va_G) (c : Nat → ClassId) (q_this q_d q_kept q_found q_aside q_names q_seenKept q_movedKept q_traced q_bitsOf q_sizeOf q_number q_lifted : Nat) (a_1 : Int32) (v_images : Int32) (v_base : Int32) (v_at : Int32) (v_size : Int32) (v_fault : Int32) (v_opened : Int32) (v_isSeen : Int32) (v_isKeeping : Int32) (v_bubbleMany : Int32) (v_bubbleMost : Int32) (v_bubbleCell : Int32) (v_bestShown : Int32) (v_traceMany : Int32) (v_who : Int32) (v_d : Nat → Int32) (o_r : Int32) (h : f_X12_isTool a_1 v_d = some o_r) : gMI l yX12_isTool wsX12_isTool rm_X12_isTool D c [.ref q_this, .int a_1] [(q_this, .inr (12, [.ref q_d, .ref q_kept, .int v_images, .ref q_found, .ref q_aside, .int v_base, .int v_at, .int v_size, .int v_fault, .int v_opened, .int v_isSeen, .ref q_names, .ref q_seenKept, .ref q_movedKept, .int v_isKeeping, .int v_bubbleMany, .int v_bubbleMost, .int v_bubbleCell, .int v_bestShown, .ref q_traced, .int v_traceMany, .int v_who, .ref q_bitsOf, .ref q_sizeOf, .ref q_number, .ref q_lifted])), (q_d, .inl (c 0, 244, .inl v_d))] [(q_this, .inr (12, [.ref q_d, .ref q_kept, .int v_images, .ref q_found, .ref q_aside, .int v_base, .int v_at, .int v_size, .int v_fault, .int v_opened, .int v_isSeen, .ref q_names, .ref q_seenKept, .ref q_movedKept, .int v_isKeeping, .int v_bubbleMany, .int v_bubbleMost, .int v_bubbleCell, .int v_bestShown, .ref q_traced, .int v_traceMany, .int v_who, .ref q_bitsOf, .ref q_sizeOf, .ref q_number, .ref q_lifted])), (q_d, .inl (c 0, 244, .inl v_d))] o_r := by
  refine gMI_of (cc := cX12_isTool) (maxL := 2) (rt := (some .boolean)) (by decide +kernel) rfl (Nat.le_of_ble_eq_true rfl) ?_
  intro p e s m below meth co A hF hK hX hP hD hA hS ls hl
  obtain ⟨hx, hb, hr, hts, hown, hlocks, hml⟩ := id hF
  have hl : lv_has ls 2 [(0, .ref q_this), (1, .int a_1)] := hl
  unfold f_X12_isTool at h
  refine lv_iload_n hx hb dX12_isTool_0 rfl (lv_at hl 1 rfl) ?_
  refine lv_i2l hx hb dX12_isTool_1 rfl ?_
  refine lv_lconst (v := 0) hx hb dX12_isTool_2 (by decide) ?_
  refine lv_aload_n hx hb dX12_isTool_3 rfl (lv_at hl 0 rfl) ?_
  refine va_get (D := D) (ci := 12) (v := .ref q_d) (C := RX12) (T := TX12) (N := 26) hx hb hts in_X12_isTool_X12 hown hK.1 hP 0 rfl rfl 0 (by decide) (hts (.fieldLink RX12 7 "PaperBubblesModel" "d" "[I") (List.mem_of_getElem? (i := 1) rfl)) (fun _ h9 => h9) rfl dX12_isTool_4 ?_
  refine lv_iconst (v := 2) hx hb dX12_isTool_7 (by decide) ?_
  replace h := chi_ok h
  obtain ⟨hi_1, h⟩ := h
  refine va_iald hx hb hK.1 hP 1 0 rfl rfl hi_1 dX12_isTool_8 ?_
  replace h := nm_ok h
  obtain ⟨t_2, et_2, h⟩ := h
  refine gTop et_2 ?_
  refine lv_iconst (v := 1) hx hb dX12_isTool_9 (by decide) ?_
  refine lv_isub hx hb dX12_isTool_10 ?_
  refine lv_i2l hx hb dX12_isTool_11 rfl ?_
  replace h := kb_ok h
  obtain ⟨r_4, hc_3, h⟩ := h
  refine gCallIr (isC := []) (wc := []) hP hD hS hA trivial (va_runS (rm := rm_X12_in) (ws := wsX12_in) (As := [.long ((a_1 : Int32).toInt64), .long 0, .long (((t_2 - 1) : Int32).toInt64)]) (rest := []) (gFix hF) (c_X12_in l D c ((a_1 : Int32).toInt64) 0 (((t_2 - 1) : Int32).toInt64) r_4 hc_3 s.heap.size) (va_cwS 3 hts gX12_isTool_X12_in rfl rfl rfl (by decide +kernel) ⟨Nat.le_of_ble_eq_true rfl, Nat.le_of_ble_eq_true rfl⟩) (gPreS (wc := []) (isC := []) hK hX hS hA hP hD trivial (by decide +kernel)) rfl rfl hl.1 rfl (lv_room (Nat.le_of_ble_eq_true rfl)) dX12_isTool_12 ⟨Nat.le_of_ble_eq_true rfl, Nat.le_of_ble_eq_true rfl⟩) (fun H locs hP hS => ?_)
  replace h := chb_ok h
  obtain ⟨hz_5, h⟩ := h
  replace h := so1 h
  subst h
  exact gIret hF hP hD hS (chb_n hz_5) dX12_isTool_15
set_option maxRecDepth 20000 in
theorem in_X12_kindOf_X12 : ∀ w ∈ u_ws RX12 TX12 26, w ∈ wsX12_kindOf := by decide +kernel
abbrev rm_X12_kindOf : Room := { frames := 0, cells := 0, slots := 0, locals := 0 }
set_option maxHeartbeats 4000000 in
set_option maxRecDepth 100000 in
theorem c_X12_kindOf (l : Launch) (D : va_G) (c : Nat → ClassId) (q_this q_d q_kept q_found q_aside q_names q_seenKept q_movedKept q_traced q_bitsOf q_sizeOf q_number q_lifted : Nat) (a_1 : Int32) (v_images : Int32) (v_base : Int32) (v_at : Int32) (v_size : Int32) (v_fault : Int32) (v_opened : Int32) (v_isSeen : Int32) (v_isKeeping : Int32) (v_bubbleMany : Int32) (v_bubbleMost : Int32) (v_bubbleCell : Int32) (v_bestShown : Int32) (v_traceMany : Int32) (v_who : Int32) (v_d : Nat → Int32) (o_r : Int32) (h : f_X12_kindOf a_1 v_d = some o_r) : gMI l yX12_kindOf wsX12_kindOf rm_X12_kindOf D c [.ref q_this, .int a_1] [(q_this, .inr (12, [.ref q_d, .ref q_kept, .int v_images, .ref q_found, .ref q_aside, .int v_base, .int v_at, .int v_size, .int v_fault, .int v_opened, .int v_isSeen, .ref q_names, .ref q_seenKept, .ref q_movedKept, .int v_isKeeping, .int v_bubbleMany, .int v_bubbleMost, .int v_bubbleCell, .int v_bestShown, .ref q_traced, .int v_traceMany, .int v_who, .ref q_bitsOf, .ref q_sizeOf, .ref q_number, .ref q_lifted])), (q_d, .inl (c 0, 244, .inl v_d))] [(q_this, .inr (12, [.ref q_d, .ref q_kept, .int v_images, .ref q_found, .ref q_aside, .int v_base, .int v_at, .int v_size, .int v_fault, .int v_opened, .int v_isSeen, .ref q_names, .ref q_seenKept, .ref q_movedKept, .int v_isKeeping, .int v_bubbleMany, .int v_bubbleMost, .int v_bubbleCell, .int v_bestShown, .ref q_traced, .int v_traceMany, .int v_who, .ref q_bitsOf, .ref q_sizeOf, .ref q_number, .ref q_lifted])), (q_d, .inl (c 0, 244, .inl v_d))] o_r := by
  refine gMI_of (cc := cX12_kindOf) (maxL := 2) (rt := (some .int)) (by decide +kernel) rfl (Nat.le_of_ble_eq_true rfl) ?_
  intro p e s m below meth co A hF hK hX hP hD hA hS ls hl
  obtain ⟨hx, hb, hr, hts, hown, hlocks, hml⟩ := id hF
  have hl : lv_has ls 2 [(0, .ref q_this), (1, .int a_1)] := hl
  unfold f_X12_kindOf at h
  refine lv_aload_n hx hb dX12_kindOf_0 rfl (lv_at hl 0 rfl) ?_
  refine va_get (D := D) (ci := 12) (v := .ref q_d) (C := RX12) (T := TX12) (N := 26) hx hb hts in_X12_kindOf_X12 hown hK.1 hP 0 rfl rfl 0 (by decide) (hts (.fieldLink RX12 7 "PaperBubblesModel" "d" "[I") (List.mem_of_getElem? (i := 1) rfl)) (fun _ h9 => h9) rfl dX12_kindOf_1 ?_
  refine lv_bipush (v := 60) hx hb dX12_kindOf_4 (by decide) ?_
  refine lv_iconst (v := 2) hx hb dX12_kindOf_6 (by decide) ?_
  refine lv_iload_n hx hb dX12_kindOf_7 rfl (lv_at hl 1 rfl) ?_
  refine lv_imul hx hb dX12_kindOf_8 ?_
  refine lv_iadd hx hb dX12_kindOf_9 ?_
  replace h := nm_ok h
  obtain ⟨t_1, et_1, h⟩ := h
  refine gTop et_1 ?_
  replace h := chi_ok h
  obtain ⟨hi_2, h⟩ := h
  refine va_iald hx hb hK.1 hP 1 0 rfl rfl hi_2 dX12_kindOf_10 ?_
  replace h := so1 h
  subst h
  exact gIret hF hP hD hS rfl dX12_kindOf_11
set_option maxRecDepth 20000 in
theorem in_X12_numberOf_X12 : ∀ w ∈ u_ws RX12 TX12 26, w ∈ wsX12_numberOf := by decide +kernel
abbrev rm_X12_numberOf : Room := { frames := 0, cells := 0, slots := 0, locals := 0 }
set_option maxHeartbeats 4000000 in
set_option maxRecDepth 100000 in
theorem c_X12_numberOf (l : Launch) (D : va_G) (c : Nat → ClassId) (q_this q_d q_kept q_found q_aside q_names q_seenKept q_movedKept q_traced q_bitsOf q_sizeOf q_number q_lifted : Nat) (a_1 : Int32) (v_images : Int32) (v_base : Int32) (v_at : Int32) (v_size : Int32) (v_fault : Int32) (v_opened : Int32) (v_isSeen : Int32) (v_isKeeping : Int32) (v_bubbleMany : Int32) (v_bubbleMost : Int32) (v_bubbleCell : Int32) (v_bestShown : Int32) (v_traceMany : Int32) (v_who : Int32) (v_d : Nat → Int32) (o_r : Int32) (h : f_X12_numberOf a_1 v_d = some o_r) : gMI l yX12_numberOf wsX12_numberOf rm_X12_numberOf D c [.ref q_this, .int a_1] [(q_this, .inr (12, [.ref q_d, .ref q_kept, .int v_images, .ref q_found, .ref q_aside, .int v_base, .int v_at, .int v_size, .int v_fault, .int v_opened, .int v_isSeen, .ref q_names, .ref q_seenKept, .ref q_movedKept, .int v_isKeeping, .int v_bubbleMany, .int v_bubbleMost, .int v_bubbleCell, .int v_bestShown, .ref q_traced, .int v_traceMany, .int v_who, .ref q_bitsOf, .ref q_sizeOf, .ref q_number, .ref q_lifted])), (q_d, .inl (c 0, 244, .inl v_d))] [(q_this, .inr (12, [.ref q_d, .ref q_kept, .int v_images, .ref q_found, .ref q_aside, .int v_base, .int v_at, .int v_size, .int v_fault, .int v_opened, .int v_isSeen, .ref q_names, .ref q_seenKept, .ref q_movedKept, .int v_isKeeping, .int v_bubbleMany, .int v_bubbleMost, .int v_bubbleCell, .int v_bestShown, .ref q_traced, .int v_traceMany, .int v_who, .ref q_bitsOf, .ref q_sizeOf, .ref q_number, .ref q_lifted])), (q_d, .inl (c 0, 244, .inl v_d))] o_r := by
  refine gMI_of (cc := cX12_numberOf) (maxL := 2) (rt := (some .int)) (by decide +kernel) rfl (Nat.le_of_ble_eq_true rfl) ?_
  intro p e s m below meth co A hF hK hX hP hD hA hS ls hl
  obtain ⟨hx, hb, hr, hts, hown, hlocks, hml⟩ := id hF
  have hl : lv_has ls 2 [(0, .ref q_this), (1, .int a_1)] := hl
  unfold f_X12_numberOf at h
  refine lv_aload_n hx hb dX12_numberOf_0 rfl (lv_at hl 0 rfl) ?_
  refine va_get (D := D) (ci := 12) (v := .ref q_d) (C := RX12) (T := TX12) (N := 26) hx hb hts in_X12_numberOf_X12 hown hK.1 hP 0 rfl rfl 0 (by decide) (hts (.fieldLink RX12 7 "PaperBubblesModel" "d" "[I") (List.mem_of_getElem? (i := 1) rfl)) (fun _ h9 => h9) rfl dX12_numberOf_1 ?_
  refine lv_bipush (v := 60) hx hb dX12_numberOf_4 (by decide) ?_
  refine lv_iconst (v := 2) hx hb dX12_numberOf_6 (by decide) ?_
  refine lv_iload_n hx hb dX12_numberOf_7 rfl (lv_at hl 1 rfl) ?_
  refine lv_imul hx hb dX12_numberOf_8 ?_
  refine lv_iadd hx hb dX12_numberOf_9 ?_
  replace h := nm_ok h
  obtain ⟨t_1, et_1, h⟩ := h
  refine gTop et_1 ?_
  refine lv_iconst (v := 1) hx hb dX12_numberOf_10 (by decide) ?_
  refine lv_iadd hx hb dX12_numberOf_11 ?_
  replace h := nm_ok h
  obtain ⟨t_2, et_2, h⟩ := h
  refine gTop et_2 ?_
  replace h := chi_ok h
  obtain ⟨hi_3, h⟩ := h
  refine va_iald hx hb hK.1 hP 1 0 rfl rfl hi_3 dX12_numberOf_12 ?_
  replace h := so1 h
  subst h
  exact gIret hF hP hD hS rfl dX12_numberOf_13
abbrev rm_X12_as : Room := { frames := 2, cells := 0, slots := 0, locals := 46 }
set_option maxHeartbeats 4000000 in
set_option maxRecDepth 100000 in
theorem c_X12_as (l : Launch) (D : va_G) (c : Nat → ClassId) (q_this q_d q_kept q_found q_aside q_names q_seenKept q_movedKept q_traced q_bitsOf q_sizeOf q_number q_lifted : Nat) (a_1 : Int32) (a_2 : Int32) (v_images : Int32) (v_base : Int32) (v_at : Int32) (v_size : Int32) (v_fault : Int32) (v_opened : Int32) (v_isSeen : Int32) (v_isKeeping : Int32) (v_bubbleMany : Int32) (v_bubbleMost : Int32) (v_bubbleCell : Int32) (v_bestShown : Int32) (v_traceMany : Int32) (v_who : Int32) (v_d : Nat → Int32) (v_found : Nat → Int32) (o_r : Int32) (o_v_found : Nat → Int32) (h : f_X12_as a_1 a_2 v_d v_found = some (o_r, o_v_found)) : gMI l yX12_as wsX12_as rm_X12_as D c [.ref q_this, .int a_1, .int a_2] [(q_this, .inr (12, [.ref q_d, .ref q_kept, .int v_images, .ref q_found, .ref q_aside, .int v_base, .int v_at, .int v_size, .int v_fault, .int v_opened, .int v_isSeen, .ref q_names, .ref q_seenKept, .ref q_movedKept, .int v_isKeeping, .int v_bubbleMany, .int v_bubbleMost, .int v_bubbleCell, .int v_bestShown, .ref q_traced, .int v_traceMany, .int v_who, .ref q_bitsOf, .ref q_sizeOf, .ref q_number, .ref q_lifted])), (q_d, .inl (c 0, 244, .inl v_d)), (q_found, .inl (c 0, 6, .inl v_found))] [(q_this, .inr (12, [.ref q_d, .ref q_kept, .int v_images, .ref q_found, .ref q_aside, .int v_base, .int v_at, .int v_size, .int v_fault, .int v_opened, .int v_isSeen, .ref q_names, .ref q_seenKept, .ref q_movedKept, .int v_isKeeping, .int v_bubbleMany, .int v_bubbleMost, .int v_bubbleCell, .int v_bestShown, .ref q_traced, .int v_traceMany, .int v_who, .ref q_bitsOf, .ref q_sizeOf, .ref q_number, .ref q_lifted])), (q_d, .inl (c 0, 244, .inl v_d)), (q_found, .inl (c 0, 6, .inl o_v_found))] o_r := by
  refine gMI_of (cc := cX12_as) (maxL := 4) (rt := (some .int)) (by decide +kernel) rfl (Nat.le_of_ble_eq_true rfl) ?_
  intro p e s m below meth co A hF hK hX hP hD hA hS ls hl
  obtain ⟨hx, hb, hr, hts, hown, hlocks, hml⟩ := id hF
  have hl : lv_has ls 4 [(0, .ref q_this), (1, .int a_1), (2, .int a_2)] := hl
  have t_L20 : ∀ (v_found : Nat → Int32) (H : Heap) (locs : List Loc), va_P D gcl [(q_this, .inr (12, [.ref q_d, .ref q_kept, .int v_images, .ref q_found, .ref q_aside, .int v_base, .int v_at, .int v_size, .int v_fault, .int v_opened, .int v_isSeen, .ref q_names, .ref q_seenKept, .ref q_movedKept, .int v_isKeeping, .int v_bubbleMany, .int v_bubbleMost, .int v_bubbleCell, .int v_bestShown, .ref q_traced, .int v_traceMany, .int v_who, .ref q_bitsOf, .ref q_sizeOf, .ref q_number, .ref q_lifted])), (q_d, .inl (c 0, 244, .inl v_d)), (q_found, .inl (c 0, 6, .inl v_found))] H → va_D A [(q_this, .inr (12, [.ref q_d, .ref q_kept, .int v_images, .ref q_found, .ref q_aside, .int v_base, .int v_at, .int v_size, .int v_fault, .int v_opened, .int v_isSeen, .ref q_names, .ref q_seenKept, .ref q_movedKept, .int v_isKeeping, .int v_bubbleMany, .int v_bubbleMost, .int v_bubbleCell, .int v_bestShown, .ref q_traced, .int v_traceMany, .int v_who, .ref q_bitsOf, .ref q_sizeOf, .ref q_number, .ref q_lifted])), (q_d, .inl (c 0, 244, .inl v_d)), (q_found, .inl (c 0, 6, .inl v_found))] → va_S A s.heap H locs → ∀ ls, lv_has ls 4 [(0, .ref q_this)] → f_X12_as_L20 v_found = some (o_r, o_v_found) → W p l e (headSpec wsX12_as rm_X12_as).room s m [.ref q_this, .int a_1, .int a_2].toArray below meth co H locs 0 0 (gQI D [(q_this, .inr (12, [.ref q_d, .ref q_kept, .int v_images, .ref q_found, .ref q_aside, .int v_base, .int v_at, .int v_size, .int v_fault, .int v_opened, .int v_isSeen, .ref q_names, .ref q_seenKept, .ref q_movedKept, .int v_isKeeping, .int v_bubbleMany, .int v_bubbleMost, .int v_bubbleCell, .int v_bestShown, .ref q_traced, .int v_traceMany, .int v_who, .ref q_bitsOf, .ref q_sizeOf, .ref q_number, .ref q_lifted])), (q_d, .inl (c 0, 244, .inl v_d)), (q_found, .inl (c 0, 6, .inl o_v_found))] o_r A below [.ref q_this, .int a_1, .int a_2] s) (F0 m 20 ls []) := by
    intro  v_found H locs hP hD hS ls hl h
    unfold f_X12_as_L20 at h
    refine lv_aload_n hx hb dX12_as_20 rfl (lv_at hl 0 rfl) ?_
    refine lv_iconst (v := 1) hx hb dX12_as_21 (by decide) ?_
    replace h := kb2_ok h
    obtain ⟨r_18, w_19, hc_17, h⟩ := h
    refine gCallI (isC := [0, 2]) (wc := [(q_this, .inr (12, [.ref q_d, .ref q_kept, .int v_images, .ref q_found, .ref q_aside, .int v_base, .int v_at, .int v_size, .int v_fault, .int v_opened, .int v_isSeen, .ref q_names, .ref q_seenKept, .ref q_movedKept, .int v_isKeeping, .int v_bubbleMany, .int v_bubbleMost, .int v_bubbleCell, .int v_bestShown, .ref q_traced, .int v_traceMany, .int v_who, .ref q_bitsOf, .ref q_sizeOf, .ref q_number, .ref q_lifted])), (q_found, .inl (c 0, 6, .inl v_found))]) (w1 := [(q_this, .inr (12, [.ref q_d, .ref q_kept, .int v_images, .ref q_found, .ref q_aside, .int v_base, .int v_at, .int v_size, .int v_fault, .int v_opened, .int v_isSeen, .ref q_names, .ref q_seenKept, .ref q_movedKept, .int v_isKeeping, .int v_bubbleMany, .int v_bubbleMost, .int v_bubbleCell, .int v_bestShown, .ref q_traced, .int v_traceMany, .int v_who, .ref q_bitsOf, .ref q_sizeOf, .ref q_number, .ref q_lifted])), (q_found, .inl (c 0, 6, .inl w_19))]) (ws2 := [(q_this, .inr (12, [.ref q_d, .ref q_kept, .int v_images, .ref q_found, .ref q_aside, .int v_base, .int v_at, .int v_size, .int v_fault, .int v_opened, .int v_isSeen, .ref q_names, .ref q_seenKept, .ref q_movedKept, .int v_isKeeping, .int v_bubbleMany, .int v_bubbleMost, .int v_bubbleCell, .int v_bestShown, .ref q_traced, .int v_traceMany, .int v_who, .ref q_bitsOf, .ref q_sizeOf, .ref q_number, .ref q_lifted])), (q_d, .inl (c 0, 244, .inl v_d)), (q_found, .inl (c 0, 6, .inl w_19))]) (ms := [(some 0), none, (some 1)]) hP hD hS hA ⟨rfl, rfl, trivial⟩ (by decide +kernel) ⟨rfl, rfl, rfl, trivial⟩ (va_runV (rm := rm_X12_finds) (ws := wsX12_finds) (As := [.int 1]) (rest := []) (gFix hF) (c_X12_finds l D c q_this q_d q_kept q_found q_aside q_names q_seenKept q_movedKept q_traced q_bitsOf q_sizeOf q_number q_lifted 1 v_images v_base v_at v_size v_fault v_opened v_isSeen v_isKeeping v_bubbleMany v_bubbleMost v_bubbleCell v_bestShown v_traceMany v_who v_found r_18 w_19 hc_17 H.size) (cwV 1 hts gX12_as_X12_finds rfl rfl rfl (by decide +kernel) ⟨Nat.le_of_ble_eq_true rfl, Nat.le_of_ble_eq_true rfl⟩) (gPreV (wc := [(q_this, .inr (12, [.ref q_d, .ref q_kept, .int v_images, .ref q_found, .ref q_aside, .int v_base, .int v_at, .int v_size, .int v_fault, .int v_opened, .int v_isSeen, .ref q_names, .ref q_seenKept, .ref q_movedKept, .int v_isKeeping, .int v_bubbleMany, .int v_bubbleMost, .int v_bubbleCell, .int v_bestShown, .ref q_traced, .int v_traceMany, .int v_who, .ref q_bitsOf, .ref q_sizeOf, .ref q_number, .ref q_lifted])), (q_found, .inl (c 0, 6, .inl v_found))]) (q := (RX12, TX12, 26)) (ci := 12) (q0 := 0) (isC := [0, 2]) hK hX hS hA hP hD ⟨rfl, rfl, trivial⟩ (by decide +kernel) rfl rfl) rfl rfl hl.1 rfl (lv_room (Nat.le_of_ble_eq_true rfl)) dX12_as_22 ⟨Nat.le_of_ble_eq_true rfl, Nat.le_of_ble_eq_true rfl⟩) (fun H locs hP hD hS => ?_)
    replace h := so2 h
    obtain ⟨z0, z1⟩ := h
    subst z0 z1
    exact gIret hF hP hD hS rfl dX12_as_25
  have t_L49 : ∀ (v_found : Nat → Int32) (H : Heap) (locs : List Loc), va_P D gcl [(q_this, .inr (12, [.ref q_d, .ref q_kept, .int v_images, .ref q_found, .ref q_aside, .int v_base, .int v_at, .int v_size, .int v_fault, .int v_opened, .int v_isSeen, .ref q_names, .ref q_seenKept, .ref q_movedKept, .int v_isKeeping, .int v_bubbleMany, .int v_bubbleMost, .int v_bubbleCell, .int v_bestShown, .ref q_traced, .int v_traceMany, .int v_who, .ref q_bitsOf, .ref q_sizeOf, .ref q_number, .ref q_lifted])), (q_d, .inl (c 0, 244, .inl v_d)), (q_found, .inl (c 0, 6, .inl v_found))] H → va_D A [(q_this, .inr (12, [.ref q_d, .ref q_kept, .int v_images, .ref q_found, .ref q_aside, .int v_base, .int v_at, .int v_size, .int v_fault, .int v_opened, .int v_isSeen, .ref q_names, .ref q_seenKept, .ref q_movedKept, .int v_isKeeping, .int v_bubbleMany, .int v_bubbleMost, .int v_bubbleCell, .int v_bestShown, .ref q_traced, .int v_traceMany, .int v_who, .ref q_bitsOf, .ref q_sizeOf, .ref q_number, .ref q_lifted])), (q_d, .inl (c 0, 244, .inl v_d)), (q_found, .inl (c 0, 6, .inl v_found))] → va_S A s.heap H locs → ∀ ls, lv_has ls 4 [(0, .ref q_this), (1, .int a_1)] → f_X12_as_L49 a_1 v_d v_found = some (o_r, o_v_found) → W p l e (headSpec wsX12_as rm_X12_as).room s m [.ref q_this, .int a_1, .int a_2].toArray below meth co H locs 0 0 (gQI D [(q_this, .inr (12, [.ref q_d, .ref q_kept, .int v_images, .ref q_found, .ref q_aside, .int v_base, .int v_at, .int v_size, .int v_fault, .int v_opened, .int v_isSeen, .ref q_names, .ref q_seenKept, .ref q_movedKept, .int v_isKeeping, .int v_bubbleMany, .int v_bubbleMost, .int v_bubbleCell, .int v_bestShown, .ref q_traced, .int v_traceMany, .int v_who, .ref q_bitsOf, .ref q_sizeOf, .ref q_number, .ref q_lifted])), (q_d, .inl (c 0, 244, .inl v_d)), (q_found, .inl (c 0, 6, .inl o_v_found))] o_r A below [.ref q_this, .int a_1, .int a_2] s) (F0 m 49 ls []) := by
    intro  v_found H locs hP hD hS ls hl h
    unfold f_X12_as_L49 at h
    refine lv_aload_n hx hb dX12_as_49 rfl (lv_at hl 0 rfl) ?_
    refine lv_iload_n hx hb dX12_as_50 rfl (lv_at hl 1 rfl) ?_
    replace h := kb_ok h
    obtain ⟨r_21, hc_20, h⟩ := h
    refine gCallIr (isC := [0, 1]) (wc := [(q_this, .inr (12, [.ref q_d, .ref q_kept, .int v_images, .ref q_found, .ref q_aside, .int v_base, .int v_at, .int v_size, .int v_fault, .int v_opened, .int v_isSeen, .ref q_names, .ref q_seenKept, .ref q_movedKept, .int v_isKeeping, .int v_bubbleMany, .int v_bubbleMost, .int v_bubbleCell, .int v_bestShown, .ref q_traced, .int v_traceMany, .int v_who, .ref q_bitsOf, .ref q_sizeOf, .ref q_number, .ref q_lifted])), (q_d, .inl (c 0, 244, .inl v_d))]) hP hD hS hA ⟨rfl, rfl, trivial⟩ (va_runV (rm := rm_X12_numberOf) (ws := wsX12_numberOf) (As := [.int a_1]) (rest := []) (gFix hF) (c_X12_numberOf l D c q_this q_d q_kept q_found q_aside q_names q_seenKept q_movedKept q_traced q_bitsOf q_sizeOf q_number q_lifted a_1 v_images v_base v_at v_size v_fault v_opened v_isSeen v_isKeeping v_bubbleMany v_bubbleMost v_bubbleCell v_bestShown v_traceMany v_who v_d r_21 hc_20 H.size) (cwV 1 hts gX12_as_X12_numberOf rfl rfl rfl (by decide +kernel) ⟨Nat.le_of_ble_eq_true rfl, Nat.le_of_ble_eq_true rfl⟩) (gPreV (wc := [(q_this, .inr (12, [.ref q_d, .ref q_kept, .int v_images, .ref q_found, .ref q_aside, .int v_base, .int v_at, .int v_size, .int v_fault, .int v_opened, .int v_isSeen, .ref q_names, .ref q_seenKept, .ref q_movedKept, .int v_isKeeping, .int v_bubbleMany, .int v_bubbleMost, .int v_bubbleCell, .int v_bestShown, .ref q_traced, .int v_traceMany, .int v_who, .ref q_bitsOf, .ref q_sizeOf, .ref q_number, .ref q_lifted])), (q_d, .inl (c 0, 244, .inl v_d))]) (q := (RX12, TX12, 26)) (ci := 12) (q0 := 0) (isC := [0, 1]) hK hX hS hA hP hD ⟨rfl, rfl, trivial⟩ (by decide +kernel) rfl rfl) rfl rfl hl.1 rfl (lv_room (Nat.le_of_ble_eq_true rfl)) dX12_as_51 ⟨Nat.le_of_ble_eq_true rfl, Nat.le_of_ble_eq_true rfl⟩) (fun H locs hP hS => ?_)
    refine lv_goto (tgt := 62) hx hb dX12_as_54 (by decide) ?_
    replace h := so2 h
    obtain ⟨z0, z1⟩ := h
    subst z0 z1
    exact gIret hF hP hD hS rfl dX12_as_62
  unfold f_X12_as at h
  refine lv_aload_n hx hb dX12_as_0 rfl (lv_at hl 0 rfl) ?_
  refine lv_iload_n hx hb dX12_as_1 rfl (lv_at hl 1 rfl) ?_
  replace h := kb_ok h
  obtain ⟨r_2, hc_1, h⟩ := h
  refine gCallIr (isC := [0, 1]) (wc := [(q_this, .inr (12, [.ref q_d, .ref q_kept, .int v_images, .ref q_found, .ref q_aside, .int v_base, .int v_at, .int v_size, .int v_fault, .int v_opened, .int v_isSeen, .ref q_names, .ref q_seenKept, .ref q_movedKept, .int v_isKeeping, .int v_bubbleMany, .int v_bubbleMost, .int v_bubbleCell, .int v_bestShown, .ref q_traced, .int v_traceMany, .int v_who, .ref q_bitsOf, .ref q_sizeOf, .ref q_number, .ref q_lifted])), (q_d, .inl (c 0, 244, .inl v_d))]) hP hD hS hA ⟨rfl, rfl, trivial⟩ (va_runV (rm := rm_X12_isTool) (ws := wsX12_isTool) (As := [.int a_1]) (rest := []) (gFix hF) (c_X12_isTool l D c q_this q_d q_kept q_found q_aside q_names q_seenKept q_movedKept q_traced q_bitsOf q_sizeOf q_number q_lifted a_1 v_images v_base v_at v_size v_fault v_opened v_isSeen v_isKeeping v_bubbleMany v_bubbleMost v_bubbleCell v_bestShown v_traceMany v_who v_d r_2 hc_1 s.heap.size) (cwV 1 hts gX12_as_X12_isTool rfl rfl rfl (by decide +kernel) ⟨Nat.le_of_ble_eq_true rfl, Nat.le_of_ble_eq_true rfl⟩) (gPreV (wc := [(q_this, .inr (12, [.ref q_d, .ref q_kept, .int v_images, .ref q_found, .ref q_aside, .int v_base, .int v_at, .int v_size, .int v_fault, .int v_opened, .int v_isSeen, .ref q_names, .ref q_seenKept, .ref q_movedKept, .int v_isKeeping, .int v_bubbleMany, .int v_bubbleMost, .int v_bubbleCell, .int v_bestShown, .ref q_traced, .int v_traceMany, .int v_who, .ref q_bitsOf, .ref q_sizeOf, .ref q_number, .ref q_lifted])), (q_d, .inl (c 0, 244, .inl v_d))]) (q := (RX12, TX12, 26)) (ci := 12) (q0 := 0) (isC := [0, 1]) hK hX hS hA hP hD ⟨rfl, rfl, trivial⟩ (by decide +kernel) rfl rfl) rfl rfl hl.1 rfl (lv_room (Nat.le_of_ble_eq_true rfl)) dX12_as_2 ⟨Nat.le_of_ble_eq_true rfl, Nat.le_of_ble_eq_true rfl⟩) (fun H locs hP hS => ?_)
  refine lv_if_eq (tgt := 20) hx hb dX12_as_5 (by decide) (fun c_3 => ?_) (fun c_3 => ?_)
  · replace h := it_t c_3 h
    exact t_L20 v_found H locs hP hD hS ls (lv_sub hl [0] rfl) h
  · replace h := it_f c_3 h
    refine lv_iload_n hx hb dX12_as_8 rfl (lv_at hl 2 rfl) ?_
    refine lv_i2l hx hb dX12_as_9 rfl ?_
    refine lv_lconst (v := 0) hx hb dX12_as_10 (by decide) ?_
    refine lv_ldc2 (v := 6) hx hb hown (hts (.constantLong RX12 183 (6)) (List.mem_of_getElem? (i := 1) rfl)) dX12_as_11 ?_
    replace h := kb_ok h
    obtain ⟨r_5, hc_4, h⟩ := h
    refine gCallIr (isC := []) (wc := []) hP hD hS hA trivial (va_runS (rm := rm_X12_in) (ws := wsX12_in) (As := [.long ((a_2 : Int32).toInt64), .long 0, .long 6]) (rest := []) (gFix hF) (c_X12_in l D c ((a_2 : Int32).toInt64) 0 6 r_5 hc_4 H.size) (va_cwS 3 hts gX12_as_X12_in rfl rfl rfl (by decide +kernel) ⟨Nat.le_of_ble_eq_true rfl, Nat.le_of_ble_eq_true rfl⟩) (gPreS (wc := []) (isC := []) hK hX hS hA hP hD trivial (by decide +kernel)) rfl rfl hl.1 rfl (lv_room (Nat.le_of_ble_eq_true rfl)) dX12_as_14 ⟨Nat.le_of_ble_eq_true rfl, Nat.le_of_ble_eq_true rfl⟩) (fun H locs hP hS => ?_)
    refine lv_if_ne (tgt := 26) hx hb dX12_as_17 (by decide) (fun c_6 => ?_) (fun c_6 => ?_)
    · replace h := it_f c_6 h
      refine lv_aload_n hx hb dX12_as_26 rfl (lv_at hl 0 rfl) ?_
      refine lv_iload_n hx hb dX12_as_27 rfl (lv_at hl 1 rfl) ?_
      replace h := kb_ok h
      obtain ⟨r_8, hc_7, h⟩ := h
      refine gCallIr (isC := [0, 1]) (wc := [(q_this, .inr (12, [.ref q_d, .ref q_kept, .int v_images, .ref q_found, .ref q_aside, .int v_base, .int v_at, .int v_size, .int v_fault, .int v_opened, .int v_isSeen, .ref q_names, .ref q_seenKept, .ref q_movedKept, .int v_isKeeping, .int v_bubbleMany, .int v_bubbleMost, .int v_bubbleCell, .int v_bestShown, .ref q_traced, .int v_traceMany, .int v_who, .ref q_bitsOf, .ref q_sizeOf, .ref q_number, .ref q_lifted])), (q_d, .inl (c 0, 244, .inl v_d))]) hP hD hS hA ⟨rfl, rfl, trivial⟩ (va_runV (rm := rm_X12_kindOf) (ws := wsX12_kindOf) (As := [.int a_1]) (rest := []) (gFix hF) (c_X12_kindOf l D c q_this q_d q_kept q_found q_aside q_names q_seenKept q_movedKept q_traced q_bitsOf q_sizeOf q_number q_lifted a_1 v_images v_base v_at v_size v_fault v_opened v_isSeen v_isKeeping v_bubbleMany v_bubbleMost v_bubbleCell v_bestShown v_traceMany v_who v_d r_8 hc_7 H.size) (cwV 1 hts gX12_as_X12_kindOf rfl rfl rfl (by decide +kernel) ⟨Nat.le_of_ble_eq_true rfl, Nat.le_of_ble_eq_true rfl⟩) (gPreV (wc := [(q_this, .inr (12, [.ref q_d, .ref q_kept, .int v_images, .ref q_found, .ref q_aside, .int v_base, .int v_at, .int v_size, .int v_fault, .int v_opened, .int v_isSeen, .ref q_names, .ref q_seenKept, .ref q_movedKept, .int v_isKeeping, .int v_bubbleMany, .int v_bubbleMost, .int v_bubbleCell, .int v_bestShown, .ref q_traced, .int v_traceMany, .int v_who, .ref q_bitsOf, .ref q_sizeOf, .ref q_number, .ref q_lifted])), (q_d, .inl (c 0, 244, .inl v_d))]) (q := (RX12, TX12, 26)) (ci := 12) (q0 := 0) (isC := [0, 1]) hK hX hS hA hP hD ⟨rfl, rfl, trivial⟩ (by decide +kernel) rfl rfl) rfl rfl hl.1 rfl (lv_room (Nat.le_of_ble_eq_true rfl)) dX12_as_28 ⟨Nat.le_of_ble_eq_true rfl, Nat.le_of_ble_eq_true rfl⟩) (fun H locs hP hS => ?_)
      refine lv_istore_n (lv' := [(3, .int r_8), (0, .ref q_this), (1, .int a_1), (2, .int a_2)]) hx hb dX12_as_31 rfl hl (by decide) rfl (fun ls hl => ?_)
      refine lv_iload_n hx hb dX12_as_32 rfl (lv_at hl 3 rfl) ?_
      refine lv_if_eq (tgt := 49) hx hb dX12_as_33 (by decide) (fun c_9 => ?_) (fun c_9 => ?_)
      · replace h := it_t c_9 h
        exact t_L49 v_found H locs hP hD hS ls (lv_sub hl [1, 2] rfl) h
      · replace h := it_f c_9 h
        refine lv_iload_n hx hb dX12_as_36 rfl (lv_at hl 3 rfl) ?_
        refine lv_iload_n hx hb dX12_as_37 rfl (lv_at hl 0 rfl) ?_
        refine lv_icmp_eq (tgt := 49) hx hb dX12_as_38 (by decide) (fun c_10 => ?_) (fun c_10 => ?_)
        · replace h := it_t c_10 h
          exact t_L49 v_found H locs hP hD hS ls (lv_sub hl [1, 2] rfl) h
        · replace h := it_f c_10 h
          refine lv_iload_n hx hb dX12_as_41 rfl (lv_at hl 3 rfl) ?_
          refine lv_iload_n hx hb dX12_as_42 rfl (lv_at hl 0 rfl) ?_
          replace h := kb_ok h
          obtain ⟨r_12, hc_11, h⟩ := h
          refine gCallIr (isC := []) (wc := []) hP hD hS hA trivial (va_runS (rm := rm_X12_above) (ws := wsX12_above) (As := [.int r_8]) (rest := [.int a_2]) (gFix hF) (c_X12_above l D c r_8 r_12 hc_11 H.size) (va_cwS 1 hts gX12_as_X12_above rfl rfl rfl (by decide +kernel) ⟨Nat.le_of_ble_eq_true rfl, Nat.le_of_ble_eq_true rfl⟩) (gPreS (wc := []) (isC := []) hK hX hS hA hP hD trivial (by decide +kernel)) rfl rfl hl.1 rfl (lv_room (Nat.le_of_ble_eq_true rfl)) dX12_as_43 ⟨Nat.le_of_ble_eq_true rfl, Nat.le_of_ble_eq_true rfl⟩) (fun H locs hP hS => ?_)
          refine lv_icmp_ne (tgt := 57) hx hb dX12_as_46 (by decide) (fun c_13 => ?_) (fun c_13 => ?_)
          · replace h := it_f c_13 h
            refine lv_aload_n hx hb dX12_as_57 rfl (lv_at hl 1 rfl) ?_
            refine lv_iconst (v := 5) hx hb dX12_as_58 (by decide) ?_
            replace h := kb2_ok h
            obtain ⟨r_15, w_16, hc_14, h⟩ := h
            refine gCallI (isC := [0, 2]) (wc := [(q_this, .inr (12, [.ref q_d, .ref q_kept, .int v_images, .ref q_found, .ref q_aside, .int v_base, .int v_at, .int v_size, .int v_fault, .int v_opened, .int v_isSeen, .ref q_names, .ref q_seenKept, .ref q_movedKept, .int v_isKeeping, .int v_bubbleMany, .int v_bubbleMost, .int v_bubbleCell, .int v_bestShown, .ref q_traced, .int v_traceMany, .int v_who, .ref q_bitsOf, .ref q_sizeOf, .ref q_number, .ref q_lifted])), (q_found, .inl (c 0, 6, .inl v_found))]) (w1 := [(q_this, .inr (12, [.ref q_d, .ref q_kept, .int v_images, .ref q_found, .ref q_aside, .int v_base, .int v_at, .int v_size, .int v_fault, .int v_opened, .int v_isSeen, .ref q_names, .ref q_seenKept, .ref q_movedKept, .int v_isKeeping, .int v_bubbleMany, .int v_bubbleMost, .int v_bubbleCell, .int v_bestShown, .ref q_traced, .int v_traceMany, .int v_who, .ref q_bitsOf, .ref q_sizeOf, .ref q_number, .ref q_lifted])), (q_found, .inl (c 0, 6, .inl w_16))]) (ws2 := [(q_this, .inr (12, [.ref q_d, .ref q_kept, .int v_images, .ref q_found, .ref q_aside, .int v_base, .int v_at, .int v_size, .int v_fault, .int v_opened, .int v_isSeen, .ref q_names, .ref q_seenKept, .ref q_movedKept, .int v_isKeeping, .int v_bubbleMany, .int v_bubbleMost, .int v_bubbleCell, .int v_bestShown, .ref q_traced, .int v_traceMany, .int v_who, .ref q_bitsOf, .ref q_sizeOf, .ref q_number, .ref q_lifted])), (q_d, .inl (c 0, 244, .inl v_d)), (q_found, .inl (c 0, 6, .inl w_16))]) (ms := [(some 0), none, (some 1)]) hP hD hS hA ⟨rfl, rfl, trivial⟩ (by decide +kernel) ⟨rfl, rfl, rfl, trivial⟩ (va_runV (rm := rm_X12_finds) (ws := wsX12_finds) (As := [.int 5]) (rest := []) (gFix hF) (c_X12_finds l D c q_this q_d q_kept q_found q_aside q_names q_seenKept q_movedKept q_traced q_bitsOf q_sizeOf q_number q_lifted 5 v_images v_base v_at v_size v_fault v_opened v_isSeen v_isKeeping v_bubbleMany v_bubbleMost v_bubbleCell v_bestShown v_traceMany v_who v_found r_15 w_16 hc_14 H.size) (cwV 1 hts gX12_as_X12_finds rfl rfl rfl (by decide +kernel) ⟨Nat.le_of_ble_eq_true rfl, Nat.le_of_ble_eq_true rfl⟩) (gPreV (wc := [(q_this, .inr (12, [.ref q_d, .ref q_kept, .int v_images, .ref q_found, .ref q_aside, .int v_base, .int v_at, .int v_size, .int v_fault, .int v_opened, .int v_isSeen, .ref q_names, .ref q_seenKept, .ref q_movedKept, .int v_isKeeping, .int v_bubbleMany, .int v_bubbleMost, .int v_bubbleCell, .int v_bestShown, .ref q_traced, .int v_traceMany, .int v_who, .ref q_bitsOf, .ref q_sizeOf, .ref q_number, .ref q_lifted])), (q_found, .inl (c 0, 6, .inl v_found))]) (q := (RX12, TX12, 26)) (ci := 12) (q0 := 0) (isC := [0, 2]) hK hX hS hA hP hD ⟨rfl, rfl, trivial⟩ (by decide +kernel) rfl rfl) rfl rfl hl.1 rfl (lv_room (Nat.le_of_ble_eq_true rfl)) dX12_as_59 ⟨Nat.le_of_ble_eq_true rfl, Nat.le_of_ble_eq_true rfl⟩) (fun H locs hP hD hS => ?_)
            replace h := so2 h
            obtain ⟨z0, z1⟩ := h
            subst z0 z1
            exact gIret hF hP hD hS rfl dX12_as_62
          · replace h := it_t c_13 h
            exact t_L49 v_found H locs hP hD hS ls (lv_sub hl [1, 2] rfl) h
    · replace h := it_t c_6 h
      exact t_L20 v_found H locs hP hD hS ls (lv_sub hl [0] rfl) h
set_option maxRecDepth 20000 in
theorem in_X12_become_X12 : ∀ w ∈ u_ws RX12 TX12 26, w ∈ wsX12_become := by decide +kernel
abbrev rm_X12_become : Room := { frames := 2, cells := 0, slots := 0, locals := 46 }
set_option maxHeartbeats 4000000 in
set_option maxRecDepth 100000 in
theorem c_X12_become (l : Launch) (D : va_G) (c : Nat → ClassId) (q_this q_d q_kept q_found q_aside q_names q_seenKept q_movedKept q_traced q_bitsOf q_sizeOf q_number q_lifted : Nat) (a_1 : Int32) (a_2 : Int32) (v_images : Int32) (v_base : Int32) (v_at : Int32) (v_size : Int32) (v_fault : Int32) (v_opened : Int32) (v_isSeen : Int32) (v_isKeeping : Int32) (v_bubbleMany : Int32) (v_bubbleMost : Int32) (v_bubbleCell : Int32) (v_bestShown : Int32) (v_traceMany : Int32) (v_who : Int32) (v_d : Nat → Int32) (v_found : Nat → Int32) (o_r : Int32) (o_v_d : Nat → Int32) (o_v_found : Nat → Int32) (h : f_X12_become a_1 a_2 v_d v_found = some (o_r, o_v_d, o_v_found)) : gMI l yX12_become wsX12_become rm_X12_become D c [.ref q_this, .int a_1, .int a_2] [(q_this, .inr (12, [.ref q_d, .ref q_kept, .int v_images, .ref q_found, .ref q_aside, .int v_base, .int v_at, .int v_size, .int v_fault, .int v_opened, .int v_isSeen, .ref q_names, .ref q_seenKept, .ref q_movedKept, .int v_isKeeping, .int v_bubbleMany, .int v_bubbleMost, .int v_bubbleCell, .int v_bestShown, .ref q_traced, .int v_traceMany, .int v_who, .ref q_bitsOf, .ref q_sizeOf, .ref q_number, .ref q_lifted])), (q_d, .inl (c 0, 244, .inl v_d)), (q_found, .inl (c 0, 6, .inl v_found))] [(q_this, .inr (12, [.ref q_d, .ref q_kept, .int v_images, .ref q_found, .ref q_aside, .int v_base, .int v_at, .int v_size, .int v_fault, .int v_opened, .int v_isSeen, .ref q_names, .ref q_seenKept, .ref q_movedKept, .int v_isKeeping, .int v_bubbleMany, .int v_bubbleMost, .int v_bubbleCell, .int v_bestShown, .ref q_traced, .int v_traceMany, .int v_who, .ref q_bitsOf, .ref q_sizeOf, .ref q_number, .ref q_lifted])), (q_d, .inl (c 0, 244, .inl o_v_d)), (q_found, .inl (c 0, 6, .inl o_v_found))] o_r := by
  refine gMI_of (cc := cX12_become) (maxL := 4) (rt := (some .int)) (by decide +kernel) rfl (Nat.le_of_ble_eq_true rfl) ?_
  intro p e s m below meth co A hF hK hX hP hD hA hS ls hl
  obtain ⟨hx, hb, hr, hts, hown, hlocks, hml⟩ := id hF
  have hl : lv_has ls 4 [(0, .ref q_this), (1, .int a_1), (2, .int a_2)] := hl
  have t_L20 : ∀ (v_d : Nat → Int32) (v_found : Nat → Int32) (H : Heap) (locs : List Loc), va_P D gcl [(q_this, .inr (12, [.ref q_d, .ref q_kept, .int v_images, .ref q_found, .ref q_aside, .int v_base, .int v_at, .int v_size, .int v_fault, .int v_opened, .int v_isSeen, .ref q_names, .ref q_seenKept, .ref q_movedKept, .int v_isKeeping, .int v_bubbleMany, .int v_bubbleMost, .int v_bubbleCell, .int v_bestShown, .ref q_traced, .int v_traceMany, .int v_who, .ref q_bitsOf, .ref q_sizeOf, .ref q_number, .ref q_lifted])), (q_d, .inl (c 0, 244, .inl v_d)), (q_found, .inl (c 0, 6, .inl v_found))] H → va_D A [(q_this, .inr (12, [.ref q_d, .ref q_kept, .int v_images, .ref q_found, .ref q_aside, .int v_base, .int v_at, .int v_size, .int v_fault, .int v_opened, .int v_isSeen, .ref q_names, .ref q_seenKept, .ref q_movedKept, .int v_isKeeping, .int v_bubbleMany, .int v_bubbleMost, .int v_bubbleCell, .int v_bestShown, .ref q_traced, .int v_traceMany, .int v_who, .ref q_bitsOf, .ref q_sizeOf, .ref q_number, .ref q_lifted])), (q_d, .inl (c 0, 244, .inl v_d)), (q_found, .inl (c 0, 6, .inl v_found))] → va_S A s.heap H locs → ∀ ls, lv_has ls 4 [(0, .ref q_this)] → f_X12_become_L20 v_d v_found = some (o_r, o_v_d, o_v_found) → W p l e (headSpec wsX12_become rm_X12_become).room s m [.ref q_this, .int a_1, .int a_2].toArray below meth co H locs 0 0 (gQI D [(q_this, .inr (12, [.ref q_d, .ref q_kept, .int v_images, .ref q_found, .ref q_aside, .int v_base, .int v_at, .int v_size, .int v_fault, .int v_opened, .int v_isSeen, .ref q_names, .ref q_seenKept, .ref q_movedKept, .int v_isKeeping, .int v_bubbleMany, .int v_bubbleMost, .int v_bubbleCell, .int v_bestShown, .ref q_traced, .int v_traceMany, .int v_who, .ref q_bitsOf, .ref q_sizeOf, .ref q_number, .ref q_lifted])), (q_d, .inl (c 0, 244, .inl o_v_d)), (q_found, .inl (c 0, 6, .inl o_v_found))] o_r A below [.ref q_this, .int a_1, .int a_2] s) (F0 m 20 ls []) := by
    intro  v_d v_found H locs hP hD hS ls hl h
    unfold f_X12_become_L20 at h
    refine lv_aload_n hx hb dX12_become_20 rfl (lv_at hl 0 rfl) ?_
    refine lv_iconst (v := 1) hx hb dX12_become_21 (by decide) ?_
    replace h := kb2_ok h
    obtain ⟨r_21, w_22, hc_20, h⟩ := h
    refine gCallI (isC := [0, 2]) (wc := [(q_this, .inr (12, [.ref q_d, .ref q_kept, .int v_images, .ref q_found, .ref q_aside, .int v_base, .int v_at, .int v_size, .int v_fault, .int v_opened, .int v_isSeen, .ref q_names, .ref q_seenKept, .ref q_movedKept, .int v_isKeeping, .int v_bubbleMany, .int v_bubbleMost, .int v_bubbleCell, .int v_bestShown, .ref q_traced, .int v_traceMany, .int v_who, .ref q_bitsOf, .ref q_sizeOf, .ref q_number, .ref q_lifted])), (q_found, .inl (c 0, 6, .inl v_found))]) (w1 := [(q_this, .inr (12, [.ref q_d, .ref q_kept, .int v_images, .ref q_found, .ref q_aside, .int v_base, .int v_at, .int v_size, .int v_fault, .int v_opened, .int v_isSeen, .ref q_names, .ref q_seenKept, .ref q_movedKept, .int v_isKeeping, .int v_bubbleMany, .int v_bubbleMost, .int v_bubbleCell, .int v_bestShown, .ref q_traced, .int v_traceMany, .int v_who, .ref q_bitsOf, .ref q_sizeOf, .ref q_number, .ref q_lifted])), (q_found, .inl (c 0, 6, .inl w_22))]) (ws2 := [(q_this, .inr (12, [.ref q_d, .ref q_kept, .int v_images, .ref q_found, .ref q_aside, .int v_base, .int v_at, .int v_size, .int v_fault, .int v_opened, .int v_isSeen, .ref q_names, .ref q_seenKept, .ref q_movedKept, .int v_isKeeping, .int v_bubbleMany, .int v_bubbleMost, .int v_bubbleCell, .int v_bestShown, .ref q_traced, .int v_traceMany, .int v_who, .ref q_bitsOf, .ref q_sizeOf, .ref q_number, .ref q_lifted])), (q_d, .inl (c 0, 244, .inl v_d)), (q_found, .inl (c 0, 6, .inl w_22))]) (ms := [(some 0), none, (some 1)]) hP hD hS hA ⟨rfl, rfl, trivial⟩ (by decide +kernel) ⟨rfl, rfl, rfl, trivial⟩ (va_runV (rm := rm_X12_finds) (ws := wsX12_finds) (As := [.int 1]) (rest := []) (gFix hF) (c_X12_finds l D c q_this q_d q_kept q_found q_aside q_names q_seenKept q_movedKept q_traced q_bitsOf q_sizeOf q_number q_lifted 1 v_images v_base v_at v_size v_fault v_opened v_isSeen v_isKeeping v_bubbleMany v_bubbleMost v_bubbleCell v_bestShown v_traceMany v_who v_found r_21 w_22 hc_20 H.size) (cwV 1 hts gX12_become_X12_finds rfl rfl rfl (by decide +kernel) ⟨Nat.le_of_ble_eq_true rfl, Nat.le_of_ble_eq_true rfl⟩) (gPreV (wc := [(q_this, .inr (12, [.ref q_d, .ref q_kept, .int v_images, .ref q_found, .ref q_aside, .int v_base, .int v_at, .int v_size, .int v_fault, .int v_opened, .int v_isSeen, .ref q_names, .ref q_seenKept, .ref q_movedKept, .int v_isKeeping, .int v_bubbleMany, .int v_bubbleMost, .int v_bubbleCell, .int v_bestShown, .ref q_traced, .int v_traceMany, .int v_who, .ref q_bitsOf, .ref q_sizeOf, .ref q_number, .ref q_lifted])), (q_found, .inl (c 0, 6, .inl v_found))]) (q := (RX12, TX12, 26)) (ci := 12) (q0 := 0) (isC := [0, 2]) hK hX hS hA hP hD ⟨rfl, rfl, trivial⟩ (by decide +kernel) rfl rfl) rfl rfl hl.1 rfl (lv_room (Nat.le_of_ble_eq_true rfl)) dX12_become_22 ⟨Nat.le_of_ble_eq_true rfl, Nat.le_of_ble_eq_true rfl⟩) (fun H locs hP hD hS => ?_)
    replace h := so3 h
    obtain ⟨z0, z1, z2⟩ := h
    subst z0 z1 z2
    exact gIret hF hP hD hS rfl dX12_become_25
  unfold f_X12_become at h
  refine lv_aload_n hx hb dX12_become_0 rfl (lv_at hl 0 rfl) ?_
  refine lv_iload_n hx hb dX12_become_1 rfl (lv_at hl 1 rfl) ?_
  replace h := kb_ok h
  obtain ⟨r_2, hc_1, h⟩ := h
  refine gCallIr (isC := [0, 1]) (wc := [(q_this, .inr (12, [.ref q_d, .ref q_kept, .int v_images, .ref q_found, .ref q_aside, .int v_base, .int v_at, .int v_size, .int v_fault, .int v_opened, .int v_isSeen, .ref q_names, .ref q_seenKept, .ref q_movedKept, .int v_isKeeping, .int v_bubbleMany, .int v_bubbleMost, .int v_bubbleCell, .int v_bestShown, .ref q_traced, .int v_traceMany, .int v_who, .ref q_bitsOf, .ref q_sizeOf, .ref q_number, .ref q_lifted])), (q_d, .inl (c 0, 244, .inl v_d))]) hP hD hS hA ⟨rfl, rfl, trivial⟩ (va_runV (rm := rm_X12_isTool) (ws := wsX12_isTool) (As := [.int a_1]) (rest := []) (gFix hF) (c_X12_isTool l D c q_this q_d q_kept q_found q_aside q_names q_seenKept q_movedKept q_traced q_bitsOf q_sizeOf q_number q_lifted a_1 v_images v_base v_at v_size v_fault v_opened v_isSeen v_isKeeping v_bubbleMany v_bubbleMost v_bubbleCell v_bestShown v_traceMany v_who v_d r_2 hc_1 s.heap.size) (cwV 1 hts gX12_become_X12_isTool rfl rfl rfl (by decide +kernel) ⟨Nat.le_of_ble_eq_true rfl, Nat.le_of_ble_eq_true rfl⟩) (gPreV (wc := [(q_this, .inr (12, [.ref q_d, .ref q_kept, .int v_images, .ref q_found, .ref q_aside, .int v_base, .int v_at, .int v_size, .int v_fault, .int v_opened, .int v_isSeen, .ref q_names, .ref q_seenKept, .ref q_movedKept, .int v_isKeeping, .int v_bubbleMany, .int v_bubbleMost, .int v_bubbleCell, .int v_bestShown, .ref q_traced, .int v_traceMany, .int v_who, .ref q_bitsOf, .ref q_sizeOf, .ref q_number, .ref q_lifted])), (q_d, .inl (c 0, 244, .inl v_d))]) (q := (RX12, TX12, 26)) (ci := 12) (q0 := 0) (isC := [0, 1]) hK hX hS hA hP hD ⟨rfl, rfl, trivial⟩ (by decide +kernel) rfl rfl) rfl rfl hl.1 rfl (lv_room (Nat.le_of_ble_eq_true rfl)) dX12_become_2 ⟨Nat.le_of_ble_eq_true rfl, Nat.le_of_ble_eq_true rfl⟩) (fun H locs hP hS => ?_)
  refine lv_if_eq (tgt := 20) hx hb dX12_become_5 (by decide) (fun c_3 => ?_) (fun c_3 => ?_)
  · replace h := it_t c_3 h
    exact t_L20 v_d v_found H locs hP hD hS ls (lv_sub hl [0] rfl) h
  · replace h := it_f c_3 h
    refine lv_iload_n hx hb dX12_become_8 rfl (lv_at hl 2 rfl) ?_
    refine lv_i2l hx hb dX12_become_9 rfl ?_
    refine lv_lconst (v := 0) hx hb dX12_become_10 (by decide) ?_
    refine lv_ldc2 (v := 69) hx hb hown (hts (.constantLong RX12 178 (69)) (List.mem_of_getElem? (i := 1) rfl)) dX12_become_11 ?_
    replace h := kb_ok h
    obtain ⟨r_5, hc_4, h⟩ := h
    refine gCallIr (isC := []) (wc := []) hP hD hS hA trivial (va_runS (rm := rm_X12_in) (ws := wsX12_in) (As := [.long ((a_2 : Int32).toInt64), .long 0, .long 69]) (rest := []) (gFix hF) (c_X12_in l D c ((a_2 : Int32).toInt64) 0 69 r_5 hc_4 H.size) (va_cwS 3 hts gX12_become_X12_in rfl rfl rfl (by decide +kernel) ⟨Nat.le_of_ble_eq_true rfl, Nat.le_of_ble_eq_true rfl⟩) (gPreS (wc := []) (isC := []) hK hX hS hA hP hD trivial (by decide +kernel)) rfl rfl hl.1 rfl (lv_room (Nat.le_of_ble_eq_true rfl)) dX12_become_14 ⟨Nat.le_of_ble_eq_true rfl, Nat.le_of_ble_eq_true rfl⟩) (fun H locs hP hS => ?_)
    refine lv_if_ne (tgt := 26) hx hb dX12_become_17 (by decide) (fun c_6 => ?_) (fun c_6 => ?_)
    · replace h := it_f c_6 h
      refine lv_aload_n hx hb dX12_become_26 rfl (lv_at hl 0 rfl) ?_
      refine lv_iload_n hx hb dX12_become_27 rfl (lv_at hl 1 rfl) ?_
      replace h := kb_ok h
      obtain ⟨r_8, hc_7, h⟩ := h
      refine gCallIr (isC := [0, 1]) (wc := [(q_this, .inr (12, [.ref q_d, .ref q_kept, .int v_images, .ref q_found, .ref q_aside, .int v_base, .int v_at, .int v_size, .int v_fault, .int v_opened, .int v_isSeen, .ref q_names, .ref q_seenKept, .ref q_movedKept, .int v_isKeeping, .int v_bubbleMany, .int v_bubbleMost, .int v_bubbleCell, .int v_bestShown, .ref q_traced, .int v_traceMany, .int v_who, .ref q_bitsOf, .ref q_sizeOf, .ref q_number, .ref q_lifted])), (q_d, .inl (c 0, 244, .inl v_d))]) hP hD hS hA ⟨rfl, rfl, trivial⟩ (va_runV (rm := rm_X12_kindOf) (ws := wsX12_kindOf) (As := [.int a_1]) (rest := []) (gFix hF) (c_X12_kindOf l D c q_this q_d q_kept q_found q_aside q_names q_seenKept q_movedKept q_traced q_bitsOf q_sizeOf q_number q_lifted a_1 v_images v_base v_at v_size v_fault v_opened v_isSeen v_isKeeping v_bubbleMany v_bubbleMost v_bubbleCell v_bestShown v_traceMany v_who v_d r_8 hc_7 H.size) (cwV 1 hts gX12_become_X12_kindOf rfl rfl rfl (by decide +kernel) ⟨Nat.le_of_ble_eq_true rfl, Nat.le_of_ble_eq_true rfl⟩) (gPreV (wc := [(q_this, .inr (12, [.ref q_d, .ref q_kept, .int v_images, .ref q_found, .ref q_aside, .int v_base, .int v_at, .int v_size, .int v_fault, .int v_opened, .int v_isSeen, .ref q_names, .ref q_seenKept, .ref q_movedKept, .int v_isKeeping, .int v_bubbleMany, .int v_bubbleMost, .int v_bubbleCell, .int v_bestShown, .ref q_traced, .int v_traceMany, .int v_who, .ref q_bitsOf, .ref q_sizeOf, .ref q_number, .ref q_lifted])), (q_d, .inl (c 0, 244, .inl v_d))]) (q := (RX12, TX12, 26)) (ci := 12) (q0 := 0) (isC := [0, 1]) hK hX hS hA hP hD ⟨rfl, rfl, trivial⟩ (by decide +kernel) rfl rfl) rfl rfl hl.1 rfl (lv_room (Nat.le_of_ble_eq_true rfl)) dX12_become_28 ⟨Nat.le_of_ble_eq_true rfl, Nat.le_of_ble_eq_true rfl⟩) (fun H locs hP hS => ?_)
      refine lv_istore_n (lv' := [(3, .int r_8), (0, .ref q_this), (1, .int a_1), (2, .int a_2)]) hx hb dX12_become_31 rfl hl (by decide) rfl (fun ls hl => ?_)
      refine lv_aload_n hx hb dX12_become_32 rfl (lv_at hl 1 rfl) ?_
      refine va_get (D := D) (ci := 12) (v := .ref q_d) (C := RX12) (T := TX12) (N := 26) hx hb hts in_X12_become_X12 hown hK.1 hP 0 rfl rfl 0 (by decide) (hts (.fieldLink RX12 7 "PaperBubblesModel" "d" "[I") (List.mem_of_getElem? (i := 2) rfl)) (fun _ h9 => h9) rfl dX12_become_33 ?_
      refine lv_bipush (v := 60) hx hb dX12_become_36 (by decide) ?_
      refine lv_iconst (v := 2) hx hb dX12_become_38 (by decide) ?_
      refine lv_iload_n hx hb dX12_become_39 rfl (lv_at hl 2 rfl) ?_
      refine lv_imul hx hb dX12_become_40 ?_
      refine lv_iadd hx hb dX12_become_41 ?_
      replace h := nm_ok h
      obtain ⟨t_9, et_9, h⟩ := h
      refine gTop et_9 ?_
      refine lv_iload_n hx hb dX12_become_42 rfl (lv_at hl 3 rfl) ?_
      refine lv_bipush (v := 10) hx hb dX12_become_43 (by decide) ?_
      replace h := chz_ok h
      obtain ⟨hz_10, h⟩ := h
      refine lv_idiv hx hb dX12_become_45 hz_10 ?_
      replace h := nm_ok h
      obtain ⟨t_11, et_11, h⟩ := h
      refine gTop et_11 ?_
      replace h := chi_ok h
      obtain ⟨hi_12, h⟩ := h
      replace h := nm_ok h
      obtain ⟨w_13, ew_13, h⟩ := h
      refine va_iast hx hb hK.1 hP hD hS 1 0 rfl rfl hi_12 dX12_become_46 (fun H locs hP hD hS => ?_)
      have hP : va_P D gcl [(q_this, .inr (12, [.ref q_d, .ref q_kept, .int v_images, .ref q_found, .ref q_aside, .int v_base, .int v_at, .int v_size, .int v_fault, .int v_opened, .int v_isSeen, .ref q_names, .ref q_seenKept, .ref q_movedKept, .int v_isKeeping, .int v_bubbleMany, .int v_bubbleMost, .int v_bubbleCell, .int v_bestShown, .ref q_traced, .int v_traceMany, .int v_who, .ref q_bitsOf, .ref q_sizeOf, .ref q_number, .ref q_lifted])), (q_d, .inl (c 0, 244, .inl w_13)), (q_found, .inl (c 0, 6, .inl v_found))] H := by subst ew_13; exact hP
      have hD : va_D A [(q_this, .inr (12, [.ref q_d, .ref q_kept, .int v_images, .ref q_found, .ref q_aside, .int v_base, .int v_at, .int v_size, .int v_fault, .int v_opened, .int v_isSeen, .ref q_names, .ref q_seenKept, .ref q_movedKept, .int v_isKeeping, .int v_bubbleMany, .int v_bubbleMost, .int v_bubbleCell, .int v_bestShown, .ref q_traced, .int v_traceMany, .int v_who, .ref q_bitsOf, .ref q_sizeOf, .ref q_number, .ref q_lifted])), (q_d, .inl (c 0, 244, .inl w_13)), (q_found, .inl (c 0, 6, .inl v_found))] := by subst ew_13; exact hD
      refine lv_aload_n hx hb dX12_become_47 rfl (lv_at hl 1 rfl) ?_
      refine va_get (D := D) (ci := 12) (v := .ref q_d) (C := RX12) (T := TX12) (N := 26) hx hb hts in_X12_become_X12 hown hK.1 hP 0 rfl rfl 0 (by decide) (hts (.fieldLink RX12 7 "PaperBubblesModel" "d" "[I") (List.mem_of_getElem? (i := 2) rfl)) (fun _ h9 => h9) rfl dX12_become_48 ?_
      refine lv_bipush (v := 60) hx hb dX12_become_51 (by decide) ?_
      refine lv_iconst (v := 2) hx hb dX12_become_53 (by decide) ?_
      refine lv_iload_n hx hb dX12_become_54 rfl (lv_at hl 2 rfl) ?_
      refine lv_imul hx hb dX12_become_55 ?_
      refine lv_iadd hx hb dX12_become_56 ?_
      replace h := nm_ok h
      obtain ⟨t_14, et_14, h⟩ := h
      refine gTop et_14 ?_
      refine lv_iconst (v := 1) hx hb dX12_become_57 (by decide) ?_
      refine lv_iadd hx hb dX12_become_58 ?_
      replace h := nm_ok h
      obtain ⟨t_15, et_15, h⟩ := h
      refine gTop et_15 ?_
      refine lv_iload_n hx hb dX12_become_59 rfl (lv_at hl 3 rfl) ?_
      refine lv_bipush (v := 10) hx hb dX12_become_60 (by decide) ?_
      replace h := chz_ok h
      obtain ⟨hz_16, h⟩ := h
      refine lv_irem hx hb dX12_become_62 hz_16 ?_
      replace h := nm_ok h
      obtain ⟨t_17, et_17, h⟩ := h
      refine gTop et_17 ?_
      replace h := chi_ok h
      obtain ⟨hi_18, h⟩ := h
      replace h := nm_ok h
      obtain ⟨w_19, ew_19, h⟩ := h
      refine va_iast hx hb hK.1 hP hD hS 1 0 rfl rfl hi_18 dX12_become_63 (fun H locs hP hD hS => ?_)
      have hP : va_P D gcl [(q_this, .inr (12, [.ref q_d, .ref q_kept, .int v_images, .ref q_found, .ref q_aside, .int v_base, .int v_at, .int v_size, .int v_fault, .int v_opened, .int v_isSeen, .ref q_names, .ref q_seenKept, .ref q_movedKept, .int v_isKeeping, .int v_bubbleMany, .int v_bubbleMost, .int v_bubbleCell, .int v_bestShown, .ref q_traced, .int v_traceMany, .int v_who, .ref q_bitsOf, .ref q_sizeOf, .ref q_number, .ref q_lifted])), (q_d, .inl (c 0, 244, .inl w_19)), (q_found, .inl (c 0, 6, .inl v_found))] H := by subst ew_19; exact hP
      have hD : va_D A [(q_this, .inr (12, [.ref q_d, .ref q_kept, .int v_images, .ref q_found, .ref q_aside, .int v_base, .int v_at, .int v_size, .int v_fault, .int v_opened, .int v_isSeen, .ref q_names, .ref q_seenKept, .ref q_movedKept, .int v_isKeeping, .int v_bubbleMany, .int v_bubbleMost, .int v_bubbleCell, .int v_bestShown, .ref q_traced, .int v_traceMany, .int v_who, .ref q_bitsOf, .ref q_sizeOf, .ref q_number, .ref q_lifted])), (q_d, .inl (c 0, 244, .inl w_19)), (q_found, .inl (c 0, 6, .inl v_found))] := by subst ew_19; exact hD
      refine lv_iload_n hx hb dX12_become_64 rfl (lv_at hl 0 rfl) ?_
      replace h := so3 h
      obtain ⟨z0, z1, z2⟩ := h
      subst z0 z1 z2
      exact gIret hF hP hD hS rfl dX12_become_65
    · replace h := it_t c_6 h
      exact t_L20 v_d v_found H locs hP hD hS ls (lv_sub hl [0] rfl) h
set_option maxRecDepth 20000 in
theorem in_X12_keepAside_X12 : ∀ w ∈ u_ws RX12 TX12 26, w ∈ wsX12_keepAside := by decide +kernel
abbrev rm_X12_keepAside : Room := { frames := 0, cells := 0, slots := 0, locals := 0 }
set_option maxHeartbeats 4000000 in
set_option maxRecDepth 100000 in
theorem c_X12_keepAside (l : Launch) (D : va_G) (c : Nat → ClassId) (q_this q_d q_kept q_found q_aside q_names q_seenKept q_movedKept q_traced q_bitsOf q_sizeOf q_number q_lifted : Nat) (a_1 : Int32) (v_images : Int32) (v_base : Int32) (v_at : Int32) (v_size : Int32) (v_fault : Int32) (v_opened : Int32) (v_isSeen : Int32) (v_isKeeping : Int32) (v_bubbleMany : Int32) (v_bubbleMost : Int32) (v_bubbleCell : Int32) (v_bestShown : Int32) (v_traceMany : Int32) (v_who : Int32) (v_aside : Nat → Int32) (v_d : Nat → Int32) (o_v_aside : Nat → Int32) (h : f_X12_keepAside a_1 v_aside v_d = some o_v_aside) : gMV l yX12_keepAside wsX12_keepAside rm_X12_keepAside D c [.ref q_this, .int a_1] [(q_this, .inr (12, [.ref q_d, .ref q_kept, .int v_images, .ref q_found, .ref q_aside, .int v_base, .int v_at, .int v_size, .int v_fault, .int v_opened, .int v_isSeen, .ref q_names, .ref q_seenKept, .ref q_movedKept, .int v_isKeeping, .int v_bubbleMany, .int v_bubbleMost, .int v_bubbleCell, .int v_bestShown, .ref q_traced, .int v_traceMany, .int v_who, .ref q_bitsOf, .ref q_sizeOf, .ref q_number, .ref q_lifted])), (q_aside, .inl (c 0, 120, .inl v_aside)), (q_d, .inl (c 0, 244, .inl v_d))] [(q_this, .inr (12, [.ref q_d, .ref q_kept, .int v_images, .ref q_found, .ref q_aside, .int v_base, .int v_at, .int v_size, .int v_fault, .int v_opened, .int v_isSeen, .ref q_names, .ref q_seenKept, .ref q_movedKept, .int v_isKeeping, .int v_bubbleMany, .int v_bubbleMost, .int v_bubbleCell, .int v_bestShown, .ref q_traced, .int v_traceMany, .int v_who, .ref q_bitsOf, .ref q_sizeOf, .ref q_number, .ref q_lifted])), (q_aside, .inl (c 0, 120, .inl o_v_aside)), (q_d, .inl (c 0, 244, .inl v_d))] := by
  refine gMV_of (cc := cX12_keepAside) (maxL := 3) (rt := none) (by decide +kernel) rfl (Nat.le_of_ble_eq_true rfl) ?_
  intro p e s m below meth co A hF hK hX hP hD hA hS ls hl
  obtain ⟨hx, hb, hr, hts, hown, hlocks, hml⟩ := id hF
  have hl : lv_has ls 3 [(0, .ref q_this), (1, .int a_1)] := hl
  have t_L2 : ∀ (n : Nat), ∀ (x2 : Int32) (v_aside : Nat → Int32) (H : Heap) (locs : List Loc), va_P D gcl [(q_this, .inr (12, [.ref q_d, .ref q_kept, .int v_images, .ref q_found, .ref q_aside, .int v_base, .int v_at, .int v_size, .int v_fault, .int v_opened, .int v_isSeen, .ref q_names, .ref q_seenKept, .ref q_movedKept, .int v_isKeeping, .int v_bubbleMany, .int v_bubbleMost, .int v_bubbleCell, .int v_bestShown, .ref q_traced, .int v_traceMany, .int v_who, .ref q_bitsOf, .ref q_sizeOf, .ref q_number, .ref q_lifted])), (q_aside, .inl (c 0, 120, .inl v_aside)), (q_d, .inl (c 0, 244, .inl v_d))] H → va_D A [(q_this, .inr (12, [.ref q_d, .ref q_kept, .int v_images, .ref q_found, .ref q_aside, .int v_base, .int v_at, .int v_size, .int v_fault, .int v_opened, .int v_isSeen, .ref q_names, .ref q_seenKept, .ref q_movedKept, .int v_isKeeping, .int v_bubbleMany, .int v_bubbleMost, .int v_bubbleCell, .int v_bestShown, .ref q_traced, .int v_traceMany, .int v_who, .ref q_bitsOf, .ref q_sizeOf, .ref q_number, .ref q_lifted])), (q_aside, .inl (c 0, 120, .inl v_aside)), (q_d, .inl (c 0, 244, .inl v_d))] → va_S A s.heap H locs → ∀ ls, lv_has ls 3 [(0, .ref q_this), (1, .int a_1), (2, .int x2)] → f_X12_keepAside_L2 a_1 v_d n x2 v_aside = some o_v_aside → W p l e (headSpec wsX12_keepAside rm_X12_keepAside).room s m [.ref q_this, .int a_1].toArray below meth co H locs 0 0 (gQV D [(q_this, .inr (12, [.ref q_d, .ref q_kept, .int v_images, .ref q_found, .ref q_aside, .int v_base, .int v_at, .int v_size, .int v_fault, .int v_opened, .int v_isSeen, .ref q_names, .ref q_seenKept, .ref q_movedKept, .int v_isKeeping, .int v_bubbleMany, .int v_bubbleMost, .int v_bubbleCell, .int v_bestShown, .ref q_traced, .int v_traceMany, .int v_who, .ref q_bitsOf, .ref q_sizeOf, .ref q_number, .ref q_lifted])), (q_aside, .inl (c 0, 120, .inl o_v_aside)), (q_d, .inl (c 0, 244, .inl v_d))] A below [.ref q_this, .int a_1] s) (F0 m 2 ls []) := by
    intro n
    induction n with
    | zero => intro x2 v_aside H locs hP hD hS ls hl h; exact no_ok h
    | succ n ih =>
      intro x2 v_aside H locs hP hD hS ls hl h
      rw [f_X12_keepAside_L2] at h
      refine lv_iload_n hx hb dX12_keepAside_2 rfl (lv_at hl 2 rfl) ?_
      refine lv_bipush (v := 60) hx hb dX12_keepAside_3 (by decide) ?_
      refine lv_icmp_ge (tgt := 31) hx hb dX12_keepAside_5 (by decide) (fun c_1 => ?_) (fun c_1 => ?_)
      · replace h := it_t c_1 h
        replace h := so1 h
        subst h
        exact gVret hF hP hD hS dX12_keepAside_31
      · replace h := it_f c_1 h
        refine lv_aload_n hx hb dX12_keepAside_8 rfl (lv_at hl 0 rfl) ?_
        refine va_get (D := D) (ci := 12) (v := .ref q_aside) (C := RX12) (T := TX12) (N := 26) hx hb hts in_X12_keepAside_X12 hown hK.1 hP 0 rfl rfl 4 (by decide) (hts (.fieldLink RX12 19 "PaperBubblesModel" "aside" "[I") (List.mem_of_getElem? (i := 1) rfl)) (fun _ h9 => h9) rfl dX12_keepAside_9 ?_
        refine lv_bipush (v := 60) hx hb dX12_keepAside_12 (by decide) ?_
        refine lv_iload_n hx hb dX12_keepAside_14 rfl (lv_at hl 1 rfl) ?_
        refine lv_imul hx hb dX12_keepAside_15 ?_
        replace h := nm_ok h
        obtain ⟨t_2, et_2, h⟩ := h
        refine gTop et_2 ?_
        refine lv_iload_n hx hb dX12_keepAside_16 rfl (lv_at hl 2 rfl) ?_
        refine lv_iadd hx hb dX12_keepAside_17 ?_
        replace h := nm_ok h
        obtain ⟨t_3, et_3, h⟩ := h
        refine gTop et_3 ?_
        refine lv_aload_n hx hb dX12_keepAside_18 rfl (lv_at hl 0 rfl) ?_
        refine va_get (D := D) (ci := 12) (v := .ref q_d) (C := RX12) (T := TX12) (N := 26) hx hb hts in_X12_keepAside_X12 hown hK.1 hP 0 rfl rfl 0 (by decide) (hts (.fieldLink RX12 7 "PaperBubblesModel" "d" "[I") (List.mem_of_getElem? (i := 2) rfl)) (fun _ h9 => h9) rfl dX12_keepAside_19 ?_
        refine lv_iload_n hx hb dX12_keepAside_22 rfl (lv_at hl 2 rfl) ?_
        replace h := chi_ok h
        obtain ⟨hi_4, h⟩ := h
        refine va_iald hx hb hK.1 hP 2 0 rfl rfl hi_4 dX12_keepAside_23 ?_
        replace h := nm_ok h
        obtain ⟨t_5, et_5, h⟩ := h
        refine gTop et_5 ?_
        replace h := chi_ok h
        obtain ⟨hi_6, h⟩ := h
        replace h := nm_ok h
        obtain ⟨w_7, ew_7, h⟩ := h
        refine va_iast hx hb hK.1 hP hD hS 1 0 rfl rfl hi_6 dX12_keepAside_24 (fun H locs hP hD hS => ?_)
        have hP : va_P D gcl [(q_this, .inr (12, [.ref q_d, .ref q_kept, .int v_images, .ref q_found, .ref q_aside, .int v_base, .int v_at, .int v_size, .int v_fault, .int v_opened, .int v_isSeen, .ref q_names, .ref q_seenKept, .ref q_movedKept, .int v_isKeeping, .int v_bubbleMany, .int v_bubbleMost, .int v_bubbleCell, .int v_bestShown, .ref q_traced, .int v_traceMany, .int v_who, .ref q_bitsOf, .ref q_sizeOf, .ref q_number, .ref q_lifted])), (q_aside, .inl (c 0, 120, .inl w_7)), (q_d, .inl (c 0, 244, .inl v_d))] H := by subst ew_7; exact hP
        have hD : va_D A [(q_this, .inr (12, [.ref q_d, .ref q_kept, .int v_images, .ref q_found, .ref q_aside, .int v_base, .int v_at, .int v_size, .int v_fault, .int v_opened, .int v_isSeen, .ref q_names, .ref q_seenKept, .ref q_movedKept, .int v_isKeeping, .int v_bubbleMany, .int v_bubbleMost, .int v_bubbleCell, .int v_bestShown, .ref q_traced, .int v_traceMany, .int v_who, .ref q_bitsOf, .ref q_sizeOf, .ref q_number, .ref q_lifted])), (q_aside, .inl (c 0, 120, .inl w_7)), (q_d, .inl (c 0, 244, .inl v_d))] := by subst ew_7; exact hD
        replace h := nm_ok h
        obtain ⟨t_8, et_8, h⟩ := h
        refine lv_iinc (v := t_8) (lv' := [(2, .int t_8), (0, .ref q_this), (1, .int a_1)]) hx hb dX12_keepAside_25 hl (k := 2) rfl (by rw [et_8]; rfl) (by decide) rfl (fun ls hl => ?_)
        refine lv_goto (tgt := 2) hx hb dX12_keepAside_28 (by decide) ?_
        exact ih t_8 w_7 H locs hP hD hS ls (lv_sub hl [1, 2, 0] rfl) h
  unfold f_X12_keepAside at h
  refine lv_iconst (v := 0) hx hb dX12_keepAside_0 (by decide) ?_
  refine lv_istore_n (lv' := [(2, .int 0), (0, .ref q_this), (1, .int a_1)]) hx hb dX12_keepAside_1 rfl hl (by decide) rfl (fun ls hl => ?_)
  exact t_L2 gFuel 0 v_aside s.heap [] hP hD hS ls (lv_sub hl [1, 2, 0] rfl) h
set_option maxRecDepth 20000 in
theorem in_X12_putBack_X12 : ∀ w ∈ u_ws RX12 TX12 26, w ∈ wsX12_putBack := by decide +kernel
abbrev rm_X12_putBack : Room := { frames := 0, cells := 0, slots := 0, locals := 0 }
set_option maxHeartbeats 4000000 in
set_option maxRecDepth 100000 in
theorem c_X12_putBack (l : Launch) (D : va_G) (c : Nat → ClassId) (q_this q_d q_kept q_found q_aside q_names q_seenKept q_movedKept q_traced q_bitsOf q_sizeOf q_number q_lifted : Nat) (a_1 : Int32) (v_images : Int32) (v_base : Int32) (v_at : Int32) (v_size : Int32) (v_fault : Int32) (v_opened : Int32) (v_isSeen : Int32) (v_isKeeping : Int32) (v_bubbleMany : Int32) (v_bubbleMost : Int32) (v_bubbleCell : Int32) (v_bestShown : Int32) (v_traceMany : Int32) (v_who : Int32) (v_aside : Nat → Int32) (v_d : Nat → Int32) (o_v_d : Nat → Int32) (h : f_X12_putBack a_1 v_aside v_d = some o_v_d) : gMV l yX12_putBack wsX12_putBack rm_X12_putBack D c [.ref q_this, .int a_1] [(q_this, .inr (12, [.ref q_d, .ref q_kept, .int v_images, .ref q_found, .ref q_aside, .int v_base, .int v_at, .int v_size, .int v_fault, .int v_opened, .int v_isSeen, .ref q_names, .ref q_seenKept, .ref q_movedKept, .int v_isKeeping, .int v_bubbleMany, .int v_bubbleMost, .int v_bubbleCell, .int v_bestShown, .ref q_traced, .int v_traceMany, .int v_who, .ref q_bitsOf, .ref q_sizeOf, .ref q_number, .ref q_lifted])), (q_aside, .inl (c 0, 120, .inl v_aside)), (q_d, .inl (c 0, 244, .inl v_d))] [(q_this, .inr (12, [.ref q_d, .ref q_kept, .int v_images, .ref q_found, .ref q_aside, .int v_base, .int v_at, .int v_size, .int v_fault, .int v_opened, .int v_isSeen, .ref q_names, .ref q_seenKept, .ref q_movedKept, .int v_isKeeping, .int v_bubbleMany, .int v_bubbleMost, .int v_bubbleCell, .int v_bestShown, .ref q_traced, .int v_traceMany, .int v_who, .ref q_bitsOf, .ref q_sizeOf, .ref q_number, .ref q_lifted])), (q_aside, .inl (c 0, 120, .inl v_aside)), (q_d, .inl (c 0, 244, .inl o_v_d))] := by
  refine gMV_of (cc := cX12_putBack) (maxL := 3) (rt := none) (by decide +kernel) rfl (Nat.le_of_ble_eq_true rfl) ?_
  intro p e s m below meth co A hF hK hX hP hD hA hS ls hl
  obtain ⟨hx, hb, hr, hts, hown, hlocks, hml⟩ := id hF
  have hl : lv_has ls 3 [(0, .ref q_this), (1, .int a_1)] := hl
  have t_L2 : ∀ (n : Nat), ∀ (x2 : Int32) (v_d : Nat → Int32) (H : Heap) (locs : List Loc), va_P D gcl [(q_this, .inr (12, [.ref q_d, .ref q_kept, .int v_images, .ref q_found, .ref q_aside, .int v_base, .int v_at, .int v_size, .int v_fault, .int v_opened, .int v_isSeen, .ref q_names, .ref q_seenKept, .ref q_movedKept, .int v_isKeeping, .int v_bubbleMany, .int v_bubbleMost, .int v_bubbleCell, .int v_bestShown, .ref q_traced, .int v_traceMany, .int v_who, .ref q_bitsOf, .ref q_sizeOf, .ref q_number, .ref q_lifted])), (q_aside, .inl (c 0, 120, .inl v_aside)), (q_d, .inl (c 0, 244, .inl v_d))] H → va_D A [(q_this, .inr (12, [.ref q_d, .ref q_kept, .int v_images, .ref q_found, .ref q_aside, .int v_base, .int v_at, .int v_size, .int v_fault, .int v_opened, .int v_isSeen, .ref q_names, .ref q_seenKept, .ref q_movedKept, .int v_isKeeping, .int v_bubbleMany, .int v_bubbleMost, .int v_bubbleCell, .int v_bestShown, .ref q_traced, .int v_traceMany, .int v_who, .ref q_bitsOf, .ref q_sizeOf, .ref q_number, .ref q_lifted])), (q_aside, .inl (c 0, 120, .inl v_aside)), (q_d, .inl (c 0, 244, .inl v_d))] → va_S A s.heap H locs → ∀ ls, lv_has ls 3 [(0, .ref q_this), (1, .int a_1), (2, .int x2)] → f_X12_putBack_L2 a_1 v_aside n x2 v_d = some o_v_d → W p l e (headSpec wsX12_putBack rm_X12_putBack).room s m [.ref q_this, .int a_1].toArray below meth co H locs 0 0 (gQV D [(q_this, .inr (12, [.ref q_d, .ref q_kept, .int v_images, .ref q_found, .ref q_aside, .int v_base, .int v_at, .int v_size, .int v_fault, .int v_opened, .int v_isSeen, .ref q_names, .ref q_seenKept, .ref q_movedKept, .int v_isKeeping, .int v_bubbleMany, .int v_bubbleMost, .int v_bubbleCell, .int v_bestShown, .ref q_traced, .int v_traceMany, .int v_who, .ref q_bitsOf, .ref q_sizeOf, .ref q_number, .ref q_lifted])), (q_aside, .inl (c 0, 120, .inl v_aside)), (q_d, .inl (c 0, 244, .inl o_v_d))] A below [.ref q_this, .int a_1] s) (F0 m 2 ls []) := by
    intro n
    induction n with
    | zero => intro x2 v_d H locs hP hD hS ls hl h; exact no_ok h
    | succ n ih =>
      intro x2 v_d H locs hP hD hS ls hl h
      rw [f_X12_putBack_L2] at h
      refine lv_iload_n hx hb dX12_putBack_2 rfl (lv_at hl 2 rfl) ?_
      refine lv_bipush (v := 60) hx hb dX12_putBack_3 (by decide) ?_
      refine lv_icmp_ge (tgt := 31) hx hb dX12_putBack_5 (by decide) (fun c_1 => ?_) (fun c_1 => ?_)
      · replace h := it_t c_1 h
        replace h := so1 h
        subst h
        exact gVret hF hP hD hS dX12_putBack_31
      · replace h := it_f c_1 h
        refine lv_aload_n hx hb dX12_putBack_8 rfl (lv_at hl 0 rfl) ?_
        refine va_get (D := D) (ci := 12) (v := .ref q_d) (C := RX12) (T := TX12) (N := 26) hx hb hts in_X12_putBack_X12 hown hK.1 hP 0 rfl rfl 0 (by decide) (hts (.fieldLink RX12 7 "PaperBubblesModel" "d" "[I") (List.mem_of_getElem? (i := 1) rfl)) (fun _ h9 => h9) rfl dX12_putBack_9 ?_
        refine lv_iload_n hx hb dX12_putBack_12 rfl (lv_at hl 2 rfl) ?_
        refine lv_aload_n hx hb dX12_putBack_13 rfl (lv_at hl 0 rfl) ?_
        refine va_get (D := D) (ci := 12) (v := .ref q_aside) (C := RX12) (T := TX12) (N := 26) hx hb hts in_X12_putBack_X12 hown hK.1 hP 0 rfl rfl 4 (by decide) (hts (.fieldLink RX12 19 "PaperBubblesModel" "aside" "[I") (List.mem_of_getElem? (i := 2) rfl)) (fun _ h9 => h9) rfl dX12_putBack_14 ?_
        refine lv_bipush (v := 60) hx hb dX12_putBack_17 (by decide) ?_
        refine lv_iload_n hx hb dX12_putBack_19 rfl (lv_at hl 1 rfl) ?_
        refine lv_imul hx hb dX12_putBack_20 ?_
        replace h := nm_ok h
        obtain ⟨t_2, et_2, h⟩ := h
        refine gTop et_2 ?_
        refine lv_iload_n hx hb dX12_putBack_21 rfl (lv_at hl 2 rfl) ?_
        refine lv_iadd hx hb dX12_putBack_22 ?_
        replace h := nm_ok h
        obtain ⟨t_3, et_3, h⟩ := h
        refine gTop et_3 ?_
        replace h := chi_ok h
        obtain ⟨hi_4, h⟩ := h
        refine va_iald hx hb hK.1 hP 1 0 rfl rfl hi_4 dX12_putBack_23 ?_
        replace h := nm_ok h
        obtain ⟨t_5, et_5, h⟩ := h
        refine gTop et_5 ?_
        replace h := chi_ok h
        obtain ⟨hi_6, h⟩ := h
        replace h := nm_ok h
        obtain ⟨w_7, ew_7, h⟩ := h
        refine va_iast hx hb hK.1 hP hD hS 2 0 rfl rfl hi_6 dX12_putBack_24 (fun H locs hP hD hS => ?_)
        have hP : va_P D gcl [(q_this, .inr (12, [.ref q_d, .ref q_kept, .int v_images, .ref q_found, .ref q_aside, .int v_base, .int v_at, .int v_size, .int v_fault, .int v_opened, .int v_isSeen, .ref q_names, .ref q_seenKept, .ref q_movedKept, .int v_isKeeping, .int v_bubbleMany, .int v_bubbleMost, .int v_bubbleCell, .int v_bestShown, .ref q_traced, .int v_traceMany, .int v_who, .ref q_bitsOf, .ref q_sizeOf, .ref q_number, .ref q_lifted])), (q_aside, .inl (c 0, 120, .inl v_aside)), (q_d, .inl (c 0, 244, .inl w_7))] H := by subst ew_7; exact hP
        have hD : va_D A [(q_this, .inr (12, [.ref q_d, .ref q_kept, .int v_images, .ref q_found, .ref q_aside, .int v_base, .int v_at, .int v_size, .int v_fault, .int v_opened, .int v_isSeen, .ref q_names, .ref q_seenKept, .ref q_movedKept, .int v_isKeeping, .int v_bubbleMany, .int v_bubbleMost, .int v_bubbleCell, .int v_bestShown, .ref q_traced, .int v_traceMany, .int v_who, .ref q_bitsOf, .ref q_sizeOf, .ref q_number, .ref q_lifted])), (q_aside, .inl (c 0, 120, .inl v_aside)), (q_d, .inl (c 0, 244, .inl w_7))] := by subst ew_7; exact hD
        replace h := nm_ok h
        obtain ⟨t_8, et_8, h⟩ := h
        refine lv_iinc (v := t_8) (lv' := [(2, .int t_8), (0, .ref q_this), (1, .int a_1)]) hx hb dX12_putBack_25 hl (k := 2) rfl (by rw [et_8]; rfl) (by decide) rfl (fun ls hl => ?_)
        refine lv_goto (tgt := 2) hx hb dX12_putBack_28 (by decide) ?_
        exact ih t_8 w_7 H locs hP hD hS ls (lv_sub hl [1, 2, 0] rfl) h
  unfold f_X12_putBack at h
  refine lv_iconst (v := 0) hx hb dX12_putBack_0 (by decide) ?_
  refine lv_istore_n (lv' := [(2, .int 0), (0, .ref q_this), (1, .int a_1)]) hx hb dX12_putBack_1 rfl hl (by decide) rfl (fun ls hl => ?_)
  exact t_L2 gFuel 0 v_d s.heap [] hP hD hS ls (lv_sub hl [1, 2, 0] rfl) h
abbrev rm_X12_held : Room := { frames := 0, cells := 0, slots := 0, locals := 0 }
set_option maxHeartbeats 4000000 in
set_option maxRecDepth 100000 in
theorem c_X12_held (l : Launch) (D : va_G) (c : Nat → ClassId) (a_0 : Int32) (a_1 : Int32) (a_2 : Int32) (o_r : Int32) (h : f_X12_held a_0 a_1 a_2 = some o_r) : gMI l yX12_held wsX12_held rm_X12_held D c [.int a_0, .int a_1, .int a_2] [] [] o_r := by
  refine gMI_of (cc := cX12_held) (maxL := 3) (rt := (some .int)) (by decide +kernel) rfl (Nat.le_of_ble_eq_true rfl) ?_
  intro p e s m below meth co A hF hK hX hP hD hA hS ls hl
  obtain ⟨hx, hb, hr, hts, hown, hlocks, hml⟩ := id hF
  have hl : lv_has ls 3 [(0, .int a_0), (1, .int a_1), (2, .int a_2)] := hl
  unfold f_X12_held at h
  refine lv_iload_n hx hb dX12_held_0 rfl (lv_at hl 0 rfl) ?_
  refine lv_iload_n hx hb dX12_held_1 rfl (lv_at hl 1 rfl) ?_
  refine lv_icmp_ge (tgt := 9) hx hb dX12_held_2 (by decide) (fun c_1 => ?_) (fun c_1 => ?_)
  · replace h := it_t c_1 h
    refine lv_iload_n hx hb dX12_held_9 rfl (lv_at hl 0 rfl) ?_
    refine lv_iload_n hx hb dX12_held_10 rfl (lv_at hl 2 rfl) ?_
    refine lv_icmp_le (tgt := 18) hx hb dX12_held_11 (by decide) (fun c_2 => ?_) (fun c_2 => ?_)
    · replace h := it_t c_2 h
      refine lv_iload_n hx hb dX12_held_18 rfl (lv_at hl 0 rfl) ?_
      replace h := so1 h
      subst h
      exact gIret hF hP hD hS rfl dX12_held_19
    · replace h := it_f c_2 h
      refine lv_iload_n hx hb dX12_held_14 rfl (lv_at hl 2 rfl) ?_
      refine lv_goto (tgt := 19) hx hb dX12_held_15 (by decide) ?_
      replace h := so1 h
      subst h
      exact gIret hF hP hD hS rfl dX12_held_19
  · replace h := it_f c_1 h
    refine lv_iload_n hx hb dX12_held_5 rfl (lv_at hl 1 rfl) ?_
    refine lv_goto (tgt := 19) hx hb dX12_held_6 (by decide) ?_
    replace h := so1 h
    subst h
    exact gIret hF hP hD hS rfl dX12_held_19
set_option maxRecDepth 20000 in
theorem in_X12_here_X12 : ∀ w ∈ u_ws RX12 TX12 26, w ∈ wsX12_here := by decide +kernel
abbrev rm_X12_here : Room := { frames := 0, cells := 0, slots := 0, locals := 0 }
set_option maxHeartbeats 4000000 in
set_option maxRecDepth 100000 in
theorem c_X12_here (l : Launch) (D : va_G) (c : Nat → ClassId) (q_this q_d q_kept q_found q_aside q_names q_seenKept q_movedKept q_traced q_bitsOf q_sizeOf q_number q_lifted : Nat) (v_images : Int32) (v_base : Int32) (v_at : Int32) (v_size : Int32) (v_fault : Int32) (v_opened : Int32) (v_isSeen : Int32) (v_isKeeping : Int32) (v_bubbleMany : Int32) (v_bubbleMost : Int32) (v_bubbleCell : Int32) (v_bestShown : Int32) (v_traceMany : Int32) (v_who : Int32) (v_d : Nat → Int32) (o_r : Int32) (h : f_X12_here v_base v_at v_size v_fault v_d = some o_r) : gMI l yX12_here wsX12_here rm_X12_here D c [.ref q_this] [(q_this, .inr (12, [.ref q_d, .ref q_kept, .int v_images, .ref q_found, .ref q_aside, .int v_base, .int v_at, .int v_size, .int v_fault, .int v_opened, .int v_isSeen, .ref q_names, .ref q_seenKept, .ref q_movedKept, .int v_isKeeping, .int v_bubbleMany, .int v_bubbleMost, .int v_bubbleCell, .int v_bestShown, .ref q_traced, .int v_traceMany, .int v_who, .ref q_bitsOf, .ref q_sizeOf, .ref q_number, .ref q_lifted])), (q_d, .inl (c 0, 244, .inl v_d))] [(q_this, .inr (12, [.ref q_d, .ref q_kept, .int v_images, .ref q_found, .ref q_aside, .int v_base, .int v_at, .int v_size, .int v_fault, .int v_opened, .int v_isSeen, .ref q_names, .ref q_seenKept, .ref q_movedKept, .int v_isKeeping, .int v_bubbleMany, .int v_bubbleMost, .int v_bubbleCell, .int v_bestShown, .ref q_traced, .int v_traceMany, .int v_who, .ref q_bitsOf, .ref q_sizeOf, .ref q_number, .ref q_lifted])), (q_d, .inl (c 0, 244, .inl v_d))] o_r := by
  refine gMI_of (cc := cX12_here) (maxL := 1) (rt := (some .int)) (by decide +kernel) rfl (Nat.le_of_ble_eq_true rfl) ?_
  intro p e s m below meth co A hF hK hX hP hD hA hS ls hl
  obtain ⟨hx, hb, hr, hts, hown, hlocks, hml⟩ := id hF
  have hl : lv_has ls 1 [(0, .ref q_this)] := hl
  unfold f_X12_here at h
  refine lv_aload_n hx hb dX12_here_0 rfl (lv_at hl 0 rfl) ?_
  refine va_get (D := D) (ci := 12) (v := .int v_at) (C := RX12) (T := TX12) (N := 26) hx hb hts in_X12_here_X12 hown hK.1 hP 0 rfl rfl 6 (by decide) (hts (.fieldLink RX12 61 "PaperBubblesModel" "at" "I") (List.mem_of_getElem? (i := 1) rfl)) (fun _ h9 => h9) rfl dX12_here_1 ?_
  refine lv_aload_n hx hb dX12_here_4 rfl (lv_at hl 0 rfl) ?_
  refine va_get (D := D) (ci := 12) (v := .int v_size) (C := RX12) (T := TX12) (N := 26) hx hb hts in_X12_here_X12 hown hK.1 hP 0 rfl rfl 7 (by decide) (hts (.fieldLink RX12 65 "PaperBubblesModel" "size" "I") (List.mem_of_getElem? (i := 2) rfl)) (fun _ h9 => h9) rfl dX12_here_5 ?_
  refine lv_icmp_ge (tgt := 35) hx hb dX12_here_8 (by decide) (fun c_1 => ?_) (fun c_1 => ?_)
  · replace h := it_t c_1 h
    refine lv_iconst (v := (-1)) hx hb dX12_here_35 (by decide) ?_
    replace h := so1 h
    subst h
    exact gIret hF hP hD hS rfl dX12_here_36
  · replace h := it_f c_1 h
    refine lv_aload_n hx hb dX12_here_11 rfl (lv_at hl 0 rfl) ?_
    refine va_get (D := D) (ci := 12) (v := .int v_fault) (C := RX12) (T := TX12) (N := 26) hx hb hts in_X12_here_X12 hown hK.1 hP 0 rfl rfl 8 (by decide) (hts (.fieldLink RX12 68 "PaperBubblesModel" "fault" "I") (List.mem_of_getElem? (i := 3) rfl)) (fun _ h9 => h9) rfl dX12_here_12 ?_
    refine lv_if_ge (tgt := 35) hx hb dX12_here_15 (by decide) (fun c_2 => ?_) (fun c_2 => ?_)
    · replace h := it_t c_2 h
      refine lv_iconst (v := (-1)) hx hb dX12_here_35 (by decide) ?_
      replace h := so1 h
      subst h
      exact gIret hF hP hD hS rfl dX12_here_36
    · replace h := it_f c_2 h
      refine lv_aload_n hx hb dX12_here_18 rfl (lv_at hl 0 rfl) ?_
      refine va_get (D := D) (ci := 12) (v := .ref q_d) (C := RX12) (T := TX12) (N := 26) hx hb hts in_X12_here_X12 hown hK.1 hP 0 rfl rfl 0 (by decide) (hts (.fieldLink RX12 7 "PaperBubblesModel" "d" "[I") (List.mem_of_getElem? (i := 4) rfl)) (fun _ h9 => h9) rfl dX12_here_19 ?_
      refine lv_aload_n hx hb dX12_here_22 rfl (lv_at hl 0 rfl) ?_
      refine va_get (D := D) (ci := 12) (v := .int v_base) (C := RX12) (T := TX12) (N := 26) hx hb hts in_X12_here_X12 hown hK.1 hP 0 rfl rfl 5 (by decide) (hts (.fieldLink RX12 71 "PaperBubblesModel" "base" "I") (List.mem_of_getElem? (i := 5) rfl)) (fun _ h9 => h9) rfl dX12_here_23 ?_
      refine lv_aload_n hx hb dX12_here_26 rfl (lv_at hl 0 rfl) ?_
      refine va_get (D := D) (ci := 12) (v := .int v_at) (C := RX12) (T := TX12) (N := 26) hx hb hts in_X12_here_X12 hown hK.1 hP 0 rfl rfl 6 (by decide) (hts (.fieldLink RX12 61 "PaperBubblesModel" "at" "I") (List.mem_of_getElem? (i := 1) rfl)) (fun _ h9 => h9) rfl dX12_here_27 ?_
      refine lv_iadd hx hb dX12_here_30 ?_
      replace h := nm_ok h
      obtain ⟨t_3, et_3, h⟩ := h
      refine gTop et_3 ?_
      replace h := chi_ok h
      obtain ⟨hi_4, h⟩ := h
      refine va_iald hx hb hK.1 hP 1 0 rfl rfl hi_4 dX12_here_31 ?_
      replace h := nm_ok h
      obtain ⟨t_5, et_5, h⟩ := h
      refine gTop et_5 ?_
      refine lv_goto (tgt := 36) hx hb dX12_here_32 (by decide) ?_
      replace h := so1 h
      subst h
      exact gIret hF hP hD hS rfl dX12_here_36
set_option maxRecDepth 20000 in
theorem in_X12_takes_X12 : ∀ w ∈ u_ws RX12 TX12 26, w ∈ wsX12_takes := by decide +kernel
abbrev rm_X12_takes : Room := { frames := 1, cells := 0, slots := 0, locals := 20 }
set_option maxHeartbeats 4000000 in
set_option maxRecDepth 100000 in
theorem c_X12_takes (l : Launch) (D : va_G) (c : Nat → ClassId) (q_this q_d q_kept q_found q_aside q_names q_seenKept q_movedKept q_traced q_bitsOf q_sizeOf q_number q_lifted : Nat) (a_1 : Int32) (v_images : Int32) (v_base : Int32) (v_at : Int32) (v_size : Int32) (v_fault : Int32) (v_opened : Int32) (v_isSeen : Int32) (v_isKeeping : Int32) (v_bubbleMany : Int32) (v_bubbleMost : Int32) (v_bubbleCell : Int32) (v_bestShown : Int32) (v_traceMany : Int32) (v_who : Int32) (v_d : Nat → Int32) (o_r : Int32) (o_v_at : Int32) (h : f_X12_takes a_1 v_base v_at v_size v_fault v_d = some (o_r, o_v_at)) : gMI l yX12_takes wsX12_takes rm_X12_takes D c [.ref q_this, .int a_1] [(q_this, .inr (12, [.ref q_d, .ref q_kept, .int v_images, .ref q_found, .ref q_aside, .int v_base, .int v_at, .int v_size, .int v_fault, .int v_opened, .int v_isSeen, .ref q_names, .ref q_seenKept, .ref q_movedKept, .int v_isKeeping, .int v_bubbleMany, .int v_bubbleMost, .int v_bubbleCell, .int v_bestShown, .ref q_traced, .int v_traceMany, .int v_who, .ref q_bitsOf, .ref q_sizeOf, .ref q_number, .ref q_lifted])), (q_d, .inl (c 0, 244, .inl v_d))] [(q_this, .inr (12, [.ref q_d, .ref q_kept, .int v_images, .ref q_found, .ref q_aside, .int v_base, .int o_v_at, .int v_size, .int v_fault, .int v_opened, .int v_isSeen, .ref q_names, .ref q_seenKept, .ref q_movedKept, .int v_isKeeping, .int v_bubbleMany, .int v_bubbleMost, .int v_bubbleCell, .int v_bestShown, .ref q_traced, .int v_traceMany, .int v_who, .ref q_bitsOf, .ref q_sizeOf, .ref q_number, .ref q_lifted])), (q_d, .inl (c 0, 244, .inl v_d))] o_r := by
  refine gMI_of (cc := cX12_takes) (maxL := 2) (rt := (some .boolean)) (by decide +kernel) rfl (Nat.le_of_ble_eq_true rfl) ?_
  intro p e s m below meth co A hF hK hX hP hD hA hS ls hl
  obtain ⟨hx, hb, hr, hts, hown, hlocks, hml⟩ := id hF
  have hl : lv_has ls 2 [(0, .ref q_this), (1, .int a_1)] := hl
  unfold f_X12_takes at h
  refine lv_aload_n hx hb dX12_takes_0 rfl (lv_at hl 0 rfl) ?_
  replace h := kb_ok h
  obtain ⟨r_2, hc_1, h⟩ := h
  refine gCallIr (isC := [0, 1]) (wc := [(q_this, .inr (12, [.ref q_d, .ref q_kept, .int v_images, .ref q_found, .ref q_aside, .int v_base, .int v_at, .int v_size, .int v_fault, .int v_opened, .int v_isSeen, .ref q_names, .ref q_seenKept, .ref q_movedKept, .int v_isKeeping, .int v_bubbleMany, .int v_bubbleMost, .int v_bubbleCell, .int v_bestShown, .ref q_traced, .int v_traceMany, .int v_who, .ref q_bitsOf, .ref q_sizeOf, .ref q_number, .ref q_lifted])), (q_d, .inl (c 0, 244, .inl v_d))]) hP hD hS hA ⟨rfl, rfl, trivial⟩ (va_runV (rm := rm_X12_here) (ws := wsX12_here) (As := []) (rest := []) (gFix hF) (c_X12_here l D c q_this q_d q_kept q_found q_aside q_names q_seenKept q_movedKept q_traced q_bitsOf q_sizeOf q_number q_lifted v_images v_base v_at v_size v_fault v_opened v_isSeen v_isKeeping v_bubbleMany v_bubbleMost v_bubbleCell v_bestShown v_traceMany v_who v_d r_2 hc_1 s.heap.size) (cwV 0 hts gX12_takes_X12_here rfl rfl rfl (by decide +kernel) ⟨Nat.le_of_ble_eq_true rfl, Nat.le_of_ble_eq_true rfl⟩) (gPreV (wc := [(q_this, .inr (12, [.ref q_d, .ref q_kept, .int v_images, .ref q_found, .ref q_aside, .int v_base, .int v_at, .int v_size, .int v_fault, .int v_opened, .int v_isSeen, .ref q_names, .ref q_seenKept, .ref q_movedKept, .int v_isKeeping, .int v_bubbleMany, .int v_bubbleMost, .int v_bubbleCell, .int v_bestShown, .ref q_traced, .int v_traceMany, .int v_who, .ref q_bitsOf, .ref q_sizeOf, .ref q_number, .ref q_lifted])), (q_d, .inl (c 0, 244, .inl v_d))]) (q := (RX12, TX12, 26)) (ci := 12) (q0 := 0) (isC := [0, 1]) hK hX hS hA hP hD ⟨rfl, rfl, trivial⟩ (by decide +kernel) rfl rfl) rfl rfl hl.1 rfl (lv_room (Nat.le_of_ble_eq_true rfl)) dX12_takes_1 ⟨Nat.le_of_ble_eq_true rfl, Nat.le_of_ble_eq_true rfl⟩) (fun H locs hP hS => ?_)
  refine lv_iload_n hx hb dX12_takes_4 rfl (lv_at hl 1 rfl) ?_
  refine lv_icmp_eq (tgt := 10) hx hb dX12_takes_5 (by decide) (fun c_3 => ?_) (fun c_3 => ?_)
  · replace h := it_t c_3 h
    refine lv_aload_n hx hb dX12_takes_10 rfl (lv_at hl 0 rfl) ?_
    refine lv_dup hx hb dX12_takes_11 rfl ?_
    refine va_get (D := D) (ci := 12) (v := .int v_at) (C := RX12) (T := TX12) (N := 26) hx hb hts in_X12_takes_X12 hown hK.1 hP 0 rfl rfl 6 (by decide) (hts (.fieldLink RX12 61 "PaperBubblesModel" "at" "I") (List.mem_of_getElem? (i := 1) rfl)) (fun _ h9 => h9) rfl dX12_takes_12 ?_
    refine lv_iconst (v := 1) hx hb dX12_takes_15 (by decide) ?_
    refine lv_iadd hx hb dX12_takes_16 ?_
    replace h := nm_ok h
    obtain ⟨t_4, et_4, h⟩ := h
    refine gTop et_4 ?_
    refine va_put (D := D) (ci := 12) (v := .int t_4) (ty := .int) (C := RX12) (T := TX12) (N := 26) hx hb hts in_X12_takes_X12 tyX12 tyX12_ok nmX12 hown hK.1 hP hD hS 0 rfl rfl 6 (by decide) (hts (.fieldLink RX12 61 "PaperBubblesModel" "at" "I") (List.mem_of_getElem? (i := 1) rfl)) (fun _ h9 => h9) rfl (by decide +kernel) rfl rfl (Nat.le_of_ble_eq_true rfl) dX12_takes_17 (fun H locs hP hD hS => ?_)
    have hP : va_P D gcl [(q_this, .inr (12, [.ref q_d, .ref q_kept, .int v_images, .ref q_found, .ref q_aside, .int v_base, .int t_4, .int v_size, .int v_fault, .int v_opened, .int v_isSeen, .ref q_names, .ref q_seenKept, .ref q_movedKept, .int v_isKeeping, .int v_bubbleMany, .int v_bubbleMost, .int v_bubbleCell, .int v_bestShown, .ref q_traced, .int v_traceMany, .int v_who, .ref q_bitsOf, .ref q_sizeOf, .ref q_number, .ref q_lifted])), (q_d, .inl (c 0, 244, .inl v_d))] H := hP
    have hD : va_D A [(q_this, .inr (12, [.ref q_d, .ref q_kept, .int v_images, .ref q_found, .ref q_aside, .int v_base, .int t_4, .int v_size, .int v_fault, .int v_opened, .int v_isSeen, .ref q_names, .ref q_seenKept, .ref q_movedKept, .int v_isKeeping, .int v_bubbleMany, .int v_bubbleMost, .int v_bubbleCell, .int v_bestShown, .ref q_traced, .int v_traceMany, .int v_who, .ref q_bitsOf, .ref q_sizeOf, .ref q_number, .ref q_lifted])), (q_d, .inl (c 0, 244, .inl v_d))] := hD
    refine lv_iconst (v := 1) hx hb dX12_takes_20 (by decide) ?_
    replace h := so2 h
    obtain ⟨z0, z1⟩ := h
    subst z0 z1
    exact gIret hF hP hD hS rfl dX12_takes_21
  · replace h := it_f c_3 h
    refine lv_iconst (v := 0) hx hb dX12_takes_8 (by decide) ?_
    replace h := so2 h
    obtain ⟨z0, z1⟩ := h
    subst z0 z1
    exact gIret hF hP hD hS rfl dX12_takes_9
