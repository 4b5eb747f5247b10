set_option maxRecDepth 20000 in
theorem in_X12_worked_X12 : ∀ w ∈ u_ws RX12 TX12 26, w ∈ wsX12_worked := by decide +kernel
abbrev rm_X12_worked : Room := { frames := 54, cells := 0, slots := 0, locals := 1233 }
set_option maxHeartbeats 4000000 in
set_option maxRecDepth 100000 in
theorem c_X12_worked (l : Launch) (D : va_G) (c : Nat → ClassId) (q_this q_d q_kept q_found q_aside q_names q_seenKept q_movedKept q_traced q_bitsOf q_sizeOf q_number q_lifted : Nat) (a_1 : Int32) (a_2 : Int32) (a_3 : Int32) (v_images : Int32) (v_base : Int32) (v_at : Int32) (v_size : Int32) (v_fault : Int32) (v_opened : Int32) (v_isSeen : Int32) (v_isKeeping : Int32) (v_bubbleMany : Int32) (v_bubbleMost : Int32) (v_bubbleCell : Int32) (v_bestShown : Int32) (v_traceMany : Int32) (v_who : Int32) (v_d : Nat → Int32) (v_names : Nat → Int32) (o_r : Int32) (o_v_base : Int32) (o_v_at : Int32) (o_v_size : Int32) (o_v_fault : Int32) (o_v_opened : Int32) (o_v_isSeen : Int32) (h : f_X12_worked a_1 a_2 a_3 v_base v_at v_size v_fault v_opened v_isSeen v_d v_names = some (o_r, o_v_base, o_v_at, o_v_size, o_v_fault, o_v_opened, o_v_isSeen)) : gMI l yX12_worked wsX12_worked rm_X12_worked D c [.ref q_this, .int a_1, .int a_2, .int a_3] [(q_this, .inr (12, [.ref q_d, .ref q_kept, .int v_images, .ref q_found, .ref q_aside, .int v_base, .int v_at, .int v_size, .int v_fault, .int v_opened, .int v_isSeen, .ref q_names, .ref q_seenKept, .ref q_movedKept, .int v_isKeeping, .int v_bubbleMany, .int v_bubbleMost, .int v_bubbleCell, .int v_bestShown, .ref q_traced, .int v_traceMany, .int v_who, .ref q_bitsOf, .ref q_sizeOf, .ref q_number, .ref q_lifted])), (q_d, .inl (c 0, 244, .inl v_d)), (q_names, .inl (c 0, 3, .inl v_names))] [(q_this, .inr (12, [.ref q_d, .ref q_kept, .int v_images, .ref q_found, .ref q_aside, .int o_v_base, .int o_v_at, .int o_v_size, .int o_v_fault, .int o_v_opened, .int o_v_isSeen, .ref q_names, .ref q_seenKept, .ref q_movedKept, .int v_isKeeping, .int v_bubbleMany, .int v_bubbleMost, .int v_bubbleCell, .int v_bestShown, .ref q_traced, .int v_traceMany, .int v_who, .ref q_bitsOf, .ref q_sizeOf, .ref q_number, .ref q_lifted])), (q_d, .inl (c 0, 244, .inl v_d)), (q_names, .inl (c 0, 3, .inl v_names))] o_r := by
  refine gMI_of (cc := cX12_worked) (maxL := 5) (rt := (some .int)) (by decide +kernel) rfl (Nat.le_of_ble_eq_true rfl) ?_
  intro p e s m below meth co A hF hK hX hP hD hA hS ls hl
  obtain ⟨hx, hb, hr, hts, hown, hlocks, hml⟩ := id hF
  have hl : lv_has ls 5 [(0, .ref q_this), (1, .int a_1), (2, .int a_2), (3, .int a_3)] := hl
  have t_L36 : ∀ (y1 : Int32) (v_base : Int32) (v_at : Int32) (v_size : Int32) (v_fault : Int32) (v_opened : Int32) (v_isSeen : Int32) (H : Heap) (locs : List Loc), va_P D gcl [(q_this, .inr (12, [.ref q_d, .ref q_kept, .int v_images, .ref q_found, .ref q_aside, .int v_base, .int v_at, .int v_size, .int v_fault, .int v_opened, .int v_isSeen, .ref q_names, .ref q_seenKept, .ref q_movedKept, .int v_isKeeping, .int v_bubbleMany, .int v_bubbleMost, .int v_bubbleCell, .int v_bestShown, .ref q_traced, .int v_traceMany, .int v_who, .ref q_bitsOf, .ref q_sizeOf, .ref q_number, .ref q_lifted])), (q_d, .inl (c 0, 244, .inl v_d)), (q_names, .inl (c 0, 3, .inl v_names))] H → va_D A [(q_this, .inr (12, [.ref q_d, .ref q_kept, .int v_images, .ref q_found, .ref q_aside, .int v_base, .int v_at, .int v_size, .int v_fault, .int v_opened, .int v_isSeen, .ref q_names, .ref q_seenKept, .ref q_movedKept, .int v_isKeeping, .int v_bubbleMany, .int v_bubbleMost, .int v_bubbleCell, .int v_bestShown, .ref q_traced, .int v_traceMany, .int v_who, .ref q_bitsOf, .ref q_sizeOf, .ref q_number, .ref q_lifted])), (q_d, .inl (c 0, 244, .inl v_d)), (q_names, .inl (c 0, 3, .inl v_names))] → va_S A s.heap H locs → ∀ ls, lv_has ls 5 [(0, .ref q_this)] → f_X12_worked_L36 v_d v_names y1 v_base v_at v_size v_fault v_opened = some (o_r, o_v_base, o_v_at, o_v_size, o_v_fault, o_v_opened, o_v_isSeen) → W p l e (headSpec wsX12_worked rm_X12_worked).room s m [.ref q_this, .int a_1, .int a_2, .int a_3].toArray below meth co H locs 0 0 (gQI D [(q_this, .inr (12, [.ref q_d, .ref q_kept, .int v_images, .ref q_found, .ref q_aside, .int o_v_base, .int o_v_at, .int o_v_size, .int o_v_fault, .int o_v_opened, .int o_v_isSeen, .ref q_names, .ref q_seenKept, .ref q_movedKept, .int v_isKeeping, .int v_bubbleMany, .int v_bubbleMost, .int v_bubbleCell, .int v_bestShown, .ref q_traced, .int v_traceMany, .int v_who, .ref q_bitsOf, .ref q_sizeOf, .ref q_number, .ref q_lifted])), (q_d, .inl (c 0, 244, .inl v_d)), (q_names, .inl (c 0, 3, .inl v_names))] o_r A below [.ref q_this, .int a_1, .int a_2, .int a_3] s) (F0 m 36 ls [.int y1, .ref q_this]) := by
    intro  y1 v_base v_at v_size v_fault v_opened v_isSeen H locs hP hD hS ls hl h
    unfold f_X12_worked_L36 at h
    replace h := chb_ok h
    obtain ⟨hz_2, h⟩ := h
    refine va_put (D := D) (ci := 12) (v := .int y1) (ty := .boolean) (C := RX12) (T := TX12) (N := 26) hx hb hts in_X12_worked_X12 tyX12 tyX12_ok nmX12 hown hK.1 hP hD hS 0 rfl rfl 10 (by decide) (hts (.fieldLink RX12 77 "PaperBubblesModel" "isSeen" "Z") (List.mem_of_getElem? (i := 6) rfl)) (fun _ h9 => h9) rfl (by decide +kernel) (chb_n hz_2) (chb_f hz_2) (Nat.le_of_ble_eq_true rfl) dX12_worked_36 (fun H locs hP hD hS => ?_)
    have hP : va_P D gcl [(q_this, .inr (12, [.ref q_d, .ref q_kept, .int v_images, .ref q_found, .ref q_aside, .int v_base, .int v_at, .int v_size, .int v_fault, .int v_opened, .int y1, .ref q_names, .ref q_seenKept, .ref q_movedKept, .int v_isKeeping, .int v_bubbleMany, .int v_bubbleMost, .int v_bubbleCell, .int v_bestShown, .ref q_traced, .int v_traceMany, .int v_who, .ref q_bitsOf, .ref q_sizeOf, .ref q_number, .ref q_lifted])), (q_d, .inl (c 0, 244, .inl v_d)), (q_names, .inl (c 0, 3, .inl v_names))] H := hP
    have hD : va_D A [(q_this, .inr (12, [.ref q_d, .ref q_kept, .int v_images, .ref q_found, .ref q_aside, .int v_base, .int v_at, .int v_size, .int v_fault, .int v_opened, .int y1, .ref q_names, .ref q_seenKept, .ref q_movedKept, .int v_isKeeping, .int v_bubbleMany, .int v_bubbleMost, .int v_bubbleCell, .int v_bestShown, .ref q_traced, .int v_traceMany, .int v_who, .ref q_bitsOf, .ref q_sizeOf, .ref q_number, .ref q_lifted])), (q_d, .inl (c 0, 244, .inl v_d)), (q_names, .inl (c 0, 3, .inl v_names))] := hD
    refine lv_aload_n hx hb dX12_worked_39 rfl (lv_at hl 0 rfl) ?_
    replace h := kb4_ok h
    obtain ⟨r_4, w_5, w_6, w_7, hc_3, h⟩ := h
    refine gCallI (isC := [0, 1, 2]) (wc := [(q_this, .inr (12, [.ref q_d, .ref q_kept, .int v_images, .ref q_found, .ref q_aside, .int v_base, .int v_at, .int v_size, .int v_fault, .int v_opened, .int y1, .ref q_names, .ref q_seenKept, .ref q_movedKept, .int v_isKeeping, .int v_bubbleMany, .int v_bubbleMost, .int v_bubbleCell, .int v_bestShown, .ref q_traced, .int v_traceMany, .int v_who, .ref q_bitsOf, .ref q_sizeOf, .ref q_number, .ref q_lifted])), (q_d, .inl (c 0, 244, .inl v_d)), (q_names, .inl (c 0, 3, .inl v_names))]) (w1 := [(q_this, .inr (12, [.ref q_d, .ref q_kept, .int v_images, .ref q_found, .ref q_aside, .int v_base, .int w_5, .int v_size, .int w_6, .int w_7, .int y1, .ref q_names, .ref q_seenKept, .ref q_movedKept, .int v_isKeeping, .int v_bubbleMany, .int v_bubbleMost, .int v_bubbleCell, .int v_bestShown, .ref q_traced, .int v_traceMany, .int v_who, .ref q_bitsOf, .ref q_sizeOf, .ref q_number, .ref q_lifted])), (q_d, .inl (c 0, 244, .inl v_d)), (q_names, .inl (c 0, 3, .inl v_names))]) (ws2 := [(q_this, .inr (12, [.ref q_d, .ref q_kept, .int v_images, .ref q_found, .ref q_aside, .int v_base, .int w_5, .int v_size, .int w_6, .int w_7, .int y1, .ref q_names, .ref q_seenKept, .ref q_movedKept, .int v_isKeeping, .int v_bubbleMany, .int v_bubbleMost, .int v_bubbleCell, .int v_bestShown, .ref q_traced, .int v_traceMany, .int v_who, .ref q_bitsOf, .ref q_sizeOf, .ref q_number, .ref q_lifted])), (q_d, .inl (c 0, 244, .inl v_d)), (q_names, .inl (c 0, 3, .inl v_names))]) (ms := [(some 0), (some 1), (some 2)]) hP hD hS hA ⟨rfl, rfl, rfl, trivial⟩ (by decide +kernel) ⟨rfl, rfl, rfl, trivial⟩ (va_runV (rm := (rm_X12_either 48 1096)) (ws := wsX12_either) (As := []) (rest := []) (gFix hF) (c_X12_either l D c (f_X12_unitN 8) 48 1096 (c_X12_unitN l D c 8) q_this q_d q_kept q_found q_aside q_names q_seenKept q_movedKept q_traced q_bitsOf q_sizeOf q_number q_lifted v_images v_base v_at v_size v_fault v_opened y1 v_isKeeping v_bubbleMany v_bubbleMost v_bubbleCell v_bestShown v_traceMany v_who v_d v_names r_4 w_5 w_6 w_7 hc_3 H.size) (cwV 0 hts gX12_worked_X12_either rfl rfl rfl (by decide +kernel) ⟨Nat.le_of_ble_eq_true rfl, Nat.le_of_ble_eq_true rfl⟩) (gPreV (wc := [(q_this, .inr (12, [.ref q_d, .ref q_kept, .int v_images, .ref q_found, .ref q_aside, .int v_base, .int v_at, .int v_size, .int v_fault, .int v_opened, .int y1, .ref q_names, .ref q_seenKept, .ref q_movedKept, .int v_isKeeping, .int v_bubbleMany, .int v_bubbleMost, .int v_bubbleCell, .int v_bestShown, .ref q_traced, .int v_traceMany, .int v_who, .ref q_bitsOf, .ref q_sizeOf, .ref q_number, .ref q_lifted])), (q_d, .inl (c 0, 244, .inl v_d)), (q_names, .inl (c 0, 3, .inl v_names))]) (q := (RX12, TX12, 26)) (ci := 12) (q0 := 0) (isC := [0, 1, 2]) hK hX hS hA hP hD ⟨rfl, rfl, rfl, trivial⟩ (by decide +kernel) rfl rfl) rfl rfl hl.1 rfl (lv_room (Nat.le_of_ble_eq_true rfl)) dX12_worked_40 ⟨Nat.le_of_ble_eq_true rfl, Nat.le_of_ble_eq_true rfl⟩) (fun H locs hP hD hS => ?_)
    refine lv_istore (lv' := [(4, .int r_4), (0, .ref q_this)]) hx hb dX12_worked_43 hl (by decide) rfl (fun ls hl => ?_)
    refine lv_aload_n hx hb dX12_worked_45 rfl (lv_at hl 1 rfl) ?_
    refine va_get (D := D) (ci := 12) (v := .int w_6) (C := RX12) (T := TX12) (N := 26) hx hb hts in_X12_worked_X12 hown hK.1 hP 0 rfl rfl 8 (by decide) (hts (.fieldLink RX12 68 "PaperBubblesModel" "fault" "I") (List.mem_of_getElem? (i := 4) rfl)) (fun _ h9 => h9) rfl dX12_worked_46 ?_
    refine lv_if_ge (tgt := 68) hx hb dX12_worked_49 (by decide) (fun c_8 => ?_) (fun c_8 => ?_)
    · replace h := it_t c_8 h
      refine lv_iload hx hb dX12_worked_68 (lv_at hl 0 rfl) ?_
      replace h := so7 h
      obtain ⟨z0, z1, z2, z3, z4, z5, z6⟩ := h
      subst z0 z1 z2 z3 z4 z5 z6
      exact gIret hF hP hD hS rfl dX12_worked_70
    · replace h := it_f c_8 h
      refine lv_aload_n hx hb dX12_worked_52 rfl (lv_at hl 1 rfl) ?_
      refine va_get (D := D) (ci := 12) (v := .int w_5) (C := RX12) (T := TX12) (N := 26) hx hb hts in_X12_worked_X12 hown hK.1 hP 0 rfl rfl 6 (by decide) (hts (.fieldLink RX12 61 "PaperBubblesModel" "at" "I") (List.mem_of_getElem? (i := 2) rfl)) (fun _ h9 => h9) rfl dX12_worked_53 ?_
      refine lv_aload_n hx hb dX12_worked_56 rfl (lv_at hl 1 rfl) ?_
      refine va_get (D := D) (ci := 12) (v := .int v_size) (C := RX12) (T := TX12) (N := 26) hx hb hts in_X12_worked_X12 hown hK.1 hP 0 rfl rfl 7 (by decide) (hts (.fieldLink RX12 65 "PaperBubblesModel" "size" "I") (List.mem_of_getElem? (i := 3) rfl)) (fun _ h9 => h9) rfl dX12_worked_57 ?_
      refine lv_icmp_ge (tgt := 68) hx hb dX12_worked_60 (by decide) (fun c_9 => ?_) (fun c_9 => ?_)
      · replace h := it_t c_9 h
        refine lv_iload hx hb dX12_worked_68 (lv_at hl 0 rfl) ?_
        replace h := so7 h
        obtain ⟨z0, z1, z2, z3, z4, z5, z6⟩ := h
        subst z0 z1 z2 z3 z4 z5 z6
        exact gIret hF hP hD hS rfl dX12_worked_70
      · replace h := it_f c_9 h
        refine lv_aload_n hx hb dX12_worked_63 rfl (lv_at hl 1 rfl) ?_
        replace h := kb2_ok h
        obtain ⟨r_11, w_12, hc_10, h⟩ := h
        refine gCallI (isC := [0]) (wc := [(q_this, .inr (12, [.ref q_d, .ref q_kept, .int v_images, .ref q_found, .ref q_aside, .int v_base, .int w_5, .int v_size, .int w_6, .int w_7, .int y1, .ref q_names, .ref q_seenKept, .ref q_movedKept, .int v_isKeeping, .int v_bubbleMany, .int v_bubbleMost, .int v_bubbleCell, .int v_bestShown, .ref q_traced, .int v_traceMany, .int v_who, .ref q_bitsOf, .ref q_sizeOf, .ref q_number, .ref q_lifted]))]) (w1 := [(q_this, .inr (12, [.ref q_d, .ref q_kept, .int v_images, .ref q_found, .ref q_aside, .int v_base, .int w_5, .int v_size, .int w_12, .int w_7, .int y1, .ref q_names, .ref q_seenKept, .ref q_movedKept, .int v_isKeeping, .int v_bubbleMany, .int v_bubbleMost, .int v_bubbleCell, .int v_bestShown, .ref q_traced, .int v_traceMany, .int v_who, .ref q_bitsOf, .ref q_sizeOf, .ref q_number, .ref q_lifted]))]) (ws2 := [(q_this, .inr (12, [.ref q_d, .ref q_kept, .int v_images, .ref q_found, .ref q_aside, .int v_base, .int w_5, .int v_size, .int w_12, .int w_7, .int y1, .ref q_names, .ref q_seenKept, .ref q_movedKept, .int v_isKeeping, .int v_bubbleMany, .int v_bubbleMost, .int v_bubbleCell, .int v_bestShown, .ref q_traced, .int v_traceMany, .int v_who, .ref q_bitsOf, .ref q_sizeOf, .ref q_number, .ref q_lifted])), (q_d, .inl (c 0, 244, .inl v_d)), (q_names, .inl (c 0, 3, .inl v_names))]) (ms := [(some 0), none, none]) hP hD hS hA ⟨rfl, trivial⟩ (by decide +kernel) ⟨rfl, rfl, rfl, trivial⟩ (va_runV (rm := rm_X12_wrong) (ws := wsX12_wrong) (As := []) (rest := []) (gFix hF) (c_X12_wrong l D c q_this q_d q_kept q_found q_aside q_names q_seenKept q_movedKept q_traced q_bitsOf q_sizeOf q_number q_lifted v_images v_base w_5 v_size w_6 w_7 y1 v_isKeeping v_bubbleMany v_bubbleMost v_bubbleCell v_bestShown v_traceMany v_who r_11 w_12 hc_10 H.size) (cwV 0 hts gX12_worked_X12_wrong rfl rfl rfl (by decide +kernel) ⟨Nat.le_of_ble_eq_true rfl, Nat.le_of_ble_eq_true rfl⟩) (gPreV (wc := [(q_this, .inr (12, [.ref q_d, .ref q_kept, .int v_images, .ref q_found, .ref q_aside, .int v_base, .int w_5, .int v_size, .int w_6, .int w_7, .int y1, .ref q_names, .ref q_seenKept, .ref q_movedKept, .int v_isKeeping, .int v_bubbleMany, .int v_bubbleMost, .int v_bubbleCell, .int v_bestShown, .ref q_traced, .int v_traceMany, .int v_who, .ref q_bitsOf, .ref q_sizeOf, .ref q_number, .ref q_lifted]))]) (q := (RX12, TX12, 26)) (ci := 12) (q0 := 0) (isC := [0]) hK hX hS hA hP hD ⟨rfl, trivial⟩ (by decide +kernel) rfl rfl) rfl rfl hl.1 rfl (lv_room (Nat.le_of_ble_eq_true rfl)) dX12_worked_64 ⟨Nat.le_of_ble_eq_true rfl, Nat.le_of_ble_eq_true rfl⟩) (fun H locs hP hD hS => ?_)
        replace h := so7 h
        obtain ⟨z0, z1, z2, z3, z4, z5, z6⟩ := h
        subst z0 z1 z2 z3 z4 z5 z6
        exact gIret hF hP hD hS rfl dX12_worked_67
  unfold f_X12_worked at h
  refine lv_aload_n hx hb dX12_worked_0 rfl (lv_at hl 0 rfl) ?_
  refine lv_iload_n hx hb dX12_worked_1 rfl (lv_at hl 1 rfl) ?_
  refine va_put (D := D) (ci := 12) (v := .int a_1) (ty := .int) (C := RX12) (T := TX12) (N := 26) hx hb hts in_X12_worked_X12 tyX12 tyX12_ok nmX12 hown hK.1 hP hD hS 0 rfl rfl 5 (by decide) (hts (.fieldLink RX12 71 "PaperBubblesModel" "base" "I") (List.mem_of_getElem? (i := 1) rfl)) (fun _ h9 => h9) rfl (by decide +kernel) rfl rfl (Nat.le_of_ble_eq_true rfl) dX12_worked_2 (fun H locs hP hD hS => ?_)
  have hP : va_P D gcl [(q_this, .inr (12, [.ref q_d, .ref q_kept, .int v_images, .ref q_found, .ref q_aside, .int a_1, .int v_at, .int v_size, .int v_fault, .int v_opened, .int v_isSeen, .ref q_names, .ref q_seenKept, .ref q_movedKept, .int v_isKeeping, .int v_bubbleMany, .int v_bubbleMost, .int v_bubbleCell, .int v_bestShown, .ref q_traced, .int v_traceMany, .int v_who, .ref q_bitsOf, .ref q_sizeOf, .ref q_number, .ref q_lifted])), (q_d, .inl (c 0, 244, .inl v_d)), (q_names, .inl (c 0, 3, .inl v_names))] H := hP
  have hD : va_D A [(q_this, .inr (12, [.ref q_d, .ref q_kept, .int v_images, .ref q_found, .ref q_aside, .int a_1, .int v_at, .int v_size, .int v_fault, .int v_opened, .int v_isSeen, .ref q_names, .ref q_seenKept, .ref q_movedKept, .int v_isKeeping, .int v_bubbleMany, .int v_bubbleMost, .int v_bubbleCell, .int v_bestShown, .ref q_traced, .int v_traceMany, .int v_who, .ref q_bitsOf, .ref q_sizeOf, .ref q_number, .ref q_lifted])), (q_d, .inl (c 0, 244, .inl v_d)), (q_names, .inl (c 0, 3, .inl v_names))] := hD
  refine lv_aload_n hx hb dX12_worked_5 rfl (lv_at hl 0 rfl) ?_
  refine lv_iconst (v := 0) hx hb dX12_worked_6 (by decide) ?_
  refine va_put (D := D) (ci := 12) (v := .int 0) (ty := .int) (C := RX12) (T := TX12) (N := 26) hx hb hts in_X12_worked_X12 tyX12 tyX12_ok nmX12 hown hK.1 hP hD hS 0 rfl rfl 6 (by decide) (hts (.fieldLink RX12 61 "PaperBubblesModel" "at" "I") (List.mem_of_getElem? (i := 2) rfl)) (fun _ h9 => h9) rfl (by decide +kernel) rfl rfl (Nat.le_of_ble_eq_true rfl) dX12_worked_7 (fun H locs hP hD hS => ?_)
  have hP : va_P D gcl [(q_this, .inr (12, [.ref q_d, .ref q_kept, .int v_images, .ref q_found, .ref q_aside, .int a_1, .int 0, .int v_size, .int v_fault, .int v_opened, .int v_isSeen, .ref q_names, .ref q_seenKept, .ref q_movedKept, .int v_isKeeping, .int v_bubbleMany, .int v_bubbleMost, .int v_bubbleCell, .int v_bestShown, .ref q_traced, .int v_traceMany, .int v_who, .ref q_bitsOf, .ref q_sizeOf, .ref q_number, .ref q_lifted])), (q_d, .inl (c 0, 244, .inl v_d)), (q_names, .inl (c 0, 3, .inl v_names))] H := hP
  have hD : va_D A [(q_this, .inr (12, [.ref q_d, .ref q_kept, .int v_images, .ref q_found, .ref q_aside, .int a_1, .int 0, .int v_size, .int v_fault, .int v_opened, .int v_isSeen, .ref q_names, .ref q_seenKept, .ref q_movedKept, .int v_isKeeping, .int v_bubbleMany, .int v_bubbleMost, .int v_bubbleCell, .int v_bestShown, .ref q_traced, .int v_traceMany, .int v_who, .ref q_bitsOf, .ref q_sizeOf, .ref q_number, .ref q_lifted])), (q_d, .inl (c 0, 244, .inl v_d)), (q_names, .inl (c 0, 3, .inl v_names))] := hD
  refine lv_aload_n hx hb dX12_worked_10 rfl (lv_at hl 0 rfl) ?_
  refine lv_iload_n hx hb dX12_worked_11 rfl (lv_at hl 2 rfl) ?_
  refine va_put (D := D) (ci := 12) (v := .int a_2) (ty := .int) (C := RX12) (T := TX12) (N := 26) hx hb hts in_X12_worked_X12 tyX12 tyX12_ok nmX12 hown hK.1 hP hD hS 0 rfl rfl 7 (by decide) (hts (.fieldLink RX12 65 "PaperBubblesModel" "size" "I") (List.mem_of_getElem? (i := 3) rfl)) (fun _ h9 => h9) rfl (by decide +kernel) rfl rfl (Nat.le_of_ble_eq_true rfl) dX12_worked_12 (fun H locs hP hD hS => ?_)
  have hP : va_P D gcl [(q_this, .inr (12, [.ref q_d, .ref q_kept, .int v_images, .ref q_found, .ref q_aside, .int a_1, .int 0, .int a_2, .int v_fault, .int v_opened, .int v_isSeen, .ref q_names, .ref q_seenKept, .ref q_movedKept, .int v_isKeeping, .int v_bubbleMany, .int v_bubbleMost, .int v_bubbleCell, .int v_bestShown, .ref q_traced, .int v_traceMany, .int v_who, .ref q_bitsOf, .ref q_sizeOf, .ref q_number, .ref q_lifted])), (q_d, .inl (c 0, 244, .inl v_d)), (q_names, .inl (c 0, 3, .inl v_names))] H := hP
  have hD : va_D A [(q_this, .inr (12, [.ref q_d, .ref q_kept, .int v_images, .ref q_found, .ref q_aside, .int a_1, .int 0, .int a_2, .int v_fault, .int v_opened, .int v_isSeen, .ref q_names, .ref q_seenKept, .ref q_movedKept, .int v_isKeeping, .int v_bubbleMany, .int v_bubbleMost, .int v_bubbleCell, .int v_bestShown, .ref q_traced, .int v_traceMany, .int v_who, .ref q_bitsOf, .ref q_sizeOf, .ref q_number, .ref q_lifted])), (q_d, .inl (c 0, 244, .inl v_d)), (q_names, .inl (c 0, 3, .inl v_names))] := hD
  refine lv_aload_n hx hb dX12_worked_15 rfl (lv_at hl 0 rfl) ?_
  refine lv_iconst (v := (-1)) hx hb dX12_worked_16 (by decide) ?_
  refine va_put (D := D) (ci := 12) (v := .int (-1)) (ty := .int) (C := RX12) (T := TX12) (N := 26) hx hb hts in_X12_worked_X12 tyX12 tyX12_ok nmX12 hown hK.1 hP hD hS 0 rfl rfl 8 (by decide) (hts (.fieldLink RX12 68 "PaperBubblesModel" "fault" "I") (List.mem_of_getElem? (i := 4) rfl)) (fun _ h9 => h9) rfl (by decide +kernel) rfl rfl (Nat.le_of_ble_eq_true rfl) dX12_worked_17 (fun H locs hP hD hS => ?_)
  have hP : va_P D gcl [(q_this, .inr (12, [.ref q_d, .ref q_kept, .int v_images, .ref q_found, .ref q_aside, .int a_1, .int 0, .int a_2, .int (-1), .int v_opened, .int v_isSeen, .ref q_names, .ref q_seenKept, .ref q_movedKept, .int v_isKeeping, .int v_bubbleMany, .int v_bubbleMost, .int v_bubbleCell, .int v_bestShown, .ref q_traced, .int v_traceMany, .int v_who, .ref q_bitsOf, .ref q_sizeOf, .ref q_number, .ref q_lifted])), (q_d, .inl (c 0, 244, .inl v_d)), (q_names, .inl (c 0, 3, .inl v_names))] H := hP
  have hD : va_D A [(q_this, .inr (12, [.ref q_d, .ref q_kept, .int v_images, .ref q_found, .ref q_aside, .int a_1, .int 0, .int a_2, .int (-1), .int v_opened, .int v_isSeen, .ref q_names, .ref q_seenKept, .ref q_movedKept, .int v_isKeeping, .int v_bubbleMany, .int v_bubbleMost, .int v_bubbleCell, .int v_bestShown, .ref q_traced, .int v_traceMany, .int v_who, .ref q_bitsOf, .ref q_sizeOf, .ref q_number, .ref q_lifted])), (q_d, .inl (c 0, 244, .inl v_d)), (q_names, .inl (c 0, 3, .inl v_names))] := hD
  refine lv_aload_n hx hb dX12_worked_20 rfl (lv_at hl 0 rfl) ?_
  refine lv_iconst (v := 0) hx hb dX12_worked_21 (by decide) ?_
  refine va_put (D := D) (ci := 12) (v := .int 0) (ty := .int) (C := RX12) (T := TX12) (N := 26) hx hb hts in_X12_worked_X12 tyX12 tyX12_ok nmX12 hown hK.1 hP hD hS 0 rfl rfl 9 (by decide) (hts (.fieldLink RX12 100 "PaperBubblesModel" "opened" "I") (List.mem_of_getElem? (i := 5) rfl)) (fun _ h9 => h9) rfl (by decide +kernel) rfl rfl (Nat.le_of_ble_eq_true rfl) dX12_worked_22 (fun H locs hP hD hS => ?_)
  have hP : va_P D gcl [(q_this, .inr (12, [.ref q_d, .ref q_kept, .int v_images, .ref q_found, .ref q_aside, .int a_1, .int 0, .int a_2, .int (-1), .int 0, .int v_isSeen, .ref q_names, .ref q_seenKept, .ref q_movedKept, .int v_isKeeping, .int v_bubbleMany, .int v_bubbleMost, .int v_bubbleCell, .int v_bestShown, .ref q_traced, .int v_traceMany, .int v_who, .ref q_bitsOf, .ref q_sizeOf, .ref q_number, .ref q_lifted])), (q_d, .inl (c 0, 244, .inl v_d)), (q_names, .inl (c 0, 3, .inl v_names))] H := hP
  have hD : va_D A [(q_this, .inr (12, [.ref q_d, .ref q_kept, .int v_images, .ref q_found, .ref q_aside, .int a_1, .int 0, .int a_2, .int (-1), .int 0, .int v_isSeen, .ref q_names, .ref q_seenKept, .ref q_movedKept, .int v_isKeeping, .int v_bubbleMany, .int v_bubbleMost, .int v_bubbleCell, .int v_bestShown, .ref q_traced, .int v_traceMany, .int v_who, .ref q_bitsOf, .ref q_sizeOf, .ref q_number, .ref q_lifted])), (q_d, .inl (c 0, 244, .inl v_d)), (q_names, .inl (c 0, 3, .inl v_names))] := hD
  refine lv_aload_n hx hb dX12_worked_25 rfl (lv_at hl 0 rfl) ?_
  refine lv_iload_n hx hb dX12_worked_26 rfl (lv_at hl 3 rfl) ?_
  refine lv_iconst (v := 1) hx hb dX12_worked_27 (by decide) ?_
  refine lv_icmp_ne (tgt := 35) hx hb dX12_worked_28 (by decide) (fun c_1 => ?_) (fun c_1 => ?_)
  · replace h := it_f c_1 h
    refine lv_iconst (v := 0) hx hb dX12_worked_35 (by decide) ?_
    exact t_L36 0 a_1 0 a_2 (-1) 0 v_isSeen H locs hP hD hS ls (lv_sub hl [0] rfl) h
  · replace h := it_t c_1 h
    refine lv_iconst (v := 1) hx hb dX12_worked_31 (by decide) ?_
    refine lv_goto (tgt := 36) hx hb dX12_worked_32 (by decide) ?_
    exact t_L36 1 a_1 0 a_2 (-1) 0 v_isSeen H locs hP hD hS ls (lv_sub hl [0] rfl) h
set_option maxRecDepth 20000 in
theorem in_X12_textGives_X12 : ∀ w ∈ u_ws RX12 TX12 26, w ∈ wsX12_textGives := by decide +kernel
abbrev rm_X12_textGives : Room := { frames := 55, cells := 0, slots := 0, locals := 1257 }
set_option maxHeartbeats 4000000 in
set_option maxRecDepth 100000 in
theorem c_X12_textGives (l : Launch) (D : va_G) (c : Nat → ClassId) (q_this q_d q_kept q_found q_aside q_names q_seenKept q_movedKept q_traced q_bitsOf q_sizeOf q_number q_lifted : Nat) (a_1 : Int32) (a_2 : Int32) (a_3 : Int32) (a_4 : Int32) (v_images : Int32) (v_base : Int32) (v_at : Int32) (v_size : Int32) (v_fault : Int32) (v_opened : Int32) (v_isSeen : Int32) (v_isKeeping : Int32) (v_bubbleMany : Int32) (v_bubbleMost : Int32) (v_bubbleCell : Int32) (v_bestShown : Int32) (v_traceMany : Int32) (v_who : Int32) (v_d : Nat → Int32) (v_names : Nat → Int32) (o_r : Int32) (o_v_base : Int32) (o_v_at : Int32) (o_v_size : Int32) (o_v_fault : Int32) (o_v_opened : Int32) (o_v_isSeen : Int32) (o_v_names : Nat → Int32) (h : f_X12_textGives a_1 a_2 a_3 a_4 v_base v_at v_size v_fault v_opened v_isSeen v_d v_names = some (o_r, o_v_base, o_v_at, o_v_size, o_v_fault, o_v_opened, o_v_isSeen, o_v_names)) : gMI l yX12_textGives wsX12_textGives rm_X12_textGives D c [.ref q_this, .int a_1, .int a_2, .int a_3, .int a_4] [(q_this, .inr (12, [.ref q_d, .ref q_kept, .int v_images, .ref q_found, .ref q_aside, .int v_base, .int v_at, .int v_size, .int v_fault, .int v_opened, .int v_isSeen, .ref q_names, .ref q_seenKept, .ref q_movedKept, .int v_isKeeping, .int v_bubbleMany, .int v_bubbleMost, .int v_bubbleCell, .int v_bestShown, .ref q_traced, .int v_traceMany, .int v_who, .ref q_bitsOf, .ref q_sizeOf, .ref q_number, .ref q_lifted])), (q_d, .inl (c 0, 244, .inl v_d)), (q_names, .inl (c 0, 3, .inl v_names))] [(q_this, .inr (12, [.ref q_d, .ref q_kept, .int v_images, .ref q_found, .ref q_aside, .int o_v_base, .int o_v_at, .int o_v_size, .int o_v_fault, .int o_v_opened, .int o_v_isSeen, .ref q_names, .ref q_seenKept, .ref q_movedKept, .int v_isKeeping, .int v_bubbleMany, .int v_bubbleMost, .int v_bubbleCell, .int v_bestShown, .ref q_traced, .int v_traceMany, .int v_who, .ref q_bitsOf, .ref q_sizeOf, .ref q_number, .ref q_lifted])), (q_d, .inl (c 0, 244, .inl v_d)), (q_names, .inl (c 0, 3, .inl o_v_names))] o_r := by
  refine gMI_of (cc := cX12_textGives) (maxL := 6) (rt := (some .int)) (by decide +kernel) rfl (Nat.le_of_ble_eq_true rfl) ?_
  intro p e s m below meth co A hF hK hX hP hD hA hS ls hl
  obtain ⟨hx, hb, hr, hts, hown, hlocks, hml⟩ := id hF
  have hl : lv_has ls 6 [(0, .ref q_this), (1, .int a_1), (2, .int a_2), (3, .int a_3), (4, .int a_4)] := hl
  have t_L70 : ∀ (x5 : Int32) (v_base : Int32) (v_at : Int32) (v_size : Int32) (v_fault : Int32) (v_opened : Int32) (v_isSeen : Int32) (v_names : Nat → Int32) (H : Heap) (locs : List Loc), va_P D gcl [(q_this, .inr (12, [.ref q_d, .ref q_kept, .int v_images, .ref q_found, .ref q_aside, .int v_base, .int v_at, .int v_size, .int v_fault, .int v_opened, .int v_isSeen, .ref q_names, .ref q_seenKept, .ref q_movedKept, .int v_isKeeping, .int v_bubbleMany, .int v_bubbleMost, .int v_bubbleCell, .int v_bestShown, .ref q_traced, .int v_traceMany, .int v_who, .ref q_bitsOf, .ref q_sizeOf, .ref q_number, .ref q_lifted])), (q_d, .inl (c 0, 244, .inl v_d)), (q_names, .inl (c 0, 3, .inl v_names))] H → va_D A [(q_this, .inr (12, [.ref q_d, .ref q_kept, .int v_images, .ref q_found, .ref q_aside, .int v_base, .int v_at, .int v_size, .int v_fault, .int v_opened, .int v_isSeen, .ref q_names, .ref q_seenKept, .ref q_movedKept, .int v_isKeeping, .int v_bubbleMany, .int v_bubbleMost, .int v_bubbleCell, .int v_bestShown, .ref q_traced, .int v_traceMany, .int v_who, .ref q_bitsOf, .ref q_sizeOf, .ref q_number, .ref q_lifted])), (q_d, .inl (c 0, 244, .inl v_d)), (q_names, .inl (c 0, 3, .inl v_names))] → va_S A s.heap H locs → ∀ ls, lv_has ls 6 [(5, .int x5)] → f_X12_textGives_L70 x5 v_base v_at v_size v_fault v_opened v_isSeen v_names = some (o_r, o_v_base, o_v_at, o_v_size, o_v_fault, o_v_opened, o_v_isSeen, o_v_names) → W p l e (headSpec wsX12_textGives rm_X12_textGives).room s m [.ref q_this, .int a_1, .int a_2, .int a_3, .int a_4].toArray below meth co H locs 0 0 (gQI D [(q_this, .inr (12, [.ref q_d, .ref q_kept, .int v_images, .ref q_found, .ref q_aside, .int o_v_base, .int o_v_at, .int o_v_size, .int o_v_fault, .int o_v_opened, .int o_v_isSeen, .ref q_names, .ref q_seenKept, .ref q_movedKept, .int v_isKeeping, .int v_bubbleMany, .int v_bubbleMost, .int v_bubbleCell, .int v_bestShown, .ref q_traced, .int v_traceMany, .int v_who, .ref q_bitsOf, .ref q_sizeOf, .ref q_number, .ref q_lifted])), (q_d, .inl (c 0, 244, .inl v_d)), (q_names, .inl (c 0, 3, .inl o_v_names))] o_r A below [.ref q_this, .int a_1, .int a_2, .int a_3, .int a_4] s) (F0 m 70 ls []) := by
    intro  x5 v_base v_at v_size v_fault v_opened v_isSeen v_names H locs hP hD hS ls hl h
    unfold f_X12_textGives_L70 at h
    refine lv_iload hx hb dX12_textGives_70 (lv_at hl 0 rfl) ?_
    refine lv_iconst (v := 0) hx hb dX12_textGives_72 (by decide) ?_
    refine lv_bipush (v := 99) hx hb dX12_textGives_73 (by decide) ?_
    replace h := kb_ok h
    obtain ⟨r_26, hc_25, h⟩ := h
    refine gCallIr (isC := []) (wc := []) hP hD hS hA trivial (va_runS (rm := rm_X12_held) (ws := wsX12_held) (As := [.int x5, .int 0, .int 99]) (rest := []) (gFix hF) (c_X12_held l D c x5 0 99 r_26 hc_25 H.size) (va_cwS 3 hts gX12_textGives_X12_held rfl rfl rfl (by decide +kernel) ⟨Nat.le_of_ble_eq_true rfl, Nat.le_of_ble_eq_true rfl⟩) (gPreS (wc := []) (isC := []) hK hX hS hA hP hD trivial (by decide +kernel)) rfl rfl hl.1 rfl (lv_room (Nat.le_of_ble_eq_true rfl)) dX12_textGives_75 ⟨Nat.le_of_ble_eq_true rfl, Nat.le_of_ble_eq_true rfl⟩) (fun H locs hP hS => ?_)
    replace h := so8 h
    obtain ⟨z0, z1, z2, z3, z4, z5, z6, z7⟩ := h
    subst z0 z1 z2 z3 z4 z5 z6 z7
    exact gIret hF hP hD hS rfl dX12_textGives_78
  have t_L11 : ∀ (y0 : Int32) (v_base : Int32) (v_at : Int32) (v_size : Int32) (v_fault : Int32) (v_opened : Int32) (v_isSeen : Int32) (v_names : Nat → Int32) (H : Heap) (locs : List Loc), va_P D gcl [(q_this, .inr (12, [.ref q_d, .ref q_kept, .int v_images, .ref q_found, .ref q_aside, .int v_base, .int v_at, .int v_size, .int v_fault, .int v_opened, .int v_isSeen, .ref q_names, .ref q_seenKept, .ref q_movedKept, .int v_isKeeping, .int v_bubbleMany, .int v_bubbleMost, .int v_bubbleCell, .int v_bestShown, .ref q_traced, .int v_traceMany, .int v_who, .ref q_bitsOf, .ref q_sizeOf, .ref q_number, .ref q_lifted])), (q_d, .inl (c 0, 244, .inl v_d)), (q_names, .inl (c 0, 3, .inl v_names))] H → va_D A [(q_this, .inr (12, [.ref q_d, .ref q_kept, .int v_images, .ref q_found, .ref q_aside, .int v_base, .int v_at, .int v_size, .int v_fault, .int v_opened, .int v_isSeen, .ref q_names, .ref q_seenKept, .ref q_movedKept, .int v_isKeeping, .int v_bubbleMany, .int v_bubbleMost, .int v_bubbleCell, .int v_bestShown, .ref q_traced, .int v_traceMany, .int v_who, .ref q_bitsOf, .ref q_sizeOf, .ref q_number, .ref q_lifted])), (q_d, .inl (c 0, 244, .inl v_d)), (q_names, .inl (c 0, 3, .inl v_names))] → va_S A s.heap H locs → ∀ ls, lv_has ls 6 [(0, .ref q_this), (1, .int a_1), (2, .int a_2), (3, .int a_3), (4, .int a_4)] → f_X12_textGives_L11 a_1 a_2 a_3 a_4 v_d y0 v_base v_at v_size v_fault v_opened v_isSeen v_names = some (o_r, o_v_base, o_v_at, o_v_size, o_v_fault, o_v_opened, o_v_isSeen, o_v_names) → W p l e (headSpec wsX12_textGives rm_X12_textGives).room s m [.ref q_this, .int a_1, .int a_2, .int a_3, .int a_4].toArray below meth co H locs 0 0 (gQI D [(q_this, .inr (12, [.ref q_d, .ref q_kept, .int v_images, .ref q_found, .ref q_aside, .int o_v_base, .int o_v_at, .int o_v_size, .int o_v_fault, .int o_v_opened, .int o_v_isSeen, .ref q_names, .ref q_seenKept, .ref q_movedKept, .int v_isKeeping, .int v_bubbleMany, .int v_bubbleMost, .int v_bubbleCell, .int v_bestShown, .ref q_traced, .int v_traceMany, .int v_who, .ref q_bitsOf, .ref q_sizeOf, .ref q_number, .ref q_lifted])), (q_d, .inl (c 0, 244, .inl v_d)), (q_names, .inl (c 0, 3, .inl o_v_names))] o_r A below [.ref q_this, .int a_1, .int a_2, .int a_3, .int a_4] s) (F0 m 11 ls [.int y0]) := by
    intro  y0 v_base v_at v_size v_fault v_opened v_isSeen v_names H locs hP hD hS ls hl h
    unfold f_X12_textGives_L11 at h
    refine lv_istore (lv' := [(5, .int y0), (0, .ref q_this), (1, .int a_1), (2, .int a_2), (3, .int a_3), (4, .int a_4)]) hx hb dX12_textGives_11 hl (by decide) rfl (fun ls hl => ?_)
    refine lv_aload_n hx hb dX12_textGives_13 rfl (lv_at hl 1 rfl) ?_
    refine va_get (D := D) (ci := 12) (v := .ref q_d) (C := RX12) (T := TX12) (N := 26) hx hb hts in_X12_textGives_X12 hown hK.1 hP 0 rfl rfl 0 (by decide) (hts (.fieldLink RX12 7 "PaperBubblesModel" "d" "[I") (List.mem_of_getElem? (i := 1) rfl)) (fun _ h9 => h9) rfl dX12_textGives_14 ?_
    refine lv_bipush (v := 72) hx hb dX12_textGives_17 (by decide) ?_
    refine lv_iload_n hx hb dX12_textGives_19 rfl (lv_at hl 2 rfl) ?_
    refine lv_iadd hx hb dX12_textGives_20 ?_
    replace h := nm_ok h
    obtain ⟨t_4, et_4, h⟩ := h
    refine gTop et_4 ?_
    replace h := chi_ok h
    obtain ⟨hi_5, h⟩ := h
    refine va_iald hx hb hK.1 hP 1 0 rfl rfl hi_5 dX12_textGives_21 ?_
    refine lv_if_le (tgt := 70) hx hb dX12_textGives_22 (by decide) (fun c_6 => ?_) (fun c_6 => ?_)
    · replace h := it_t c_6 h
      exact t_L70 y0 v_base v_at v_size v_fault v_opened v_isSeen v_names H locs hP hD hS ls (lv_sub hl [0] rfl) h
    · replace h := it_f c_6 h
      refine lv_aload_n hx hb dX12_textGives_25 rfl (lv_at hl 1 rfl) ?_
      refine va_get (D := D) (ci := 12) (v := .ref q_names) (C := RX12) (T := TX12) (N := 26) hx hb hts in_X12_textGives_X12 hown hK.1 hP 0 rfl rfl 11 (by decide) (hts (.fieldLink RX12 22 "PaperBubblesModel" "names" "[I") (List.mem_of_getElem? (i := 2) rfl)) (fun _ h9 => h9) rfl dX12_textGives_26 ?_
      refine lv_iconst (v := 0) hx hb dX12_textGives_29 (by decide) ?_
      refine lv_iload_n hx hb dX12_textGives_30 rfl (lv_at hl 3 rfl) ?_
      replace h := chi_ok h
      obtain ⟨hi_7, h⟩ := h
      replace h := nm_ok h
      obtain ⟨w_8, ew_8, h⟩ := h
      refine va_iast hx hb hK.1 hP hD hS 2 0 rfl rfl hi_7 dX12_textGives_31 (fun H locs hP hD hS => ?_)
      have hP : va_P D gcl [(q_this, .inr (12, [.ref q_d, .ref q_kept, .int v_images, .ref q_found, .ref q_aside, .int v_base, .int v_at, .int v_size, .int v_fault, .int v_opened, .int v_isSeen, .ref q_names, .ref q_seenKept, .ref q_movedKept, .int v_isKeeping, .int v_bubbleMany, .int v_bubbleMost, .int v_bubbleCell, .int v_bestShown, .ref q_traced, .int v_traceMany, .int v_who, .ref q_bitsOf, .ref q_sizeOf, .ref q_number, .ref q_lifted])), (q_d, .inl (c 0, 244, .inl v_d)), (q_names, .inl (c 0, 3, .inl w_8))] H := by subst ew_8; exact hP
      have hD : va_D A [(q_this, .inr (12, [.ref q_d, .ref q_kept, .int v_images, .ref q_found, .ref q_aside, .int v_base, .int v_at, .int v_size, .int v_fault, .int v_opened, .int v_isSeen, .ref q_names, .ref q_seenKept, .ref q_movedKept, .int v_isKeeping, .int v_bubbleMany, .int v_bubbleMost, .int v_bubbleCell, .int v_bestShown, .ref q_traced, .int v_traceMany, .int v_who, .ref q_bitsOf, .ref q_sizeOf, .ref q_number, .ref q_lifted])), (q_d, .inl (c 0, 244, .inl v_d)), (q_names, .inl (c 0, 3, .inl w_8))] := by subst ew_8; exact hD
      refine lv_aload_n hx hb dX12_textGives_32 rfl (lv_at hl 1 rfl) ?_
      refine va_get (D := D) (ci := 12) (v := .ref q_names) (C := RX12) (T := TX12) (N := 26) hx hb hts in_X12_textGives_X12 hown hK.1 hP 0 rfl rfl 11 (by decide) (hts (.fieldLink RX12 22 "PaperBubblesModel" "names" "[I") (List.mem_of_getElem? (i := 2) rfl)) (fun _ h9 => h9) rfl dX12_textGives_33 ?_
      refine lv_iconst (v := 1) hx hb dX12_textGives_36 (by decide) ?_
      refine lv_iload_n hx hb dX12_textGives_37 rfl (lv_at hl 4 rfl) ?_
      replace h := chi_ok h
      obtain ⟨hi_9, h⟩ := h
      replace h := nm_ok h
      obtain ⟨w_10, ew_10, h⟩ := h
      refine va_iast hx hb hK.1 hP hD hS 2 0 rfl rfl hi_9 dX12_textGives_38 (fun H locs hP hD hS => ?_)
      have hP : va_P D gcl [(q_this, .inr (12, [.ref q_d, .ref q_kept, .int v_images, .ref q_found, .ref q_aside, .int v_base, .int v_at, .int v_size, .int v_fault, .int v_opened, .int v_isSeen, .ref q_names, .ref q_seenKept, .ref q_movedKept, .int v_isKeeping, .int v_bubbleMany, .int v_bubbleMost, .int v_bubbleCell, .int v_bestShown, .ref q_traced, .int v_traceMany, .int v_who, .ref q_bitsOf, .ref q_sizeOf, .ref q_number, .ref q_lifted])), (q_d, .inl (c 0, 244, .inl v_d)), (q_names, .inl (c 0, 3, .inl w_10))] H := by subst ew_10; exact hP
      have hD : va_D A [(q_this, .inr (12, [.ref q_d, .ref q_kept, .int v_images, .ref q_found, .ref q_aside, .int v_base, .int v_at, .int v_size, .int v_fault, .int v_opened, .int v_isSeen, .ref q_names, .ref q_seenKept, .ref q_movedKept, .int v_isKeeping, .int v_bubbleMany, .int v_bubbleMost, .int v_bubbleCell, .int v_bestShown, .ref q_traced, .int v_traceMany, .int v_who, .ref q_bitsOf, .ref q_sizeOf, .ref q_number, .ref q_lifted])), (q_d, .inl (c 0, 244, .inl v_d)), (q_names, .inl (c 0, 3, .inl w_10))] := by subst ew_10; exact hD
      refine lv_aload_n hx hb dX12_textGives_39 rfl (lv_at hl 1 rfl) ?_
      refine va_get (D := D) (ci := 12) (v := .ref q_names) (C := RX12) (T := TX12) (N := 26) hx hb hts in_X12_textGives_X12 hown hK.1 hP 0 rfl rfl 11 (by decide) (hts (.fieldLink RX12 22 "PaperBubblesModel" "names" "[I") (List.mem_of_getElem? (i := 2) rfl)) (fun _ h9 => h9) rfl dX12_textGives_40 ?_
      refine lv_iconst (v := 2) hx hb dX12_textGives_43 (by decide) ?_
      refine lv_iload hx hb dX12_textGives_44 (lv_at hl 5 rfl) ?_
      replace h := chi_ok h
      obtain ⟨hi_11, h⟩ := h
      replace h := nm_ok h
      obtain ⟨w_12, ew_12, h⟩ := h
      refine va_iast hx hb hK.1 hP hD hS 2 0 rfl rfl hi_11 dX12_textGives_46 (fun H locs hP hD hS => ?_)
      have hP : va_P D gcl [(q_this, .inr (12, [.ref q_d, .ref q_kept, .int v_images, .ref q_found, .ref q_aside, .int v_base, .int v_at, .int v_size, .int v_fault, .int v_opened, .int v_isSeen, .ref q_names, .ref q_seenKept, .ref q_movedKept, .int v_isKeeping, .int v_bubbleMany, .int v_bubbleMost, .int v_bubbleCell, .int v_bestShown, .ref q_traced, .int v_traceMany, .int v_who, .ref q_bitsOf, .ref q_sizeOf, .ref q_number, .ref q_lifted])), (q_d, .inl (c 0, 244, .inl v_d)), (q_names, .inl (c 0, 3, .inl w_12))] H := by subst ew_12; exact hP
      have hD : va_D A [(q_this, .inr (12, [.ref q_d, .ref q_kept, .int v_images, .ref q_found, .ref q_aside, .int v_base, .int v_at, .int v_size, .int v_fault, .int v_opened, .int v_isSeen, .ref q_names, .ref q_seenKept, .ref q_movedKept, .int v_isKeeping, .int v_bubbleMany, .int v_bubbleMost, .int v_bubbleCell, .int v_bestShown, .ref q_traced, .int v_traceMany, .int v_who, .ref q_bitsOf, .ref q_sizeOf, .ref q_number, .ref q_lifted])), (q_d, .inl (c 0, 244, .inl v_d)), (q_names, .inl (c 0, 3, .inl w_12))] := by subst ew_12; exact hD
      refine lv_aload_n hx hb dX12_textGives_47 rfl (lv_at hl 1 rfl) ?_
      refine lv_bipush (v := 94) hx hb dX12_textGives_48 (by decide) ?_
      refine lv_bipush (v := 50) hx hb dX12_textGives_50 (by decide) ?_
      refine lv_iload_n hx hb dX12_textGives_52 rfl (lv_at hl 2 rfl) ?_
      refine lv_imul hx hb dX12_textGives_53 ?_
      refine lv_iadd hx hb dX12_textGives_54 ?_
      replace h := nm_ok h
      obtain ⟨t_13, et_13, h⟩ := h
      refine gTop et_13 ?_
      refine lv_aload_n hx hb dX12_textGives_55 rfl (lv_at hl 1 rfl) ?_
      refine va_get (D := D) (ci := 12) (v := .ref q_d) (C := RX12) (T := TX12) (N := 26) hx hb hts in_X12_textGives_X12 hown hK.1 hP 0 rfl rfl 0 (by decide) (hts (.fieldLink RX12 7 "PaperBubblesModel" "d" "[I") (List.mem_of_getElem? (i := 1) rfl)) (fun _ h9 => h9) rfl dX12_textGives_56 ?_
      refine lv_bipush (v := 72) hx hb dX12_textGives_59 (by decide) ?_
      refine lv_iload_n hx hb dX12_textGives_61 rfl (lv_at hl 2 rfl) ?_
      refine lv_iadd hx hb dX12_textGives_62 ?_
      replace h := nm_ok h
      obtain ⟨t_14, et_14, h⟩ := h
      refine gTop et_14 ?_
      replace h := chi_ok h
      obtain ⟨hi_15, h⟩ := h
      refine va_iald hx hb hK.1 hP 1 0 rfl rfl hi_15 dX12_textGives_63 ?_
      replace h := nm_ok h
      obtain ⟨t_16, et_16, h⟩ := h
      refine gTop et_16 ?_
      refine lv_iload_n hx hb dX12_textGives_64 rfl (lv_at hl 2 rfl) ?_
      replace h := kb7_ok h
      obtain ⟨r_18, w_19, w_20, w_21, w_22, w_23, w_24, hc_17, h⟩ := h
      refine gCallI (isC := [0, 1, 2]) (wc := [(q_this, .inr (12, [.ref q_d, .ref q_kept, .int v_images, .ref q_found, .ref q_aside, .int v_base, .int v_at, .int v_size, .int v_fault, .int v_opened, .int v_isSeen, .ref q_names, .ref q_seenKept, .ref q_movedKept, .int v_isKeeping, .int v_bubbleMany, .int v_bubbleMost, .int v_bubbleCell, .int v_bestShown, .ref q_traced, .int v_traceMany, .int v_who, .ref q_bitsOf, .ref q_sizeOf, .ref q_number, .ref q_lifted])), (q_d, .inl (c 0, 244, .inl v_d)), (q_names, .inl (c 0, 3, .inl w_12))]) (w1 := [(q_this, .inr (12, [.ref q_d, .ref q_kept, .int v_images, .ref q_found, .ref q_aside, .int w_19, .int w_20, .int w_21, .int w_22, .int w_23, .int w_24, .ref q_names, .ref q_seenKept, .ref q_movedKept, .int v_isKeeping, .int v_bubbleMany, .int v_bubbleMost, .int v_bubbleCell, .int v_bestShown, .ref q_traced, .int v_traceMany, .int v_who, .ref q_bitsOf, .ref q_sizeOf, .ref q_number, .ref q_lifted])), (q_d, .inl (c 0, 244, .inl v_d)), (q_names, .inl (c 0, 3, .inl w_12))]) (ws2 := [(q_this, .inr (12, [.ref q_d, .ref q_kept, .int v_images, .ref q_found, .ref q_aside, .int w_19, .int w_20, .int w_21, .int w_22, .int w_23, .int w_24, .ref q_names, .ref q_seenKept, .ref q_movedKept, .int v_isKeeping, .int v_bubbleMany, .int v_bubbleMost, .int v_bubbleCell, .int v_bestShown, .ref q_traced, .int v_traceMany, .int v_who, .ref q_bitsOf, .ref q_sizeOf, .ref q_number, .ref q_lifted])), (q_d, .inl (c 0, 244, .inl v_d)), (q_names, .inl (c 0, 3, .inl w_12))]) (ms := [(some 0), (some 1), (some 2)]) hP hD hS hA ⟨rfl, rfl, rfl, trivial⟩ (by decide +kernel) ⟨rfl, rfl, rfl, trivial⟩ (va_runV (rm := rm_X12_worked) (ws := wsX12_worked) (As := [.int t_13, .int t_16, .int a_1]) (rest := []) (gFix hF) (c_X12_worked l D c q_this q_d q_kept q_found q_aside q_names q_seenKept q_movedKept q_traced q_bitsOf q_sizeOf q_number q_lifted t_13 t_16 a_1 v_images v_base v_at v_size v_fault v_opened v_isSeen v_isKeeping v_bubbleMany v_bubbleMost v_bubbleCell v_bestShown v_traceMany v_who v_d w_12 r_18 w_19 w_20 w_21 w_22 w_23 w_24 hc_17 H.size) (cwV 3 hts gX12_textGives_X12_worked rfl rfl rfl (by decide +kernel) ⟨Nat.le_of_ble_eq_true rfl, Nat.le_of_ble_eq_true rfl⟩) (gPreV (wc := [(q_this, .inr (12, [.ref q_d, .ref q_kept, .int v_images, .ref q_found, .ref q_aside, .int v_base, .int v_at, .int v_size, .int v_fault, .int v_opened, .int v_isSeen, .ref q_names, .ref q_seenKept, .ref q_movedKept, .int v_isKeeping, .int v_bubbleMany, .int v_bubbleMost, .int v_bubbleCell, .int v_bestShown, .ref q_traced, .int v_traceMany, .int v_who, .ref q_bitsOf, .ref q_sizeOf, .ref q_number, .ref q_lifted])), (q_d, .inl (c 0, 244, .inl v_d)), (q_names, .inl (c 0, 3, .inl w_12))]) (q := (RX12, TX12, 26)) (ci := 12) (q0 := 0) (isC := [0, 1, 2]) hK hX hS hA hP hD ⟨rfl, rfl, rfl, trivial⟩ (by decide +kernel) rfl rfl) rfl rfl hl.1 rfl (lv_room (Nat.le_of_ble_eq_true rfl)) dX12_textGives_65 ⟨Nat.le_of_ble_eq_true rfl, Nat.le_of_ble_eq_true rfl⟩) (fun H locs hP hD hS => ?_)
      refine lv_istore (lv' := [(5, .int r_18), (0, .ref q_this), (1, .int a_1), (2, .int a_2), (3, .int a_3), (4, .int a_4)]) hx hb dX12_textGives_68 hl (by decide) rfl (fun ls hl => ?_)
      exact t_L70 r_18 w_19 w_20 w_21 w_22 w_23 w_24 w_12 H locs hP hD hS ls (lv_sub hl [0] rfl) h
  unfold f_X12_textGives at h
  refine lv_iload_n hx hb dX12_textGives_0 rfl (lv_at hl 1 rfl) ?_
  refine lv_if_ne (tgt := 10) hx hb dX12_textGives_1 (by decide) (fun c_1 => ?_) (fun c_1 => ?_)
  · replace h := it_f c_1 h
    refine lv_iload_n hx hb dX12_textGives_10 rfl (lv_at hl 2 rfl) ?_
    exact t_L11 a_2 v_base v_at v_size v_fault v_opened v_isSeen v_names s.heap [] hP hD hS ls (lv_sub hl [0, 1, 2, 3, 4] rfl) h
  · replace h := it_t c_1 h
    refine lv_iload_n hx hb dX12_textGives_4 rfl (lv_at hl 2 rfl) ?_
    refine lv_iconst (v := 2) hx hb dX12_textGives_5 (by decide) ?_
    replace h := chz_ok h
    obtain ⟨hz_2, h⟩ := h
    refine lv_idiv hx hb dX12_textGives_6 hz_2 ?_
    replace h := nm_ok h
    obtain ⟨t_3, et_3, h⟩ := h
    refine gTop et_3 ?_
    refine lv_goto (tgt := 11) hx hb dX12_textGives_7 (by decide) ?_
    exact t_L11 t_3 v_base v_at v_size v_fault v_opened v_isSeen v_names s.heap [] hP hD hS ls (lv_sub hl [0, 1, 2, 3, 4] rfl) h
set_option maxRecDepth 20000 in
theorem in_X12_seenOf_X12 : ∀ w ∈ u_ws RX12 TX12 26, w ∈ wsX12_seenOf := by decide +kernel
abbrev rm_X12_seenOf : Room := { frames := 56, cells := 0, slots := 0, locals := 1282 }
set_option maxHeartbeats 4000000 in
set_option maxRecDepth 100000 in
theorem c_X12_seenOf (l : Launch) (D : va_G) (c : Nat → ClassId) (q_this q_d q_kept q_found q_aside q_names q_seenKept q_movedKept q_traced q_bitsOf q_sizeOf q_number q_lifted : Nat) (a_1 : Int32) (v_images : Int32) (v_base : Int32) (v_at : Int32) (v_size : Int32) (v_fault : Int32) (v_opened : Int32) (v_isSeen : Int32) (v_isKeeping : Int32) (v_bubbleMany : Int32) (v_bubbleMost : Int32) (v_bubbleCell : Int32) (v_bestShown : Int32) (v_traceMany : Int32) (v_who : Int32) (v_d : Nat → Int32) (v_names : Nat → Int32) (v_seenKept : Nat → Int32) (o_r : Int32) (o_v_base : Int32) (o_v_at : Int32) (o_v_size : Int32) (o_v_fault : Int32) (o_v_opened : Int32) (o_v_isSeen : Int32) (o_v_names : Nat → Int32) (o_v_seenKept : Nat → Int32) (h : f_X12_seenOf a_1 v_base v_at v_size v_fault v_opened v_isSeen v_isKeeping v_d v_names v_seenKept = some (o_r, o_v_base, o_v_at, o_v_size, o_v_fault, o_v_opened, o_v_isSeen, o_v_names, o_v_seenKept)) : gMI l yX12_seenOf wsX12_seenOf rm_X12_seenOf D c [.ref q_this, .int a_1] [(q_this, .inr (12, [.ref q_d, .ref q_kept, .int v_images, .ref q_found, .ref q_aside, .int v_base, .int v_at, .int v_size, .int v_fault, .int v_opened, .int v_isSeen, .ref q_names, .ref q_seenKept, .ref q_movedKept, .int v_isKeeping, .int v_bubbleMany, .int v_bubbleMost, .int v_bubbleCell, .int v_bestShown, .ref q_traced, .int v_traceMany, .int v_who, .ref q_bitsOf, .ref q_sizeOf, .ref q_number, .ref q_lifted])), (q_d, .inl (c 0, 244, .inl v_d)), (q_names, .inl (c 0, 3, .inl v_names)), (q_seenKept, .inl (c 0, 2500, .inl v_seenKept))] [(q_this, .inr (12, [.ref q_d, .ref q_kept, .int v_images, .ref q_found, .ref q_aside, .int o_v_base, .int o_v_at, .int o_v_size, .int o_v_fault, .int o_v_opened, .int o_v_isSeen, .ref q_names, .ref q_seenKept, .ref q_movedKept, .int v_isKeeping, .int v_bubbleMany, .int v_bubbleMost, .int v_bubbleCell, .int v_bestShown, .ref q_traced, .int v_traceMany, .int v_who, .ref q_bitsOf, .ref q_sizeOf, .ref q_number, .ref q_lifted])), (q_d, .inl (c 0, 244, .inl v_d)), (q_names, .inl (c 0, 3, .inl o_v_names)), (q_seenKept, .inl (c 0, 2500, .inl o_v_seenKept))] o_r := by
  refine gMI_of (cc := cX12_seenOf) (maxL := 4) (rt := (some .int)) (by decide +kernel) rfl (Nat.le_of_ble_eq_true rfl) ?_
  intro p e s m below meth co A hF hK hX hP hD hA hS ls hl
  obtain ⟨hx, hb, hr, hts, hown, hlocks, hml⟩ := id hF
  have hl : lv_has ls 4 [(0, .ref q_this), (1, .int a_1)] := hl
  have t_L38 : ∀ (x2 : Int32) (v_base : Int32) (v_at : Int32) (v_size : Int32) (v_fault : Int32) (v_opened : Int32) (v_isSeen : Int32) (v_names : Nat → Int32) (v_seenKept : Nat → Int32) (H : Heap) (locs : List Loc), va_P D gcl [(q_this, .inr (12, [.ref q_d, .ref q_kept, .int v_images, .ref q_found, .ref q_aside, .int v_base, .int v_at, .int v_size, .int v_fault, .int v_opened, .int v_isSeen, .ref q_names, .ref q_seenKept, .ref q_movedKept, .int v_isKeeping, .int v_bubbleMany, .int v_bubbleMost, .int v_bubbleCell, .int v_bestShown, .ref q_traced, .int v_traceMany, .int v_who, .ref q_bitsOf, .ref q_sizeOf, .ref q_number, .ref q_lifted])), (q_d, .inl (c 0, 244, .inl v_d)), (q_names, .inl (c 0, 3, .inl v_names)), (q_seenKept, .inl (c 0, 2500, .inl v_seenKept))] H → va_D A [(q_this, .inr (12, [.ref q_d, .ref q_kept, .int v_images, .ref q_found, .ref q_aside, .int v_base, .int v_at, .int v_size, .int v_fault, .int v_opened, .int v_isSeen, .ref q_names, .ref q_seenKept, .ref q_movedKept, .int v_isKeeping, .int v_bubbleMany, .int v_bubbleMost, .int v_bubbleCell, .int v_bestShown, .ref q_traced, .int v_traceMany, .int v_who, .ref q_bitsOf, .ref q_sizeOf, .ref q_number, .ref q_lifted])), (q_d, .inl (c 0, 244, .inl v_d)), (q_names, .inl (c 0, 3, .inl v_names)), (q_seenKept, .inl (c 0, 2500, .inl v_seenKept))] → va_S A s.heap H locs → ∀ ls, lv_has ls 4 [(0, .ref q_this), (1, .int a_1), (2, .int x2)] → f_X12_seenOf_L38 a_1 v_d x2 v_base v_at v_size v_fault v_opened v_isSeen v_names v_seenKept = some (o_r, o_v_base, o_v_at, o_v_size, o_v_fault, o_v_opened, o_v_isSeen, o_v_names, o_v_seenKept) → W p l e (headSpec wsX12_seenOf rm_X12_seenOf).room s m [.ref q_this, .int a_1].toArray below meth co H locs 0 0 (gQI D [(q_this, .inr (12, [.ref q_d, .ref q_kept, .int v_images, .ref q_found, .ref q_aside, .int o_v_base, .int o_v_at, .int o_v_size, .int o_v_fault, .int o_v_opened, .int o_v_isSeen, .ref q_names, .ref q_seenKept, .ref q_movedKept, .int v_isKeeping, .int v_bubbleMany, .int v_bubbleMost, .int v_bubbleCell, .int v_bestShown, .ref q_traced, .int v_traceMany, .int v_who, .ref q_bitsOf, .ref q_sizeOf, .ref q_number, .ref q_lifted])), (q_d, .inl (c 0, 244, .inl v_d)), (q_names, .inl (c 0, 3, .inl o_v_names)), (q_seenKept, .inl (c 0, 2500, .inl o_v_seenKept))] o_r A below [.ref q_this, .int a_1] s) (F0 m 38 ls []) := by
    intro  x2 v_base v_at v_size v_fault v_opened v_isSeen v_names v_seenKept H locs hP hD hS ls hl h
    unfold f_X12_seenOf_L38 at h
    refine lv_aload_n hx hb dX12_seenOf_38 rfl (lv_at hl 0 rfl) ?_
    refine lv_iconst (v := 1) hx hb dX12_seenOf_39 (by decide) ?_
    refine lv_aload_n hx hb dX12_seenOf_40 rfl (lv_at hl 0 rfl) ?_
    refine va_get (D := D) (ci := 12) (v := .ref q_d) (C := RX12) (T := TX12) (N := 26) hx hb hts in_X12_seenOf_X12 hown hK.1 hP 0 rfl rfl 0 (by decide) (hts (.fieldLink RX12 7 "PaperBubblesModel" "d" "[I") (List.mem_of_getElem? (i := 1) rfl)) (fun _ h9 => h9) rfl dX12_seenOf_41 ?_
    refine lv_bipush (v := 10) hx hb dX12_seenOf_44 (by decide) ?_
    refine lv_iload_n hx hb dX12_seenOf_46 rfl (lv_at hl 1 rfl) ?_
    refine lv_iadd hx hb dX12_seenOf_47 ?_
    replace h := nm_ok h
    obtain ⟨t_9, et_9, h⟩ := h
    refine gTop et_9 ?_
    replace h := chi_ok h
    obtain ⟨hi_10, h⟩ := h
    refine va_iald hx hb hK.1 hP 1 0 rfl rfl hi_10 dX12_seenOf_48 ?_
    replace h := nm_ok h
    obtain ⟨t_11, et_11, h⟩ := h
    refine gTop et_11 ?_
    refine lv_iload_n hx hb dX12_seenOf_49 rfl (lv_at hl 1 rfl) ?_
    refine lv_aload_n hx hb dX12_seenOf_50 rfl (lv_at hl 0 rfl) ?_
    refine va_get (D := D) (ci := 12) (v := .ref q_d) (C := RX12) (T := TX12) (N := 26) hx hb hts in_X12_seenOf_X12 hown hK.1 hP 0 rfl rfl 0 (by decide) (hts (.fieldLink RX12 7 "PaperBubblesModel" "d" "[I") (List.mem_of_getElem? (i := 1) rfl)) (fun _ h9 => h9) rfl dX12_seenOf_51 ?_
    refine lv_iconst (v := 1) hx hb dX12_seenOf_54 (by decide) ?_
    replace h := chi_ok h
    obtain ⟨hi_12, h⟩ := h
    refine va_iald hx hb hK.1 hP 1 0 rfl rfl hi_12 dX12_seenOf_55 ?_
    replace h := nm_ok h
    obtain ⟨t_13, et_13, h⟩ := h
    refine gTop et_13 ?_
    replace h := chz_ok h
    obtain ⟨hz_14, h⟩ := h
    refine lv_idiv hx hb dX12_seenOf_56 hz_14 ?_
    replace h := nm_ok h
    obtain ⟨t_15, et_15, h⟩ := h
    refine gTop et_15 ?_
    refine lv_iload_n hx hb dX12_seenOf_57 rfl (lv_at hl 1 rfl) ?_
    refine lv_aload_n hx hb dX12_seenOf_58 rfl (lv_at hl 0 rfl) ?_
    refine va_get (D := D) (ci := 12) (v := .ref q_d) (C := RX12) (T := TX12) (N := 26) hx hb hts in_X12_seenOf_X12 hown hK.1 hP 0 rfl rfl 0 (by decide) (hts (.fieldLink RX12 7 "PaperBubblesModel" "d" "[I") (List.mem_of_getElem? (i := 1) rfl)) (fun _ h9 => h9) rfl dX12_seenOf_59 ?_
    refine lv_iconst (v := 1) hx hb dX12_seenOf_62 (by decide) ?_
    replace h := chi_ok h
    obtain ⟨hi_16, h⟩ := h
    refine va_iald hx hb hK.1 hP 1 0 rfl rfl hi_16 dX12_seenOf_63 ?_
    replace h := nm_ok h
    obtain ⟨t_17, et_17, h⟩ := h
    refine gTop et_17 ?_
    replace h := chz_ok h
    obtain ⟨hz_18, h⟩ := h
    refine lv_irem hx hb dX12_seenOf_64 hz_18 ?_
    replace h := nm_ok h
    obtain ⟨t_19, et_19, h⟩ := h
    refine gTop et_19 ?_
    replace h := kb8_ok h
    obtain ⟨r_21, w_22, w_23, w_24, w_25, w_26, w_27, w_28, hc_20, h⟩ := h
    refine gCallI (isC := [0, 1, 2]) (wc := [(q_this, .inr (12, [.ref q_d, .ref q_kept, .int v_images, .ref q_found, .ref q_aside, .int v_base, .int v_at, .int v_size, .int v_fault, .int v_opened, .int v_isSeen, .ref q_names, .ref q_seenKept, .ref q_movedKept, .int v_isKeeping, .int v_bubbleMany, .int v_bubbleMost, .int v_bubbleCell, .int v_bestShown, .ref q_traced, .int v_traceMany, .int v_who, .ref q_bitsOf, .ref q_sizeOf, .ref q_number, .ref q_lifted])), (q_d, .inl (c 0, 244, .inl v_d)), (q_names, .inl (c 0, 3, .inl v_names))]) (w1 := [(q_this, .inr (12, [.ref q_d, .ref q_kept, .int v_images, .ref q_found, .ref q_aside, .int w_22, .int w_23, .int w_24, .int w_25, .int w_26, .int w_27, .ref q_names, .ref q_seenKept, .ref q_movedKept, .int v_isKeeping, .int v_bubbleMany, .int v_bubbleMost, .int v_bubbleCell, .int v_bestShown, .ref q_traced, .int v_traceMany, .int v_who, .ref q_bitsOf, .ref q_sizeOf, .ref q_number, .ref q_lifted])), (q_d, .inl (c 0, 244, .inl v_d)), (q_names, .inl (c 0, 3, .inl w_28))]) (ws2 := [(q_this, .inr (12, [.ref q_d, .ref q_kept, .int v_images, .ref q_found, .ref q_aside, .int w_22, .int w_23, .int w_24, .int w_25, .int w_26, .int w_27, .ref q_names, .ref q_seenKept, .ref q_movedKept, .int v_isKeeping, .int v_bubbleMany, .int v_bubbleMost, .int v_bubbleCell, .int v_bestShown, .ref q_traced, .int v_traceMany, .int v_who, .ref q_bitsOf, .ref q_sizeOf, .ref q_number, .ref q_lifted])), (q_d, .inl (c 0, 244, .inl v_d)), (q_names, .inl (c 0, 3, .inl w_28)), (q_seenKept, .inl (c 0, 2500, .inl v_seenKept))]) (ms := [(some 0), (some 1), (some 2), none]) hP hD hS hA ⟨rfl, rfl, rfl, trivial⟩ (by decide +kernel) ⟨rfl, rfl, rfl, rfl, trivial⟩ (va_runV (rm := rm_X12_textGives) (ws := wsX12_textGives) (As := [.int 1, .int t_11, .int t_15, .int t_19]) (rest := []) (gFix hF) (c_X12_textGives l D c q_this q_d q_kept q_found q_aside q_names q_seenKept q_movedKept q_traced q_bitsOf q_sizeOf q_number q_lifted 1 t_11 t_15 t_19 v_images v_base v_at v_size v_fault v_opened v_isSeen v_isKeeping v_bubbleMany v_bubbleMost v_bubbleCell v_bestShown v_traceMany v_who v_d v_names r_21 w_22 w_23 w_24 w_25 w_26 w_27 w_28 hc_20 H.size) (cwV 4 hts gX12_seenOf_X12_textGives rfl rfl rfl (by decide +kernel) ⟨Nat.le_of_ble_eq_true rfl, Nat.le_of_ble_eq_true rfl⟩) (gPreV (wc := [(q_this, .inr (12, [.ref q_d, .ref q_kept, .int v_images, .ref q_found, .ref q_aside, .int v_base, .int v_at, .int v_size, .int v_fault, .int v_opened, .int v_isSeen, .ref q_names, .ref q_seenKept, .ref q_movedKept, .int v_isKeeping, .int v_bubbleMany, .int v_bubbleMost, .int v_bubbleCell, .int v_bestShown, .ref q_traced, .int v_traceMany, .int v_who, .ref q_bitsOf, .ref q_sizeOf, .ref q_number, .ref q_lifted])), (q_d, .inl (c 0, 244, .inl v_d)), (q_names, .inl (c 0, 3, .inl v_names))]) (q := (RX12, TX12, 26)) (ci := 12) (q0 := 0) (isC := [0, 1, 2]) hK hX hS hA hP hD ⟨rfl, rfl, rfl, trivial⟩ (by decide +kernel) rfl rfl) rfl rfl hl.1 rfl (lv_room (Nat.le_of_ble_eq_true rfl)) dX12_seenOf_65 ⟨Nat.le_of_ble_eq_true rfl, Nat.le_of_ble_eq_true rfl⟩) (fun H locs hP hD hS => ?_)
    refine lv_istore_n (lv' := [(3, .int r_21), (0, .ref q_this), (1, .int a_1), (2, .int x2)]) hx hb dX12_seenOf_68 rfl hl (by decide) rfl (fun ls hl => ?_)
    refine lv_aload_n hx hb dX12_seenOf_69 rfl (lv_at hl 1 rfl) ?_
    refine va_get (D := D) (ci := 12) (v := .ref q_seenKept) (C := RX12) (T := TX12) (N := 26) hx hb hts in_X12_seenOf_X12 hown hK.1 hP 0 rfl rfl 12 (by decide) (hts (.fieldLink RX12 25 "PaperBubblesModel" "seenKept" "[I") (List.mem_of_getElem? (i := 3) rfl)) (fun _ h9 => h9) rfl dX12_seenOf_70 ?_
    refine lv_iload_n hx hb dX12_seenOf_73 rfl (lv_at hl 3 rfl) ?_
    refine lv_iload_n hx hb dX12_seenOf_74 rfl (lv_at hl 0 rfl) ?_
    replace h := chi_ok h
    obtain ⟨hi_29, h⟩ := h
    replace h := nm_ok h
    obtain ⟨w_30, ew_30, h⟩ := h
    refine va_iast hx hb hK.1 hP hD hS 3 0 rfl rfl hi_29 dX12_seenOf_75 (fun H locs hP hD hS => ?_)
    have hP : va_P D gcl [(q_this, .inr (12, [.ref q_d, .ref q_kept, .int v_images, .ref q_found, .ref q_aside, .int w_22, .int w_23, .int w_24, .int w_25, .int w_26, .int w_27, .ref q_names, .ref q_seenKept, .ref q_movedKept, .int v_isKeeping, .int v_bubbleMany, .int v_bubbleMost, .int v_bubbleCell, .int v_bestShown, .ref q_traced, .int v_traceMany, .int v_who, .ref q_bitsOf, .ref q_sizeOf, .ref q_number, .ref q_lifted])), (q_d, .inl (c 0, 244, .inl v_d)), (q_names, .inl (c 0, 3, .inl w_28)), (q_seenKept, .inl (c 0, 2500, .inl w_30))] H := by subst ew_30; exact hP
    have hD : va_D A [(q_this, .inr (12, [.ref q_d, .ref q_kept, .int v_images, .ref q_found, .ref q_aside, .int w_22, .int w_23, .int w_24, .int w_25, .int w_26, .int w_27, .ref q_names, .ref q_seenKept, .ref q_movedKept, .int v_isKeeping, .int v_bubbleMany, .int v_bubbleMost, .int v_bubbleCell, .int v_bestShown, .ref q_traced, .int v_traceMany, .int v_who, .ref q_bitsOf, .ref q_sizeOf, .ref q_number, .ref q_lifted])), (q_d, .inl (c 0, 244, .inl v_d)), (q_names, .inl (c 0, 3, .inl w_28)), (q_seenKept, .inl (c 0, 2500, .inl w_30))] := by subst ew_30; exact hD
    refine lv_iload_n hx hb dX12_seenOf_76 rfl (lv_at hl 0 rfl) ?_
    replace h := so9 h
    obtain ⟨z0, z1, z2, z3, z4, z5, z6, z7, z8⟩ := h
    subst z0 z1 z2 z3 z4 z5 z6 z7 z8
    exact gIret hF hP hD hS rfl dX12_seenOf_77
  unfold f_X12_seenOf at h
  refine lv_bipush (v := 100) hx hb dX12_seenOf_0 (by decide) ?_
  refine lv_iload_n hx hb dX12_seenOf_2 rfl (lv_at hl 1 rfl) ?_
  refine lv_imul hx hb dX12_seenOf_3 ?_
  replace h := nm_ok h
  obtain ⟨t_1, et_1, h⟩ := h
  refine gTop et_1 ?_
  refine lv_aload_n hx hb dX12_seenOf_4 rfl (lv_at hl 0 rfl) ?_
  refine va_get (D := D) (ci := 12) (v := .ref q_d) (C := RX12) (T := TX12) (N := 26) hx hb hts in_X12_seenOf_X12 hown hK.1 hP 0 rfl rfl 0 (by decide) (hts (.fieldLink RX12 7 "PaperBubblesModel" "d" "[I") (List.mem_of_getElem? (i := 1) rfl)) (fun _ h9 => h9) rfl dX12_seenOf_5 ?_
  refine lv_bipush (v := 10) hx hb dX12_seenOf_8 (by decide) ?_
  refine lv_iload_n hx hb dX12_seenOf_10 rfl (lv_at hl 1 rfl) ?_
  refine lv_iadd hx hb dX12_seenOf_11 ?_
  replace h := nm_ok h
  obtain ⟨t_2, et_2, h⟩ := h
  refine gTop et_2 ?_
  replace h := chi_ok h
  obtain ⟨hi_3, h⟩ := h
  refine va_iald hx hb hK.1 hP 1 0 rfl rfl hi_3 dX12_seenOf_12 ?_
  refine lv_iadd hx hb dX12_seenOf_13 ?_
  replace h := nm_ok h
  obtain ⟨t_4, et_4, h⟩ := h
  refine gTop et_4 ?_
  refine lv_istore_n (lv' := [(2, .int t_4), (0, .ref q_this), (1, .int a_1)]) hx hb dX12_seenOf_14 rfl hl (by decide) rfl (fun ls hl => ?_)
  refine lv_aload_n hx hb dX12_seenOf_15 rfl (lv_at hl 1 rfl) ?_
  refine va_get (D := D) (ci := 12) (v := .int v_isKeeping) (C := RX12) (T := TX12) (N := 26) hx hb hts in_X12_seenOf_X12 hown hK.1 hP 0 rfl rfl 14 (by decide) (hts (.fieldLink RX12 144 "PaperBubblesModel" "isKeeping" "Z") (List.mem_of_getElem? (i := 2) rfl)) (fun _ h9 => h9) rfl dX12_seenOf_16 ?_
  refine lv_if_eq (tgt := 38) hx hb dX12_seenOf_19 (by decide) (fun c_5 => ?_) (fun c_5 => ?_)
  · replace h := it_t c_5 h
    exact t_L38 t_4 v_base v_at v_size v_fault v_opened v_isSeen v_names v_seenKept s.heap [] hP hD hS ls (lv_sub hl [1, 2, 0] rfl) h
  · replace h := it_f c_5 h
    refine lv_aload_n hx hb dX12_seenOf_22 rfl (lv_at hl 1 rfl) ?_
    refine va_get (D := D) (ci := 12) (v := .ref q_seenKept) (C := RX12) (T := TX12) (N := 26) hx hb hts in_X12_seenOf_X12 hown hK.1 hP 0 rfl rfl 12 (by decide) (hts (.fieldLink RX12 25 "PaperBubblesModel" "seenKept" "[I") (List.mem_of_getElem? (i := 3) rfl)) (fun _ h9 => h9) rfl dX12_seenOf_23 ?_
    refine lv_iload_n hx hb dX12_seenOf_26 rfl (lv_at hl 0 rfl) ?_
    replace h := chi_ok h
    obtain ⟨hi_6, h⟩ := h
    refine va_iald hx hb hK.1 hP 3 0 rfl rfl hi_6 dX12_seenOf_27 ?_
    refine lv_if_lt (tgt := 38) hx hb dX12_seenOf_28 (by decide) (fun c_7 => ?_) (fun c_7 => ?_)
    · replace h := it_t c_7 h
      exact t_L38 t_4 v_base v_at v_size v_fault v_opened v_isSeen v_names v_seenKept s.heap [] hP hD hS ls (lv_sub hl [1, 2, 0] rfl) h
    · replace h := it_f c_7 h
      refine lv_aload_n hx hb dX12_seenOf_31 rfl (lv_at hl 1 rfl) ?_
      refine va_get (D := D) (ci := 12) (v := .ref q_seenKept) (C := RX12) (T := TX12) (N := 26) hx hb hts in_X12_seenOf_X12 hown hK.1 hP 0 rfl rfl 12 (by decide) (hts (.fieldLink RX12 25 "PaperBubblesModel" "seenKept" "[I") (List.mem_of_getElem? (i := 3) rfl)) (fun _ h9 => h9) rfl dX12_seenOf_32 ?_
      refine lv_iload_n hx hb dX12_seenOf_35 rfl (lv_at hl 0 rfl) ?_
      replace h := chi_ok h
      obtain ⟨hi_8, h⟩ := h
      refine va_iald hx hb hK.1 hP 3 0 rfl rfl hi_8 dX12_seenOf_36 ?_
      replace h := so9 h
      obtain ⟨z0, z1, z2, z3, z4, z5, z6, z7, z8⟩ := h
      subst z0 z1 z2 z3 z4 z5 z6 z7 z8
      exact gIret hF hP hD hS rfl dX12_seenOf_37
abbrev rm_X12_seen : Room := { frames := 57, cells := 0, slots := 0, locals := 1305 }
set_option maxHeartbeats 4000000 in
set_option maxRecDepth 100000 in
theorem c_X12_seen (l : Launch) (D : va_G) (c : Nat → ClassId) (q_this q_d q_kept q_found q_aside q_names q_seenKept q_movedKept q_traced q_bitsOf q_sizeOf q_number q_lifted : Nat) (v_images : Int32) (v_base : Int32) (v_at : Int32) (v_size : Int32) (v_fault : Int32) (v_opened : Int32) (v_isSeen : Int32) (v_isKeeping : Int32) (v_bubbleMany : Int32) (v_bubbleMost : Int32) (v_bubbleCell : Int32) (v_bestShown : Int32) (v_traceMany : Int32) (v_who : Int32) (v_d : Nat → Int32) (v_names : Nat → Int32) (v_seenKept : Nat → Int32) (o_r : Int32) (o_v_base : Int32) (o_v_at : Int32) (o_v_size : Int32) (o_v_fault : Int32) (o_v_opened : Int32) (o_v_isSeen : Int32) (o_v_names : Nat → Int32) (o_v_seenKept : Nat → Int32) (h : f_X12_seen v_base v_at v_size v_fault v_opened v_isSeen v_isKeeping v_d v_names v_seenKept = some (o_r, o_v_base, o_v_at, o_v_size, o_v_fault, o_v_opened, o_v_isSeen, o_v_names, o_v_seenKept)) : gMI l yX12_seen wsX12_seen rm_X12_seen D c [.ref q_this] [(q_this, .inr (12, [.ref q_d, .ref q_kept, .int v_images, .ref q_found, .ref q_aside, .int v_base, .int v_at, .int v_size, .int v_fault, .int v_opened, .int v_isSeen, .ref q_names, .ref q_seenKept, .ref q_movedKept, .int v_isKeeping, .int v_bubbleMany, .int v_bubbleMost, .int v_bubbleCell, .int v_bestShown, .ref q_traced, .int v_traceMany, .int v_who, .ref q_bitsOf, .ref q_sizeOf, .ref q_number, .ref q_lifted])), (q_d, .inl (c 0, 244, .inl v_d)), (q_names, .inl (c 0, 3, .inl v_names)), (q_seenKept, .inl (c 0, 2500, .inl v_seenKept))] [(q_this, .inr (12, [.ref q_d, .ref q_kept, .int v_images, .ref q_found, .ref q_aside, .int o_v_base, .int o_v_at, .int o_v_size, .int o_v_fault, .int o_v_opened, .int o_v_isSeen, .ref q_names, .ref q_seenKept, .ref q_movedKept, .int v_isKeeping, .int v_bubbleMany, .int v_bubbleMost, .int v_bubbleCell, .int v_bestShown, .ref q_traced, .int v_traceMany, .int v_who, .ref q_bitsOf, .ref q_sizeOf, .ref q_number, .ref q_lifted])), (q_d, .inl (c 0, 244, .inl v_d)), (q_names, .inl (c 0, 3, .inl o_v_names)), (q_seenKept, .inl (c 0, 2500, .inl o_v_seenKept))] o_r := by
  refine gMI_of (cc := cX12_seen) (maxL := 3) (rt := (some .int)) (by decide +kernel) rfl (Nat.le_of_ble_eq_true rfl) ?_
  intro p e s m below meth co A hF hK hX hP hD hA hS ls hl
  obtain ⟨hx, hb, hr, hts, hown, hlocks, hml⟩ := id hF
  have hl : lv_has ls 3 [(0, .ref q_this)] := hl
  have t_L4 : ∀ (n : Nat), ∀ (x1 : Int32) (x2 : Int32) (v_base : Int32) (v_at : Int32) (v_size : Int32) (v_fault : Int32) (v_opened : Int32) (v_isSeen : Int32) (v_names : Nat → Int32) (v_seenKept : Nat → Int32) (H : Heap) (locs : List Loc), va_P D gcl [(q_this, .inr (12, [.ref q_d, .ref q_kept, .int v_images, .ref q_found, .ref q_aside, .int v_base, .int v_at, .int v_size, .int v_fault, .int v_opened, .int v_isSeen, .ref q_names, .ref q_seenKept, .ref q_movedKept, .int v_isKeeping, .int v_bubbleMany, .int v_bubbleMost, .int v_bubbleCell, .int v_bestShown, .ref q_traced, .int v_traceMany, .int v_who, .ref q_bitsOf, .ref q_sizeOf, .ref q_number, .ref q_lifted])), (q_d, .inl (c 0, 244, .inl v_d)), (q_names, .inl (c 0, 3, .inl v_names)), (q_seenKept, .inl (c 0, 2500, .inl v_seenKept))] H → va_D A [(q_this, .inr (12, [.ref q_d, .ref q_kept, .int v_images, .ref q_found, .ref q_aside, .int v_base, .int v_at, .int v_size, .int v_fault, .int v_opened, .int v_isSeen, .ref q_names, .ref q_seenKept, .ref q_movedKept, .int v_isKeeping, .int v_bubbleMany, .int v_bubbleMost, .int v_bubbleCell, .int v_bestShown, .ref q_traced, .int v_traceMany, .int v_who, .ref q_bitsOf, .ref q_sizeOf, .ref q_number, .ref q_lifted])), (q_d, .inl (c 0, 244, .inl v_d)), (q_names, .inl (c 0, 3, .inl v_names)), (q_seenKept, .inl (c 0, 2500, .inl v_seenKept))] → va_S A s.heap H locs → ∀ ls, lv_has ls 3 [(0, .ref q_this), (1, .int x1), (2, .int x2)] → f_X12_seen_L4 v_isKeeping v_d n x1 x2 v_base v_at v_size v_fault v_opened v_isSeen v_names v_seenKept = some (o_r, o_v_base, o_v_at, o_v_size, o_v_fault, o_v_opened, o_v_isSeen, o_v_names, o_v_seenKept) → W p l e (headSpec wsX12_seen rm_X12_seen).room s m [.ref q_this].toArray below meth co H locs 0 0 (gQI D [(q_this, .inr (12, [.ref q_d, .ref q_kept, .int v_images, .ref q_found, .ref q_aside, .int o_v_base, .int o_v_at, .int o_v_size, .int o_v_fault, .int o_v_opened, .int o_v_isSeen, .ref q_names, .ref q_seenKept, .ref q_movedKept, .int v_isKeeping, .int v_bubbleMany, .int v_bubbleMost, .int v_bubbleCell, .int v_bestShown, .ref q_traced, .int v_traceMany, .int v_who, .ref q_bitsOf, .ref q_sizeOf, .ref q_number, .ref q_lifted])), (q_d, .inl (c 0, 244, .inl v_d)), (q_names, .inl (c 0, 3, .inl o_v_names)), (q_seenKept, .inl (c 0, 2500, .inl o_v_seenKept))] o_r A below [.ref q_this] s) (F0 m 4 ls []) := by
    intro n
    induction n with
    | zero => intro x1 x2 v_base v_at v_size v_fault v_opened v_isSeen v_names v_seenKept H locs hP hD hS ls hl h; exact no_ok h
    | succ n ih =>
      intro x1 x2 v_base v_at v_size v_fault v_opened v_isSeen v_names v_seenKept H locs hP hD hS ls hl h
      rw [f_X12_seen_L4] at h
      refine lv_iload_n hx hb dX12_seen_4 rfl (lv_at hl 2 rfl) ?_
      refine lv_aload_n hx hb dX12_seen_5 rfl (lv_at hl 0 rfl) ?_
      replace h := kb_ok h
      obtain ⟨r_2, hc_1, h⟩ := h
      refine gCallIr (isC := [0, 1]) (wc := [(q_this, .inr (12, [.ref q_d, .ref q_kept, .int v_images, .ref q_found, .ref q_aside, .int v_base, .int v_at, .int v_size, .int v_fault, .int v_opened, .int v_isSeen, .ref q_names, .ref q_seenKept, .ref q_movedKept, .int v_isKeeping, .int v_bubbleMany, .int v_bubbleMost, .int v_bubbleCell, .int v_bestShown, .ref q_traced, .int v_traceMany, .int v_who, .ref q_bitsOf, .ref q_sizeOf, .ref q_number, .ref q_lifted])), (q_d, .inl (c 0, 244, .inl v_d))]) hP hD hS hA ⟨rfl, rfl, trivial⟩ (va_runV (rm := rm_X12_cells) (ws := wsX12_cells) (As := []) (rest := [.int x2]) (gFix hF) (c_X12_cells l D c q_this q_d q_kept q_found q_aside q_names q_seenKept q_movedKept q_traced q_bitsOf q_sizeOf q_number q_lifted v_images v_base v_at v_size v_fault v_opened v_isSeen v_isKeeping v_bubbleMany v_bubbleMost v_bubbleCell v_bestShown v_traceMany v_who v_d r_2 hc_1 H.size) (cwV 0 hts gX12_seen_X12_cells rfl rfl rfl (by decide +kernel) ⟨Nat.le_of_ble_eq_true rfl, Nat.le_of_ble_eq_true rfl⟩) (gPreV (wc := [(q_this, .inr (12, [.ref q_d, .ref q_kept, .int v_images, .ref q_found, .ref q_aside, .int v_base, .int v_at, .int v_size, .int v_fault, .int v_opened, .int v_isSeen, .ref q_names, .ref q_seenKept, .ref q_movedKept, .int v_isKeeping, .int v_bubbleMany, .int v_bubbleMost, .int v_bubbleCell, .int v_bestShown, .ref q_traced, .int v_traceMany, .int v_who, .ref q_bitsOf, .ref q_sizeOf, .ref q_number, .ref q_lifted])), (q_d, .inl (c 0, 244, .inl v_d))]) (q := (RX12, TX12, 26)) (ci := 12) (q0 := 0) (isC := [0, 1]) hK hX hS hA hP hD ⟨rfl, rfl, trivial⟩ (by decide +kernel) rfl rfl) rfl rfl hl.1 rfl (lv_room (Nat.le_of_ble_eq_true rfl)) dX12_seen_6 ⟨Nat.le_of_ble_eq_true rfl, Nat.le_of_ble_eq_true rfl⟩) (fun H locs hP hS => ?_)
      refine lv_icmp_ge (tgt := 26) hx hb dX12_seen_9 (by decide) (fun c_3 => ?_) (fun c_3 => ?_)
      · replace h := it_t c_3 h
        refine lv_iload_n hx hb dX12_seen_26 rfl (lv_at hl 1 rfl) ?_
        replace h := so9 h
        obtain ⟨z0, z1, z2, z3, z4, z5, z6, z7, z8⟩ := h
        subst z0 z1 z2 z3 z4 z5 z6 z7 z8
        exact gIret hF hP hD hS rfl dX12_seen_27
      · replace h := it_f c_3 h
        refine lv_iload_n hx hb dX12_seen_12 rfl (lv_at hl 1 rfl) ?_
        refine lv_aload_n hx hb dX12_seen_13 rfl (lv_at hl 0 rfl) ?_
        refine lv_iload_n hx hb dX12_seen_14 rfl (lv_at hl 2 rfl) ?_
        replace h := kb9_ok h
        obtain ⟨r_5, w_6, w_7, w_8, w_9, w_10, w_11, w_12, w_13, hc_4, h⟩ := h
        refine gCallI (isC := [0, 1, 2, 3]) (wc := [(q_this, .inr (12, [.ref q_d, .ref q_kept, .int v_images, .ref q_found, .ref q_aside, .int v_base, .int v_at, .int v_size, .int v_fault, .int v_opened, .int v_isSeen, .ref q_names, .ref q_seenKept, .ref q_movedKept, .int v_isKeeping, .int v_bubbleMany, .int v_bubbleMost, .int v_bubbleCell, .int v_bestShown, .ref q_traced, .int v_traceMany, .int v_who, .ref q_bitsOf, .ref q_sizeOf, .ref q_number, .ref q_lifted])), (q_d, .inl (c 0, 244, .inl v_d)), (q_names, .inl (c 0, 3, .inl v_names)), (q_seenKept, .inl (c 0, 2500, .inl v_seenKept))]) (w1 := [(q_this, .inr (12, [.ref q_d, .ref q_kept, .int v_images, .ref q_found, .ref q_aside, .int w_6, .int w_7, .int w_8, .int w_9, .int w_10, .int w_11, .ref q_names, .ref q_seenKept, .ref q_movedKept, .int v_isKeeping, .int v_bubbleMany, .int v_bubbleMost, .int v_bubbleCell, .int v_bestShown, .ref q_traced, .int v_traceMany, .int v_who, .ref q_bitsOf, .ref q_sizeOf, .ref q_number, .ref q_lifted])), (q_d, .inl (c 0, 244, .inl v_d)), (q_names, .inl (c 0, 3, .inl w_12)), (q_seenKept, .inl (c 0, 2500, .inl w_13))]) (ws2 := [(q_this, .inr (12, [.ref q_d, .ref q_kept, .int v_images, .ref q_found, .ref q_aside, .int w_6, .int w_7, .int w_8, .int w_9, .int w_10, .int w_11, .ref q_names, .ref q_seenKept, .ref q_movedKept, .int v_isKeeping, .int v_bubbleMany, .int v_bubbleMost, .int v_bubbleCell, .int v_bestShown, .ref q_traced, .int v_traceMany, .int v_who, .ref q_bitsOf, .ref q_sizeOf, .ref q_number, .ref q_lifted])), (q_d, .inl (c 0, 244, .inl v_d)), (q_names, .inl (c 0, 3, .inl w_12)), (q_seenKept, .inl (c 0, 2500, .inl w_13))]) (ms := [(some 0), (some 1), (some 2), (some 3)]) hP hD hS hA ⟨rfl, rfl, rfl, rfl, trivial⟩ (by decide +kernel) ⟨rfl, rfl, rfl, rfl, trivial⟩ (va_runV (rm := rm_X12_seenOf) (ws := wsX12_seenOf) (As := [.int x2]) (rest := [.int x1]) (gFix hF) (c_X12_seenOf l D c q_this q_d q_kept q_found q_aside q_names q_seenKept q_movedKept q_traced q_bitsOf q_sizeOf q_number q_lifted x2 v_images v_base v_at v_size v_fault v_opened v_isSeen v_isKeeping v_bubbleMany v_bubbleMost v_bubbleCell v_bestShown v_traceMany v_who v_d v_names v_seenKept r_5 w_6 w_7 w_8 w_9 w_10 w_11 w_12 w_13 hc_4 H.size) (cwV 1 hts gX12_seen_X12_seenOf rfl rfl rfl (by decide +kernel) ⟨Nat.le_of_ble_eq_true rfl, Nat.le_of_ble_eq_true rfl⟩) (gPreV (wc := [(q_this, .inr (12, [.ref q_d, .ref q_kept, .int v_images, .ref q_found, .ref q_aside, .int v_base, .int v_at, .int v_size, .int v_fault, .int v_opened, .int v_isSeen, .ref q_names, .ref q_seenKept, .ref q_movedKept, .int v_isKeeping, .int v_bubbleMany, .int v_bubbleMost, .int v_bubbleCell, .int v_bestShown, .ref q_traced, .int v_traceMany, .int v_who, .ref q_bitsOf, .ref q_sizeOf, .ref q_number, .ref q_lifted])), (q_d, .inl (c 0, 244, .inl v_d)), (q_names, .inl (c 0, 3, .inl v_names)), (q_seenKept, .inl (c 0, 2500, .inl v_seenKept))]) (q := (RX12, TX12, 26)) (ci := 12) (q0 := 0) (isC := [0, 1, 2, 3]) hK hX hS hA hP hD ⟨rfl, rfl, rfl, rfl, trivial⟩ (by decide +kernel) rfl rfl) rfl rfl hl.1 rfl (lv_room (Nat.le_of_ble_eq_true rfl)) dX12_seen_15 ⟨Nat.le_of_ble_eq_true rfl, Nat.le_of_ble_eq_true rfl⟩) (fun H locs hP hD hS => ?_)
        refine lv_iadd hx hb dX12_seen_18 ?_
        replace h := nm_ok h
        obtain ⟨t_14, et_14, h⟩ := h
        refine gTop et_14 ?_
        refine lv_istore_n (lv' := [(1, .int t_14), (0, .ref q_this), (2, .int x2)]) hx hb dX12_seen_19 rfl hl (by decide) rfl (fun ls hl => ?_)
        replace h := nm_ok h
        obtain ⟨t_15, et_15, h⟩ := h
        refine lv_iinc (v := t_15) (lv' := [(2, .int t_15), (1, .int t_14), (0, .ref q_this)]) hx hb dX12_seen_20 hl (k := 2) rfl (by rw [et_15]; rfl) (by decide) rfl (fun ls hl => ?_)
        refine lv_goto (tgt := 4) hx hb dX12_seen_23 (by decide) ?_
        exact ih t_14 t_15 w_6 w_7 w_8 w_9 w_10 w_11 w_12 w_13 H locs hP hD hS ls (lv_sub hl [2, 1, 0] rfl) h
  unfold f_X12_seen at h
  refine lv_iconst (v := 0) hx hb dX12_seen_0 (by decide) ?_
  refine lv_istore_n (lv' := [(1, .int 0), (0, .ref q_this)]) hx hb dX12_seen_1 rfl hl (by decide) rfl (fun ls hl => ?_)
  refine lv_iconst (v := 0) hx hb dX12_seen_2 (by decide) ?_
  refine lv_istore_n (lv' := [(2, .int 0), (1, .int 0), (0, .ref q_this)]) hx hb dX12_seen_3 rfl hl (by decide) rfl (fun ls hl => ?_)
  exact t_L4 gFuel 0 0 v_base v_at v_size v_fault v_opened v_isSeen v_names v_seenKept s.heap [] hP hD hS ls (lv_sub hl [2, 1, 0] rfl) h
set_option maxRecDepth 20000 in
theorem in_X12_goesOut_X12 : ∀ w ∈ u_ws RX12 TX12 26, w ∈ wsX12_goesOut := by decide +kernel
abbrev rm_X12_goesOut : Room := { frames := 0, cells := 0, slots := 0, locals := 0 }
set_option maxHeartbeats 4000000 in
set_option maxRecDepth 100000 in
theorem c_X12_goesOut (l : Launch) (D : va_G) (c : Nat → ClassId) (q_this q_d q_kept q_found q_aside q_names q_seenKept q_movedKept q_traced q_bitsOf q_sizeOf q_number q_lifted : Nat) (a_1 : Int32) (v_images : Int32) (v_base : Int32) (v_at : Int32) (v_size : Int32) (v_fault : Int32) (v_opened : Int32) (v_isSeen : Int32) (v_isKeeping : Int32) (v_bubbleMany : Int32) (v_bubbleMost : Int32) (v_bubbleCell : Int32) (v_bestShown : Int32) (v_traceMany : Int32) (v_who : Int32) (v_d : Nat → Int32) (o_v_d : Nat → Int32) (h : f_X12_goesOut a_1 v_d = some o_v_d) : gMV l yX12_goesOut wsX12_goesOut rm_X12_goesOut D c [.ref q_this, .int a_1] [(q_this, .inr (12, [.ref q_d, .ref q_kept, .int v_images, .ref q_found, .ref q_aside, .int v_base, .int v_at, .int v_size, .int v_fault, .int v_opened, .int v_isSeen, .ref q_names, .ref q_seenKept, .ref q_movedKept, .int v_isKeeping, .int v_bubbleMany, .int v_bubbleMost, .int v_bubbleCell, .int v_bestShown, .ref q_traced, .int v_traceMany, .int v_who, .ref q_bitsOf, .ref q_sizeOf, .ref q_number, .ref q_lifted])), (q_d, .inl (c 0, 244, .inl v_d))] [(q_this, .inr (12, [.ref q_d, .ref q_kept, .int v_images, .ref q_found, .ref q_aside, .int v_base, .int v_at, .int v_size, .int v_fault, .int v_opened, .int v_isSeen, .ref q_names, .ref q_seenKept, .ref q_movedKept, .int v_isKeeping, .int v_bubbleMany, .int v_bubbleMost, .int v_bubbleCell, .int v_bestShown, .ref q_traced, .int v_traceMany, .int v_who, .ref q_bitsOf, .ref q_sizeOf, .ref q_number, .ref q_lifted])), (q_d, .inl (c 0, 244, .inl o_v_d))] := by
  refine gMV_of (cc := cX12_goesOut) (maxL := 2) (rt := none) (by decide +kernel) rfl (Nat.le_of_ble_eq_true rfl) ?_
  intro p e s m below meth co A hF hK hX hP hD hA hS ls hl
  obtain ⟨hx, hb, hr, hts, hown, hlocks, hml⟩ := id hF
  have hl : lv_has ls 2 [(0, .ref q_this), (1, .int a_1)] := hl
  unfold f_X12_goesOut at h
  refine lv_aload_n hx hb dX12_goesOut_0 rfl (lv_at hl 0 rfl) ?_
  refine va_get (D := D) (ci := 12) (v := .ref q_d) (C := RX12) (T := TX12) (N := 26) hx hb hts in_X12_goesOut_X12 hown hK.1 hP 0 rfl rfl 0 (by decide) (hts (.fieldLink RX12 7 "PaperBubblesModel" "d" "[I") (List.mem_of_getElem? (i := 1) rfl)) (fun _ h9 => h9) rfl dX12_goesOut_1 ?_
  refine lv_iconst (v := 4) hx hb dX12_goesOut_4 (by decide) ?_
  refine lv_aload_n hx hb dX12_goesOut_5 rfl (lv_at hl 0 rfl) ?_
  refine va_get (D := D) (ci := 12) (v := .ref q_d) (C := RX12) (T := TX12) (N := 26) hx hb hts in_X12_goesOut_X12 hown hK.1 hP 0 rfl rfl 0 (by decide) (hts (.fieldLink RX12 7 "PaperBubblesModel" "d" "[I") (List.mem_of_getElem? (i := 1) rfl)) (fun _ h9 => h9) rfl dX12_goesOut_6 ?_
  refine lv_iconst (v := 4) hx hb dX12_goesOut_9 (by decide) ?_
  replace h := chi_ok h
  obtain ⟨hi_1, h⟩ := h
  refine va_iald hx hb hK.1 hP 1 0 rfl rfl hi_1 dX12_goesOut_10 ?_
  replace h := nm_ok h
  obtain ⟨t_2, et_2, h⟩ := h
  refine gTop et_2 ?_
  refine lv_iload_n hx hb dX12_goesOut_11 rfl (lv_at hl 1 rfl) ?_
  refine lv_iadd hx hb dX12_goesOut_12 ?_
  replace h := nm_ok h
  obtain ⟨t_3, et_3, h⟩ := h
  refine gTop et_3 ?_
  refine lv_ldc (v := 99999) hx hb hown (hts (.constant RX12 200 (99999)) (List.mem_of_getElem? (i := 2) rfl)) dX12_goesOut_13 ?_
  refine lv_icmp_le (tgt := 23) hx hb dX12_goesOut_15 (by decide) (fun c_4 => ?_) (fun c_4 => ?_)
  · replace h := it_t c_4 h
    refine lv_aload_n hx hb dX12_goesOut_23 rfl (lv_at hl 0 rfl) ?_
    refine va_get (D := D) (ci := 12) (v := .ref q_d) (C := RX12) (T := TX12) (N := 26) hx hb hts in_X12_goesOut_X12 hown hK.1 hP 0 rfl rfl 0 (by decide) (hts (.fieldLink RX12 7 "PaperBubblesModel" "d" "[I") (List.mem_of_getElem? (i := 1) rfl)) (fun _ h9 => h9) rfl dX12_goesOut_24 ?_
    refine lv_iconst (v := 4) hx hb dX12_goesOut_27 (by decide) ?_
    replace h := chi_ok h
    obtain ⟨hi_5, h⟩ := h
    refine va_iald hx hb hK.1 hP 1 0 rfl rfl hi_5 dX12_goesOut_28 ?_
    replace h := nm_ok h
    obtain ⟨t_6, et_6, h⟩ := h
    refine gTop et_6 ?_
    refine lv_iload_n hx hb dX12_goesOut_29 rfl (lv_at hl 1 rfl) ?_
    refine lv_iadd hx hb dX12_goesOut_30 ?_
    replace h := nm_ok h
    obtain ⟨t_7, et_7, h⟩ := h
    refine gTop et_7 ?_
    replace h := chi_ok h
    obtain ⟨hi_8, h⟩ := h
    replace h := nm_ok h
    obtain ⟨w_9, ew_9, h⟩ := h
    refine va_iast hx hb hK.1 hP hD hS 1 0 rfl rfl hi_8 dX12_goesOut_31 (fun H locs hP hD hS => ?_)
    have hP : va_P D gcl [(q_this, .inr (12, [.ref q_d, .ref q_kept, .int v_images, .ref q_found, .ref q_aside, .int v_base, .int v_at, .int v_size, .int v_fault, .int v_opened, .int v_isSeen, .ref q_names, .ref q_seenKept, .ref q_movedKept, .int v_isKeeping, .int v_bubbleMany, .int v_bubbleMost, .int v_bubbleCell, .int v_bestShown, .ref q_traced, .int v_traceMany, .int v_who, .ref q_bitsOf, .ref q_sizeOf, .ref q_number, .ref q_lifted])), (q_d, .inl (c 0, 244, .inl w_9))] H := by subst ew_9; exact hP
    have hD : va_D A [(q_this, .inr (12, [.ref q_d, .ref q_kept, .int v_images, .ref q_found, .ref q_aside, .int v_base, .int v_at, .int v_size, .int v_fault, .int v_opened, .int v_isSeen, .ref q_names, .ref q_seenKept, .ref q_movedKept, .int v_isKeeping, .int v_bubbleMany, .int v_bubbleMost, .int v_bubbleCell, .int v_bestShown, .ref q_traced, .int v_traceMany, .int v_who, .ref q_bitsOf, .ref q_sizeOf, .ref q_number, .ref q_lifted])), (q_d, .inl (c 0, 244, .inl w_9))] := by subst ew_9; exact hD
    replace h := so1 h
    subst h
    exact gVret hF hP hD hS dX12_goesOut_32
  · replace h := it_f c_4 h
    refine lv_ldc (v := 99999) hx hb hown (hts (.constant RX12 200 (99999)) (List.mem_of_getElem? (i := 2) rfl)) dX12_goesOut_18 ?_
    refine lv_goto (tgt := 31) hx hb dX12_goesOut_20 (by decide) ?_
    replace h := chi_ok h
    obtain ⟨hi_10, h⟩ := h
    replace h := nm_ok h
    obtain ⟨w_11, ew_11, h⟩ := h
    refine va_iast hx hb hK.1 hP hD hS 1 0 rfl rfl hi_10 dX12_goesOut_31 (fun H locs hP hD hS => ?_)
    have hP : va_P D gcl [(q_this, .inr (12, [.ref q_d, .ref q_kept, .int v_images, .ref q_found, .ref q_aside, .int v_base, .int v_at, .int v_size, .int v_fault, .int v_opened, .int v_isSeen, .ref q_names, .ref q_seenKept, .ref q_movedKept, .int v_isKeeping, .int v_bubbleMany, .int v_bubbleMost, .int v_bubbleCell, .int v_bestShown, .ref q_traced, .int v_traceMany, .int v_who, .ref q_bitsOf, .ref q_sizeOf, .ref q_number, .ref q_lifted])), (q_d, .inl (c 0, 244, .inl w_11))] H := by subst ew_11; exact hP
    have hD : va_D A [(q_this, .inr (12, [.ref q_d, .ref q_kept, .int v_images, .ref q_found, .ref q_aside, .int v_base, .int v_at, .int v_size, .int v_fault, .int v_opened, .int v_isSeen, .ref q_names, .ref q_seenKept, .ref q_movedKept, .int v_isKeeping, .int v_bubbleMany, .int v_bubbleMost, .int v_bubbleCell, .int v_bestShown, .ref q_traced, .int v_traceMany, .int v_who, .ref q_bitsOf, .ref q_sizeOf, .ref q_number, .ref q_lifted])), (q_d, .inl (c 0, 244, .inl w_11))] := by subst ew_11; exact hD
    replace h := so1 h
    subst h
    exact gVret hF hP hD hS dX12_goesOut_32
set_option maxRecDepth 20000 in
theorem in_X12_isOpen_X12 : ∀ w ∈ u_ws RX12 TX12 26, w ∈ wsX12_isOpen := by decide +kernel
abbrev rm_X12_isOpen : Room := { frames := 0, cells := 0, slots := 0, locals := 0 }
set_option maxHeartbeats 4000000 in
set_option maxRecDepth 100000 in
theorem c_X12_isOpen (l : Launch) (D : va_G) (c : Nat → ClassId) (q_this q_d q_kept q_found q_aside q_names q_seenKept q_movedKept q_traced q_bitsOf q_sizeOf q_number q_lifted : Nat) (a_1 : Int32) (v_images : Int32) (v_base : Int32) (v_at : Int32) (v_size : Int32) (v_fault : Int32) (v_opened : Int32) (v_isSeen : Int32) (v_isKeeping : Int32) (v_bubbleMany : Int32) (v_bubbleMost : Int32) (v_bubbleCell : Int32) (v_bestShown : Int32) (v_traceMany : Int32) (v_who : Int32) (v_d : Nat → Int32) (o_r : Int32) (h : f_X12_isOpen a_1 v_d = some o_r) : gMI l yX12_isOpen wsX12_isOpen rm_X12_isOpen D c [.ref q_this, .int a_1] [(q_this, .inr (12, [.ref q_d, .ref q_kept, .int v_images, .ref q_found, .ref q_aside, .int v_base, .int v_at, .int v_size, .int v_fault, .int v_opened, .int v_isSeen, .ref q_names, .ref q_seenKept, .ref q_movedKept, .int v_isKeeping, .int v_bubbleMany, .int v_bubbleMost, .int v_bubbleCell, .int v_bestShown, .ref q_traced, .int v_traceMany, .int v_who, .ref q_bitsOf, .ref q_sizeOf, .ref q_number, .ref q_lifted])), (q_d, .inl (c 0, 244, .inl v_d))] [(q_this, .inr (12, [.ref q_d, .ref q_kept, .int v_images, .ref q_found, .ref q_aside, .int v_base, .int v_at, .int v_size, .int v_fault, .int v_opened, .int v_isSeen, .ref q_names, .ref q_seenKept, .ref q_movedKept, .int v_isKeeping, .int v_bubbleMany, .int v_bubbleMost, .int v_bubbleCell, .int v_bestShown, .ref q_traced, .int v_traceMany, .int v_who, .ref q_bitsOf, .ref q_sizeOf, .ref q_number, .ref q_lifted])), (q_d, .inl (c 0, 244, .inl v_d))] o_r := by
  refine gMI_of (cc := cX12_isOpen) (maxL := 2) (rt := (some .boolean)) (by decide +kernel) rfl (Nat.le_of_ble_eq_true rfl) ?_
  intro p e s m below meth co A hF hK hX hP hD hA hS ls hl
  obtain ⟨hx, hb, hr, hts, hown, hlocks, hml⟩ := id hF
  have hl : lv_has ls 2 [(0, .ref q_this), (1, .int a_1)] := hl
  unfold f_X12_isOpen at h
  refine lv_aload_n hx hb dX12_isOpen_0 rfl (lv_at hl 0 rfl) ?_
  refine va_get (D := D) (ci := 12) (v := .ref q_d) (C := RX12) (T := TX12) (N := 26) hx hb hts in_X12_isOpen_X12 hown hK.1 hP 0 rfl rfl 0 (by decide) (hts (.fieldLink RX12 7 "PaperBubblesModel" "d" "[I") (List.mem_of_getElem? (i := 1) rfl)) (fun _ h9 => h9) rfl dX12_isOpen_1 ?_
  refine lv_bipush (v := 9) hx hb dX12_isOpen_4 (by decide) ?_
  replace h := chi_ok h
  obtain ⟨hi_1, h⟩ := h
  refine va_iald hx hb hK.1 hP 1 0 rfl rfl hi_1 dX12_isOpen_6 ?_
  replace h := nm_ok h
  obtain ⟨t_2, et_2, h⟩ := h
  refine gTop et_2 ?_
  refine lv_iload_n hx hb dX12_isOpen_7 rfl (lv_at hl 1 rfl) ?_
  refine lv_ishr hx hb dX12_isOpen_8 ?_
  replace h := nm_ok h
  obtain ⟨t_3, et_3, h⟩ := h
  refine gTop et_3 ?_
  refine lv_iconst (v := 1) hx hb dX12_isOpen_9 (by decide) ?_
  refine lv_iand hx hb dX12_isOpen_10 ?_
  replace h := nm_ok h
  obtain ⟨t_4, et_4, h⟩ := h
  refine gTop et_4 ?_
  refine lv_iconst (v := 1) hx hb dX12_isOpen_11 (by decide) ?_
  refine lv_icmp_ne (tgt := 19) hx hb dX12_isOpen_12 (by decide) (fun c_5 => ?_) (fun c_5 => ?_)
  · replace h := it_f c_5 h
    refine lv_iconst (v := 0) hx hb dX12_isOpen_19 (by decide) ?_
    replace h := so1 h
    subst h
    exact gIret hF hP hD hS rfl dX12_isOpen_20
  · replace h := it_t c_5 h
    refine lv_iconst (v := 1) hx hb dX12_isOpen_15 (by decide) ?_
    refine lv_goto (tgt := 20) hx hb dX12_isOpen_16 (by decide) ?_
    replace h := so1 h
    subst h
    exact gIret hF hP hD hS rfl dX12_isOpen_20
abbrev rm_X12_letsOf : Room := { frames := 1, cells := 0, slots := 0, locals := 21 }
set_option maxHeartbeats 4000000 in
set_option maxRecDepth 100000 in
theorem c_X12_letsOf (l : Launch) (D : va_G) (c : Nat → ClassId) (q_this q_d q_kept q_found q_aside q_names q_seenKept q_movedKept q_traced q_bitsOf q_sizeOf q_number q_lifted : Nat) (a_1 : Int32) (a_2 : Int32) (v_images : Int32) (v_base : Int32) (v_at : Int32) (v_size : Int32) (v_fault : Int32) (v_opened : Int32) (v_isSeen : Int32) (v_isKeeping : Int32) (v_bubbleMany : Int32) (v_bubbleMost : Int32) (v_bubbleCell : Int32) (v_bestShown : Int32) (v_traceMany : Int32) (v_who : Int32) (v_d : Nat → Int32) (o_r : Int32) (h : f_X12_letsOf a_1 a_2 v_d = some o_r) : gMI l yX12_letsOf wsX12_letsOf rm_X12_letsOf D c [.ref q_this, .int a_1, .int a_2] [(q_this, .inr (12, [.ref q_d, .ref q_kept, .int v_images, .ref q_found, .ref q_aside, .int v_base, .int v_at, .int v_size, .int v_fault, .int v_opened, .int v_isSeen, .ref q_names, .ref q_seenKept, .ref q_movedKept, .int v_isKeeping, .int v_bubbleMany, .int v_bubbleMost, .int v_bubbleCell, .int v_bestShown, .ref q_traced, .int v_traceMany, .int v_who, .ref q_bitsOf, .ref q_sizeOf, .ref q_number, .ref q_lifted])), (q_d, .inl (c 0, 244, .inl v_d))] [(q_this, .inr (12, [.ref q_d, .ref q_kept, .int v_images, .ref q_found, .ref q_aside, .int v_base, .int v_at, .int v_size, .int v_fault, .int v_opened, .int v_isSeen, .ref q_names, .ref q_seenKept, .ref q_movedKept, .int v_isKeeping, .int v_bubbleMany, .int v_bubbleMost, .int v_bubbleCell, .int v_bestShown, .ref q_traced, .int v_traceMany, .int v_who, .ref q_bitsOf, .ref q_sizeOf, .ref q_number, .ref q_lifted])), (q_d, .inl (c 0, 244, .inl v_d))] o_r := by
  refine gMI_of (cc := cX12_letsOf) (maxL := 4) (rt := (some .int)) (by decide +kernel) rfl (Nat.le_of_ble_eq_true rfl) ?_
  intro p e s m below meth co A hF hK hX hP hD hA hS ls hl
  obtain ⟨hx, hb, hr, hts, hown, hlocks, hml⟩ := id hF
  have hl : lv_has ls 4 [(0, .ref q_this), (1, .int a_1), (2, .int a_2)] := hl
  have t_L33 : ∀ (y0 : Int32) (H : Heap) (locs : List Loc), va_P D gcl [(q_this, .inr (12, [.ref q_d, .ref q_kept, .int v_images, .ref q_found, .ref q_aside, .int v_base, .int v_at, .int v_size, .int v_fault, .int v_opened, .int v_isSeen, .ref q_names, .ref q_seenKept, .ref q_movedKept, .int v_isKeeping, .int v_bubbleMany, .int v_bubbleMost, .int v_bubbleCell, .int v_bestShown, .ref q_traced, .int v_traceMany, .int v_who, .ref q_bitsOf, .ref q_sizeOf, .ref q_number, .ref q_lifted])), (q_d, .inl (c 0, 244, .inl v_d))] H → va_D A [(q_this, .inr (12, [.ref q_d, .ref q_kept, .int v_images, .ref q_found, .ref q_aside, .int v_base, .int v_at, .int v_size, .int v_fault, .int v_opened, .int v_isSeen, .ref q_names, .ref q_seenKept, .ref q_movedKept, .int v_isKeeping, .int v_bubbleMany, .int v_bubbleMost, .int v_bubbleCell, .int v_bestShown, .ref q_traced, .int v_traceMany, .int v_who, .ref q_bitsOf, .ref q_sizeOf, .ref q_number, .ref q_lifted])), (q_d, .inl (c 0, 244, .inl v_d))] → va_S A s.heap H locs → ∀ ls, lv_has ls 4 [(2, .int a_2)] → f_X12_letsOf_L33 a_2 y0 = some o_r → W p l e (headSpec wsX12_letsOf rm_X12_letsOf).room s m [.ref q_this, .int a_1, .int a_2].toArray below meth co H locs 0 0 (gQI D [(q_this, .inr (12, [.ref q_d, .ref q_kept, .int v_images, .ref q_found, .ref q_aside, .int v_base, .int v_at, .int v_size, .int v_fault, .int v_opened, .int v_isSeen, .ref q_names, .ref q_seenKept, .ref q_movedKept, .int v_isKeeping, .int v_bubbleMany, .int v_bubbleMost, .int v_bubbleCell, .int v_bestShown, .ref q_traced, .int v_traceMany, .int v_who, .ref q_bitsOf, .ref q_sizeOf, .ref q_number, .ref q_lifted])), (q_d, .inl (c 0, 244, .inl v_d))] o_r A below [.ref q_this, .int a_1, .int a_2] s) (F0 m 33 ls [.int y0]) := by
    intro  y0 H locs hP hD hS ls hl h
    unfold f_X12_letsOf_L33 at h
    refine lv_istore_n (lv' := [(3, .int y0), (2, .int a_2)]) hx hb dX12_letsOf_33 rfl hl (by decide) rfl (fun ls hl => ?_)
    refine lv_iload_n hx hb dX12_letsOf_34 rfl (lv_at hl 0 rfl) ?_
    refine lv_iload_n hx hb dX12_letsOf_35 rfl (lv_at hl 1 rfl) ?_
    refine lv_icmp_ge (tgt := 43) hx hb dX12_letsOf_36 (by decide) (fun c_10 => ?_) (fun c_10 => ?_)
    · replace h := it_t c_10 h
      refine lv_iload_n hx hb dX12_letsOf_43 rfl (lv_at hl 1 rfl) ?_
      replace h := so1 h
      subst h
      exact gIret hF hP hD hS rfl dX12_letsOf_44
    · replace h := it_f c_10 h
      refine lv_iload_n hx hb dX12_letsOf_39 rfl (lv_at hl 0 rfl) ?_
      refine lv_goto (tgt := 44) hx hb dX12_letsOf_40 (by decide) ?_
      replace h := so1 h
      subst h
      exact gIret hF hP hD hS rfl dX12_letsOf_44
  unfold f_X12_letsOf at h
  refine lv_aload_n hx hb dX12_letsOf_0 rfl (lv_at hl 0 rfl) ?_
  refine lv_iload_n hx hb dX12_letsOf_1 rfl (lv_at hl 1 rfl) ?_
  replace h := kb_ok h
  obtain ⟨r_2, hc_1, h⟩ := h
  refine gCallIr (isC := [0, 1]) (wc := [(q_this, .inr (12, [.ref q_d, .ref q_kept, .int v_images, .ref q_found, .ref q_aside, .int v_base, .int v_at, .int v_size, .int v_fault, .int v_opened, .int v_isSeen, .ref q_names, .ref q_seenKept, .ref q_movedKept, .int v_isKeeping, .int v_bubbleMany, .int v_bubbleMost, .int v_bubbleCell, .int v_bestShown, .ref q_traced, .int v_traceMany, .int v_who, .ref q_bitsOf, .ref q_sizeOf, .ref q_number, .ref q_lifted])), (q_d, .inl (c 0, 244, .inl v_d))]) hP hD hS hA ⟨rfl, rfl, trivial⟩ (va_runV (rm := rm_X12_kindOf) (ws := wsX12_kindOf) (As := [.int a_1]) (rest := []) (gFix hF) (c_X12_kindOf l D c q_this q_d q_kept q_found q_aside q_names q_seenKept q_movedKept q_traced q_bitsOf q_sizeOf q_number q_lifted a_1 v_images v_base v_at v_size v_fault v_opened v_isSeen v_isKeeping v_bubbleMany v_bubbleMost v_bubbleCell v_bestShown v_traceMany v_who v_d r_2 hc_1 s.heap.size) (cwV 1 hts gX12_letsOf_X12_kindOf rfl rfl rfl (by decide +kernel) ⟨Nat.le_of_ble_eq_true rfl, Nat.le_of_ble_eq_true rfl⟩) (gPreV (wc := [(q_this, .inr (12, [.ref q_d, .ref q_kept, .int v_images, .ref q_found, .ref q_aside, .int v_base, .int v_at, .int v_size, .int v_fault, .int v_opened, .int v_isSeen, .ref q_names, .ref q_seenKept, .ref q_movedKept, .int v_isKeeping, .int v_bubbleMany, .int v_bubbleMost, .int v_bubbleCell, .int v_bestShown, .ref q_traced, .int v_traceMany, .int v_who, .ref q_bitsOf, .ref q_sizeOf, .ref q_number, .ref q_lifted])), (q_d, .inl (c 0, 244, .inl v_d))]) (q := (RX12, TX12, 26)) (ci := 12) (q0 := 0) (isC := [0, 1]) hK hX hS hA hP hD ⟨rfl, rfl, trivial⟩ (by decide +kernel) rfl rfl) rfl rfl hl.1 rfl (lv_room (Nat.le_of_ble_eq_true rfl)) dX12_letsOf_2 ⟨Nat.le_of_ble_eq_true rfl, Nat.le_of_ble_eq_true rfl⟩) (fun H locs hP hS => ?_)
  refine lv_iconst (v := 2) hx hb dX12_letsOf_5 (by decide) ?_
  refine lv_icmp_ne (tgt := 19) hx hb dX12_letsOf_6 (by decide) (fun c_3 => ?_) (fun c_3 => ?_)
  · replace h := it_f c_3 h
    refine lv_aload_n hx hb dX12_letsOf_19 rfl (lv_at hl 0 rfl) ?_
    refine lv_iload_n hx hb dX12_letsOf_20 rfl (lv_at hl 1 rfl) ?_
    replace h := kb_ok h
    obtain ⟨r_5, hc_4, h⟩ := h
    refine gCallIr (isC := [0, 1]) (wc := [(q_this, .inr (12, [.ref q_d, .ref q_kept, .int v_images, .ref q_found, .ref q_aside, .int v_base, .int v_at, .int v_size, .int v_fault, .int v_opened, .int v_isSeen, .ref q_names, .ref q_seenKept, .ref q_movedKept, .int v_isKeeping, .int v_bubbleMany, .int v_bubbleMost, .int v_bubbleCell, .int v_bestShown, .ref q_traced, .int v_traceMany, .int v_who, .ref q_bitsOf, .ref q_sizeOf, .ref q_number, .ref q_lifted])), (q_d, .inl (c 0, 244, .inl v_d))]) hP hD hS hA ⟨rfl, rfl, trivial⟩ (va_runV (rm := rm_X12_kindOf) (ws := wsX12_kindOf) (As := [.int a_1]) (rest := []) (gFix hF) (c_X12_kindOf l D c q_this q_d q_kept q_found q_aside q_names q_seenKept q_movedKept q_traced q_bitsOf q_sizeOf q_number q_lifted a_1 v_images v_base v_at v_size v_fault v_opened v_isSeen v_isKeeping v_bubbleMany v_bubbleMost v_bubbleCell v_bestShown v_traceMany v_who v_d r_5 hc_4 H.size) (cwV 1 hts gX12_letsOf_X12_kindOf rfl rfl rfl (by decide +kernel) ⟨Nat.le_of_ble_eq_true rfl, Nat.le_of_ble_eq_true rfl⟩) (gPreV (wc := [(q_this, .inr (12, [.ref q_d, .ref q_kept, .int v_images, .ref q_found, .ref q_aside, .int v_base, .int v_at, .int v_size, .int v_fault, .int v_opened, .int v_isSeen, .ref q_names, .ref q_seenKept, .ref q_movedKept, .int v_isKeeping, .int v_bubbleMany, .int v_bubbleMost, .int v_bubbleCell, .int v_bestShown, .ref q_traced, .int v_traceMany, .int v_who, .ref q_bitsOf, .ref q_sizeOf, .ref q_number, .ref q_lifted])), (q_d, .inl (c 0, 244, .inl v_d))]) (q := (RX12, TX12, 26)) (ci := 12) (q0 := 0) (isC := [0, 1]) hK hX hS hA hP hD ⟨rfl, rfl, trivial⟩ (by decide +kernel) rfl rfl) rfl rfl hl.1 rfl (lv_room (Nat.le_of_ble_eq_true rfl)) dX12_letsOf_21 ⟨Nat.le_of_ble_eq_true rfl, Nat.le_of_ble_eq_true rfl⟩) (fun H locs hP hS => ?_)
    refine lv_iconst (v := 5) hx hb dX12_letsOf_24 (by decide) ?_
    refine lv_icmp_ne (tgt := 32) hx hb dX12_letsOf_25 (by decide) (fun c_6 => ?_) (fun c_6 => ?_)
    · replace h := it_f c_6 h
      refine lv_iconst (v := 0) hx hb dX12_letsOf_32 (by decide) ?_
      exact t_L33 0 H locs hP hD hS ls (lv_sub hl [2] rfl) h
    · replace h := it_t c_6 h
      refine lv_iload_n hx hb dX12_letsOf_28 rfl (lv_at hl 2 rfl) ?_
      refine lv_goto (tgt := 33) hx hb dX12_letsOf_29 (by decide) ?_
      exact t_L33 a_2 H locs hP hD hS ls (lv_sub hl [2] rfl) h
  · replace h := it_t c_3 h
    refine lv_aload_n hx hb dX12_letsOf_9 rfl (lv_at hl 0 rfl) ?_
    refine lv_iload_n hx hb dX12_letsOf_10 rfl (lv_at hl 1 rfl) ?_
    replace h := kb_ok h
    obtain ⟨r_8, hc_7, h⟩ := h
    refine gCallIr (isC := [0, 1]) (wc := [(q_this, .inr (12, [.ref q_d, .ref q_kept, .int v_images, .ref q_found, .ref q_aside, .int v_base, .int v_at, .int v_size, .int v_fault, .int v_opened, .int v_isSeen, .ref q_names, .ref q_seenKept, .ref q_movedKept, .int v_isKeeping, .int v_bubbleMany, .int v_bubbleMost, .int v_bubbleCell, .int v_bestShown, .ref q_traced, .int v_traceMany, .int v_who, .ref q_bitsOf, .ref q_sizeOf, .ref q_number, .ref q_lifted])), (q_d, .inl (c 0, 244, .inl v_d))]) hP hD hS hA ⟨rfl, rfl, trivial⟩ (va_runV (rm := rm_X12_numberOf) (ws := wsX12_numberOf) (As := [.int a_1]) (rest := []) (gFix hF) (c_X12_numberOf l D c q_this q_d q_kept q_found q_aside q_names q_seenKept q_movedKept q_traced q_bitsOf q_sizeOf q_number q_lifted a_1 v_images v_base v_at v_size v_fault v_opened v_isSeen v_isKeeping v_bubbleMany v_bubbleMost v_bubbleCell v_bestShown v_traceMany v_who v_d r_8 hc_7 H.size) (cwV 1 hts gX12_letsOf_X12_numberOf rfl rfl rfl (by decide +kernel) ⟨Nat.le_of_ble_eq_true rfl, Nat.le_of_ble_eq_true rfl⟩) (gPreV (wc := [(q_this, .inr (12, [.ref q_d, .ref q_kept, .int v_images, .ref q_found, .ref q_aside, .int v_base, .int v_at, .int v_size, .int v_fault, .int v_opened, .int v_isSeen, .ref q_names, .ref q_seenKept, .ref q_movedKept, .int v_isKeeping, .int v_bubbleMany, .int v_bubbleMost, .int v_bubbleCell, .int v_bestShown, .ref q_traced, .int v_traceMany, .int v_who, .ref q_bitsOf, .ref q_sizeOf, .ref q_number, .ref q_lifted])), (q_d, .inl (c 0, 244, .inl v_d))]) (q := (RX12, TX12, 26)) (ci := 12) (q0 := 0) (isC := [0, 1]) hK hX hS hA hP hD ⟨rfl, rfl, trivial⟩ (by decide +kernel) rfl rfl) rfl rfl hl.1 rfl (lv_room (Nat.le_of_ble_eq_true rfl)) dX12_letsOf_11 ⟨Nat.le_of_ble_eq_true rfl, Nat.le_of_ble_eq_true rfl⟩) (fun H locs hP hS => ?_)
    refine lv_iconst (v := 1) hx hb dX12_letsOf_14 (by decide) ?_
    refine lv_iadd hx hb dX12_letsOf_15 ?_
    replace h := nm_ok h
    obtain ⟨t_9, et_9, h⟩ := h
    refine gTop et_9 ?_
    refine lv_goto (tgt := 33) hx hb dX12_letsOf_16 (by decide) ?_
    exact t_L33 t_9 H locs hP hD hS ls (lv_sub hl [2] rfl) h
set_option maxRecDepth 20000 in
theorem in_X12_movedOf_X12 : ∀ w ∈ u_ws RX12 TX12 26, w ∈ wsX12_movedOf := by decide +kernel
abbrev rm_X12_movedOf : Room := { frames := 56, cells := 0, slots := 0, locals := 1282 }
set_option maxHeartbeats 4000000 in
set_option maxRecDepth 100000 in
theorem c_X12_movedOf (l : Launch) (D : va_G) (c : Nat → ClassId) (q_this q_d q_kept q_found q_aside q_names q_seenKept q_movedKept q_traced q_bitsOf q_sizeOf q_number q_lifted : Nat) (a_1 : Int32) (a_2 : Int32) (a_3 : Int32) (v_images : Int32) (v_base : Int32) (v_at : Int32) (v_size : Int32) (v_fault : Int32) (v_opened : Int32) (v_isSeen : Int32) (v_isKeeping : Int32) (v_bubbleMany : Int32) (v_bubbleMost : Int32) (v_bubbleCell : Int32) (v_bestShown : Int32) (v_traceMany : Int32) (v_who : Int32) (v_d : Nat → Int32) (v_movedKept : Nat → Int32) (v_names : Nat → Int32) (o_r : Int32) (o_v_base : Int32) (o_v_at : Int32) (o_v_size : Int32) (o_v_fault : Int32) (o_v_opened : Int32) (o_v_isSeen : Int32) (o_v_movedKept : Nat → Int32) (o_v_names : Nat → Int32) (h : f_X12_movedOf a_1 a_2 a_3 v_base v_at v_size v_fault v_opened v_isSeen v_isKeeping v_d v_movedKept v_names = some (o_r, o_v_base, o_v_at, o_v_size, o_v_fault, o_v_opened, o_v_isSeen, o_v_movedKept, o_v_names)) : gMI l yX12_movedOf wsX12_movedOf rm_X12_movedOf D c [.ref q_this, .int a_1, .int a_2, .int a_3] [(q_this, .inr (12, [.ref q_d, .ref q_kept, .int v_images, .ref q_found, .ref q_aside, .int v_base, .int v_at, .int v_size, .int v_fault, .int v_opened, .int v_isSeen, .ref q_names, .ref q_seenKept, .ref q_movedKept, .int v_isKeeping, .int v_bubbleMany, .int v_bubbleMost, .int v_bubbleCell, .int v_bestShown, .ref q_traced, .int v_traceMany, .int v_who, .ref q_bitsOf, .ref q_sizeOf, .ref q_number, .ref q_lifted])), (q_d, .inl (c 0, 244, .inl v_d)), (q_movedKept, .inl (c 0, 1000, .inl v_movedKept)), (q_names, .inl (c 0, 3, .inl v_names))] [(q_this, .inr (12, [.ref q_d, .ref q_kept, .int v_images, .ref q_found, .ref q_aside, .int o_v_base, .int o_v_at, .int o_v_size, .int o_v_fault, .int o_v_opened, .int o_v_isSeen, .ref q_names, .ref q_seenKept, .ref q_movedKept, .int v_isKeeping, .int v_bubbleMany, .int v_bubbleMost, .int v_bubbleCell, .int v_bestShown, .ref q_traced, .int v_traceMany, .int v_who, .ref q_bitsOf, .ref q_sizeOf, .ref q_number, .ref q_lifted])), (q_d, .inl (c 0, 244, .inl v_d)), (q_movedKept, .inl (c 0, 1000, .inl o_v_movedKept)), (q_names, .inl (c 0, 3, .inl o_v_names))] o_r := by
  refine gMI_of (cc := cX12_movedOf) (maxL := 6) (rt := (some .int)) (by decide +kernel) rfl (Nat.le_of_ble_eq_true rfl) ?_
  intro p e s m below meth co A hF hK hX hP hD hA hS ls hl
  obtain ⟨hx, hb, hr, hts, hown, hlocks, hml⟩ := id hF
  have hl : lv_has ls 6 [(0, .ref q_this), (1, .int a_1), (2, .int a_2), (3, .int a_3)] := hl
  have t_L33 : ∀ (x4 : Int32) (v_base : Int32) (v_at : Int32) (v_size : Int32) (v_fault : Int32) (v_opened : Int32) (v_isSeen : Int32) (v_movedKept : Nat → Int32) (v_names : Nat → Int32) (H : Heap) (locs : List Loc), va_P D gcl [(q_this, .inr (12, [.ref q_d, .ref q_kept, .int v_images, .ref q_found, .ref q_aside, .int v_base, .int v_at, .int v_size, .int v_fault, .int v_opened, .int v_isSeen, .ref q_names, .ref q_seenKept, .ref q_movedKept, .int v_isKeeping, .int v_bubbleMany, .int v_bubbleMost, .int v_bubbleCell, .int v_bestShown, .ref q_traced, .int v_traceMany, .int v_who, .ref q_bitsOf, .ref q_sizeOf, .ref q_number, .ref q_lifted])), (q_d, .inl (c 0, 244, .inl v_d)), (q_movedKept, .inl (c 0, 1000, .inl v_movedKept)), (q_names, .inl (c 0, 3, .inl v_names))] H → va_D A [(q_this, .inr (12, [.ref q_d, .ref q_kept, .int v_images, .ref q_found, .ref q_aside, .int v_base, .int v_at, .int v_size, .int v_fault, .int v_opened, .int v_isSeen, .ref q_names, .ref q_seenKept, .ref q_movedKept, .int v_isKeeping, .int v_bubbleMany, .int v_bubbleMost, .int v_bubbleCell, .int v_bestShown, .ref q_traced, .int v_traceMany, .int v_who, .ref q_bitsOf, .ref q_sizeOf, .ref q_number, .ref q_lifted])), (q_d, .inl (c 0, 244, .inl v_d)), (q_movedKept, .inl (c 0, 1000, .inl v_movedKept)), (q_names, .inl (c 0, 3, .inl v_names))] → va_S A s.heap H locs → ∀ ls, lv_has ls 6 [(0, .ref q_this), (1, .int a_1), (2, .int a_2), (3, .int a_3), (4, .int x4)] → f_X12_movedOf_L33 a_1 a_2 a_3 v_d x4 v_base v_at v_size v_fault v_opened v_isSeen v_movedKept v_names = some (o_r, o_v_base, o_v_at, o_v_size, o_v_fault, o_v_opened, o_v_isSeen, o_v_movedKept, o_v_names) → W p l e (headSpec wsX12_movedOf rm_X12_movedOf).room s m [.ref q_this, .int a_1, .int a_2, .int a_3].toArray below meth co H locs 0 0 (gQI D [(q_this, .inr (12, [.ref q_d, .ref q_kept, .int v_images, .ref q_found, .ref q_aside, .int o_v_base, .int o_v_at, .int o_v_size, .int o_v_fault, .int o_v_opened, .int o_v_isSeen, .ref q_names, .ref q_seenKept, .ref q_movedKept, .int v_isKeeping, .int v_bubbleMany, .int v_bubbleMost, .int v_bubbleCell, .int v_bestShown, .ref q_traced, .int v_traceMany, .int v_who, .ref q_bitsOf, .ref q_sizeOf, .ref q_number, .ref q_lifted])), (q_d, .inl (c 0, 244, .inl v_d)), (q_movedKept, .inl (c 0, 1000, .inl o_v_movedKept)), (q_names, .inl (c 0, 3, .inl o_v_names))] o_r A below [.ref q_this, .int a_1, .int a_2, .int a_3] s) (F0 m 33 ls []) := by
    intro  x4 v_base v_at v_size v_fault v_opened v_isSeen v_movedKept v_names H locs hP hD hS ls hl h
    unfold f_X12_movedOf_L33 at h
    refine lv_aload_n hx hb dX12_movedOf_33 rfl (lv_at hl 0 rfl) ?_
    refine lv_iconst (v := 0) hx hb dX12_movedOf_34 (by decide) ?_
    refine lv_iload_n hx hb dX12_movedOf_35 rfl (lv_at hl 2 rfl) ?_
    refine lv_iload_n hx hb dX12_movedOf_36 rfl (lv_at hl 3 rfl) ?_
    refine lv_aload_n hx hb dX12_movedOf_37 rfl (lv_at hl 0 rfl) ?_
    refine lv_iload_n hx hb dX12_movedOf_38 rfl (lv_at hl 1 rfl) ?_
    replace h := kb_ok h
    obtain ⟨r_8, hc_7, h⟩ := h
    refine gCallIr (isC := [0, 1]) (wc := [(q_this, .inr (12, [.ref q_d, .ref q_kept, .int v_images, .ref q_found, .ref q_aside, .int v_base, .int v_at, .int v_size, .int v_fault, .int v_opened, .int v_isSeen, .ref q_names, .ref q_seenKept, .ref q_movedKept, .int v_isKeeping, .int v_bubbleMany, .int v_bubbleMost, .int v_bubbleCell, .int v_bestShown, .ref q_traced, .int v_traceMany, .int v_who, .ref q_bitsOf, .ref q_sizeOf, .ref q_number, .ref q_lifted])), (q_d, .inl (c 0, 244, .inl v_d))]) hP hD hS hA ⟨rfl, rfl, trivial⟩ (va_runV (rm := rm_X12_numberOf) (ws := wsX12_numberOf) (As := [.int a_1]) (rest := [.int a_3, .int a_2, .int 0, .ref q_this]) (gFix hF) (c_X12_numberOf l D c q_this q_d q_kept q_found q_aside q_names q_seenKept q_movedKept q_traced q_bitsOf q_sizeOf q_number q_lifted a_1 v_images v_base v_at v_size v_fault v_opened v_isSeen v_isKeeping v_bubbleMany v_bubbleMost v_bubbleCell v_bestShown v_traceMany v_who v_d r_8 hc_7 H.size) (cwV 1 hts gX12_movedOf_X12_numberOf rfl rfl rfl (by decide +kernel) ⟨Nat.le_of_ble_eq_true rfl, Nat.le_of_ble_eq_true rfl⟩) (gPreV (wc := [(q_this, .inr (12, [.ref q_d, .ref q_kept, .int v_images, .ref q_found, .ref q_aside, .int v_base, .int v_at, .int v_size, .int v_fault, .int v_opened, .int v_isSeen, .ref q_names, .ref q_seenKept, .ref q_movedKept, .int v_isKeeping, .int v_bubbleMany, .int v_bubbleMost, .int v_bubbleCell, .int v_bestShown, .ref q_traced, .int v_traceMany, .int v_who, .ref q_bitsOf, .ref q_sizeOf, .ref q_number, .ref q_lifted])), (q_d, .inl (c 0, 244, .inl v_d))]) (q := (RX12, TX12, 26)) (ci := 12) (q0 := 0) (isC := [0, 1]) hK hX hS hA hP hD ⟨rfl, rfl, trivial⟩ (by decide +kernel) rfl rfl) rfl rfl hl.1 rfl (lv_room (Nat.le_of_ble_eq_true rfl)) dX12_movedOf_39 ⟨Nat.le_of_ble_eq_true rfl, Nat.le_of_ble_eq_true rfl⟩) (fun H locs hP hS => ?_)
    replace h := kb8_ok h
    obtain ⟨r_10, w_11, w_12, w_13, w_14, w_15, w_16, w_17, hc_9, h⟩ := h
    refine gCallI (isC := [0, 1, 3]) (wc := [(q_this, .inr (12, [.ref q_d, .ref q_kept, .int v_images, .ref q_found, .ref q_aside, .int v_base, .int v_at, .int v_size, .int v_fault, .int v_opened, .int v_isSeen, .ref q_names, .ref q_seenKept, .ref q_movedKept, .int v_isKeeping, .int v_bubbleMany, .int v_bubbleMost, .int v_bubbleCell, .int v_bestShown, .ref q_traced, .int v_traceMany, .int v_who, .ref q_bitsOf, .ref q_sizeOf, .ref q_number, .ref q_lifted])), (q_d, .inl (c 0, 244, .inl v_d)), (q_names, .inl (c 0, 3, .inl v_names))]) (w1 := [(q_this, .inr (12, [.ref q_d, .ref q_kept, .int v_images, .ref q_found, .ref q_aside, .int w_11, .int w_12, .int w_13, .int w_14, .int w_15, .int w_16, .ref q_names, .ref q_seenKept, .ref q_movedKept, .int v_isKeeping, .int v_bubbleMany, .int v_bubbleMost, .int v_bubbleCell, .int v_bestShown, .ref q_traced, .int v_traceMany, .int v_who, .ref q_bitsOf, .ref q_sizeOf, .ref q_number, .ref q_lifted])), (q_d, .inl (c 0, 244, .inl v_d)), (q_names, .inl (c 0, 3, .inl w_17))]) (ws2 := [(q_this, .inr (12, [.ref q_d, .ref q_kept, .int v_images, .ref q_found, .ref q_aside, .int w_11, .int w_12, .int w_13, .int w_14, .int w_15, .int w_16, .ref q_names, .ref q_seenKept, .ref q_movedKept, .int v_isKeeping, .int v_bubbleMany, .int v_bubbleMost, .int v_bubbleCell, .int v_bestShown, .ref q_traced, .int v_traceMany, .int v_who, .ref q_bitsOf, .ref q_sizeOf, .ref q_number, .ref q_lifted])), (q_d, .inl (c 0, 244, .inl v_d)), (q_movedKept, .inl (c 0, 1000, .inl v_movedKept)), (q_names, .inl (c 0, 3, .inl w_17))]) (ms := [(some 0), (some 1), none, (some 2)]) hP hD hS hA ⟨rfl, rfl, rfl, trivial⟩ (by decide +kernel) ⟨rfl, rfl, rfl, rfl, trivial⟩ (va_runV (rm := rm_X12_textGives) (ws := wsX12_textGives) (As := [.int 0, .int a_2, .int a_3, .int r_8]) (rest := []) (gFix hF) (c_X12_textGives l D c q_this q_d q_kept q_found q_aside q_names q_seenKept q_movedKept q_traced q_bitsOf q_sizeOf q_number q_lifted 0 a_2 a_3 r_8 v_images v_base v_at v_size v_fault v_opened v_isSeen v_isKeeping v_bubbleMany v_bubbleMost v_bubbleCell v_bestShown v_traceMany v_who v_d v_names r_10 w_11 w_12 w_13 w_14 w_15 w_16 w_17 hc_9 H.size) (cwV 4 hts gX12_movedOf_X12_textGives rfl rfl rfl (by decide +kernel) ⟨Nat.le_of_ble_eq_true rfl, Nat.le_of_ble_eq_true rfl⟩) (gPreV (wc := [(q_this, .inr (12, [.ref q_d, .ref q_kept, .int v_images, .ref q_found, .ref q_aside, .int v_base, .int v_at, .int v_size, .int v_fault, .int v_opened, .int v_isSeen, .ref q_names, .ref q_seenKept, .ref q_movedKept, .int v_isKeeping, .int v_bubbleMany, .int v_bubbleMost, .int v_bubbleCell, .int v_bestShown, .ref q_traced, .int v_traceMany, .int v_who, .ref q_bitsOf, .ref q_sizeOf, .ref q_number, .ref q_lifted])), (q_d, .inl (c 0, 244, .inl v_d)), (q_names, .inl (c 0, 3, .inl v_names))]) (q := (RX12, TX12, 26)) (ci := 12) (q0 := 0) (isC := [0, 1, 3]) hK hX hS hA hP hD ⟨rfl, rfl, rfl, trivial⟩ (by decide +kernel) rfl rfl) rfl rfl hl.1 rfl (lv_room (Nat.le_of_ble_eq_true rfl)) dX12_movedOf_42 ⟨Nat.le_of_ble_eq_true rfl, Nat.le_of_ble_eq_true rfl⟩) (fun H locs hP hD hS => ?_)
    refine lv_istore (lv' := [(5, .int r_10), (0, .ref q_this), (1, .int a_1), (2, .int a_2), (3, .int a_3), (4, .int x4)]) hx hb dX12_movedOf_45 hl (by decide) rfl (fun ls hl => ?_)
    refine lv_aload_n hx hb dX12_movedOf_47 rfl (lv_at hl 1 rfl) ?_
    refine va_get (D := D) (ci := 12) (v := .ref q_movedKept) (C := RX12) (T := TX12) (N := 26) hx hb hts in_X12_movedOf_X12 hown hK.1 hP 0 rfl rfl 13 (by decide) (hts (.fieldLink RX12 28 "PaperBubblesModel" "movedKept" "[I") (List.mem_of_getElem? (i := 2) rfl)) (fun _ h9 => h9) rfl dX12_movedOf_48 ?_
    refine lv_iload hx hb dX12_movedOf_51 (lv_at hl 5 rfl) ?_
    refine lv_iload hx hb dX12_movedOf_53 (lv_at hl 0 rfl) ?_
    replace h := chi_ok h
    obtain ⟨hi_18, h⟩ := h
    replace h := nm_ok h
    obtain ⟨w_19, ew_19, h⟩ := h
    refine va_iast hx hb hK.1 hP hD hS 2 0 rfl rfl hi_18 dX12_movedOf_55 (fun H locs hP hD hS => ?_)
    have hP : va_P D gcl [(q_this, .inr (12, [.ref q_d, .ref q_kept, .int v_images, .ref q_found, .ref q_aside, .int w_11, .int w_12, .int w_13, .int w_14, .int w_15, .int w_16, .ref q_names, .ref q_seenKept, .ref q_movedKept, .int v_isKeeping, .int v_bubbleMany, .int v_bubbleMost, .int v_bubbleCell, .int v_bestShown, .ref q_traced, .int v_traceMany, .int v_who, .ref q_bitsOf, .ref q_sizeOf, .ref q_number, .ref q_lifted])), (q_d, .inl (c 0, 244, .inl v_d)), (q_movedKept, .inl (c 0, 1000, .inl w_19)), (q_names, .inl (c 0, 3, .inl w_17))] H := by subst ew_19; exact hP
    have hD : va_D A [(q_this, .inr (12, [.ref q_d, .ref q_kept, .int v_images, .ref q_found, .ref q_aside, .int w_11, .int w_12, .int w_13, .int w_14, .int w_15, .int w_16, .ref q_names, .ref q_seenKept, .ref q_movedKept, .int v_isKeeping, .int v_bubbleMany, .int v_bubbleMost, .int v_bubbleCell, .int v_bestShown, .ref q_traced, .int v_traceMany, .int v_who, .ref q_bitsOf, .ref q_sizeOf, .ref q_number, .ref q_lifted])), (q_d, .inl (c 0, 244, .inl v_d)), (q_movedKept, .inl (c 0, 1000, .inl w_19)), (q_names, .inl (c 0, 3, .inl w_17))] := by subst ew_19; exact hD
    refine lv_iload hx hb dX12_movedOf_56 (lv_at hl 0 rfl) ?_
    replace h := so9 h
    obtain ⟨z0, z1, z2, z3, z4, z5, z6, z7, z8⟩ := h
    subst z0 z1 z2 z3 z4 z5 z6 z7 z8
    exact gIret hF hP hD hS rfl dX12_movedOf_58
  unfold f_X12_movedOf at h
  refine lv_bipush (v := 10) hx hb dX12_movedOf_0 (by decide) ?_
  refine lv_iload_n hx hb dX12_movedOf_2 rfl (lv_at hl 2 rfl) ?_
  refine lv_imul hx hb dX12_movedOf_3 ?_
  replace h := nm_ok h
  obtain ⟨t_1, et_1, h⟩ := h
  refine gTop et_1 ?_
  refine lv_iload_n hx hb dX12_movedOf_4 rfl (lv_at hl 3 rfl) ?_
  refine lv_iadd hx hb dX12_movedOf_5 ?_
  replace h := nm_ok h
  obtain ⟨t_2, et_2, h⟩ := h
  refine gTop et_2 ?_
  refine lv_istore (lv' := [(4, .int t_2), (0, .ref q_this), (1, .int a_1), (2, .int a_2), (3, .int a_3)]) hx hb dX12_movedOf_6 hl (by decide) rfl (fun ls hl => ?_)
  refine lv_aload_n hx hb dX12_movedOf_8 rfl (lv_at hl 1 rfl) ?_
  refine va_get (D := D) (ci := 12) (v := .int v_isKeeping) (C := RX12) (T := TX12) (N := 26) hx hb hts in_X12_movedOf_X12 hown hK.1 hP 0 rfl rfl 14 (by decide) (hts (.fieldLink RX12 144 "PaperBubblesModel" "isKeeping" "Z") (List.mem_of_getElem? (i := 1) rfl)) (fun _ h9 => h9) rfl dX12_movedOf_9 ?_
  refine lv_if_eq (tgt := 33) hx hb dX12_movedOf_12 (by decide) (fun c_3 => ?_) (fun c_3 => ?_)
  · replace h := it_t c_3 h
    exact t_L33 t_2 v_base v_at v_size v_fault v_opened v_isSeen v_movedKept v_names s.heap [] hP hD hS ls (lv_sub hl [1, 2, 3, 4, 0] rfl) h
  · replace h := it_f c_3 h
    refine lv_aload_n hx hb dX12_movedOf_15 rfl (lv_at hl 1 rfl) ?_
    refine va_get (D := D) (ci := 12) (v := .ref q_movedKept) (C := RX12) (T := TX12) (N := 26) hx hb hts in_X12_movedOf_X12 hown hK.1 hP 0 rfl rfl 13 (by decide) (hts (.fieldLink RX12 28 "PaperBubblesModel" "movedKept" "[I") (List.mem_of_getElem? (i := 2) rfl)) (fun _ h9 => h9) rfl dX12_movedOf_16 ?_
    refine lv_iload hx hb dX12_movedOf_19 (lv_at hl 0 rfl) ?_
    replace h := chi_ok h
    obtain ⟨hi_4, h⟩ := h
    refine va_iald hx hb hK.1 hP 2 0 rfl rfl hi_4 dX12_movedOf_21 ?_
    refine lv_if_lt (tgt := 33) hx hb dX12_movedOf_22 (by decide) (fun c_5 => ?_) (fun c_5 => ?_)
    · replace h := it_t c_5 h
      exact t_L33 t_2 v_base v_at v_size v_fault v_opened v_isSeen v_movedKept v_names s.heap [] hP hD hS ls (lv_sub hl [1, 2, 3, 4, 0] rfl) h
    · replace h := it_f c_5 h
      refine lv_aload_n hx hb dX12_movedOf_25 rfl (lv_at hl 1 rfl) ?_
      refine va_get (D := D) (ci := 12) (v := .ref q_movedKept) (C := RX12) (T := TX12) (N := 26) hx hb hts in_X12_movedOf_X12 hown hK.1 hP 0 rfl rfl 13 (by decide) (hts (.fieldLink RX12 28 "PaperBubblesModel" "movedKept" "[I") (List.mem_of_getElem? (i := 2) rfl)) (fun _ h9 => h9) rfl dX12_movedOf_26 ?_
      refine lv_iload hx hb dX12_movedOf_29 (lv_at hl 0 rfl) ?_
      replace h := chi_ok h
      obtain ⟨hi_6, h⟩ := h
      refine va_iald hx hb hK.1 hP 2 0 rfl rfl hi_6 dX12_movedOf_31 ?_
      replace h := so9 h
      obtain ⟨z0, z1, z2, z3, z4, z5, z6, z7, z8⟩ := h
      subst z0 z1 z2 z3 z4 z5 z6 z7 z8
      exact gIret hF hP hD hS rfl dX12_movedOf_32
abbrev rm_X12_movesOf : Room := { frames := 57, cells := 0, slots := 0, locals := 1307 }
set_option maxHeartbeats 4000000 in
set_option maxRecDepth 100000 in
theorem c_X12_movesOf (l : Launch) (D : va_G) (c : Nat → ClassId) (q_this q_d q_kept q_found q_aside q_names q_seenKept q_movedKept q_traced q_bitsOf q_sizeOf q_number q_lifted : Nat) (a_1 : Int32) (a_2 : Int32) (a_3 : Int32) (v_images : Int32) (v_base : Int32) (v_at : Int32) (v_size : Int32) (v_fault : Int32) (v_opened : Int32) (v_isSeen : Int32) (v_isKeeping : Int32) (v_bubbleMany : Int32) (v_bubbleMost : Int32) (v_bubbleCell : Int32) (v_bestShown : Int32) (v_traceMany : Int32) (v_who : Int32) (v_d : Nat → Int32) (v_movedKept : Nat → Int32) (v_names : Nat → Int32) (o_r : Int32) (o_v_base : Int32) (o_v_at : Int32) (o_v_size : Int32) (o_v_fault : Int32) (o_v_opened : Int32) (o_v_isSeen : Int32) (o_v_movedKept : Nat → Int32) (o_v_names : Nat → Int32) (h : f_X12_movesOf a_1 a_2 a_3 v_base v_at v_size v_fault v_opened v_isSeen v_isKeeping v_d v_movedKept v_names = some (o_r, o_v_base, o_v_at, o_v_size, o_v_fault, o_v_opened, o_v_isSeen, o_v_movedKept, o_v_names)) : gMI l yX12_movesOf wsX12_movesOf rm_X12_movesOf D c [.ref q_this, .int a_1, .int a_2, .int a_3] [(q_this, .inr (12, [.ref q_d, .ref q_kept, .int v_images, .ref q_found, .ref q_aside, .int v_base, .int v_at, .int v_size, .int v_fault, .int v_opened, .int v_isSeen, .ref q_names, .ref q_seenKept, .ref q_movedKept, .int v_isKeeping, .int v_bubbleMany, .int v_bubbleMost, .int v_bubbleCell, .int v_bestShown, .ref q_traced, .int v_traceMany, .int v_who, .ref q_bitsOf, .ref q_sizeOf, .ref q_number, .ref q_lifted])), (q_d, .inl (c 0, 244, .inl v_d)), (q_movedKept, .inl (c 0, 1000, .inl v_movedKept)), (q_names, .inl (c 0, 3, .inl v_names))] [(q_this, .inr (12, [.ref q_d, .ref q_kept, .int v_images, .ref q_found, .ref q_aside, .int o_v_base, .int o_v_at, .int o_v_size, .int o_v_fault, .int o_v_opened, .int o_v_isSeen, .ref q_names, .ref q_seenKept, .ref q_movedKept, .int v_isKeeping, .int v_bubbleMany, .int v_bubbleMost, .int v_bubbleCell, .int v_bestShown, .ref q_traced, .int v_traceMany, .int v_who, .ref q_bitsOf, .ref q_sizeOf, .ref q_number, .ref q_lifted])), (q_d, .inl (c 0, 244, .inl v_d)), (q_movedKept, .inl (c 0, 1000, .inl o_v_movedKept)), (q_names, .inl (c 0, 3, .inl o_v_names))] o_r := by
  refine gMI_of (cc := cX12_movesOf) (maxL := 6) (rt := (some .int)) (by decide +kernel) rfl (Nat.le_of_ble_eq_true rfl) ?_
  intro p e s m below meth co A hF hK hX hP hD hA hS ls hl
  obtain ⟨hx, hb, hr, hts, hown, hlocks, hml⟩ := id hF
  have hl : lv_has ls 6 [(0, .ref q_this), (1, .int a_1), (2, .int a_2), (3, .int a_3)] := hl
  have t_L108 : ∀ (x5 : Int32) (v_base : Int32) (v_at : Int32) (v_size : Int32) (v_fault : Int32) (v_opened : Int32) (v_isSeen : Int32) (v_movedKept : Nat → Int32) (v_names : Nat → Int32) (H : Heap) (locs : List Loc), va_P D gcl [(q_this, .inr (12, [.ref q_d, .ref q_kept, .int v_images, .ref q_found, .ref q_aside, .int v_base, .int v_at, .int v_size, .int v_fault, .int v_opened, .int v_isSeen, .ref q_names, .ref q_seenKept, .ref q_movedKept, .int v_isKeeping, .int v_bubbleMany, .int v_bubbleMost, .int v_bubbleCell, .int v_bestShown, .ref q_traced, .int v_traceMany, .int v_who, .ref q_bitsOf, .ref q_sizeOf, .ref q_number, .ref q_lifted])), (q_d, .inl (c 0, 244, .inl v_d)), (q_movedKept, .inl (c 0, 1000, .inl v_movedKept)), (q_names, .inl (c 0, 3, .inl v_names))] H → va_D A [(q_this, .inr (12, [.ref q_d, .ref q_kept, .int v_images, .ref q_found, .ref q_aside, .int v_base, .int v_at, .int v_size, .int v_fault, .int v_opened, .int v_isSeen, .ref q_names, .ref q_seenKept, .ref q_movedKept, .int v_isKeeping, .int v_bubbleMany, .int v_bubbleMost, .int v_bubbleCell, .int v_bestShown, .ref q_traced, .int v_traceMany, .int v_who, .ref q_bitsOf, .ref q_sizeOf, .ref q_number, .ref q_lifted])), (q_d, .inl (c 0, 244, .inl v_d)), (q_movedKept, .inl (c 0, 1000, .inl v_movedKept)), (q_names, .inl (c 0, 3, .inl v_names))] → va_S A s.heap H locs → ∀ ls, lv_has ls 6 [(2, .int a_2), (5, .int x5)] → f_X12_movesOf_L108 a_2 x5 v_base v_at v_size v_fault v_opened v_isSeen v_movedKept v_names = some (o_r, o_v_base, o_v_at, o_v_size, o_v_fault, o_v_opened, o_v_isSeen, o_v_movedKept, o_v_names) → W p l e (headSpec wsX12_movesOf rm_X12_movesOf).room s m [.ref q_this, .int a_1, .int a_2, .int a_3].toArray below meth co H locs 0 0 (gQI D [(q_this, .inr (12, [.ref q_d, .ref q_kept, .int v_images, .ref q_found, .ref q_aside, .int o_v_base, .int o_v_at, .int o_v_size, .int o_v_fault, .int o_v_opened, .int o_v_isSeen, .ref q_names, .ref q_seenKept, .ref q_movedKept, .int v_isKeeping, .int v_bubbleMany, .int v_bubbleMost, .int v_bubbleCell, .int v_bestShown, .ref q_traced, .int v_traceMany, .int v_who, .ref q_bitsOf, .ref q_sizeOf, .ref q_number, .ref q_lifted])), (q_d, .inl (c 0, 244, .inl v_d)), (q_movedKept, .inl (c 0, 1000, .inl o_v_movedKept)), (q_names, .inl (c 0, 3, .inl o_v_names))] o_r A below [.ref q_this, .int a_1, .int a_2, .int a_3] s) (F0 m 108 ls []) := by
    intro  x5 v_base v_at v_size v_fault v_opened v_isSeen v_movedKept v_names H locs hP hD hS ls hl h
    unfold f_X12_movesOf_L108 at h
    refine lv_iload hx hb dX12_movesOf_108 (lv_at hl 1 rfl) ?_
    refine lv_iload_n hx hb dX12_movesOf_110 rfl (lv_at hl 0 rfl) ?_
    refine lv_icmp_ge (tgt := 119) hx hb dX12_movesOf_111 (by decide) (fun c_27 => ?_) (fun c_27 => ?_)
    · replace h := it_t c_27 h
      refine lv_iload_n hx hb dX12_movesOf_119 rfl (lv_at hl 0 rfl) ?_
      replace h := so9 h
      obtain ⟨z0, z1, z2, z3, z4, z5, z6, z7, z8⟩ := h
      subst z0 z1 z2 z3 z4 z5 z6 z7 z8
      exact gIret hF hP hD hS rfl dX12_movesOf_120
    · replace h := it_f c_27 h
      refine lv_iload hx hb dX12_movesOf_114 (lv_at hl 1 rfl) ?_
      refine lv_goto (tgt := 120) hx hb dX12_movesOf_116 (by decide) ?_
      replace h := so9 h
      obtain ⟨z0, z1, z2, z3, z4, z5, z6, z7, z8⟩ := h
      subst z0 z1 z2 z3 z4 z5 z6 z7 z8
      exact gIret hF hP hD hS rfl dX12_movesOf_120
  unfold f_X12_movesOf at h
  refine lv_aload_n hx hb dX12_movesOf_0 rfl (lv_at hl 0 rfl) ?_
  refine lv_iload_n hx hb dX12_movesOf_1 rfl (lv_at hl 1 rfl) ?_
  replace h := kb_ok h
  obtain ⟨r_2, hc_1, h⟩ := h
  refine gCallIr (isC := [0, 1]) (wc := [(q_this, .inr (12, [.ref q_d, .ref q_kept, .int v_images, .ref q_found, .ref q_aside, .int v_base, .int v_at, .int v_size, .int v_fault, .int v_opened, .int v_isSeen, .ref q_names, .ref q_seenKept, .ref q_movedKept, .int v_isKeeping, .int v_bubbleMany, .int v_bubbleMost, .int v_bubbleCell, .int v_bestShown, .ref q_traced, .int v_traceMany, .int v_who, .ref q_bitsOf, .ref q_sizeOf, .ref q_number, .ref q_lifted])), (q_d, .inl (c 0, 244, .inl v_d))]) hP hD hS hA ⟨rfl, rfl, trivial⟩ (va_runV (rm := rm_X12_numberOf) (ws := wsX12_numberOf) (As := [.int a_1]) (rest := []) (gFix hF) (c_X12_numberOf l D c q_this q_d q_kept q_found q_aside q_names q_seenKept q_movedKept q_traced q_bitsOf q_sizeOf q_number q_lifted a_1 v_images v_base v_at v_size v_fault v_opened v_isSeen v_isKeeping v_bubbleMany v_bubbleMost v_bubbleCell v_bestShown v_traceMany v_who v_d r_2 hc_1 s.heap.size) (cwV 1 hts gX12_movesOf_X12_numberOf rfl rfl rfl (by decide +kernel) ⟨Nat.le_of_ble_eq_true rfl, Nat.le_of_ble_eq_true rfl⟩) (gPreV (wc := [(q_this, .inr (12, [.ref q_d, .ref q_kept, .int v_images, .ref q_found, .ref q_aside, .int v_base, .int v_at, .int v_size, .int v_fault, .int v_opened, .int v_isSeen, .ref q_names, .ref q_seenKept, .ref q_movedKept, .int v_isKeeping, .int v_bubbleMany, .int v_bubbleMost, .int v_bubbleCell, .int v_bestShown, .ref q_traced, .int v_traceMany, .int v_who, .ref q_bitsOf, .ref q_sizeOf, .ref q_number, .ref q_lifted])), (q_d, .inl (c 0, 244, .inl v_d))]) (q := (RX12, TX12, 26)) (ci := 12) (q0 := 0) (isC := [0, 1]) hK hX hS hA hP hD ⟨rfl, rfl, trivial⟩ (by decide +kernel) rfl rfl) rfl rfl hl.1 rfl (lv_room (Nat.le_of_ble_eq_true rfl)) dX12_movesOf_2 ⟨Nat.le_of_ble_eq_true rfl, Nat.le_of_ble_eq_true rfl⟩) (fun H locs hP hS => ?_)
  refine lv_istore (lv' := [(4, .int r_2), (0, .ref q_this), (1, .int a_1), (2, .int a_2), (3, .int a_3)]) hx hb dX12_movesOf_5 hl (by decide) rfl (fun ls hl => ?_)
  refine lv_aload_n hx hb dX12_movesOf_7 rfl (lv_at hl 1 rfl) ?_
  refine lv_iload_n hx hb dX12_movesOf_8 rfl (lv_at hl 2 rfl) ?_
  refine lv_iload_n hx hb dX12_movesOf_9 rfl (lv_at hl 3 rfl) ?_
  refine lv_iload_n hx hb dX12_movesOf_10 rfl (lv_at hl 4 rfl) ?_
  replace h := kb9_ok h
  obtain ⟨r_4, w_5, w_6, w_7, w_8, w_9, w_10, w_11, w_12, hc_3, h⟩ := h
  refine gCallI (isC := [0, 1, 2, 3]) (wc := [(q_this, .inr (12, [.ref q_d, .ref q_kept, .int v_images, .ref q_found, .ref q_aside, .int v_base, .int v_at, .int v_size, .int v_fault, .int v_opened, .int v_isSeen, .ref q_names, .ref q_seenKept, .ref q_movedKept, .int v_isKeeping, .int v_bubbleMany, .int v_bubbleMost, .int v_bubbleCell, .int v_bestShown, .ref q_traced, .int v_traceMany, .int v_who, .ref q_bitsOf, .ref q_sizeOf, .ref q_number, .ref q_lifted])), (q_d, .inl (c 0, 244, .inl v_d)), (q_movedKept, .inl (c 0, 1000, .inl v_movedKept)), (q_names, .inl (c 0, 3, .inl v_names))]) (w1 := [(q_this, .inr (12, [.ref q_d, .ref q_kept, .int v_images, .ref q_found, .ref q_aside, .int w_5, .int w_6, .int w_7, .int w_8, .int w_9, .int w_10, .ref q_names, .ref q_seenKept, .ref q_movedKept, .int v_isKeeping, .int v_bubbleMany, .int v_bubbleMost, .int v_bubbleCell, .int v_bestShown, .ref q_traced, .int v_traceMany, .int v_who, .ref q_bitsOf, .ref q_sizeOf, .ref q_number, .ref q_lifted])), (q_d, .inl (c 0, 244, .inl v_d)), (q_movedKept, .inl (c 0, 1000, .inl w_11)), (q_names, .inl (c 0, 3, .inl w_12))]) (ws2 := [(q_this, .inr (12, [.ref q_d, .ref q_kept, .int v_images, .ref q_found, .ref q_aside, .int w_5, .int w_6, .int w_7, .int w_8, .int w_9, .int w_10, .ref q_names, .ref q_seenKept, .ref q_movedKept, .int v_isKeeping, .int v_bubbleMany, .int v_bubbleMost, .int v_bubbleCell, .int v_bestShown, .ref q_traced, .int v_traceMany, .int v_who, .ref q_bitsOf, .ref q_sizeOf, .ref q_number, .ref q_lifted])), (q_d, .inl (c 0, 244, .inl v_d)), (q_movedKept, .inl (c 0, 1000, .inl w_11)), (q_names, .inl (c 0, 3, .inl w_12))]) (ms := [(some 0), (some 1), (some 2), (some 3)]) hP hD hS hA ⟨rfl, rfl, rfl, rfl, trivial⟩ (by decide +kernel) ⟨rfl, rfl, rfl, rfl, trivial⟩ (va_runV (rm := rm_X12_movedOf) (ws := wsX12_movedOf) (As := [.int a_1, .int a_2, .int a_3]) (rest := []) (gFix hF) (c_X12_movedOf l D c q_this q_d q_kept q_found q_aside q_names q_seenKept q_movedKept q_traced q_bitsOf q_sizeOf q_number q_lifted a_1 a_2 a_3 v_images v_base v_at v_size v_fault v_opened v_isSeen v_isKeeping v_bubbleMany v_bubbleMost v_bubbleCell v_bestShown v_traceMany v_who v_d v_movedKept v_names r_4 w_5 w_6 w_7 w_8 w_9 w_10 w_11 w_12 hc_3 H.size) (cwV 3 hts gX12_movesOf_X12_movedOf rfl rfl rfl (by decide +kernel) ⟨Nat.le_of_ble_eq_true rfl, Nat.le_of_ble_eq_true rfl⟩) (gPreV (wc := [(q_this, .inr (12, [.ref q_d, .ref q_kept, .int v_images, .ref q_found, .ref q_aside, .int v_base, .int v_at, .int v_size, .int v_fault, .int v_opened, .int v_isSeen, .ref q_names, .ref q_seenKept, .ref q_movedKept, .int v_isKeeping, .int v_bubbleMany, .int v_bubbleMost, .int v_bubbleCell, .int v_bestShown, .ref q_traced, .int v_traceMany, .int v_who, .ref q_bitsOf, .ref q_sizeOf, .ref q_number, .ref q_lifted])), (q_d, .inl (c 0, 244, .inl v_d)), (q_movedKept, .inl (c 0, 1000, .inl v_movedKept)), (q_names, .inl (c 0, 3, .inl v_names))]) (q := (RX12, TX12, 26)) (ci := 12) (q0 := 0) (isC := [0, 1, 2, 3]) hK hX hS hA hP hD ⟨rfl, rfl, rfl, rfl, trivial⟩ (by decide +kernel) rfl rfl) rfl rfl hl.1 rfl (lv_room (Nat.le_of_ble_eq_true rfl)) dX12_movesOf_11 ⟨Nat.le_of_ble_eq_true rfl, Nat.le_of_ble_eq_true rfl⟩) (fun H locs hP hD hS => ?_)
  refine lv_istore (lv' := [(5, .int r_4), (4, .int r_2), (0, .ref q_this), (1, .int a_1), (2, .int a_2), (3, .int a_3)]) hx hb dX12_movesOf_14 hl (by decide) rfl (fun ls hl => ?_)
  refine lv_aload_n hx hb dX12_movesOf_16 rfl (lv_at hl 2 rfl) ?_
  refine lv_iload_n hx hb dX12_movesOf_17 rfl (lv_at hl 3 rfl) ?_
  replace h := kb_ok h
  obtain ⟨r_14, hc_13, h⟩ := h
  refine gCallIr (isC := [0, 1]) (wc := [(q_this, .inr (12, [.ref q_d, .ref q_kept, .int v_images, .ref q_found, .ref q_aside, .int w_5, .int w_6, .int w_7, .int w_8, .int w_9, .int w_10, .ref q_names, .ref q_seenKept, .ref q_movedKept, .int v_isKeeping, .int v_bubbleMany, .int v_bubbleMost, .int v_bubbleCell, .int v_bestShown, .ref q_traced, .int v_traceMany, .int v_who, .ref q_bitsOf, .ref q_sizeOf, .ref q_number, .ref q_lifted])), (q_d, .inl (c 0, 244, .inl v_d))]) hP hD hS hA ⟨rfl, rfl, trivial⟩ (va_runV (rm := rm_X12_kindOf) (ws := wsX12_kindOf) (As := [.int a_1]) (rest := []) (gFix hF) (c_X12_kindOf l D c q_this q_d q_kept q_found q_aside q_names q_seenKept q_movedKept q_traced q_bitsOf q_sizeOf q_number q_lifted a_1 v_images w_5 w_6 w_7 w_8 w_9 w_10 v_isKeeping v_bubbleMany v_bubbleMost v_bubbleCell v_bestShown v_traceMany v_who v_d r_14 hc_13 H.size) (cwV 1 hts gX12_movesOf_X12_kindOf rfl rfl rfl (by decide +kernel) ⟨Nat.le_of_ble_eq_true rfl, Nat.le_of_ble_eq_true rfl⟩) (gPreV (wc := [(q_this, .inr (12, [.ref q_d, .ref q_kept, .int v_images, .ref q_found, .ref q_aside, .int w_5, .int w_6, .int w_7, .int w_8, .int w_9, .int w_10, .ref q_names, .ref q_seenKept, .ref q_movedKept, .int v_isKeeping, .int v_bubbleMany, .int v_bubbleMost, .int v_bubbleCell, .int v_bestShown, .ref q_traced, .int v_traceMany, .int v_who, .ref q_bitsOf, .ref q_sizeOf, .ref q_number, .ref q_lifted])), (q_d, .inl (c 0, 244, .inl v_d))]) (q := (RX12, TX12, 26)) (ci := 12) (q0 := 0) (isC := [0, 1]) hK hX hS hA hP hD ⟨rfl, rfl, trivial⟩ (by decide +kernel) rfl rfl) rfl rfl hl.1 rfl (lv_room (Nat.le_of_ble_eq_true rfl)) dX12_movesOf_18 ⟨Nat.le_of_ble_eq_true rfl, Nat.le_of_ble_eq_true rfl⟩) (fun H locs hP hS => ?_)
  by_cases c_15 : r_14 = 1
  · replace h := it_t c_15 h
    refine lv_tableIn (x := r_14) (off := 39) (tgt := 60) hx hb dX12_movesOf_21 (by rw [c_15]; decide) (by rw [c_15]; decide) (by rw [c_15]; rfl) (by decide) ?_
    replace h := nm_ok h
    obtain ⟨t_16, et_16, h⟩ := h
    refine lv_iinc (v := t_16) (lv' := [(5, .int t_16), (4, .int r_2), (0, .ref q_this), (1, .int a_1), (2, .int a_2), (3, .int a_3)]) hx hb dX12_movesOf_60 hl (k := 0) rfl (by rw [et_16]; rfl) (by decide) rfl (fun ls hl => ?_)
    refine lv_goto (tgt := 108) hx hb dX12_movesOf_63 (by decide) ?_
    exact t_L108 t_16 w_5 w_6 w_7 w_8 w_9 w_10 w_11 w_12 H locs hP hD hS ls (lv_sub hl [4, 0] rfl) h
  · replace h := it_f c_15 h
    by_cases c_17 : r_14 = 2
    · replace h := it_t c_17 h
      refine lv_tableIn (x := r_14) (off := 45) (tgt := 66) hx hb dX12_movesOf_21 (by rw [c_17]; decide) (by rw [c_17]; decide) (by rw [c_17]; rfl) (by decide) ?_
      refine lv_iconst (v := 0) hx hb dX12_movesOf_66 (by decide) ?_
      refine lv_istore (lv' := [(5, .int 0), (4, .int r_2), (0, .ref q_this), (1, .int a_1), (2, .int a_2), (3, .int a_3)]) hx hb dX12_movesOf_67 hl (by decide) rfl (fun ls hl => ?_)
      refine lv_goto (tgt := 108) hx hb dX12_movesOf_69 (by decide) ?_
      exact t_L108 0 w_5 w_6 w_7 w_8 w_9 w_10 w_11 w_12 H locs hP hD hS ls (lv_sub hl [4, 0] rfl) h
    · replace h := it_f c_17 h
      by_cases c_18 : r_14 = 3
      · replace h := it_t c_18 h
        refine lv_tableIn (x := r_14) (off := 51) (tgt := 72) hx hb dX12_movesOf_21 (by rw [c_18]; decide) (by rw [c_18]; decide) (by rw [c_18]; rfl) (by decide) ?_
        refine lv_iload_n hx hb dX12_movesOf_72 rfl (lv_at hl 4 rfl) ?_
        refine lv_istore (lv' := [(5, .int a_2), (4, .int r_2), (0, .ref q_this), (1, .int a_1), (2, .int a_2), (3, .int a_3)]) hx hb dX12_movesOf_73 hl (by decide) rfl (fun ls hl => ?_)
        refine lv_goto (tgt := 108) hx hb dX12_movesOf_75 (by decide) ?_
        exact t_L108 a_2 w_5 w_6 w_7 w_8 w_9 w_10 w_11 w_12 H locs hP hD hS ls (lv_sub hl [4, 0] rfl) h
      · replace h := it_f c_18 h
        by_cases c_19 : r_14 = 4
        · replace h := it_t c_19 h
          refine lv_tableIn (x := r_14) (off := 57) (tgt := 78) hx hb dX12_movesOf_21 (by rw [c_19]; decide) (by rw [c_19]; decide) (by rw [c_19]; rfl) (by decide) ?_
          refine lv_iload hx hb dX12_movesOf_78 (lv_at hl 0 rfl) ?_
          refine lv_iconst (v := 1) hx hb dX12_movesOf_80 (by decide) ?_
          refine lv_iadd hx hb dX12_movesOf_81 ?_
          replace h := nm_ok h
          obtain ⟨t_20, et_20, h⟩ := h
          refine gTop et_20 ?_
          refine lv_iconst (v := 2) hx hb dX12_movesOf_82 (by decide) ?_
          replace h := chz_ok h
          obtain ⟨hz_21, h⟩ := h
          refine lv_idiv hx hb dX12_movesOf_83 hz_21 ?_
          replace h := nm_ok h
          obtain ⟨t_22, et_22, h⟩ := h
          refine gTop et_22 ?_
          refine lv_istore (lv' := [(5, .int t_22), (4, .int r_2), (0, .ref q_this), (1, .int a_1), (2, .int a_2), (3, .int a_3)]) hx hb dX12_movesOf_84 hl (by decide) rfl (fun ls hl => ?_)
          refine lv_goto (tgt := 108) hx hb dX12_movesOf_86 (by decide) ?_
          exact t_L108 t_22 w_5 w_6 w_7 w_8 w_9 w_10 w_11 w_12 H locs hP hD hS ls (lv_sub hl [4, 0] rfl) h
        · replace h := it_f c_19 h
          by_cases c_23 : r_14 = 5
          · replace h := it_t c_23 h
            refine lv_tableIn (x := r_14) (off := 45) (tgt := 66) hx hb dX12_movesOf_21 (by rw [c_23]; decide) (by rw [c_23]; decide) (by rw [c_23]; rfl) (by decide) ?_
            refine lv_iconst (v := 0) hx hb dX12_movesOf_66 (by decide) ?_
            refine lv_istore (lv' := [(5, .int 0), (4, .int r_2), (0, .ref q_this), (1, .int a_1), (2, .int a_2), (3, .int a_3)]) hx hb dX12_movesOf_67 hl (by decide) rfl (fun ls hl => ?_)
            refine lv_goto (tgt := 108) hx hb dX12_movesOf_69 (by decide) ?_
            exact t_L108 0 w_5 w_6 w_7 w_8 w_9 w_10 w_11 w_12 H locs hP hD hS ls (lv_sub hl [4, 0] rfl) h
          · replace h := it_f c_23 h
            by_cases c_24 : r_14 = 6
            · replace h := it_t c_24 h
              refine lv_tableIn (x := r_14) (off := 68) (tgt := 89) hx hb dX12_movesOf_21 (by rw [c_24]; decide) (by rw [c_24]; decide) (by rw [c_24]; rfl) (by decide) ?_
              refine lv_iload_n hx hb dX12_movesOf_89 rfl (lv_at hl 4 rfl) ?_
              refine lv_iload hx hb dX12_movesOf_90 (lv_at hl 1 rfl) ?_
              refine lv_icmp_ge (tgt := 99) hx hb dX12_movesOf_92 (by decide) (fun c_25 => ?_) (fun c_25 => ?_)
              · replace h := it_t c_25 h
                refine lv_iload_n hx hb dX12_movesOf_99 rfl (lv_at hl 4 rfl) ?_
                refine lv_iload hx hb dX12_movesOf_100 (lv_at hl 1 rfl) ?_
                refine lv_isub hx hb dX12_movesOf_102 ?_
                replace h := nm_ok h
                obtain ⟨t_26, et_26, h⟩ := h
                refine gTop et_26 ?_
                refine lv_istore (lv' := [(5, .int t_26), (4, .int r_2), (0, .ref q_this), (1, .int a_1), (2, .int a_2), (3, .int a_3)]) hx hb dX12_movesOf_103 hl (by decide) rfl (fun ls hl => ?_)
                refine lv_goto (tgt := 108) hx hb dX12_movesOf_105 (by decide) ?_
                exact t_L108 t_26 w_5 w_6 w_7 w_8 w_9 w_10 w_11 w_12 H locs hP hD hS ls (lv_sub hl [4, 0] rfl) h
              · replace h := it_f c_25 h
                refine lv_iconst (v := 0) hx hb dX12_movesOf_95 (by decide) ?_
                refine lv_goto (tgt := 103) hx hb dX12_movesOf_96 (by decide) ?_
                refine lv_istore (lv' := [(5, .int 0), (4, .int r_2), (0, .ref q_this), (1, .int a_1), (2, .int a_2), (3, .int a_3)]) hx hb dX12_movesOf_103 hl (by decide) rfl (fun ls hl => ?_)
                refine lv_goto (tgt := 108) hx hb dX12_movesOf_105 (by decide) ?_
                exact t_L108 0 w_5 w_6 w_7 w_8 w_9 w_10 w_11 w_12 H locs hP hD hS ls (lv_sub hl [4, 0] rfl) h
            · replace h := it_f c_24 h
              refine lv_tableOut (x := r_14) (tgt := 108) hx hb dX12_movesOf_21 (by have q0 := gNe (z := 1) (by decide) c_15; have q1 := gNe (z := 2) (by decide) c_17; have q2 := gNe (z := 3) (by decide) c_18; have q3 := gNe (z := 4) (by decide) c_19; have q4 := gNe (z := 5) (by decide) c_23; have q5 := gNe (z := 6) (by decide) c_24; omega) (by decide) ?_
              exact t_L108 r_4 w_5 w_6 w_7 w_8 w_9 w_10 w_11 w_12 H locs hP hD hS ls (lv_sub hl [4, 0] rfl) h
