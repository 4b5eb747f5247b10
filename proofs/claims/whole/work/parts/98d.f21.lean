set_option maxRecDepth 20000 in
theorem in_X12_count_X12 : ∀ w ∈ u_ws RX12 TX12 26, w ∈ wsX12_count := by decide +kernel
abbrev rm_X12_count : Room := { frames := 2, cells := 0, slots := 0, locals := 42 }
set_option maxHeartbeats 4000000 in
set_option maxRecDepth 100000 in
theorem c_X12_count (l : Launch) (D : va_G) (c : Nat → ClassId) (q_this q_d q_kept q_found q_aside q_names q_seenKept q_movedKept q_traced q_bitsOf q_sizeOf q_number q_lifted : Nat) (a_1 : Int32) (v_images : Int32) (v_base : Int32) (v_at : Int32) (v_size : Int32) (v_fault : Int32) (v_opened : Int32) (v_isSeen : Int32) (v_isKeeping : Int32) (v_bubbleMany : Int32) (v_bubbleMost : Int32) (v_bubbleCell : Int32) (v_bestShown : Int32) (v_traceMany : Int32) (v_who : Int32) (v_d : Nat → Int32) (v_found : Nat → Int32) (o_r : Int32) (o_v_found : Nat → Int32) (h : f_X12_count a_1 v_traceMany v_d v_found = some (o_r, o_v_found)) : gMI l yX12_count wsX12_count rm_X12_count D c [.ref q_this, .int a_1] [(q_this, .inr (12, [.ref q_d, .ref q_kept, .int v_images, .ref q_found, .ref q_aside, .int v_base, .int v_at, .int v_size, .int v_fault, .int v_opened, .int v_isSeen, .ref q_names, .ref q_seenKept, .ref q_movedKept, .int v_isKeeping, .int v_bubbleMany, .int v_bubbleMost, .int v_bubbleCell, .int v_bestShown, .ref q_traced, .int v_traceMany, .int v_who, .ref q_bitsOf, .ref q_sizeOf, .ref q_number, .ref q_lifted])), (q_d, .inl (c 0, 244, .inl v_d)), (q_found, .inl (c 0, 6, .inl v_found))] [(q_this, .inr (12, [.ref q_d, .ref q_kept, .int v_images, .ref q_found, .ref q_aside, .int v_base, .int v_at, .int v_size, .int v_fault, .int v_opened, .int v_isSeen, .ref q_names, .ref q_seenKept, .ref q_movedKept, .int v_isKeeping, .int v_bubbleMany, .int v_bubbleMost, .int v_bubbleCell, .int v_bestShown, .ref q_traced, .int v_traceMany, .int v_who, .ref q_bitsOf, .ref q_sizeOf, .ref q_number, .ref q_lifted])), (q_d, .inl (c 0, 244, .inl v_d)), (q_found, .inl (c 0, 6, .inl o_v_found))] o_r := by
  refine gMI_of (cc := cX12_count) (maxL := 4) (rt := (some .int)) (by decide +kernel) rfl (Nat.le_of_ble_eq_true rfl) ?_
  intro p e s m below meth co A hF hK hX hP hD hA hS ls hl
  obtain ⟨hx, hb, hr, hts, hown, hlocks, hml⟩ := id hF
  have hl : lv_has ls 4 [(0, .ref q_this), (1, .int a_1)] := hl
  have t_L104 : ∀ (n : Nat), ∀ (x2 : Int32) (x3 : Int32) (v_found : Nat → Int32) (H : Heap) (locs : List Loc), va_P D gcl [(q_this, .inr (12, [.ref q_d, .ref q_kept, .int v_images, .ref q_found, .ref q_aside, .int v_base, .int v_at, .int v_size, .int v_fault, .int v_opened, .int v_isSeen, .ref q_names, .ref q_seenKept, .ref q_movedKept, .int v_isKeeping, .int v_bubbleMany, .int v_bubbleMost, .int v_bubbleCell, .int v_bestShown, .ref q_traced, .int v_traceMany, .int v_who, .ref q_bitsOf, .ref q_sizeOf, .ref q_number, .ref q_lifted])), (q_d, .inl (c 0, 244, .inl v_d)), (q_found, .inl (c 0, 6, .inl v_found))] H → va_D A [(q_this, .inr (12, [.ref q_d, .ref q_kept, .int v_images, .ref q_found, .ref q_aside, .int v_base, .int v_at, .int v_size, .int v_fault, .int v_opened, .int v_isSeen, .ref q_names, .ref q_seenKept, .ref q_movedKept, .int v_isKeeping, .int v_bubbleMany, .int v_bubbleMost, .int v_bubbleCell, .int v_bestShown, .ref q_traced, .int v_traceMany, .int v_who, .ref q_bitsOf, .ref q_sizeOf, .ref q_number, .ref q_lifted])), (q_d, .inl (c 0, 244, .inl v_d)), (q_found, .inl (c 0, 6, .inl v_found))] → va_S A s.heap H locs → ∀ ls, lv_has ls 4 [(0, .ref q_this), (2, .int x2), (3, .int x3)] → f_X12_count_L104 v_d n x2 x3 v_found = some (o_r, o_v_found) → W p l e (headSpec wsX12_count rm_X12_count).room s m [.ref q_this, .int a_1].toArray below meth co H locs 0 0 (gQI D [(q_this, .inr (12, [.ref q_d, .ref q_kept, .int v_images, .ref q_found, .ref q_aside, .int v_base, .int v_at, .int v_size, .int v_fault, .int v_opened, .int v_isSeen, .ref q_names, .ref q_seenKept, .ref q_movedKept, .int v_isKeeping, .int v_bubbleMany, .int v_bubbleMost, .int v_bubbleCell, .int v_bestShown, .ref q_traced, .int v_traceMany, .int v_who, .ref q_bitsOf, .ref q_sizeOf, .ref q_number, .ref q_lifted])), (q_d, .inl (c 0, 244, .inl v_d)), (q_found, .inl (c 0, 6, .inl o_v_found))] o_r A below [.ref q_this, .int a_1] s) (F0 m 104 ls []) := by
    intro n
    induction n with
    | zero => intro x2 x3 v_found H locs hP hD hS ls hl h; exact no_ok h
    | succ n ih =>
      intro x2 x3 v_found H locs hP hD hS ls hl h
      rw [f_X12_count_L104] at h
      refine lv_iload_n hx hb dX12_count_104 rfl (lv_at hl 2 rfl) ?_
      refine lv_aload_n hx hb dX12_count_105 rfl (lv_at hl 0 rfl) ?_
      replace h := kb_ok h
      obtain ⟨r_29, hc_28, h⟩ := h
      refine gCallIr (isC := [0, 1]) (wc := [(q_this, .inr (12, [.ref q_d, .ref q_kept, .int v_images, .ref q_found, .ref q_aside, .int v_base, .int v_at, .int v_size, .int v_fault, .int v_opened, .int v_isSeen, .ref q_names, .ref q_seenKept, .ref q_movedKept, .int v_isKeeping, .int v_bubbleMany, .int v_bubbleMost, .int v_bubbleCell, .int v_bestShown, .ref q_traced, .int v_traceMany, .int v_who, .ref q_bitsOf, .ref q_sizeOf, .ref q_number, .ref q_lifted])), (q_d, .inl (c 0, 244, .inl v_d))]) hP hD hS hA ⟨rfl, rfl, trivial⟩ (va_runV (rm := rm_X12_cells) (ws := wsX12_cells) (As := []) (rest := [.int x3]) (gFix hF) (c_X12_cells l D c q_this q_d q_kept q_found q_aside q_names q_seenKept q_movedKept q_traced q_bitsOf q_sizeOf q_number q_lifted v_images v_base v_at v_size v_fault v_opened v_isSeen v_isKeeping v_bubbleMany v_bubbleMost v_bubbleCell v_bestShown v_traceMany v_who v_d r_29 hc_28 H.size) (cwV 0 hts gX12_count_X12_cells rfl rfl rfl (by decide +kernel) ⟨Nat.le_of_ble_eq_true rfl, Nat.le_of_ble_eq_true rfl⟩) (gPreV (wc := [(q_this, .inr (12, [.ref q_d, .ref q_kept, .int v_images, .ref q_found, .ref q_aside, .int v_base, .int v_at, .int v_size, .int v_fault, .int v_opened, .int v_isSeen, .ref q_names, .ref q_seenKept, .ref q_movedKept, .int v_isKeeping, .int v_bubbleMany, .int v_bubbleMost, .int v_bubbleCell, .int v_bestShown, .ref q_traced, .int v_traceMany, .int v_who, .ref q_bitsOf, .ref q_sizeOf, .ref q_number, .ref q_lifted])), (q_d, .inl (c 0, 244, .inl v_d))]) (q := (RX12, TX12, 26)) (ci := 12) (q0 := 0) (isC := [0, 1]) hK hX hS hA hP hD ⟨rfl, rfl, trivial⟩ (by decide +kernel) rfl rfl) rfl rfl hl.1 rfl (lv_room (Nat.le_of_ble_eq_true rfl)) dX12_count_106 ⟨Nat.le_of_ble_eq_true rfl, Nat.le_of_ble_eq_true rfl⟩) (fun H locs hP hS => ?_)
      refine lv_icmp_ge (tgt := 138) hx hb dX12_count_109 (by decide) (fun c_30 => ?_) (fun c_30 => ?_)
      · replace h := it_t c_30 h
        refine lv_iload_n hx hb dX12_count_138 rfl (lv_at hl 1 rfl) ?_
        replace h := so2 h
        obtain ⟨z0, z1⟩ := h
        subst z0 z1
        exact gIret hF hP hD hS rfl dX12_count_139
      · replace h := it_f c_30 h
        refine lv_iload_n hx hb dX12_count_112 rfl (lv_at hl 1 rfl) ?_
        refine lv_aload_n hx hb dX12_count_113 rfl (lv_at hl 0 rfl) ?_
        refine va_get (D := D) (ci := 12) (v := .ref q_d) (C := RX12) (T := TX12) (N := 26) hx hb hts in_X12_count_X12 hown hK.1 hP 0 rfl rfl 0 (by decide) (hts (.fieldLink RX12 7 "PaperBubblesModel" "d" "[I") (List.mem_of_getElem? (i := 1) rfl)) (fun _ h9 => h9) rfl dX12_count_114 ?_
        refine lv_bipush (v := 10) hx hb dX12_count_117 (by decide) ?_
        refine lv_iload_n hx hb dX12_count_119 rfl (lv_at hl 2 rfl) ?_
        refine lv_iadd hx hb dX12_count_120 ?_
        replace h := nm_ok h
        obtain ⟨t_31, et_31, h⟩ := h
        refine gTop et_31 ?_
        replace h := chi_ok h
        obtain ⟨hi_32, h⟩ := h
        refine va_iald hx hb hK.1 hP 1 0 rfl rfl hi_32 dX12_count_121 ?_
        refine lv_if_le (tgt := 129) hx hb dX12_count_122 (by decide) (fun c_33 => ?_) (fun c_33 => ?_)
        · replace h := it_t c_33 h
          refine lv_iconst (v := 0) hx hb dX12_count_129 (by decide) ?_
          refine lv_iadd hx hb dX12_count_130 ?_
          replace h := nm_ok h
          obtain ⟨t_34, et_34, h⟩ := h
          refine gTop et_34 ?_
          refine lv_istore_n (lv' := [(2, .int t_34), (0, .ref q_this), (3, .int x3)]) hx hb dX12_count_131 rfl hl (by decide) rfl (fun ls hl => ?_)
          replace h := nm_ok h
          obtain ⟨t_35, et_35, h⟩ := h
          refine lv_iinc (v := t_35) (lv' := [(3, .int t_35), (2, .int t_34), (0, .ref q_this)]) hx hb dX12_count_132 hl (k := 2) rfl (by rw [et_35]; rfl) (by decide) rfl (fun ls hl => ?_)
          refine lv_goto (tgt := 104) hx hb dX12_count_135 (by decide) ?_
          exact ih t_34 t_35 v_found H locs hP hD hS ls (lv_sub hl [2, 1, 0] rfl) h
        · replace h := it_f c_33 h
          refine lv_iconst (v := 1) hx hb dX12_count_125 (by decide) ?_
          refine lv_goto (tgt := 130) hx hb dX12_count_126 (by decide) ?_
          refine lv_iadd hx hb dX12_count_130 ?_
          replace h := nm_ok h
          obtain ⟨t_36, et_36, h⟩ := h
          refine gTop et_36 ?_
          refine lv_istore_n (lv' := [(2, .int t_36), (0, .ref q_this), (3, .int x3)]) hx hb dX12_count_131 rfl hl (by decide) rfl (fun ls hl => ?_)
          replace h := nm_ok h
          obtain ⟨t_37, et_37, h⟩ := h
          refine lv_iinc (v := t_37) (lv' := [(3, .int t_37), (2, .int t_36), (0, .ref q_this)]) hx hb dX12_count_132 hl (k := 2) rfl (by rw [et_37]; rfl) (by decide) rfl (fun ls hl => ?_)
          refine lv_goto (tgt := 104) hx hb dX12_count_135 (by decide) ?_
          exact ih t_36 t_37 v_found H locs hP hD hS ls (lv_sub hl [2, 1, 0] rfl) h
  unfold f_X12_count at h
  refine lv_iconst (v := 0) hx hb dX12_count_0 (by decide) ?_
  refine lv_istore_n (lv' := [(2, .int 0), (0, .ref q_this), (1, .int a_1)]) hx hb dX12_count_1 rfl hl (by decide) rfl (fun ls hl => ?_)
  refine lv_iload_n hx hb dX12_count_2 rfl (lv_at hl 2 rfl) ?_
  by_cases c_1 : a_1 = 0
  · replace h := it_t c_1 h
    refine lv_tableIn (x := a_1) (off := 61) (tgt := 64) hx hb dX12_count_3 (by rw [c_1]; decide) (by rw [c_1]; decide) (by rw [c_1]; rfl) (by decide) ?_
    refine lv_aload_n hx hb dX12_count_64 rfl (lv_at hl 1 rfl) ?_
    replace h := kb_ok h
    obtain ⟨r_3, hc_2, h⟩ := h
    refine gCallIr (isC := [0, 1]) (wc := [(q_this, .inr (12, [.ref q_d, .ref q_kept, .int v_images, .ref q_found, .ref q_aside, .int v_base, .int v_at, .int v_size, .int v_fault, .int v_opened, .int v_isSeen, .ref q_names, .ref q_seenKept, .ref q_movedKept, .int v_isKeeping, .int v_bubbleMany, .int v_bubbleMost, .int v_bubbleCell, .int v_bestShown, .ref q_traced, .int v_traceMany, .int v_who, .ref q_bitsOf, .ref q_sizeOf, .ref q_number, .ref q_lifted])), (q_d, .inl (c 0, 244, .inl v_d))]) hP hD hS hA ⟨rfl, rfl, trivial⟩ (va_runV (rm := rm_X12_cells) (ws := wsX12_cells) (As := []) (rest := []) (gFix hF) (c_X12_cells l D c q_this q_d q_kept q_found q_aside q_names q_seenKept q_movedKept q_traced q_bitsOf q_sizeOf q_number q_lifted v_images v_base v_at v_size v_fault v_opened v_isSeen v_isKeeping v_bubbleMany v_bubbleMost v_bubbleCell v_bestShown v_traceMany v_who v_d r_3 hc_2 s.heap.size) (cwV 0 hts gX12_count_X12_cells rfl rfl rfl (by decide +kernel) ⟨Nat.le_of_ble_eq_true rfl, Nat.le_of_ble_eq_true rfl⟩) (gPreV (wc := [(q_this, .inr (12, [.ref q_d, .ref q_kept, .int v_images, .ref q_found, .ref q_aside, .int v_base, .int v_at, .int v_size, .int v_fault, .int v_opened, .int v_isSeen, .ref q_names, .ref q_seenKept, .ref q_movedKept, .int v_isKeeping, .int v_bubbleMany, .int v_bubbleMost, .int v_bubbleCell, .int v_bestShown, .ref q_traced, .int v_traceMany, .int v_who, .ref q_bitsOf, .ref q_sizeOf, .ref q_number, .ref q_lifted])), (q_d, .inl (c 0, 244, .inl v_d))]) (q := (RX12, TX12, 26)) (ci := 12) (q0 := 0) (isC := [0, 1]) hK hX hS hA hP hD ⟨rfl, rfl, trivial⟩ (by decide +kernel) rfl rfl) rfl rfl hl.1 rfl (lv_room (Nat.le_of_ble_eq_true rfl)) dX12_count_65 ⟨Nat.le_of_ble_eq_true rfl, Nat.le_of_ble_eq_true rfl⟩) (fun H locs hP hS => ?_)
    replace h := so2 h
    obtain ⟨z0, z1⟩ := h
    subst z0 z1
    exact gIret hF hP hD hS rfl dX12_count_68
  · replace h := it_f c_1 h
    by_cases c_4 : a_1 = 1
    · replace h := it_t c_4 h
      refine lv_tableIn (x := a_1) (off := 66) (tgt := 69) hx hb dX12_count_3 (by rw [c_4]; decide) (by rw [c_4]; decide) (by rw [c_4]; rfl) (by decide) ?_
      refine lv_aload_n hx hb dX12_count_69 rfl (lv_at hl 1 rfl) ?_
      refine va_get (D := D) (ci := 12) (v := .ref q_d) (C := RX12) (T := TX12) (N := 26) hx hb hts in_X12_count_X12 hown hK.1 hP 0 rfl rfl 0 (by decide) (hts (.fieldLink RX12 7 "PaperBubblesModel" "d" "[I") (List.mem_of_getElem? (i := 1) rfl)) (fun _ h9 => h9) rfl dX12_count_70 ?_
      refine lv_iconst (v := 2) hx hb dX12_count_73 (by decide) ?_
      replace h := chi_ok h
      obtain ⟨hi_5, h⟩ := h
      refine va_iald hx hb hK.1 hP 1 0 rfl rfl hi_5 dX12_count_74 ?_
      replace h := so2 h
      obtain ⟨z0, z1⟩ := h
      subst z0 z1
      exact gIret hF hP hD hS rfl dX12_count_75
    · replace h := it_f c_4 h
      by_cases c_6 : a_1 = 2
      · replace h := it_t c_6 h
        refine lv_tableIn (x := a_1) (off := 73) (tgt := 76) hx hb dX12_count_3 (by rw [c_6]; decide) (by rw [c_6]; decide) (by rw [c_6]; rfl) (by decide) ?_
        refine lv_aload_n hx hb dX12_count_76 rfl (lv_at hl 1 rfl) ?_
        replace h := kb_ok h
        obtain ⟨r_8, hc_7, h⟩ := h
        refine gCallIr (isC := [0, 1]) (wc := [(q_this, .inr (12, [.ref q_d, .ref q_kept, .int v_images, .ref q_found, .ref q_aside, .int v_base, .int v_at, .int v_size, .int v_fault, .int v_opened, .int v_isSeen, .ref q_names, .ref q_seenKept, .ref q_movedKept, .int v_isKeeping, .int v_bubbleMany, .int v_bubbleMost, .int v_bubbleCell, .int v_bestShown, .ref q_traced, .int v_traceMany, .int v_who, .ref q_bitsOf, .ref q_sizeOf, .ref q_number, .ref q_lifted])), (q_d, .inl (c 0, 244, .inl v_d))]) hP hD hS hA ⟨rfl, rfl, trivial⟩ (va_runV (rm := rm_X12_allAir) (ws := wsX12_allAir) (As := []) (rest := []) (gFix hF) (c_X12_allAir l D c q_this q_d q_kept q_found q_aside q_names q_seenKept q_movedKept q_traced q_bitsOf q_sizeOf q_number q_lifted v_images v_base v_at v_size v_fault v_opened v_isSeen v_isKeeping v_bubbleMany v_bubbleMost v_bubbleCell v_bestShown v_traceMany v_who v_d r_8 hc_7 s.heap.size) (cwV 0 hts gX12_count_X12_allAir rfl rfl rfl (by decide +kernel) ⟨Nat.le_of_ble_eq_true rfl, Nat.le_of_ble_eq_true rfl⟩) (gPreV (wc := [(q_this, .inr (12, [.ref q_d, .ref q_kept, .int v_images, .ref q_found, .ref q_aside, .int v_base, .int v_at, .int v_size, .int v_fault, .int v_opened, .int v_isSeen, .ref q_names, .ref q_seenKept, .ref q_movedKept, .int v_isKeeping, .int v_bubbleMany, .int v_bubbleMost, .int v_bubbleCell, .int v_bestShown, .ref q_traced, .int v_traceMany, .int v_who, .ref q_bitsOf, .ref q_sizeOf, .ref q_number, .ref q_lifted])), (q_d, .inl (c 0, 244, .inl v_d))]) (q := (RX12, TX12, 26)) (ci := 12) (q0 := 0) (isC := [0, 1]) hK hX hS hA hP hD ⟨rfl, rfl, trivial⟩ (by decide +kernel) rfl rfl) rfl rfl hl.1 rfl (lv_room (Nat.le_of_ble_eq_true rfl)) dX12_count_77 ⟨Nat.le_of_ble_eq_true rfl, Nat.le_of_ble_eq_true rfl⟩) (fun H locs hP hS => ?_)
        replace h := so2 h
        obtain ⟨z0, z1⟩ := h
        subst z0 z1
        exact gIret hF hP hD hS rfl dX12_count_80
      · replace h := it_f c_6 h
        by_cases c_9 : a_1 = 3
        · replace h := it_t c_9 h
          refine lv_tableIn (x := a_1) (off := 78) (tgt := 81) hx hb dX12_count_3 (by rw [c_9]; decide) (by rw [c_9]; decide) (by rw [c_9]; rfl) (by decide) ?_
          refine lv_aload_n hx hb dX12_count_81 rfl (lv_at hl 1 rfl) ?_
          refine va_get (D := D) (ci := 12) (v := .ref q_d) (C := RX12) (T := TX12) (N := 26) hx hb hts in_X12_count_X12 hown hK.1 hP 0 rfl rfl 0 (by decide) (hts (.fieldLink RX12 7 "PaperBubblesModel" "d" "[I") (List.mem_of_getElem? (i := 1) rfl)) (fun _ h9 => h9) rfl dX12_count_82 ?_
          refine lv_iconst (v := 3) hx hb dX12_count_85 (by decide) ?_
          replace h := chi_ok h
          obtain ⟨hi_10, h⟩ := h
          refine va_iald hx hb hK.1 hP 1 0 rfl rfl hi_10 dX12_count_86 ?_
          replace h := so2 h
          obtain ⟨z0, z1⟩ := h
          subst z0 z1
          exact gIret hF hP hD hS rfl dX12_count_87
        · replace h := it_f c_9 h
          by_cases c_11 : a_1 = 4
          · replace h := it_t c_11 h
            refine lv_tableIn (x := a_1) (off := 85) (tgt := 88) hx hb dX12_count_3 (by rw [c_11]; decide) (by rw [c_11]; decide) (by rw [c_11]; rfl) (by decide) ?_
            refine lv_aload_n hx hb dX12_count_88 rfl (lv_at hl 1 rfl) ?_
            refine va_get (D := D) (ci := 12) (v := .ref q_d) (C := RX12) (T := TX12) (N := 26) hx hb hts in_X12_count_X12 hown hK.1 hP 0 rfl rfl 0 (by decide) (hts (.fieldLink RX12 7 "PaperBubblesModel" "d" "[I") (List.mem_of_getElem? (i := 1) rfl)) (fun _ h9 => h9) rfl dX12_count_89 ?_
            refine lv_iconst (v := 4) hx hb dX12_count_92 (by decide) ?_
            replace h := chi_ok h
            obtain ⟨hi_12, h⟩ := h
            refine va_iald hx hb hK.1 hP 1 0 rfl rfl hi_12 dX12_count_93 ?_
            replace h := so2 h
            obtain ⟨z0, z1⟩ := h
            subst z0 z1
            exact gIret hF hP hD hS rfl dX12_count_94
          · replace h := it_f c_11 h
            by_cases c_13 : a_1 = 5
            · replace h := it_t c_13 h
              refine lv_tableIn (x := a_1) (off := 92) (tgt := 95) hx hb dX12_count_3 (by rw [c_13]; decide) (by rw [c_13]; decide) (by rw [c_13]; rfl) (by decide) ?_
              refine lv_aload_n hx hb dX12_count_95 rfl (lv_at hl 1 rfl) ?_
              refine va_get (D := D) (ci := 12) (v := .ref q_d) (C := RX12) (T := TX12) (N := 26) hx hb hts in_X12_count_X12 hown hK.1 hP 0 rfl rfl 0 (by decide) (hts (.fieldLink RX12 7 "PaperBubblesModel" "d" "[I") (List.mem_of_getElem? (i := 1) rfl)) (fun _ h9 => h9) rfl dX12_count_96 ?_
              refine lv_iconst (v := 5) hx hb dX12_count_99 (by decide) ?_
              replace h := chi_ok h
              obtain ⟨hi_14, h⟩ := h
              refine va_iald hx hb hK.1 hP 1 0 rfl rfl hi_14 dX12_count_100 ?_
              replace h := so2 h
              obtain ⟨z0, z1⟩ := h
              subst z0 z1
              exact gIret hF hP hD hS rfl dX12_count_101
            · replace h := it_f c_13 h
              by_cases c_15 : a_1 = 6
              · replace h := it_t c_15 h
                refine lv_tableIn (x := a_1) (off := 99) (tgt := 102) hx hb dX12_count_3 (by rw [c_15]; decide) (by rw [c_15]; decide) (by rw [c_15]; rfl) (by decide) ?_
                refine lv_iconst (v := 0) hx hb dX12_count_102 (by decide) ?_
                refine lv_istore_n (lv' := [(3, .int 0), (2, .int 0), (0, .ref q_this), (1, .int a_1)]) hx hb dX12_count_103 rfl hl (by decide) rfl (fun ls hl => ?_)
                exact t_L104 gFuel 0 0 v_found s.heap [] hP hD hS ls (lv_sub hl [2, 1, 0] rfl) h
              · replace h := it_f c_15 h
                by_cases c_16 : a_1 = 7
                · replace h := it_t c_16 h
                  refine lv_tableIn (x := a_1) (off := 137) (tgt := 140) hx hb dX12_count_3 (by rw [c_16]; decide) (by rw [c_16]; decide) (by rw [c_16]; rfl) (by decide) ?_
                  refine lv_aload_n hx hb dX12_count_140 rfl (lv_at hl 1 rfl) ?_
                  refine va_get (D := D) (ci := 12) (v := .ref q_d) (C := RX12) (T := TX12) (N := 26) hx hb hts in_X12_count_X12 hown hK.1 hP 0 rfl rfl 0 (by decide) (hts (.fieldLink RX12 7 "PaperBubblesModel" "d" "[I") (List.mem_of_getElem? (i := 1) rfl)) (fun _ h9 => h9) rfl dX12_count_141 ?_
                  refine lv_bipush (v := 9) hx hb dX12_count_144 (by decide) ?_
                  replace h := chi_ok h
                  obtain ⟨hi_17, h⟩ := h
                  refine va_iald hx hb hK.1 hP 1 0 rfl rfl hi_17 dX12_count_146 ?_
                  replace h := so2 h
                  obtain ⟨z0, z1⟩ := h
                  subst z0 z1
                  exact gIret hF hP hD hS rfl dX12_count_147
                · replace h := it_f c_16 h
                  by_cases c_18 : a_1 = 8
                  · replace h := it_t c_18 h
                    refine lv_tableIn (x := a_1) (off := 145) (tgt := 148) hx hb dX12_count_3 (by rw [c_18]; decide) (by rw [c_18]; decide) (by rw [c_18]; rfl) (by decide) ?_
                    refine lv_aload_n hx hb dX12_count_148 rfl (lv_at hl 1 rfl) ?_
                    refine va_get (D := D) (ci := 12) (v := .ref q_d) (C := RX12) (T := TX12) (N := 26) hx hb hts in_X12_count_X12 hown hK.1 hP 0 rfl rfl 0 (by decide) (hts (.fieldLink RX12 7 "PaperBubblesModel" "d" "[I") (List.mem_of_getElem? (i := 1) rfl)) (fun _ h9 => h9) rfl dX12_count_149 ?_
                    refine lv_bipush (v := 7) hx hb dX12_count_152 (by decide) ?_
                    replace h := chi_ok h
                    obtain ⟨hi_19, h⟩ := h
                    refine va_iald hx hb hK.1 hP 1 0 rfl rfl hi_19 dX12_count_154 ?_
                    replace h := so2 h
                    obtain ⟨z0, z1⟩ := h
                    subst z0 z1
                    exact gIret hF hP hD hS rfl dX12_count_155
                  · replace h := it_f c_18 h
                    by_cases c_20 : a_1 = 9
                    · replace h := it_t c_20 h
                      refine lv_tableIn (x := a_1) (off := 153) (tgt := 156) hx hb dX12_count_3 (by rw [c_20]; decide) (by rw [c_20]; decide) (by rw [c_20]; rfl) (by decide) ?_
                      refine lv_aload_n hx hb dX12_count_156 rfl (lv_at hl 1 rfl) ?_
                      refine va_get (D := D) (ci := 12) (v := .ref q_d) (C := RX12) (T := TX12) (N := 26) hx hb hts in_X12_count_X12 hown hK.1 hP 0 rfl rfl 0 (by decide) (hts (.fieldLink RX12 7 "PaperBubblesModel" "d" "[I") (List.mem_of_getElem? (i := 1) rfl)) (fun _ h9 => h9) rfl dX12_count_157 ?_
                      refine lv_bipush (v := 8) hx hb dX12_count_160 (by decide) ?_
                      replace h := chi_ok h
                      obtain ⟨hi_21, h⟩ := h
                      refine va_iald hx hb hK.1 hP 1 0 rfl rfl hi_21 dX12_count_162 ?_
                      replace h := so2 h
                      obtain ⟨z0, z1⟩ := h
                      subst z0 z1
                      exact gIret hF hP hD hS rfl dX12_count_163
                    · replace h := it_f c_20 h
                      by_cases c_22 : a_1 = 10
                      · replace h := it_t c_22 h
                        refine lv_tableIn (x := a_1) (off := 161) (tgt := 164) hx hb dX12_count_3 (by rw [c_22]; decide) (by rw [c_22]; decide) (by rw [c_22]; rfl) (by decide) ?_
                        refine lv_aload_n hx hb dX12_count_164 rfl (lv_at hl 1 rfl) ?_
                        refine va_get (D := D) (ci := 12) (v := .int v_traceMany) (C := RX12) (T := TX12) (N := 26) hx hb hts in_X12_count_X12 hown hK.1 hP 0 rfl rfl 20 (by decide) (hts (.fieldLink RX12 259 "PaperBubblesModel" "traceMany" "I") (List.mem_of_getElem? (i := 2) rfl)) (fun _ h9 => h9) rfl dX12_count_165 ?_
                        replace h := so2 h
                        obtain ⟨z0, z1⟩ := h
                        subst z0 z1
                        exact gIret hF hP hD hS rfl dX12_count_168
                      · replace h := it_f c_22 h
                        by_cases c_23 : a_1 = 11
                        · replace h := it_t c_23 h
                          refine lv_tableIn (x := a_1) (off := 166) (tgt := 169) hx hb dX12_count_3 (by rw [c_23]; decide) (by rw [c_23]; decide) (by rw [c_23]; rfl) (by decide) ?_
                          refine lv_aload_n hx hb dX12_count_169 rfl (lv_at hl 1 rfl) ?_
                          refine va_get (D := D) (ci := 12) (v := .ref q_d) (C := RX12) (T := TX12) (N := 26) hx hb hts in_X12_count_X12 hown hK.1 hP 0 rfl rfl 0 (by decide) (hts (.fieldLink RX12 7 "PaperBubblesModel" "d" "[I") (List.mem_of_getElem? (i := 1) rfl)) (fun _ h9 => h9) rfl dX12_count_170 ?_
                          refine lv_bipush (v := 6) hx hb dX12_count_173 (by decide) ?_
                          replace h := chi_ok h
                          obtain ⟨hi_24, h⟩ := h
                          refine va_iald hx hb hK.1 hP 1 0 rfl rfl hi_24 dX12_count_175 ?_
                          replace h := so2 h
                          obtain ⟨z0, z1⟩ := h
                          subst z0 z1
                          exact gIret hF hP hD hS rfl dX12_count_176
                        · replace h := it_f c_23 h
                          refine lv_tableOut (x := a_1) (tgt := 177) hx hb dX12_count_3 (by have q0 := gNe (z := 0) (by decide) c_1; have q1 := gNe (z := 1) (by decide) c_4; have q2 := gNe (z := 2) (by decide) c_6; have q3 := gNe (z := 3) (by decide) c_9; have q4 := gNe (z := 4) (by decide) c_11; have q5 := gNe (z := 5) (by decide) c_13; have q6 := gNe (z := 6) (by decide) c_15; have q7 := gNe (z := 7) (by decide) c_16; have q8 := gNe (z := 8) (by decide) c_18; have q9 := gNe (z := 9) (by decide) c_20; have q10 := gNe (z := 10) (by decide) c_22; have q11 := gNe (z := 11) (by decide) c_23; omega) (by decide) ?_
                          refine lv_aload_n hx hb dX12_count_177 rfl (lv_at hl 1 rfl) ?_
                          refine lv_iconst (v := 1) hx hb dX12_count_178 (by decide) ?_
                          replace h := kb2_ok h
                          obtain ⟨r_26, w_27, hc_25, h⟩ := h
                          refine gCallI (isC := [0, 2]) (wc := [(q_this, .inr (12, [.ref q_d, .ref q_kept, .int v_images, .ref q_found, .ref q_aside, .int v_base, .int v_at, .int v_size, .int v_fault, .int v_opened, .int v_isSeen, .ref q_names, .ref q_seenKept, .ref q_movedKept, .int v_isKeeping, .int v_bubbleMany, .int v_bubbleMost, .int v_bubbleCell, .int v_bestShown, .ref q_traced, .int v_traceMany, .int v_who, .ref q_bitsOf, .ref q_sizeOf, .ref q_number, .ref q_lifted])), (q_found, .inl (c 0, 6, .inl v_found))]) (w1 := [(q_this, .inr (12, [.ref q_d, .ref q_kept, .int v_images, .ref q_found, .ref q_aside, .int v_base, .int v_at, .int v_size, .int v_fault, .int v_opened, .int v_isSeen, .ref q_names, .ref q_seenKept, .ref q_movedKept, .int v_isKeeping, .int v_bubbleMany, .int v_bubbleMost, .int v_bubbleCell, .int v_bestShown, .ref q_traced, .int v_traceMany, .int v_who, .ref q_bitsOf, .ref q_sizeOf, .ref q_number, .ref q_lifted])), (q_found, .inl (c 0, 6, .inl w_27))]) (ws2 := [(q_this, .inr (12, [.ref q_d, .ref q_kept, .int v_images, .ref q_found, .ref q_aside, .int v_base, .int v_at, .int v_size, .int v_fault, .int v_opened, .int v_isSeen, .ref q_names, .ref q_seenKept, .ref q_movedKept, .int v_isKeeping, .int v_bubbleMany, .int v_bubbleMost, .int v_bubbleCell, .int v_bestShown, .ref q_traced, .int v_traceMany, .int v_who, .ref q_bitsOf, .ref q_sizeOf, .ref q_number, .ref q_lifted])), (q_d, .inl (c 0, 244, .inl v_d)), (q_found, .inl (c 0, 6, .inl w_27))]) (ms := [(some 0), none, (some 1)]) hP hD hS hA ⟨rfl, rfl, trivial⟩ (by decide +kernel) ⟨rfl, rfl, rfl, trivial⟩ (va_runV (rm := rm_X12_finds) (ws := wsX12_finds) (As := [.int 1]) (rest := []) (gFix hF) (c_X12_finds l D c q_this q_d q_kept q_found q_aside q_names q_seenKept q_movedKept q_traced q_bitsOf q_sizeOf q_number q_lifted 1 v_images v_base v_at v_size v_fault v_opened v_isSeen v_isKeeping v_bubbleMany v_bubbleMost v_bubbleCell v_bestShown v_traceMany v_who v_found r_26 w_27 hc_25 s.heap.size) (cwV 1 hts gX12_count_X12_finds rfl rfl rfl (by decide +kernel) ⟨Nat.le_of_ble_eq_true rfl, Nat.le_of_ble_eq_true rfl⟩) (gPreV (wc := [(q_this, .inr (12, [.ref q_d, .ref q_kept, .int v_images, .ref q_found, .ref q_aside, .int v_base, .int v_at, .int v_size, .int v_fault, .int v_opened, .int v_isSeen, .ref q_names, .ref q_seenKept, .ref q_movedKept, .int v_isKeeping, .int v_bubbleMany, .int v_bubbleMost, .int v_bubbleCell, .int v_bestShown, .ref q_traced, .int v_traceMany, .int v_who, .ref q_bitsOf, .ref q_sizeOf, .ref q_number, .ref q_lifted])), (q_found, .inl (c 0, 6, .inl v_found))]) (q := (RX12, TX12, 26)) (ci := 12) (q0 := 0) (isC := [0, 2]) hK hX hS hA hP hD ⟨rfl, rfl, trivial⟩ (by decide +kernel) rfl rfl) rfl rfl hl.1 rfl (lv_room (Nat.le_of_ble_eq_true rfl)) dX12_count_179 ⟨Nat.le_of_ble_eq_true rfl, Nat.le_of_ble_eq_true rfl⟩) (fun H locs hP hD hS => ?_)
                          replace h := so2 h
                          obtain ⟨z0, z1⟩ := h
                          subst z0 z1
                          exact gIret hF hP hD hS rfl dX12_count_182
set_option maxRecDepth 20000 in
theorem in_X12_drawn_X12 : ∀ w ∈ u_ws RX12 TX12 26, w ∈ wsX12_drawn := by decide +kernel
abbrev rm_X12_drawn : Room := { frames := 0, cells := 0, slots := 0, locals := 0 }
set_option maxHeartbeats 4000000 in
set_option maxRecDepth 100000 in
theorem c_X12_drawn (l : Launch) (D : va_G) (c : Nat → ClassId) (q_this q_d q_kept q_found q_aside q_names q_seenKept q_movedKept q_traced q_bitsOf q_sizeOf q_number q_lifted : Nat) (v_images : Int32) (v_base : Int32) (v_at : Int32) (v_size : Int32) (v_fault : Int32) (v_opened : Int32) (v_isSeen : Int32) (v_isKeeping : Int32) (v_bubbleMany : Int32) (v_bubbleMost : Int32) (v_bubbleCell : Int32) (v_bestShown : Int32) (v_traceMany : Int32) (v_who : Int32) (v_d : Nat → Int32) (o_r : Int32) (o_v_d : Nat → Int32) (h : f_X12_drawn v_d = some (o_r, o_v_d)) : gMI l yX12_drawn wsX12_drawn rm_X12_drawn D c [.ref q_this] [(q_this, .inr (12, [.ref q_d, .ref q_kept, .int v_images, .ref q_found, .ref q_aside, .int v_base, .int v_at, .int v_size, .int v_fault, .int v_opened, .int v_isSeen, .ref q_names, .ref q_seenKept, .ref q_movedKept, .int v_isKeeping, .int v_bubbleMany, .int v_bubbleMost, .int v_bubbleCell, .int v_bestShown, .ref q_traced, .int v_traceMany, .int v_who, .ref q_bitsOf, .ref q_sizeOf, .ref q_number, .ref q_lifted])), (q_d, .inl (c 0, 244, .inl v_d))] [(q_this, .inr (12, [.ref q_d, .ref q_kept, .int v_images, .ref q_found, .ref q_aside, .int v_base, .int v_at, .int v_size, .int v_fault, .int v_opened, .int v_isSeen, .ref q_names, .ref q_seenKept, .ref q_movedKept, .int v_isKeeping, .int v_bubbleMany, .int v_bubbleMost, .int v_bubbleCell, .int v_bestShown, .ref q_traced, .int v_traceMany, .int v_who, .ref q_bitsOf, .ref q_sizeOf, .ref q_number, .ref q_lifted])), (q_d, .inl (c 0, 244, .inl o_v_d))] o_r := by
  refine gMI_of (cc := cX12_drawn) (maxL := 1) (rt := (some .int)) (by decide +kernel) rfl (Nat.le_of_ble_eq_true rfl) ?_
  intro p e s m below meth co A hF hK hX hP hD hA hS ls hl
  obtain ⟨hx, hb, hr, hts, hown, hlocks, hml⟩ := id hF
  have hl : lv_has ls 1 [(0, .ref q_this)] := hl
  unfold f_X12_drawn at h
  refine lv_aload_n hx hb dX12_drawn_0 rfl (lv_at hl 0 rfl) ?_
  refine va_get (D := D) (ci := 12) (v := .ref q_d) (C := RX12) (T := TX12) (N := 26) hx hb hts in_X12_drawn_X12 hown hK.1 hP 0 rfl rfl 0 (by decide) (hts (.fieldLink RX12 7 "PaperBubblesModel" "d" "[I") (List.mem_of_getElem? (i := 1) rfl)) (fun _ h9 => h9) rfl dX12_drawn_1 ?_
  refine lv_bipush (v := 6) hx hb dX12_drawn_4 (by decide) ?_
  refine lv_aload_n hx hb dX12_drawn_6 rfl (lv_at hl 0 rfl) ?_
  refine va_get (D := D) (ci := 12) (v := .ref q_d) (C := RX12) (T := TX12) (N := 26) hx hb hts in_X12_drawn_X12 hown hK.1 hP 0 rfl rfl 0 (by decide) (hts (.fieldLink RX12 7 "PaperBubblesModel" "d" "[I") (List.mem_of_getElem? (i := 1) rfl)) (fun _ h9 => h9) rfl dX12_drawn_7 ?_
  refine lv_bipush (v := 6) hx hb dX12_drawn_10 (by decide) ?_
  replace h := chi_ok h
  obtain ⟨hi_1, h⟩ := h
  refine va_iald hx hb hK.1 hP 1 0 rfl rfl hi_1 dX12_drawn_12 ?_
  replace h := nm_ok h
  obtain ⟨t_2, et_2, h⟩ := h
  refine gTop et_2 ?_
  refine lv_ldc (v := 1103515245) hx hb hown (hts (.constant RX12 217 (1103515245)) (List.mem_of_getElem? (i := 2) rfl)) dX12_drawn_13 ?_
  refine lv_imul hx hb dX12_drawn_15 ?_
  replace h := nm_ok h
  obtain ⟨t_3, et_3, h⟩ := h
  refine gTop et_3 ?_
  refine lv_sipush (v := 12345) hx hb dX12_drawn_16 (by decide) ?_
  refine lv_iadd hx hb dX12_drawn_19 ?_
  replace h := nm_ok h
  obtain ⟨t_4, et_4, h⟩ := h
  refine gTop et_4 ?_
  replace h := chi_ok h
  obtain ⟨hi_5, h⟩ := h
  replace h := nm_ok h
  obtain ⟨w_6, ew_6, h⟩ := h
  refine va_iast hx hb hK.1 hP hD hS 1 0 rfl rfl hi_5 dX12_drawn_20 (fun H locs hP hD hS => ?_)
  have hP : va_P D gcl [(q_this, .inr (12, [.ref q_d, .ref q_kept, .int v_images, .ref q_found, .ref q_aside, .int v_base, .int v_at, .int v_size, .int v_fault, .int v_opened, .int v_isSeen, .ref q_names, .ref q_seenKept, .ref q_movedKept, .int v_isKeeping, .int v_bubbleMany, .int v_bubbleMost, .int v_bubbleCell, .int v_bestShown, .ref q_traced, .int v_traceMany, .int v_who, .ref q_bitsOf, .ref q_sizeOf, .ref q_number, .ref q_lifted])), (q_d, .inl (c 0, 244, .inl w_6))] H := by subst ew_6; exact hP
  have hD : va_D A [(q_this, .inr (12, [.ref q_d, .ref q_kept, .int v_images, .ref q_found, .ref q_aside, .int v_base, .int v_at, .int v_size, .int v_fault, .int v_opened, .int v_isSeen, .ref q_names, .ref q_seenKept, .ref q_movedKept, .int v_isKeeping, .int v_bubbleMany, .int v_bubbleMost, .int v_bubbleCell, .int v_bestShown, .ref q_traced, .int v_traceMany, .int v_who, .ref q_bitsOf, .ref q_sizeOf, .ref q_number, .ref q_lifted])), (q_d, .inl (c 0, 244, .inl w_6))] := by subst ew_6; exact hD
  refine lv_aload_n hx hb dX12_drawn_21 rfl (lv_at hl 0 rfl) ?_
  refine va_get (D := D) (ci := 12) (v := .ref q_d) (C := RX12) (T := TX12) (N := 26) hx hb hts in_X12_drawn_X12 hown hK.1 hP 0 rfl rfl 0 (by decide) (hts (.fieldLink RX12 7 "PaperBubblesModel" "d" "[I") (List.mem_of_getElem? (i := 1) rfl)) (fun _ h9 => h9) rfl dX12_drawn_22 ?_
  refine lv_bipush (v := 6) hx hb dX12_drawn_25 (by decide) ?_
  replace h := chi_ok h
  obtain ⟨hi_7, h⟩ := h
  refine va_iald hx hb hK.1 hP 1 0 rfl rfl hi_7 dX12_drawn_27 ?_
  replace h := nm_ok h
  obtain ⟨t_8, et_8, h⟩ := h
  refine gTop et_8 ?_
  refine lv_bipush (v := 8) hx hb dX12_drawn_28 (by decide) ?_
  refine lv_iushr hx hb dX12_drawn_30 rfl ?_
  replace h := so2 h
  obtain ⟨z0, z1⟩ := h
  subst z0 z1
  exact gIret hF hP hD hS rfl dX12_drawn_31
set_option maxRecDepth 20000 in
theorem in_X12_days_X12 : ∀ w ∈ u_ws RX12 TX12 26, w ∈ wsX12_days := by decide +kernel
abbrev rm_X12_days : Room := { frames := 59, cells := 0, slots := 0, locals := 1361 }
set_option maxHeartbeats 4000000 in
set_option maxRecDepth 100000 in
theorem c_X12_days (l : Launch) (D : va_G) (c : Nat → ClassId) (q_this q_d q_kept q_found q_aside q_names q_seenKept q_movedKept q_traced q_bitsOf q_sizeOf q_number q_lifted : Nat) (a_1 : Int32) (v_images : Int32) (v_base : Int32) (v_at : Int32) (v_size : Int32) (v_fault : Int32) (v_opened : Int32) (v_isSeen : Int32) (v_isKeeping : Int32) (v_bubbleMany : Int32) (v_bubbleMost : Int32) (v_bubbleCell : Int32) (v_bestShown : Int32) (v_traceMany : Int32) (v_who : Int32) (v_d : Nat → Int32) (v_found : Nat → Int32) (v_movedKept : Nat → Int32) (v_names : Nat → Int32) (o_r : Int32) (o_v_base : Int32) (o_v_at : Int32) (o_v_size : Int32) (o_v_fault : Int32) (o_v_opened : Int32) (o_v_isSeen : Int32) (o_v_d : Nat → Int32) (o_v_found : Nat → Int32) (o_v_movedKept : Nat → Int32) (o_v_names : Nat → Int32) (h : f_X12_days a_1 v_base v_at v_size v_fault v_opened v_isSeen v_isKeeping v_d v_found v_movedKept v_names = some (o_r, o_v_base, o_v_at, o_v_size, o_v_fault, o_v_opened, o_v_isSeen, o_v_d, o_v_found, o_v_movedKept, o_v_names)) : gMI l yX12_days wsX12_days rm_X12_days D c [.ref q_this, .int a_1] [(q_this, .inr (12, [.ref q_d, .ref q_kept, .int v_images, .ref q_found, .ref q_aside, .int v_base, .int v_at, .int v_size, .int v_fault, .int v_opened, .int v_isSeen, .ref q_names, .ref q_seenKept, .ref q_movedKept, .int v_isKeeping, .int v_bubbleMany, .int v_bubbleMost, .int v_bubbleCell, .int v_bestShown, .ref q_traced, .int v_traceMany, .int v_who, .ref q_bitsOf, .ref q_sizeOf, .ref q_number, .ref q_lifted])), (q_d, .inl (c 0, 244, .inl v_d)), (q_found, .inl (c 0, 6, .inl v_found)), (q_movedKept, .inl (c 0, 1000, .inl v_movedKept)), (q_names, .inl (c 0, 3, .inl v_names))] [(q_this, .inr (12, [.ref q_d, .ref q_kept, .int v_images, .ref q_found, .ref q_aside, .int o_v_base, .int o_v_at, .int o_v_size, .int o_v_fault, .int o_v_opened, .int o_v_isSeen, .ref q_names, .ref q_seenKept, .ref q_movedKept, .int v_isKeeping, .int v_bubbleMany, .int v_bubbleMost, .int v_bubbleCell, .int v_bestShown, .ref q_traced, .int v_traceMany, .int v_who, .ref q_bitsOf, .ref q_sizeOf, .ref q_number, .ref q_lifted])), (q_d, .inl (c 0, 244, .inl o_v_d)), (q_found, .inl (c 0, 6, .inl o_v_found)), (q_movedKept, .inl (c 0, 1000, .inl o_v_movedKept)), (q_names, .inl (c 0, 3, .inl o_v_names))] o_r := by
  refine gMI_of (cc := cX12_days) (maxL := 6) (rt := (some .int)) (by decide +kernel) rfl (Nat.le_of_ble_eq_true rfl) ?_
  intro p e s m below meth co A hF hK hX hP hD hA hS ls hl
  obtain ⟨hx, hb, hr, hts, hown, hlocks, hml⟩ := id hF
  have hl : lv_has ls 6 [(0, .ref q_this), (1, .int a_1)] := hl
  have t_L41 : ∀ (v_base : Int32) (v_at : Int32) (v_size : Int32) (v_fault : Int32) (v_opened : Int32) (v_isSeen : Int32) (v_d : Nat → Int32) (v_found : Nat → Int32) (v_movedKept : Nat → Int32) (v_names : Nat → Int32) (H : Heap) (locs : List Loc), va_P D gcl [(q_this, .inr (12, [.ref q_d, .ref q_kept, .int v_images, .ref q_found, .ref q_aside, .int v_base, .int v_at, .int v_size, .int v_fault, .int v_opened, .int v_isSeen, .ref q_names, .ref q_seenKept, .ref q_movedKept, .int v_isKeeping, .int v_bubbleMany, .int v_bubbleMost, .int v_bubbleCell, .int v_bestShown, .ref q_traced, .int v_traceMany, .int v_who, .ref q_bitsOf, .ref q_sizeOf, .ref q_number, .ref q_lifted])), (q_d, .inl (c 0, 244, .inl v_d)), (q_found, .inl (c 0, 6, .inl v_found)), (q_movedKept, .inl (c 0, 1000, .inl v_movedKept)), (q_names, .inl (c 0, 3, .inl v_names))] H → va_D A [(q_this, .inr (12, [.ref q_d, .ref q_kept, .int v_images, .ref q_found, .ref q_aside, .int v_base, .int v_at, .int v_size, .int v_fault, .int v_opened, .int v_isSeen, .ref q_names, .ref q_seenKept, .ref q_movedKept, .int v_isKeeping, .int v_bubbleMany, .int v_bubbleMost, .int v_bubbleCell, .int v_bestShown, .ref q_traced, .int v_traceMany, .int v_who, .ref q_bitsOf, .ref q_sizeOf, .ref q_number, .ref q_lifted])), (q_d, .inl (c 0, 244, .inl v_d)), (q_found, .inl (c 0, 6, .inl v_found)), (q_movedKept, .inl (c 0, 1000, .inl v_movedKept)), (q_names, .inl (c 0, 3, .inl v_names))] → va_S A s.heap H locs → ∀ ls, lv_has ls 6 [(0, .ref q_this)] → f_X12_days_L41 v_base v_at v_size v_fault v_opened v_isSeen v_d v_found v_movedKept v_names = some (o_r, o_v_base, o_v_at, o_v_size, o_v_fault, o_v_opened, o_v_isSeen, o_v_d, o_v_found, o_v_movedKept, o_v_names) → W p l e (headSpec wsX12_days rm_X12_days).room s m [.ref q_this, .int a_1].toArray below meth co H locs 0 0 (gQI D [(q_this, .inr (12, [.ref q_d, .ref q_kept, .int v_images, .ref q_found, .ref q_aside, .int o_v_base, .int o_v_at, .int o_v_size, .int o_v_fault, .int o_v_opened, .int o_v_isSeen, .ref q_names, .ref q_seenKept, .ref q_movedKept, .int v_isKeeping, .int v_bubbleMany, .int v_bubbleMost, .int v_bubbleCell, .int v_bestShown, .ref q_traced, .int v_traceMany, .int v_who, .ref q_bitsOf, .ref q_sizeOf, .ref q_number, .ref q_lifted])), (q_d, .inl (c 0, 244, .inl o_v_d)), (q_found, .inl (c 0, 6, .inl o_v_found)), (q_movedKept, .inl (c 0, 1000, .inl o_v_movedKept)), (q_names, .inl (c 0, 3, .inl o_v_names))] o_r A below [.ref q_this, .int a_1] s) (F0 m 41 ls []) := by
    intro  v_base v_at v_size v_fault v_opened v_isSeen v_d v_found v_movedKept v_names H locs hP hD hS ls hl h
    unfold f_X12_days_L41 at h
    refine lv_aload_n hx hb dX12_days_41 rfl (lv_at hl 0 rfl) ?_
    refine lv_iconst (v := 3) hx hb dX12_days_42 (by decide) ?_
    replace h := kb2_ok h
    obtain ⟨r_14, w_15, hc_13, h⟩ := h
    refine gCallI (isC := [0, 2]) (wc := [(q_this, .inr (12, [.ref q_d, .ref q_kept, .int v_images, .ref q_found, .ref q_aside, .int v_base, .int v_at, .int v_size, .int v_fault, .int v_opened, .int v_isSeen, .ref q_names, .ref q_seenKept, .ref q_movedKept, .int v_isKeeping, .int v_bubbleMany, .int v_bubbleMost, .int v_bubbleCell, .int v_bestShown, .ref q_traced, .int v_traceMany, .int v_who, .ref q_bitsOf, .ref q_sizeOf, .ref q_number, .ref q_lifted])), (q_found, .inl (c 0, 6, .inl v_found))]) (w1 := [(q_this, .inr (12, [.ref q_d, .ref q_kept, .int v_images, .ref q_found, .ref q_aside, .int v_base, .int v_at, .int v_size, .int v_fault, .int v_opened, .int v_isSeen, .ref q_names, .ref q_seenKept, .ref q_movedKept, .int v_isKeeping, .int v_bubbleMany, .int v_bubbleMost, .int v_bubbleCell, .int v_bestShown, .ref q_traced, .int v_traceMany, .int v_who, .ref q_bitsOf, .ref q_sizeOf, .ref q_number, .ref q_lifted])), (q_found, .inl (c 0, 6, .inl w_15))]) (ws2 := [(q_this, .inr (12, [.ref q_d, .ref q_kept, .int v_images, .ref q_found, .ref q_aside, .int v_base, .int v_at, .int v_size, .int v_fault, .int v_opened, .int v_isSeen, .ref q_names, .ref q_seenKept, .ref q_movedKept, .int v_isKeeping, .int v_bubbleMany, .int v_bubbleMost, .int v_bubbleCell, .int v_bestShown, .ref q_traced, .int v_traceMany, .int v_who, .ref q_bitsOf, .ref q_sizeOf, .ref q_number, .ref q_lifted])), (q_d, .inl (c 0, 244, .inl v_d)), (q_found, .inl (c 0, 6, .inl w_15)), (q_movedKept, .inl (c 0, 1000, .inl v_movedKept)), (q_names, .inl (c 0, 3, .inl v_names))]) (ms := [(some 0), none, (some 1), none, none]) hP hD hS hA ⟨rfl, rfl, trivial⟩ (by decide +kernel) ⟨rfl, rfl, rfl, rfl, rfl, trivial⟩ (va_runV (rm := rm_X12_finds) (ws := wsX12_finds) (As := [.int 3]) (rest := []) (gFix hF) (c_X12_finds l D c q_this q_d q_kept q_found q_aside q_names q_seenKept q_movedKept q_traced q_bitsOf q_sizeOf q_number q_lifted 3 v_images v_base v_at v_size v_fault v_opened v_isSeen v_isKeeping v_bubbleMany v_bubbleMost v_bubbleCell v_bestShown v_traceMany v_who v_found r_14 w_15 hc_13 H.size) (cwV 1 hts gX12_days_X12_finds rfl rfl rfl (by decide +kernel) ⟨Nat.le_of_ble_eq_true rfl, Nat.le_of_ble_eq_true rfl⟩) (gPreV (wc := [(q_this, .inr (12, [.ref q_d, .ref q_kept, .int v_images, .ref q_found, .ref q_aside, .int v_base, .int v_at, .int v_size, .int v_fault, .int v_opened, .int v_isSeen, .ref q_names, .ref q_seenKept, .ref q_movedKept, .int v_isKeeping, .int v_bubbleMany, .int v_bubbleMost, .int v_bubbleCell, .int v_bestShown, .ref q_traced, .int v_traceMany, .int v_who, .ref q_bitsOf, .ref q_sizeOf, .ref q_number, .ref q_lifted])), (q_found, .inl (c 0, 6, .inl v_found))]) (q := (RX12, TX12, 26)) (ci := 12) (q0 := 0) (isC := [0, 2]) hK hX hS hA hP hD ⟨rfl, rfl, trivial⟩ (by decide +kernel) rfl rfl) rfl rfl hl.1 rfl (lv_room (Nat.le_of_ble_eq_true rfl)) dX12_days_43 ⟨Nat.le_of_ble_eq_true rfl, Nat.le_of_ble_eq_true rfl⟩) (fun H locs hP hD hS => ?_)
    replace h := so11 h
    obtain ⟨z0, z1, z2, z3, z4, z5, z6, z7, z8, z9, z10⟩ := h
    subst z0 z1 z2 z3 z4 z5 z6 z7 z8 z9 z10
    exact gIret hF hP hD hS rfl dX12_days_46
  have t_L49 : ∀ (n : Nat), ∀ (x2 : Int32) (v_base : Int32) (v_at : Int32) (v_size : Int32) (v_fault : Int32) (v_opened : Int32) (v_isSeen : Int32) (v_d : Nat → Int32) (v_found : Nat → Int32) (v_movedKept : Nat → Int32) (v_names : Nat → Int32) (H : Heap) (locs : List Loc), va_P D gcl [(q_this, .inr (12, [.ref q_d, .ref q_kept, .int v_images, .ref q_found, .ref q_aside, .int v_base, .int v_at, .int v_size, .int v_fault, .int v_opened, .int v_isSeen, .ref q_names, .ref q_seenKept, .ref q_movedKept, .int v_isKeeping, .int v_bubbleMany, .int v_bubbleMost, .int v_bubbleCell, .int v_bestShown, .ref q_traced, .int v_traceMany, .int v_who, .ref q_bitsOf, .ref q_sizeOf, .ref q_number, .ref q_lifted])), (q_d, .inl (c 0, 244, .inl v_d)), (q_found, .inl (c 0, 6, .inl v_found)), (q_movedKept, .inl (c 0, 1000, .inl v_movedKept)), (q_names, .inl (c 0, 3, .inl v_names))] H → va_D A [(q_this, .inr (12, [.ref q_d, .ref q_kept, .int v_images, .ref q_found, .ref q_aside, .int v_base, .int v_at, .int v_size, .int v_fault, .int v_opened, .int v_isSeen, .ref q_names, .ref q_seenKept, .ref q_movedKept, .int v_isKeeping, .int v_bubbleMany, .int v_bubbleMost, .int v_bubbleCell, .int v_bestShown, .ref q_traced, .int v_traceMany, .int v_who, .ref q_bitsOf, .ref q_sizeOf, .ref q_number, .ref q_lifted])), (q_d, .inl (c 0, 244, .inl v_d)), (q_found, .inl (c 0, 6, .inl v_found)), (q_movedKept, .inl (c 0, 1000, .inl v_movedKept)), (q_names, .inl (c 0, 3, .inl v_names))] → va_S A s.heap H locs → ∀ ls, lv_has ls 6 [(0, .ref q_this), (1, .int a_1), (2, .int x2)] → f_X12_days_L49 a_1 v_isKeeping n x2 v_base v_at v_size v_fault v_opened v_isSeen v_d v_found v_movedKept v_names = some (o_r, o_v_base, o_v_at, o_v_size, o_v_fault, o_v_opened, o_v_isSeen, o_v_d, o_v_found, o_v_movedKept, o_v_names) → W p l e (headSpec wsX12_days rm_X12_days).room s m [.ref q_this, .int a_1].toArray below meth co H locs 0 0 (gQI D [(q_this, .inr (12, [.ref q_d, .ref q_kept, .int v_images, .ref q_found, .ref q_aside, .int o_v_base, .int o_v_at, .int o_v_size, .int o_v_fault, .int o_v_opened, .int o_v_isSeen, .ref q_names, .ref q_seenKept, .ref q_movedKept, .int v_isKeeping, .int v_bubbleMany, .int v_bubbleMost, .int v_bubbleCell, .int v_bestShown, .ref q_traced, .int v_traceMany, .int v_who, .ref q_bitsOf, .ref q_sizeOf, .ref q_number, .ref q_lifted])), (q_d, .inl (c 0, 244, .inl o_v_d)), (q_found, .inl (c 0, 6, .inl o_v_found)), (q_movedKept, .inl (c 0, 1000, .inl o_v_movedKept)), (q_names, .inl (c 0, 3, .inl o_v_names))] o_r A below [.ref q_this, .int a_1] s) (F0 m 49 ls []) := by
    intro n
    induction n with
    | zero => intro x2 v_base v_at v_size v_fault v_opened v_isSeen v_d v_found v_movedKept v_names H locs hP hD hS ls hl h; exact no_ok h
    | succ n ih =>
      intro x2 v_base v_at v_size v_fault v_opened v_isSeen v_d v_found v_movedKept v_names H locs hP hD hS ls hl h
      rw [f_X12_days_L49] at h
      refine lv_iload_n hx hb dX12_days_49 rfl (lv_at hl 2 rfl) ?_
      refine lv_iload_n hx hb dX12_days_50 rfl (lv_at hl 1 rfl) ?_
      refine lv_icmp_ge (tgt := 104) hx hb dX12_days_51 (by decide) (fun c_16 => ?_) (fun c_16 => ?_)
      · replace h := it_t c_16 h
        refine lv_aload_n hx hb dX12_days_104 rfl (lv_at hl 0 rfl) ?_
        replace h := kb_ok h
        obtain ⟨r_18, hc_17, h⟩ := h
        refine gCallIr (isC := [0, 1]) (wc := [(q_this, .inr (12, [.ref q_d, .ref q_kept, .int v_images, .ref q_found, .ref q_aside, .int v_base, .int v_at, .int v_size, .int v_fault, .int v_opened, .int v_isSeen, .ref q_names, .ref q_seenKept, .ref q_movedKept, .int v_isKeeping, .int v_bubbleMany, .int v_bubbleMost, .int v_bubbleCell, .int v_bestShown, .ref q_traced, .int v_traceMany, .int v_who, .ref q_bitsOf, .ref q_sizeOf, .ref q_number, .ref q_lifted])), (q_d, .inl (c 0, 244, .inl v_d))]) hP hD hS hA ⟨rfl, rfl, trivial⟩ (va_runV (rm := rm_X12_allAir) (ws := wsX12_allAir) (As := []) (rest := []) (gFix hF) (c_X12_allAir l D c q_this q_d q_kept q_found q_aside q_names q_seenKept q_movedKept q_traced q_bitsOf q_sizeOf q_number q_lifted v_images v_base v_at v_size v_fault v_opened v_isSeen v_isKeeping v_bubbleMany v_bubbleMost v_bubbleCell v_bestShown v_traceMany v_who v_d r_18 hc_17 H.size) (cwV 0 hts gX12_days_X12_allAir rfl rfl rfl (by decide +kernel) ⟨Nat.le_of_ble_eq_true rfl, Nat.le_of_ble_eq_true rfl⟩) (gPreV (wc := [(q_this, .inr (12, [.ref q_d, .ref q_kept, .int v_images, .ref q_found, .ref q_aside, .int v_base, .int v_at, .int v_size, .int v_fault, .int v_opened, .int v_isSeen, .ref q_names, .ref q_seenKept, .ref q_movedKept, .int v_isKeeping, .int v_bubbleMany, .int v_bubbleMost, .int v_bubbleCell, .int v_bestShown, .ref q_traced, .int v_traceMany, .int v_who, .ref q_bitsOf, .ref q_sizeOf, .ref q_number, .ref q_lifted])), (q_d, .inl (c 0, 244, .inl v_d))]) (q := (RX12, TX12, 26)) (ci := 12) (q0 := 0) (isC := [0, 1]) hK hX hS hA hP hD ⟨rfl, rfl, trivial⟩ (by decide +kernel) rfl rfl) rfl rfl hl.1 rfl (lv_room (Nat.le_of_ble_eq_true rfl)) dX12_days_105 ⟨Nat.le_of_ble_eq_true rfl, Nat.le_of_ble_eq_true rfl⟩) (fun H locs hP hS => ?_)
        replace h := so11 h
        obtain ⟨z0, z1, z2, z3, z4, z5, z6, z7, z8, z9, z10⟩ := h
        subst z0 z1 z2 z3 z4 z5 z6 z7 z8 z9 z10
        exact gIret hF hP hD hS rfl dX12_days_108
      · replace h := it_f c_16 h
        refine lv_aload_n hx hb dX12_days_54 rfl (lv_at hl 0 rfl) ?_
        replace h := kb2_ok h
        obtain ⟨r_20, w_21, hc_19, h⟩ := h
        refine gCallI (isC := [0, 1]) (wc := [(q_this, .inr (12, [.ref q_d, .ref q_kept, .int v_images, .ref q_found, .ref q_aside, .int v_base, .int v_at, .int v_size, .int v_fault, .int v_opened, .int v_isSeen, .ref q_names, .ref q_seenKept, .ref q_movedKept, .int v_isKeeping, .int v_bubbleMany, .int v_bubbleMost, .int v_bubbleCell, .int v_bestShown, .ref q_traced, .int v_traceMany, .int v_who, .ref q_bitsOf, .ref q_sizeOf, .ref q_number, .ref q_lifted])), (q_d, .inl (c 0, 244, .inl v_d))]) (w1 := [(q_this, .inr (12, [.ref q_d, .ref q_kept, .int v_images, .ref q_found, .ref q_aside, .int v_base, .int v_at, .int v_size, .int v_fault, .int v_opened, .int v_isSeen, .ref q_names, .ref q_seenKept, .ref q_movedKept, .int v_isKeeping, .int v_bubbleMany, .int v_bubbleMost, .int v_bubbleCell, .int v_bestShown, .ref q_traced, .int v_traceMany, .int v_who, .ref q_bitsOf, .ref q_sizeOf, .ref q_number, .ref q_lifted])), (q_d, .inl (c 0, 244, .inl w_21))]) (ws2 := [(q_this, .inr (12, [.ref q_d, .ref q_kept, .int v_images, .ref q_found, .ref q_aside, .int v_base, .int v_at, .int v_size, .int v_fault, .int v_opened, .int v_isSeen, .ref q_names, .ref q_seenKept, .ref q_movedKept, .int v_isKeeping, .int v_bubbleMany, .int v_bubbleMost, .int v_bubbleCell, .int v_bestShown, .ref q_traced, .int v_traceMany, .int v_who, .ref q_bitsOf, .ref q_sizeOf, .ref q_number, .ref q_lifted])), (q_d, .inl (c 0, 244, .inl w_21)), (q_found, .inl (c 0, 6, .inl v_found)), (q_movedKept, .inl (c 0, 1000, .inl v_movedKept)), (q_names, .inl (c 0, 3, .inl v_names))]) (ms := [(some 0), (some 1), none, none, none]) hP hD hS hA ⟨rfl, rfl, trivial⟩ (by decide +kernel) ⟨rfl, rfl, rfl, rfl, rfl, trivial⟩ (va_runV (rm := rm_X12_drawn) (ws := wsX12_drawn) (As := []) (rest := []) (gFix hF) (c_X12_drawn l D c q_this q_d q_kept q_found q_aside q_names q_seenKept q_movedKept q_traced q_bitsOf q_sizeOf q_number q_lifted v_images v_base v_at v_size v_fault v_opened v_isSeen v_isKeeping v_bubbleMany v_bubbleMost v_bubbleCell v_bestShown v_traceMany v_who v_d r_20 w_21 hc_19 H.size) (cwV 0 hts gX12_days_X12_drawn rfl rfl rfl (by decide +kernel) ⟨Nat.le_of_ble_eq_true rfl, Nat.le_of_ble_eq_true rfl⟩) (gPreV (wc := [(q_this, .inr (12, [.ref q_d, .ref q_kept, .int v_images, .ref q_found, .ref q_aside, .int v_base, .int v_at, .int v_size, .int v_fault, .int v_opened, .int v_isSeen, .ref q_names, .ref q_seenKept, .ref q_movedKept, .int v_isKeeping, .int v_bubbleMany, .int v_bubbleMost, .int v_bubbleCell, .int v_bestShown, .ref q_traced, .int v_traceMany, .int v_who, .ref q_bitsOf, .ref q_sizeOf, .ref q_number, .ref q_lifted])), (q_d, .inl (c 0, 244, .inl v_d))]) (q := (RX12, TX12, 26)) (ci := 12) (q0 := 0) (isC := [0, 1]) hK hX hS hA hP hD ⟨rfl, rfl, trivial⟩ (by decide +kernel) rfl rfl) rfl rfl hl.1 rfl (lv_room (Nat.le_of_ble_eq_true rfl)) dX12_days_55 ⟨Nat.le_of_ble_eq_true rfl, Nat.le_of_ble_eq_true rfl⟩) (fun H locs hP hD hS => ?_)
        refine lv_aload_n hx hb dX12_days_58 rfl (lv_at hl 0 rfl) ?_
        refine va_get (D := D) (ci := 12) (v := .ref q_d) (C := RX12) (T := TX12) (N := 26) hx hb hts in_X12_days_X12 hown hK.1 hP 0 rfl rfl 0 (by decide) (hts (.fieldLink RX12 7 "PaperBubblesModel" "d" "[I") (List.mem_of_getElem? (i := 2) rfl)) (fun _ h9 => h9) rfl dX12_days_59 ?_
        refine lv_iconst (v := 2) hx hb dX12_days_62 (by decide) ?_
        replace h := chi_ok h
        obtain ⟨hi_22, h⟩ := h
        refine va_iald hx hb hK.1 hP 1 0 rfl rfl hi_22 dX12_days_63 ?_
        replace h := nm_ok h
        obtain ⟨t_23, et_23, h⟩ := h
        refine gTop et_23 ?_
        replace h := chz_ok h
        obtain ⟨hz_24, h⟩ := h
        refine lv_irem hx hb dX12_days_64 hz_24 ?_
        replace h := nm_ok h
        obtain ⟨t_25, et_25, h⟩ := h
        refine gTop et_25 ?_
        refine lv_istore_n (lv' := [(3, .int t_25), (0, .ref q_this), (1, .int a_1), (2, .int x2)]) hx hb dX12_days_65 rfl hl (by decide) rfl (fun ls hl => ?_)
        refine lv_aload_n hx hb dX12_days_66 rfl (lv_at hl 1 rfl) ?_
        replace h := kb2_ok h
        obtain ⟨r_27, w_28, hc_26, h⟩ := h
        refine gCallI (isC := [0, 1]) (wc := [(q_this, .inr (12, [.ref q_d, .ref q_kept, .int v_images, .ref q_found, .ref q_aside, .int v_base, .int v_at, .int v_size, .int v_fault, .int v_opened, .int v_isSeen, .ref q_names, .ref q_seenKept, .ref q_movedKept, .int v_isKeeping, .int v_bubbleMany, .int v_bubbleMost, .int v_bubbleCell, .int v_bestShown, .ref q_traced, .int v_traceMany, .int v_who, .ref q_bitsOf, .ref q_sizeOf, .ref q_number, .ref q_lifted])), (q_d, .inl (c 0, 244, .inl w_21))]) (w1 := [(q_this, .inr (12, [.ref q_d, .ref q_kept, .int v_images, .ref q_found, .ref q_aside, .int v_base, .int v_at, .int v_size, .int v_fault, .int v_opened, .int v_isSeen, .ref q_names, .ref q_seenKept, .ref q_movedKept, .int v_isKeeping, .int v_bubbleMany, .int v_bubbleMost, .int v_bubbleCell, .int v_bestShown, .ref q_traced, .int v_traceMany, .int v_who, .ref q_bitsOf, .ref q_sizeOf, .ref q_number, .ref q_lifted])), (q_d, .inl (c 0, 244, .inl w_28))]) (ws2 := [(q_this, .inr (12, [.ref q_d, .ref q_kept, .int v_images, .ref q_found, .ref q_aside, .int v_base, .int v_at, .int v_size, .int v_fault, .int v_opened, .int v_isSeen, .ref q_names, .ref q_seenKept, .ref q_movedKept, .int v_isKeeping, .int v_bubbleMany, .int v_bubbleMost, .int v_bubbleCell, .int v_bestShown, .ref q_traced, .int v_traceMany, .int v_who, .ref q_bitsOf, .ref q_sizeOf, .ref q_number, .ref q_lifted])), (q_d, .inl (c 0, 244, .inl w_28)), (q_found, .inl (c 0, 6, .inl v_found)), (q_movedKept, .inl (c 0, 1000, .inl v_movedKept)), (q_names, .inl (c 0, 3, .inl v_names))]) (ms := [(some 0), (some 1), none, none, none]) hP hD hS hA ⟨rfl, rfl, trivial⟩ (by decide +kernel) ⟨rfl, rfl, rfl, rfl, rfl, trivial⟩ (va_runV (rm := rm_X12_drawn) (ws := wsX12_drawn) (As := []) (rest := []) (gFix hF) (c_X12_drawn l D c q_this q_d q_kept q_found q_aside q_names q_seenKept q_movedKept q_traced q_bitsOf q_sizeOf q_number q_lifted v_images v_base v_at v_size v_fault v_opened v_isSeen v_isKeeping v_bubbleMany v_bubbleMost v_bubbleCell v_bestShown v_traceMany v_who w_21 r_27 w_28 hc_26 H.size) (cwV 0 hts gX12_days_X12_drawn rfl rfl rfl (by decide +kernel) ⟨Nat.le_of_ble_eq_true rfl, Nat.le_of_ble_eq_true rfl⟩) (gPreV (wc := [(q_this, .inr (12, [.ref q_d, .ref q_kept, .int v_images, .ref q_found, .ref q_aside, .int v_base, .int v_at, .int v_size, .int v_fault, .int v_opened, .int v_isSeen, .ref q_names, .ref q_seenKept, .ref q_movedKept, .int v_isKeeping, .int v_bubbleMany, .int v_bubbleMost, .int v_bubbleCell, .int v_bestShown, .ref q_traced, .int v_traceMany, .int v_who, .ref q_bitsOf, .ref q_sizeOf, .ref q_number, .ref q_lifted])), (q_d, .inl (c 0, 244, .inl w_21))]) (q := (RX12, TX12, 26)) (ci := 12) (q0 := 0) (isC := [0, 1]) hK hX hS hA hP hD ⟨rfl, rfl, trivial⟩ (by decide +kernel) rfl rfl) rfl rfl hl.1 rfl (lv_room (Nat.le_of_ble_eq_true rfl)) dX12_days_67 ⟨Nat.le_of_ble_eq_true rfl, Nat.le_of_ble_eq_true rfl⟩) (fun H locs hP hD hS => ?_)
        refine lv_aload_n hx hb dX12_days_70 rfl (lv_at hl 1 rfl) ?_
        replace h := kb_ok h
        obtain ⟨r_30, hc_29, h⟩ := h
        refine gCallIr (isC := [0, 1]) (wc := [(q_this, .inr (12, [.ref q_d, .ref q_kept, .int v_images, .ref q_found, .ref q_aside, .int v_base, .int v_at, .int v_size, .int v_fault, .int v_opened, .int v_isSeen, .ref q_names, .ref q_seenKept, .ref q_movedKept, .int v_isKeeping, .int v_bubbleMany, .int v_bubbleMost, .int v_bubbleCell, .int v_bestShown, .ref q_traced, .int v_traceMany, .int v_who, .ref q_bitsOf, .ref q_sizeOf, .ref q_number, .ref q_lifted])), (q_d, .inl (c 0, 244, .inl w_28))]) hP hD hS hA ⟨rfl, rfl, trivial⟩ (va_runV (rm := rm_X12_cells) (ws := wsX12_cells) (As := []) (rest := [.int r_27]) (gFix hF) (c_X12_cells l D c q_this q_d q_kept q_found q_aside q_names q_seenKept q_movedKept q_traced q_bitsOf q_sizeOf q_number q_lifted v_images v_base v_at v_size v_fault v_opened v_isSeen v_isKeeping v_bubbleMany v_bubbleMost v_bubbleCell v_bestShown v_traceMany v_who w_28 r_30 hc_29 H.size) (cwV 0 hts gX12_days_X12_cells rfl rfl rfl (by decide +kernel) ⟨Nat.le_of_ble_eq_true rfl, Nat.le_of_ble_eq_true rfl⟩) (gPreV (wc := [(q_this, .inr (12, [.ref q_d, .ref q_kept, .int v_images, .ref q_found, .ref q_aside, .int v_base, .int v_at, .int v_size, .int v_fault, .int v_opened, .int v_isSeen, .ref q_names, .ref q_seenKept, .ref q_movedKept, .int v_isKeeping, .int v_bubbleMany, .int v_bubbleMost, .int v_bubbleCell, .int v_bestShown, .ref q_traced, .int v_traceMany, .int v_who, .ref q_bitsOf, .ref q_sizeOf, .ref q_number, .ref q_lifted])), (q_d, .inl (c 0, 244, .inl w_28))]) (q := (RX12, TX12, 26)) (ci := 12) (q0 := 0) (isC := [0, 1]) hK hX hS hA hP hD ⟨rfl, rfl, trivial⟩ (by decide +kernel) rfl rfl) rfl rfl hl.1 rfl (lv_room (Nat.le_of_ble_eq_true rfl)) dX12_days_71 ⟨Nat.le_of_ble_eq_true rfl, Nat.le_of_ble_eq_true rfl⟩) (fun H locs hP hS => ?_)
        replace h := chz_ok h
        obtain ⟨hz_31, h⟩ := h
        refine lv_irem hx hb dX12_days_74 hz_31 ?_
        replace h := nm_ok h
        obtain ⟨t_32, et_32, h⟩ := h
        refine gTop et_32 ?_
        refine lv_istore (lv' := [(4, .int t_32), (3, .int t_25), (0, .ref q_this), (1, .int a_1), (2, .int x2)]) hx hb dX12_days_75 hl (by decide) rfl (fun ls hl => ?_)
        refine lv_aload_n hx hb dX12_days_77 rfl (lv_at hl 2 rfl) ?_
        replace h := kb2_ok h
        obtain ⟨r_34, w_35, hc_33, h⟩ := h
        refine gCallI (isC := [0, 1]) (wc := [(q_this, .inr (12, [.ref q_d, .ref q_kept, .int v_images, .ref q_found, .ref q_aside, .int v_base, .int v_at, .int v_size, .int v_fault, .int v_opened, .int v_isSeen, .ref q_names, .ref q_seenKept, .ref q_movedKept, .int v_isKeeping, .int v_bubbleMany, .int v_bubbleMost, .int v_bubbleCell, .int v_bestShown, .ref q_traced, .int v_traceMany, .int v_who, .ref q_bitsOf, .ref q_sizeOf, .ref q_number, .ref q_lifted])), (q_d, .inl (c 0, 244, .inl w_28))]) (w1 := [(q_this, .inr (12, [.ref q_d, .ref q_kept, .int v_images, .ref q_found, .ref q_aside, .int v_base, .int v_at, .int v_size, .int v_fault, .int v_opened, .int v_isSeen, .ref q_names, .ref q_seenKept, .ref q_movedKept, .int v_isKeeping, .int v_bubbleMany, .int v_bubbleMost, .int v_bubbleCell, .int v_bestShown, .ref q_traced, .int v_traceMany, .int v_who, .ref q_bitsOf, .ref q_sizeOf, .ref q_number, .ref q_lifted])), (q_d, .inl (c 0, 244, .inl w_35))]) (ws2 := [(q_this, .inr (12, [.ref q_d, .ref q_kept, .int v_images, .ref q_found, .ref q_aside, .int v_base, .int v_at, .int v_size, .int v_fault, .int v_opened, .int v_isSeen, .ref q_names, .ref q_seenKept, .ref q_movedKept, .int v_isKeeping, .int v_bubbleMany, .int v_bubbleMost, .int v_bubbleCell, .int v_bestShown, .ref q_traced, .int v_traceMany, .int v_who, .ref q_bitsOf, .ref q_sizeOf, .ref q_number, .ref q_lifted])), (q_d, .inl (c 0, 244, .inl w_35)), (q_found, .inl (c 0, 6, .inl v_found)), (q_movedKept, .inl (c 0, 1000, .inl v_movedKept)), (q_names, .inl (c 0, 3, .inl v_names))]) (ms := [(some 0), (some 1), none, none, none]) hP hD hS hA ⟨rfl, rfl, trivial⟩ (by decide +kernel) ⟨rfl, rfl, rfl, rfl, rfl, trivial⟩ (va_runV (rm := rm_X12_drawn) (ws := wsX12_drawn) (As := []) (rest := []) (gFix hF) (c_X12_drawn l D c q_this q_d q_kept q_found q_aside q_names q_seenKept q_movedKept q_traced q_bitsOf q_sizeOf q_number q_lifted v_images v_base v_at v_size v_fault v_opened v_isSeen v_isKeeping v_bubbleMany v_bubbleMost v_bubbleCell v_bestShown v_traceMany v_who w_28 r_34 w_35 hc_33 H.size) (cwV 0 hts gX12_days_X12_drawn rfl rfl rfl (by decide +kernel) ⟨Nat.le_of_ble_eq_true rfl, Nat.le_of_ble_eq_true rfl⟩) (gPreV (wc := [(q_this, .inr (12, [.ref q_d, .ref q_kept, .int v_images, .ref q_found, .ref q_aside, .int v_base, .int v_at, .int v_size, .int v_fault, .int v_opened, .int v_isSeen, .ref q_names, .ref q_seenKept, .ref q_movedKept, .int v_isKeeping, .int v_bubbleMany, .int v_bubbleMost, .int v_bubbleCell, .int v_bestShown, .ref q_traced, .int v_traceMany, .int v_who, .ref q_bitsOf, .ref q_sizeOf, .ref q_number, .ref q_lifted])), (q_d, .inl (c 0, 244, .inl w_28))]) (q := (RX12, TX12, 26)) (ci := 12) (q0 := 0) (isC := [0, 1]) hK hX hS hA hP hD ⟨rfl, rfl, trivial⟩ (by decide +kernel) rfl rfl) rfl rfl hl.1 rfl (lv_room (Nat.le_of_ble_eq_true rfl)) dX12_days_78 ⟨Nat.le_of_ble_eq_true rfl, Nat.le_of_ble_eq_true rfl⟩) (fun H locs hP hD hS => ?_)
        refine lv_iconst (v := 4) hx hb dX12_days_81 (by decide) ?_
        replace h := chz_ok h
        obtain ⟨hz_36, h⟩ := h
        refine lv_irem hx hb dX12_days_82 hz_36 ?_
        replace h := nm_ok h
        obtain ⟨t_37, et_37, h⟩ := h
        refine gTop et_37 ?_
        refine lv_istore (lv' := [(5, .int t_37), (4, .int t_32), (3, .int t_25), (0, .ref q_this), (1, .int a_1), (2, .int x2)]) hx hb dX12_days_83 hl (by decide) rfl (fun ls hl => ?_)
        refine lv_aload_n hx hb dX12_days_85 rfl (lv_at hl 3 rfl) ?_
        refine lv_iload_n hx hb dX12_days_86 rfl (lv_at hl 2 rfl) ?_
        refine lv_iload hx hb dX12_days_87 (lv_at hl 1 rfl) ?_
        refine lv_iload hx hb dX12_days_89 (lv_at hl 0 rfl) ?_
        replace h := kb9_ok h
        obtain ⟨w_39, w_40, w_41, w_42, w_43, w_44, w_45, w_46, w_47, hc_38, h⟩ := h
        refine gCallV (isC := [0, 1, 3, 4]) (wc := [(q_this, .inr (12, [.ref q_d, .ref q_kept, .int v_images, .ref q_found, .ref q_aside, .int v_base, .int v_at, .int v_size, .int v_fault, .int v_opened, .int v_isSeen, .ref q_names, .ref q_seenKept, .ref q_movedKept, .int v_isKeeping, .int v_bubbleMany, .int v_bubbleMost, .int v_bubbleCell, .int v_bestShown, .ref q_traced, .int v_traceMany, .int v_who, .ref q_bitsOf, .ref q_sizeOf, .ref q_number, .ref q_lifted])), (q_d, .inl (c 0, 244, .inl w_35)), (q_movedKept, .inl (c 0, 1000, .inl v_movedKept)), (q_names, .inl (c 0, 3, .inl v_names))]) (w1 := [(q_this, .inr (12, [.ref q_d, .ref q_kept, .int v_images, .ref q_found, .ref q_aside, .int w_39, .int w_40, .int w_41, .int w_42, .int w_43, .int w_44, .ref q_names, .ref q_seenKept, .ref q_movedKept, .int v_isKeeping, .int v_bubbleMany, .int v_bubbleMost, .int v_bubbleCell, .int v_bestShown, .ref q_traced, .int v_traceMany, .int v_who, .ref q_bitsOf, .ref q_sizeOf, .ref q_number, .ref q_lifted])), (q_d, .inl (c 0, 244, .inl w_45)), (q_movedKept, .inl (c 0, 1000, .inl w_46)), (q_names, .inl (c 0, 3, .inl w_47))]) (ws2 := [(q_this, .inr (12, [.ref q_d, .ref q_kept, .int v_images, .ref q_found, .ref q_aside, .int w_39, .int w_40, .int w_41, .int w_42, .int w_43, .int w_44, .ref q_names, .ref q_seenKept, .ref q_movedKept, .int v_isKeeping, .int v_bubbleMany, .int v_bubbleMost, .int v_bubbleCell, .int v_bestShown, .ref q_traced, .int v_traceMany, .int v_who, .ref q_bitsOf, .ref q_sizeOf, .ref q_number, .ref q_lifted])), (q_d, .inl (c 0, 244, .inl w_45)), (q_found, .inl (c 0, 6, .inl v_found)), (q_movedKept, .inl (c 0, 1000, .inl w_46)), (q_names, .inl (c 0, 3, .inl w_47))]) (ms := [(some 0), (some 1), none, (some 2), (some 3)]) hP hD hS hA ⟨rfl, rfl, rfl, rfl, trivial⟩ (by decide +kernel) ⟨rfl, rfl, rfl, rfl, rfl, trivial⟩ (va_runV (rm := rm_X12_strokes) (ws := wsX12_strokes) (As := [.int t_25, .int t_32, .int t_37]) (rest := []) (gFix hF) (c_X12_strokes l D c q_this q_d q_kept q_found q_aside q_names q_seenKept q_movedKept q_traced q_bitsOf q_sizeOf q_number q_lifted t_25 t_32 t_37 v_images v_base v_at v_size v_fault v_opened v_isSeen v_isKeeping v_bubbleMany v_bubbleMost v_bubbleCell v_bestShown v_traceMany v_who w_35 v_movedKept v_names w_39 w_40 w_41 w_42 w_43 w_44 w_45 w_46 w_47 hc_38 H.size) (cwV 3 hts gX12_days_X12_strokes rfl rfl rfl (by decide +kernel) ⟨Nat.le_of_ble_eq_true rfl, Nat.le_of_ble_eq_true rfl⟩) (gPreV (wc := [(q_this, .inr (12, [.ref q_d, .ref q_kept, .int v_images, .ref q_found, .ref q_aside, .int v_base, .int v_at, .int v_size, .int v_fault, .int v_opened, .int v_isSeen, .ref q_names, .ref q_seenKept, .ref q_movedKept, .int v_isKeeping, .int v_bubbleMany, .int v_bubbleMost, .int v_bubbleCell, .int v_bestShown, .ref q_traced, .int v_traceMany, .int v_who, .ref q_bitsOf, .ref q_sizeOf, .ref q_number, .ref q_lifted])), (q_d, .inl (c 0, 244, .inl w_35)), (q_movedKept, .inl (c 0, 1000, .inl v_movedKept)), (q_names, .inl (c 0, 3, .inl v_names))]) (q := (RX12, TX12, 26)) (ci := 12) (q0 := 0) (isC := [0, 1, 3, 4]) hK hX hS hA hP hD ⟨rfl, rfl, rfl, rfl, trivial⟩ (by decide +kernel) rfl rfl) rfl rfl hl.1 rfl (lv_room (Nat.le_of_ble_eq_true rfl)) dX12_days_91 ⟨Nat.le_of_ble_eq_true rfl, Nat.le_of_ble_eq_true rfl⟩) (fun H locs hP hD hS => ?_)
        refine lv_aload_n hx hb dX12_days_94 rfl (lv_at hl 3 rfl) ?_
        replace h := kb_ok h
        obtain ⟨w_49, hc_48, h⟩ := h
        refine gCallV (isC := [0, 1]) (wc := [(q_this, .inr (12, [.ref q_d, .ref q_kept, .int v_images, .ref q_found, .ref q_aside, .int w_39, .int w_40, .int w_41, .int w_42, .int w_43, .int w_44, .ref q_names, .ref q_seenKept, .ref q_movedKept, .int v_isKeeping, .int v_bubbleMany, .int v_bubbleMost, .int v_bubbleCell, .int v_bestShown, .ref q_traced, .int v_traceMany, .int v_who, .ref q_bitsOf, .ref q_sizeOf, .ref q_number, .ref q_lifted])), (q_d, .inl (c 0, 244, .inl w_45))]) (w1 := [(q_this, .inr (12, [.ref q_d, .ref q_kept, .int v_images, .ref q_found, .ref q_aside, .int w_39, .int w_40, .int w_41, .int w_42, .int w_43, .int w_44, .ref q_names, .ref q_seenKept, .ref q_movedKept, .int v_isKeeping, .int v_bubbleMany, .int v_bubbleMost, .int v_bubbleCell, .int v_bestShown, .ref q_traced, .int v_traceMany, .int v_who, .ref q_bitsOf, .ref q_sizeOf, .ref q_number, .ref q_lifted])), (q_d, .inl (c 0, 244, .inl w_49))]) (ws2 := [(q_this, .inr (12, [.ref q_d, .ref q_kept, .int v_images, .ref q_found, .ref q_aside, .int w_39, .int w_40, .int w_41, .int w_42, .int w_43, .int w_44, .ref q_names, .ref q_seenKept, .ref q_movedKept, .int v_isKeeping, .int v_bubbleMany, .int v_bubbleMost, .int v_bubbleCell, .int v_bestShown, .ref q_traced, .int v_traceMany, .int v_who, .ref q_bitsOf, .ref q_sizeOf, .ref q_number, .ref q_lifted])), (q_d, .inl (c 0, 244, .inl w_49)), (q_found, .inl (c 0, 6, .inl v_found)), (q_movedKept, .inl (c 0, 1000, .inl w_46)), (q_names, .inl (c 0, 3, .inl w_47))]) (ms := [(some 0), (some 1), none, none, none]) hP hD hS hA ⟨rfl, rfl, trivial⟩ (by decide +kernel) ⟨rfl, rfl, rfl, rfl, rfl, trivial⟩ (va_runV (rm := rm_X12_nightGoes) (ws := wsX12_nightGoes) (As := []) (rest := []) (gFix hF) (c_X12_nightGoes l D c q_this q_d q_kept q_found q_aside q_names q_seenKept q_movedKept q_traced q_bitsOf q_sizeOf q_number q_lifted v_images w_39 w_40 w_41 w_42 w_43 w_44 v_isKeeping v_bubbleMany v_bubbleMost v_bubbleCell v_bestShown v_traceMany v_who w_45 w_49 hc_48 H.size) (cwV 0 hts gX12_days_X12_nightGoes rfl rfl rfl (by decide +kernel) ⟨Nat.le_of_ble_eq_true rfl, Nat.le_of_ble_eq_true rfl⟩) (gPreV (wc := [(q_this, .inr (12, [.ref q_d, .ref q_kept, .int v_images, .ref q_found, .ref q_aside, .int w_39, .int w_40, .int w_41, .int w_42, .int w_43, .int w_44, .ref q_names, .ref q_seenKept, .ref q_movedKept, .int v_isKeeping, .int v_bubbleMany, .int v_bubbleMost, .int v_bubbleCell, .int v_bestShown, .ref q_traced, .int v_traceMany, .int v_who, .ref q_bitsOf, .ref q_sizeOf, .ref q_number, .ref q_lifted])), (q_d, .inl (c 0, 244, .inl w_45))]) (q := (RX12, TX12, 26)) (ci := 12) (q0 := 0) (isC := [0, 1]) hK hX hS hA hP hD ⟨rfl, rfl, trivial⟩ (by decide +kernel) rfl rfl) rfl rfl hl.1 rfl (lv_room (Nat.le_of_ble_eq_true rfl)) dX12_days_95 ⟨Nat.le_of_ble_eq_true rfl, Nat.le_of_ble_eq_true rfl⟩) (fun H locs hP hD hS => ?_)
        replace h := nm_ok h
        obtain ⟨t_50, et_50, h⟩ := h
        refine lv_iinc (v := t_50) (lv' := [(2, .int t_50), (5, .int t_37), (4, .int t_32), (3, .int t_25), (0, .ref q_this), (1, .int a_1)]) hx hb dX12_days_98 hl (k := 5) rfl (by rw [et_50]; rfl) (by decide) rfl (fun ls hl => ?_)
        refine lv_goto (tgt := 49) hx hb dX12_days_101 (by decide) ?_
        exact ih t_50 w_39 w_40 w_41 w_42 w_43 w_44 w_49 v_found w_46 w_47 H locs hP hD hS ls (lv_sub hl [4, 5, 0] rfl) h
  unfold f_X12_days at h
  refine lv_iload_n hx hb dX12_days_0 rfl (lv_at hl 1 rfl) ?_
  refine lv_i2l hx hb dX12_days_1 rfl ?_
  refine lv_lconst (v := 1) hx hb dX12_days_2 (by decide) ?_
  refine lv_ldc2 (v := 30) hx hb hown (hts (.constantLong RX12 209 (30)) (List.mem_of_getElem? (i := 1) rfl)) dX12_days_3 ?_
  replace h := kb_ok h
  obtain ⟨r_2, hc_1, h⟩ := h
  refine gCallIr (isC := []) (wc := []) hP hD hS hA trivial (va_runS (rm := rm_X12_in) (ws := wsX12_in) (As := [.long ((a_1 : Int32).toInt64), .long 1, .long 30]) (rest := []) (gFix hF) (c_X12_in l D c ((a_1 : Int32).toInt64) 1 30 r_2 hc_1 s.heap.size) (va_cwS 3 hts gX12_days_X12_in rfl rfl rfl (by decide +kernel) ⟨Nat.le_of_ble_eq_true rfl, Nat.le_of_ble_eq_true rfl⟩) (gPreS (wc := []) (isC := []) hK hX hS hA hP hD trivial (by decide +kernel)) rfl rfl hl.1 rfl (lv_room (Nat.le_of_ble_eq_true rfl)) dX12_days_6 ⟨Nat.le_of_ble_eq_true rfl, Nat.le_of_ble_eq_true rfl⟩) (fun H locs hP hS => ?_)
  refine lv_if_ne (tgt := 18) hx hb dX12_days_9 (by decide) (fun c_3 => ?_) (fun c_3 => ?_)
  · replace h := it_f c_3 h
    refine lv_aload_n hx hb dX12_days_18 rfl (lv_at hl 0 rfl) ?_
    refine va_get (D := D) (ci := 12) (v := .ref q_d) (C := RX12) (T := TX12) (N := 26) hx hb hts in_X12_days_X12 hown hK.1 hP 0 rfl rfl 0 (by decide) (hts (.fieldLink RX12 7 "PaperBubblesModel" "d" "[I") (List.mem_of_getElem? (i := 2) rfl)) (fun _ h9 => h9) rfl dX12_days_19 ?_
    refine lv_iconst (v := 5) hx hb dX12_days_22 (by decide) ?_
    replace h := chi_ok h
    obtain ⟨hi_4, h⟩ := h
    refine va_iald hx hb hK.1 hP 1 0 rfl rfl hi_4 dX12_days_23 ?_
    replace h := nm_ok h
    obtain ⟨t_5, et_5, h⟩ := h
    refine gTop et_5 ?_
    refine lv_iload_n hx hb dX12_days_24 rfl (lv_at hl 1 rfl) ?_
    refine lv_iadd hx hb dX12_days_25 ?_
    replace h := nm_ok h
    obtain ⟨t_6, et_6, h⟩ := h
    refine gTop et_6 ?_
    refine lv_sipush (v := 999) hx hb dX12_days_26 (by decide) ?_
    refine lv_icmp_gt (tgt := 41) hx hb dX12_days_29 (by decide) (fun c_7 => ?_) (fun c_7 => ?_)
    · replace h := it_t c_7 h
      exact t_L41 v_base v_at v_size v_fault v_opened v_isSeen v_d v_found v_movedKept v_names H locs hP hD hS ls (lv_sub hl [0] rfl) h
    · replace h := it_f c_7 h
      refine lv_aload_n hx hb dX12_days_32 rfl (lv_at hl 0 rfl) ?_
      refine va_get (D := D) (ci := 12) (v := .ref q_d) (C := RX12) (T := TX12) (N := 26) hx hb hts in_X12_days_X12 hown hK.1 hP 0 rfl rfl 0 (by decide) (hts (.fieldLink RX12 7 "PaperBubblesModel" "d" "[I") (List.mem_of_getElem? (i := 2) rfl)) (fun _ h9 => h9) rfl dX12_days_33 ?_
      refine lv_iconst (v := 2) hx hb dX12_days_36 (by decide) ?_
      replace h := chi_ok h
      obtain ⟨hi_8, h⟩ := h
      refine va_iald hx hb hK.1 hP 1 0 rfl rfl hi_8 dX12_days_37 ?_
      refine lv_if_ne (tgt := 47) hx hb dX12_days_38 (by decide) (fun c_9 => ?_) (fun c_9 => ?_)
      · replace h := it_f c_9 h
        refine lv_iconst (v := 0) hx hb dX12_days_47 (by decide) ?_
        refine lv_istore_n (lv' := [(2, .int 0), (0, .ref q_this), (1, .int a_1)]) hx hb dX12_days_48 rfl hl (by decide) rfl (fun ls hl => ?_)
        exact t_L49 gFuel 0 v_base v_at v_size v_fault v_opened v_isSeen v_d v_found v_movedKept v_names H locs hP hD hS ls (lv_sub hl [1, 2, 0] rfl) h
      · replace h := it_t c_9 h
        exact t_L41 v_base v_at v_size v_fault v_opened v_isSeen v_d v_found v_movedKept v_names H locs hP hD hS ls (lv_sub hl [0] rfl) h
  · replace h := it_t c_3 h
    refine lv_aload_n hx hb dX12_days_12 rfl (lv_at hl 0 rfl) ?_
    refine lv_iconst (v := 1) hx hb dX12_days_13 (by decide) ?_
    replace h := kb2_ok h
    obtain ⟨r_11, w_12, hc_10, h⟩ := h
    refine gCallI (isC := [0, 2]) (wc := [(q_this, .inr (12, [.ref q_d, .ref q_kept, .int v_images, .ref q_found, .ref q_aside, .int v_base, .int v_at, .int v_size, .int v_fault, .int v_opened, .int v_isSeen, .ref q_names, .ref q_seenKept, .ref q_movedKept, .int v_isKeeping, .int v_bubbleMany, .int v_bubbleMost, .int v_bubbleCell, .int v_bestShown, .ref q_traced, .int v_traceMany, .int v_who, .ref q_bitsOf, .ref q_sizeOf, .ref q_number, .ref q_lifted])), (q_found, .inl (c 0, 6, .inl v_found))]) (w1 := [(q_this, .inr (12, [.ref q_d, .ref q_kept, .int v_images, .ref q_found, .ref q_aside, .int v_base, .int v_at, .int v_size, .int v_fault, .int v_opened, .int v_isSeen, .ref q_names, .ref q_seenKept, .ref q_movedKept, .int v_isKeeping, .int v_bubbleMany, .int v_bubbleMost, .int v_bubbleCell, .int v_bestShown, .ref q_traced, .int v_traceMany, .int v_who, .ref q_bitsOf, .ref q_sizeOf, .ref q_number, .ref q_lifted])), (q_found, .inl (c 0, 6, .inl w_12))]) (ws2 := [(q_this, .inr (12, [.ref q_d, .ref q_kept, .int v_images, .ref q_found, .ref q_aside, .int v_base, .int v_at, .int v_size, .int v_fault, .int v_opened, .int v_isSeen, .ref q_names, .ref q_seenKept, .ref q_movedKept, .int v_isKeeping, .int v_bubbleMany, .int v_bubbleMost, .int v_bubbleCell, .int v_bestShown, .ref q_traced, .int v_traceMany, .int v_who, .ref q_bitsOf, .ref q_sizeOf, .ref q_number, .ref q_lifted])), (q_d, .inl (c 0, 244, .inl v_d)), (q_found, .inl (c 0, 6, .inl w_12)), (q_movedKept, .inl (c 0, 1000, .inl v_movedKept)), (q_names, .inl (c 0, 3, .inl v_names))]) (ms := [(some 0), none, (some 1), none, none]) hP hD hS hA ⟨rfl, rfl, trivial⟩ (by decide +kernel) ⟨rfl, rfl, rfl, rfl, rfl, trivial⟩ (va_runV (rm := rm_X12_finds) (ws := wsX12_finds) (As := [.int 1]) (rest := []) (gFix hF) (c_X12_finds l D c q_this q_d q_kept q_found q_aside q_names q_seenKept q_movedKept q_traced q_bitsOf q_sizeOf q_number q_lifted 1 v_images v_base v_at v_size v_fault v_opened v_isSeen v_isKeeping v_bubbleMany v_bubbleMost v_bubbleCell v_bestShown v_traceMany v_who v_found r_11 w_12 hc_10 H.size) (cwV 1 hts gX12_days_X12_finds rfl rfl rfl (by decide +kernel) ⟨Nat.le_of_ble_eq_true rfl, Nat.le_of_ble_eq_true rfl⟩) (gPreV (wc := [(q_this, .inr (12, [.ref q_d, .ref q_kept, .int v_images, .ref q_found, .ref q_aside, .int v_base, .int v_at, .int v_size, .int v_fault, .int v_opened, .int v_isSeen, .ref q_names, .ref q_seenKept, .ref q_movedKept, .int v_isKeeping, .int v_bubbleMany, .int v_bubbleMost, .int v_bubbleCell, .int v_bestShown, .ref q_traced, .int v_traceMany, .int v_who, .ref q_bitsOf, .ref q_sizeOf, .ref q_number, .ref q_lifted])), (q_found, .inl (c 0, 6, .inl v_found))]) (q := (RX12, TX12, 26)) (ci := 12) (q0 := 0) (isC := [0, 2]) hK hX hS hA hP hD ⟨rfl, rfl, trivial⟩ (by decide +kernel) rfl rfl) rfl rfl hl.1 rfl (lv_room (Nat.le_of_ble_eq_true rfl)) dX12_days_14 ⟨Nat.le_of_ble_eq_true rfl, Nat.le_of_ble_eq_true rfl⟩) (fun H locs hP hD hS => ?_)
    replace h := so11 h
    obtain ⟨z0, z1, z2, z3, z4, z5, z6, z7, z8, z9, z10⟩ := h
    subst z0 z1 z2 z3 z4 z5 z6 z7 z8 z9 z10
    exact gIret hF hP hD hS rfl dX12_days_17
set_option maxRecDepth 20000 in
theorem in_X12_edge_X12 : ∀ w ∈ u_ws RX12 TX12 26, w ∈ wsX12_edge := by decide +kernel
abbrev rm_X12_edge : Room := { frames := 2, cells := 0, slots := 0, locals := 45 }
set_option maxHeartbeats 4000000 in
set_option maxRecDepth 100000 in
theorem c_X12_edge (l : Launch) (D : va_G) (c : Nat → ClassId) (q_this q_d q_kept q_found q_aside q_names q_seenKept q_movedKept q_traced q_bitsOf q_sizeOf q_number q_lifted : Nat) (a_1 : Int32) (a_2 : Int32) (v_images : Int32) (v_base : Int32) (v_at : Int32) (v_size : Int32) (v_fault : Int32) (v_opened : Int32) (v_isSeen : Int32) (v_isKeeping : Int32) (v_bubbleMany : Int32) (v_bubbleMost : Int32) (v_bubbleCell : Int32) (v_bestShown : Int32) (v_traceMany : Int32) (v_who : Int32) (v_d : Nat → Int32) (v_found : Nat → Int32) (o_r : Int32) (o_v_d : Nat → Int32) (o_v_found : Nat → Int32) (h : f_X12_edge a_1 a_2 v_d v_found = some (o_r, o_v_d, o_v_found)) : gMI l yX12_edge wsX12_edge rm_X12_edge D c [.ref q_this, .int a_1, .int a_2] [(q_this, .inr (12, [.ref q_d, .ref q_kept, .int v_images, .ref q_found, .ref q_aside, .int v_base, .int v_at, .int v_size, .int v_fault, .int v_opened, .int v_isSeen, .ref q_names, .ref q_seenKept, .ref q_movedKept, .int v_isKeeping, .int v_bubbleMany, .int v_bubbleMost, .int v_bubbleCell, .int v_bestShown, .ref q_traced, .int v_traceMany, .int v_who, .ref q_bitsOf, .ref q_sizeOf, .ref q_number, .ref q_lifted])), (q_d, .inl (c 0, 244, .inl v_d)), (q_found, .inl (c 0, 6, .inl v_found))] [(q_this, .inr (12, [.ref q_d, .ref q_kept, .int v_images, .ref q_found, .ref q_aside, .int v_base, .int v_at, .int v_size, .int v_fault, .int v_opened, .int v_isSeen, .ref q_names, .ref q_seenKept, .ref q_movedKept, .int v_isKeeping, .int v_bubbleMany, .int v_bubbleMost, .int v_bubbleCell, .int v_bestShown, .ref q_traced, .int v_traceMany, .int v_who, .ref q_bitsOf, .ref q_sizeOf, .ref q_number, .ref q_lifted])), (q_d, .inl (c 0, 244, .inl o_v_d)), (q_found, .inl (c 0, 6, .inl o_v_found))] o_r := by
  refine gMI_of (cc := cX12_edge) (maxL := 4) (rt := (some .int)) (by decide +kernel) rfl (Nat.le_of_ble_eq_true rfl) ?_
  intro p e s m below meth co A hF hK hX hP hD hA hS ls hl
  obtain ⟨hx, hb, hr, hts, hown, hlocks, hml⟩ := id hF
  have hl : lv_has ls 4 [(0, .ref q_this), (1, .int a_1), (2, .int a_2)] := hl
  have t_L17 : ∀ (v_d : Nat → Int32) (v_found : Nat → Int32) (H : Heap) (locs : List Loc), va_P D gcl [(q_this, .inr (12, [.ref q_d, .ref q_kept, .int v_images, .ref q_found, .ref q_aside, .int v_base, .int v_at, .int v_size, .int v_fault, .int v_opened, .int v_isSeen, .ref q_names, .ref q_seenKept, .ref q_movedKept, .int v_isKeeping, .int v_bubbleMany, .int v_bubbleMost, .int v_bubbleCell, .int v_bestShown, .ref q_traced, .int v_traceMany, .int v_who, .ref q_bitsOf, .ref q_sizeOf, .ref q_number, .ref q_lifted])), (q_d, .inl (c 0, 244, .inl v_d)), (q_found, .inl (c 0, 6, .inl v_found))] H → va_D A [(q_this, .inr (12, [.ref q_d, .ref q_kept, .int v_images, .ref q_found, .ref q_aside, .int v_base, .int v_at, .int v_size, .int v_fault, .int v_opened, .int v_isSeen, .ref q_names, .ref q_seenKept, .ref q_movedKept, .int v_isKeeping, .int v_bubbleMany, .int v_bubbleMost, .int v_bubbleCell, .int v_bestShown, .ref q_traced, .int v_traceMany, .int v_who, .ref q_bitsOf, .ref q_sizeOf, .ref q_number, .ref q_lifted])), (q_d, .inl (c 0, 244, .inl v_d)), (q_found, .inl (c 0, 6, .inl v_found))] → va_S A s.heap H locs → ∀ ls, lv_has ls 4 [(0, .ref q_this)] → f_X12_edge_L17 v_d v_found = some (o_r, o_v_d, o_v_found) → W p l e (headSpec wsX12_edge rm_X12_edge).room s m [.ref q_this, .int a_1, .int a_2].toArray below meth co H locs 0 0 (gQI D [(q_this, .inr (12, [.ref q_d, .ref q_kept, .int v_images, .ref q_found, .ref q_aside, .int v_base, .int v_at, .int v_size, .int v_fault, .int v_opened, .int v_isSeen, .ref q_names, .ref q_seenKept, .ref q_movedKept, .int v_isKeeping, .int v_bubbleMany, .int v_bubbleMost, .int v_bubbleCell, .int v_bestShown, .ref q_traced, .int v_traceMany, .int v_who, .ref q_bitsOf, .ref q_sizeOf, .ref q_number, .ref q_lifted])), (q_d, .inl (c 0, 244, .inl o_v_d)), (q_found, .inl (c 0, 6, .inl o_v_found))] o_r A below [.ref q_this, .int a_1, .int a_2] s) (F0 m 17 ls []) := by
    intro  v_d v_found H locs hP hD hS ls hl h
    unfold f_X12_edge_L17 at h
    refine lv_aload_n hx hb dX12_edge_17 rfl (lv_at hl 0 rfl) ?_
    refine lv_iconst (v := 1) hx hb dX12_edge_18 (by decide) ?_
    replace h := kb2_ok h
    obtain ⟨r_11, w_12, hc_10, h⟩ := h
    refine gCallI (isC := [0, 2]) (wc := [(q_this, .inr (12, [.ref q_d, .ref q_kept, .int v_images, .ref q_found, .ref q_aside, .int v_base, .int v_at, .int v_size, .int v_fault, .int v_opened, .int v_isSeen, .ref q_names, .ref q_seenKept, .ref q_movedKept, .int v_isKeeping, .int v_bubbleMany, .int v_bubbleMost, .int v_bubbleCell, .int v_bestShown, .ref q_traced, .int v_traceMany, .int v_who, .ref q_bitsOf, .ref q_sizeOf, .ref q_number, .ref q_lifted])), (q_found, .inl (c 0, 6, .inl v_found))]) (w1 := [(q_this, .inr (12, [.ref q_d, .ref q_kept, .int v_images, .ref q_found, .ref q_aside, .int v_base, .int v_at, .int v_size, .int v_fault, .int v_opened, .int v_isSeen, .ref q_names, .ref q_seenKept, .ref q_movedKept, .int v_isKeeping, .int v_bubbleMany, .int v_bubbleMost, .int v_bubbleCell, .int v_bestShown, .ref q_traced, .int v_traceMany, .int v_who, .ref q_bitsOf, .ref q_sizeOf, .ref q_number, .ref q_lifted])), (q_found, .inl (c 0, 6, .inl w_12))]) (ws2 := [(q_this, .inr (12, [.ref q_d, .ref q_kept, .int v_images, .ref q_found, .ref q_aside, .int v_base, .int v_at, .int v_size, .int v_fault, .int v_opened, .int v_isSeen, .ref q_names, .ref q_seenKept, .ref q_movedKept, .int v_isKeeping, .int v_bubbleMany, .int v_bubbleMost, .int v_bubbleCell, .int v_bestShown, .ref q_traced, .int v_traceMany, .int v_who, .ref q_bitsOf, .ref q_sizeOf, .ref q_number, .ref q_lifted])), (q_d, .inl (c 0, 244, .inl v_d)), (q_found, .inl (c 0, 6, .inl w_12))]) (ms := [(some 0), none, (some 1)]) hP hD hS hA ⟨rfl, rfl, trivial⟩ (by decide +kernel) ⟨rfl, rfl, rfl, trivial⟩ (va_runV (rm := rm_X12_finds) (ws := wsX12_finds) (As := [.int 1]) (rest := []) (gFix hF) (c_X12_finds l D c q_this q_d q_kept q_found q_aside q_names q_seenKept q_movedKept q_traced q_bitsOf q_sizeOf q_number q_lifted 1 v_images v_base v_at v_size v_fault v_opened v_isSeen v_isKeeping v_bubbleMany v_bubbleMost v_bubbleCell v_bestShown v_traceMany v_who v_found r_11 w_12 hc_10 H.size) (cwV 1 hts gX12_edge_X12_finds rfl rfl rfl (by decide +kernel) ⟨Nat.le_of_ble_eq_true rfl, Nat.le_of_ble_eq_true rfl⟩) (gPreV (wc := [(q_this, .inr (12, [.ref q_d, .ref q_kept, .int v_images, .ref q_found, .ref q_aside, .int v_base, .int v_at, .int v_size, .int v_fault, .int v_opened, .int v_isSeen, .ref q_names, .ref q_seenKept, .ref q_movedKept, .int v_isKeeping, .int v_bubbleMany, .int v_bubbleMost, .int v_bubbleCell, .int v_bestShown, .ref q_traced, .int v_traceMany, .int v_who, .ref q_bitsOf, .ref q_sizeOf, .ref q_number, .ref q_lifted])), (q_found, .inl (c 0, 6, .inl v_found))]) (q := (RX12, TX12, 26)) (ci := 12) (q0 := 0) (isC := [0, 2]) hK hX hS hA hP hD ⟨rfl, rfl, trivial⟩ (by decide +kernel) rfl rfl) rfl rfl hl.1 rfl (lv_room (Nat.le_of_ble_eq_true rfl)) dX12_edge_19 ⟨Nat.le_of_ble_eq_true rfl, Nat.le_of_ble_eq_true rfl⟩) (fun H locs hP hD hS => ?_)
    replace h := so3 h
    obtain ⟨z0, z1, z2⟩ := h
    subst z0 z1 z2
    exact gIret hF hP hD hS rfl dX12_edge_22
  have t_L36 : ∀ (y0 : Int32) (v_d : Nat → Int32) (v_found : Nat → Int32) (H : Heap) (locs : List Loc), va_P D gcl [(q_this, .inr (12, [.ref q_d, .ref q_kept, .int v_images, .ref q_found, .ref q_aside, .int v_base, .int v_at, .int v_size, .int v_fault, .int v_opened, .int v_isSeen, .ref q_names, .ref q_seenKept, .ref q_movedKept, .int v_isKeeping, .int v_bubbleMany, .int v_bubbleMost, .int v_bubbleCell, .int v_bestShown, .ref q_traced, .int v_traceMany, .int v_who, .ref q_bitsOf, .ref q_sizeOf, .ref q_number, .ref q_lifted])), (q_d, .inl (c 0, 244, .inl v_d)), (q_found, .inl (c 0, 6, .inl v_found))] H → va_D A [(q_this, .inr (12, [.ref q_d, .ref q_kept, .int v_images, .ref q_found, .ref q_aside, .int v_base, .int v_at, .int v_size, .int v_fault, .int v_opened, .int v_isSeen, .ref q_names, .ref q_seenKept, .ref q_movedKept, .int v_isKeeping, .int v_bubbleMany, .int v_bubbleMost, .int v_bubbleCell, .int v_bestShown, .ref q_traced, .int v_traceMany, .int v_who, .ref q_bitsOf, .ref q_sizeOf, .ref q_number, .ref q_lifted])), (q_d, .inl (c 0, 244, .inl v_d)), (q_found, .inl (c 0, 6, .inl v_found))] → va_S A s.heap H locs → ∀ ls, lv_has ls 4 [(0, .ref q_this), (1, .int a_1), (2, .int a_2)] → f_X12_edge_L36 a_1 a_2 y0 v_d v_found = some (o_r, o_v_d, o_v_found) → W p l e (headSpec wsX12_edge rm_X12_edge).room s m [.ref q_this, .int a_1, .int a_2].toArray below meth co H locs 0 0 (gQI D [(q_this, .inr (12, [.ref q_d, .ref q_kept, .int v_images, .ref q_found, .ref q_aside, .int v_base, .int v_at, .int v_size, .int v_fault, .int v_opened, .int v_isSeen, .ref q_names, .ref q_seenKept, .ref q_movedKept, .int v_isKeeping, .int v_bubbleMany, .int v_bubbleMost, .int v_bubbleCell, .int v_bestShown, .ref q_traced, .int v_traceMany, .int v_who, .ref q_bitsOf, .ref q_sizeOf, .ref q_number, .ref q_lifted])), (q_d, .inl (c 0, 244, .inl o_v_d)), (q_found, .inl (c 0, 6, .inl o_v_found))] o_r A below [.ref q_this, .int a_1, .int a_2] s) (F0 m 36 ls [.int y0]) := by
    intro  y0 v_d v_found H locs hP hD hS ls hl h
    unfold f_X12_edge_L36 at h
    refine lv_istore_n (lv' := [(3, .int y0), (0, .ref q_this), (1, .int a_1), (2, .int a_2)]) hx hb dX12_edge_36 rfl hl (by decide) rfl (fun ls hl => ?_)
    refine lv_aload_n hx hb dX12_edge_37 rfl (lv_at hl 1 rfl) ?_
    refine va_get (D := D) (ci := 12) (v := .ref q_d) (C := RX12) (T := TX12) (N := 26) hx hb hts in_X12_edge_X12 hown hK.1 hP 0 rfl rfl 0 (by decide) (hts (.fieldLink RX12 7 "PaperBubblesModel" "d" "[I") (List.mem_of_getElem? (i := 1) rfl)) (fun _ h9 => h9) rfl dX12_edge_38 ?_
    refine lv_bipush (v := 9) hx hb dX12_edge_41 (by decide) ?_
    refine lv_iload_n hx hb dX12_edge_43 rfl (lv_at hl 3 rfl) ?_
    refine lv_iconst (v := 1) hx hb dX12_edge_44 (by decide) ?_
    refine lv_icmp_ne (tgt := 62) hx hb dX12_edge_45 (by decide) (fun c_13 => ?_) (fun c_13 => ?_)
    · replace h := it_f c_13 h
      refine lv_aload_n hx hb dX12_edge_62 rfl (lv_at hl 1 rfl) ?_
      refine va_get (D := D) (ci := 12) (v := .ref q_d) (C := RX12) (T := TX12) (N := 26) hx hb hts in_X12_edge_X12 hown hK.1 hP 0 rfl rfl 0 (by decide) (hts (.fieldLink RX12 7 "PaperBubblesModel" "d" "[I") (List.mem_of_getElem? (i := 1) rfl)) (fun _ h9 => h9) rfl dX12_edge_63 ?_
      refine lv_bipush (v := 9) hx hb dX12_edge_66 (by decide) ?_
      replace h := chi_ok h
      obtain ⟨hi_14, h⟩ := h
      refine va_iald hx hb hK.1 hP 1 0 rfl rfl hi_14 dX12_edge_68 ?_
      replace h := nm_ok h
      obtain ⟨t_15, et_15, h⟩ := h
      refine gTop et_15 ?_
      refine lv_iconst (v := 1) hx hb dX12_edge_69 (by decide) ?_
      refine lv_iload_n hx hb dX12_edge_70 rfl (lv_at hl 2 rfl) ?_
      refine lv_ishl hx hb dX12_edge_71 ?_
      replace h := nm_ok h
      obtain ⟨t_16, et_16, h⟩ := h
      refine gTop et_16 ?_
      refine lv_iconst (v := (-1)) hx hb dX12_edge_72 (by decide) ?_
      refine lv_ixor hx hb dX12_edge_73 ?_
      refine lv_iand hx hb dX12_edge_74 ?_
      replace h := nm_ok h
      obtain ⟨t_17, et_17, h⟩ := h
      refine gTop et_17 ?_
      replace h := chi_ok h
      obtain ⟨hi_18, h⟩ := h
      replace h := nm_ok h
      obtain ⟨w_19, ew_19, h⟩ := h
      refine va_iast hx hb hK.1 hP hD hS 1 0 rfl rfl hi_18 dX12_edge_75 (fun H locs hP hD hS => ?_)
      have hP : va_P D gcl [(q_this, .inr (12, [.ref q_d, .ref q_kept, .int v_images, .ref q_found, .ref q_aside, .int v_base, .int v_at, .int v_size, .int v_fault, .int v_opened, .int v_isSeen, .ref q_names, .ref q_seenKept, .ref q_movedKept, .int v_isKeeping, .int v_bubbleMany, .int v_bubbleMost, .int v_bubbleCell, .int v_bestShown, .ref q_traced, .int v_traceMany, .int v_who, .ref q_bitsOf, .ref q_sizeOf, .ref q_number, .ref q_lifted])), (q_d, .inl (c 0, 244, .inl w_19)), (q_found, .inl (c 0, 6, .inl v_found))] H := by subst ew_19; exact hP
      have hD : va_D A [(q_this, .inr (12, [.ref q_d, .ref q_kept, .int v_images, .ref q_found, .ref q_aside, .int v_base, .int v_at, .int v_size, .int v_fault, .int v_opened, .int v_isSeen, .ref q_names, .ref q_seenKept, .ref q_movedKept, .int v_isKeeping, .int v_bubbleMany, .int v_bubbleMost, .int v_bubbleCell, .int v_bestShown, .ref q_traced, .int v_traceMany, .int v_who, .ref q_bitsOf, .ref q_sizeOf, .ref q_number, .ref q_lifted])), (q_d, .inl (c 0, 244, .inl w_19)), (q_found, .inl (c 0, 6, .inl v_found))] := by subst ew_19; exact hD
      refine lv_iload_n hx hb dX12_edge_76 rfl (lv_at hl 0 rfl) ?_
      replace h := so3 h
      obtain ⟨z0, z1, z2⟩ := h
      subst z0 z1 z2
      exact gIret hF hP hD hS rfl dX12_edge_77
    · replace h := it_t c_13 h
      refine lv_aload_n hx hb dX12_edge_48 rfl (lv_at hl 1 rfl) ?_
      refine va_get (D := D) (ci := 12) (v := .ref q_d) (C := RX12) (T := TX12) (N := 26) hx hb hts in_X12_edge_X12 hown hK.1 hP 0 rfl rfl 0 (by decide) (hts (.fieldLink RX12 7 "PaperBubblesModel" "d" "[I") (List.mem_of_getElem? (i := 1) rfl)) (fun _ h9 => h9) rfl dX12_edge_49 ?_
      refine lv_bipush (v := 9) hx hb dX12_edge_52 (by decide) ?_
      replace h := chi_ok h
      obtain ⟨hi_20, h⟩ := h
      refine va_iald hx hb hK.1 hP 1 0 rfl rfl hi_20 dX12_edge_54 ?_
      replace h := nm_ok h
      obtain ⟨t_21, et_21, h⟩ := h
      refine gTop et_21 ?_
      refine lv_iconst (v := 1) hx hb dX12_edge_55 (by decide) ?_
      refine lv_iload_n hx hb dX12_edge_56 rfl (lv_at hl 2 rfl) ?_
      refine lv_ishl hx hb dX12_edge_57 ?_
      refine lv_ior hx hb dX12_edge_58 ?_
      replace h := nm_ok h
      obtain ⟨t_22, et_22, h⟩ := h
      refine gTop et_22 ?_
      refine lv_goto (tgt := 75) hx hb dX12_edge_59 (by decide) ?_
      replace h := chi_ok h
      obtain ⟨hi_23, h⟩ := h
      replace h := nm_ok h
      obtain ⟨w_24, ew_24, h⟩ := h
      refine va_iast hx hb hK.1 hP hD hS 1 0 rfl rfl hi_23 dX12_edge_75 (fun H locs hP hD hS => ?_)
      have hP : va_P D gcl [(q_this, .inr (12, [.ref q_d, .ref q_kept, .int v_images, .ref q_found, .ref q_aside, .int v_base, .int v_at, .int v_size, .int v_fault, .int v_opened, .int v_isSeen, .ref q_names, .ref q_seenKept, .ref q_movedKept, .int v_isKeeping, .int v_bubbleMany, .int v_bubbleMost, .int v_bubbleCell, .int v_bestShown, .ref q_traced, .int v_traceMany, .int v_who, .ref q_bitsOf, .ref q_sizeOf, .ref q_number, .ref q_lifted])), (q_d, .inl (c 0, 244, .inl w_24)), (q_found, .inl (c 0, 6, .inl v_found))] H := by subst ew_24; exact hP
      have hD : va_D A [(q_this, .inr (12, [.ref q_d, .ref q_kept, .int v_images, .ref q_found, .ref q_aside, .int v_base, .int v_at, .int v_size, .int v_fault, .int v_opened, .int v_isSeen, .ref q_names, .ref q_seenKept, .ref q_movedKept, .int v_isKeeping, .int v_bubbleMany, .int v_bubbleMost, .int v_bubbleCell, .int v_bestShown, .ref q_traced, .int v_traceMany, .int v_who, .ref q_bitsOf, .ref q_sizeOf, .ref q_number, .ref q_lifted])), (q_d, .inl (c 0, 244, .inl w_24)), (q_found, .inl (c 0, 6, .inl v_found))] := by subst ew_24; exact hD
      refine lv_iload_n hx hb dX12_edge_76 rfl (lv_at hl 0 rfl) ?_
      replace h := so3 h
      obtain ⟨z0, z1, z2⟩ := h
      subst z0 z1 z2
      exact gIret hF hP hD hS rfl dX12_edge_77
  unfold f_X12_edge at h
  refine lv_iload_n hx hb dX12_edge_0 rfl (lv_at hl 1 rfl) ?_
  replace h := kb_ok h
  obtain ⟨r_2, hc_1, h⟩ := h
  refine gCallIr (isC := []) (wc := []) hP hD hS hA trivial (va_runS (rm := rm_X12_isWay) (ws := wsX12_isWay) (As := [.int a_1]) (rest := []) (gFix hF) (c_X12_isWay l D c a_1 r_2 hc_1 s.heap.size) (va_cwS 1 hts gX12_edge_X12_isWay rfl rfl rfl (by decide +kernel) ⟨Nat.le_of_ble_eq_true rfl, Nat.le_of_ble_eq_true rfl⟩) (gPreS (wc := []) (isC := []) hK hX hS hA hP hD trivial (by decide +kernel)) rfl rfl hl.1 rfl (lv_room (Nat.le_of_ble_eq_true rfl)) dX12_edge_1 ⟨Nat.le_of_ble_eq_true rfl, Nat.le_of_ble_eq_true rfl⟩) (fun H locs hP hS => ?_)
  refine lv_if_eq (tgt := 17) hx hb dX12_edge_4 (by decide) (fun c_3 => ?_) (fun c_3 => ?_)
  · replace h := it_t c_3 h
    exact t_L17 v_d v_found H locs hP hD hS ls (lv_sub hl [0] rfl) h
  · replace h := it_f c_3 h
    refine lv_iload_n hx hb dX12_edge_7 rfl (lv_at hl 2 rfl) ?_
    refine lv_i2l hx hb dX12_edge_8 rfl ?_
    refine lv_lconst (v := 0) hx hb dX12_edge_9 (by decide) ?_
    refine lv_lconst (v := 1) hx hb dX12_edge_10 (by decide) ?_
    replace h := kb_ok h
    obtain ⟨r_5, hc_4, h⟩ := h
    refine gCallIr (isC := []) (wc := []) hP hD hS hA trivial (va_runS (rm := rm_X12_in) (ws := wsX12_in) (As := [.long ((a_2 : Int32).toInt64), .long 0, .long 1]) (rest := []) (gFix hF) (c_X12_in l D c ((a_2 : Int32).toInt64) 0 1 r_5 hc_4 H.size) (va_cwS 3 hts gX12_edge_X12_in rfl rfl rfl (by decide +kernel) ⟨Nat.le_of_ble_eq_true rfl, Nat.le_of_ble_eq_true rfl⟩) (gPreS (wc := []) (isC := []) hK hX hS hA hP hD trivial (by decide +kernel)) rfl rfl hl.1 rfl (lv_room (Nat.le_of_ble_eq_true rfl)) dX12_edge_11 ⟨Nat.le_of_ble_eq_true rfl, Nat.le_of_ble_eq_true rfl⟩) (fun H locs hP hS => ?_)
    refine lv_if_ne (tgt := 23) hx hb dX12_edge_14 (by decide) (fun c_6 => ?_) (fun c_6 => ?_)
    · replace h := it_f c_6 h
      refine lv_aload_n hx hb dX12_edge_23 rfl (lv_at hl 0 rfl) ?_
      refine lv_iload_n hx hb dX12_edge_24 rfl (lv_at hl 1 rfl) ?_
      replace h := kb_ok h
      obtain ⟨r_8, hc_7, h⟩ := h
      refine gCallIr (isC := [0, 1]) (wc := [(q_this, .inr (12, [.ref q_d, .ref q_kept, .int v_images, .ref q_found, .ref q_aside, .int v_base, .int v_at, .int v_size, .int v_fault, .int v_opened, .int v_isSeen, .ref q_names, .ref q_seenKept, .ref q_movedKept, .int v_isKeeping, .int v_bubbleMany, .int v_bubbleMost, .int v_bubbleCell, .int v_bestShown, .ref q_traced, .int v_traceMany, .int v_who, .ref q_bitsOf, .ref q_sizeOf, .ref q_number, .ref q_lifted])), (q_d, .inl (c 0, 244, .inl v_d))]) hP hD hS hA ⟨rfl, rfl, trivial⟩ (va_runV (rm := rm_X12_isOpen) (ws := wsX12_isOpen) (As := [.int a_1]) (rest := []) (gFix hF) (c_X12_isOpen l D c q_this q_d q_kept q_found q_aside q_names q_seenKept q_movedKept q_traced q_bitsOf q_sizeOf q_number q_lifted a_1 v_images v_base v_at v_size v_fault v_opened v_isSeen v_isKeeping v_bubbleMany v_bubbleMost v_bubbleCell v_bestShown v_traceMany v_who v_d r_8 hc_7 H.size) (cwV 1 hts gX12_edge_X12_isOpen rfl rfl rfl (by decide +kernel) ⟨Nat.le_of_ble_eq_true rfl, Nat.le_of_ble_eq_true rfl⟩) (gPreV (wc := [(q_this, .inr (12, [.ref q_d, .ref q_kept, .int v_images, .ref q_found, .ref q_aside, .int v_base, .int v_at, .int v_size, .int v_fault, .int v_opened, .int v_isSeen, .ref q_names, .ref q_seenKept, .ref q_movedKept, .int v_isKeeping, .int v_bubbleMany, .int v_bubbleMost, .int v_bubbleCell, .int v_bestShown, .ref q_traced, .int v_traceMany, .int v_who, .ref q_bitsOf, .ref q_sizeOf, .ref q_number, .ref q_lifted])), (q_d, .inl (c 0, 244, .inl v_d))]) (q := (RX12, TX12, 26)) (ci := 12) (q0 := 0) (isC := [0, 1]) hK hX hS hA hP hD ⟨rfl, rfl, trivial⟩ (by decide +kernel) rfl rfl) rfl rfl hl.1 rfl (lv_room (Nat.le_of_ble_eq_true rfl)) dX12_edge_25 ⟨Nat.le_of_ble_eq_true rfl, Nat.le_of_ble_eq_true rfl⟩) (fun H locs hP hS => ?_)
      refine lv_if_eq (tgt := 35) hx hb dX12_edge_28 (by decide) (fun c_9 => ?_) (fun c_9 => ?_)
      · replace h := it_t c_9 h
        refine lv_iconst (v := 0) hx hb dX12_edge_35 (by decide) ?_
        exact t_L36 0 v_d v_found H locs hP hD hS ls (lv_sub hl [0, 1, 2] rfl) h
      · replace h := it_f c_9 h
        refine lv_iconst (v := 1) hx hb dX12_edge_31 (by decide) ?_
        refine lv_goto (tgt := 36) hx hb dX12_edge_32 (by decide) ?_
        exact t_L36 1 v_d v_found H locs hP hD hS ls (lv_sub hl [0, 1, 2] rfl) h
    · replace h := it_t c_6 h
      exact t_L17 v_d v_found H locs hP hD hS ls (lv_sub hl [0] rfl) h
set_option maxRecDepth 20000 in
theorem in_X12_feed_X12 : ∀ w ∈ u_ws RX12 TX12 26, w ∈ wsX12_feed := by decide +kernel
abbrev rm_X12_feed : Room := { frames := 1, cells := 0, slots := 0, locals := 25 }
set_option maxHeartbeats 4000000 in
set_option maxRecDepth 100000 in
theorem c_X12_feed (l : Launch) (D : va_G) (c : Nat → ClassId) (q_this q_d q_kept q_found q_aside q_names q_seenKept q_movedKept q_traced q_bitsOf q_sizeOf q_number q_lifted : Nat) (a_1 : Int64) (a_3 : Int32) (v_images : Int32) (v_base : Int32) (v_at : Int32) (v_size : Int32) (v_fault : Int32) (v_opened : Int32) (v_isSeen : Int32) (v_isKeeping : Int32) (v_bubbleMany : Int32) (v_bubbleMost : Int32) (v_bubbleCell : Int32) (v_bestShown : Int32) (v_traceMany : Int32) (v_who : Int32) (v_d : Nat → Int32) (v_found : Nat → Int32) (o_r : Int32) (o_v_d : Nat → Int32) (o_v_found : Nat → Int32) (h : f_X12_feed a_1 a_3 v_d v_found = some (o_r, o_v_d, o_v_found)) : gMI l yX12_feed wsX12_feed rm_X12_feed D c [.ref q_this, .long a_1, .int a_3] [(q_this, .inr (12, [.ref q_d, .ref q_kept, .int v_images, .ref q_found, .ref q_aside, .int v_base, .int v_at, .int v_size, .int v_fault, .int v_opened, .int v_isSeen, .ref q_names, .ref q_seenKept, .ref q_movedKept, .int v_isKeeping, .int v_bubbleMany, .int v_bubbleMost, .int v_bubbleCell, .int v_bestShown, .ref q_traced, .int v_traceMany, .int v_who, .ref q_bitsOf, .ref q_sizeOf, .ref q_number, .ref q_lifted])), (q_d, .inl (c 0, 244, .inl v_d)), (q_found, .inl (c 0, 6, .inl v_found))] [(q_this, .inr (12, [.ref q_d, .ref q_kept, .int v_images, .ref q_found, .ref q_aside, .int v_base, .int v_at, .int v_size, .int v_fault, .int v_opened, .int v_isSeen, .ref q_names, .ref q_seenKept, .ref q_movedKept, .int v_isKeeping, .int v_bubbleMany, .int v_bubbleMost, .int v_bubbleCell, .int v_bestShown, .ref q_traced, .int v_traceMany, .int v_who, .ref q_bitsOf, .ref q_sizeOf, .ref q_number, .ref q_lifted])), (q_d, .inl (c 0, 244, .inl o_v_d)), (q_found, .inl (c 0, 6, .inl o_v_found))] o_r := by
  refine gMI_of (cc := cX12_feed) (maxL := 5) (rt := (some .int)) (by decide +kernel) rfl (Nat.le_of_ble_eq_true rfl) ?_
  intro p e s m below meth co A hF hK hX hP hD hA hS ls hl
  obtain ⟨hx, hb, hr, hts, hown, hlocks, hml⟩ := id hF
  have hl : lv_has ls 5 [(0, .ref q_this), (1, .long a_1), (3, .int a_3)] := hl
  have t_L41 : ∀ (n : Nat), ∀ (x4 : Int32) (v_d : Nat → Int32) (v_found : Nat → Int32) (H : Heap) (locs : List Loc), va_P D gcl [(q_this, .inr (12, [.ref q_d, .ref q_kept, .int v_images, .ref q_found, .ref q_aside, .int v_base, .int v_at, .int v_size, .int v_fault, .int v_opened, .int v_isSeen, .ref q_names, .ref q_seenKept, .ref q_movedKept, .int v_isKeeping, .int v_bubbleMany, .int v_bubbleMost, .int v_bubbleCell, .int v_bestShown, .ref q_traced, .int v_traceMany, .int v_who, .ref q_bitsOf, .ref q_sizeOf, .ref q_number, .ref q_lifted])), (q_d, .inl (c 0, 244, .inl v_d)), (q_found, .inl (c 0, 6, .inl v_found))] H → va_D A [(q_this, .inr (12, [.ref q_d, .ref q_kept, .int v_images, .ref q_found, .ref q_aside, .int v_base, .int v_at, .int v_size, .int v_fault, .int v_opened, .int v_isSeen, .ref q_names, .ref q_seenKept, .ref q_movedKept, .int v_isKeeping, .int v_bubbleMany, .int v_bubbleMost, .int v_bubbleCell, .int v_bestShown, .ref q_traced, .int v_traceMany, .int v_who, .ref q_bitsOf, .ref q_sizeOf, .ref q_number, .ref q_lifted])), (q_d, .inl (c 0, 244, .inl v_d)), (q_found, .inl (c 0, 6, .inl v_found))] → va_S A s.heap H locs → ∀ ls, lv_has ls 5 [(0, .ref q_this), (1, .long a_1), (3, .int a_3), (4, .int x4)] → f_X12_feed_L41 a_1 a_3 n x4 v_d v_found = some (o_r, o_v_d, o_v_found) → W p l e (headSpec wsX12_feed rm_X12_feed).room s m [.ref q_this, .long a_1, .int a_3].toArray below meth co H locs 0 0 (gQI D [(q_this, .inr (12, [.ref q_d, .ref q_kept, .int v_images, .ref q_found, .ref q_aside, .int v_base, .int v_at, .int v_size, .int v_fault, .int v_opened, .int v_isSeen, .ref q_names, .ref q_seenKept, .ref q_movedKept, .int v_isKeeping, .int v_bubbleMany, .int v_bubbleMost, .int v_bubbleCell, .int v_bestShown, .ref q_traced, .int v_traceMany, .int v_who, .ref q_bitsOf, .ref q_sizeOf, .ref q_number, .ref q_lifted])), (q_d, .inl (c 0, 244, .inl o_v_d)), (q_found, .inl (c 0, 6, .inl o_v_found))] o_r A below [.ref q_this, .long a_1, .int a_3] s) (F0 m 41 ls []) := by
    intro n
    induction n with
    | zero => intro x4 v_d v_found H locs hP hD hS ls hl h; exact no_ok h
    | succ n ih =>
      intro x4 v_d v_found H locs hP hD hS ls hl h
      rw [f_X12_feed_L41] at h
      refine lv_iload hx hb dX12_feed_41 (lv_at hl 3 rfl) ?_
      refine lv_iload_n hx hb dX12_feed_43 rfl (lv_at hl 2 rfl) ?_
      refine lv_icmp_ge (tgt := 92) hx hb dX12_feed_44 (by decide) (fun c_14 => ?_) (fun c_14 => ?_)
      · replace h := it_t c_14 h
        refine lv_aload_n hx hb dX12_feed_92 rfl (lv_at hl 0 rfl) ?_
        refine va_get (D := D) (ci := 12) (v := .ref q_d) (C := RX12) (T := TX12) (N := 26) hx hb hts in_X12_feed_X12 hown hK.1 hP 0 rfl rfl 0 (by decide) (hts (.fieldLink RX12 7 "PaperBubblesModel" "d" "[I") (List.mem_of_getElem? (i := 2) rfl)) (fun _ h9 => h9) rfl dX12_feed_93 ?_
        refine lv_bipush (v := 7) hx hb dX12_feed_96 (by decide) ?_
        replace h := chi_ok h
        obtain ⟨hi_15, h⟩ := h
        refine va_iald hx hb hK.1 hP 1 0 rfl rfl hi_15 dX12_feed_98 ?_
        replace h := so3 h
        obtain ⟨z0, z1, z2⟩ := h
        subst z0 z1 z2
        exact gIret hF hP hD hS rfl dX12_feed_99
      · replace h := it_f c_14 h
        refine lv_aload_n hx hb dX12_feed_47 rfl (lv_at hl 0 rfl) ?_
        refine va_get (D := D) (ci := 12) (v := .ref q_d) (C := RX12) (T := TX12) (N := 26) hx hb hts in_X12_feed_X12 hown hK.1 hP 0 rfl rfl 0 (by decide) (hts (.fieldLink RX12 7 "PaperBubblesModel" "d" "[I") (List.mem_of_getElem? (i := 2) rfl)) (fun _ h9 => h9) rfl dX12_feed_48 ?_
        refine lv_sipush (v := 194) hx hb dX12_feed_51 (by decide) ?_
        refine lv_aload_n hx hb dX12_feed_54 rfl (lv_at hl 0 rfl) ?_
        refine va_get (D := D) (ci := 12) (v := .ref q_d) (C := RX12) (T := TX12) (N := 26) hx hb hts in_X12_feed_X12 hown hK.1 hP 0 rfl rfl 0 (by decide) (hts (.fieldLink RX12 7 "PaperBubblesModel" "d" "[I") (List.mem_of_getElem? (i := 2) rfl)) (fun _ h9 => h9) rfl dX12_feed_55 ?_
        refine lv_bipush (v := 7) hx hb dX12_feed_58 (by decide) ?_
        replace h := chi_ok h
        obtain ⟨hi_16, h⟩ := h
        refine va_iald hx hb hK.1 hP 1 0 rfl rfl hi_16 dX12_feed_60 ?_
        refine lv_iadd hx hb dX12_feed_61 ?_
        replace h := nm_ok h
        obtain ⟨t_17, et_17, h⟩ := h
        refine gTop et_17 ?_
        refine lv_lload_n hx hb dX12_feed_62 rfl (lv_at hl 1 rfl) ?_
        refine lv_bipush (v := 8) hx hb dX12_feed_63 (by decide) ?_
        refine lv_iload hx hb dX12_feed_65 (lv_at hl 3 rfl) ?_
        refine lv_imul hx hb dX12_feed_67 ?_
        replace h := nm_ok h
        obtain ⟨t_18, et_18, h⟩ := h
        refine gTop et_18 ?_
        refine lv_lshr hx hb dX12_feed_68 rfl ?_
        refine lv_ldc2 (v := 255) hx hb hown (hts (.constantLong RX12 122 (255)) (List.mem_of_getElem? (i := 3) rfl)) dX12_feed_69 ?_
        refine lv_land hx hb dX12_feed_72 ?_
        refine lv_l2i hx hb dX12_feed_73 rfl ?_
        replace h := nm_ok h
        obtain ⟨t_19, et_19, h⟩ := h
        refine gTop et_19 ?_
        replace h := chi_ok h
        obtain ⟨hi_20, h⟩ := h
        replace h := nm_ok h
        obtain ⟨w_21, ew_21, h⟩ := h
        refine va_iast hx hb hK.1 hP hD hS 1 0 rfl rfl hi_20 dX12_feed_74 (fun H locs hP hD hS => ?_)
        have hP : va_P D gcl [(q_this, .inr (12, [.ref q_d, .ref q_kept, .int v_images, .ref q_found, .ref q_aside, .int v_base, .int v_at, .int v_size, .int v_fault, .int v_opened, .int v_isSeen, .ref q_names, .ref q_seenKept, .ref q_movedKept, .int v_isKeeping, .int v_bubbleMany, .int v_bubbleMost, .int v_bubbleCell, .int v_bestShown, .ref q_traced, .int v_traceMany, .int v_who, .ref q_bitsOf, .ref q_sizeOf, .ref q_number, .ref q_lifted])), (q_d, .inl (c 0, 244, .inl w_21)), (q_found, .inl (c 0, 6, .inl v_found))] H := by subst ew_21; exact hP
        have hD : va_D A [(q_this, .inr (12, [.ref q_d, .ref q_kept, .int v_images, .ref q_found, .ref q_aside, .int v_base, .int v_at, .int v_size, .int v_fault, .int v_opened, .int v_isSeen, .ref q_names, .ref q_seenKept, .ref q_movedKept, .int v_isKeeping, .int v_bubbleMany, .int v_bubbleMost, .int v_bubbleCell, .int v_bestShown, .ref q_traced, .int v_traceMany, .int v_who, .ref q_bitsOf, .ref q_sizeOf, .ref q_number, .ref q_lifted])), (q_d, .inl (c 0, 244, .inl w_21)), (q_found, .inl (c 0, 6, .inl v_found))] := by subst ew_21; exact hD
        refine lv_aload_n hx hb dX12_feed_75 rfl (lv_at hl 0 rfl) ?_
        refine va_get (D := D) (ci := 12) (v := .ref q_d) (C := RX12) (T := TX12) (N := 26) hx hb hts in_X12_feed_X12 hown hK.1 hP 0 rfl rfl 0 (by decide) (hts (.fieldLink RX12 7 "PaperBubblesModel" "d" "[I") (List.mem_of_getElem? (i := 2) rfl)) (fun _ h9 => h9) rfl dX12_feed_76 ?_
        refine lv_bipush (v := 7) hx hb dX12_feed_79 (by decide) ?_
        refine lv_dup2_11 hx hb dX12_feed_81 rfl rfl ?_
        replace h := chi_ok h
        obtain ⟨hi_22, h⟩ := h
        refine va_iald hx hb hK.1 hP 1 0 rfl rfl hi_22 dX12_feed_82 ?_
        replace h := nm_ok h
        obtain ⟨t_23, et_23, h⟩ := h
        refine gTop et_23 ?_
        refine lv_iconst (v := 1) hx hb dX12_feed_83 (by decide) ?_
        refine lv_iadd hx hb dX12_feed_84 ?_
        replace h := nm_ok h
        obtain ⟨t_24, et_24, h⟩ := h
        refine gTop et_24 ?_
        replace h := chi_ok h
        obtain ⟨hi_25, h⟩ := h
        replace h := nm_ok h
        obtain ⟨w_26, ew_26, h⟩ := h
        refine va_iast hx hb hK.1 hP hD hS 1 0 rfl rfl hi_25 dX12_feed_85 (fun H locs hP hD hS => ?_)
        have hP : va_P D gcl [(q_this, .inr (12, [.ref q_d, .ref q_kept, .int v_images, .ref q_found, .ref q_aside, .int v_base, .int v_at, .int v_size, .int v_fault, .int v_opened, .int v_isSeen, .ref q_names, .ref q_seenKept, .ref q_movedKept, .int v_isKeeping, .int v_bubbleMany, .int v_bubbleMost, .int v_bubbleCell, .int v_bestShown, .ref q_traced, .int v_traceMany, .int v_who, .ref q_bitsOf, .ref q_sizeOf, .ref q_number, .ref q_lifted])), (q_d, .inl (c 0, 244, .inl w_26)), (q_found, .inl (c 0, 6, .inl v_found))] H := by subst ew_26; exact hP
        have hD : va_D A [(q_this, .inr (12, [.ref q_d, .ref q_kept, .int v_images, .ref q_found, .ref q_aside, .int v_base, .int v_at, .int v_size, .int v_fault, .int v_opened, .int v_isSeen, .ref q_names, .ref q_seenKept, .ref q_movedKept, .int v_isKeeping, .int v_bubbleMany, .int v_bubbleMost, .int v_bubbleCell, .int v_bestShown, .ref q_traced, .int v_traceMany, .int v_who, .ref q_bitsOf, .ref q_sizeOf, .ref q_number, .ref q_lifted])), (q_d, .inl (c 0, 244, .inl w_26)), (q_found, .inl (c 0, 6, .inl v_found))] := by subst ew_26; exact hD
        replace h := nm_ok h
        obtain ⟨t_27, et_27, h⟩ := h
        refine lv_iinc (v := t_27) (lv' := [(4, .int t_27), (0, .ref q_this), (1, .long a_1), (3, .int a_3)]) hx hb dX12_feed_86 hl (k := 3) rfl (by rw [et_27]; rfl) (by decide) rfl (fun ls hl => ?_)
        refine lv_goto (tgt := 41) hx hb dX12_feed_89 (by decide) ?_
        exact ih t_27 w_26 v_found H locs hP hD hS ls (lv_sub hl [1, 2, 3, 0] rfl) h
  unfold f_X12_feed at h
  refine lv_iload_n hx hb dX12_feed_0 rfl (lv_at hl 2 rfl) ?_
  refine lv_i2l hx hb dX12_feed_1 rfl ?_
  refine lv_lconst (v := 1) hx hb dX12_feed_2 (by decide) ?_
  refine lv_ldc2 (v := 8) hx hb hown (hts (.constantLong RX12 117 (8)) (List.mem_of_getElem? (i := 1) rfl)) dX12_feed_3 ?_
  replace h := kb_ok h
  obtain ⟨r_2, hc_1, h⟩ := h
  refine gCallIr (isC := []) (wc := []) hP hD hS hA trivial (va_runS (rm := rm_X12_in) (ws := wsX12_in) (As := [.long ((a_3 : Int32).toInt64), .long 1, .long 8]) (rest := []) (gFix hF) (c_X12_in l D c ((a_3 : Int32).toInt64) 1 8 r_2 hc_1 s.heap.size) (va_cwS 3 hts gX12_feed_X12_in rfl rfl rfl (by decide +kernel) ⟨Nat.le_of_ble_eq_true rfl, Nat.le_of_ble_eq_true rfl⟩) (gPreS (wc := []) (isC := []) hK hX hS hA hP hD trivial (by decide +kernel)) rfl rfl hl.1 rfl (lv_room (Nat.le_of_ble_eq_true rfl)) dX12_feed_6 ⟨Nat.le_of_ble_eq_true rfl, Nat.le_of_ble_eq_true rfl⟩) (fun H locs hP hS => ?_)
  refine lv_if_ne (tgt := 18) hx hb dX12_feed_9 (by decide) (fun c_3 => ?_) (fun c_3 => ?_)
  · replace h := it_f c_3 h
    refine lv_aload_n hx hb dX12_feed_18 rfl (lv_at hl 0 rfl) ?_
    refine va_get (D := D) (ci := 12) (v := .ref q_d) (C := RX12) (T := TX12) (N := 26) hx hb hts in_X12_feed_X12 hown hK.1 hP 0 rfl rfl 0 (by decide) (hts (.fieldLink RX12 7 "PaperBubblesModel" "d" "[I") (List.mem_of_getElem? (i := 2) rfl)) (fun _ h9 => h9) rfl dX12_feed_19 ?_
    refine lv_bipush (v := 7) hx hb dX12_feed_22 (by decide) ?_
    replace h := chi_ok h
    obtain ⟨hi_4, h⟩ := h
    refine va_iald hx hb hK.1 hP 1 0 rfl rfl hi_4 dX12_feed_24 ?_
    replace h := nm_ok h
    obtain ⟨t_5, et_5, h⟩ := h
    refine gTop et_5 ?_
    refine lv_iload_n hx hb dX12_feed_25 rfl (lv_at hl 2 rfl) ?_
    refine lv_iadd hx hb dX12_feed_26 ?_
    replace h := nm_ok h
    obtain ⟨t_6, et_6, h⟩ := h
    refine gTop et_6 ?_
    refine lv_bipush (v := 50) hx hb dX12_feed_27 (by decide) ?_
    refine lv_icmp_le (tgt := 38) hx hb dX12_feed_29 (by decide) (fun c_7 => ?_) (fun c_7 => ?_)
    · replace h := it_t c_7 h
      refine lv_iconst (v := 0) hx hb dX12_feed_38 (by decide) ?_
      refine lv_istore (lv' := [(4, .int 0), (0, .ref q_this), (1, .long a_1), (3, .int a_3)]) hx hb dX12_feed_39 hl (by decide) rfl (fun ls hl => ?_)
      exact t_L41 gFuel 0 v_d v_found H locs hP hD hS ls (lv_sub hl [1, 2, 3, 0] rfl) h
    · replace h := it_f c_7 h
      refine lv_aload_n hx hb dX12_feed_32 rfl (lv_at hl 0 rfl) ?_
      refine lv_iconst (v := 4) hx hb dX12_feed_33 (by decide) ?_
      replace h := kb2_ok h
      obtain ⟨r_9, w_10, hc_8, h⟩ := h
      refine gCallI (isC := [0, 2]) (wc := [(q_this, .inr (12, [.ref q_d, .ref q_kept, .int v_images, .ref q_found, .ref q_aside, .int v_base, .int v_at, .int v_size, .int v_fault, .int v_opened, .int v_isSeen, .ref q_names, .ref q_seenKept, .ref q_movedKept, .int v_isKeeping, .int v_bubbleMany, .int v_bubbleMost, .int v_bubbleCell, .int v_bestShown, .ref q_traced, .int v_traceMany, .int v_who, .ref q_bitsOf, .ref q_sizeOf, .ref q_number, .ref q_lifted])), (q_found, .inl (c 0, 6, .inl v_found))]) (w1 := [(q_this, .inr (12, [.ref q_d, .ref q_kept, .int v_images, .ref q_found, .ref q_aside, .int v_base, .int v_at, .int v_size, .int v_fault, .int v_opened, .int v_isSeen, .ref q_names, .ref q_seenKept, .ref q_movedKept, .int v_isKeeping, .int v_bubbleMany, .int v_bubbleMost, .int v_bubbleCell, .int v_bestShown, .ref q_traced, .int v_traceMany, .int v_who, .ref q_bitsOf, .ref q_sizeOf, .ref q_number, .ref q_lifted])), (q_found, .inl (c 0, 6, .inl w_10))]) (ws2 := [(q_this, .inr (12, [.ref q_d, .ref q_kept, .int v_images, .ref q_found, .ref q_aside, .int v_base, .int v_at, .int v_size, .int v_fault, .int v_opened, .int v_isSeen, .ref q_names, .ref q_seenKept, .ref q_movedKept, .int v_isKeeping, .int v_bubbleMany, .int v_bubbleMost, .int v_bubbleCell, .int v_bestShown, .ref q_traced, .int v_traceMany, .int v_who, .ref q_bitsOf, .ref q_sizeOf, .ref q_number, .ref q_lifted])), (q_d, .inl (c 0, 244, .inl v_d)), (q_found, .inl (c 0, 6, .inl w_10))]) (ms := [(some 0), none, (some 1)]) hP hD hS hA ⟨rfl, rfl, trivial⟩ (by decide +kernel) ⟨rfl, rfl, rfl, trivial⟩ (va_runV (rm := rm_X12_finds) (ws := wsX12_finds) (As := [.int 4]) (rest := []) (gFix hF) (c_X12_finds l D c q_this q_d q_kept q_found q_aside q_names q_seenKept q_movedKept q_traced q_bitsOf q_sizeOf q_number q_lifted 4 v_images v_base v_at v_size v_fault v_opened v_isSeen v_isKeeping v_bubbleMany v_bubbleMost v_bubbleCell v_bestShown v_traceMany v_who v_found r_9 w_10 hc_8 H.size) (cwV 1 hts gX12_feed_X12_finds rfl rfl rfl (by decide +kernel) ⟨Nat.le_of_ble_eq_true rfl, Nat.le_of_ble_eq_true rfl⟩) (gPreV (wc := [(q_this, .inr (12, [.ref q_d, .ref q_kept, .int v_images, .ref q_found, .ref q_aside, .int v_base, .int v_at, .int v_size, .int v_fault, .int v_opened, .int v_isSeen, .ref q_names, .ref q_seenKept, .ref q_movedKept, .int v_isKeeping, .int v_bubbleMany, .int v_bubbleMost, .int v_bubbleCell, .int v_bestShown, .ref q_traced, .int v_traceMany, .int v_who, .ref q_bitsOf, .ref q_sizeOf, .ref q_number, .ref q_lifted])), (q_found, .inl (c 0, 6, .inl v_found))]) (q := (RX12, TX12, 26)) (ci := 12) (q0 := 0) (isC := [0, 2]) hK hX hS hA hP hD ⟨rfl, rfl, trivial⟩ (by decide +kernel) rfl rfl) rfl rfl hl.1 rfl (lv_room (Nat.le_of_ble_eq_true rfl)) dX12_feed_34 ⟨Nat.le_of_ble_eq_true rfl, Nat.le_of_ble_eq_true rfl⟩) (fun H locs hP hD hS => ?_)
      replace h := so3 h
      obtain ⟨z0, z1, z2⟩ := h
      subst z0 z1 z2
      exact gIret hF hP hD hS rfl dX12_feed_37
  · replace h := it_t c_3 h
    refine lv_aload_n hx hb dX12_feed_12 rfl (lv_at hl 0 rfl) ?_
    refine lv_iconst (v := 1) hx hb dX12_feed_13 (by decide) ?_
    replace h := kb2_ok h
    obtain ⟨r_12, w_13, hc_11, h⟩ := h
    refine gCallI (isC := [0, 2]) (wc := [(q_this, .inr (12, [.ref q_d, .ref q_kept, .int v_images, .ref q_found, .ref q_aside, .int v_base, .int v_at, .int v_size, .int v_fault, .int v_opened, .int v_isSeen, .ref q_names, .ref q_seenKept, .ref q_movedKept, .int v_isKeeping, .int v_bubbleMany, .int v_bubbleMost, .int v_bubbleCell, .int v_bestShown, .ref q_traced, .int v_traceMany, .int v_who, .ref q_bitsOf, .ref q_sizeOf, .ref q_number, .ref q_lifted])), (q_found, .inl (c 0, 6, .inl v_found))]) (w1 := [(q_this, .inr (12, [.ref q_d, .ref q_kept, .int v_images, .ref q_found, .ref q_aside, .int v_base, .int v_at, .int v_size, .int v_fault, .int v_opened, .int v_isSeen, .ref q_names, .ref q_seenKept, .ref q_movedKept, .int v_isKeeping, .int v_bubbleMany, .int v_bubbleMost, .int v_bubbleCell, .int v_bestShown, .ref q_traced, .int v_traceMany, .int v_who, .ref q_bitsOf, .ref q_sizeOf, .ref q_number, .ref q_lifted])), (q_found, .inl (c 0, 6, .inl w_13))]) (ws2 := [(q_this, .inr (12, [.ref q_d, .ref q_kept, .int v_images, .ref q_found, .ref q_aside, .int v_base, .int v_at, .int v_size, .int v_fault, .int v_opened, .int v_isSeen, .ref q_names, .ref q_seenKept, .ref q_movedKept, .int v_isKeeping, .int v_bubbleMany, .int v_bubbleMost, .int v_bubbleCell, .int v_bestShown, .ref q_traced, .int v_traceMany, .int v_who, .ref q_bitsOf, .ref q_sizeOf, .ref q_number, .ref q_lifted])), (q_d, .inl (c 0, 244, .inl v_d)), (q_found, .inl (c 0, 6, .inl w_13))]) (ms := [(some 0), none, (some 1)]) hP hD hS hA ⟨rfl, rfl, trivial⟩ (by decide +kernel) ⟨rfl, rfl, rfl, trivial⟩ (va_runV (rm := rm_X12_finds) (ws := wsX12_finds) (As := [.int 1]) (rest := []) (gFix hF) (c_X12_finds l D c q_this q_d q_kept q_found q_aside q_names q_seenKept q_movedKept q_traced q_bitsOf q_sizeOf q_number q_lifted 1 v_images v_base v_at v_size v_fault v_opened v_isSeen v_isKeeping v_bubbleMany v_bubbleMost v_bubbleCell v_bestShown v_traceMany v_who v_found r_12 w_13 hc_11 H.size) (cwV 1 hts gX12_feed_X12_finds rfl rfl rfl (by decide +kernel) ⟨Nat.le_of_ble_eq_true rfl, Nat.le_of_ble_eq_true rfl⟩) (gPreV (wc := [(q_this, .inr (12, [.ref q_d, .ref q_kept, .int v_images, .ref q_found, .ref q_aside, .int v_base, .int v_at, .int v_size, .int v_fault, .int v_opened, .int v_isSeen, .ref q_names, .ref q_seenKept, .ref q_movedKept, .int v_isKeeping, .int v_bubbleMany, .int v_bubbleMost, .int v_bubbleCell, .int v_bestShown, .ref q_traced, .int v_traceMany, .int v_who, .ref q_bitsOf, .ref q_sizeOf, .ref q_number, .ref q_lifted])), (q_found, .inl (c 0, 6, .inl v_found))]) (q := (RX12, TX12, 26)) (ci := 12) (q0 := 0) (isC := [0, 2]) hK hX hS hA hP hD ⟨rfl, rfl, trivial⟩ (by decide +kernel) rfl rfl) rfl rfl hl.1 rfl (lv_room (Nat.le_of_ble_eq_true rfl)) dX12_feed_14 ⟨Nat.le_of_ble_eq_true rfl, Nat.le_of_ble_eq_true rfl⟩) (fun H locs hP hD hS => ?_)
    replace h := so3 h
    obtain ⟨z0, z1, z2⟩ := h
    subst z0 z1 z2
    exact gIret hF hP hD hS rfl dX12_feed_17
