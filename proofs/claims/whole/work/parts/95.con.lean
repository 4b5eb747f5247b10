abbrev rm_J7_fill_53178 : Room := { frames := 0, cells := 0, slots := 0, locals := 0 }
set_option maxHeartbeats 4000000 in
set_option maxRecDepth 100000 in
theorem c_J7_fill_53178 (l : Launch) (D : va_G) (c : Nat → ClassId) (q_this : Nat) (n_this : Nat) (a_1 : Int32) (v_this : Nat → Int32) (o_v_this : Nat → Int32) (h : f_J7_fill_53178 a_1 n_this v_this = some o_v_this) : gMV l yJ7_fill_53178 wsJ7_fill_53178 rm_J7_fill_53178 D c [.ref q_this, .int a_1] [(q_this, .inl (c 0, n_this, .inl v_this))] [(q_this, .inl (c 0, n_this, .inl o_v_this))] := by
  refine gMV_of (cc := cJ7_fill_53178) (maxL := 4) (rt := none) (by decide +kernel) rfl (Nat.le_of_ble_eq_true rfl) ?_
  intro p e s m below meth co A hF hK hX hP hD hA hS ls hl
  obtain ⟨hx, hb, hr, hts, hown, hlocks, hml⟩ := id hF
  have hl : lv_has ls 4 [(0, .ref q_this), (1, .int a_1)] := hl
  have t_L5 : ∀ (n : Nat), ∀ (x2 : Int32) (x3 : Int32) (v_this : Nat → Int32) (H : Heap) (locs : List Loc), va_P D gcl [(q_this, .inl (c 0, n_this, .inl v_this))] H → va_D A [(q_this, .inl (c 0, n_this, .inl v_this))] → va_S A s.heap H locs → ∀ ls, lv_has ls 4 [(0, .ref q_this), (1, .int a_1), (2, .int x2), (3, .int x3)] → f_J7_fill_53178_L5 a_1 n_this n x2 x3 v_this = some o_v_this → W p l e (headSpec wsJ7_fill_53178 rm_J7_fill_53178).room s m [.ref q_this, .int a_1].toArray below meth co H locs 0 0 (gQV D [(q_this, .inl (c 0, n_this, .inl o_v_this))] A below [.ref q_this, .int a_1] s) (F0 m 5 ls []) := by
    intro n
    induction n with
    | zero => intro x2 x3 v_this H locs hP hD hS ls hl h; exact no_ok h
    | succ n ih =>
      intro x2 x3 v_this H locs hP hD hS ls hl h
      rw [f_J7_fill_53178_L5] at h
      refine lv_iload_n hx hb dJ7_fill_53178_5 rfl (lv_at hl 2 rfl) ?_
      refine lv_iload_n hx hb dJ7_fill_53178_6 rfl (lv_at hl 3 rfl) ?_
      refine lv_icmp_ge (tgt := 20) hx hb dJ7_fill_53178_7 (by decide) (fun c_2 => ?_) (fun c_2 => ?_)
      · replace h := it_t c_2 h
        replace h := so1 h
        subst h
        exact gVret hF hP hD hS dJ7_fill_53178_20
      · replace h := it_f c_2 h
        refine lv_aload_n hx hb dJ7_fill_53178_10 rfl (lv_at hl 0 rfl) ?_
        refine lv_iload_n hx hb dJ7_fill_53178_11 rfl (lv_at hl 2 rfl) ?_
        refine lv_iload_n hx hb dJ7_fill_53178_12 rfl (lv_at hl 1 rfl) ?_
        replace h := chi_ok h
        obtain ⟨hi_3, h⟩ := h
        replace h := nm_ok h
        obtain ⟨w_4, ew_4, h⟩ := h
        refine va_iast hx hb hK.1 hP hD hS 0 0 rfl rfl hi_3 dJ7_fill_53178_13 (fun H locs hP hD hS => ?_)
        have hP : va_P D gcl [(q_this, .inl (c 0, n_this, .inl w_4))] H := by subst ew_4; exact hP
        have hD : va_D A [(q_this, .inl (c 0, n_this, .inl w_4))] := by subst ew_4; exact hD
        replace h := nm_ok h
        obtain ⟨t_5, et_5, h⟩ := h
        refine lv_iinc (v := t_5) (lv' := [(2, .int t_5), (0, .ref q_this), (1, .int a_1), (3, .int x3)]) hx hb dJ7_fill_53178_14 hl (k := 2) rfl (by rw [et_5]; rfl) (by decide) rfl (fun ls hl => ?_)
        refine lv_goto (tgt := 5) hx hb dJ7_fill_53178_17 (by decide) ?_
        exact ih t_5 x3 w_4 H locs hP hD hS ls (lv_sub hl [1, 2, 0, 3] rfl) h
  unfold f_J7_fill_53178 at h
  refine lv_iconst (v := 0) hx hb dJ7_fill_53178_0 (by decide) ?_
  refine lv_istore_n (lv' := [(2, .int 0), (0, .ref q_this), (1, .int a_1)]) hx hb dJ7_fill_53178_1 rfl hl (by decide) rfl (fun ls hl => ?_)
  refine lv_aload_n hx hb dJ7_fill_53178_2 rfl (lv_at hl 1 rfl) ?_
  refine va_alen (v := nI n_this) hx hb hK.1 hP 0 0 rfl rfl rfl dJ7_fill_53178_3 ?_
  replace h := nm_ok h
  obtain ⟨t_1, et_1, h⟩ := h
  refine gTop et_1 ?_
  refine lv_istore_n (lv' := [(3, .int t_1), (2, .int 0), (0, .ref q_this), (1, .int a_1)]) hx hb dJ7_fill_53178_4 rfl hl (by decide) rfl (fun ls hl => ?_)
  exact t_L5 gFuel 0 t_1 v_this s.heap [] hP hD hS ls (lv_sub hl [2, 3, 1, 0] rfl) h
set_option maxRecDepth 20000 in
theorem in_X12_builds_X12 : ∀ w ∈ u_ws RX12 TX12 26, w ∈ wsX12_builds := by decide +kernel
abbrev rm_X12_builds : Room := { frames := 0, cells := 0, slots := 0, locals := 0 }
set_option maxHeartbeats 4000000 in
set_option maxRecDepth 100000 in
theorem c_X12_builds (l : Launch) (D : va_G) (c : Nat → ClassId) (q_this q_d q_kept q_found q_aside q_names q_seenKept q_movedKept q_traced q_bitsOf q_sizeOf q_number q_lifted : Nat) (a_1 : Int32) (a_2 : Int32) (v_images : Int32) (v_base : Int32) (v_at : Int32) (v_size : Int32) (v_fault : Int32) (v_opened : Int32) (v_isSeen : Int32) (v_isKeeping : Int32) (v_bubbleMany : Int32) (v_bubbleMost : Int32) (v_bubbleCell : Int32) (v_bestShown : Int32) (v_traceMany : Int32) (v_who : Int32) (v_d : Nat → Int32) (o_v_d : Nat → Int32) (h : f_X12_builds a_1 a_2 v_d = some o_v_d) : gMV l yX12_builds wsX12_builds rm_X12_builds D c [.ref q_this, .int a_1, .int a_2] [(q_this, .inr (12, [.ref q_d, .ref q_kept, .int v_images, .ref q_found, .ref q_aside, .int v_base, .int v_at, .int v_size, .int v_fault, .int v_opened, .int v_isSeen, .ref q_names, .ref q_seenKept, .ref q_movedKept, .int v_isKeeping, .int v_bubbleMany, .int v_bubbleMost, .int v_bubbleCell, .int v_bestShown, .ref q_traced, .int v_traceMany, .int v_who, .ref q_bitsOf, .ref q_sizeOf, .ref q_number, .ref q_lifted])), (q_d, .inl (c 0, 244, .inl v_d))] [(q_this, .inr (12, [.ref q_d, .ref q_kept, .int v_images, .ref q_found, .ref q_aside, .int v_base, .int v_at, .int v_size, .int v_fault, .int v_opened, .int v_isSeen, .ref q_names, .ref q_seenKept, .ref q_movedKept, .int v_isKeeping, .int v_bubbleMany, .int v_bubbleMost, .int v_bubbleCell, .int v_bestShown, .ref q_traced, .int v_traceMany, .int v_who, .ref q_bitsOf, .ref q_sizeOf, .ref q_number, .ref q_lifted])), (q_d, .inl (c 0, 244, .inl o_v_d))] := by
  refine gMV_of (cc := cX12_builds) (maxL := 4) (rt := none) (by decide +kernel) rfl (Nat.le_of_ble_eq_true rfl) ?_
  intro p e s m below meth co A hF hK hX hP hD hA hS ls hl
  obtain ⟨hx, hb, hr, hts, hown, hlocks, hml⟩ := id hF
  have hl : lv_has ls 4 [(0, .ref q_this), (1, .int a_1), (2, .int a_2)] := hl
  have t_L16 : ∀ (n : Nat), ∀ (x3 : Int32) (v_d : Nat → Int32) (H : Heap) (locs : List Loc), va_P D gcl [(q_this, .inr (12, [.ref q_d, .ref q_kept, .int v_images, .ref q_found, .ref q_aside, .int v_base, .int v_at, .int v_size, .int v_fault, .int v_opened, .int v_isSeen, .ref q_names, .ref q_seenKept, .ref q_movedKept, .int v_isKeeping, .int v_bubbleMany, .int v_bubbleMost, .int v_bubbleCell, .int v_bestShown, .ref q_traced, .int v_traceMany, .int v_who, .ref q_bitsOf, .ref q_sizeOf, .ref q_number, .ref q_lifted])), (q_d, .inl (c 0, 244, .inl v_d))] H → va_D A [(q_this, .inr (12, [.ref q_d, .ref q_kept, .int v_images, .ref q_found, .ref q_aside, .int v_base, .int v_at, .int v_size, .int v_fault, .int v_opened, .int v_isSeen, .ref q_names, .ref q_seenKept, .ref q_movedKept, .int v_isKeeping, .int v_bubbleMany, .int v_bubbleMost, .int v_bubbleCell, .int v_bestShown, .ref q_traced, .int v_traceMany, .int v_who, .ref q_bitsOf, .ref q_sizeOf, .ref q_number, .ref q_lifted])), (q_d, .inl (c 0, 244, .inl v_d))] → va_S A s.heap H locs → ∀ ls, lv_has ls 4 [(0, .ref q_this), (3, .int x3)] → f_X12_builds_L16 n x3 v_d = some o_v_d → W p l e (headSpec wsX12_builds rm_X12_builds).room s m [.ref q_this, .int a_1, .int a_2].toArray below meth co H locs 0 0 (gQV D [(q_this, .inr (12, [.ref q_d, .ref q_kept, .int v_images, .ref q_found, .ref q_aside, .int v_base, .int v_at, .int v_size, .int v_fault, .int v_opened, .int v_isSeen, .ref q_names, .ref q_seenKept, .ref q_movedKept, .int v_isKeeping, .int v_bubbleMany, .int v_bubbleMost, .int v_bubbleCell, .int v_bestShown, .ref q_traced, .int v_traceMany, .int v_who, .ref q_bitsOf, .ref q_sizeOf, .ref q_number, .ref q_lifted])), (q_d, .inl (c 0, 244, .inl o_v_d))] A below [.ref q_this, .int a_1, .int a_2] s) (F0 m 16 ls []) := by
    intro n
    induction n with
    | zero => intro x3 v_d H locs hP hD hS ls hl h; exact no_ok h
    | succ n ih =>
      intro x3 v_d H locs hP hD hS ls hl h
      rw [f_X12_builds_L16] at h
      refine lv_iload_n hx hb dX12_builds_16 rfl (lv_at hl 1 rfl) ?_
      refine lv_bipush (v := 25) hx hb dX12_builds_17 (by decide) ?_
      refine lv_icmp_ge (tgt := 48) hx hb dX12_builds_19 (by decide) (fun c_5 => ?_) (fun c_5 => ?_)
      · replace h := it_t c_5 h
        replace h := so1 h
        subst h
        exact gVret hF hP hD hS dX12_builds_48
      · replace h := it_f c_5 h
        refine lv_aload_n hx hb dX12_builds_22 rfl (lv_at hl 0 rfl) ?_
        refine va_get (D := D) (ci := 12) (v := .ref q_d) (C := RX12) (T := TX12) (N := 26) hx hb hts in_X12_builds_X12 hown hK.1 hP 0 rfl rfl 0 (by decide) (hts (.fieldLink RX12 7 "PaperBubblesModel" "d" "[I") (List.mem_of_getElem? (i := 1) rfl)) (fun _ h9 => h9) rfl dX12_builds_23 ?_
        refine lv_bipush (v := 10) hx hb dX12_builds_26 (by decide) ?_
        refine lv_iload_n hx hb dX12_builds_28 rfl (lv_at hl 1 rfl) ?_
        refine lv_iadd hx hb dX12_builds_29 ?_
        replace h := nm_ok h
        obtain ⟨t_6, et_6, h⟩ := h
        refine gTop et_6 ?_
        refine lv_iconst (v := 0) hx hb dX12_builds_30 (by decide) ?_
        replace h := chi_ok h
        obtain ⟨hi_7, h⟩ := h
        replace h := nm_ok h
        obtain ⟨w_8, ew_8, h⟩ := h
        refine va_iast hx hb hK.1 hP hD hS 1 0 rfl rfl hi_7 dX12_builds_31 (fun H locs hP hD hS => ?_)
        have hP : va_P D gcl [(q_this, .inr (12, [.ref q_d, .ref q_kept, .int v_images, .ref q_found, .ref q_aside, .int v_base, .int v_at, .int v_size, .int v_fault, .int v_opened, .int v_isSeen, .ref q_names, .ref q_seenKept, .ref q_movedKept, .int v_isKeeping, .int v_bubbleMany, .int v_bubbleMost, .int v_bubbleCell, .int v_bestShown, .ref q_traced, .int v_traceMany, .int v_who, .ref q_bitsOf, .ref q_sizeOf, .ref q_number, .ref q_lifted])), (q_d, .inl (c 0, 244, .inl w_8))] H := by subst ew_8; exact hP
        have hD : va_D A [(q_this, .inr (12, [.ref q_d, .ref q_kept, .int v_images, .ref q_found, .ref q_aside, .int v_base, .int v_at, .int v_size, .int v_fault, .int v_opened, .int v_isSeen, .ref q_names, .ref q_seenKept, .ref q_movedKept, .int v_isKeeping, .int v_bubbleMany, .int v_bubbleMost, .int v_bubbleCell, .int v_bestShown, .ref q_traced, .int v_traceMany, .int v_who, .ref q_bitsOf, .ref q_sizeOf, .ref q_number, .ref q_lifted])), (q_d, .inl (c 0, 244, .inl w_8))] := by subst ew_8; exact hD
        refine lv_aload_n hx hb dX12_builds_32 rfl (lv_at hl 0 rfl) ?_
        refine va_get (D := D) (ci := 12) (v := .ref q_d) (C := RX12) (T := TX12) (N := 26) hx hb hts in_X12_builds_X12 hown hK.1 hP 0 rfl rfl 0 (by decide) (hts (.fieldLink RX12 7 "PaperBubblesModel" "d" "[I") (List.mem_of_getElem? (i := 1) rfl)) (fun _ h9 => h9) rfl dX12_builds_33 ?_
        refine lv_bipush (v := 35) hx hb dX12_builds_36 (by decide) ?_
        refine lv_iload_n hx hb dX12_builds_38 rfl (lv_at hl 1 rfl) ?_
        refine lv_iadd hx hb dX12_builds_39 ?_
        replace h := nm_ok h
        obtain ⟨t_9, et_9, h⟩ := h
        refine gTop et_9 ?_
        refine lv_iconst (v := 5) hx hb dX12_builds_40 (by decide) ?_
        replace h := chi_ok h
        obtain ⟨hi_10, h⟩ := h
        replace h := nm_ok h
        obtain ⟨w_11, ew_11, h⟩ := h
        refine va_iast hx hb hK.1 hP hD hS 1 0 rfl rfl hi_10 dX12_builds_41 (fun H locs hP hD hS => ?_)
        have hP : va_P D gcl [(q_this, .inr (12, [.ref q_d, .ref q_kept, .int v_images, .ref q_found, .ref q_aside, .int v_base, .int v_at, .int v_size, .int v_fault, .int v_opened, .int v_isSeen, .ref q_names, .ref q_seenKept, .ref q_movedKept, .int v_isKeeping, .int v_bubbleMany, .int v_bubbleMost, .int v_bubbleCell, .int v_bestShown, .ref q_traced, .int v_traceMany, .int v_who, .ref q_bitsOf, .ref q_sizeOf, .ref q_number, .ref q_lifted])), (q_d, .inl (c 0, 244, .inl w_11))] H := by subst ew_11; exact hP
        have hD : va_D A [(q_this, .inr (12, [.ref q_d, .ref q_kept, .int v_images, .ref q_found, .ref q_aside, .int v_base, .int v_at, .int v_size, .int v_fault, .int v_opened, .int v_isSeen, .ref q_names, .ref q_seenKept, .ref q_movedKept, .int v_isKeeping, .int v_bubbleMany, .int v_bubbleMost, .int v_bubbleCell, .int v_bestShown, .ref q_traced, .int v_traceMany, .int v_who, .ref q_bitsOf, .ref q_sizeOf, .ref q_number, .ref q_lifted])), (q_d, .inl (c 0, 244, .inl w_11))] := by subst ew_11; exact hD
        replace h := nm_ok h
        obtain ⟨t_12, et_12, h⟩ := h
        refine lv_iinc (v := t_12) (lv' := [(3, .int t_12), (0, .ref q_this)]) hx hb dX12_builds_42 hl (k := 1) rfl (by rw [et_12]; rfl) (by decide) rfl (fun ls hl => ?_)
        refine lv_goto (tgt := 16) hx hb dX12_builds_45 (by decide) ?_
        exact ih t_12 w_11 H locs hP hD hS ls (lv_sub hl [1, 0] rfl) h
  unfold f_X12_builds at h
  refine lv_aload_n hx hb dX12_builds_0 rfl (lv_at hl 0 rfl) ?_
  refine va_get (D := D) (ci := 12) (v := .ref q_d) (C := RX12) (T := TX12) (N := 26) hx hb hts in_X12_builds_X12 hown hK.1 hP 0 rfl rfl 0 (by decide) (hts (.fieldLink RX12 7 "PaperBubblesModel" "d" "[I") (List.mem_of_getElem? (i := 1) rfl)) (fun _ h9 => h9) rfl dX12_builds_1 ?_
  refine lv_iconst (v := 0) hx hb dX12_builds_4 (by decide) ?_
  refine lv_iload_n hx hb dX12_builds_5 rfl (lv_at hl 1 rfl) ?_
  replace h := chi_ok h
  obtain ⟨hi_1, h⟩ := h
  replace h := nm_ok h
  obtain ⟨w_2, ew_2, h⟩ := h
  refine va_iast hx hb hK.1 hP hD hS 1 0 rfl rfl hi_1 dX12_builds_6 (fun H locs hP hD hS => ?_)
  have hP : va_P D gcl [(q_this, .inr (12, [.ref q_d, .ref q_kept, .int v_images, .ref q_found, .ref q_aside, .int v_base, .int v_at, .int v_size, .int v_fault, .int v_opened, .int v_isSeen, .ref q_names, .ref q_seenKept, .ref q_movedKept, .int v_isKeeping, .int v_bubbleMany, .int v_bubbleMost, .int v_bubbleCell, .int v_bestShown, .ref q_traced, .int v_traceMany, .int v_who, .ref q_bitsOf, .ref q_sizeOf, .ref q_number, .ref q_lifted])), (q_d, .inl (c 0, 244, .inl w_2))] H := by subst ew_2; exact hP
  have hD : va_D A [(q_this, .inr (12, [.ref q_d, .ref q_kept, .int v_images, .ref q_found, .ref q_aside, .int v_base, .int v_at, .int v_size, .int v_fault, .int v_opened, .int v_isSeen, .ref q_names, .ref q_seenKept, .ref q_movedKept, .int v_isKeeping, .int v_bubbleMany, .int v_bubbleMost, .int v_bubbleCell, .int v_bestShown, .ref q_traced, .int v_traceMany, .int v_who, .ref q_bitsOf, .ref q_sizeOf, .ref q_number, .ref q_lifted])), (q_d, .inl (c 0, 244, .inl w_2))] := by subst ew_2; exact hD
  refine lv_aload_n hx hb dX12_builds_7 rfl (lv_at hl 0 rfl) ?_
  refine va_get (D := D) (ci := 12) (v := .ref q_d) (C := RX12) (T := TX12) (N := 26) hx hb hts in_X12_builds_X12 hown hK.1 hP 0 rfl rfl 0 (by decide) (hts (.fieldLink RX12 7 "PaperBubblesModel" "d" "[I") (List.mem_of_getElem? (i := 1) rfl)) (fun _ h9 => h9) rfl dX12_builds_8 ?_
  refine lv_iconst (v := 1) hx hb dX12_builds_11 (by decide) ?_
  refine lv_iload_n hx hb dX12_builds_12 rfl (lv_at hl 2 rfl) ?_
  replace h := chi_ok h
  obtain ⟨hi_3, h⟩ := h
  replace h := nm_ok h
  obtain ⟨w_4, ew_4, h⟩ := h
  refine va_iast hx hb hK.1 hP hD hS 1 0 rfl rfl hi_3 dX12_builds_13 (fun H locs hP hD hS => ?_)
  have hP : va_P D gcl [(q_this, .inr (12, [.ref q_d, .ref q_kept, .int v_images, .ref q_found, .ref q_aside, .int v_base, .int v_at, .int v_size, .int v_fault, .int v_opened, .int v_isSeen, .ref q_names, .ref q_seenKept, .ref q_movedKept, .int v_isKeeping, .int v_bubbleMany, .int v_bubbleMost, .int v_bubbleCell, .int v_bestShown, .ref q_traced, .int v_traceMany, .int v_who, .ref q_bitsOf, .ref q_sizeOf, .ref q_number, .ref q_lifted])), (q_d, .inl (c 0, 244, .inl w_4))] H := by subst ew_4; exact hP
  have hD : va_D A [(q_this, .inr (12, [.ref q_d, .ref q_kept, .int v_images, .ref q_found, .ref q_aside, .int v_base, .int v_at, .int v_size, .int v_fault, .int v_opened, .int v_isSeen, .ref q_names, .ref q_seenKept, .ref q_movedKept, .int v_isKeeping, .int v_bubbleMany, .int v_bubbleMost, .int v_bubbleCell, .int v_bestShown, .ref q_traced, .int v_traceMany, .int v_who, .ref q_bitsOf, .ref q_sizeOf, .ref q_number, .ref q_lifted])), (q_d, .inl (c 0, 244, .inl w_4))] := by subst ew_4; exact hD
  refine lv_iconst (v := 0) hx hb dX12_builds_14 (by decide) ?_
  refine lv_istore_n (lv' := [(3, .int 0), (0, .ref q_this), (1, .int a_1), (2, .int a_2)]) hx hb dX12_builds_15 rfl hl (by decide) rfl (fun ls hl => ?_)
  exact t_L16 gFuel 0 w_4 H locs hP hD hS ls (lv_sub hl [1, 0] rfl) h
