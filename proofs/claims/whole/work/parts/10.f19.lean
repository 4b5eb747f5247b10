set_option maxRecDepth 20000 in
theorem in_X12_best_X12 : ∀ w ∈ u_ws RX12 TX12 26, w ∈ wsX12_best := by decide +kernel
def f_X12_best_L18 (v_base : Int32) (v_at : Int32) (v_size : Int32) (v_fault : Int32) (v_opened : Int32) (v_isSeen : Int32) (v_bestShown : Int32) (v_aside : Nat → Int32) (v_d : Nat → Int32) (v_found : Nat → Int32) (v_movedKept : Nat → Int32) (v_names : Nat → Int32) (v_seenKept : Nat → Int32) : Option (Int32 × Int32 × Int32 × Int32 × Int32 × Int32 × Int32 × Int32 × (Nat → Int32) × (Nat → Int32) × (Nat → Int32) × (Nat → Int32) × (Nat → Int32) × (Nat → Int32)) :=
  kb2 (f_X12_finds 1 v_found) fun r_23 w_24 =>
  some (r_23, v_base, v_at, v_size, v_fault, v_opened, v_isSeen, v_bestShown, v_aside, v_d, w_24, v_movedKept, v_names, v_seenKept)

def f_X12_best (a_1 : Int32) (a_2 : Int32) (v_base : Int32) (v_at : Int32) (v_size : Int32) (v_fault : Int32) (v_opened : Int32) (v_isSeen : Int32) (v_isKeeping : Int32) (v_bestShown : Int32) (v_aside : Nat → Int32) (v_d : Nat → Int32) (v_found : Nat → Int32) (v_movedKept : Nat → Int32) (v_names : Nat → Int32) (v_seenKept : Nat → Int32) : Option (Int32 × Int32 × Int32 × Int32 × Int32 × Int32 × Int32 × Int32 × (Nat → Int32) × (Nat → Int32) × (Nat → Int32) × (Nat → Int32) × (Nat → Int32) × (Nat → Int32)) :=
  kb (f_X12_isTool a_1 v_d) fun r_2 =>
  if r_2 = 0 then
    f_X12_best_L18 v_base v_at v_size v_fault v_opened v_isSeen v_bestShown v_aside v_d v_found v_movedKept v_names v_seenKept
  else
    kb (f_X12_in ((a_2 : Int32).toInt64) 0 1) fun r_5 =>
    if r_5 = 0 then
      f_X12_best_L18 v_base v_at v_size v_fault v_opened v_isSeen v_bestShown v_aside v_d v_found v_movedKept v_names v_seenKept
    else
      kb13 (f_X12_bestOf a_1 0 v_base v_at v_size v_fault v_opened v_isSeen v_isKeeping v_bestShown v_aside v_d v_movedKept v_names v_seenKept) fun r_8 w_9 w_10 w_11 w_12 w_13 w_14 w_15 w_16 w_17 w_18 w_19 w_20 =>
      if a_2 = 0 then
        some (r_8, w_9, w_10, w_11, w_12, w_13, w_14, w_15, w_16, w_17, v_found, w_18, w_19, w_20)
      else
        some (w_15, w_9, w_10, w_11, w_12, w_13, w_14, w_15, w_16, w_17, v_found, w_18, w_19, w_20)

abbrev rm_X12_best : Room := { frames := 60, cells := 0, slots := 0, locals := 1387 }
set_option maxHeartbeats 4000000 in
set_option maxRecDepth 100000 in
theorem c_X12_best (l : Launch) (D : va_G) (c : Nat → ClassId) (q_this q_d q_kept q_found q_aside q_names q_seenKept q_movedKept q_traced q_bitsOf q_sizeOf q_number q_lifted : Nat) (a_1 : Int32) (a_2 : Int32) (v_images : Int32) (v_base : Int32) (v_at : Int32) (v_size : Int32) (v_fault : Int32) (v_opened : Int32) (v_isSeen : Int32) (v_isKeeping : Int32) (v_bubbleMany : Int32) (v_bubbleMost : Int32) (v_bubbleCell : Int32) (v_bestShown : Int32) (v_traceMany : Int32) (v_who : Int32) (v_aside : Nat → Int32) (v_d : Nat → Int32) (v_found : Nat → Int32) (v_movedKept : Nat → Int32) (v_names : Nat → Int32) (v_seenKept : Nat → Int32) (o_r : Int32) (o_v_base : Int32) (o_v_at : Int32) (o_v_size : Int32) (o_v_fault : Int32) (o_v_opened : Int32) (o_v_isSeen : Int32) (o_v_bestShown : Int32) (o_v_aside : Nat → Int32) (o_v_d : Nat → Int32) (o_v_found : Nat → Int32) (o_v_movedKept : Nat → Int32) (o_v_names : Nat → Int32) (o_v_seenKept : Nat → Int32) (h : f_X12_best a_1 a_2 v_base v_at v_size v_fault v_opened v_isSeen v_isKeeping v_bestShown v_aside v_d v_found v_movedKept v_names v_seenKept = some (o_r, o_v_base, o_v_at, o_v_size, o_v_fault, o_v_opened, o_v_isSeen, o_v_bestShown, o_v_aside, o_v_d, o_v_found, o_v_movedKept, o_v_names, o_v_seenKept)) : gMI l yX12_best wsX12_best rm_X12_best D c [.ref q_this, .int a_1, .int a_2] [(q_this, .inr (12, [.ref q_d, .ref q_kept, .int v_images, .ref q_found, .ref q_aside, .int v_base, .int v_at, .int v_size, .int v_fault, .int v_opened, .int v_isSeen, .ref q_names, .ref q_seenKept, .ref q_movedKept, .int v_isKeeping, .int v_bubbleMany, .int v_bubbleMost, .int v_bubbleCell, .int v_bestShown, .ref q_traced, .int v_traceMany, .int v_who, .ref q_bitsOf, .ref q_sizeOf, .ref q_number, .ref q_lifted])), (q_aside, .inl (c 0, 120, .inl v_aside)), (q_d, .inl (c 0, 244, .inl v_d)), (q_found, .inl (c 0, 6, .inl v_found)), (q_movedKept, .inl (c 0, 1000, .inl v_movedKept)), (q_names, .inl (c 0, 3, .inl v_names)), (q_seenKept, .inl (c 0, 2500, .inl v_seenKept))] [(q_this, .inr (12, [.ref q_d, .ref q_kept, .int v_images, .ref q_found, .ref q_aside, .int o_v_base, .int o_v_at, .int o_v_size, .int o_v_fault, .int o_v_opened, .int o_v_isSeen, .ref q_names, .ref q_seenKept, .ref q_movedKept, .int v_isKeeping, .int v_bubbleMany, .int v_bubbleMost, .int v_bubbleCell, .int o_v_bestShown, .ref q_traced, .int v_traceMany, .int v_who, .ref q_bitsOf, .ref q_sizeOf, .ref q_number, .ref q_lifted])), (q_aside, .inl (c 0, 120, .inl o_v_aside)), (q_d, .inl (c 0, 244, .inl o_v_d)), (q_found, .inl (c 0, 6, .inl o_v_found)), (q_movedKept, .inl (c 0, 1000, .inl o_v_movedKept)), (q_names, .inl (c 0, 3, .inl o_v_names)), (q_seenKept, .inl (c 0, 2500, .inl o_v_seenKept))] o_r := by
  refine gMI_of (cc := cX12_best) (maxL := 4) (rt := (some .int)) (by decide +kernel) rfl (Nat.le_of_ble_eq_true rfl) ?_
  intro p e s m below meth co A hF hK hX hP hD hA hS ls hl
  obtain ⟨hx, hb, hr, hts, hown, hlocks, hml⟩ := id hF
  have hl : lv_has ls 4 [(0, .ref q_this), (1, .int a_1), (2, .int a_2)] := hl
  have t_L18 : ∀ (v_base : Int32) (v_at : Int32) (v_size : Int32) (v_fault : Int32) (v_opened : Int32) (v_isSeen : Int32) (v_bestShown : Int32) (v_aside : Nat → Int32) (v_d : Nat → Int32) (v_found : Nat → Int32) (v_movedKept : Nat → Int32) (v_names : Nat → Int32) (v_seenKept : Nat → Int32) (H : Heap) (locs : List Loc), va_P D gcl [(q_this, .inr (12, [.ref q_d, .ref q_kept, .int v_images, .ref q_found, .ref q_aside, .int v_base, .int v_at, .int v_size, .int v_fault, .int v_opened, .int v_isSeen, .ref q_names, .ref q_seenKept, .ref q_movedKept, .int v_isKeeping, .int v_bubbleMany, .int v_bubbleMost, .int v_bubbleCell, .int v_bestShown, .ref q_traced, .int v_traceMany, .int v_who, .ref q_bitsOf, .ref q_sizeOf, .ref q_number, .ref q_lifted])), (q_aside, .inl (c 0, 120, .inl v_aside)), (q_d, .inl (c 0, 244, .inl v_d)), (q_found, .inl (c 0, 6, .inl v_found)), (q_movedKept, .inl (c 0, 1000, .inl v_movedKept)), (q_names, .inl (c 0, 3, .inl v_names)), (q_seenKept, .inl (c 0, 2500, .inl v_seenKept))] H → va_D A [(q_this, .inr (12, [.ref q_d, .ref q_kept, .int v_images, .ref q_found, .ref q_aside, .int v_base, .int v_at, .int v_size, .int v_fault, .int v_opened, .int v_isSeen, .ref q_names, .ref q_seenKept, .ref q_movedKept, .int v_isKeeping, .int v_bubbleMany, .int v_bubbleMost, .int v_bubbleCell, .int v_bestShown, .ref q_traced, .int v_traceMany, .int v_who, .ref q_bitsOf, .ref q_sizeOf, .ref q_number, .ref q_lifted])), (q_aside, .inl (c 0, 120, .inl v_aside)), (q_d, .inl (c 0, 244, .inl v_d)), (q_found, .inl (c 0, 6, .inl v_found)), (q_movedKept, .inl (c 0, 1000, .inl v_movedKept)), (q_names, .inl (c 0, 3, .inl v_names)), (q_seenKept, .inl (c 0, 2500, .inl v_seenKept))] → va_S A s.heap H locs → ∀ ls, lv_has ls 4 [(0, .ref q_this)] → f_X12_best_L18 v_base v_at v_size v_fault v_opened v_isSeen v_bestShown v_aside v_d v_found v_movedKept v_names v_seenKept = some (o_r, o_v_base, o_v_at, o_v_size, o_v_fault, o_v_opened, o_v_isSeen, o_v_bestShown, o_v_aside, o_v_d, o_v_found, o_v_movedKept, o_v_names, o_v_seenKept) → W p l e (headSpec wsX12_best rm_X12_best).room s m [.ref q_this, .int a_1, .int a_2].toArray below meth co H locs 0 0 (gQI D [(q_this, .inr (12, [.ref q_d, .ref q_kept, .int v_images, .ref q_found, .ref q_aside, .int o_v_base, .int o_v_at, .int o_v_size, .int o_v_fault, .int o_v_opened, .int o_v_isSeen, .ref q_names, .ref q_seenKept, .ref q_movedKept, .int v_isKeeping, .int v_bubbleMany, .int v_bubbleMost, .int v_bubbleCell, .int o_v_bestShown, .ref q_traced, .int v_traceMany, .int v_who, .ref q_bitsOf, .ref q_sizeOf, .ref q_number, .ref q_lifted])), (q_aside, .inl (c 0, 120, .inl o_v_aside)), (q_d, .inl (c 0, 244, .inl o_v_d)), (q_found, .inl (c 0, 6, .inl o_v_found)), (q_movedKept, .inl (c 0, 1000, .inl o_v_movedKept)), (q_names, .inl (c 0, 3, .inl o_v_names)), (q_seenKept, .inl (c 0, 2500, .inl o_v_seenKept))] o_r A below [.ref q_this, .int a_1, .int a_2] s) (F0 m 18 ls []) := by
    intro  v_base v_at v_size v_fault v_opened v_isSeen v_bestShown v_aside v_d v_found v_movedKept v_names v_seenKept H locs hP hD hS ls hl h
    unfold f_X12_best_L18 at h
    refine lv_aload_n hx hb dX12_best_18 rfl (lv_at hl 0 rfl) ?_
    refine lv_iconst (v := 1) hx hb dX12_best_19 (by decide) ?_
    replace h := kb2_ok h
    obtain ⟨r_23, w_24, hc_22, h⟩ := h
    refine gCallI (isC := [0, 3]) (wc := [(q_this, .inr (12, [.ref q_d, .ref q_kept, .int v_images, .ref q_found, .ref q_aside, .int v_base, .int v_at, .int v_size, .int v_fault, .int v_opened, .int v_isSeen, .ref q_names, .ref q_seenKept, .ref q_movedKept, .int v_isKeeping, .int v_bubbleMany, .int v_bubbleMost, .int v_bubbleCell, .int v_bestShown, .ref q_traced, .int v_traceMany, .int v_who, .ref q_bitsOf, .ref q_sizeOf, .ref q_number, .ref q_lifted])), (q_found, .inl (c 0, 6, .inl v_found))]) (w1 := [(q_this, .inr (12, [.ref q_d, .ref q_kept, .int v_images, .ref q_found, .ref q_aside, .int v_base, .int v_at, .int v_size, .int v_fault, .int v_opened, .int v_isSeen, .ref q_names, .ref q_seenKept, .ref q_movedKept, .int v_isKeeping, .int v_bubbleMany, .int v_bubbleMost, .int v_bubbleCell, .int v_bestShown, .ref q_traced, .int v_traceMany, .int v_who, .ref q_bitsOf, .ref q_sizeOf, .ref q_number, .ref q_lifted])), (q_found, .inl (c 0, 6, .inl w_24))]) (ws2 := [(q_this, .inr (12, [.ref q_d, .ref q_kept, .int v_images, .ref q_found, .ref q_aside, .int v_base, .int v_at, .int v_size, .int v_fault, .int v_opened, .int v_isSeen, .ref q_names, .ref q_seenKept, .ref q_movedKept, .int v_isKeeping, .int v_bubbleMany, .int v_bubbleMost, .int v_bubbleCell, .int v_bestShown, .ref q_traced, .int v_traceMany, .int v_who, .ref q_bitsOf, .ref q_sizeOf, .ref q_number, .ref q_lifted])), (q_aside, .inl (c 0, 120, .inl v_aside)), (q_d, .inl (c 0, 244, .inl v_d)), (q_found, .inl (c 0, 6, .inl w_24)), (q_movedKept, .inl (c 0, 1000, .inl v_movedKept)), (q_names, .inl (c 0, 3, .inl v_names)), (q_seenKept, .inl (c 0, 2500, .inl v_seenKept))]) (ms := [(some 0), none, none, (some 1), none, none, none]) hP hD hS hA ⟨rfl, rfl, trivial⟩ (by decide +kernel) ⟨rfl, rfl, rfl, rfl, rfl, rfl, rfl, trivial⟩ (va_runV (rm := rm_X12_finds) (ws := wsX12_finds) (As := [.int 1]) (rest := []) (gFix hF) (c_X12_finds l D c q_this q_d q_kept q_found q_aside q_names q_seenKept q_movedKept q_traced q_bitsOf q_sizeOf q_number q_lifted 1 v_images v_base v_at v_size v_fault v_opened v_isSeen v_isKeeping v_bubbleMany v_bubbleMost v_bubbleCell v_bestShown v_traceMany v_who v_found r_23 w_24 hc_22 H.size) (cwV 1 hts gX12_best_X12_finds rfl rfl rfl (by decide +kernel) ⟨Nat.le_of_ble_eq_true rfl, Nat.le_of_ble_eq_true rfl⟩) (gPreV (wc := [(q_this, .inr (12, [.ref q_d, .ref q_kept, .int v_images, .ref q_found, .ref q_aside, .int v_base, .int v_at, .int v_size, .int v_fault, .int v_opened, .int v_isSeen, .ref q_names, .ref q_seenKept, .ref q_movedKept, .int v_isKeeping, .int v_bubbleMany, .int v_bubbleMost, .int v_bubbleCell, .int v_bestShown, .ref q_traced, .int v_traceMany, .int v_who, .ref q_bitsOf, .ref q_sizeOf, .ref q_number, .ref q_lifted])), (q_found, .inl (c 0, 6, .inl v_found))]) (q := (RX12, TX12, 26)) (ci := 12) (q0 := 0) (isC := [0, 3]) hK hX hS hA hP hD ⟨rfl, rfl, trivial⟩ (by decide +kernel) rfl rfl) rfl rfl hl.1 rfl (lv_room (Nat.le_of_ble_eq_true rfl)) dX12_best_20 ⟨Nat.le_of_ble_eq_true rfl, Nat.le_of_ble_eq_true rfl⟩) (fun H locs hP hD hS => ?_)
    replace h := so14 h
    obtain ⟨z0, z1, z2, z3, z4, z5, z6, z7, z8, z9, z10, z11, z12, z13⟩ := h
    subst z0 z1 z2 z3 z4 z5 z6 z7 z8 z9 z10 z11 z12 z13
    exact gIret hF hP hD hS rfl dX12_best_23
  unfold f_X12_best at h
  refine lv_aload_n hx hb dX12_best_0 rfl (lv_at hl 0 rfl) ?_
  refine lv_iload_n hx hb dX12_best_1 rfl (lv_at hl 1 rfl) ?_
  replace h := kb_ok h
  obtain ⟨r_2, hc_1, h⟩ := h
  refine gCallIr (isC := [0, 2]) (wc := [(q_this, .inr (12, [.ref q_d, .ref q_kept, .int v_images, .ref q_found, .ref q_aside, .int v_base, .int v_at, .int v_size, .int v_fault, .int v_opened, .int v_isSeen, .ref q_names, .ref q_seenKept, .ref q_movedKept, .int v_isKeeping, .int v_bubbleMany, .int v_bubbleMost, .int v_bubbleCell, .int v_bestShown, .ref q_traced, .int v_traceMany, .int v_who, .ref q_bitsOf, .ref q_sizeOf, .ref q_number, .ref q_lifted])), (q_d, .inl (c 0, 244, .inl v_d))]) hP hD hS hA ⟨rfl, rfl, trivial⟩ (va_runV (rm := rm_X12_isTool) (ws := wsX12_isTool) (As := [.int a_1]) (rest := []) (gFix hF) (c_X12_isTool l D c q_this q_d q_kept q_found q_aside q_names q_seenKept q_movedKept q_traced q_bitsOf q_sizeOf q_number q_lifted a_1 v_images v_base v_at v_size v_fault v_opened v_isSeen v_isKeeping v_bubbleMany v_bubbleMost v_bubbleCell v_bestShown v_traceMany v_who v_d r_2 hc_1 s.heap.size) (cwV 1 hts gX12_best_X12_isTool rfl rfl rfl (by decide +kernel) ⟨Nat.le_of_ble_eq_true rfl, Nat.le_of_ble_eq_true rfl⟩) (gPreV (wc := [(q_this, .inr (12, [.ref q_d, .ref q_kept, .int v_images, .ref q_found, .ref q_aside, .int v_base, .int v_at, .int v_size, .int v_fault, .int v_opened, .int v_isSeen, .ref q_names, .ref q_seenKept, .ref q_movedKept, .int v_isKeeping, .int v_bubbleMany, .int v_bubbleMost, .int v_bubbleCell, .int v_bestShown, .ref q_traced, .int v_traceMany, .int v_who, .ref q_bitsOf, .ref q_sizeOf, .ref q_number, .ref q_lifted])), (q_d, .inl (c 0, 244, .inl v_d))]) (q := (RX12, TX12, 26)) (ci := 12) (q0 := 0) (isC := [0, 2]) hK hX hS hA hP hD ⟨rfl, rfl, trivial⟩ (by decide +kernel) rfl rfl) rfl rfl hl.1 rfl (lv_room (Nat.le_of_ble_eq_true rfl)) dX12_best_2 ⟨Nat.le_of_ble_eq_true rfl, Nat.le_of_ble_eq_true rfl⟩) (fun H locs hP hS => ?_)
  refine lv_if_eq (tgt := 18) hx hb dX12_best_5 (by decide) (fun c_3 => ?_) (fun c_3 => ?_)
  · replace h := it_t c_3 h
    exact t_L18 v_base v_at v_size v_fault v_opened v_isSeen v_bestShown v_aside v_d v_found v_movedKept v_names v_seenKept H locs hP hD hS ls (lv_sub hl [0] rfl) h
  · replace h := it_f c_3 h
    refine lv_iload_n hx hb dX12_best_8 rfl (lv_at hl 2 rfl) ?_
    refine lv_i2l hx hb dX12_best_9 rfl ?_
    refine lv_lconst (v := 0) hx hb dX12_best_10 (by decide) ?_
    refine lv_lconst (v := 1) hx hb dX12_best_11 (by decide) ?_
    replace h := kb_ok h
    obtain ⟨r_5, hc_4, h⟩ := h
    refine gCallIr (isC := []) (wc := []) hP hD hS hA trivial (va_runS (rm := rm_X12_in) (ws := wsX12_in) (As := [.long ((a_2 : Int32).toInt64), .long 0, .long 1]) (rest := []) (gFix hF) (c_X12_in l D c ((a_2 : Int32).toInt64) 0 1 r_5 hc_4 H.size) (va_cwS 3 hts gX12_best_X12_in rfl rfl rfl (by decide +kernel) ⟨Nat.le_of_ble_eq_true rfl, Nat.le_of_ble_eq_true rfl⟩) (gPreS (wc := []) (isC := []) hK hX hS hA hP hD trivial (by decide +kernel)) rfl rfl hl.1 rfl (lv_room (Nat.le_of_ble_eq_true rfl)) dX12_best_12 ⟨Nat.le_of_ble_eq_true rfl, Nat.le_of_ble_eq_true rfl⟩) (fun H locs hP hS => ?_)
    refine lv_if_ne (tgt := 24) hx hb dX12_best_15 (by decide) (fun c_6 => ?_) (fun c_6 => ?_)
    · replace h := it_f c_6 h
      refine lv_aload_n hx hb dX12_best_24 rfl (lv_at hl 0 rfl) ?_
      refine lv_iload_n hx hb dX12_best_25 rfl (lv_at hl 1 rfl) ?_
      refine lv_iconst (v := 0) hx hb dX12_best_26 (by decide) ?_
      replace h := kb13_ok h
      obtain ⟨r_8, w_9, w_10, w_11, w_12, w_13, w_14, w_15, w_16, w_17, w_18, w_19, w_20, hc_7, h⟩ := h
      refine gCallI (isC := [0, 1, 2, 4, 5, 6]) (wc := [(q_this, .inr (12, [.ref q_d, .ref q_kept, .int v_images, .ref q_found, .ref q_aside, .int v_base, .int v_at, .int v_size, .int v_fault, .int v_opened, .int v_isSeen, .ref q_names, .ref q_seenKept, .ref q_movedKept, .int v_isKeeping, .int v_bubbleMany, .int v_bubbleMost, .int v_bubbleCell, .int v_bestShown, .ref q_traced, .int v_traceMany, .int v_who, .ref q_bitsOf, .ref q_sizeOf, .ref q_number, .ref q_lifted])), (q_aside, .inl (c 0, 120, .inl v_aside)), (q_d, .inl (c 0, 244, .inl v_d)), (q_movedKept, .inl (c 0, 1000, .inl v_movedKept)), (q_names, .inl (c 0, 3, .inl v_names)), (q_seenKept, .inl (c 0, 2500, .inl v_seenKept))]) (w1 := [(q_this, .inr (12, [.ref q_d, .ref q_kept, .int v_images, .ref q_found, .ref q_aside, .int w_9, .int w_10, .int w_11, .int w_12, .int w_13, .int w_14, .ref q_names, .ref q_seenKept, .ref q_movedKept, .int v_isKeeping, .int v_bubbleMany, .int v_bubbleMost, .int v_bubbleCell, .int w_15, .ref q_traced, .int v_traceMany, .int v_who, .ref q_bitsOf, .ref q_sizeOf, .ref q_number, .ref q_lifted])), (q_aside, .inl (c 0, 120, .inl w_16)), (q_d, .inl (c 0, 244, .inl w_17)), (q_movedKept, .inl (c 0, 1000, .inl w_18)), (q_names, .inl (c 0, 3, .inl w_19)), (q_seenKept, .inl (c 0, 2500, .inl w_20))]) (ws2 := [(q_this, .inr (12, [.ref q_d, .ref q_kept, .int v_images, .ref q_found, .ref q_aside, .int w_9, .int w_10, .int w_11, .int w_12, .int w_13, .int w_14, .ref q_names, .ref q_seenKept, .ref q_movedKept, .int v_isKeeping, .int v_bubbleMany, .int v_bubbleMost, .int v_bubbleCell, .int w_15, .ref q_traced, .int v_traceMany, .int v_who, .ref q_bitsOf, .ref q_sizeOf, .ref q_number, .ref q_lifted])), (q_aside, .inl (c 0, 120, .inl w_16)), (q_d, .inl (c 0, 244, .inl w_17)), (q_found, .inl (c 0, 6, .inl v_found)), (q_movedKept, .inl (c 0, 1000, .inl w_18)), (q_names, .inl (c 0, 3, .inl w_19)), (q_seenKept, .inl (c 0, 2500, .inl w_20))]) (ms := [(some 0), (some 1), (some 2), none, (some 3), (some 4), (some 5)]) hP hD hS hA ⟨rfl, rfl, rfl, rfl, rfl, rfl, trivial⟩ (by decide +kernel) ⟨rfl, rfl, rfl, rfl, rfl, rfl, rfl, trivial⟩ (va_runV (rm := rm_X12_bestOf) (ws := wsX12_bestOf) (As := [.int a_1, .int 0]) (rest := []) (gFix hF) (c_X12_bestOf l D c q_this q_d q_kept q_found q_aside q_names q_seenKept q_movedKept q_traced q_bitsOf q_sizeOf q_number q_lifted a_1 0 v_images v_base v_at v_size v_fault v_opened v_isSeen v_isKeeping v_bubbleMany v_bubbleMost v_bubbleCell v_bestShown v_traceMany v_who v_aside v_d v_movedKept v_names v_seenKept r_8 w_9 w_10 w_11 w_12 w_13 w_14 w_15 w_16 w_17 w_18 w_19 w_20 hc_7 H.size) (cwV 2 hts gX12_best_X12_bestOf rfl rfl rfl (by decide +kernel) ⟨Nat.le_of_ble_eq_true rfl, Nat.le_of_ble_eq_true rfl⟩) (gPreV (wc := [(q_this, .inr (12, [.ref q_d, .ref q_kept, .int v_images, .ref q_found, .ref q_aside, .int v_base, .int v_at, .int v_size, .int v_fault, .int v_opened, .int v_isSeen, .ref q_names, .ref q_seenKept, .ref q_movedKept, .int v_isKeeping, .int v_bubbleMany, .int v_bubbleMost, .int v_bubbleCell, .int v_bestShown, .ref q_traced, .int v_traceMany, .int v_who, .ref q_bitsOf, .ref q_sizeOf, .ref q_number, .ref q_lifted])), (q_aside, .inl (c 0, 120, .inl v_aside)), (q_d, .inl (c 0, 244, .inl v_d)), (q_movedKept, .inl (c 0, 1000, .inl v_movedKept)), (q_names, .inl (c 0, 3, .inl v_names)), (q_seenKept, .inl (c 0, 2500, .inl v_seenKept))]) (q := (RX12, TX12, 26)) (ci := 12) (q0 := 0) (isC := [0, 1, 2, 4, 5, 6]) hK hX hS hA hP hD ⟨rfl, rfl, rfl, rfl, rfl, rfl, trivial⟩ (by decide +kernel) rfl rfl) rfl rfl hl.1 rfl (lv_room (Nat.le_of_ble_eq_true rfl)) dX12_best_27 ⟨Nat.le_of_ble_eq_true rfl, Nat.le_of_ble_eq_true rfl⟩) (fun H locs hP hD hS => ?_)
      refine lv_istore_n (lv' := [(3, .int r_8), (0, .ref q_this), (1, .int a_1), (2, .int a_2)]) hx hb dX12_best_30 rfl hl (by decide) rfl (fun ls hl => ?_)
      refine lv_iload_n hx hb dX12_best_31 rfl (lv_at hl 3 rfl) ?_
      refine lv_if_ne (tgt := 39) hx hb dX12_best_32 (by decide) (fun c_21 => ?_) (fun c_21 => ?_)
      · replace h := it_f c_21 h
        refine lv_aload_n hx hb dX12_best_39 rfl (lv_at hl 1 rfl) ?_
        refine va_get (D := D) (ci := 12) (v := .int w_15) (C := RX12) (T := TX12) (N := 26) hx hb hts in_X12_best_X12 hown hK.1 hP 0 rfl rfl 18 (by decide) (hts (.fieldLink RX12 233 "PaperBubblesModel" "bestShown" "I") (List.mem_of_getElem? (i := 1) rfl)) (fun _ h9 => h9) rfl dX12_best_40 ?_
        replace h := so14 h
        obtain ⟨z0, z1, z2, z3, z4, z5, z6, z7, z8, z9, z10, z11, z12, z13⟩ := h
        subst z0 z1 z2 z3 z4 z5 z6 z7 z8 z9 z10 z11 z12 z13
        exact gIret hF hP hD hS rfl dX12_best_43
      · replace h := it_t c_21 h
        refine lv_iload_n hx hb dX12_best_35 rfl (lv_at hl 0 rfl) ?_
        refine lv_goto (tgt := 43) hx hb dX12_best_36 (by decide) ?_
        replace h := so14 h
        obtain ⟨z0, z1, z2, z3, z4, z5, z6, z7, z8, z9, z10, z11, z12, z13⟩ := h
        subst z0 z1 z2 z3 z4 z5 z6 z7 z8 z9 z10 z11 z12 z13
        exact gIret hF hP hD hS rfl dX12_best_43
    · replace h := it_t c_6 h
      exact t_L18 v_base v_at v_size v_fault v_opened v_isSeen v_bestShown v_aside v_d v_found v_movedKept v_names v_seenKept H locs hP hD hS ls (lv_sub hl [0] rfl) h
set_option maxRecDepth 20000 in
theorem in_X12_keepsAnew_X12 : ∀ w ∈ u_ws RX12 TX12 26, w ∈ wsX12_keepsAnew := by decide +kernel
def f_X12_keepsAnew_L29 : Nat → Int32 → Int32 → (Nat → Int32) → (Nat → Int32) → Option (Int32 × (Nat → Int32) × (Nat → Int32))
  | 0, _, _, _, _ => none
  | n + 1, x1, v_isKeeping, v_movedKept, v_seenKept =>
    if 1000 ≤ x1 then
      some (v_isKeeping, v_movedKept, v_seenKept)
    else
      chi x1 1000 <|
      nm (upd v_movedKept x1.toNatClampNeg (-1)) fun w_7 =>
      nm (x1 + 1 : Int32) fun t_8 =>
      f_X12_keepsAnew_L29 n t_8 v_isKeeping w_7 v_seenKept

def f_X12_keepsAnew_L7 : Nat → Int32 → Int32 → (Nat → Int32) → (Nat → Int32) → Option (Int32 × (Nat → Int32) × (Nat → Int32))
  | 0, _, _, _, _ => none
  | n + 1, x1, v_isKeeping, v_movedKept, v_seenKept =>
    if 2500 ≤ x1 then
      f_X12_keepsAnew_L29 gFuel 0 v_isKeeping v_movedKept v_seenKept
    else
      chi x1 2500 <|
      nm (upd v_seenKept x1.toNatClampNeg (-1)) fun w_3 =>
      nm (x1 + 1 : Int32) fun t_4 =>
      f_X12_keepsAnew_L7 n t_4 v_isKeeping v_movedKept w_3

def f_X12_keepsAnew (v_isKeeping : Int32) (v_movedKept : Nat → Int32) (v_seenKept : Nat → Int32) : Option (Int32 × (Nat → Int32) × (Nat → Int32)) :=
  f_X12_keepsAnew_L7 gFuel 0 1 v_movedKept v_seenKept

abbrev rm_X12_keepsAnew : Room := { frames := 0, cells := 0, slots := 0, locals := 0 }
set_option maxHeartbeats 4000000 in
set_option maxRecDepth 100000 in
theorem c_X12_keepsAnew (l : Launch) (D : va_G) (c : Nat → ClassId) (q_this q_d q_kept q_found q_aside q_names q_seenKept q_movedKept q_traced q_bitsOf q_sizeOf q_number q_lifted : Nat) (v_images : Int32) (v_base : Int32) (v_at : Int32) (v_size : Int32) (v_fault : Int32) (v_opened : Int32) (v_isSeen : Int32) (v_isKeeping : Int32) (v_bubbleMany : Int32) (v_bubbleMost : Int32) (v_bubbleCell : Int32) (v_bestShown : Int32) (v_traceMany : Int32) (v_who : Int32) (v_movedKept : Nat → Int32) (v_seenKept : Nat → Int32) (o_v_isKeeping : Int32) (o_v_movedKept : Nat → Int32) (o_v_seenKept : Nat → Int32) (h : f_X12_keepsAnew v_isKeeping v_movedKept v_seenKept = some (o_v_isKeeping, o_v_movedKept, o_v_seenKept)) : gMV l yX12_keepsAnew wsX12_keepsAnew rm_X12_keepsAnew D c [.ref q_this] [(q_this, .inr (12, [.ref q_d, .ref q_kept, .int v_images, .ref q_found, .ref q_aside, .int v_base, .int v_at, .int v_size, .int v_fault, .int v_opened, .int v_isSeen, .ref q_names, .ref q_seenKept, .ref q_movedKept, .int v_isKeeping, .int v_bubbleMany, .int v_bubbleMost, .int v_bubbleCell, .int v_bestShown, .ref q_traced, .int v_traceMany, .int v_who, .ref q_bitsOf, .ref q_sizeOf, .ref q_number, .ref q_lifted])), (q_movedKept, .inl (c 0, 1000, .inl v_movedKept)), (q_seenKept, .inl (c 0, 2500, .inl v_seenKept))] [(q_this, .inr (12, [.ref q_d, .ref q_kept, .int v_images, .ref q_found, .ref q_aside, .int v_base, .int v_at, .int v_size, .int v_fault, .int v_opened, .int v_isSeen, .ref q_names, .ref q_seenKept, .ref q_movedKept, .int o_v_isKeeping, .int v_bubbleMany, .int v_bubbleMost, .int v_bubbleCell, .int v_bestShown, .ref q_traced, .int v_traceMany, .int v_who, .ref q_bitsOf, .ref q_sizeOf, .ref q_number, .ref q_lifted])), (q_movedKept, .inl (c 0, 1000, .inl o_v_movedKept)), (q_seenKept, .inl (c 0, 2500, .inl o_v_seenKept))] := by
  refine gMV_of (cc := cX12_keepsAnew) (maxL := 2) (rt := none) (by decide +kernel) rfl (Nat.le_of_ble_eq_true rfl) ?_
  intro p e s m below meth co A hF hK hX hP hD hA hS ls hl
  obtain ⟨hx, hb, hr, hts, hown, hlocks, hml⟩ := id hF
  have hl : lv_has ls 2 [(0, .ref q_this)] := hl
  have t_L29 : ∀ (n : Nat), ∀ (x1 : Int32) (v_isKeeping : Int32) (v_movedKept : Nat → Int32) (v_seenKept : Nat → Int32) (H : Heap) (locs : List Loc), va_P D gcl [(q_this, .inr (12, [.ref q_d, .ref q_kept, .int v_images, .ref q_found, .ref q_aside, .int v_base, .int v_at, .int v_size, .int v_fault, .int v_opened, .int v_isSeen, .ref q_names, .ref q_seenKept, .ref q_movedKept, .int v_isKeeping, .int v_bubbleMany, .int v_bubbleMost, .int v_bubbleCell, .int v_bestShown, .ref q_traced, .int v_traceMany, .int v_who, .ref q_bitsOf, .ref q_sizeOf, .ref q_number, .ref q_lifted])), (q_movedKept, .inl (c 0, 1000, .inl v_movedKept)), (q_seenKept, .inl (c 0, 2500, .inl v_seenKept))] H → va_D A [(q_this, .inr (12, [.ref q_d, .ref q_kept, .int v_images, .ref q_found, .ref q_aside, .int v_base, .int v_at, .int v_size, .int v_fault, .int v_opened, .int v_isSeen, .ref q_names, .ref q_seenKept, .ref q_movedKept, .int v_isKeeping, .int v_bubbleMany, .int v_bubbleMost, .int v_bubbleCell, .int v_bestShown, .ref q_traced, .int v_traceMany, .int v_who, .ref q_bitsOf, .ref q_sizeOf, .ref q_number, .ref q_lifted])), (q_movedKept, .inl (c 0, 1000, .inl v_movedKept)), (q_seenKept, .inl (c 0, 2500, .inl v_seenKept))] → va_S A s.heap H locs → ∀ ls, lv_has ls 2 [(0, .ref q_this), (1, .int x1)] → f_X12_keepsAnew_L29 n x1 v_isKeeping v_movedKept v_seenKept = some (o_v_isKeeping, o_v_movedKept, o_v_seenKept) → W p l e (headSpec wsX12_keepsAnew rm_X12_keepsAnew).room s m [.ref q_this].toArray below meth co H locs 0 0 (gQV D [(q_this, .inr (12, [.ref q_d, .ref q_kept, .int v_images, .ref q_found, .ref q_aside, .int v_base, .int v_at, .int v_size, .int v_fault, .int v_opened, .int v_isSeen, .ref q_names, .ref q_seenKept, .ref q_movedKept, .int o_v_isKeeping, .int v_bubbleMany, .int v_bubbleMost, .int v_bubbleCell, .int v_bestShown, .ref q_traced, .int v_traceMany, .int v_who, .ref q_bitsOf, .ref q_sizeOf, .ref q_number, .ref q_lifted])), (q_movedKept, .inl (c 0, 1000, .inl o_v_movedKept)), (q_seenKept, .inl (c 0, 2500, .inl o_v_seenKept))] A below [.ref q_this] s) (F0 m 29 ls []) := by
    intro n
    induction n with
    | zero => intro x1 v_isKeeping v_movedKept v_seenKept H locs hP hD hS ls hl h; exact no_ok h
    | succ n ih =>
      intro x1 v_isKeeping v_movedKept v_seenKept H locs hP hD hS ls hl h
      rw [f_X12_keepsAnew_L29] at h
      refine lv_iload_n hx hb dX12_keepsAnew_29 rfl (lv_at hl 1 rfl) ?_
      refine lv_sipush (v := 1000) hx hb dX12_keepsAnew_30 (by decide) ?_
      refine lv_icmp_ge (tgt := 49) hx hb dX12_keepsAnew_33 (by decide) (fun c_5 => ?_) (fun c_5 => ?_)
      · replace h := it_t c_5 h
        replace h := so3 h
        obtain ⟨z0, z1, z2⟩ := h
        subst z0 z1 z2
        exact gVret hF hP hD hS dX12_keepsAnew_49
      · replace h := it_f c_5 h
        refine lv_aload_n hx hb dX12_keepsAnew_36 rfl (lv_at hl 0 rfl) ?_
        refine va_get (D := D) (ci := 12) (v := .ref q_movedKept) (C := RX12) (T := TX12) (N := 26) hx hb hts in_X12_keepsAnew_X12 hown hK.1 hP 0 rfl rfl 13 (by decide) (hts (.fieldLink RX12 28 "PaperBubblesModel" "movedKept" "[I") (List.mem_of_getElem? (i := 3) rfl)) (fun _ h9 => h9) rfl dX12_keepsAnew_37 ?_
        refine lv_iload_n hx hb dX12_keepsAnew_40 rfl (lv_at hl 1 rfl) ?_
        refine lv_iconst (v := (-1)) hx hb dX12_keepsAnew_41 (by decide) ?_
        replace h := chi_ok h
        obtain ⟨hi_6, h⟩ := h
        replace h := nm_ok h
        obtain ⟨w_7, ew_7, h⟩ := h
        refine va_iast hx hb hK.1 hP hD hS 1 0 rfl rfl hi_6 dX12_keepsAnew_42 (fun H locs hP hD hS => ?_)
        have hP : va_P D gcl [(q_this, .inr (12, [.ref q_d, .ref q_kept, .int v_images, .ref q_found, .ref q_aside, .int v_base, .int v_at, .int v_size, .int v_fault, .int v_opened, .int v_isSeen, .ref q_names, .ref q_seenKept, .ref q_movedKept, .int v_isKeeping, .int v_bubbleMany, .int v_bubbleMost, .int v_bubbleCell, .int v_bestShown, .ref q_traced, .int v_traceMany, .int v_who, .ref q_bitsOf, .ref q_sizeOf, .ref q_number, .ref q_lifted])), (q_movedKept, .inl (c 0, 1000, .inl w_7)), (q_seenKept, .inl (c 0, 2500, .inl v_seenKept))] H := by subst ew_7; exact hP
        have hD : va_D A [(q_this, .inr (12, [.ref q_d, .ref q_kept, .int v_images, .ref q_found, .ref q_aside, .int v_base, .int v_at, .int v_size, .int v_fault, .int v_opened, .int v_isSeen, .ref q_names, .ref q_seenKept, .ref q_movedKept, .int v_isKeeping, .int v_bubbleMany, .int v_bubbleMost, .int v_bubbleCell, .int v_bestShown, .ref q_traced, .int v_traceMany, .int v_who, .ref q_bitsOf, .ref q_sizeOf, .ref q_number, .ref q_lifted])), (q_movedKept, .inl (c 0, 1000, .inl w_7)), (q_seenKept, .inl (c 0, 2500, .inl v_seenKept))] := by subst ew_7; exact hD
        replace h := nm_ok h
        obtain ⟨t_8, et_8, h⟩ := h
        refine lv_iinc (v := t_8) (lv' := [(1, .int t_8), (0, .ref q_this)]) hx hb dX12_keepsAnew_43 hl (k := 1) rfl (by rw [et_8]; rfl) (by decide) rfl (fun ls hl => ?_)
        refine lv_goto (tgt := 29) hx hb dX12_keepsAnew_46 (by decide) ?_
        exact ih t_8 v_isKeeping w_7 v_seenKept H locs hP hD hS ls (lv_sub hl [1, 0] rfl) h
  have t_L7 : ∀ (n : Nat), ∀ (x1 : Int32) (v_isKeeping : Int32) (v_movedKept : Nat → Int32) (v_seenKept : Nat → Int32) (H : Heap) (locs : List Loc), va_P D gcl [(q_this, .inr (12, [.ref q_d, .ref q_kept, .int v_images, .ref q_found, .ref q_aside, .int v_base, .int v_at, .int v_size, .int v_fault, .int v_opened, .int v_isSeen, .ref q_names, .ref q_seenKept, .ref q_movedKept, .int v_isKeeping, .int v_bubbleMany, .int v_bubbleMost, .int v_bubbleCell, .int v_bestShown, .ref q_traced, .int v_traceMany, .int v_who, .ref q_bitsOf, .ref q_sizeOf, .ref q_number, .ref q_lifted])), (q_movedKept, .inl (c 0, 1000, .inl v_movedKept)), (q_seenKept, .inl (c 0, 2500, .inl v_seenKept))] H → va_D A [(q_this, .inr (12, [.ref q_d, .ref q_kept, .int v_images, .ref q_found, .ref q_aside, .int v_base, .int v_at, .int v_size, .int v_fault, .int v_opened, .int v_isSeen, .ref q_names, .ref q_seenKept, .ref q_movedKept, .int v_isKeeping, .int v_bubbleMany, .int v_bubbleMost, .int v_bubbleCell, .int v_bestShown, .ref q_traced, .int v_traceMany, .int v_who, .ref q_bitsOf, .ref q_sizeOf, .ref q_number, .ref q_lifted])), (q_movedKept, .inl (c 0, 1000, .inl v_movedKept)), (q_seenKept, .inl (c 0, 2500, .inl v_seenKept))] → va_S A s.heap H locs → ∀ ls, lv_has ls 2 [(0, .ref q_this), (1, .int x1)] → f_X12_keepsAnew_L7 n x1 v_isKeeping v_movedKept v_seenKept = some (o_v_isKeeping, o_v_movedKept, o_v_seenKept) → W p l e (headSpec wsX12_keepsAnew rm_X12_keepsAnew).room s m [.ref q_this].toArray below meth co H locs 0 0 (gQV D [(q_this, .inr (12, [.ref q_d, .ref q_kept, .int v_images, .ref q_found, .ref q_aside, .int v_base, .int v_at, .int v_size, .int v_fault, .int v_opened, .int v_isSeen, .ref q_names, .ref q_seenKept, .ref q_movedKept, .int o_v_isKeeping, .int v_bubbleMany, .int v_bubbleMost, .int v_bubbleCell, .int v_bestShown, .ref q_traced, .int v_traceMany, .int v_who, .ref q_bitsOf, .ref q_sizeOf, .ref q_number, .ref q_lifted])), (q_movedKept, .inl (c 0, 1000, .inl o_v_movedKept)), (q_seenKept, .inl (c 0, 2500, .inl o_v_seenKept))] A below [.ref q_this] s) (F0 m 7 ls []) := by
    intro n
    induction n with
    | zero => intro x1 v_isKeeping v_movedKept v_seenKept H locs hP hD hS ls hl h; exact no_ok h
    | succ n ih =>
      intro x1 v_isKeeping v_movedKept v_seenKept H locs hP hD hS ls hl h
      rw [f_X12_keepsAnew_L7] at h
      refine lv_iload_n hx hb dX12_keepsAnew_7 rfl (lv_at hl 1 rfl) ?_
      refine lv_sipush (v := 2500) hx hb dX12_keepsAnew_8 (by decide) ?_
      refine lv_icmp_ge (tgt := 27) hx hb dX12_keepsAnew_11 (by decide) (fun c_1 => ?_) (fun c_1 => ?_)
      · replace h := it_t c_1 h
        refine lv_iconst (v := 0) hx hb dX12_keepsAnew_27 (by decide) ?_
        refine lv_istore_n (lv' := [(1, .int 0), (0, .ref q_this)]) hx hb dX12_keepsAnew_28 rfl hl (by decide) rfl (fun ls hl => ?_)
        exact t_L29 gFuel 0 v_isKeeping v_movedKept v_seenKept H locs hP hD hS ls (lv_sub hl [1, 0] rfl) h
      · replace h := it_f c_1 h
        refine lv_aload_n hx hb dX12_keepsAnew_14 rfl (lv_at hl 0 rfl) ?_
        refine va_get (D := D) (ci := 12) (v := .ref q_seenKept) (C := RX12) (T := TX12) (N := 26) hx hb hts in_X12_keepsAnew_X12 hown hK.1 hP 0 rfl rfl 12 (by decide) (hts (.fieldLink RX12 25 "PaperBubblesModel" "seenKept" "[I") (List.mem_of_getElem? (i := 2) rfl)) (fun _ h9 => h9) rfl dX12_keepsAnew_15 ?_
        refine lv_iload_n hx hb dX12_keepsAnew_18 rfl (lv_at hl 1 rfl) ?_
        refine lv_iconst (v := (-1)) hx hb dX12_keepsAnew_19 (by decide) ?_
        replace h := chi_ok h
        obtain ⟨hi_2, h⟩ := h
        replace h := nm_ok h
        obtain ⟨w_3, ew_3, h⟩ := h
        refine va_iast hx hb hK.1 hP hD hS 2 0 rfl rfl hi_2 dX12_keepsAnew_20 (fun H locs hP hD hS => ?_)
        have hP : va_P D gcl [(q_this, .inr (12, [.ref q_d, .ref q_kept, .int v_images, .ref q_found, .ref q_aside, .int v_base, .int v_at, .int v_size, .int v_fault, .int v_opened, .int v_isSeen, .ref q_names, .ref q_seenKept, .ref q_movedKept, .int v_isKeeping, .int v_bubbleMany, .int v_bubbleMost, .int v_bubbleCell, .int v_bestShown, .ref q_traced, .int v_traceMany, .int v_who, .ref q_bitsOf, .ref q_sizeOf, .ref q_number, .ref q_lifted])), (q_movedKept, .inl (c 0, 1000, .inl v_movedKept)), (q_seenKept, .inl (c 0, 2500, .inl w_3))] H := by subst ew_3; exact hP
        have hD : va_D A [(q_this, .inr (12, [.ref q_d, .ref q_kept, .int v_images, .ref q_found, .ref q_aside, .int v_base, .int v_at, .int v_size, .int v_fault, .int v_opened, .int v_isSeen, .ref q_names, .ref q_seenKept, .ref q_movedKept, .int v_isKeeping, .int v_bubbleMany, .int v_bubbleMost, .int v_bubbleCell, .int v_bestShown, .ref q_traced, .int v_traceMany, .int v_who, .ref q_bitsOf, .ref q_sizeOf, .ref q_number, .ref q_lifted])), (q_movedKept, .inl (c 0, 1000, .inl v_movedKept)), (q_seenKept, .inl (c 0, 2500, .inl w_3))] := by subst ew_3; exact hD
        replace h := nm_ok h
        obtain ⟨t_4, et_4, h⟩ := h
        refine lv_iinc (v := t_4) (lv' := [(1, .int t_4), (0, .ref q_this)]) hx hb dX12_keepsAnew_21 hl (k := 1) rfl (by rw [et_4]; rfl) (by decide) rfl (fun ls hl => ?_)
        refine lv_goto (tgt := 7) hx hb dX12_keepsAnew_24 (by decide) ?_
        exact ih t_4 v_isKeeping v_movedKept w_3 H locs hP hD hS ls (lv_sub hl [1, 0] rfl) h
  unfold f_X12_keepsAnew at h
  refine lv_aload_n hx hb dX12_keepsAnew_0 rfl (lv_at hl 0 rfl) ?_
  refine lv_iconst (v := 1) hx hb dX12_keepsAnew_1 (by decide) ?_
  refine va_put (D := D) (ci := 12) (v := .int 1) (ty := .boolean) (C := RX12) (T := TX12) (N := 26) hx hb hts in_X12_keepsAnew_X12 tyX12 tyX12_ok nmX12 hown hK.1 hP hD hS 0 rfl rfl 14 (by decide) (hts (.fieldLink RX12 144 "PaperBubblesModel" "isKeeping" "Z") (List.mem_of_getElem? (i := 1) rfl)) (fun _ h9 => h9) rfl (by decide +kernel) rfl rfl (Nat.le_of_ble_eq_true rfl) dX12_keepsAnew_2 (fun H locs hP hD hS => ?_)
  have hP : va_P D gcl [(q_this, .inr (12, [.ref q_d, .ref q_kept, .int v_images, .ref q_found, .ref q_aside, .int v_base, .int v_at, .int v_size, .int v_fault, .int v_opened, .int v_isSeen, .ref q_names, .ref q_seenKept, .ref q_movedKept, .int 1, .int v_bubbleMany, .int v_bubbleMost, .int v_bubbleCell, .int v_bestShown, .ref q_traced, .int v_traceMany, .int v_who, .ref q_bitsOf, .ref q_sizeOf, .ref q_number, .ref q_lifted])), (q_movedKept, .inl (c 0, 1000, .inl v_movedKept)), (q_seenKept, .inl (c 0, 2500, .inl v_seenKept))] H := hP
  have hD : va_D A [(q_this, .inr (12, [.ref q_d, .ref q_kept, .int v_images, .ref q_found, .ref q_aside, .int v_base, .int v_at, .int v_size, .int v_fault, .int v_opened, .int v_isSeen, .ref q_names, .ref q_seenKept, .ref q_movedKept, .int 1, .int v_bubbleMany, .int v_bubbleMost, .int v_bubbleCell, .int v_bestShown, .ref q_traced, .int v_traceMany, .int v_who, .ref q_bitsOf, .ref q_sizeOf, .ref q_number, .ref q_lifted])), (q_movedKept, .inl (c 0, 1000, .inl v_movedKept)), (q_seenKept, .inl (c 0, 2500, .inl v_seenKept))] := hD
  refine lv_iconst (v := 0) hx hb dX12_keepsAnew_5 (by decide) ?_
  refine lv_istore_n (lv' := [(1, .int 0), (0, .ref q_this)]) hx hb dX12_keepsAnew_6 rfl hl (by decide) rfl (fun ls hl => ?_)
  exact t_L7 gFuel 0 1 v_movedKept v_seenKept H locs hP hD hS ls (lv_sub hl [1, 0] rfl) h
set_option maxRecDepth 20000 in
theorem in_X12_bestTwo_X12 : ∀ w ∈ u_ws RX12 TX12 26, w ∈ wsX12_bestTwo := by decide +kernel
def f_X12_bestTwo_L18 (v_base : Int32) (v_at : Int32) (v_size : Int32) (v_fault : Int32) (v_opened : Int32) (v_isSeen : Int32) (v_isKeeping : Int32) (v_bestShown : Int32) (v_aside : Nat → Int32) (v_d : Nat → Int32) (v_found : Nat → Int32) (v_movedKept : Nat → Int32) (v_names : Nat → Int32) (v_seenKept : Nat → Int32) : Option (Int32 × Int32 × Int32 × Int32 × Int32 × Int32 × Int32 × Int32 × Int32 × (Nat → Int32) × (Nat → Int32) × (Nat → Int32) × (Nat → Int32) × (Nat → Int32) × (Nat → Int32)) :=
  kb2 (f_X12_finds 1 v_found) fun r_12 w_13 =>
  some (r_12, v_base, v_at, v_size, v_fault, v_opened, v_isSeen, v_isKeeping, v_bestShown, v_aside, v_d, w_13, v_movedKept, v_names, v_seenKept)

def f_X12_bestTwo_L99 (kk_L48 : Int32 → Int32 → Int32 → Int32 → Int32 → Int32 → Int32 → Int32 → Int32 → Int32 → Int32 → Int32 → (Nat → Int32) → (Nat → Int32) → (Nat → Int32) → (Nat → Int32) → (Nat → Int32) → (Nat → Int32) → Option (Int32 × Int32 × Int32 × Int32 × Int32 × Int32 × Int32 × Int32 × Int32 × (Nat → Int32) × (Nat → Int32) × (Nat → Int32) × (Nat → Int32) × (Nat → Int32) × (Nat → Int32))) (a_1 : Int32) (a_2 : Int32) (x5 : Int32) (x6 : Int32) (v_base : Int32) (v_at : Int32) (v_size : Int32) (v_fault : Int32) (v_opened : Int32) (v_isSeen : Int32) (v_isKeeping : Int32) (v_bestShown : Int32) (v_aside : Nat → Int32) (v_d : Nat → Int32) (v_found : Nat → Int32) (v_movedKept : Nat → Int32) (v_names : Nat → Int32) (v_seenKept : Nat → Int32) : Option (Int32 × Int32 × Int32 × Int32 × Int32 × Int32 × Int32 × Int32 × Int32 × (Nat → Int32) × (Nat → Int32) × (Nat → Int32) × (Nat → Int32) × (Nat → Int32) × (Nat → Int32)) :=
  nm (10 * x5 : Int32) fun t_53 =>
  nm (t_53 + x6 : Int32) fun t_54 =>
  nm (x6 + 1 : Int32) fun t_55 =>
  kk_L48 t_54 v_bestShown x5 t_55 v_base v_at v_size v_fault v_opened v_isSeen v_isKeeping v_bestShown v_aside v_d v_found v_movedKept v_names v_seenKept

def f_X12_bestTwo_L48 (kk_L36 : Int32 → Int32 → Int32 → Int32 → Int32 → Int32 → Int32 → Int32 → Int32 → Int32 → Int32 → (Nat → Int32) → (Nat → Int32) → (Nat → Int32) → (Nat → Int32) → (Nat → Int32) → (Nat → Int32) → Option (Int32 × Int32 × Int32 × Int32 × Int32 × Int32 × Int32 × Int32 × Int32 × (Nat → Int32) × (Nat → Int32) × (Nat → Int32) × (Nat → Int32) × (Nat → Int32) × (Nat → Int32))) (a_1 : Int32) (a_2 : Int32) : Nat → Int32 → Int32 → Int32 → Int32 → Int32 → Int32 → Int32 → Int32 → Int32 → Int32 → Int32 → Int32 → (Nat → Int32) → (Nat → Int32) → (Nat → Int32) → (Nat → Int32) → (Nat → Int32) → (Nat → Int32) → Option (Int32 × Int32 × Int32 × Int32 × Int32 × Int32 × Int32 × Int32 × Int32 × (Nat → Int32) × (Nat → Int32) × (Nat → Int32) × (Nat → Int32) × (Nat → Int32) × (Nat → Int32))
  | 0, _, _, _, _, _, _, _, _, _, _, _, _, _, _, _, _, _, _ => none
  | n + 1, x3, x4, x5, x6, v_base, v_at, v_size, v_fault, v_opened, v_isSeen, v_isKeeping, v_bestShown, v_aside, v_d, v_found, v_movedKept, v_names, v_seenKept =>
    if 4 ≤ x6 then
      nm (x5 + 1 : Int32) fun t_19 =>
      kk_L36 x3 x4 t_19 v_base v_at v_size v_fault v_opened v_isSeen v_isKeeping v_bestShown v_aside v_d v_found v_movedKept v_names v_seenKept
    else
      kb (f_X12_keepAside 0 v_aside v_d) fun w_21 =>
      kb9 (f_X12_strokes a_1 x5 x6 v_base v_at v_size v_fault v_opened v_isSeen v_isKeeping v_d v_movedKept v_names) fun w_23 w_24 w_25 w_26 w_27 w_28 w_29 w_30 w_31 =>
      kb13 (f_X12_bestOf a_1 1 w_23 w_24 w_25 w_26 w_27 w_28 v_isKeeping v_bestShown w_21 w_29 w_30 w_31 v_seenKept) fun r_33 w_34 w_35 w_36 w_37 w_38 w_39 w_40 w_41 w_42 w_43 w_44 w_45 =>
      kb (f_X12_putBack 0 w_41 w_42) fun w_47 =>
      if r_33 < 0 then
        nm (x6 + 1 : Int32) fun t_49 =>
        f_X12_bestTwo_L48 kk_L36 a_1 a_2 n x3 x4 x5 t_49 w_34 w_35 w_36 w_37 w_38 w_39 v_isKeeping w_40 w_41 w_47 v_found w_43 w_44 w_45
      else
        if x3 < 0 then
          f_X12_bestTwo_L99 (f_X12_bestTwo_L48 kk_L36 a_1 a_2 n) a_1 a_2 x5 x6 w_34 w_35 w_36 w_37 w_38 w_39 v_isKeeping w_40 w_41 w_47 v_found w_43 w_44 w_45
        else
          if x4 ≤ w_40 then
            nm (x6 + 1 : Int32) fun t_52 =>
            f_X12_bestTwo_L48 kk_L36 a_1 a_2 n x3 x4 x5 t_52 w_34 w_35 w_36 w_37 w_38 w_39 v_isKeeping w_40 w_41 w_47 v_found w_43 w_44 w_45
          else
            f_X12_bestTwo_L99 (f_X12_bestTwo_L48 kk_L36 a_1 a_2 n) a_1 a_2 x5 x6 w_34 w_35 w_36 w_37 w_38 w_39 v_isKeeping w_40 w_41 w_47 v_found w_43 w_44 w_45

def f_X12_bestTwo_L36 (a_1 : Int32) (a_2 : Int32) : Nat → Int32 → Int32 → Int32 → Int32 → Int32 → Int32 → Int32 → Int32 → Int32 → Int32 → Int32 → (Nat → Int32) → (Nat → Int32) → (Nat → Int32) → (Nat → Int32) → (Nat → Int32) → (Nat → Int32) → Option (Int32 × Int32 × Int32 × Int32 × Int32 × Int32 × Int32 × Int32 × Int32 × (Nat → Int32) × (Nat → Int32) × (Nat → Int32) × (Nat → Int32) × (Nat → Int32) × (Nat → Int32))
  | 0, _, _, _, _, _, _, _, _, _, _, _, _, _, _, _, _, _ => none
  | n + 1, x3, x4, x5, v_base, v_at, v_size, v_fault, v_opened, v_isSeen, v_isKeeping, v_bestShown, v_aside, v_d, v_found, v_movedKept, v_names, v_seenKept =>
    kb (f_X12_cells v_d) fun r_15 =>
    if r_15 ≤ x5 then
      if a_2 = 0 then
        some (x3, v_base, v_at, v_size, v_fault, v_opened, v_isSeen, 0, v_bestShown, v_aside, v_d, v_found, v_movedKept, v_names, v_seenKept)
      else
        some (x4, v_base, v_at, v_size, v_fault, v_opened, v_isSeen, 0, v_bestShown, v_aside, v_d, v_found, v_movedKept, v_names, v_seenKept)
    else
      f_X12_bestTwo_L48 (f_X12_bestTwo_L36 a_1 a_2 n) a_1 a_2 gFuel x3 x4 x5 0 v_base v_at v_size v_fault v_opened v_isSeen v_isKeeping v_bestShown v_aside v_d v_found v_movedKept v_names v_seenKept

def f_X12_bestTwo (a_1 : Int32) (a_2 : Int32) (v_base : Int32) (v_at : Int32) (v_size : Int32) (v_fault : Int32) (v_opened : Int32) (v_isSeen : Int32) (v_isKeeping : Int32) (v_bestShown : Int32) (v_aside : Nat → Int32) (v_d : Nat → Int32) (v_found : Nat → Int32) (v_movedKept : Nat → Int32) (v_names : Nat → Int32) (v_seenKept : Nat → Int32) : Option (Int32 × Int32 × Int32 × Int32 × Int32 × Int32 × Int32 × Int32 × Int32 × (Nat → Int32) × (Nat → Int32) × (Nat → Int32) × (Nat → Int32) × (Nat → Int32) × (Nat → Int32)) :=
  kb (f_X12_isTool a_1 v_d) fun r_2 =>
  if r_2 = 0 then
    f_X12_bestTwo_L18 v_base v_at v_size v_fault v_opened v_isSeen v_isKeeping v_bestShown v_aside v_d v_found v_movedKept v_names v_seenKept
  else
    kb (f_X12_in ((a_2 : Int32).toInt64) 0 1) fun r_5 =>
    if r_5 = 0 then
      f_X12_bestTwo_L18 v_base v_at v_size v_fault v_opened v_isSeen v_isKeeping v_bestShown v_aside v_d v_found v_movedKept v_names v_seenKept
    else
      kb3 (f_X12_keepsAnew v_isKeeping v_movedKept v_seenKept) fun w_8 w_9 w_10 =>
      f_X12_bestTwo_L36 a_1 a_2 gFuel (-1) 0 0 v_base v_at v_size v_fault v_opened v_isSeen w_8 v_bestShown v_aside v_d v_found w_9 v_names w_10

abbrev rm_X12_bestTwo : Room := { frames := 60, cells := 0, slots := 0, locals := 1387 }
set_option maxHeartbeats 4000000 in
set_option maxRecDepth 100000 in
theorem c_X12_bestTwo (l : Launch) (D : va_G) (c : Nat → ClassId) (q_this q_d q_kept q_found q_aside q_names q_seenKept q_movedKept q_traced q_bitsOf q_sizeOf q_number q_lifted : Nat) (a_1 : Int32) (a_2 : Int32) (v_images : Int32) (v_base : Int32) (v_at : Int32) (v_size : Int32) (v_fault : Int32) (v_opened : Int32) (v_isSeen : Int32) (v_isKeeping : Int32) (v_bubbleMany : Int32) (v_bubbleMost : Int32) (v_bubbleCell : Int32) (v_bestShown : Int32) (v_traceMany : Int32) (v_who : Int32) (v_aside : Nat → Int32) (v_d : Nat → Int32) (v_found : Nat → Int32) (v_movedKept : Nat → Int32) (v_names : Nat → Int32) (v_seenKept : Nat → Int32) (o_r : Int32) (o_v_base : Int32) (o_v_at : Int32) (o_v_size : Int32) (o_v_fault : Int32) (o_v_opened : Int32) (o_v_isSeen : Int32) (o_v_isKeeping : Int32) (o_v_bestShown : Int32) (o_v_aside : Nat → Int32) (o_v_d : Nat → Int32) (o_v_found : Nat → Int32) (o_v_movedKept : Nat → Int32) (o_v_names : Nat → Int32) (o_v_seenKept : Nat → Int32) (h : f_X12_bestTwo a_1 a_2 v_base v_at v_size v_fault v_opened v_isSeen v_isKeeping v_bestShown v_aside v_d v_found v_movedKept v_names v_seenKept = some (o_r, o_v_base, o_v_at, o_v_size, o_v_fault, o_v_opened, o_v_isSeen, o_v_isKeeping, o_v_bestShown, o_v_aside, o_v_d, o_v_found, o_v_movedKept, o_v_names, o_v_seenKept)) : gMI l yX12_bestTwo wsX12_bestTwo rm_X12_bestTwo D c [.ref q_this, .int a_1, .int a_2] [(q_this, .inr (12, [.ref q_d, .ref q_kept, .int v_images, .ref q_found, .ref q_aside, .int v_base, .int v_at, .int v_size, .int v_fault, .int v_opened, .int v_isSeen, .ref q_names, .ref q_seenKept, .ref q_movedKept, .int v_isKeeping, .int v_bubbleMany, .int v_bubbleMost, .int v_bubbleCell, .int v_bestShown, .ref q_traced, .int v_traceMany, .int v_who, .ref q_bitsOf, .ref q_sizeOf, .ref q_number, .ref q_lifted])), (q_aside, .inl (c 0, 120, .inl v_aside)), (q_d, .inl (c 0, 244, .inl v_d)), (q_found, .inl (c 0, 6, .inl v_found)), (q_movedKept, .inl (c 0, 1000, .inl v_movedKept)), (q_names, .inl (c 0, 3, .inl v_names)), (q_seenKept, .inl (c 0, 2500, .inl v_seenKept))] [(q_this, .inr (12, [.ref q_d, .ref q_kept, .int v_images, .ref q_found, .ref q_aside, .int o_v_base, .int o_v_at, .int o_v_size, .int o_v_fault, .int o_v_opened, .int o_v_isSeen, .ref q_names, .ref q_seenKept, .ref q_movedKept, .int o_v_isKeeping, .int v_bubbleMany, .int v_bubbleMost, .int v_bubbleCell, .int o_v_bestShown, .ref q_traced, .int v_traceMany, .int v_who, .ref q_bitsOf, .ref q_sizeOf, .ref q_number, .ref q_lifted])), (q_aside, .inl (c 0, 120, .inl o_v_aside)), (q_d, .inl (c 0, 244, .inl o_v_d)), (q_found, .inl (c 0, 6, .inl o_v_found)), (q_movedKept, .inl (c 0, 1000, .inl o_v_movedKept)), (q_names, .inl (c 0, 3, .inl o_v_names)), (q_seenKept, .inl (c 0, 2500, .inl o_v_seenKept))] o_r := by
  refine gMI_of (cc := cX12_bestTwo) (maxL := 8) (rt := (some .int)) (by decide +kernel) rfl (Nat.le_of_ble_eq_true rfl) ?_
  intro p e s m below meth co A hF hK hX hP hD hA hS ls hl
  obtain ⟨hx, hb, hr, hts, hown, hlocks, hml⟩ := id hF
  have hl : lv_has ls 8 [(0, .ref q_this), (1, .int a_1), (2, .int a_2)] := hl
  have t_L18 : ∀ (v_base : Int32) (v_at : Int32) (v_size : Int32) (v_fault : Int32) (v_opened : Int32) (v_isSeen : Int32) (v_isKeeping : Int32) (v_bestShown : Int32) (v_aside : Nat → Int32) (v_d : Nat → Int32) (v_found : Nat → Int32) (v_movedKept : Nat → Int32) (v_names : Nat → Int32) (v_seenKept : Nat → Int32) (H : Heap) (locs : List Loc), va_P D gcl [(q_this, .inr (12, [.ref q_d, .ref q_kept, .int v_images, .ref q_found, .ref q_aside, .int v_base, .int v_at, .int v_size, .int v_fault, .int v_opened, .int v_isSeen, .ref q_names, .ref q_seenKept, .ref q_movedKept, .int v_isKeeping, .int v_bubbleMany, .int v_bubbleMost, .int v_bubbleCell, .int v_bestShown, .ref q_traced, .int v_traceMany, .int v_who, .ref q_bitsOf, .ref q_sizeOf, .ref q_number, .ref q_lifted])), (q_aside, .inl (c 0, 120, .inl v_aside)), (q_d, .inl (c 0, 244, .inl v_d)), (q_found, .inl (c 0, 6, .inl v_found)), (q_movedKept, .inl (c 0, 1000, .inl v_movedKept)), (q_names, .inl (c 0, 3, .inl v_names)), (q_seenKept, .inl (c 0, 2500, .inl v_seenKept))] H → va_D A [(q_this, .inr (12, [.ref q_d, .ref q_kept, .int v_images, .ref q_found, .ref q_aside, .int v_base, .int v_at, .int v_size, .int v_fault, .int v_opened, .int v_isSeen, .ref q_names, .ref q_seenKept, .ref q_movedKept, .int v_isKeeping, .int v_bubbleMany, .int v_bubbleMost, .int v_bubbleCell, .int v_bestShown, .ref q_traced, .int v_traceMany, .int v_who, .ref q_bitsOf, .ref q_sizeOf, .ref q_number, .ref q_lifted])), (q_aside, .inl (c 0, 120, .inl v_aside)), (q_d, .inl (c 0, 244, .inl v_d)), (q_found, .inl (c 0, 6, .inl v_found)), (q_movedKept, .inl (c 0, 1000, .inl v_movedKept)), (q_names, .inl (c 0, 3, .inl v_names)), (q_seenKept, .inl (c 0, 2500, .inl v_seenKept))] → va_S A s.heap H locs → ∀ ls, lv_has ls 8 [(0, .ref q_this)] → f_X12_bestTwo_L18 v_base v_at v_size v_fault v_opened v_isSeen v_isKeeping v_bestShown v_aside v_d v_found v_movedKept v_names v_seenKept = some (o_r, o_v_base, o_v_at, o_v_size, o_v_fault, o_v_opened, o_v_isSeen, o_v_isKeeping, o_v_bestShown, o_v_aside, o_v_d, o_v_found, o_v_movedKept, o_v_names, o_v_seenKept) → W p l e (headSpec wsX12_bestTwo rm_X12_bestTwo).room s m [.ref q_this, .int a_1, .int a_2].toArray below meth co H locs 0 0 (gQI D [(q_this, .inr (12, [.ref q_d, .ref q_kept, .int v_images, .ref q_found, .ref q_aside, .int o_v_base, .int o_v_at, .int o_v_size, .int o_v_fault, .int o_v_opened, .int o_v_isSeen, .ref q_names, .ref q_seenKept, .ref q_movedKept, .int o_v_isKeeping, .int v_bubbleMany, .int v_bubbleMost, .int v_bubbleCell, .int o_v_bestShown, .ref q_traced, .int v_traceMany, .int v_who, .ref q_bitsOf, .ref q_sizeOf, .ref q_number, .ref q_lifted])), (q_aside, .inl (c 0, 120, .inl o_v_aside)), (q_d, .inl (c 0, 244, .inl o_v_d)), (q_found, .inl (c 0, 6, .inl o_v_found)), (q_movedKept, .inl (c 0, 1000, .inl o_v_movedKept)), (q_names, .inl (c 0, 3, .inl o_v_names)), (q_seenKept, .inl (c 0, 2500, .inl o_v_seenKept))] o_r A below [.ref q_this, .int a_1, .int a_2] s) (F0 m 18 ls []) := by
    intro  v_base v_at v_size v_fault v_opened v_isSeen v_isKeeping v_bestShown v_aside v_d v_found v_movedKept v_names v_seenKept H locs hP hD hS ls hl h
    unfold f_X12_bestTwo_L18 at h
    refine lv_aload_n hx hb dX12_bestTwo_18 rfl (lv_at hl 0 rfl) ?_
    refine lv_iconst (v := 1) hx hb dX12_bestTwo_19 (by decide) ?_
    replace h := kb2_ok h
    obtain ⟨r_12, w_13, hc_11, h⟩ := h
    refine gCallI (isC := [0, 3]) (wc := [(q_this, .inr (12, [.ref q_d, .ref q_kept, .int v_images, .ref q_found, .ref q_aside, .int v_base, .int v_at, .int v_size, .int v_fault, .int v_opened, .int v_isSeen, .ref q_names, .ref q_seenKept, .ref q_movedKept, .int v_isKeeping, .int v_bubbleMany, .int v_bubbleMost, .int v_bubbleCell, .int v_bestShown, .ref q_traced, .int v_traceMany, .int v_who, .ref q_bitsOf, .ref q_sizeOf, .ref q_number, .ref q_lifted])), (q_found, .inl (c 0, 6, .inl v_found))]) (w1 := [(q_this, .inr (12, [.ref q_d, .ref q_kept, .int v_images, .ref q_found, .ref q_aside, .int v_base, .int v_at, .int v_size, .int v_fault, .int v_opened, .int v_isSeen, .ref q_names, .ref q_seenKept, .ref q_movedKept, .int v_isKeeping, .int v_bubbleMany, .int v_bubbleMost, .int v_bubbleCell, .int v_bestShown, .ref q_traced, .int v_traceMany, .int v_who, .ref q_bitsOf, .ref q_sizeOf, .ref q_number, .ref q_lifted])), (q_found, .inl (c 0, 6, .inl w_13))]) (ws2 := [(q_this, .inr (12, [.ref q_d, .ref q_kept, .int v_images, .ref q_found, .ref q_aside, .int v_base, .int v_at, .int v_size, .int v_fault, .int v_opened, .int v_isSeen, .ref q_names, .ref q_seenKept, .ref q_movedKept, .int v_isKeeping, .int v_bubbleMany, .int v_bubbleMost, .int v_bubbleCell, .int v_bestShown, .ref q_traced, .int v_traceMany, .int v_who, .ref q_bitsOf, .ref q_sizeOf, .ref q_number, .ref q_lifted])), (q_aside, .inl (c 0, 120, .inl v_aside)), (q_d, .inl (c 0, 244, .inl v_d)), (q_found, .inl (c 0, 6, .inl w_13)), (q_movedKept, .inl (c 0, 1000, .inl v_movedKept)), (q_names, .inl (c 0, 3, .inl v_names)), (q_seenKept, .inl (c 0, 2500, .inl v_seenKept))]) (ms := [(some 0), none, none, (some 1), none, none, none]) hP hD hS hA ⟨rfl, rfl, trivial⟩ (by decide +kernel) ⟨rfl, rfl, rfl, rfl, rfl, rfl, rfl, trivial⟩ (va_runV (rm := rm_X12_finds) (ws := wsX12_finds) (As := [.int 1]) (rest := []) (gFix hF) (c_X12_finds l D c q_this q_d q_kept q_found q_aside q_names q_seenKept q_movedKept q_traced q_bitsOf q_sizeOf q_number q_lifted 1 v_images v_base v_at v_size v_fault v_opened v_isSeen v_isKeeping v_bubbleMany v_bubbleMost v_bubbleCell v_bestShown v_traceMany v_who v_found r_12 w_13 hc_11 H.size) (cwV 1 hts gX12_bestTwo_X12_finds rfl rfl rfl (by decide +kernel) ⟨Nat.le_of_ble_eq_true rfl, Nat.le_of_ble_eq_true rfl⟩) (gPreV (wc := [(q_this, .inr (12, [.ref q_d, .ref q_kept, .int v_images, .ref q_found, .ref q_aside, .int v_base, .int v_at, .int v_size, .int v_fault, .int v_opened, .int v_isSeen, .ref q_names, .ref q_seenKept, .ref q_movedKept, .int v_isKeeping, .int v_bubbleMany, .int v_bubbleMost, .int v_bubbleCell, .int v_bestShown, .ref q_traced, .int v_traceMany, .int v_who, .ref q_bitsOf, .ref q_sizeOf, .ref q_number, .ref q_lifted])), (q_found, .inl (c 0, 6, .inl v_found))]) (q := (RX12, TX12, 26)) (ci := 12) (q0 := 0) (isC := [0, 3]) hK hX hS hA hP hD ⟨rfl, rfl, trivial⟩ (by decide +kernel) rfl rfl) rfl rfl hl.1 rfl (lv_room (Nat.le_of_ble_eq_true rfl)) dX12_bestTwo_20 ⟨Nat.le_of_ble_eq_true rfl, Nat.le_of_ble_eq_true rfl⟩) (fun H locs hP hD hS => ?_)
    replace h := so15 h
    obtain ⟨z0, z1, z2, z3, z4, z5, z6, z7, z8, z9, z10, z11, z12, z13, z14⟩ := h
    subst z0 z1 z2 z3 z4 z5 z6 z7 z8 z9 z10 z11 z12 z13 z14
    exact gIret hF hP hD hS rfl dX12_bestTwo_23
  have t_L99 : ∀ (kk_L48 : Int32 → Int32 → Int32 → Int32 → Int32 → Int32 → Int32 → Int32 → Int32 → Int32 → Int32 → Int32 → (Nat → Int32) → (Nat → Int32) → (Nat → Int32) → (Nat → Int32) → (Nat → Int32) → (Nat → Int32) → Option (Int32 × Int32 × Int32 × Int32 × Int32 × Int32 × Int32 × Int32 × Int32 × (Nat → Int32) × (Nat → Int32) × (Nat → Int32) × (Nat → Int32) × (Nat → Int32) × (Nat → Int32))), (∀ (x3 : Int32) (x4 : Int32) (x5 : Int32) (x6 : Int32) (v_base : Int32) (v_at : Int32) (v_size : Int32) (v_fault : Int32) (v_opened : Int32) (v_isSeen : Int32) (v_isKeeping : Int32) (v_bestShown : Int32) (v_aside : Nat → Int32) (v_d : Nat → Int32) (v_found : Nat → Int32) (v_movedKept : Nat → Int32) (v_names : Nat → Int32) (v_seenKept : Nat → Int32) (H : Heap) (locs : List Loc), va_P D gcl [(q_this, .inr (12, [.ref q_d, .ref q_kept, .int v_images, .ref q_found, .ref q_aside, .int v_base, .int v_at, .int v_size, .int v_fault, .int v_opened, .int v_isSeen, .ref q_names, .ref q_seenKept, .ref q_movedKept, .int v_isKeeping, .int v_bubbleMany, .int v_bubbleMost, .int v_bubbleCell, .int v_bestShown, .ref q_traced, .int v_traceMany, .int v_who, .ref q_bitsOf, .ref q_sizeOf, .ref q_number, .ref q_lifted])), (q_aside, .inl (c 0, 120, .inl v_aside)), (q_d, .inl (c 0, 244, .inl v_d)), (q_found, .inl (c 0, 6, .inl v_found)), (q_movedKept, .inl (c 0, 1000, .inl v_movedKept)), (q_names, .inl (c 0, 3, .inl v_names)), (q_seenKept, .inl (c 0, 2500, .inl v_seenKept))] H → va_D A [(q_this, .inr (12, [.ref q_d, .ref q_kept, .int v_images, .ref q_found, .ref q_aside, .int v_base, .int v_at, .int v_size, .int v_fault, .int v_opened, .int v_isSeen, .ref q_names, .ref q_seenKept, .ref q_movedKept, .int v_isKeeping, .int v_bubbleMany, .int v_bubbleMost, .int v_bubbleCell, .int v_bestShown, .ref q_traced, .int v_traceMany, .int v_who, .ref q_bitsOf, .ref q_sizeOf, .ref q_number, .ref q_lifted])), (q_aside, .inl (c 0, 120, .inl v_aside)), (q_d, .inl (c 0, 244, .inl v_d)), (q_found, .inl (c 0, 6, .inl v_found)), (q_movedKept, .inl (c 0, 1000, .inl v_movedKept)), (q_names, .inl (c 0, 3, .inl v_names)), (q_seenKept, .inl (c 0, 2500, .inl v_seenKept))] → va_S A s.heap H locs → ∀ ls, lv_has ls 8 [(0, .ref q_this), (1, .int a_1), (2, .int a_2), (3, .int x3), (4, .int x4), (5, .int x5), (6, .int x6)] → kk_L48 x3 x4 x5 x6 v_base v_at v_size v_fault v_opened v_isSeen v_isKeeping v_bestShown v_aside v_d v_found v_movedKept v_names v_seenKept = some (o_r, o_v_base, o_v_at, o_v_size, o_v_fault, o_v_opened, o_v_isSeen, o_v_isKeeping, o_v_bestShown, o_v_aside, o_v_d, o_v_found, o_v_movedKept, o_v_names, o_v_seenKept) → W p l e (headSpec wsX12_bestTwo rm_X12_bestTwo).room s m [.ref q_this, .int a_1, .int a_2].toArray below meth co H locs 0 0 (gQI D [(q_this, .inr (12, [.ref q_d, .ref q_kept, .int v_images, .ref q_found, .ref q_aside, .int o_v_base, .int o_v_at, .int o_v_size, .int o_v_fault, .int o_v_opened, .int o_v_isSeen, .ref q_names, .ref q_seenKept, .ref q_movedKept, .int o_v_isKeeping, .int v_bubbleMany, .int v_bubbleMost, .int v_bubbleCell, .int o_v_bestShown, .ref q_traced, .int v_traceMany, .int v_who, .ref q_bitsOf, .ref q_sizeOf, .ref q_number, .ref q_lifted])), (q_aside, .inl (c 0, 120, .inl o_v_aside)), (q_d, .inl (c 0, 244, .inl o_v_d)), (q_found, .inl (c 0, 6, .inl o_v_found)), (q_movedKept, .inl (c 0, 1000, .inl o_v_movedKept)), (q_names, .inl (c 0, 3, .inl o_v_names)), (q_seenKept, .inl (c 0, 2500, .inl o_v_seenKept))] o_r A below [.ref q_this, .int a_1, .int a_2] s) (F0 m 48 ls [])) → ∀ (x5 : Int32) (x6 : Int32) (v_base : Int32) (v_at : Int32) (v_size : Int32) (v_fault : Int32) (v_opened : Int32) (v_isSeen : Int32) (v_isKeeping : Int32) (v_bestShown : Int32) (v_aside : Nat → Int32) (v_d : Nat → Int32) (v_found : Nat → Int32) (v_movedKept : Nat → Int32) (v_names : Nat → Int32) (v_seenKept : Nat → Int32) (H : Heap) (locs : List Loc), va_P D gcl [(q_this, .inr (12, [.ref q_d, .ref q_kept, .int v_images, .ref q_found, .ref q_aside, .int v_base, .int v_at, .int v_size, .int v_fault, .int v_opened, .int v_isSeen, .ref q_names, .ref q_seenKept, .ref q_movedKept, .int v_isKeeping, .int v_bubbleMany, .int v_bubbleMost, .int v_bubbleCell, .int v_bestShown, .ref q_traced, .int v_traceMany, .int v_who, .ref q_bitsOf, .ref q_sizeOf, .ref q_number, .ref q_lifted])), (q_aside, .inl (c 0, 120, .inl v_aside)), (q_d, .inl (c 0, 244, .inl v_d)), (q_found, .inl (c 0, 6, .inl v_found)), (q_movedKept, .inl (c 0, 1000, .inl v_movedKept)), (q_names, .inl (c 0, 3, .inl v_names)), (q_seenKept, .inl (c 0, 2500, .inl v_seenKept))] H → va_D A [(q_this, .inr (12, [.ref q_d, .ref q_kept, .int v_images, .ref q_found, .ref q_aside, .int v_base, .int v_at, .int v_size, .int v_fault, .int v_opened, .int v_isSeen, .ref q_names, .ref q_seenKept, .ref q_movedKept, .int v_isKeeping, .int v_bubbleMany, .int v_bubbleMost, .int v_bubbleCell, .int v_bestShown, .ref q_traced, .int v_traceMany, .int v_who, .ref q_bitsOf, .ref q_sizeOf, .ref q_number, .ref q_lifted])), (q_aside, .inl (c 0, 120, .inl v_aside)), (q_d, .inl (c 0, 244, .inl v_d)), (q_found, .inl (c 0, 6, .inl v_found)), (q_movedKept, .inl (c 0, 1000, .inl v_movedKept)), (q_names, .inl (c 0, 3, .inl v_names)), (q_seenKept, .inl (c 0, 2500, .inl v_seenKept))] → va_S A s.heap H locs → ∀ ls, lv_has ls 8 [(0, .ref q_this), (1, .int a_1), (2, .int a_2), (5, .int x5), (6, .int x6)] → f_X12_bestTwo_L99 kk_L48 a_1 a_2 x5 x6 v_base v_at v_size v_fault v_opened v_isSeen v_isKeeping v_bestShown v_aside v_d v_found v_movedKept v_names v_seenKept = some (o_r, o_v_base, o_v_at, o_v_size, o_v_fault, o_v_opened, o_v_isSeen, o_v_isKeeping, o_v_bestShown, o_v_aside, o_v_d, o_v_found, o_v_movedKept, o_v_names, o_v_seenKept) → W p l e (headSpec wsX12_bestTwo rm_X12_bestTwo).room s m [.ref q_this, .int a_1, .int a_2].toArray below meth co H locs 0 0 (gQI D [(q_this, .inr (12, [.ref q_d, .ref q_kept, .int v_images, .ref q_found, .ref q_aside, .int o_v_base, .int o_v_at, .int o_v_size, .int o_v_fault, .int o_v_opened, .int o_v_isSeen, .ref q_names, .ref q_seenKept, .ref q_movedKept, .int o_v_isKeeping, .int v_bubbleMany, .int v_bubbleMost, .int v_bubbleCell, .int o_v_bestShown, .ref q_traced, .int v_traceMany, .int v_who, .ref q_bitsOf, .ref q_sizeOf, .ref q_number, .ref q_lifted])), (q_aside, .inl (c 0, 120, .inl o_v_aside)), (q_d, .inl (c 0, 244, .inl o_v_d)), (q_found, .inl (c 0, 6, .inl o_v_found)), (q_movedKept, .inl (c 0, 1000, .inl o_v_movedKept)), (q_names, .inl (c 0, 3, .inl o_v_names)), (q_seenKept, .inl (c 0, 2500, .inl o_v_seenKept))] o_r A below [.ref q_this, .int a_1, .int a_2] s) (F0 m 99 ls []) := by
    intro kk_L48 hkk_L48 x5 x6 v_base v_at v_size v_fault v_opened v_isSeen v_isKeeping v_bestShown v_aside v_d v_found v_movedKept v_names v_seenKept H locs hP hD hS ls hl h
    unfold f_X12_bestTwo_L99 at h
    refine lv_bipush (v := 10) hx hb dX12_bestTwo_99 (by decide) ?_
    refine lv_iload hx hb dX12_bestTwo_101 (lv_at hl 3 rfl) ?_
    refine lv_imul hx hb dX12_bestTwo_103 ?_
    replace h := nm_ok h
    obtain ⟨t_53, et_53, h⟩ := h
    refine gTop et_53 ?_
    refine lv_iload hx hb dX12_bestTwo_104 (lv_at hl 4 rfl) ?_
    refine lv_iadd hx hb dX12_bestTwo_106 ?_
    replace h := nm_ok h
    obtain ⟨t_54, et_54, h⟩ := h
    refine gTop et_54 ?_
    refine lv_istore_n (lv' := [(3, .int t_54), (0, .ref q_this), (1, .int a_1), (2, .int a_2), (5, .int x5), (6, .int x6)]) hx hb dX12_bestTwo_107 rfl hl (by decide) rfl (fun ls hl => ?_)
    refine lv_aload_n hx hb dX12_bestTwo_108 rfl (lv_at hl 1 rfl) ?_
    refine va_get (D := D) (ci := 12) (v := .int v_bestShown) (C := RX12) (T := TX12) (N := 26) hx hb hts in_X12_bestTwo_X12 hown hK.1 hP 0 rfl rfl 18 (by decide) (hts (.fieldLink RX12 233 "PaperBubblesModel" "bestShown" "I") (List.mem_of_getElem? (i := 1) rfl)) (fun _ h9 => h9) rfl dX12_bestTwo_109 ?_
    refine lv_istore (lv' := [(4, .int v_bestShown), (3, .int t_54), (0, .ref q_this), (1, .int a_1), (2, .int a_2), (5, .int x5), (6, .int x6)]) hx hb dX12_bestTwo_112 hl (by decide) rfl (fun ls hl => ?_)
    replace h := nm_ok h
    obtain ⟨t_55, et_55, h⟩ := h
    refine lv_iinc (v := t_55) (lv' := [(6, .int t_55), (4, .int v_bestShown), (3, .int t_54), (0, .ref q_this), (1, .int a_1), (2, .int a_2), (5, .int x5)]) hx hb dX12_bestTwo_114 hl (k := 6) rfl (by rw [et_55]; rfl) (by decide) rfl (fun ls hl => ?_)
    refine lv_goto (tgt := 48) hx hb dX12_bestTwo_117 (by decide) ?_
    exact hkk_L48 t_54 v_bestShown x5 t_55 v_base v_at v_size v_fault v_opened v_isSeen v_isKeeping v_bestShown v_aside v_d v_found v_movedKept v_names v_seenKept H locs hP hD hS ls (lv_sub hl [3, 4, 5, 2, 1, 6, 0] rfl) h
  have t_L48 : ∀ (kk_L36 : Int32 → Int32 → Int32 → Int32 → Int32 → Int32 → Int32 → Int32 → Int32 → Int32 → Int32 → (Nat → Int32) → (Nat → Int32) → (Nat → Int32) → (Nat → Int32) → (Nat → Int32) → (Nat → Int32) → Option (Int32 × Int32 × Int32 × Int32 × Int32 × Int32 × Int32 × Int32 × Int32 × (Nat → Int32) × (Nat → Int32) × (Nat → Int32) × (Nat → Int32) × (Nat → Int32) × (Nat → Int32))), (∀ (x3 : Int32) (x4 : Int32) (x5 : Int32) (v_base : Int32) (v_at : Int32) (v_size : Int32) (v_fault : Int32) (v_opened : Int32) (v_isSeen : Int32) (v_isKeeping : Int32) (v_bestShown : Int32) (v_aside : Nat → Int32) (v_d : Nat → Int32) (v_found : Nat → Int32) (v_movedKept : Nat → Int32) (v_names : Nat → Int32) (v_seenKept : Nat → Int32) (H : Heap) (locs : List Loc), va_P D gcl [(q_this, .inr (12, [.ref q_d, .ref q_kept, .int v_images, .ref q_found, .ref q_aside, .int v_base, .int v_at, .int v_size, .int v_fault, .int v_opened, .int v_isSeen, .ref q_names, .ref q_seenKept, .ref q_movedKept, .int v_isKeeping, .int v_bubbleMany, .int v_bubbleMost, .int v_bubbleCell, .int v_bestShown, .ref q_traced, .int v_traceMany, .int v_who, .ref q_bitsOf, .ref q_sizeOf, .ref q_number, .ref q_lifted])), (q_aside, .inl (c 0, 120, .inl v_aside)), (q_d, .inl (c 0, 244, .inl v_d)), (q_found, .inl (c 0, 6, .inl v_found)), (q_movedKept, .inl (c 0, 1000, .inl v_movedKept)), (q_names, .inl (c 0, 3, .inl v_names)), (q_seenKept, .inl (c 0, 2500, .inl v_seenKept))] H → va_D A [(q_this, .inr (12, [.ref q_d, .ref q_kept, .int v_images, .ref q_found, .ref q_aside, .int v_base, .int v_at, .int v_size, .int v_fault, .int v_opened, .int v_isSeen, .ref q_names, .ref q_seenKept, .ref q_movedKept, .int v_isKeeping, .int v_bubbleMany, .int v_bubbleMost, .int v_bubbleCell, .int v_bestShown, .ref q_traced, .int v_traceMany, .int v_who, .ref q_bitsOf, .ref q_sizeOf, .ref q_number, .ref q_lifted])), (q_aside, .inl (c 0, 120, .inl v_aside)), (q_d, .inl (c 0, 244, .inl v_d)), (q_found, .inl (c 0, 6, .inl v_found)), (q_movedKept, .inl (c 0, 1000, .inl v_movedKept)), (q_names, .inl (c 0, 3, .inl v_names)), (q_seenKept, .inl (c 0, 2500, .inl v_seenKept))] → va_S A s.heap H locs → ∀ ls, lv_has ls 8 [(0, .ref q_this), (1, .int a_1), (2, .int a_2), (3, .int x3), (4, .int x4), (5, .int x5)] → kk_L36 x3 x4 x5 v_base v_at v_size v_fault v_opened v_isSeen v_isKeeping v_bestShown v_aside v_d v_found v_movedKept v_names v_seenKept = some (o_r, o_v_base, o_v_at, o_v_size, o_v_fault, o_v_opened, o_v_isSeen, o_v_isKeeping, o_v_bestShown, o_v_aside, o_v_d, o_v_found, o_v_movedKept, o_v_names, o_v_seenKept) → W p l e (headSpec wsX12_bestTwo rm_X12_bestTwo).room s m [.ref q_this, .int a_1, .int a_2].toArray below meth co H locs 0 0 (gQI D [(q_this, .inr (12, [.ref q_d, .ref q_kept, .int v_images, .ref q_found, .ref q_aside, .int o_v_base, .int o_v_at, .int o_v_size, .int o_v_fault, .int o_v_opened, .int o_v_isSeen, .ref q_names, .ref q_seenKept, .ref q_movedKept, .int o_v_isKeeping, .int v_bubbleMany, .int v_bubbleMost, .int v_bubbleCell, .int o_v_bestShown, .ref q_traced, .int v_traceMany, .int v_who, .ref q_bitsOf, .ref q_sizeOf, .ref q_number, .ref q_lifted])), (q_aside, .inl (c 0, 120, .inl o_v_aside)), (q_d, .inl (c 0, 244, .inl o_v_d)), (q_found, .inl (c 0, 6, .inl o_v_found)), (q_movedKept, .inl (c 0, 1000, .inl o_v_movedKept)), (q_names, .inl (c 0, 3, .inl o_v_names)), (q_seenKept, .inl (c 0, 2500, .inl o_v_seenKept))] o_r A below [.ref q_this, .int a_1, .int a_2] s) (F0 m 36 ls [])) → ∀ (n : Nat), ∀ (x3 : Int32) (x4 : Int32) (x5 : Int32) (x6 : Int32) (v_base : Int32) (v_at : Int32) (v_size : Int32) (v_fault : Int32) (v_opened : Int32) (v_isSeen : Int32) (v_isKeeping : Int32) (v_bestShown : Int32) (v_aside : Nat → Int32) (v_d : Nat → Int32) (v_found : Nat → Int32) (v_movedKept : Nat → Int32) (v_names : Nat → Int32) (v_seenKept : Nat → Int32) (H : Heap) (locs : List Loc), va_P D gcl [(q_this, .inr (12, [.ref q_d, .ref q_kept, .int v_images, .ref q_found, .ref q_aside, .int v_base, .int v_at, .int v_size, .int v_fault, .int v_opened, .int v_isSeen, .ref q_names, .ref q_seenKept, .ref q_movedKept, .int v_isKeeping, .int v_bubbleMany, .int v_bubbleMost, .int v_bubbleCell, .int v_bestShown, .ref q_traced, .int v_traceMany, .int v_who, .ref q_bitsOf, .ref q_sizeOf, .ref q_number, .ref q_lifted])), (q_aside, .inl (c 0, 120, .inl v_aside)), (q_d, .inl (c 0, 244, .inl v_d)), (q_found, .inl (c 0, 6, .inl v_found)), (q_movedKept, .inl (c 0, 1000, .inl v_movedKept)), (q_names, .inl (c 0, 3, .inl v_names)), (q_seenKept, .inl (c 0, 2500, .inl v_seenKept))] H → va_D A [(q_this, .inr (12, [.ref q_d, .ref q_kept, .int v_images, .ref q_found, .ref q_aside, .int v_base, .int v_at, .int v_size, .int v_fault, .int v_opened, .int v_isSeen, .ref q_names, .ref q_seenKept, .ref q_movedKept, .int v_isKeeping, .int v_bubbleMany, .int v_bubbleMost, .int v_bubbleCell, .int v_bestShown, .ref q_traced, .int v_traceMany, .int v_who, .ref q_bitsOf, .ref q_sizeOf, .ref q_number, .ref q_lifted])), (q_aside, .inl (c 0, 120, .inl v_aside)), (q_d, .inl (c 0, 244, .inl v_d)), (q_found, .inl (c 0, 6, .inl v_found)), (q_movedKept, .inl (c 0, 1000, .inl v_movedKept)), (q_names, .inl (c 0, 3, .inl v_names)), (q_seenKept, .inl (c 0, 2500, .inl v_seenKept))] → va_S A s.heap H locs → ∀ ls, lv_has ls 8 [(0, .ref q_this), (1, .int a_1), (2, .int a_2), (3, .int x3), (4, .int x4), (5, .int x5), (6, .int x6)] → f_X12_bestTwo_L48 kk_L36 a_1 a_2 n x3 x4 x5 x6 v_base v_at v_size v_fault v_opened v_isSeen v_isKeeping v_bestShown v_aside v_d v_found v_movedKept v_names v_seenKept = some (o_r, o_v_base, o_v_at, o_v_size, o_v_fault, o_v_opened, o_v_isSeen, o_v_isKeeping, o_v_bestShown, o_v_aside, o_v_d, o_v_found, o_v_movedKept, o_v_names, o_v_seenKept) → W p l e (headSpec wsX12_bestTwo rm_X12_bestTwo).room s m [.ref q_this, .int a_1, .int a_2].toArray below meth co H locs 0 0 (gQI D [(q_this, .inr (12, [.ref q_d, .ref q_kept, .int v_images, .ref q_found, .ref q_aside, .int o_v_base, .int o_v_at, .int o_v_size, .int o_v_fault, .int o_v_opened, .int o_v_isSeen, .ref q_names, .ref q_seenKept, .ref q_movedKept, .int o_v_isKeeping, .int v_bubbleMany, .int v_bubbleMost, .int v_bubbleCell, .int o_v_bestShown, .ref q_traced, .int v_traceMany, .int v_who, .ref q_bitsOf, .ref q_sizeOf, .ref q_number, .ref q_lifted])), (q_aside, .inl (c 0, 120, .inl o_v_aside)), (q_d, .inl (c 0, 244, .inl o_v_d)), (q_found, .inl (c 0, 6, .inl o_v_found)), (q_movedKept, .inl (c 0, 1000, .inl o_v_movedKept)), (q_names, .inl (c 0, 3, .inl o_v_names)), (q_seenKept, .inl (c 0, 2500, .inl o_v_seenKept))] o_r A below [.ref q_this, .int a_1, .int a_2] s) (F0 m 48 ls []) := by
    intro kk_L36 hkk_L36
    intro n
    induction n with
    | zero => intro x3 x4 x5 x6 v_base v_at v_size v_fault v_opened v_isSeen v_isKeeping v_bestShown v_aside v_d v_found v_movedKept v_names v_seenKept H locs hP hD hS ls hl h; exact no_ok h
    | succ n ih =>
      intro x3 x4 x5 x6 v_base v_at v_size v_fault v_opened v_isSeen v_isKeeping v_bestShown v_aside v_d v_found v_movedKept v_names v_seenKept H locs hP hD hS ls hl h
      rw [f_X12_bestTwo_L48] at h
      refine lv_iload hx hb dX12_bestTwo_48 (lv_at hl 6 rfl) ?_
      refine lv_iconst (v := 4) hx hb dX12_bestTwo_50 (by decide) ?_
      refine lv_icmp_ge (tgt := 120) hx hb dX12_bestTwo_51 (by decide) (fun c_18 => ?_) (fun c_18 => ?_)
      · replace h := it_t c_18 h
        replace h := nm_ok h
        obtain ⟨t_19, et_19, h⟩ := h
        refine lv_iinc (v := t_19) (lv' := [(5, .int t_19), (0, .ref q_this), (1, .int a_1), (2, .int a_2), (3, .int x3), (4, .int x4), (6, .int x6)]) hx hb dX12_bestTwo_120 hl (k := 5) rfl (by rw [et_19]; rfl) (by decide) rfl (fun ls hl => ?_)
        refine lv_goto (tgt := 36) hx hb dX12_bestTwo_123 (by decide) ?_
        exact hkk_L36 x3 x4 t_19 v_base v_at v_size v_fault v_opened v_isSeen v_isKeeping v_bestShown v_aside v_d v_found v_movedKept v_names v_seenKept H locs hP hD hS ls (lv_sub hl [1, 2, 3, 4, 5, 0] rfl) h
      · replace h := it_f c_18 h
        refine lv_aload_n hx hb dX12_bestTwo_54 rfl (lv_at hl 0 rfl) ?_
        refine lv_iconst (v := 0) hx hb dX12_bestTwo_55 (by decide) ?_
        replace h := kb_ok h
        obtain ⟨w_21, hc_20, h⟩ := h
        refine gCallV (isC := [0, 1, 2]) (wc := [(q_this, .inr (12, [.ref q_d, .ref q_kept, .int v_images, .ref q_found, .ref q_aside, .int v_base, .int v_at, .int v_size, .int v_fault, .int v_opened, .int v_isSeen, .ref q_names, .ref q_seenKept, .ref q_movedKept, .int v_isKeeping, .int v_bubbleMany, .int v_bubbleMost, .int v_bubbleCell, .int v_bestShown, .ref q_traced, .int v_traceMany, .int v_who, .ref q_bitsOf, .ref q_sizeOf, .ref q_number, .ref q_lifted])), (q_aside, .inl (c 0, 120, .inl v_aside)), (q_d, .inl (c 0, 244, .inl v_d))]) (w1 := [(q_this, .inr (12, [.ref q_d, .ref q_kept, .int v_images, .ref q_found, .ref q_aside, .int v_base, .int v_at, .int v_size, .int v_fault, .int v_opened, .int v_isSeen, .ref q_names, .ref q_seenKept, .ref q_movedKept, .int v_isKeeping, .int v_bubbleMany, .int v_bubbleMost, .int v_bubbleCell, .int v_bestShown, .ref q_traced, .int v_traceMany, .int v_who, .ref q_bitsOf, .ref q_sizeOf, .ref q_number, .ref q_lifted])), (q_aside, .inl (c 0, 120, .inl w_21)), (q_d, .inl (c 0, 244, .inl v_d))]) (ws2 := [(q_this, .inr (12, [.ref q_d, .ref q_kept, .int v_images, .ref q_found, .ref q_aside, .int v_base, .int v_at, .int v_size, .int v_fault, .int v_opened, .int v_isSeen, .ref q_names, .ref q_seenKept, .ref q_movedKept, .int v_isKeeping, .int v_bubbleMany, .int v_bubbleMost, .int v_bubbleCell, .int v_bestShown, .ref q_traced, .int v_traceMany, .int v_who, .ref q_bitsOf, .ref q_sizeOf, .ref q_number, .ref q_lifted])), (q_aside, .inl (c 0, 120, .inl w_21)), (q_d, .inl (c 0, 244, .inl v_d)), (q_found, .inl (c 0, 6, .inl v_found)), (q_movedKept, .inl (c 0, 1000, .inl v_movedKept)), (q_names, .inl (c 0, 3, .inl v_names)), (q_seenKept, .inl (c 0, 2500, .inl v_seenKept))]) (ms := [(some 0), (some 1), (some 2), none, none, none, none]) hP hD hS hA ⟨rfl, rfl, rfl, trivial⟩ (by decide +kernel) ⟨rfl, rfl, rfl, rfl, rfl, rfl, rfl, trivial⟩ (va_runV (rm := rm_X12_keepAside) (ws := wsX12_keepAside) (As := [.int 0]) (rest := []) (gFix hF) (c_X12_keepAside l D c q_this q_d q_kept q_found q_aside q_names q_seenKept q_movedKept q_traced q_bitsOf q_sizeOf q_number q_lifted 0 v_images v_base v_at v_size v_fault v_opened v_isSeen v_isKeeping v_bubbleMany v_bubbleMost v_bubbleCell v_bestShown v_traceMany v_who v_aside v_d w_21 hc_20 H.size) (cwV 1 hts gX12_bestTwo_X12_keepAside rfl rfl rfl (by decide +kernel) ⟨Nat.le_of_ble_eq_true rfl, Nat.le_of_ble_eq_true rfl⟩) (gPreV (wc := [(q_this, .inr (12, [.ref q_d, .ref q_kept, .int v_images, .ref q_found, .ref q_aside, .int v_base, .int v_at, .int v_size, .int v_fault, .int v_opened, .int v_isSeen, .ref q_names, .ref q_seenKept, .ref q_movedKept, .int v_isKeeping, .int v_bubbleMany, .int v_bubbleMost, .int v_bubbleCell, .int v_bestShown, .ref q_traced, .int v_traceMany, .int v_who, .ref q_bitsOf, .ref q_sizeOf, .ref q_number, .ref q_lifted])), (q_aside, .inl (c 0, 120, .inl v_aside)), (q_d, .inl (c 0, 244, .inl v_d))]) (q := (RX12, TX12, 26)) (ci := 12) (q0 := 0) (isC := [0, 1, 2]) hK hX hS hA hP hD ⟨rfl, rfl, rfl, trivial⟩ (by decide +kernel) rfl rfl) rfl rfl hl.1 rfl (lv_room (Nat.le_of_ble_eq_true rfl)) dX12_bestTwo_56 ⟨Nat.le_of_ble_eq_true rfl, Nat.le_of_ble_eq_true rfl⟩) (fun H locs hP hD hS => ?_)
        refine lv_aload_n hx hb dX12_bestTwo_59 rfl (lv_at hl 0 rfl) ?_
        refine lv_iload_n hx hb dX12_bestTwo_60 rfl (lv_at hl 1 rfl) ?_
        refine lv_iload hx hb dX12_bestTwo_61 (lv_at hl 5 rfl) ?_
        refine lv_iload hx hb dX12_bestTwo_63 (lv_at hl 6 rfl) ?_
        replace h := kb9_ok h
        obtain ⟨w_23, w_24, w_25, w_26, w_27, w_28, w_29, w_30, w_31, hc_22, h⟩ := h
        refine gCallV (isC := [0, 2, 4, 5]) (wc := [(q_this, .inr (12, [.ref q_d, .ref q_kept, .int v_images, .ref q_found, .ref q_aside, .int v_base, .int v_at, .int v_size, .int v_fault, .int v_opened, .int v_isSeen, .ref q_names, .ref q_seenKept, .ref q_movedKept, .int v_isKeeping, .int v_bubbleMany, .int v_bubbleMost, .int v_bubbleCell, .int v_bestShown, .ref q_traced, .int v_traceMany, .int v_who, .ref q_bitsOf, .ref q_sizeOf, .ref q_number, .ref q_lifted])), (q_d, .inl (c 0, 244, .inl v_d)), (q_movedKept, .inl (c 0, 1000, .inl v_movedKept)), (q_names, .inl (c 0, 3, .inl v_names))]) (w1 := [(q_this, .inr (12, [.ref q_d, .ref q_kept, .int v_images, .ref q_found, .ref q_aside, .int w_23, .int w_24, .int w_25, .int w_26, .int w_27, .int w_28, .ref q_names, .ref q_seenKept, .ref q_movedKept, .int v_isKeeping, .int v_bubbleMany, .int v_bubbleMost, .int v_bubbleCell, .int v_bestShown, .ref q_traced, .int v_traceMany, .int v_who, .ref q_bitsOf, .ref q_sizeOf, .ref q_number, .ref q_lifted])), (q_d, .inl (c 0, 244, .inl w_29)), (q_movedKept, .inl (c 0, 1000, .inl w_30)), (q_names, .inl (c 0, 3, .inl w_31))]) (ws2 := [(q_this, .inr (12, [.ref q_d, .ref q_kept, .int v_images, .ref q_found, .ref q_aside, .int w_23, .int w_24, .int w_25, .int w_26, .int w_27, .int w_28, .ref q_names, .ref q_seenKept, .ref q_movedKept, .int v_isKeeping, .int v_bubbleMany, .int v_bubbleMost, .int v_bubbleCell, .int v_bestShown, .ref q_traced, .int v_traceMany, .int v_who, .ref q_bitsOf, .ref q_sizeOf, .ref q_number, .ref q_lifted])), (q_aside, .inl (c 0, 120, .inl w_21)), (q_d, .inl (c 0, 244, .inl w_29)), (q_found, .inl (c 0, 6, .inl v_found)), (q_movedKept, .inl (c 0, 1000, .inl w_30)), (q_names, .inl (c 0, 3, .inl w_31)), (q_seenKept, .inl (c 0, 2500, .inl v_seenKept))]) (ms := [(some 0), none, (some 1), none, (some 2), (some 3), none]) hP hD hS hA ⟨rfl, rfl, rfl, rfl, trivial⟩ (by decide +kernel) ⟨rfl, rfl, rfl, rfl, rfl, rfl, rfl, trivial⟩ (va_runV (rm := rm_X12_strokes) (ws := wsX12_strokes) (As := [.int a_1, .int x5, .int x6]) (rest := []) (gFix hF) (c_X12_strokes l D c q_this q_d q_kept q_found q_aside q_names q_seenKept q_movedKept q_traced q_bitsOf q_sizeOf q_number q_lifted a_1 x5 x6 v_images v_base v_at v_size v_fault v_opened v_isSeen v_isKeeping v_bubbleMany v_bubbleMost v_bubbleCell v_bestShown v_traceMany v_who v_d v_movedKept v_names w_23 w_24 w_25 w_26 w_27 w_28 w_29 w_30 w_31 hc_22 H.size) (cwV 3 hts gX12_bestTwo_X12_strokes rfl rfl rfl (by decide +kernel) ⟨Nat.le_of_ble_eq_true rfl, Nat.le_of_ble_eq_true rfl⟩) (gPreV (wc := [(q_this, .inr (12, [.ref q_d, .ref q_kept, .int v_images, .ref q_found, .ref q_aside, .int v_base, .int v_at, .int v_size, .int v_fault, .int v_opened, .int v_isSeen, .ref q_names, .ref q_seenKept, .ref q_movedKept, .int v_isKeeping, .int v_bubbleMany, .int v_bubbleMost, .int v_bubbleCell, .int v_bestShown, .ref q_traced, .int v_traceMany, .int v_who, .ref q_bitsOf, .ref q_sizeOf, .ref q_number, .ref q_lifted])), (q_d, .inl (c 0, 244, .inl v_d)), (q_movedKept, .inl (c 0, 1000, .inl v_movedKept)), (q_names, .inl (c 0, 3, .inl v_names))]) (q := (RX12, TX12, 26)) (ci := 12) (q0 := 0) (isC := [0, 2, 4, 5]) hK hX hS hA hP hD ⟨rfl, rfl, rfl, rfl, trivial⟩ (by decide +kernel) rfl rfl) rfl rfl hl.1 rfl (lv_room (Nat.le_of_ble_eq_true rfl)) dX12_bestTwo_65 ⟨Nat.le_of_ble_eq_true rfl, Nat.le_of_ble_eq_true rfl⟩) (fun H locs hP hD hS => ?_)
        refine lv_aload_n hx hb dX12_bestTwo_68 rfl (lv_at hl 0 rfl) ?_
        refine lv_iload_n hx hb dX12_bestTwo_69 rfl (lv_at hl 1 rfl) ?_
        refine lv_iconst (v := 1) hx hb dX12_bestTwo_70 (by decide) ?_
        replace h := kb13_ok h
        obtain ⟨r_33, w_34, w_35, w_36, w_37, w_38, w_39, w_40, w_41, w_42, w_43, w_44, w_45, hc_32, h⟩ := h
        refine gCallI (isC := [0, 1, 2, 4, 5, 6]) (wc := [(q_this, .inr (12, [.ref q_d, .ref q_kept, .int v_images, .ref q_found, .ref q_aside, .int w_23, .int w_24, .int w_25, .int w_26, .int w_27, .int w_28, .ref q_names, .ref q_seenKept, .ref q_movedKept, .int v_isKeeping, .int v_bubbleMany, .int v_bubbleMost, .int v_bubbleCell, .int v_bestShown, .ref q_traced, .int v_traceMany, .int v_who, .ref q_bitsOf, .ref q_sizeOf, .ref q_number, .ref q_lifted])), (q_aside, .inl (c 0, 120, .inl w_21)), (q_d, .inl (c 0, 244, .inl w_29)), (q_movedKept, .inl (c 0, 1000, .inl w_30)), (q_names, .inl (c 0, 3, .inl w_31)), (q_seenKept, .inl (c 0, 2500, .inl v_seenKept))]) (w1 := [(q_this, .inr (12, [.ref q_d, .ref q_kept, .int v_images, .ref q_found, .ref q_aside, .int w_34, .int w_35, .int w_36, .int w_37, .int w_38, .int w_39, .ref q_names, .ref q_seenKept, .ref q_movedKept, .int v_isKeeping, .int v_bubbleMany, .int v_bubbleMost, .int v_bubbleCell, .int w_40, .ref q_traced, .int v_traceMany, .int v_who, .ref q_bitsOf, .ref q_sizeOf, .ref q_number, .ref q_lifted])), (q_aside, .inl (c 0, 120, .inl w_41)), (q_d, .inl (c 0, 244, .inl w_42)), (q_movedKept, .inl (c 0, 1000, .inl w_43)), (q_names, .inl (c 0, 3, .inl w_44)), (q_seenKept, .inl (c 0, 2500, .inl w_45))]) (ws2 := [(q_this, .inr (12, [.ref q_d, .ref q_kept, .int v_images, .ref q_found, .ref q_aside, .int w_34, .int w_35, .int w_36, .int w_37, .int w_38, .int w_39, .ref q_names, .ref q_seenKept, .ref q_movedKept, .int v_isKeeping, .int v_bubbleMany, .int v_bubbleMost, .int v_bubbleCell, .int w_40, .ref q_traced, .int v_traceMany, .int v_who, .ref q_bitsOf, .ref q_sizeOf, .ref q_number, .ref q_lifted])), (q_aside, .inl (c 0, 120, .inl w_41)), (q_d, .inl (c 0, 244, .inl w_42)), (q_found, .inl (c 0, 6, .inl v_found)), (q_movedKept, .inl (c 0, 1000, .inl w_43)), (q_names, .inl (c 0, 3, .inl w_44)), (q_seenKept, .inl (c 0, 2500, .inl w_45))]) (ms := [(some 0), (some 1), (some 2), none, (some 3), (some 4), (some 5)]) hP hD hS hA ⟨rfl, rfl, rfl, rfl, rfl, rfl, trivial⟩ (by decide +kernel) ⟨rfl, rfl, rfl, rfl, rfl, rfl, rfl, trivial⟩ (va_runV (rm := rm_X12_bestOf) (ws := wsX12_bestOf) (As := [.int a_1, .int 1]) (rest := []) (gFix hF) (c_X12_bestOf l D c q_this q_d q_kept q_found q_aside q_names q_seenKept q_movedKept q_traced q_bitsOf q_sizeOf q_number q_lifted a_1 1 v_images w_23 w_24 w_25 w_26 w_27 w_28 v_isKeeping v_bubbleMany v_bubbleMost v_bubbleCell v_bestShown v_traceMany v_who w_21 w_29 w_30 w_31 v_seenKept r_33 w_34 w_35 w_36 w_37 w_38 w_39 w_40 w_41 w_42 w_43 w_44 w_45 hc_32 H.size) (cwV 2 hts gX12_bestTwo_X12_bestOf rfl rfl rfl (by decide +kernel) ⟨Nat.le_of_ble_eq_true rfl, Nat.le_of_ble_eq_true rfl⟩) (gPreV (wc := [(q_this, .inr (12, [.ref q_d, .ref q_kept, .int v_images, .ref q_found, .ref q_aside, .int w_23, .int w_24, .int w_25, .int w_26, .int w_27, .int w_28, .ref q_names, .ref q_seenKept, .ref q_movedKept, .int v_isKeeping, .int v_bubbleMany, .int v_bubbleMost, .int v_bubbleCell, .int v_bestShown, .ref q_traced, .int v_traceMany, .int v_who, .ref q_bitsOf, .ref q_sizeOf, .ref q_number, .ref q_lifted])), (q_aside, .inl (c 0, 120, .inl w_21)), (q_d, .inl (c 0, 244, .inl w_29)), (q_movedKept, .inl (c 0, 1000, .inl w_30)), (q_names, .inl (c 0, 3, .inl w_31)), (q_seenKept, .inl (c 0, 2500, .inl v_seenKept))]) (q := (RX12, TX12, 26)) (ci := 12) (q0 := 0) (isC := [0, 1, 2, 4, 5, 6]) hK hX hS hA hP hD ⟨rfl, rfl, rfl, rfl, rfl, rfl, trivial⟩ (by decide +kernel) rfl rfl) rfl rfl hl.1 rfl (lv_room (Nat.le_of_ble_eq_true rfl)) dX12_bestTwo_71 ⟨Nat.le_of_ble_eq_true rfl, Nat.le_of_ble_eq_true rfl⟩) (fun H locs hP hD hS => ?_)
        refine lv_istore (lv' := [(7, .int r_33), (0, .ref q_this), (1, .int a_1), (2, .int a_2), (3, .int x3), (4, .int x4), (5, .int x5), (6, .int x6)]) hx hb dX12_bestTwo_74 hl (by decide) rfl (fun ls hl => ?_)
        refine lv_aload_n hx hb dX12_bestTwo_76 rfl (lv_at hl 1 rfl) ?_
        refine lv_iconst (v := 0) hx hb dX12_bestTwo_77 (by decide) ?_
        replace h := kb_ok h
        obtain ⟨w_47, hc_46, h⟩ := h
        refine gCallV (isC := [0, 1, 2]) (wc := [(q_this, .inr (12, [.ref q_d, .ref q_kept, .int v_images, .ref q_found, .ref q_aside, .int w_34, .int w_35, .int w_36, .int w_37, .int w_38, .int w_39, .ref q_names, .ref q_seenKept, .ref q_movedKept, .int v_isKeeping, .int v_bubbleMany, .int v_bubbleMost, .int v_bubbleCell, .int w_40, .ref q_traced, .int v_traceMany, .int v_who, .ref q_bitsOf, .ref q_sizeOf, .ref q_number, .ref q_lifted])), (q_aside, .inl (c 0, 120, .inl w_41)), (q_d, .inl (c 0, 244, .inl w_42))]) (w1 := [(q_this, .inr (12, [.ref q_d, .ref q_kept, .int v_images, .ref q_found, .ref q_aside, .int w_34, .int w_35, .int w_36, .int w_37, .int w_38, .int w_39, .ref q_names, .ref q_seenKept, .ref q_movedKept, .int v_isKeeping, .int v_bubbleMany, .int v_bubbleMost, .int v_bubbleCell, .int w_40, .ref q_traced, .int v_traceMany, .int v_who, .ref q_bitsOf, .ref q_sizeOf, .ref q_number, .ref q_lifted])), (q_aside, .inl (c 0, 120, .inl w_41)), (q_d, .inl (c 0, 244, .inl w_47))]) (ws2 := [(q_this, .inr (12, [.ref q_d, .ref q_kept, .int v_images, .ref q_found, .ref q_aside, .int w_34, .int w_35, .int w_36, .int w_37, .int w_38, .int w_39, .ref q_names, .ref q_seenKept, .ref q_movedKept, .int v_isKeeping, .int v_bubbleMany, .int v_bubbleMost, .int v_bubbleCell, .int w_40, .ref q_traced, .int v_traceMany, .int v_who, .ref q_bitsOf, .ref q_sizeOf, .ref q_number, .ref q_lifted])), (q_aside, .inl (c 0, 120, .inl w_41)), (q_d, .inl (c 0, 244, .inl w_47)), (q_found, .inl (c 0, 6, .inl v_found)), (q_movedKept, .inl (c 0, 1000, .inl w_43)), (q_names, .inl (c 0, 3, .inl w_44)), (q_seenKept, .inl (c 0, 2500, .inl w_45))]) (ms := [(some 0), (some 1), (some 2), none, none, none, none]) hP hD hS hA ⟨rfl, rfl, rfl, trivial⟩ (by decide +kernel) ⟨rfl, rfl, rfl, rfl, rfl, rfl, rfl, trivial⟩ (va_runV (rm := rm_X12_putBack) (ws := wsX12_putBack) (As := [.int 0]) (rest := []) (gFix hF) (c_X12_putBack l D c q_this q_d q_kept q_found q_aside q_names q_seenKept q_movedKept q_traced q_bitsOf q_sizeOf q_number q_lifted 0 v_images w_34 w_35 w_36 w_37 w_38 w_39 v_isKeeping v_bubbleMany v_bubbleMost v_bubbleCell w_40 v_traceMany v_who w_41 w_42 w_47 hc_46 H.size) (cwV 1 hts gX12_bestTwo_X12_putBack rfl rfl rfl (by decide +kernel) ⟨Nat.le_of_ble_eq_true rfl, Nat.le_of_ble_eq_true rfl⟩) (gPreV (wc := [(q_this, .inr (12, [.ref q_d, .ref q_kept, .int v_images, .ref q_found, .ref q_aside, .int w_34, .int w_35, .int w_36, .int w_37, .int w_38, .int w_39, .ref q_names, .ref q_seenKept, .ref q_movedKept, .int v_isKeeping, .int v_bubbleMany, .int v_bubbleMost, .int v_bubbleCell, .int w_40, .ref q_traced, .int v_traceMany, .int v_who, .ref q_bitsOf, .ref q_sizeOf, .ref q_number, .ref q_lifted])), (q_aside, .inl (c 0, 120, .inl w_41)), (q_d, .inl (c 0, 244, .inl w_42))]) (q := (RX12, TX12, 26)) (ci := 12) (q0 := 0) (isC := [0, 1, 2]) hK hX hS hA hP hD ⟨rfl, rfl, rfl, trivial⟩ (by decide +kernel) rfl rfl) rfl rfl hl.1 rfl (lv_room (Nat.le_of_ble_eq_true rfl)) dX12_bestTwo_78 ⟨Nat.le_of_ble_eq_true rfl, Nat.le_of_ble_eq_true rfl⟩) (fun H locs hP hD hS => ?_)
        refine lv_iload hx hb dX12_bestTwo_81 (lv_at hl 0 rfl) ?_
        refine lv_if_lt (tgt := 114) hx hb dX12_bestTwo_83 (by decide) (fun c_48 => ?_) (fun c_48 => ?_)
        · replace h := it_t c_48 h
          replace h := nm_ok h
          obtain ⟨t_49, et_49, h⟩ := h
          refine lv_iinc (v := t_49) (lv' := [(6, .int t_49), (7, .int r_33), (0, .ref q_this), (1, .int a_1), (2, .int a_2), (3, .int x3), (4, .int x4), (5, .int x5)]) hx hb dX12_bestTwo_114 hl (k := 7) rfl (by rw [et_49]; rfl) (by decide) rfl (fun ls hl => ?_)
          refine lv_goto (tgt := 48) hx hb dX12_bestTwo_117 (by decide) ?_
          exact ih x3 x4 x5 t_49 w_34 w_35 w_36 w_37 w_38 w_39 v_isKeeping w_40 w_41 w_47 v_found w_43 w_44 w_45 H locs hP hD hS ls (lv_sub hl [2, 3, 4, 5, 6, 7, 0] rfl) h
        · replace h := it_f c_48 h
          refine lv_iload_n hx hb dX12_bestTwo_86 rfl (lv_at hl 4 rfl) ?_
          refine lv_if_lt (tgt := 99) hx hb dX12_bestTwo_87 (by decide) (fun c_50 => ?_) (fun c_50 => ?_)
          · replace h := it_t c_50 h
            exact t_L99 _ ih x5 x6 w_34 w_35 w_36 w_37 w_38 w_39 v_isKeeping w_40 w_41 w_47 v_found w_43 w_44 w_45 H locs hP hD hS ls (lv_sub hl [1, 2, 3, 6, 7] rfl) h
          · replace h := it_f c_50 h
            refine lv_aload_n hx hb dX12_bestTwo_90 rfl (lv_at hl 1 rfl) ?_
            refine va_get (D := D) (ci := 12) (v := .int w_40) (C := RX12) (T := TX12) (N := 26) hx hb hts in_X12_bestTwo_X12 hown hK.1 hP 0 rfl rfl 18 (by decide) (hts (.fieldLink RX12 233 "PaperBubblesModel" "bestShown" "I") (List.mem_of_getElem? (i := 1) rfl)) (fun _ h9 => h9) rfl dX12_bestTwo_91 ?_
            refine lv_iload hx hb dX12_bestTwo_94 (lv_at hl 5 rfl) ?_
            refine lv_icmp_ge (tgt := 114) hx hb dX12_bestTwo_96 (by decide) (fun c_51 => ?_) (fun c_51 => ?_)
            · replace h := it_t c_51 h
              replace h := nm_ok h
              obtain ⟨t_52, et_52, h⟩ := h
              refine lv_iinc (v := t_52) (lv' := [(6, .int t_52), (7, .int r_33), (0, .ref q_this), (1, .int a_1), (2, .int a_2), (3, .int x3), (4, .int x4), (5, .int x5)]) hx hb dX12_bestTwo_114 hl (k := 7) rfl (by rw [et_52]; rfl) (by decide) rfl (fun ls hl => ?_)
              refine lv_goto (tgt := 48) hx hb dX12_bestTwo_117 (by decide) ?_
              exact ih x3 x4 x5 t_52 w_34 w_35 w_36 w_37 w_38 w_39 v_isKeeping w_40 w_41 w_47 v_found w_43 w_44 w_45 H locs hP hD hS ls (lv_sub hl [2, 3, 4, 5, 6, 7, 0] rfl) h
            · replace h := it_f c_51 h
              exact t_L99 _ ih x5 x6 w_34 w_35 w_36 w_37 w_38 w_39 v_isKeeping w_40 w_41 w_47 v_found w_43 w_44 w_45 H locs hP hD hS ls (lv_sub hl [1, 2, 3, 6, 7] rfl) h
  have t_L36 : ∀ (n : Nat), ∀ (x3 : Int32) (x4 : Int32) (x5 : Int32) (v_base : Int32) (v_at : Int32) (v_size : Int32) (v_fault : Int32) (v_opened : Int32) (v_isSeen : Int32) (v_isKeeping : Int32) (v_bestShown : Int32) (v_aside : Nat → Int32) (v_d : Nat → Int32) (v_found : Nat → Int32) (v_movedKept : Nat → Int32) (v_names : Nat → Int32) (v_seenKept : Nat → Int32) (H : Heap) (locs : List Loc), va_P D gcl [(q_this, .inr (12, [.ref q_d, .ref q_kept, .int v_images, .ref q_found, .ref q_aside, .int v_base, .int v_at, .int v_size, .int v_fault, .int v_opened, .int v_isSeen, .ref q_names, .ref q_seenKept, .ref q_movedKept, .int v_isKeeping, .int v_bubbleMany, .int v_bubbleMost, .int v_bubbleCell, .int v_bestShown, .ref q_traced, .int v_traceMany, .int v_who, .ref q_bitsOf, .ref q_sizeOf, .ref q_number, .ref q_lifted])), (q_aside, .inl (c 0, 120, .inl v_aside)), (q_d, .inl (c 0, 244, .inl v_d)), (q_found, .inl (c 0, 6, .inl v_found)), (q_movedKept, .inl (c 0, 1000, .inl v_movedKept)), (q_names, .inl (c 0, 3, .inl v_names)), (q_seenKept, .inl (c 0, 2500, .inl v_seenKept))] H → va_D A [(q_this, .inr (12, [.ref q_d, .ref q_kept, .int v_images, .ref q_found, .ref q_aside, .int v_base, .int v_at, .int v_size, .int v_fault, .int v_opened, .int v_isSeen, .ref q_names, .ref q_seenKept, .ref q_movedKept, .int v_isKeeping, .int v_bubbleMany, .int v_bubbleMost, .int v_bubbleCell, .int v_bestShown, .ref q_traced, .int v_traceMany, .int v_who, .ref q_bitsOf, .ref q_sizeOf, .ref q_number, .ref q_lifted])), (q_aside, .inl (c 0, 120, .inl v_aside)), (q_d, .inl (c 0, 244, .inl v_d)), (q_found, .inl (c 0, 6, .inl v_found)), (q_movedKept, .inl (c 0, 1000, .inl v_movedKept)), (q_names, .inl (c 0, 3, .inl v_names)), (q_seenKept, .inl (c 0, 2500, .inl v_seenKept))] → va_S A s.heap H locs → ∀ ls, lv_has ls 8 [(0, .ref q_this), (1, .int a_1), (2, .int a_2), (3, .int x3), (4, .int x4), (5, .int x5)] → f_X12_bestTwo_L36 a_1 a_2 n x3 x4 x5 v_base v_at v_size v_fault v_opened v_isSeen v_isKeeping v_bestShown v_aside v_d v_found v_movedKept v_names v_seenKept = some (o_r, o_v_base, o_v_at, o_v_size, o_v_fault, o_v_opened, o_v_isSeen, o_v_isKeeping, o_v_bestShown, o_v_aside, o_v_d, o_v_found, o_v_movedKept, o_v_names, o_v_seenKept) → W p l e (headSpec wsX12_bestTwo rm_X12_bestTwo).room s m [.ref q_this, .int a_1, .int a_2].toArray below meth co H locs 0 0 (gQI D [(q_this, .inr (12, [.ref q_d, .ref q_kept, .int v_images, .ref q_found, .ref q_aside, .int o_v_base, .int o_v_at, .int o_v_size, .int o_v_fault, .int o_v_opened, .int o_v_isSeen, .ref q_names, .ref q_seenKept, .ref q_movedKept, .int o_v_isKeeping, .int v_bubbleMany, .int v_bubbleMost, .int v_bubbleCell, .int o_v_bestShown, .ref q_traced, .int v_traceMany, .int v_who, .ref q_bitsOf, .ref q_sizeOf, .ref q_number, .ref q_lifted])), (q_aside, .inl (c 0, 120, .inl o_v_aside)), (q_d, .inl (c 0, 244, .inl o_v_d)), (q_found, .inl (c 0, 6, .inl o_v_found)), (q_movedKept, .inl (c 0, 1000, .inl o_v_movedKept)), (q_names, .inl (c 0, 3, .inl o_v_names)), (q_seenKept, .inl (c 0, 2500, .inl o_v_seenKept))] o_r A below [.ref q_this, .int a_1, .int a_2] s) (F0 m 36 ls []) := by
    intro n
    induction n with
    | zero => intro x3 x4 x5 v_base v_at v_size v_fault v_opened v_isSeen v_isKeeping v_bestShown v_aside v_d v_found v_movedKept v_names v_seenKept H locs hP hD hS ls hl h; exact no_ok h
    | succ n ih =>
      intro x3 x4 x5 v_base v_at v_size v_fault v_opened v_isSeen v_isKeeping v_bestShown v_aside v_d v_found v_movedKept v_names v_seenKept H locs hP hD hS ls hl h
      rw [f_X12_bestTwo_L36] at h
      refine lv_iload hx hb dX12_bestTwo_36 (lv_at hl 5 rfl) ?_
      refine lv_aload_n hx hb dX12_bestTwo_38 rfl (lv_at hl 0 rfl) ?_
      replace h := kb_ok h
      obtain ⟨r_15, hc_14, h⟩ := h
      refine gCallIr (isC := [0, 2]) (wc := [(q_this, .inr (12, [.ref q_d, .ref q_kept, .int v_images, .ref q_found, .ref q_aside, .int v_base, .int v_at, .int v_size, .int v_fault, .int v_opened, .int v_isSeen, .ref q_names, .ref q_seenKept, .ref q_movedKept, .int v_isKeeping, .int v_bubbleMany, .int v_bubbleMost, .int v_bubbleCell, .int v_bestShown, .ref q_traced, .int v_traceMany, .int v_who, .ref q_bitsOf, .ref q_sizeOf, .ref q_number, .ref q_lifted])), (q_d, .inl (c 0, 244, .inl v_d))]) hP hD hS hA ⟨rfl, rfl, trivial⟩ (va_runV (rm := rm_X12_cells) (ws := wsX12_cells) (As := []) (rest := [.int x5]) (gFix hF) (c_X12_cells l D c q_this q_d q_kept q_found q_aside q_names q_seenKept q_movedKept q_traced q_bitsOf q_sizeOf q_number q_lifted v_images v_base v_at v_size v_fault v_opened v_isSeen v_isKeeping v_bubbleMany v_bubbleMost v_bubbleCell v_bestShown v_traceMany v_who v_d r_15 hc_14 H.size) (cwV 0 hts gX12_bestTwo_X12_cells rfl rfl rfl (by decide +kernel) ⟨Nat.le_of_ble_eq_true rfl, Nat.le_of_ble_eq_true rfl⟩) (gPreV (wc := [(q_this, .inr (12, [.ref q_d, .ref q_kept, .int v_images, .ref q_found, .ref q_aside, .int v_base, .int v_at, .int v_size, .int v_fault, .int v_opened, .int v_isSeen, .ref q_names, .ref q_seenKept, .ref q_movedKept, .int v_isKeeping, .int v_bubbleMany, .int v_bubbleMost, .int v_bubbleCell, .int v_bestShown, .ref q_traced, .int v_traceMany, .int v_who, .ref q_bitsOf, .ref q_sizeOf, .ref q_number, .ref q_lifted])), (q_d, .inl (c 0, 244, .inl v_d))]) (q := (RX12, TX12, 26)) (ci := 12) (q0 := 0) (isC := [0, 2]) hK hX hS hA hP hD ⟨rfl, rfl, trivial⟩ (by decide +kernel) rfl rfl) rfl rfl hl.1 rfl (lv_room (Nat.le_of_ble_eq_true rfl)) dX12_bestTwo_39 ⟨Nat.le_of_ble_eq_true rfl, Nat.le_of_ble_eq_true rfl⟩) (fun H locs hP hS => ?_)
      refine lv_icmp_ge (tgt := 126) hx hb dX12_bestTwo_42 (by decide) (fun c_16 => ?_) (fun c_16 => ?_)
      · replace h := it_t c_16 h
        refine lv_aload_n hx hb dX12_bestTwo_126 rfl (lv_at hl 0 rfl) ?_
        refine lv_iconst (v := 0) hx hb dX12_bestTwo_127 (by decide) ?_
        refine va_put (D := D) (ci := 12) (v := .int 0) (ty := .boolean) (C := RX12) (T := TX12) (N := 26) hx hb hts in_X12_bestTwo_X12 tyX12 tyX12_ok nmX12 hown hK.1 hP hD hS 0 rfl rfl 14 (by decide) (hts (.fieldLink RX12 144 "PaperBubblesModel" "isKeeping" "Z") (List.mem_of_getElem? (i := 2) rfl)) (fun _ h9 => h9) rfl (by decide +kernel) rfl rfl (Nat.le_of_ble_eq_true rfl) dX12_bestTwo_128 (fun H locs hP hD hS => ?_)
        have hP : va_P D gcl [(q_this, .inr (12, [.ref q_d, .ref q_kept, .int v_images, .ref q_found, .ref q_aside, .int v_base, .int v_at, .int v_size, .int v_fault, .int v_opened, .int v_isSeen, .ref q_names, .ref q_seenKept, .ref q_movedKept, .int 0, .int v_bubbleMany, .int v_bubbleMost, .int v_bubbleCell, .int v_bestShown, .ref q_traced, .int v_traceMany, .int v_who, .ref q_bitsOf, .ref q_sizeOf, .ref q_number, .ref q_lifted])), (q_aside, .inl (c 0, 120, .inl v_aside)), (q_d, .inl (c 0, 244, .inl v_d)), (q_found, .inl (c 0, 6, .inl v_found)), (q_movedKept, .inl (c 0, 1000, .inl v_movedKept)), (q_names, .inl (c 0, 3, .inl v_names)), (q_seenKept, .inl (c 0, 2500, .inl v_seenKept))] H := hP
        have hD : va_D A [(q_this, .inr (12, [.ref q_d, .ref q_kept, .int v_images, .ref q_found, .ref q_aside, .int v_base, .int v_at, .int v_size, .int v_fault, .int v_opened, .int v_isSeen, .ref q_names, .ref q_seenKept, .ref q_movedKept, .int 0, .int v_bubbleMany, .int v_bubbleMost, .int v_bubbleCell, .int v_bestShown, .ref q_traced, .int v_traceMany, .int v_who, .ref q_bitsOf, .ref q_sizeOf, .ref q_number, .ref q_lifted])), (q_aside, .inl (c 0, 120, .inl v_aside)), (q_d, .inl (c 0, 244, .inl v_d)), (q_found, .inl (c 0, 6, .inl v_found)), (q_movedKept, .inl (c 0, 1000, .inl v_movedKept)), (q_names, .inl (c 0, 3, .inl v_names)), (q_seenKept, .inl (c 0, 2500, .inl v_seenKept))] := hD
        refine lv_iload_n hx hb dX12_bestTwo_131 rfl (lv_at hl 2 rfl) ?_
        refine lv_if_ne (tgt := 139) hx hb dX12_bestTwo_132 (by decide) (fun c_17 => ?_) (fun c_17 => ?_)
        · replace h := it_f c_17 h
          refine lv_iload hx hb dX12_bestTwo_139 (lv_at hl 4 rfl) ?_
          replace h := so15 h
          obtain ⟨z0, z1, z2, z3, z4, z5, z6, z7, z8, z9, z10, z11, z12, z13, z14⟩ := h
          subst z0 z1 z2 z3 z4 z5 z6 z7 z8 z9 z10 z11 z12 z13 z14
          exact gIret hF hP hD hS rfl dX12_bestTwo_141
        · replace h := it_t c_17 h
          refine lv_iload_n hx hb dX12_bestTwo_135 rfl (lv_at hl 3 rfl) ?_
          refine lv_goto (tgt := 141) hx hb dX12_bestTwo_136 (by decide) ?_
          replace h := so15 h
          obtain ⟨z0, z1, z2, z3, z4, z5, z6, z7, z8, z9, z10, z11, z12, z13, z14⟩ := h
          subst z0 z1 z2 z3 z4 z5 z6 z7 z8 z9 z10 z11 z12 z13 z14
          exact gIret hF hP hD hS rfl dX12_bestTwo_141
      · replace h := it_f c_16 h
        refine lv_iconst (v := 0) hx hb dX12_bestTwo_45 (by decide) ?_
        refine lv_istore (lv' := [(6, .int 0), (0, .ref q_this), (1, .int a_1), (2, .int a_2), (3, .int x3), (4, .int x4), (5, .int x5)]) hx hb dX12_bestTwo_46 hl (by decide) rfl (fun ls hl => ?_)
        exact t_L48 _ ih gFuel x3 x4 x5 0 v_base v_at v_size v_fault v_opened v_isSeen v_isKeeping v_bestShown v_aside v_d v_found v_movedKept v_names v_seenKept H locs hP hD hS ls (lv_sub hl [1, 2, 3, 4, 5, 6, 0] rfl) h
  unfold f_X12_bestTwo at h
  refine lv_aload_n hx hb dX12_bestTwo_0 rfl (lv_at hl 0 rfl) ?_
  refine lv_iload_n hx hb dX12_bestTwo_1 rfl (lv_at hl 1 rfl) ?_
  replace h := kb_ok h
  obtain ⟨r_2, hc_1, h⟩ := h
  refine gCallIr (isC := [0, 2]) (wc := [(q_this, .inr (12, [.ref q_d, .ref q_kept, .int v_images, .ref q_found, .ref q_aside, .int v_base, .int v_at, .int v_size, .int v_fault, .int v_opened, .int v_isSeen, .ref q_names, .ref q_seenKept, .ref q_movedKept, .int v_isKeeping, .int v_bubbleMany, .int v_bubbleMost, .int v_bubbleCell, .int v_bestShown, .ref q_traced, .int v_traceMany, .int v_who, .ref q_bitsOf, .ref q_sizeOf, .ref q_number, .ref q_lifted])), (q_d, .inl (c 0, 244, .inl v_d))]) hP hD hS hA ⟨rfl, rfl, trivial⟩ (va_runV (rm := rm_X12_isTool) (ws := wsX12_isTool) (As := [.int a_1]) (rest := []) (gFix hF) (c_X12_isTool l D c q_this q_d q_kept q_found q_aside q_names q_seenKept q_movedKept q_traced q_bitsOf q_sizeOf q_number q_lifted a_1 v_images v_base v_at v_size v_fault v_opened v_isSeen v_isKeeping v_bubbleMany v_bubbleMost v_bubbleCell v_bestShown v_traceMany v_who v_d r_2 hc_1 s.heap.size) (cwV 1 hts gX12_bestTwo_X12_isTool rfl rfl rfl (by decide +kernel) ⟨Nat.le_of_ble_eq_true rfl, Nat.le_of_ble_eq_true rfl⟩) (gPreV (wc := [(q_this, .inr (12, [.ref q_d, .ref q_kept, .int v_images, .ref q_found, .ref q_aside, .int v_base, .int v_at, .int v_size, .int v_fault, .int v_opened, .int v_isSeen, .ref q_names, .ref q_seenKept, .ref q_movedKept, .int v_isKeeping, .int v_bubbleMany, .int v_bubbleMost, .int v_bubbleCell, .int v_bestShown, .ref q_traced, .int v_traceMany, .int v_who, .ref q_bitsOf, .ref q_sizeOf, .ref q_number, .ref q_lifted])), (q_d, .inl (c 0, 244, .inl v_d))]) (q := (RX12, TX12, 26)) (ci := 12) (q0 := 0) (isC := [0, 2]) hK hX hS hA hP hD ⟨rfl, rfl, trivial⟩ (by decide +kernel) rfl rfl) rfl rfl hl.1 rfl (lv_room (Nat.le_of_ble_eq_true rfl)) dX12_bestTwo_2 ⟨Nat.le_of_ble_eq_true rfl, Nat.le_of_ble_eq_true rfl⟩) (fun H locs hP hS => ?_)
  refine lv_if_eq (tgt := 18) hx hb dX12_bestTwo_5 (by decide) (fun c_3 => ?_) (fun c_3 => ?_)
  · replace h := it_t c_3 h
    exact t_L18 v_base v_at v_size v_fault v_opened v_isSeen v_isKeeping v_bestShown v_aside v_d v_found v_movedKept v_names v_seenKept H locs hP hD hS ls (lv_sub hl [0] rfl) h
  · replace h := it_f c_3 h
    refine lv_iload_n hx hb dX12_bestTwo_8 rfl (lv_at hl 2 rfl) ?_
    refine lv_i2l hx hb dX12_bestTwo_9 rfl ?_
    refine lv_lconst (v := 0) hx hb dX12_bestTwo_10 (by decide) ?_
    refine lv_lconst (v := 1) hx hb dX12_bestTwo_11 (by decide) ?_
    replace h := kb_ok h
    obtain ⟨r_5, hc_4, h⟩ := h
    refine gCallIr (isC := []) (wc := []) hP hD hS hA trivial (va_runS (rm := rm_X12_in) (ws := wsX12_in) (As := [.long ((a_2 : Int32).toInt64), .long 0, .long 1]) (rest := []) (gFix hF) (c_X12_in l D c ((a_2 : Int32).toInt64) 0 1 r_5 hc_4 H.size) (va_cwS 3 hts gX12_bestTwo_X12_in rfl rfl rfl (by decide +kernel) ⟨Nat.le_of_ble_eq_true rfl, Nat.le_of_ble_eq_true rfl⟩) (gPreS (wc := []) (isC := []) hK hX hS hA hP hD trivial (by decide +kernel)) rfl rfl hl.1 rfl (lv_room (Nat.le_of_ble_eq_true rfl)) dX12_bestTwo_12 ⟨Nat.le_of_ble_eq_true rfl, Nat.le_of_ble_eq_true rfl⟩) (fun H locs hP hS => ?_)
    refine lv_if_ne (tgt := 24) hx hb dX12_bestTwo_15 (by decide) (fun c_6 => ?_) (fun c_6 => ?_)
    · replace h := it_f c_6 h
      refine lv_aload_n hx hb dX12_bestTwo_24 rfl (lv_at hl 0 rfl) ?_
      replace h := kb3_ok h
      obtain ⟨w_8, w_9, w_10, hc_7, h⟩ := h
      refine gCallV (isC := [0, 4, 6]) (wc := [(q_this, .inr (12, [.ref q_d, .ref q_kept, .int v_images, .ref q_found, .ref q_aside, .int v_base, .int v_at, .int v_size, .int v_fault, .int v_opened, .int v_isSeen, .ref q_names, .ref q_seenKept, .ref q_movedKept, .int v_isKeeping, .int v_bubbleMany, .int v_bubbleMost, .int v_bubbleCell, .int v_bestShown, .ref q_traced, .int v_traceMany, .int v_who, .ref q_bitsOf, .ref q_sizeOf, .ref q_number, .ref q_lifted])), (q_movedKept, .inl (c 0, 1000, .inl v_movedKept)), (q_seenKept, .inl (c 0, 2500, .inl v_seenKept))]) (w1 := [(q_this, .inr (12, [.ref q_d, .ref q_kept, .int v_images, .ref q_found, .ref q_aside, .int v_base, .int v_at, .int v_size, .int v_fault, .int v_opened, .int v_isSeen, .ref q_names, .ref q_seenKept, .ref q_movedKept, .int w_8, .int v_bubbleMany, .int v_bubbleMost, .int v_bubbleCell, .int v_bestShown, .ref q_traced, .int v_traceMany, .int v_who, .ref q_bitsOf, .ref q_sizeOf, .ref q_number, .ref q_lifted])), (q_movedKept, .inl (c 0, 1000, .inl w_9)), (q_seenKept, .inl (c 0, 2500, .inl w_10))]) (ws2 := [(q_this, .inr (12, [.ref q_d, .ref q_kept, .int v_images, .ref q_found, .ref q_aside, .int v_base, .int v_at, .int v_size, .int v_fault, .int v_opened, .int v_isSeen, .ref q_names, .ref q_seenKept, .ref q_movedKept, .int w_8, .int v_bubbleMany, .int v_bubbleMost, .int v_bubbleCell, .int v_bestShown, .ref q_traced, .int v_traceMany, .int v_who, .ref q_bitsOf, .ref q_sizeOf, .ref q_number, .ref q_lifted])), (q_aside, .inl (c 0, 120, .inl v_aside)), (q_d, .inl (c 0, 244, .inl v_d)), (q_found, .inl (c 0, 6, .inl v_found)), (q_movedKept, .inl (c 0, 1000, .inl w_9)), (q_names, .inl (c 0, 3, .inl v_names)), (q_seenKept, .inl (c 0, 2500, .inl w_10))]) (ms := [(some 0), none, none, none, (some 1), none, (some 2)]) hP hD hS hA ⟨rfl, rfl, rfl, trivial⟩ (by decide +kernel) ⟨rfl, rfl, rfl, rfl, rfl, rfl, rfl, trivial⟩ (va_runV (rm := rm_X12_keepsAnew) (ws := wsX12_keepsAnew) (As := []) (rest := []) (gFix hF) (c_X12_keepsAnew l D c q_this q_d q_kept q_found q_aside q_names q_seenKept q_movedKept q_traced q_bitsOf q_sizeOf q_number q_lifted v_images v_base v_at v_size v_fault v_opened v_isSeen v_isKeeping v_bubbleMany v_bubbleMost v_bubbleCell v_bestShown v_traceMany v_who v_movedKept v_seenKept w_8 w_9 w_10 hc_7 H.size) (cwV 0 hts gX12_bestTwo_X12_keepsAnew rfl rfl rfl (by decide +kernel) ⟨Nat.le_of_ble_eq_true rfl, Nat.le_of_ble_eq_true rfl⟩) (gPreV (wc := [(q_this, .inr (12, [.ref q_d, .ref q_kept, .int v_images, .ref q_found, .ref q_aside, .int v_base, .int v_at, .int v_size, .int v_fault, .int v_opened, .int v_isSeen, .ref q_names, .ref q_seenKept, .ref q_movedKept, .int v_isKeeping, .int v_bubbleMany, .int v_bubbleMost, .int v_bubbleCell, .int v_bestShown, .ref q_traced, .int v_traceMany, .int v_who, .ref q_bitsOf, .ref q_sizeOf, .ref q_number, .ref q_lifted])), (q_movedKept, .inl (c 0, 1000, .inl v_movedKept)), (q_seenKept, .inl (c 0, 2500, .inl v_seenKept))]) (q := (RX12, TX12, 26)) (ci := 12) (q0 := 0) (isC := [0, 4, 6]) hK hX hS hA hP hD ⟨rfl, rfl, rfl, trivial⟩ (by decide +kernel) rfl rfl) rfl rfl hl.1 rfl (lv_room (Nat.le_of_ble_eq_true rfl)) dX12_bestTwo_25 ⟨Nat.le_of_ble_eq_true rfl, Nat.le_of_ble_eq_true rfl⟩) (fun H locs hP hD hS => ?_)
      refine lv_iconst (v := (-1)) hx hb dX12_bestTwo_28 (by decide) ?_
      refine lv_istore_n (lv' := [(3, .int (-1)), (0, .ref q_this), (1, .int a_1), (2, .int a_2)]) hx hb dX12_bestTwo_29 rfl hl (by decide) rfl (fun ls hl => ?_)
      refine lv_iconst (v := 0) hx hb dX12_bestTwo_30 (by decide) ?_
      refine lv_istore (lv' := [(4, .int 0), (3, .int (-1)), (0, .ref q_this), (1, .int a_1), (2, .int a_2)]) hx hb dX12_bestTwo_31 hl (by decide) rfl (fun ls hl => ?_)
      refine lv_iconst (v := 0) hx hb dX12_bestTwo_33 (by decide) ?_
      refine lv_istore (lv' := [(5, .int 0), (4, .int 0), (3, .int (-1)), (0, .ref q_this), (1, .int a_1), (2, .int a_2)]) hx hb dX12_bestTwo_34 hl (by decide) rfl (fun ls hl => ?_)
      exact t_L36 gFuel (-1) 0 0 v_base v_at v_size v_fault v_opened v_isSeen w_8 v_bestShown v_aside v_d v_found w_9 v_names w_10 H locs hP hD hS ls (lv_sub hl [3, 4, 5, 2, 1, 0] rfl) h
    · replace h := it_t c_6 h
      exact t_L18 v_base v_at v_size v_fault v_opened v_isSeen v_isKeeping v_bestShown v_aside v_d v_found v_movedKept v_names v_seenKept H locs hP hD hS ls (lv_sub hl [0] rfl) h
set_option maxRecDepth 20000 in
theorem in_X12_bubbleOf_X12 : ∀ w ∈ u_ws RX12 TX12 26, w ∈ wsX12_bubbleOf := by decide +kernel
def f_X12_bubbleOf_L77 (kk_L28 : Int32 → Int32 → Int32 → Int32 → Option (Int32)) (v_d : Nat → Int32) (x3 : Int32) (x4 : Int32) (x5 : Int32) (x6 : Int32) (y0 : Int32) (y2 : Int32) (y3 : Int32) : Option (Int32) :=
  nm (y2 + y3 : Int32) fun t_18 =>
  chi t_18 244 <|
  if (v_d t_18.toNatClampNeg) ≤ 0 then
    nm (y0 ||| 0 : Int32) fun t_21 =>
    nm (x5 + 1 : Int32) fun t_22 =>
    kk_L28 t_21 x3 x4 t_22
  else
    nm (1 <<< (x6 &&& 31) : Int32) fun t_23 =>
    nm (y0 ||| t_23 : Int32) fun t_24 =>
    nm (x5 + 1 : Int32) fun t_25 =>
    kk_L28 t_24 x3 x4 t_25

def f_X12_bubbleOf_L28 (kk_L16 : Int32 → Int32 → Int32 → Option (Int32)) (v_d : Nat → Int32) : Nat → Int32 → Int32 → Int32 → Int32 → Option (Int32)
  | 0, _, _, _, _ => none
  | n + 1, x2, x3, x4, x5 =>
    if 4 ≤ x5 then
      nm (x4 + 1 : Int32) fun t_7 =>
      kk_L16 x2 x3 t_7
    else
      nm (x3 >>> (x4 &&& 31) : Int32) fun t_8 =>
      nm (t_8 &&& 1 : Int32) fun t_9 =>
      if t_9 = 1 then
        kb (f_X12_nextTo x4 x5 v_d) fun r_13 =>
        if r_13 < 0 then
          nm (x2 ||| 0 : Int32) fun t_15 =>
          nm (x5 + 1 : Int32) fun t_16 =>
          f_X12_bubbleOf_L28 kk_L16 v_d n t_15 x3 x4 t_16
        else
          if 0 ≤ r_13 then
            f_X12_bubbleOf_L77 (f_X12_bubbleOf_L28 kk_L16 v_d n) v_d x3 x4 x5 r_13 x2 10 r_13
          else
            f_X12_bubbleOf_L77 (f_X12_bubbleOf_L28 kk_L16 v_d n) v_d x3 x4 x5 r_13 x2 10 0
      else
        nm (x4 + 1 : Int32) fun t_11 =>
        kk_L16 x2 x3 t_11

def f_X12_bubbleOf_L16 (kk_L6 : Int32 → Int32 → Option (Int32)) (v_d : Nat → Int32) : Nat → Int32 → Int32 → Int32 → Option (Int32)
  | 0, _, _, _ => none
  | n + 1, x2, x3, x4 =>
    kb (f_X12_cells v_d) fun r_4 =>
    if r_4 ≤ x4 then
      kk_L6 x2 x3
    else
      f_X12_bubbleOf_L28 (f_X12_bubbleOf_L16 kk_L6 v_d n) v_d gFuel x2 x3 x4 0

def f_X12_bubbleOf_L6 (v_d : Nat → Int32) : Nat → Int32 → Int32 → Option (Int32)
  | 0, _, _ => none
  | n + 1, x2, x3 =>
    if x2 = x3 then
      some x2
    else
      f_X12_bubbleOf_L16 (f_X12_bubbleOf_L6 v_d n) v_d gFuel x2 x2 0

def f_X12_bubbleOf (a_1 : Int32) (v_d : Nat → Int32) : Option (Int32) :=
  nm (1 <<< (a_1 &&& 31) : Int32) fun t_1 =>
  f_X12_bubbleOf_L6 v_d gFuel t_1 0

abbrev rm_X12_bubbleOf : Room := { frames := 2, cells := 0, slots := 0, locals := 49 }
set_option maxHeartbeats 4000000 in
set_option maxRecDepth 100000 in
theorem c_X12_bubbleOf (l : Launch) (D : va_G) (c : Nat → ClassId) (q_this q_d q_kept q_found q_aside q_names q_seenKept q_movedKept q_traced q_bitsOf q_sizeOf q_number q_lifted : Nat) (a_1 : Int32) (v_images : Int32) (v_base : Int32) (v_at : Int32) (v_size : Int32) (v_fault : Int32) (v_opened : Int32) (v_isSeen : Int32) (v_isKeeping : Int32) (v_bubbleMany : Int32) (v_bubbleMost : Int32) (v_bubbleCell : Int32) (v_bestShown : Int32) (v_traceMany : Int32) (v_who : Int32) (v_d : Nat → Int32) (o_r : Int32) (h : f_X12_bubbleOf a_1 v_d = some o_r) : gMI l yX12_bubbleOf wsX12_bubbleOf rm_X12_bubbleOf D c [.ref q_this, .int a_1] [(q_this, .inr (12, [.ref q_d, .ref q_kept, .int v_images, .ref q_found, .ref q_aside, .int v_base, .int v_at, .int v_size, .int v_fault, .int v_opened, .int v_isSeen, .ref q_names, .ref q_seenKept, .ref q_movedKept, .int v_isKeeping, .int v_bubbleMany, .int v_bubbleMost, .int v_bubbleCell, .int v_bestShown, .ref q_traced, .int v_traceMany, .int v_who, .ref q_bitsOf, .ref q_sizeOf, .ref q_number, .ref q_lifted])), (q_d, .inl (c 0, 244, .inl v_d))] [(q_this, .inr (12, [.ref q_d, .ref q_kept, .int v_images, .ref q_found, .ref q_aside, .int v_base, .int v_at, .int v_size, .int v_fault, .int v_opened, .int v_isSeen, .ref q_names, .ref q_seenKept, .ref q_movedKept, .int v_isKeeping, .int v_bubbleMany, .int v_bubbleMost, .int v_bubbleCell, .int v_bestShown, .ref q_traced, .int v_traceMany, .int v_who, .ref q_bitsOf, .ref q_sizeOf, .ref q_number, .ref q_lifted])), (q_d, .inl (c 0, 244, .inl v_d))] o_r := by
  refine gMI_of (cc := cX12_bubbleOf) (maxL := 7) (rt := (some .int)) (by decide +kernel) rfl (Nat.le_of_ble_eq_true rfl) ?_
  intro p e s m below meth co A hF hK hX hP hD hA hS ls hl
  obtain ⟨hx, hb, hr, hts, hown, hlocks, hml⟩ := id hF
  have hl : lv_has ls 7 [(0, .ref q_this), (1, .int a_1)] := hl
  have t_L77 : ∀ (kk_L28 : Int32 → Int32 → Int32 → Int32 → Option (Int32)), (∀ (x2 : Int32) (x3 : Int32) (x4 : Int32) (x5 : Int32) (H : Heap) (locs : List Loc), va_P D gcl [(q_this, .inr (12, [.ref q_d, .ref q_kept, .int v_images, .ref q_found, .ref q_aside, .int v_base, .int v_at, .int v_size, .int v_fault, .int v_opened, .int v_isSeen, .ref q_names, .ref q_seenKept, .ref q_movedKept, .int v_isKeeping, .int v_bubbleMany, .int v_bubbleMost, .int v_bubbleCell, .int v_bestShown, .ref q_traced, .int v_traceMany, .int v_who, .ref q_bitsOf, .ref q_sizeOf, .ref q_number, .ref q_lifted])), (q_d, .inl (c 0, 244, .inl v_d))] H → va_D A [(q_this, .inr (12, [.ref q_d, .ref q_kept, .int v_images, .ref q_found, .ref q_aside, .int v_base, .int v_at, .int v_size, .int v_fault, .int v_opened, .int v_isSeen, .ref q_names, .ref q_seenKept, .ref q_movedKept, .int v_isKeeping, .int v_bubbleMany, .int v_bubbleMost, .int v_bubbleCell, .int v_bestShown, .ref q_traced, .int v_traceMany, .int v_who, .ref q_bitsOf, .ref q_sizeOf, .ref q_number, .ref q_lifted])), (q_d, .inl (c 0, 244, .inl v_d))] → va_S A s.heap H locs → ∀ ls, lv_has ls 7 [(0, .ref q_this), (2, .int x2), (3, .int x3), (4, .int x4), (5, .int x5)] → kk_L28 x2 x3 x4 x5 = some o_r → W p l e (headSpec wsX12_bubbleOf rm_X12_bubbleOf).room s m [.ref q_this, .int a_1].toArray below meth co H locs 0 0 (gQI D [(q_this, .inr (12, [.ref q_d, .ref q_kept, .int v_images, .ref q_found, .ref q_aside, .int v_base, .int v_at, .int v_size, .int v_fault, .int v_opened, .int v_isSeen, .ref q_names, .ref q_seenKept, .ref q_movedKept, .int v_isKeeping, .int v_bubbleMany, .int v_bubbleMost, .int v_bubbleCell, .int v_bestShown, .ref q_traced, .int v_traceMany, .int v_who, .ref q_bitsOf, .ref q_sizeOf, .ref q_number, .ref q_lifted])), (q_d, .inl (c 0, 244, .inl v_d))] o_r A below [.ref q_this, .int a_1] s) (F0 m 28 ls [])) → ∀ (x3 : Int32) (x4 : Int32) (x5 : Int32) (x6 : Int32) (y0 : Int32) (y2 : Int32) (y3 : Int32) (H : Heap) (locs : List Loc), va_P D gcl [(q_this, .inr (12, [.ref q_d, .ref q_kept, .int v_images, .ref q_found, .ref q_aside, .int v_base, .int v_at, .int v_size, .int v_fault, .int v_opened, .int v_isSeen, .ref q_names, .ref q_seenKept, .ref q_movedKept, .int v_isKeeping, .int v_bubbleMany, .int v_bubbleMost, .int v_bubbleCell, .int v_bestShown, .ref q_traced, .int v_traceMany, .int v_who, .ref q_bitsOf, .ref q_sizeOf, .ref q_number, .ref q_lifted])), (q_d, .inl (c 0, 244, .inl v_d))] H → va_D A [(q_this, .inr (12, [.ref q_d, .ref q_kept, .int v_images, .ref q_found, .ref q_aside, .int v_base, .int v_at, .int v_size, .int v_fault, .int v_opened, .int v_isSeen, .ref q_names, .ref q_seenKept, .ref q_movedKept, .int v_isKeeping, .int v_bubbleMany, .int v_bubbleMost, .int v_bubbleCell, .int v_bestShown, .ref q_traced, .int v_traceMany, .int v_who, .ref q_bitsOf, .ref q_sizeOf, .ref q_number, .ref q_lifted])), (q_d, .inl (c 0, 244, .inl v_d))] → va_S A s.heap H locs → ∀ ls, lv_has ls 7 [(0, .ref q_this), (3, .int x3), (4, .int x4), (5, .int x5), (6, .int x6)] → f_X12_bubbleOf_L77 kk_L28 v_d x3 x4 x5 x6 y0 y2 y3 = some o_r → W p l e (headSpec wsX12_bubbleOf rm_X12_bubbleOf).room s m [.ref q_this, .int a_1].toArray below meth co H locs 0 0 (gQI D [(q_this, .inr (12, [.ref q_d, .ref q_kept, .int v_images, .ref q_found, .ref q_aside, .int v_base, .int v_at, .int v_size, .int v_fault, .int v_opened, .int v_isSeen, .ref q_names, .ref q_seenKept, .ref q_movedKept, .int v_isKeeping, .int v_bubbleMany, .int v_bubbleMost, .int v_bubbleCell, .int v_bestShown, .ref q_traced, .int v_traceMany, .int v_who, .ref q_bitsOf, .ref q_sizeOf, .ref q_number, .ref q_lifted])), (q_d, .inl (c 0, 244, .inl v_d))] o_r A below [.ref q_this, .int a_1] s) (F0 m 77 ls [.int y3, .int y2, .ref q_d, .int y0]) := by
    intro kk_L28 hkk_L28 x3 x4 x5 x6 y0 y2 y3 H locs hP hD hS ls hl h
    unfold f_X12_bubbleOf_L77 at h
    refine lv_iadd hx hb dX12_bubbleOf_77 ?_
    replace h := nm_ok h
    obtain ⟨t_18, et_18, h⟩ := h
    refine gTop et_18 ?_
    replace h := chi_ok h
    obtain ⟨hi_19, h⟩ := h
    refine va_iald hx hb hK.1 hP 1 0 rfl rfl hi_19 dX12_bubbleOf_78 ?_
    refine lv_if_le (tgt := 89) hx hb dX12_bubbleOf_79 (by decide) (fun c_20 => ?_) (fun c_20 => ?_)
    · replace h := it_t c_20 h
      refine lv_iconst (v := 0) hx hb dX12_bubbleOf_89 (by decide) ?_
      refine lv_ior hx hb dX12_bubbleOf_90 ?_
      replace h := nm_ok h
      obtain ⟨t_21, et_21, h⟩ := h
      refine gTop et_21 ?_
      refine lv_istore_n (lv' := [(2, .int t_21), (0, .ref q_this), (3, .int x3), (4, .int x4), (5, .int x5), (6, .int x6)]) hx hb dX12_bubbleOf_91 rfl hl (by decide) rfl (fun ls hl => ?_)
      replace h := nm_ok h
      obtain ⟨t_22, et_22, h⟩ := h
      refine lv_iinc (v := t_22) (lv' := [(5, .int t_22), (2, .int t_21), (0, .ref q_this), (3, .int x3), (4, .int x4), (6, .int x6)]) hx hb dX12_bubbleOf_92 hl (k := 4) rfl (by rw [et_22]; rfl) (by decide) rfl (fun ls hl => ?_)
      refine lv_goto (tgt := 28) hx hb dX12_bubbleOf_95 (by decide) ?_
      exact hkk_L28 t_21 x3 x4 t_22 H locs hP hD hS ls (lv_sub hl [2, 1, 3, 4, 0] rfl) h
    · replace h := it_f c_20 h
      refine lv_iconst (v := 1) hx hb dX12_bubbleOf_82 (by decide) ?_
      refine lv_iload hx hb dX12_bubbleOf_83 (lv_at hl 4 rfl) ?_
      refine lv_ishl hx hb dX12_bubbleOf_85 ?_
      replace h := nm_ok h
      obtain ⟨t_23, et_23, h⟩ := h
      refine gTop et_23 ?_
      refine lv_goto (tgt := 90) hx hb dX12_bubbleOf_86 (by decide) ?_
      refine lv_ior hx hb dX12_bubbleOf_90 ?_
      replace h := nm_ok h
      obtain ⟨t_24, et_24, h⟩ := h
      refine gTop et_24 ?_
      refine lv_istore_n (lv' := [(2, .int t_24), (0, .ref q_this), (3, .int x3), (4, .int x4), (5, .int x5), (6, .int x6)]) hx hb dX12_bubbleOf_91 rfl hl (by decide) rfl (fun ls hl => ?_)
      replace h := nm_ok h
      obtain ⟨t_25, et_25, h⟩ := h
      refine lv_iinc (v := t_25) (lv' := [(5, .int t_25), (2, .int t_24), (0, .ref q_this), (3, .int x3), (4, .int x4), (6, .int x6)]) hx hb dX12_bubbleOf_92 hl (k := 4) rfl (by rw [et_25]; rfl) (by decide) rfl (fun ls hl => ?_)
      refine lv_goto (tgt := 28) hx hb dX12_bubbleOf_95 (by decide) ?_
      exact hkk_L28 t_24 x3 x4 t_25 H locs hP hD hS ls (lv_sub hl [2, 1, 3, 4, 0] rfl) h
  have t_L28 : ∀ (kk_L16 : Int32 → Int32 → Int32 → Option (Int32)), (∀ (x2 : Int32) (x3 : Int32) (x4 : Int32) (H : Heap) (locs : List Loc), va_P D gcl [(q_this, .inr (12, [.ref q_d, .ref q_kept, .int v_images, .ref q_found, .ref q_aside, .int v_base, .int v_at, .int v_size, .int v_fault, .int v_opened, .int v_isSeen, .ref q_names, .ref q_seenKept, .ref q_movedKept, .int v_isKeeping, .int v_bubbleMany, .int v_bubbleMost, .int v_bubbleCell, .int v_bestShown, .ref q_traced, .int v_traceMany, .int v_who, .ref q_bitsOf, .ref q_sizeOf, .ref q_number, .ref q_lifted])), (q_d, .inl (c 0, 244, .inl v_d))] H → va_D A [(q_this, .inr (12, [.ref q_d, .ref q_kept, .int v_images, .ref q_found, .ref q_aside, .int v_base, .int v_at, .int v_size, .int v_fault, .int v_opened, .int v_isSeen, .ref q_names, .ref q_seenKept, .ref q_movedKept, .int v_isKeeping, .int v_bubbleMany, .int v_bubbleMost, .int v_bubbleCell, .int v_bestShown, .ref q_traced, .int v_traceMany, .int v_who, .ref q_bitsOf, .ref q_sizeOf, .ref q_number, .ref q_lifted])), (q_d, .inl (c 0, 244, .inl v_d))] → va_S A s.heap H locs → ∀ ls, lv_has ls 7 [(0, .ref q_this), (2, .int x2), (3, .int x3), (4, .int x4)] → kk_L16 x2 x3 x4 = some o_r → W p l e (headSpec wsX12_bubbleOf rm_X12_bubbleOf).room s m [.ref q_this, .int a_1].toArray below meth co H locs 0 0 (gQI D [(q_this, .inr (12, [.ref q_d, .ref q_kept, .int v_images, .ref q_found, .ref q_aside, .int v_base, .int v_at, .int v_size, .int v_fault, .int v_opened, .int v_isSeen, .ref q_names, .ref q_seenKept, .ref q_movedKept, .int v_isKeeping, .int v_bubbleMany, .int v_bubbleMost, .int v_bubbleCell, .int v_bestShown, .ref q_traced, .int v_traceMany, .int v_who, .ref q_bitsOf, .ref q_sizeOf, .ref q_number, .ref q_lifted])), (q_d, .inl (c 0, 244, .inl v_d))] o_r A below [.ref q_this, .int a_1] s) (F0 m 16 ls [])) → ∀ (n : Nat), ∀ (x2 : Int32) (x3 : Int32) (x4 : Int32) (x5 : Int32) (H : Heap) (locs : List Loc), va_P D gcl [(q_this, .inr (12, [.ref q_d, .ref q_kept, .int v_images, .ref q_found, .ref q_aside, .int v_base, .int v_at, .int v_size, .int v_fault, .int v_opened, .int v_isSeen, .ref q_names, .ref q_seenKept, .ref q_movedKept, .int v_isKeeping, .int v_bubbleMany, .int v_bubbleMost, .int v_bubbleCell, .int v_bestShown, .ref q_traced, .int v_traceMany, .int v_who, .ref q_bitsOf, .ref q_sizeOf, .ref q_number, .ref q_lifted])), (q_d, .inl (c 0, 244, .inl v_d))] H → va_D A [(q_this, .inr (12, [.ref q_d, .ref q_kept, .int v_images, .ref q_found, .ref q_aside, .int v_base, .int v_at, .int v_size, .int v_fault, .int v_opened, .int v_isSeen, .ref q_names, .ref q_seenKept, .ref q_movedKept, .int v_isKeeping, .int v_bubbleMany, .int v_bubbleMost, .int v_bubbleCell, .int v_bestShown, .ref q_traced, .int v_traceMany, .int v_who, .ref q_bitsOf, .ref q_sizeOf, .ref q_number, .ref q_lifted])), (q_d, .inl (c 0, 244, .inl v_d))] → va_S A s.heap H locs → ∀ ls, lv_has ls 7 [(0, .ref q_this), (2, .int x2), (3, .int x3), (4, .int x4), (5, .int x5)] → f_X12_bubbleOf_L28 kk_L16 v_d n x2 x3 x4 x5 = some o_r → W p l e (headSpec wsX12_bubbleOf rm_X12_bubbleOf).room s m [.ref q_this, .int a_1].toArray below meth co H locs 0 0 (gQI D [(q_this, .inr (12, [.ref q_d, .ref q_kept, .int v_images, .ref q_found, .ref q_aside, .int v_base, .int v_at, .int v_size, .int v_fault, .int v_opened, .int v_isSeen, .ref q_names, .ref q_seenKept, .ref q_movedKept, .int v_isKeeping, .int v_bubbleMany, .int v_bubbleMost, .int v_bubbleCell, .int v_bestShown, .ref q_traced, .int v_traceMany, .int v_who, .ref q_bitsOf, .ref q_sizeOf, .ref q_number, .ref q_lifted])), (q_d, .inl (c 0, 244, .inl v_d))] o_r A below [.ref q_this, .int a_1] s) (F0 m 28 ls []) := by
    intro kk_L16 hkk_L16
    intro n
    induction n with
    | zero => intro x2 x3 x4 x5 H locs hP hD hS ls hl h; exact no_ok h
    | succ n ih =>
      intro x2 x3 x4 x5 H locs hP hD hS ls hl h
      rw [f_X12_bubbleOf_L28] at h
      refine lv_iload hx hb dX12_bubbleOf_28 (lv_at hl 4 rfl) ?_
      refine lv_iconst (v := 4) hx hb dX12_bubbleOf_30 (by decide) ?_
      refine lv_icmp_ge (tgt := 98) hx hb dX12_bubbleOf_31 (by decide) (fun c_6 => ?_) (fun c_6 => ?_)
      · replace h := it_t c_6 h
        replace h := nm_ok h
        obtain ⟨t_7, et_7, h⟩ := h
        refine lv_iinc (v := t_7) (lv' := [(4, .int t_7), (0, .ref q_this), (2, .int x2), (3, .int x3), (5, .int x5)]) hx hb dX12_bubbleOf_98 hl (k := 3) rfl (by rw [et_7]; rfl) (by decide) rfl (fun ls hl => ?_)
        refine lv_goto (tgt := 16) hx hb dX12_bubbleOf_101 (by decide) ?_
        exact hkk_L16 x2 x3 t_7 H locs hP hD hS ls (lv_sub hl [1, 2, 3, 0] rfl) h
      · replace h := it_f c_6 h
        refine lv_iload_n hx hb dX12_bubbleOf_34 rfl (lv_at hl 2 rfl) ?_
        refine lv_iload hx hb dX12_bubbleOf_35 (lv_at hl 3 rfl) ?_
        refine lv_ishr hx hb dX12_bubbleOf_37 ?_
        replace h := nm_ok h
        obtain ⟨t_8, et_8, h⟩ := h
        refine gTop et_8 ?_
        refine lv_iconst (v := 1) hx hb dX12_bubbleOf_38 (by decide) ?_
        refine lv_iand hx hb dX12_bubbleOf_39 ?_
        replace h := nm_ok h
        obtain ⟨t_9, et_9, h⟩ := h
        refine gTop et_9 ?_
        refine lv_iconst (v := 1) hx hb dX12_bubbleOf_40 (by decide) ?_
        refine lv_icmp_ne (tgt := 98) hx hb dX12_bubbleOf_41 (by decide) (fun c_10 => ?_) (fun c_10 => ?_)
        · replace h := it_f c_10 h
          replace h := nm_ok h
          obtain ⟨t_11, et_11, h⟩ := h
          refine lv_iinc (v := t_11) (lv' := [(4, .int t_11), (0, .ref q_this), (2, .int x2), (3, .int x3), (5, .int x5)]) hx hb dX12_bubbleOf_98 hl (k := 3) rfl (by rw [et_11]; rfl) (by decide) rfl (fun ls hl => ?_)
          refine lv_goto (tgt := 16) hx hb dX12_bubbleOf_101 (by decide) ?_
          exact hkk_L16 x2 x3 t_11 H locs hP hD hS ls (lv_sub hl [1, 2, 3, 0] rfl) h
        · replace h := it_t c_10 h
          refine lv_aload_n hx hb dX12_bubbleOf_44 rfl (lv_at hl 0 rfl) ?_
          refine lv_iload hx hb dX12_bubbleOf_45 (lv_at hl 3 rfl) ?_
          refine lv_iload hx hb dX12_bubbleOf_47 (lv_at hl 4 rfl) ?_
          replace h := kb_ok h
          obtain ⟨r_13, hc_12, h⟩ := h
          refine gCallIr (isC := [0, 1]) (wc := [(q_this, .inr (12, [.ref q_d, .ref q_kept, .int v_images, .ref q_found, .ref q_aside, .int v_base, .int v_at, .int v_size, .int v_fault, .int v_opened, .int v_isSeen, .ref q_names, .ref q_seenKept, .ref q_movedKept, .int v_isKeeping, .int v_bubbleMany, .int v_bubbleMost, .int v_bubbleCell, .int v_bestShown, .ref q_traced, .int v_traceMany, .int v_who, .ref q_bitsOf, .ref q_sizeOf, .ref q_number, .ref q_lifted])), (q_d, .inl (c 0, 244, .inl v_d))]) hP hD hS hA ⟨rfl, rfl, trivial⟩ (va_runV (rm := rm_X12_nextTo) (ws := wsX12_nextTo) (As := [.int x4, .int x5]) (rest := []) (gFix hF) (c_X12_nextTo l D c q_this q_d q_kept q_found q_aside q_names q_seenKept q_movedKept q_traced q_bitsOf q_sizeOf q_number q_lifted x4 x5 v_images v_base v_at v_size v_fault v_opened v_isSeen v_isKeeping v_bubbleMany v_bubbleMost v_bubbleCell v_bestShown v_traceMany v_who v_d r_13 hc_12 H.size) (cwV 2 hts gX12_bubbleOf_X12_nextTo rfl rfl rfl (by decide +kernel) ⟨Nat.le_of_ble_eq_true rfl, Nat.le_of_ble_eq_true rfl⟩) (gPreV (wc := [(q_this, .inr (12, [.ref q_d, .ref q_kept, .int v_images, .ref q_found, .ref q_aside, .int v_base, .int v_at, .int v_size, .int v_fault, .int v_opened, .int v_isSeen, .ref q_names, .ref q_seenKept, .ref q_movedKept, .int v_isKeeping, .int v_bubbleMany, .int v_bubbleMost, .int v_bubbleCell, .int v_bestShown, .ref q_traced, .int v_traceMany, .int v_who, .ref q_bitsOf, .ref q_sizeOf, .ref q_number, .ref q_lifted])), (q_d, .inl (c 0, 244, .inl v_d))]) (q := (RX12, TX12, 26)) (ci := 12) (q0 := 0) (isC := [0, 1]) hK hX hS hA hP hD ⟨rfl, rfl, trivial⟩ (by decide +kernel) rfl rfl) rfl rfl hl.1 rfl (lv_room (Nat.le_of_ble_eq_true rfl)) dX12_bubbleOf_49 ⟨Nat.le_of_ble_eq_true rfl, Nat.le_of_ble_eq_true rfl⟩) (fun H locs hP hS => ?_)
          refine lv_istore (lv' := [(6, .int r_13), (0, .ref q_this), (2, .int x2), (3, .int x3), (4, .int x4), (5, .int x5)]) hx hb dX12_bubbleOf_52 hl (by decide) rfl (fun ls hl => ?_)
          refine lv_iload_n hx hb dX12_bubbleOf_54 rfl (lv_at hl 2 rfl) ?_
          refine lv_iload hx hb dX12_bubbleOf_55 (lv_at hl 0 rfl) ?_
          refine lv_if_lt (tgt := 89) hx hb dX12_bubbleOf_57 (by decide) (fun c_14 => ?_) (fun c_14 => ?_)
          · replace h := it_t c_14 h
            refine lv_iconst (v := 0) hx hb dX12_bubbleOf_89 (by decide) ?_
            refine lv_ior hx hb dX12_bubbleOf_90 ?_
            replace h := nm_ok h
            obtain ⟨t_15, et_15, h⟩ := h
            refine gTop et_15 ?_
            refine lv_istore_n (lv' := [(2, .int t_15), (6, .int r_13), (0, .ref q_this), (3, .int x3), (4, .int x4), (5, .int x5)]) hx hb dX12_bubbleOf_91 rfl hl (by decide) rfl (fun ls hl => ?_)
            replace h := nm_ok h
            obtain ⟨t_16, et_16, h⟩ := h
            refine lv_iinc (v := t_16) (lv' := [(5, .int t_16), (2, .int t_15), (6, .int r_13), (0, .ref q_this), (3, .int x3), (4, .int x4)]) hx hb dX12_bubbleOf_92 hl (k := 5) rfl (by rw [et_16]; rfl) (by decide) rfl (fun ls hl => ?_)
            refine lv_goto (tgt := 28) hx hb dX12_bubbleOf_95 (by decide) ?_
            exact ih t_15 x3 x4 t_16 H locs hP hD hS ls (lv_sub hl [3, 1, 4, 5, 0] rfl) h
          · replace h := it_f c_14 h
            refine lv_aload_n hx hb dX12_bubbleOf_60 rfl (lv_at hl 1 rfl) ?_
            refine va_get (D := D) (ci := 12) (v := .ref q_d) (C := RX12) (T := TX12) (N := 26) hx hb hts in_X12_bubbleOf_X12 hown hK.1 hP 0 rfl rfl 0 (by decide) (hts (.fieldLink RX12 7 "PaperBubblesModel" "d" "[I") (List.mem_of_getElem? (i := 1) rfl)) (fun _ h9 => h9) rfl dX12_bubbleOf_61 ?_
            refine lv_bipush (v := 10) hx hb dX12_bubbleOf_64 (by decide) ?_
            refine lv_iload hx hb dX12_bubbleOf_66 (lv_at hl 0 rfl) ?_
            refine lv_if_ge (tgt := 75) hx hb dX12_bubbleOf_68 (by decide) (fun c_17 => ?_) (fun c_17 => ?_)
            · replace h := it_t c_17 h
              refine lv_iload hx hb dX12_bubbleOf_75 (lv_at hl 0 rfl) ?_
              exact t_L77 _ ih x3 x4 x5 r_13 x2 10 r_13 H locs hP hD hS ls (lv_sub hl [1, 3, 4, 5, 0] rfl) h
            · replace h := it_f c_17 h
              refine lv_iconst (v := 0) hx hb dX12_bubbleOf_71 (by decide) ?_
              refine lv_goto (tgt := 77) hx hb dX12_bubbleOf_72 (by decide) ?_
              exact t_L77 _ ih x3 x4 x5 r_13 x2 10 0 H locs hP hD hS ls (lv_sub hl [1, 3, 4, 5, 0] rfl) h
  have t_L16 : ∀ (kk_L6 : Int32 → Int32 → Option (Int32)), (∀ (x2 : Int32) (x3 : Int32) (H : Heap) (locs : List Loc), va_P D gcl [(q_this, .inr (12, [.ref q_d, .ref q_kept, .int v_images, .ref q_found, .ref q_aside, .int v_base, .int v_at, .int v_size, .int v_fault, .int v_opened, .int v_isSeen, .ref q_names, .ref q_seenKept, .ref q_movedKept, .int v_isKeeping, .int v_bubbleMany, .int v_bubbleMost, .int v_bubbleCell, .int v_bestShown, .ref q_traced, .int v_traceMany, .int v_who, .ref q_bitsOf, .ref q_sizeOf, .ref q_number, .ref q_lifted])), (q_d, .inl (c 0, 244, .inl v_d))] H → va_D A [(q_this, .inr (12, [.ref q_d, .ref q_kept, .int v_images, .ref q_found, .ref q_aside, .int v_base, .int v_at, .int v_size, .int v_fault, .int v_opened, .int v_isSeen, .ref q_names, .ref q_seenKept, .ref q_movedKept, .int v_isKeeping, .int v_bubbleMany, .int v_bubbleMost, .int v_bubbleCell, .int v_bestShown, .ref q_traced, .int v_traceMany, .int v_who, .ref q_bitsOf, .ref q_sizeOf, .ref q_number, .ref q_lifted])), (q_d, .inl (c 0, 244, .inl v_d))] → va_S A s.heap H locs → ∀ ls, lv_has ls 7 [(0, .ref q_this), (2, .int x2), (3, .int x3)] → kk_L6 x2 x3 = some o_r → W p l e (headSpec wsX12_bubbleOf rm_X12_bubbleOf).room s m [.ref q_this, .int a_1].toArray below meth co H locs 0 0 (gQI D [(q_this, .inr (12, [.ref q_d, .ref q_kept, .int v_images, .ref q_found, .ref q_aside, .int v_base, .int v_at, .int v_size, .int v_fault, .int v_opened, .int v_isSeen, .ref q_names, .ref q_seenKept, .ref q_movedKept, .int v_isKeeping, .int v_bubbleMany, .int v_bubbleMost, .int v_bubbleCell, .int v_bestShown, .ref q_traced, .int v_traceMany, .int v_who, .ref q_bitsOf, .ref q_sizeOf, .ref q_number, .ref q_lifted])), (q_d, .inl (c 0, 244, .inl v_d))] o_r A below [.ref q_this, .int a_1] s) (F0 m 6 ls [])) → ∀ (n : Nat), ∀ (x2 : Int32) (x3 : Int32) (x4 : Int32) (H : Heap) (locs : List Loc), va_P D gcl [(q_this, .inr (12, [.ref q_d, .ref q_kept, .int v_images, .ref q_found, .ref q_aside, .int v_base, .int v_at, .int v_size, .int v_fault, .int v_opened, .int v_isSeen, .ref q_names, .ref q_seenKept, .ref q_movedKept, .int v_isKeeping, .int v_bubbleMany, .int v_bubbleMost, .int v_bubbleCell, .int v_bestShown, .ref q_traced, .int v_traceMany, .int v_who, .ref q_bitsOf, .ref q_sizeOf, .ref q_number, .ref q_lifted])), (q_d, .inl (c 0, 244, .inl v_d))] H → va_D A [(q_this, .inr (12, [.ref q_d, .ref q_kept, .int v_images, .ref q_found, .ref q_aside, .int v_base, .int v_at, .int v_size, .int v_fault, .int v_opened, .int v_isSeen, .ref q_names, .ref q_seenKept, .ref q_movedKept, .int v_isKeeping, .int v_bubbleMany, .int v_bubbleMost, .int v_bubbleCell, .int v_bestShown, .ref q_traced, .int v_traceMany, .int v_who, .ref q_bitsOf, .ref q_sizeOf, .ref q_number, .ref q_lifted])), (q_d, .inl (c 0, 244, .inl v_d))] → va_S A s.heap H locs → ∀ ls, lv_has ls 7 [(0, .ref q_this), (2, .int x2), (3, .int x3), (4, .int x4)] → f_X12_bubbleOf_L16 kk_L6 v_d n x2 x3 x4 = some o_r → W p l e (headSpec wsX12_bubbleOf rm_X12_bubbleOf).room s m [.ref q_this, .int a_1].toArray below meth co H locs 0 0 (gQI D [(q_this, .inr (12, [.ref q_d, .ref q_kept, .int v_images, .ref q_found, .ref q_aside, .int v_base, .int v_at, .int v_size, .int v_fault, .int v_opened, .int v_isSeen, .ref q_names, .ref q_seenKept, .ref q_movedKept, .int v_isKeeping, .int v_bubbleMany, .int v_bubbleMost, .int v_bubbleCell, .int v_bestShown, .ref q_traced, .int v_traceMany, .int v_who, .ref q_bitsOf, .ref q_sizeOf, .ref q_number, .ref q_lifted])), (q_d, .inl (c 0, 244, .inl v_d))] o_r A below [.ref q_this, .int a_1] s) (F0 m 16 ls []) := by
    intro kk_L6 hkk_L6
    intro n
    induction n with
    | zero => intro x2 x3 x4 H locs hP hD hS ls hl h; exact no_ok h
    | succ n ih =>
      intro x2 x3 x4 H locs hP hD hS ls hl h
      rw [f_X12_bubbleOf_L16] at h
      refine lv_iload hx hb dX12_bubbleOf_16 (lv_at hl 3 rfl) ?_
      refine lv_aload_n hx hb dX12_bubbleOf_18 rfl (lv_at hl 0 rfl) ?_
      replace h := kb_ok h
      obtain ⟨r_4, hc_3, h⟩ := h
      refine gCallIr (isC := [0, 1]) (wc := [(q_this, .inr (12, [.ref q_d, .ref q_kept, .int v_images, .ref q_found, .ref q_aside, .int v_base, .int v_at, .int v_size, .int v_fault, .int v_opened, .int v_isSeen, .ref q_names, .ref q_seenKept, .ref q_movedKept, .int v_isKeeping, .int v_bubbleMany, .int v_bubbleMost, .int v_bubbleCell, .int v_bestShown, .ref q_traced, .int v_traceMany, .int v_who, .ref q_bitsOf, .ref q_sizeOf, .ref q_number, .ref q_lifted])), (q_d, .inl (c 0, 244, .inl v_d))]) hP hD hS hA ⟨rfl, rfl, trivial⟩ (va_runV (rm := rm_X12_cells) (ws := wsX12_cells) (As := []) (rest := [.int x4]) (gFix hF) (c_X12_cells l D c q_this q_d q_kept q_found q_aside q_names q_seenKept q_movedKept q_traced q_bitsOf q_sizeOf q_number q_lifted v_images v_base v_at v_size v_fault v_opened v_isSeen v_isKeeping v_bubbleMany v_bubbleMost v_bubbleCell v_bestShown v_traceMany v_who v_d r_4 hc_3 H.size) (cwV 0 hts gX12_bubbleOf_X12_cells rfl rfl rfl (by decide +kernel) ⟨Nat.le_of_ble_eq_true rfl, Nat.le_of_ble_eq_true rfl⟩) (gPreV (wc := [(q_this, .inr (12, [.ref q_d, .ref q_kept, .int v_images, .ref q_found, .ref q_aside, .int v_base, .int v_at, .int v_size, .int v_fault, .int v_opened, .int v_isSeen, .ref q_names, .ref q_seenKept, .ref q_movedKept, .int v_isKeeping, .int v_bubbleMany, .int v_bubbleMost, .int v_bubbleCell, .int v_bestShown, .ref q_traced, .int v_traceMany, .int v_who, .ref q_bitsOf, .ref q_sizeOf, .ref q_number, .ref q_lifted])), (q_d, .inl (c 0, 244, .inl v_d))]) (q := (RX12, TX12, 26)) (ci := 12) (q0 := 0) (isC := [0, 1]) hK hX hS hA hP hD ⟨rfl, rfl, trivial⟩ (by decide +kernel) rfl rfl) rfl rfl hl.1 rfl (lv_room (Nat.le_of_ble_eq_true rfl)) dX12_bubbleOf_19 ⟨Nat.le_of_ble_eq_true rfl, Nat.le_of_ble_eq_true rfl⟩) (fun H locs hP hS => ?_)
      refine lv_icmp_ge (tgt := 104) hx hb dX12_bubbleOf_22 (by decide) (fun c_5 => ?_) (fun c_5 => ?_)
      · replace h := it_t c_5 h
        refine lv_goto (tgt := 6) hx hb dX12_bubbleOf_104 (by decide) ?_
        exact hkk_L6 x2 x3 H locs hP hD hS ls (lv_sub hl [0, 1, 2] rfl) h
      · replace h := it_f c_5 h
        refine lv_iconst (v := 0) hx hb dX12_bubbleOf_25 (by decide) ?_
        refine lv_istore (lv' := [(5, .int 0), (0, .ref q_this), (2, .int x2), (3, .int x3), (4, .int x4)]) hx hb dX12_bubbleOf_26 hl (by decide) rfl (fun ls hl => ?_)
        exact t_L28 _ ih gFuel x2 x3 x4 0 H locs hP hD hS ls (lv_sub hl [1, 2, 3, 4, 0] rfl) h
  have t_L6 : ∀ (n : Nat), ∀ (x2 : Int32) (x3 : Int32) (H : Heap) (locs : List Loc), va_P D gcl [(q_this, .inr (12, [.ref q_d, .ref q_kept, .int v_images, .ref q_found, .ref q_aside, .int v_base, .int v_at, .int v_size, .int v_fault, .int v_opened, .int v_isSeen, .ref q_names, .ref q_seenKept, .ref q_movedKept, .int v_isKeeping, .int v_bubbleMany, .int v_bubbleMost, .int v_bubbleCell, .int v_bestShown, .ref q_traced, .int v_traceMany, .int v_who, .ref q_bitsOf, .ref q_sizeOf, .ref q_number, .ref q_lifted])), (q_d, .inl (c 0, 244, .inl v_d))] H → va_D A [(q_this, .inr (12, [.ref q_d, .ref q_kept, .int v_images, .ref q_found, .ref q_aside, .int v_base, .int v_at, .int v_size, .int v_fault, .int v_opened, .int v_isSeen, .ref q_names, .ref q_seenKept, .ref q_movedKept, .int v_isKeeping, .int v_bubbleMany, .int v_bubbleMost, .int v_bubbleCell, .int v_bestShown, .ref q_traced, .int v_traceMany, .int v_who, .ref q_bitsOf, .ref q_sizeOf, .ref q_number, .ref q_lifted])), (q_d, .inl (c 0, 244, .inl v_d))] → va_S A s.heap H locs → ∀ ls, lv_has ls 7 [(0, .ref q_this), (2, .int x2), (3, .int x3)] → f_X12_bubbleOf_L6 v_d n x2 x3 = some o_r → W p l e (headSpec wsX12_bubbleOf rm_X12_bubbleOf).room s m [.ref q_this, .int a_1].toArray below meth co H locs 0 0 (gQI D [(q_this, .inr (12, [.ref q_d, .ref q_kept, .int v_images, .ref q_found, .ref q_aside, .int v_base, .int v_at, .int v_size, .int v_fault, .int v_opened, .int v_isSeen, .ref q_names, .ref q_seenKept, .ref q_movedKept, .int v_isKeeping, .int v_bubbleMany, .int v_bubbleMost, .int v_bubbleCell, .int v_bestShown, .ref q_traced, .int v_traceMany, .int v_who, .ref q_bitsOf, .ref q_sizeOf, .ref q_number, .ref q_lifted])), (q_d, .inl (c 0, 244, .inl v_d))] o_r A below [.ref q_this, .int a_1] s) (F0 m 6 ls []) := by
    intro n
    induction n with
    | zero => intro x2 x3 H locs hP hD hS ls hl h; exact no_ok h
    | succ n ih =>
      intro x2 x3 H locs hP hD hS ls hl h
      rw [f_X12_bubbleOf_L6] at h
      refine lv_iload_n hx hb dX12_bubbleOf_6 rfl (lv_at hl 1 rfl) ?_
      refine lv_iload_n hx hb dX12_bubbleOf_7 rfl (lv_at hl 2 rfl) ?_
      refine lv_icmp_eq (tgt := 107) hx hb dX12_bubbleOf_8 (by decide) (fun c_2 => ?_) (fun c_2 => ?_)
      · replace h := it_t c_2 h
        refine lv_iload_n hx hb dX12_bubbleOf_107 rfl (lv_at hl 1 rfl) ?_
        replace h := so1 h
        subst h
        exact gIret hF hP hD hS rfl dX12_bubbleOf_108
      · replace h := it_f c_2 h
        refine lv_iload_n hx hb dX12_bubbleOf_11 rfl (lv_at hl 1 rfl) ?_
        refine lv_istore_n (lv' := [(3, .int x2), (0, .ref q_this), (2, .int x2)]) hx hb dX12_bubbleOf_12 rfl hl (by decide) rfl (fun ls hl => ?_)
        refine lv_iconst (v := 0) hx hb dX12_bubbleOf_13 (by decide) ?_
        refine lv_istore (lv' := [(4, .int 0), (3, .int x2), (0, .ref q_this), (2, .int x2)]) hx hb dX12_bubbleOf_14 hl (by decide) rfl (fun ls hl => ?_)
        exact t_L16 _ ih gFuel x2 x2 0 H locs hP hD hS ls (lv_sub hl [2, 3, 1, 0] rfl) h
  unfold f_X12_bubbleOf at h
  refine lv_iconst (v := 1) hx hb dX12_bubbleOf_0 (by decide) ?_
  refine lv_iload_n hx hb dX12_bubbleOf_1 rfl (lv_at hl 1 rfl) ?_
  refine lv_ishl hx hb dX12_bubbleOf_2 ?_
  replace h := nm_ok h
  obtain ⟨t_1, et_1, h⟩ := h
  refine gTop et_1 ?_
  refine lv_istore_n (lv' := [(2, .int t_1), (0, .ref q_this), (1, .int a_1)]) hx hb dX12_bubbleOf_3 rfl hl (by decide) rfl (fun ls hl => ?_)
  refine lv_iconst (v := 0) hx hb dX12_bubbleOf_4 (by decide) ?_
  refine lv_istore_n (lv' := [(3, .int 0), (2, .int t_1), (0, .ref q_this), (1, .int a_1)]) hx hb dX12_bubbleOf_5 rfl hl (by decide) rfl (fun ls hl => ?_)
  exact t_L6 gFuel t_1 0 s.heap [] hP hD hS ls (lv_sub hl [2, 1, 0] rfl) h
set_option maxRecDepth 20000 in
theorem in_X12_sizeOf0_X12 : ∀ w ∈ u_ws RX12 TX12 26, w ∈ wsX12_sizeOf0 := by decide +kernel
def f_X12_sizeOf0_L4 (a_1 : Int32) (v_d : Nat → Int32) : Nat → Int32 → Int32 → Option (Int32)
  | 0, _, _ => none
  | n + 1, x2, x3 =>
    kb (f_X12_cells v_d) fun r_2 =>
    if r_2 ≤ x3 then
      some x2
    else
      nm (a_1 >>> (x3 &&& 31) : Int32) fun t_4 =>
      nm (t_4 &&& 1 : Int32) fun t_5 =>
      if t_5 = 1 then
        nm (10 + x3 : Int32) fun t_9 =>
        chi t_9 244 <|
        nm (v_d t_9.toNatClampNeg : Int32) fun t_11 =>
        nm (x2 + t_11 : Int32) fun t_12 =>
        nm (x3 + 1 : Int32) fun t_13 =>
        f_X12_sizeOf0_L4 a_1 v_d n t_12 t_13
      else
        nm (x2 + 0 : Int32) fun t_7 =>
        nm (x3 + 1 : Int32) fun t_8 =>
        f_X12_sizeOf0_L4 a_1 v_d n t_7 t_8

def f_X12_sizeOf0 (a_1 : Int32) (v_d : Nat → Int32) : Option (Int32) :=
  f_X12_sizeOf0_L4 a_1 v_d gFuel 0 0

abbrev rm_X12_sizeOf0 : Room := { frames := 1, cells := 0, slots := 0, locals := 20 }
set_option maxHeartbeats 4000000 in
set_option maxRecDepth 100000 in
theorem c_X12_sizeOf0 (l : Launch) (D : va_G) (c : Nat → ClassId) (q_this q_d q_kept q_found q_aside q_names q_seenKept q_movedKept q_traced q_bitsOf q_sizeOf q_number q_lifted : Nat) (a_1 : Int32) (v_images : Int32) (v_base : Int32) (v_at : Int32) (v_size : Int32) (v_fault : Int32) (v_opened : Int32) (v_isSeen : Int32) (v_isKeeping : Int32) (v_bubbleMany : Int32) (v_bubbleMost : Int32) (v_bubbleCell : Int32) (v_bestShown : Int32) (v_traceMany : Int32) (v_who : Int32) (v_d : Nat → Int32) (o_r : Int32) (h : f_X12_sizeOf0 a_1 v_d = some o_r) : gMI l yX12_sizeOf0 wsX12_sizeOf0 rm_X12_sizeOf0 D c [.ref q_this, .int a_1] [(q_this, .inr (12, [.ref q_d, .ref q_kept, .int v_images, .ref q_found, .ref q_aside, .int v_base, .int v_at, .int v_size, .int v_fault, .int v_opened, .int v_isSeen, .ref q_names, .ref q_seenKept, .ref q_movedKept, .int v_isKeeping, .int v_bubbleMany, .int v_bubbleMost, .int v_bubbleCell, .int v_bestShown, .ref q_traced, .int v_traceMany, .int v_who, .ref q_bitsOf, .ref q_sizeOf, .ref q_number, .ref q_lifted])), (q_d, .inl (c 0, 244, .inl v_d))] [(q_this, .inr (12, [.ref q_d, .ref q_kept, .int v_images, .ref q_found, .ref q_aside, .int v_base, .int v_at, .int v_size, .int v_fault, .int v_opened, .int v_isSeen, .ref q_names, .ref q_seenKept, .ref q_movedKept, .int v_isKeeping, .int v_bubbleMany, .int v_bubbleMost, .int v_bubbleCell, .int v_bestShown, .ref q_traced, .int v_traceMany, .int v_who, .ref q_bitsOf, .ref q_sizeOf, .ref q_number, .ref q_lifted])), (q_d, .inl (c 0, 244, .inl v_d))] o_r := by
  refine gMI_of (cc := cX12_sizeOf0) (maxL := 4) (rt := (some .int)) (by decide +kernel) rfl (Nat.le_of_ble_eq_true rfl) ?_
  intro p e s m below meth co A hF hK hX hP hD hA hS ls hl
  obtain ⟨hx, hb, hr, hts, hown, hlocks, hml⟩ := id hF
  have hl : lv_has ls 4 [(0, .ref q_this), (1, .int a_1)] := hl
  have t_L4 : ∀ (n : Nat), ∀ (x2 : Int32) (x3 : Int32) (H : Heap) (locs : List Loc), va_P D gcl [(q_this, .inr (12, [.ref q_d, .ref q_kept, .int v_images, .ref q_found, .ref q_aside, .int v_base, .int v_at, .int v_size, .int v_fault, .int v_opened, .int v_isSeen, .ref q_names, .ref q_seenKept, .ref q_movedKept, .int v_isKeeping, .int v_bubbleMany, .int v_bubbleMost, .int v_bubbleCell, .int v_bestShown, .ref q_traced, .int v_traceMany, .int v_who, .ref q_bitsOf, .ref q_sizeOf, .ref q_number, .ref q_lifted])), (q_d, .inl (c 0, 244, .inl v_d))] H → va_D A [(q_this, .inr (12, [.ref q_d, .ref q_kept, .int v_images, .ref q_found, .ref q_aside, .int v_base, .int v_at, .int v_size, .int v_fault, .int v_opened, .int v_isSeen, .ref q_names, .ref q_seenKept, .ref q_movedKept, .int v_isKeeping, .int v_bubbleMany, .int v_bubbleMost, .int v_bubbleCell, .int v_bestShown, .ref q_traced, .int v_traceMany, .int v_who, .ref q_bitsOf, .ref q_sizeOf, .ref q_number, .ref q_lifted])), (q_d, .inl (c 0, 244, .inl v_d))] → va_S A s.heap H locs → ∀ ls, lv_has ls 4 [(0, .ref q_this), (1, .int a_1), (2, .int x2), (3, .int x3)] → f_X12_sizeOf0_L4 a_1 v_d n x2 x3 = some o_r → W p l e (headSpec wsX12_sizeOf0 rm_X12_sizeOf0).room s m [.ref q_this, .int a_1].toArray below meth co H locs 0 0 (gQI D [(q_this, .inr (12, [.ref q_d, .ref q_kept, .int v_images, .ref q_found, .ref q_aside, .int v_base, .int v_at, .int v_size, .int v_fault, .int v_opened, .int v_isSeen, .ref q_names, .ref q_seenKept, .ref q_movedKept, .int v_isKeeping, .int v_bubbleMany, .int v_bubbleMost, .int v_bubbleCell, .int v_bestShown, .ref q_traced, .int v_traceMany, .int v_who, .ref q_bitsOf, .ref q_sizeOf, .ref q_number, .ref q_lifted])), (q_d, .inl (c 0, 244, .inl v_d))] o_r A below [.ref q_this, .int a_1] s) (F0 m 4 ls []) := by
    intro n
    induction n with
    | zero => intro x2 x3 H locs hP hD hS ls hl h; exact no_ok h
    | succ n ih =>
      intro x2 x3 H locs hP hD hS ls hl h
      rw [f_X12_sizeOf0_L4] at h
      refine lv_iload_n hx hb dX12_sizeOf0_4 rfl (lv_at hl 3 rfl) ?_
      refine lv_aload_n hx hb dX12_sizeOf0_5 rfl (lv_at hl 0 rfl) ?_
      replace h := kb_ok h
      obtain ⟨r_2, hc_1, h⟩ := h
      refine gCallIr (isC := [0, 1]) (wc := [(q_this, .inr (12, [.ref q_d, .ref q_kept, .int v_images, .ref q_found, .ref q_aside, .int v_base, .int v_at, .int v_size, .int v_fault, .int v_opened, .int v_isSeen, .ref q_names, .ref q_seenKept, .ref q_movedKept, .int v_isKeeping, .int v_bubbleMany, .int v_bubbleMost, .int v_bubbleCell, .int v_bestShown, .ref q_traced, .int v_traceMany, .int v_who, .ref q_bitsOf, .ref q_sizeOf, .ref q_number, .ref q_lifted])), (q_d, .inl (c 0, 244, .inl v_d))]) hP hD hS hA ⟨rfl, rfl, trivial⟩ (va_runV (rm := rm_X12_cells) (ws := wsX12_cells) (As := []) (rest := [.int x3]) (gFix hF) (c_X12_cells l D c q_this q_d q_kept q_found q_aside q_names q_seenKept q_movedKept q_traced q_bitsOf q_sizeOf q_number q_lifted v_images v_base v_at v_size v_fault v_opened v_isSeen v_isKeeping v_bubbleMany v_bubbleMost v_bubbleCell v_bestShown v_traceMany v_who v_d r_2 hc_1 H.size) (cwV 0 hts gX12_sizeOf0_X12_cells rfl rfl rfl (by decide +kernel) ⟨Nat.le_of_ble_eq_true rfl, Nat.le_of_ble_eq_true rfl⟩) (gPreV (wc := [(q_this, .inr (12, [.ref q_d, .ref q_kept, .int v_images, .ref q_found, .ref q_aside, .int v_base, .int v_at, .int v_size, .int v_fault, .int v_opened, .int v_isSeen, .ref q_names, .ref q_seenKept, .ref q_movedKept, .int v_isKeeping, .int v_bubbleMany, .int v_bubbleMost, .int v_bubbleCell, .int v_bestShown, .ref q_traced, .int v_traceMany, .int v_who, .ref q_bitsOf, .ref q_sizeOf, .ref q_number, .ref q_lifted])), (q_d, .inl (c 0, 244, .inl v_d))]) (q := (RX12, TX12, 26)) (ci := 12) (q0 := 0) (isC := [0, 1]) hK hX hS hA hP hD ⟨rfl, rfl, trivial⟩ (by decide +kernel) rfl rfl) rfl rfl hl.1 rfl (lv_room (Nat.le_of_ble_eq_true rfl)) dX12_sizeOf0_6 ⟨Nat.le_of_ble_eq_true rfl, Nat.le_of_ble_eq_true rfl⟩) (fun H locs hP hS => ?_)
      refine lv_icmp_ge (tgt := 43) hx hb dX12_sizeOf0_9 (by decide) (fun c_3 => ?_) (fun c_3 => ?_)
      · replace h := it_t c_3 h
        refine lv_iload_n hx hb dX12_sizeOf0_43 rfl (lv_at hl 2 rfl) ?_
        replace h := so1 h
        subst h
        exact gIret hF hP hD hS rfl dX12_sizeOf0_44
      · replace h := it_f c_3 h
        refine lv_iload_n hx hb dX12_sizeOf0_12 rfl (lv_at hl 2 rfl) ?_
        refine lv_iload_n hx hb dX12_sizeOf0_13 rfl (lv_at hl 1 rfl) ?_
        refine lv_iload_n hx hb dX12_sizeOf0_14 rfl (lv_at hl 3 rfl) ?_
        refine lv_ishr hx hb dX12_sizeOf0_15 ?_
        replace h := nm_ok h
        obtain ⟨t_4, et_4, h⟩ := h
        refine gTop et_4 ?_
        refine lv_iconst (v := 1) hx hb dX12_sizeOf0_16 (by decide) ?_
        refine lv_iand hx hb dX12_sizeOf0_17 ?_
        replace h := nm_ok h
        obtain ⟨t_5, et_5, h⟩ := h
        refine gTop et_5 ?_
        refine lv_iconst (v := 1) hx hb dX12_sizeOf0_18 (by decide) ?_
        refine lv_icmp_ne (tgt := 34) hx hb dX12_sizeOf0_19 (by decide) (fun c_6 => ?_) (fun c_6 => ?_)
        · replace h := it_f c_6 h
          refine lv_iconst (v := 0) hx hb dX12_sizeOf0_34 (by decide) ?_
          refine lv_iadd hx hb dX12_sizeOf0_35 ?_
          replace h := nm_ok h
          obtain ⟨t_7, et_7, h⟩ := h
          refine gTop et_7 ?_
          refine lv_istore_n (lv' := [(2, .int t_7), (0, .ref q_this), (1, .int a_1), (3, .int x3)]) hx hb dX12_sizeOf0_36 rfl hl (by decide) rfl (fun ls hl => ?_)
          replace h := nm_ok h
          obtain ⟨t_8, et_8, h⟩ := h
          refine lv_iinc (v := t_8) (lv' := [(3, .int t_8), (2, .int t_7), (0, .ref q_this), (1, .int a_1)]) hx hb dX12_sizeOf0_37 hl (k := 3) rfl (by rw [et_8]; rfl) (by decide) rfl (fun ls hl => ?_)
          refine lv_goto (tgt := 4) hx hb dX12_sizeOf0_40 (by decide) ?_
          exact ih t_7 t_8 H locs hP hD hS ls (lv_sub hl [2, 3, 1, 0] rfl) h
        · replace h := it_t c_6 h
          refine lv_aload_n hx hb dX12_sizeOf0_22 rfl (lv_at hl 0 rfl) ?_
          refine va_get (D := D) (ci := 12) (v := .ref q_d) (C := RX12) (T := TX12) (N := 26) hx hb hts in_X12_sizeOf0_X12 hown hK.1 hP 0 rfl rfl 0 (by decide) (hts (.fieldLink RX12 7 "PaperBubblesModel" "d" "[I") (List.mem_of_getElem? (i := 1) rfl)) (fun _ h9 => h9) rfl dX12_sizeOf0_23 ?_
          refine lv_bipush (v := 10) hx hb dX12_sizeOf0_26 (by decide) ?_
          refine lv_iload_n hx hb dX12_sizeOf0_28 rfl (lv_at hl 3 rfl) ?_
          refine lv_iadd hx hb dX12_sizeOf0_29 ?_
          replace h := nm_ok h
          obtain ⟨t_9, et_9, h⟩ := h
          refine gTop et_9 ?_
          replace h := chi_ok h
          obtain ⟨hi_10, h⟩ := h
          refine va_iald hx hb hK.1 hP 1 0 rfl rfl hi_10 dX12_sizeOf0_30 ?_
          replace h := nm_ok h
          obtain ⟨t_11, et_11, h⟩ := h
          refine gTop et_11 ?_
          refine lv_goto (tgt := 35) hx hb dX12_sizeOf0_31 (by decide) ?_
          refine lv_iadd hx hb dX12_sizeOf0_35 ?_
          replace h := nm_ok h
          obtain ⟨t_12, et_12, h⟩ := h
          refine gTop et_12 ?_
          refine lv_istore_n (lv' := [(2, .int t_12), (0, .ref q_this), (1, .int a_1), (3, .int x3)]) hx hb dX12_sizeOf0_36 rfl hl (by decide) rfl (fun ls hl => ?_)
          replace h := nm_ok h
          obtain ⟨t_13, et_13, h⟩ := h
          refine lv_iinc (v := t_13) (lv' := [(3, .int t_13), (2, .int t_12), (0, .ref q_this), (1, .int a_1)]) hx hb dX12_sizeOf0_37 hl (k := 3) rfl (by rw [et_13]; rfl) (by decide) rfl (fun ls hl => ?_)
          refine lv_goto (tgt := 4) hx hb dX12_sizeOf0_40 (by decide) ?_
          exact ih t_12 t_13 H locs hP hD hS ls (lv_sub hl [2, 3, 1, 0] rfl) h
  unfold f_X12_sizeOf0 at h
  refine lv_iconst (v := 0) hx hb dX12_sizeOf0_0 (by decide) ?_
  refine lv_istore_n (lv' := [(2, .int 0), (0, .ref q_this), (1, .int a_1)]) hx hb dX12_sizeOf0_1 rfl hl (by decide) rfl (fun ls hl => ?_)
  refine lv_iconst (v := 0) hx hb dX12_sizeOf0_2 (by decide) ?_
  refine lv_istore_n (lv' := [(3, .int 0), (2, .int 0), (0, .ref q_this), (1, .int a_1)]) hx hb dX12_sizeOf0_3 rfl hl (by decide) rfl (fun ls hl => ?_)
  exact t_L4 gFuel 0 0 s.heap [] hP hD hS ls (lv_sub hl [2, 3, 1, 0] rfl) h
set_option maxRecDepth 20000 in
theorem in_X12_findBubbles_X12 : ∀ w ∈ u_ws RX12 TX12 26, w ∈ wsX12_findBubbles := by decide +kernel
def f_X12_findBubbles_L19 (v_d : Nat → Int32) : Nat → Int32 → Int32 → Int32 → Int32 → Int32 → Option (Int32 × Int32 × Int32)
  | 0, _, _, _, _, _ => none
  | n + 1, x1, x2, v_bubbleMany, v_bubbleMost, v_bubbleCell =>
    kb (f_X12_cells v_d) fun r_2 =>
    if r_2 ≤ x2 then
      some (v_bubbleMany, v_bubbleMost, v_bubbleCell)
    else
      nm (10 + x2 : Int32) fun t_4 =>
      chi t_4 244 <|
      if (v_d t_4.toNatClampNeg) = 0 then
        nm (x2 + 1 : Int32) fun t_7 =>
        f_X12_findBubbles_L19 v_d n x1 t_7 v_bubbleMany v_bubbleMost v_bubbleCell
      else
        nm (x1 >>> (x2 &&& 31) : Int32) fun t_8 =>
        nm (t_8 &&& 1 : Int32) fun t_9 =>
        if t_9 = 1 then
          nm (x2 + 1 : Int32) fun t_20 =>
          f_X12_findBubbles_L19 v_d n x1 t_20 v_bubbleMany v_bubbleMost v_bubbleCell
        else
          kb (f_X12_bubbleOf x2 v_d) fun r_12 =>
          kb (f_X12_sizeOf0 r_12 v_d) fun r_14 =>
          nm (x1 ||| r_12 : Int32) fun t_15 =>
          nm (v_bubbleMany + 1 : Int32) fun t_16 =>
          if r_14 ≤ v_bubbleMost then
            nm (x2 + 1 : Int32) fun t_18 =>
            f_X12_findBubbles_L19 v_d n t_15 t_18 t_16 v_bubbleMost v_bubbleCell
          else
            nm (x2 + 1 : Int32) fun t_19 =>
            f_X12_findBubbles_L19 v_d n t_15 t_19 t_16 r_14 x2

def f_X12_findBubbles (v_bubbleMany : Int32) (v_bubbleMost : Int32) (v_bubbleCell : Int32) (v_d : Nat → Int32) : Option (Int32 × Int32 × Int32) :=
  f_X12_findBubbles_L19 v_d gFuel 0 0 0 0 0

abbrev rm_X12_findBubbles : Room := { frames := 3, cells := 0, slots := 0, locals := 75 }
set_option maxHeartbeats 4000000 in
set_option maxRecDepth 100000 in
theorem c_X12_findBubbles (l : Launch) (D : va_G) (c : Nat → ClassId) (q_this q_d q_kept q_found q_aside q_names q_seenKept q_movedKept q_traced q_bitsOf q_sizeOf q_number q_lifted : Nat) (v_images : Int32) (v_base : Int32) (v_at : Int32) (v_size : Int32) (v_fault : Int32) (v_opened : Int32) (v_isSeen : Int32) (v_isKeeping : Int32) (v_bubbleMany : Int32) (v_bubbleMost : Int32) (v_bubbleCell : Int32) (v_bestShown : Int32) (v_traceMany : Int32) (v_who : Int32) (v_d : Nat → Int32) (o_v_bubbleMany : Int32) (o_v_bubbleMost : Int32) (o_v_bubbleCell : Int32) (h : f_X12_findBubbles v_bubbleMany v_bubbleMost v_bubbleCell v_d = some (o_v_bubbleMany, o_v_bubbleMost, o_v_bubbleCell)) : gMV l yX12_findBubbles wsX12_findBubbles rm_X12_findBubbles D c [.ref q_this] [(q_this, .inr (12, [.ref q_d, .ref q_kept, .int v_images, .ref q_found, .ref q_aside, .int v_base, .int v_at, .int v_size, .int v_fault, .int v_opened, .int v_isSeen, .ref q_names, .ref q_seenKept, .ref q_movedKept, .int v_isKeeping, .int v_bubbleMany, .int v_bubbleMost, .int v_bubbleCell, .int v_bestShown, .ref q_traced, .int v_traceMany, .int v_who, .ref q_bitsOf, .ref q_sizeOf, .ref q_number, .ref q_lifted])), (q_d, .inl (c 0, 244, .inl v_d))] [(q_this, .inr (12, [.ref q_d, .ref q_kept, .int v_images, .ref q_found, .ref q_aside, .int v_base, .int v_at, .int v_size, .int v_fault, .int v_opened, .int v_isSeen, .ref q_names, .ref q_seenKept, .ref q_movedKept, .int v_isKeeping, .int o_v_bubbleMany, .int o_v_bubbleMost, .int o_v_bubbleCell, .int v_bestShown, .ref q_traced, .int v_traceMany, .int v_who, .ref q_bitsOf, .ref q_sizeOf, .ref q_number, .ref q_lifted])), (q_d, .inl (c 0, 244, .inl v_d))] := by
  refine gMV_of (cc := cX12_findBubbles) (maxL := 5) (rt := none) (by decide +kernel) rfl (Nat.le_of_ble_eq_true rfl) ?_
  intro p e s m below meth co A hF hK hX hP hD hA hS ls hl
  obtain ⟨hx, hb, hr, hts, hown, hlocks, hml⟩ := id hF
  have hl : lv_has ls 5 [(0, .ref q_this)] := hl
  have t_L19 : ∀ (n : Nat), ∀ (x1 : Int32) (x2 : Int32) (v_bubbleMany : Int32) (v_bubbleMost : Int32) (v_bubbleCell : Int32) (H : Heap) (locs : List Loc), va_P D gcl [(q_this, .inr (12, [.ref q_d, .ref q_kept, .int v_images, .ref q_found, .ref q_aside, .int v_base, .int v_at, .int v_size, .int v_fault, .int v_opened, .int v_isSeen, .ref q_names, .ref q_seenKept, .ref q_movedKept, .int v_isKeeping, .int v_bubbleMany, .int v_bubbleMost, .int v_bubbleCell, .int v_bestShown, .ref q_traced, .int v_traceMany, .int v_who, .ref q_bitsOf, .ref q_sizeOf, .ref q_number, .ref q_lifted])), (q_d, .inl (c 0, 244, .inl v_d))] H → va_D A [(q_this, .inr (12, [.ref q_d, .ref q_kept, .int v_images, .ref q_found, .ref q_aside, .int v_base, .int v_at, .int v_size, .int v_fault, .int v_opened, .int v_isSeen, .ref q_names, .ref q_seenKept, .ref q_movedKept, .int v_isKeeping, .int v_bubbleMany, .int v_bubbleMost, .int v_bubbleCell, .int v_bestShown, .ref q_traced, .int v_traceMany, .int v_who, .ref q_bitsOf, .ref q_sizeOf, .ref q_number, .ref q_lifted])), (q_d, .inl (c 0, 244, .inl v_d))] → va_S A s.heap H locs → ∀ ls, lv_has ls 5 [(0, .ref q_this), (1, .int x1), (2, .int x2)] → f_X12_findBubbles_L19 v_d n x1 x2 v_bubbleMany v_bubbleMost v_bubbleCell = some (o_v_bubbleMany, o_v_bubbleMost, o_v_bubbleCell) → W p l e (headSpec wsX12_findBubbles rm_X12_findBubbles).room s m [.ref q_this].toArray below meth co H locs 0 0 (gQV D [(q_this, .inr (12, [.ref q_d, .ref q_kept, .int v_images, .ref q_found, .ref q_aside, .int v_base, .int v_at, .int v_size, .int v_fault, .int v_opened, .int v_isSeen, .ref q_names, .ref q_seenKept, .ref q_movedKept, .int v_isKeeping, .int o_v_bubbleMany, .int o_v_bubbleMost, .int o_v_bubbleCell, .int v_bestShown, .ref q_traced, .int v_traceMany, .int v_who, .ref q_bitsOf, .ref q_sizeOf, .ref q_number, .ref q_lifted])), (q_d, .inl (c 0, 244, .inl v_d))] A below [.ref q_this] s) (F0 m 19 ls []) := by
    intro n
    induction n with
    | zero => intro x1 x2 v_bubbleMany v_bubbleMost v_bubbleCell H locs hP hD hS ls hl h; exact no_ok h
    | succ n ih =>
      intro x1 x2 v_bubbleMany v_bubbleMost v_bubbleCell H locs hP hD hS ls hl h
      rw [f_X12_findBubbles_L19] at h
      refine lv_iload_n hx hb dX12_findBubbles_19 rfl (lv_at hl 2 rfl) ?_
      refine lv_aload_n hx hb dX12_findBubbles_20 rfl (lv_at hl 0 rfl) ?_
      replace h := kb_ok h
      obtain ⟨r_2, hc_1, h⟩ := h
      refine gCallIr (isC := [0, 1]) (wc := [(q_this, .inr (12, [.ref q_d, .ref q_kept, .int v_images, .ref q_found, .ref q_aside, .int v_base, .int v_at, .int v_size, .int v_fault, .int v_opened, .int v_isSeen, .ref q_names, .ref q_seenKept, .ref q_movedKept, .int v_isKeeping, .int v_bubbleMany, .int v_bubbleMost, .int v_bubbleCell, .int v_bestShown, .ref q_traced, .int v_traceMany, .int v_who, .ref q_bitsOf, .ref q_sizeOf, .ref q_number, .ref q_lifted])), (q_d, .inl (c 0, 244, .inl v_d))]) hP hD hS hA ⟨rfl, rfl, trivial⟩ (va_runV (rm := rm_X12_cells) (ws := wsX12_cells) (As := []) (rest := [.int x2]) (gFix hF) (c_X12_cells l D c q_this q_d q_kept q_found q_aside q_names q_seenKept q_movedKept q_traced q_bitsOf q_sizeOf q_number q_lifted v_images v_base v_at v_size v_fault v_opened v_isSeen v_isKeeping v_bubbleMany v_bubbleMost v_bubbleCell v_bestShown v_traceMany v_who v_d r_2 hc_1 H.size) (cwV 0 hts gX12_findBubbles_X12_cells rfl rfl rfl (by decide +kernel) ⟨Nat.le_of_ble_eq_true rfl, Nat.le_of_ble_eq_true rfl⟩) (gPreV (wc := [(q_this, .inr (12, [.ref q_d, .ref q_kept, .int v_images, .ref q_found, .ref q_aside, .int v_base, .int v_at, .int v_size, .int v_fault, .int v_opened, .int v_isSeen, .ref q_names, .ref q_seenKept, .ref q_movedKept, .int v_isKeeping, .int v_bubbleMany, .int v_bubbleMost, .int v_bubbleCell, .int v_bestShown, .ref q_traced, .int v_traceMany, .int v_who, .ref q_bitsOf, .ref q_sizeOf, .ref q_number, .ref q_lifted])), (q_d, .inl (c 0, 244, .inl v_d))]) (q := (RX12, TX12, 26)) (ci := 12) (q0 := 0) (isC := [0, 1]) hK hX hS hA hP hD ⟨rfl, rfl, trivial⟩ (by decide +kernel) rfl rfl) rfl rfl hl.1 rfl (lv_room (Nat.le_of_ble_eq_true rfl)) dX12_findBubbles_21 ⟨Nat.le_of_ble_eq_true rfl, Nat.le_of_ble_eq_true rfl⟩) (fun H locs hP hS => ?_)
      refine lv_icmp_ge (tgt := 104) hx hb dX12_findBubbles_24 (by decide) (fun c_3 => ?_) (fun c_3 => ?_)
      · replace h := it_t c_3 h
        replace h := so3 h
        obtain ⟨z0, z1, z2⟩ := h
        subst z0 z1 z2
        exact gVret hF hP hD hS dX12_findBubbles_104
      · replace h := it_f c_3 h
        refine lv_aload_n hx hb dX12_findBubbles_27 rfl (lv_at hl 0 rfl) ?_
        refine va_get (D := D) (ci := 12) (v := .ref q_d) (C := RX12) (T := TX12) (N := 26) hx hb hts in_X12_findBubbles_X12 hown hK.1 hP 0 rfl rfl 0 (by decide) (hts (.fieldLink RX12 7 "PaperBubblesModel" "d" "[I") (List.mem_of_getElem? (i := 4) rfl)) (fun _ h9 => h9) rfl dX12_findBubbles_28 ?_
        refine lv_bipush (v := 10) hx hb dX12_findBubbles_31 (by decide) ?_
        refine lv_iload_n hx hb dX12_findBubbles_33 rfl (lv_at hl 2 rfl) ?_
        refine lv_iadd hx hb dX12_findBubbles_34 ?_
        replace h := nm_ok h
        obtain ⟨t_4, et_4, h⟩ := h
        refine gTop et_4 ?_
        replace h := chi_ok h
        obtain ⟨hi_5, h⟩ := h
        refine va_iald hx hb hK.1 hP 1 0 rfl rfl hi_5 dX12_findBubbles_35 ?_
        refine lv_if_eq (tgt := 98) hx hb dX12_findBubbles_36 (by decide) (fun c_6 => ?_) (fun c_6 => ?_)
        · replace h := it_t c_6 h
          replace h := nm_ok h
          obtain ⟨t_7, et_7, h⟩ := h
          refine lv_iinc (v := t_7) (lv' := [(2, .int t_7), (0, .ref q_this), (1, .int x1)]) hx hb dX12_findBubbles_98 hl (k := 2) rfl (by rw [et_7]; rfl) (by decide) rfl (fun ls hl => ?_)
          refine lv_goto (tgt := 19) hx hb dX12_findBubbles_101 (by decide) ?_
          exact ih x1 t_7 v_bubbleMany v_bubbleMost v_bubbleCell H locs hP hD hS ls (lv_sub hl [1, 2, 0] rfl) h
        · replace h := it_f c_6 h
          refine lv_iload_n hx hb dX12_findBubbles_39 rfl (lv_at hl 1 rfl) ?_
          refine lv_iload_n hx hb dX12_findBubbles_40 rfl (lv_at hl 2 rfl) ?_
          refine lv_ishr hx hb dX12_findBubbles_41 ?_
          replace h := nm_ok h
          obtain ⟨t_8, et_8, h⟩ := h
          refine gTop et_8 ?_
          refine lv_iconst (v := 1) hx hb dX12_findBubbles_42 (by decide) ?_
          refine lv_iand hx hb dX12_findBubbles_43 ?_
          replace h := nm_ok h
          obtain ⟨t_9, et_9, h⟩ := h
          refine gTop et_9 ?_
          refine lv_iconst (v := 1) hx hb dX12_findBubbles_44 (by decide) ?_
          refine lv_icmp_ne (tgt := 51) hx hb dX12_findBubbles_45 (by decide) (fun c_10 => ?_) (fun c_10 => ?_)
          · replace h := it_f c_10 h
            refine lv_aload_n hx hb dX12_findBubbles_51 rfl (lv_at hl 0 rfl) ?_
            refine lv_iload_n hx hb dX12_findBubbles_52 rfl (lv_at hl 2 rfl) ?_
            replace h := kb_ok h
            obtain ⟨r_12, hc_11, h⟩ := h
            refine gCallIr (isC := [0, 1]) (wc := [(q_this, .inr (12, [.ref q_d, .ref q_kept, .int v_images, .ref q_found, .ref q_aside, .int v_base, .int v_at, .int v_size, .int v_fault, .int v_opened, .int v_isSeen, .ref q_names, .ref q_seenKept, .ref q_movedKept, .int v_isKeeping, .int v_bubbleMany, .int v_bubbleMost, .int v_bubbleCell, .int v_bestShown, .ref q_traced, .int v_traceMany, .int v_who, .ref q_bitsOf, .ref q_sizeOf, .ref q_number, .ref q_lifted])), (q_d, .inl (c 0, 244, .inl v_d))]) hP hD hS hA ⟨rfl, rfl, trivial⟩ (va_runV (rm := rm_X12_bubbleOf) (ws := wsX12_bubbleOf) (As := [.int x2]) (rest := []) (gFix hF) (c_X12_bubbleOf l D c q_this q_d q_kept q_found q_aside q_names q_seenKept q_movedKept q_traced q_bitsOf q_sizeOf q_number q_lifted x2 v_images v_base v_at v_size v_fault v_opened v_isSeen v_isKeeping v_bubbleMany v_bubbleMost v_bubbleCell v_bestShown v_traceMany v_who v_d r_12 hc_11 H.size) (cwV 1 hts gX12_findBubbles_X12_bubbleOf rfl rfl rfl (by decide +kernel) ⟨Nat.le_of_ble_eq_true rfl, Nat.le_of_ble_eq_true rfl⟩) (gPreV (wc := [(q_this, .inr (12, [.ref q_d, .ref q_kept, .int v_images, .ref q_found, .ref q_aside, .int v_base, .int v_at, .int v_size, .int v_fault, .int v_opened, .int v_isSeen, .ref q_names, .ref q_seenKept, .ref q_movedKept, .int v_isKeeping, .int v_bubbleMany, .int v_bubbleMost, .int v_bubbleCell, .int v_bestShown, .ref q_traced, .int v_traceMany, .int v_who, .ref q_bitsOf, .ref q_sizeOf, .ref q_number, .ref q_lifted])), (q_d, .inl (c 0, 244, .inl v_d))]) (q := (RX12, TX12, 26)) (ci := 12) (q0 := 0) (isC := [0, 1]) hK hX hS hA hP hD ⟨rfl, rfl, trivial⟩ (by decide +kernel) rfl rfl) rfl rfl hl.1 rfl (lv_room (Nat.le_of_ble_eq_true rfl)) dX12_findBubbles_53 ⟨Nat.le_of_ble_eq_true rfl, Nat.le_of_ble_eq_true rfl⟩) (fun H locs hP hS => ?_)
            refine lv_istore_n (lv' := [(3, .int r_12), (0, .ref q_this), (1, .int x1), (2, .int x2)]) hx hb dX12_findBubbles_56 rfl hl (by decide) rfl (fun ls hl => ?_)
            refine lv_aload_n hx hb dX12_findBubbles_57 rfl (lv_at hl 1 rfl) ?_
            refine lv_iload_n hx hb dX12_findBubbles_58 rfl (lv_at hl 0 rfl) ?_
            replace h := kb_ok h
            obtain ⟨r_14, hc_13, h⟩ := h
            refine gCallIr (isC := [0, 1]) (wc := [(q_this, .inr (12, [.ref q_d, .ref q_kept, .int v_images, .ref q_found, .ref q_aside, .int v_base, .int v_at, .int v_size, .int v_fault, .int v_opened, .int v_isSeen, .ref q_names, .ref q_seenKept, .ref q_movedKept, .int v_isKeeping, .int v_bubbleMany, .int v_bubbleMost, .int v_bubbleCell, .int v_bestShown, .ref q_traced, .int v_traceMany, .int v_who, .ref q_bitsOf, .ref q_sizeOf, .ref q_number, .ref q_lifted])), (q_d, .inl (c 0, 244, .inl v_d))]) hP hD hS hA ⟨rfl, rfl, trivial⟩ (va_runV (rm := rm_X12_sizeOf0) (ws := wsX12_sizeOf0) (As := [.int r_12]) (rest := []) (gFix hF) (c_X12_sizeOf0 l D c q_this q_d q_kept q_found q_aside q_names q_seenKept q_movedKept q_traced q_bitsOf q_sizeOf q_number q_lifted r_12 v_images v_base v_at v_size v_fault v_opened v_isSeen v_isKeeping v_bubbleMany v_bubbleMost v_bubbleCell v_bestShown v_traceMany v_who v_d r_14 hc_13 H.size) (cwV 1 hts gX12_findBubbles_X12_sizeOf0 rfl rfl rfl (by decide +kernel) ⟨Nat.le_of_ble_eq_true rfl, Nat.le_of_ble_eq_true rfl⟩) (gPreV (wc := [(q_this, .inr (12, [.ref q_d, .ref q_kept, .int v_images, .ref q_found, .ref q_aside, .int v_base, .int v_at, .int v_size, .int v_fault, .int v_opened, .int v_isSeen, .ref q_names, .ref q_seenKept, .ref q_movedKept, .int v_isKeeping, .int v_bubbleMany, .int v_bubbleMost, .int v_bubbleCell, .int v_bestShown, .ref q_traced, .int v_traceMany, .int v_who, .ref q_bitsOf, .ref q_sizeOf, .ref q_number, .ref q_lifted])), (q_d, .inl (c 0, 244, .inl v_d))]) (q := (RX12, TX12, 26)) (ci := 12) (q0 := 0) (isC := [0, 1]) hK hX hS hA hP hD ⟨rfl, rfl, trivial⟩ (by decide +kernel) rfl rfl) rfl rfl hl.1 rfl (lv_room (Nat.le_of_ble_eq_true rfl)) dX12_findBubbles_59 ⟨Nat.le_of_ble_eq_true rfl, Nat.le_of_ble_eq_true rfl⟩) (fun H locs hP hS => ?_)
            refine lv_istore (lv' := [(4, .int r_14), (3, .int r_12), (0, .ref q_this), (1, .int x1), (2, .int x2)]) hx hb dX12_findBubbles_62 hl (by decide) rfl (fun ls hl => ?_)
            refine lv_iload_n hx hb dX12_findBubbles_64 rfl (lv_at hl 3 rfl) ?_
            refine lv_iload_n hx hb dX12_findBubbles_65 rfl (lv_at hl 1 rfl) ?_
            refine lv_ior hx hb dX12_findBubbles_66 ?_
            replace h := nm_ok h
            obtain ⟨t_15, et_15, h⟩ := h
            refine gTop et_15 ?_
            refine lv_istore_n (lv' := [(1, .int t_15), (4, .int r_14), (3, .int r_12), (0, .ref q_this), (2, .int x2)]) hx hb dX12_findBubbles_67 rfl hl (by decide) rfl (fun ls hl => ?_)
            refine lv_aload_n hx hb dX12_findBubbles_68 rfl (lv_at hl 3 rfl) ?_
            refine lv_dup hx hb dX12_findBubbles_69 rfl ?_
            refine va_get (D := D) (ci := 12) (v := .int v_bubbleMany) (C := RX12) (T := TX12) (N := 26) hx hb hts in_X12_findBubbles_X12 hown hK.1 hP 0 rfl rfl 15 (by decide) (hts (.fieldLink RX12 221 "PaperBubblesModel" "bubbleMany" "I") (List.mem_of_getElem? (i := 1) rfl)) (fun _ h9 => h9) rfl dX12_findBubbles_70 ?_
            refine lv_iconst (v := 1) hx hb dX12_findBubbles_73 (by decide) ?_
            refine lv_iadd hx hb dX12_findBubbles_74 ?_
            replace h := nm_ok h
            obtain ⟨t_16, et_16, h⟩ := h
            refine gTop et_16 ?_
            refine va_put (D := D) (ci := 12) (v := .int t_16) (ty := .int) (C := RX12) (T := TX12) (N := 26) hx hb hts in_X12_findBubbles_X12 tyX12 tyX12_ok nmX12 hown hK.1 hP hD hS 0 rfl rfl 15 (by decide) (hts (.fieldLink RX12 221 "PaperBubblesModel" "bubbleMany" "I") (List.mem_of_getElem? (i := 1) rfl)) (fun _ h9 => h9) rfl (by decide +kernel) rfl rfl (Nat.le_of_ble_eq_true rfl) dX12_findBubbles_75 (fun H locs hP hD hS => ?_)
            have hP : va_P D gcl [(q_this, .inr (12, [.ref q_d, .ref q_kept, .int v_images, .ref q_found, .ref q_aside, .int v_base, .int v_at, .int v_size, .int v_fault, .int v_opened, .int v_isSeen, .ref q_names, .ref q_seenKept, .ref q_movedKept, .int v_isKeeping, .int t_16, .int v_bubbleMost, .int v_bubbleCell, .int v_bestShown, .ref q_traced, .int v_traceMany, .int v_who, .ref q_bitsOf, .ref q_sizeOf, .ref q_number, .ref q_lifted])), (q_d, .inl (c 0, 244, .inl v_d))] H := hP
            have hD : va_D A [(q_this, .inr (12, [.ref q_d, .ref q_kept, .int v_images, .ref q_found, .ref q_aside, .int v_base, .int v_at, .int v_size, .int v_fault, .int v_opened, .int v_isSeen, .ref q_names, .ref q_seenKept, .ref q_movedKept, .int v_isKeeping, .int t_16, .int v_bubbleMost, .int v_bubbleCell, .int v_bestShown, .ref q_traced, .int v_traceMany, .int v_who, .ref q_bitsOf, .ref q_sizeOf, .ref q_number, .ref q_lifted])), (q_d, .inl (c 0, 244, .inl v_d))] := hD
            refine lv_iload hx hb dX12_findBubbles_78 (lv_at hl 1 rfl) ?_
            refine lv_aload_n hx hb dX12_findBubbles_80 rfl (lv_at hl 3 rfl) ?_
            refine va_get (D := D) (ci := 12) (v := .int v_bubbleMost) (C := RX12) (T := TX12) (N := 26) hx hb hts in_X12_findBubbles_X12 hown hK.1 hP 0 rfl rfl 16 (by decide) (hts (.fieldLink RX12 224 "PaperBubblesModel" "bubbleMost" "I") (List.mem_of_getElem? (i := 2) rfl)) (fun _ h9 => h9) rfl dX12_findBubbles_81 ?_
            refine lv_icmp_le (tgt := 98) hx hb dX12_findBubbles_84 (by decide) (fun c_17 => ?_) (fun c_17 => ?_)
            · replace h := it_t c_17 h
              replace h := nm_ok h
              obtain ⟨t_18, et_18, h⟩ := h
              refine lv_iinc (v := t_18) (lv' := [(2, .int t_18), (1, .int t_15), (4, .int r_14), (3, .int r_12), (0, .ref q_this)]) hx hb dX12_findBubbles_98 hl (k := 4) rfl (by rw [et_18]; rfl) (by decide) rfl (fun ls hl => ?_)
              refine lv_goto (tgt := 19) hx hb dX12_findBubbles_101 (by decide) ?_
              exact ih t_15 t_18 t_16 v_bubbleMost v_bubbleCell H locs hP hD hS ls (lv_sub hl [4, 1, 0] rfl) h
            · replace h := it_f c_17 h
              refine lv_aload_n hx hb dX12_findBubbles_87 rfl (lv_at hl 3 rfl) ?_
              refine lv_iload hx hb dX12_findBubbles_88 (lv_at hl 1 rfl) ?_
              refine va_put (D := D) (ci := 12) (v := .int r_14) (ty := .int) (C := RX12) (T := TX12) (N := 26) hx hb hts in_X12_findBubbles_X12 tyX12 tyX12_ok nmX12 hown hK.1 hP hD hS 0 rfl rfl 16 (by decide) (hts (.fieldLink RX12 224 "PaperBubblesModel" "bubbleMost" "I") (List.mem_of_getElem? (i := 2) rfl)) (fun _ h9 => h9) rfl (by decide +kernel) rfl rfl (Nat.le_of_ble_eq_true rfl) dX12_findBubbles_90 (fun H locs hP hD hS => ?_)
              have hP : va_P D gcl [(q_this, .inr (12, [.ref q_d, .ref q_kept, .int v_images, .ref q_found, .ref q_aside, .int v_base, .int v_at, .int v_size, .int v_fault, .int v_opened, .int v_isSeen, .ref q_names, .ref q_seenKept, .ref q_movedKept, .int v_isKeeping, .int t_16, .int r_14, .int v_bubbleCell, .int v_bestShown, .ref q_traced, .int v_traceMany, .int v_who, .ref q_bitsOf, .ref q_sizeOf, .ref q_number, .ref q_lifted])), (q_d, .inl (c 0, 244, .inl v_d))] H := hP
              have hD : va_D A [(q_this, .inr (12, [.ref q_d, .ref q_kept, .int v_images, .ref q_found, .ref q_aside, .int v_base, .int v_at, .int v_size, .int v_fault, .int v_opened, .int v_isSeen, .ref q_names, .ref q_seenKept, .ref q_movedKept, .int v_isKeeping, .int t_16, .int r_14, .int v_bubbleCell, .int v_bestShown, .ref q_traced, .int v_traceMany, .int v_who, .ref q_bitsOf, .ref q_sizeOf, .ref q_number, .ref q_lifted])), (q_d, .inl (c 0, 244, .inl v_d))] := hD
              refine lv_aload_n hx hb dX12_findBubbles_93 rfl (lv_at hl 3 rfl) ?_
              refine lv_iload_n hx hb dX12_findBubbles_94 rfl (lv_at hl 4 rfl) ?_
              refine va_put (D := D) (ci := 12) (v := .int x2) (ty := .int) (C := RX12) (T := TX12) (N := 26) hx hb hts in_X12_findBubbles_X12 tyX12 tyX12_ok nmX12 hown hK.1 hP hD hS 0 rfl rfl 17 (by decide) (hts (.fieldLink RX12 227 "PaperBubblesModel" "bubbleCell" "I") (List.mem_of_getElem? (i := 3) rfl)) (fun _ h9 => h9) rfl (by decide +kernel) rfl rfl (Nat.le_of_ble_eq_true rfl) dX12_findBubbles_95 (fun H locs hP hD hS => ?_)
              have hP : va_P D gcl [(q_this, .inr (12, [.ref q_d, .ref q_kept, .int v_images, .ref q_found, .ref q_aside, .int v_base, .int v_at, .int v_size, .int v_fault, .int v_opened, .int v_isSeen, .ref q_names, .ref q_seenKept, .ref q_movedKept, .int v_isKeeping, .int t_16, .int r_14, .int x2, .int v_bestShown, .ref q_traced, .int v_traceMany, .int v_who, .ref q_bitsOf, .ref q_sizeOf, .ref q_number, .ref q_lifted])), (q_d, .inl (c 0, 244, .inl v_d))] H := hP
              have hD : va_D A [(q_this, .inr (12, [.ref q_d, .ref q_kept, .int v_images, .ref q_found, .ref q_aside, .int v_base, .int v_at, .int v_size, .int v_fault, .int v_opened, .int v_isSeen, .ref q_names, .ref q_seenKept, .ref q_movedKept, .int v_isKeeping, .int t_16, .int r_14, .int x2, .int v_bestShown, .ref q_traced, .int v_traceMany, .int v_who, .ref q_bitsOf, .ref q_sizeOf, .ref q_number, .ref q_lifted])), (q_d, .inl (c 0, 244, .inl v_d))] := hD
              replace h := nm_ok h
              obtain ⟨t_19, et_19, h⟩ := h
              refine lv_iinc (v := t_19) (lv' := [(2, .int t_19), (1, .int t_15), (4, .int r_14), (3, .int r_12), (0, .ref q_this)]) hx hb dX12_findBubbles_98 hl (k := 4) rfl (by rw [et_19]; rfl) (by decide) rfl (fun ls hl => ?_)
              refine lv_goto (tgt := 19) hx hb dX12_findBubbles_101 (by decide) ?_
              exact ih t_15 t_19 t_16 r_14 x2 H locs hP hD hS ls (lv_sub hl [4, 1, 0] rfl) h
          · replace h := it_t c_10 h
            refine lv_goto (tgt := 98) hx hb dX12_findBubbles_48 (by decide) ?_
            replace h := nm_ok h
            obtain ⟨t_20, et_20, h⟩ := h
            refine lv_iinc (v := t_20) (lv' := [(2, .int t_20), (0, .ref q_this), (1, .int x1)]) hx hb dX12_findBubbles_98 hl (k := 2) rfl (by rw [et_20]; rfl) (by decide) rfl (fun ls hl => ?_)
            refine lv_goto (tgt := 19) hx hb dX12_findBubbles_101 (by decide) ?_
            exact ih x1 t_20 v_bubbleMany v_bubbleMost v_bubbleCell H locs hP hD hS ls (lv_sub hl [1, 2, 0] rfl) h
  unfold f_X12_findBubbles at h
  refine lv_aload_n hx hb dX12_findBubbles_0 rfl (lv_at hl 0 rfl) ?_
  refine lv_iconst (v := 0) hx hb dX12_findBubbles_1 (by decide) ?_
  refine va_put (D := D) (ci := 12) (v := .int 0) (ty := .int) (C := RX12) (T := TX12) (N := 26) hx hb hts in_X12_findBubbles_X12 tyX12 tyX12_ok nmX12 hown hK.1 hP hD hS 0 rfl rfl 15 (by decide) (hts (.fieldLink RX12 221 "PaperBubblesModel" "bubbleMany" "I") (List.mem_of_getElem? (i := 1) rfl)) (fun _ h9 => h9) rfl (by decide +kernel) rfl rfl (Nat.le_of_ble_eq_true rfl) dX12_findBubbles_2 (fun H locs hP hD hS => ?_)
  have hP : va_P D gcl [(q_this, .inr (12, [.ref q_d, .ref q_kept, .int v_images, .ref q_found, .ref q_aside, .int v_base, .int v_at, .int v_size, .int v_fault, .int v_opened, .int v_isSeen, .ref q_names, .ref q_seenKept, .ref q_movedKept, .int v_isKeeping, .int 0, .int v_bubbleMost, .int v_bubbleCell, .int v_bestShown, .ref q_traced, .int v_traceMany, .int v_who, .ref q_bitsOf, .ref q_sizeOf, .ref q_number, .ref q_lifted])), (q_d, .inl (c 0, 244, .inl v_d))] H := hP
  have hD : va_D A [(q_this, .inr (12, [.ref q_d, .ref q_kept, .int v_images, .ref q_found, .ref q_aside, .int v_base, .int v_at, .int v_size, .int v_fault, .int v_opened, .int v_isSeen, .ref q_names, .ref q_seenKept, .ref q_movedKept, .int v_isKeeping, .int 0, .int v_bubbleMost, .int v_bubbleCell, .int v_bestShown, .ref q_traced, .int v_traceMany, .int v_who, .ref q_bitsOf, .ref q_sizeOf, .ref q_number, .ref q_lifted])), (q_d, .inl (c 0, 244, .inl v_d))] := hD
  refine lv_aload_n hx hb dX12_findBubbles_5 rfl (lv_at hl 0 rfl) ?_
  refine lv_iconst (v := 0) hx hb dX12_findBubbles_6 (by decide) ?_
  refine va_put (D := D) (ci := 12) (v := .int 0) (ty := .int) (C := RX12) (T := TX12) (N := 26) hx hb hts in_X12_findBubbles_X12 tyX12 tyX12_ok nmX12 hown hK.1 hP hD hS 0 rfl rfl 16 (by decide) (hts (.fieldLink RX12 224 "PaperBubblesModel" "bubbleMost" "I") (List.mem_of_getElem? (i := 2) rfl)) (fun _ h9 => h9) rfl (by decide +kernel) rfl rfl (Nat.le_of_ble_eq_true rfl) dX12_findBubbles_7 (fun H locs hP hD hS => ?_)
  have hP : va_P D gcl [(q_this, .inr (12, [.ref q_d, .ref q_kept, .int v_images, .ref q_found, .ref q_aside, .int v_base, .int v_at, .int v_size, .int v_fault, .int v_opened, .int v_isSeen, .ref q_names, .ref q_seenKept, .ref q_movedKept, .int v_isKeeping, .int 0, .int 0, .int v_bubbleCell, .int v_bestShown, .ref q_traced, .int v_traceMany, .int v_who, .ref q_bitsOf, .ref q_sizeOf, .ref q_number, .ref q_lifted])), (q_d, .inl (c 0, 244, .inl v_d))] H := hP
  have hD : va_D A [(q_this, .inr (12, [.ref q_d, .ref q_kept, .int v_images, .ref q_found, .ref q_aside, .int v_base, .int v_at, .int v_size, .int v_fault, .int v_opened, .int v_isSeen, .ref q_names, .ref q_seenKept, .ref q_movedKept, .int v_isKeeping, .int 0, .int 0, .int v_bubbleCell, .int v_bestShown, .ref q_traced, .int v_traceMany, .int v_who, .ref q_bitsOf, .ref q_sizeOf, .ref q_number, .ref q_lifted])), (q_d, .inl (c 0, 244, .inl v_d))] := hD
  refine lv_aload_n hx hb dX12_findBubbles_10 rfl (lv_at hl 0 rfl) ?_
  refine lv_iconst (v := 0) hx hb dX12_findBubbles_11 (by decide) ?_
  refine va_put (D := D) (ci := 12) (v := .int 0) (ty := .int) (C := RX12) (T := TX12) (N := 26) hx hb hts in_X12_findBubbles_X12 tyX12 tyX12_ok nmX12 hown hK.1 hP hD hS 0 rfl rfl 17 (by decide) (hts (.fieldLink RX12 227 "PaperBubblesModel" "bubbleCell" "I") (List.mem_of_getElem? (i := 3) rfl)) (fun _ h9 => h9) rfl (by decide +kernel) rfl rfl (Nat.le_of_ble_eq_true rfl) dX12_findBubbles_12 (fun H locs hP hD hS => ?_)
  have hP : va_P D gcl [(q_this, .inr (12, [.ref q_d, .ref q_kept, .int v_images, .ref q_found, .ref q_aside, .int v_base, .int v_at, .int v_size, .int v_fault, .int v_opened, .int v_isSeen, .ref q_names, .ref q_seenKept, .ref q_movedKept, .int v_isKeeping, .int 0, .int 0, .int 0, .int v_bestShown, .ref q_traced, .int v_traceMany, .int v_who, .ref q_bitsOf, .ref q_sizeOf, .ref q_number, .ref q_lifted])), (q_d, .inl (c 0, 244, .inl v_d))] H := hP
  have hD : va_D A [(q_this, .inr (12, [.ref q_d, .ref q_kept, .int v_images, .ref q_found, .ref q_aside, .int v_base, .int v_at, .int v_size, .int v_fault, .int v_opened, .int v_isSeen, .ref q_names, .ref q_seenKept, .ref q_movedKept, .int v_isKeeping, .int 0, .int 0, .int 0, .int v_bestShown, .ref q_traced, .int v_traceMany, .int v_who, .ref q_bitsOf, .ref q_sizeOf, .ref q_number, .ref q_lifted])), (q_d, .inl (c 0, 244, .inl v_d))] := hD
  refine lv_iconst (v := 0) hx hb dX12_findBubbles_15 (by decide) ?_
  refine lv_istore_n (lv' := [(1, .int 0), (0, .ref q_this)]) hx hb dX12_findBubbles_16 rfl hl (by decide) rfl (fun ls hl => ?_)
  refine lv_iconst (v := 0) hx hb dX12_findBubbles_17 (by decide) ?_
  refine lv_istore_n (lv' := [(2, .int 0), (1, .int 0), (0, .ref q_this)]) hx hb dX12_findBubbles_18 rfl hl (by decide) rfl (fun ls hl => ?_)
  exact t_L19 gFuel 0 0 0 0 0 H locs hP hD hS ls (lv_sub hl [2, 1, 0] rfl) h
