set_option maxRecDepth 20000 in
theorem in_X12_product_X12 : ∀ w ∈ u_ws RX12 TX12 26, w ∈ wsX12_product := by decide +kernel
def f_X12_product_L32 (uu : Int32 → Int32 → Int32 → Int32 → Int32 → Int32 → (Nat → Int32) → (Nat → Int32) → Option (Int32 × Int32 × Int32 × Int32)) (kk_L5 : Int32 → Int32 → Int32 → Int32 → Option (Int32 × Int32 × Int32 × Int32)) (v_base : Int32) (v_size : Int32) (v_isSeen : Int32) (v_d : Nat → Int32) (v_names : Nat → Int32) (x1 : Int32) (v_at : Int32) (v_fault : Int32) (v_opened : Int32) : Option (Int32 × Int32 × Int32 × Int32) :=
  kb (f_X12_here v_base v_at v_size v_fault v_d) fun r_16 =>
  nm (v_at + 1 : Int32) fun t_17 =>
  kb4 (uu v_base t_17 v_size v_fault v_opened v_isSeen v_d v_names) fun r_19 w_20 w_21 w_22 =>
  if r_16 = 42 then
    nm (x1 * r_19 : Int32) fun t_30 =>
    kk_L5 t_30 w_20 w_21 w_22
  else
    if r_19 = 0 then
      kk_L5 0 w_20 w_21 w_22
    else
      if r_16 = 47 then
        chz r_19 <|
        nm (x1 / r_19 : Int32) fun t_29 =>
        kk_L5 t_29 w_20 w_21 w_22
      else
        chz r_19 <|
        nm (x1 - x1 / r_19 * r_19 : Int32) fun t_27 =>
        kk_L5 t_27 w_20 w_21 w_22

def f_X12_product_L5 (uu : Int32 → Int32 → Int32 → Int32 → Int32 → Int32 → (Nat → Int32) → (Nat → Int32) → Option (Int32 × Int32 × Int32 × Int32)) (v_base : Int32) (v_size : Int32) (v_isSeen : Int32) (v_d : Nat → Int32) (v_names : Nat → Int32) : Nat → Int32 → Int32 → Int32 → Int32 → Option (Int32 × Int32 × Int32 × Int32)
  | 0, _, _, _, _ => none
  | n + 1, x1, v_at, v_fault, v_opened =>
    kb (f_X12_here v_base v_at v_size v_fault v_d) fun r_7 =>
    if r_7 = 42 then
      f_X12_product_L32 uu (f_X12_product_L5 uu v_base v_size v_isSeen v_d v_names n) v_base v_size v_isSeen v_d v_names x1 v_at v_fault v_opened
    else
      kb (f_X12_here v_base v_at v_size v_fault v_d) fun r_10 =>
      if r_10 = 47 then
        f_X12_product_L32 uu (f_X12_product_L5 uu v_base v_size v_isSeen v_d v_names n) v_base v_size v_isSeen v_d v_names x1 v_at v_fault v_opened
      else
        kb (f_X12_here v_base v_at v_size v_fault v_d) fun r_13 =>
        if r_13 = 37 then
          f_X12_product_L32 uu (f_X12_product_L5 uu v_base v_size v_isSeen v_d v_names n) v_base v_size v_isSeen v_d v_names x1 v_at v_fault v_opened
        else
          some (x1, v_at, v_fault, v_opened)

def f_X12_product (uu : Int32 → Int32 → Int32 → Int32 → Int32 → Int32 → (Nat → Int32) → (Nat → Int32) → Option (Int32 × Int32 × Int32 × Int32)) (v_base : Int32) (v_at : Int32) (v_size : Int32) (v_fault : Int32) (v_opened : Int32) (v_isSeen : Int32) (v_d : Nat → Int32) (v_names : Nat → Int32) : Option (Int32 × Int32 × Int32 × Int32) :=
  kb4 (uu v_base v_at v_size v_fault v_opened v_isSeen v_d v_names) fun r_2 w_3 w_4 w_5 =>
  f_X12_product_L5 uu v_base v_size v_isSeen v_d v_names gFuel r_2 w_3 w_4 w_5

abbrev rm_X12_product (fr lo : Nat) : Room := { frames := fr + 1, cells := 0, slots := 0, locals := lo + 24 }
set_option maxHeartbeats 4000000 in
set_option maxRecDepth 100000 in
theorem c_X12_product (l : Launch) (D : va_G) (c : Nat → ClassId) (uu : Int32 → Int32 → Int32 → Int32 → Int32 → Int32 → (Nat → Int32) → (Nat → Int32) → Option (Int32 × Int32 × Int32 × Int32)) (fr lo : Nat) (hu : ∀ (q_this q_d q_kept q_found q_aside q_names q_seenKept q_movedKept q_traced q_bitsOf q_sizeOf q_number q_lifted : Nat) (v_images : Int32) (v_base : Int32) (v_at : Int32) (v_size : Int32) (v_fault : Int32) (v_opened : Int32) (v_isSeen : Int32) (v_isKeeping : Int32) (v_bubbleMany : Int32) (v_bubbleMost : Int32) (v_bubbleCell : Int32) (v_bestShown : Int32) (v_traceMany : Int32) (v_who : Int32) (v_d : Nat → Int32) (v_names : Nat → Int32) (o_r : Int32) (o_v_at : Int32) (o_v_fault : Int32) (o_v_opened : Int32), uu v_base v_at v_size v_fault v_opened v_isSeen v_d v_names = some (o_r, o_v_at, o_v_fault, o_v_opened) → gMI l yX12_unit wsX12_unit { frames := fr, cells := 0, slots := 0, locals := lo } D c [.ref q_this] [(q_this, .inr (12, [.ref q_d, .ref q_kept, .int v_images, .ref q_found, .ref q_aside, .int v_base, .int v_at, .int v_size, .int v_fault, .int v_opened, .int v_isSeen, .ref q_names, .ref q_seenKept, .ref q_movedKept, .int v_isKeeping, .int v_bubbleMany, .int v_bubbleMost, .int v_bubbleCell, .int v_bestShown, .ref q_traced, .int v_traceMany, .int v_who, .ref q_bitsOf, .ref q_sizeOf, .ref q_number, .ref q_lifted])), (q_d, .inl (c 0, 244, .inl v_d)), (q_names, .inl (c 0, 3, .inl v_names))] [(q_this, .inr (12, [.ref q_d, .ref q_kept, .int v_images, .ref q_found, .ref q_aside, .int v_base, .int o_v_at, .int v_size, .int o_v_fault, .int o_v_opened, .int v_isSeen, .ref q_names, .ref q_seenKept, .ref q_movedKept, .int v_isKeeping, .int v_bubbleMany, .int v_bubbleMost, .int v_bubbleCell, .int v_bestShown, .ref q_traced, .int v_traceMany, .int v_who, .ref q_bitsOf, .ref q_sizeOf, .ref q_number, .ref q_lifted])), (q_d, .inl (c 0, 244, .inl v_d)), (q_names, .inl (c 0, 3, .inl v_names))] o_r) (q_this q_d q_kept q_found q_aside q_names q_seenKept q_movedKept q_traced q_bitsOf q_sizeOf q_number q_lifted : Nat) (v_images : Int32) (v_base : Int32) (v_at : Int32) (v_size : Int32) (v_fault : Int32) (v_opened : Int32) (v_isSeen : Int32) (v_isKeeping : Int32) (v_bubbleMany : Int32) (v_bubbleMost : Int32) (v_bubbleCell : Int32) (v_bestShown : Int32) (v_traceMany : Int32) (v_who : Int32) (v_d : Nat → Int32) (v_names : Nat → Int32) (o_r : Int32) (o_v_at : Int32) (o_v_fault : Int32) (o_v_opened : Int32) (h : f_X12_product uu v_base v_at v_size v_fault v_opened v_isSeen v_d v_names = some (o_r, o_v_at, o_v_fault, o_v_opened)) : gMI l yX12_product wsX12_product (rm_X12_product fr lo) D c [.ref q_this] [(q_this, .inr (12, [.ref q_d, .ref q_kept, .int v_images, .ref q_found, .ref q_aside, .int v_base, .int v_at, .int v_size, .int v_fault, .int v_opened, .int v_isSeen, .ref q_names, .ref q_seenKept, .ref q_movedKept, .int v_isKeeping, .int v_bubbleMany, .int v_bubbleMost, .int v_bubbleCell, .int v_bestShown, .ref q_traced, .int v_traceMany, .int v_who, .ref q_bitsOf, .ref q_sizeOf, .ref q_number, .ref q_lifted])), (q_d, .inl (c 0, 244, .inl v_d)), (q_names, .inl (c 0, 3, .inl v_names))] [(q_this, .inr (12, [.ref q_d, .ref q_kept, .int v_images, .ref q_found, .ref q_aside, .int v_base, .int o_v_at, .int v_size, .int o_v_fault, .int o_v_opened, .int v_isSeen, .ref q_names, .ref q_seenKept, .ref q_movedKept, .int v_isKeeping, .int v_bubbleMany, .int v_bubbleMost, .int v_bubbleCell, .int v_bestShown, .ref q_traced, .int v_traceMany, .int v_who, .ref q_bitsOf, .ref q_sizeOf, .ref q_number, .ref q_lifted])), (q_d, .inl (c 0, 244, .inl v_d)), (q_names, .inl (c 0, 3, .inl v_names))] o_r := by
  refine gMI_of (cc := cX12_product) (maxL := 4) (rt := (some .int)) (by decide +kernel) rfl (Nat.le_of_ble_eq_true rfl) ?_
  intro p e s m below meth co A hF hK hX hP hD hA hS ls hl
  obtain ⟨hx, hb, hr, hts, hown, hlocks, hml⟩ := id hF
  have hl : lv_has ls 4 [(0, .ref q_this)] := hl
  have t_L32 : ∀ (kk_L5 : Int32 → Int32 → Int32 → Int32 → Option (Int32 × Int32 × Int32 × Int32)), (∀ (x1 : Int32) (v_at : Int32) (v_fault : Int32) (v_opened : Int32) (H : Heap) (locs : List Loc), va_P D gcl [(q_this, .inr (12, [.ref q_d, .ref q_kept, .int v_images, .ref q_found, .ref q_aside, .int v_base, .int v_at, .int v_size, .int v_fault, .int v_opened, .int v_isSeen, .ref q_names, .ref q_seenKept, .ref q_movedKept, .int v_isKeeping, .int v_bubbleMany, .int v_bubbleMost, .int v_bubbleCell, .int v_bestShown, .ref q_traced, .int v_traceMany, .int v_who, .ref q_bitsOf, .ref q_sizeOf, .ref q_number, .ref q_lifted])), (q_d, .inl (c 0, 244, .inl v_d)), (q_names, .inl (c 0, 3, .inl v_names))] H → va_D A [(q_this, .inr (12, [.ref q_d, .ref q_kept, .int v_images, .ref q_found, .ref q_aside, .int v_base, .int v_at, .int v_size, .int v_fault, .int v_opened, .int v_isSeen, .ref q_names, .ref q_seenKept, .ref q_movedKept, .int v_isKeeping, .int v_bubbleMany, .int v_bubbleMost, .int v_bubbleCell, .int v_bestShown, .ref q_traced, .int v_traceMany, .int v_who, .ref q_bitsOf, .ref q_sizeOf, .ref q_number, .ref q_lifted])), (q_d, .inl (c 0, 244, .inl v_d)), (q_names, .inl (c 0, 3, .inl v_names))] → va_S A s.heap H locs → ∀ ls, lv_has ls 4 [(0, .ref q_this), (1, .int x1)] → kk_L5 x1 v_at v_fault v_opened = some (o_r, o_v_at, o_v_fault, o_v_opened) → W p l e (headSpec wsX12_product (rm_X12_product fr lo)).room s m [.ref q_this].toArray below meth co H locs 0 0 (gQI D [(q_this, .inr (12, [.ref q_d, .ref q_kept, .int v_images, .ref q_found, .ref q_aside, .int v_base, .int o_v_at, .int v_size, .int o_v_fault, .int o_v_opened, .int v_isSeen, .ref q_names, .ref q_seenKept, .ref q_movedKept, .int v_isKeeping, .int v_bubbleMany, .int v_bubbleMost, .int v_bubbleCell, .int v_bestShown, .ref q_traced, .int v_traceMany, .int v_who, .ref q_bitsOf, .ref q_sizeOf, .ref q_number, .ref q_lifted])), (q_d, .inl (c 0, 244, .inl v_d)), (q_names, .inl (c 0, 3, .inl v_names))] o_r A below [.ref q_this] s) (F0 m 5 ls [])) → ∀ (x1 : Int32) (v_at : Int32) (v_fault : Int32) (v_opened : Int32) (H : Heap) (locs : List Loc), va_P D gcl [(q_this, .inr (12, [.ref q_d, .ref q_kept, .int v_images, .ref q_found, .ref q_aside, .int v_base, .int v_at, .int v_size, .int v_fault, .int v_opened, .int v_isSeen, .ref q_names, .ref q_seenKept, .ref q_movedKept, .int v_isKeeping, .int v_bubbleMany, .int v_bubbleMost, .int v_bubbleCell, .int v_bestShown, .ref q_traced, .int v_traceMany, .int v_who, .ref q_bitsOf, .ref q_sizeOf, .ref q_number, .ref q_lifted])), (q_d, .inl (c 0, 244, .inl v_d)), (q_names, .inl (c 0, 3, .inl v_names))] H → va_D A [(q_this, .inr (12, [.ref q_d, .ref q_kept, .int v_images, .ref q_found, .ref q_aside, .int v_base, .int v_at, .int v_size, .int v_fault, .int v_opened, .int v_isSeen, .ref q_names, .ref q_seenKept, .ref q_movedKept, .int v_isKeeping, .int v_bubbleMany, .int v_bubbleMost, .int v_bubbleCell, .int v_bestShown, .ref q_traced, .int v_traceMany, .int v_who, .ref q_bitsOf, .ref q_sizeOf, .ref q_number, .ref q_lifted])), (q_d, .inl (c 0, 244, .inl v_d)), (q_names, .inl (c 0, 3, .inl v_names))] → va_S A s.heap H locs → ∀ ls, lv_has ls 4 [(0, .ref q_this), (1, .int x1)] → f_X12_product_L32 uu kk_L5 v_base v_size v_isSeen v_d v_names x1 v_at v_fault v_opened = some (o_r, o_v_at, o_v_fault, o_v_opened) → W p l e (headSpec wsX12_product (rm_X12_product fr lo)).room s m [.ref q_this].toArray below meth co H locs 0 0 (gQI D [(q_this, .inr (12, [.ref q_d, .ref q_kept, .int v_images, .ref q_found, .ref q_aside, .int v_base, .int o_v_at, .int v_size, .int o_v_fault, .int o_v_opened, .int v_isSeen, .ref q_names, .ref q_seenKept, .ref q_movedKept, .int v_isKeeping, .int v_bubbleMany, .int v_bubbleMost, .int v_bubbleCell, .int v_bestShown, .ref q_traced, .int v_traceMany, .int v_who, .ref q_bitsOf, .ref q_sizeOf, .ref q_number, .ref q_lifted])), (q_d, .inl (c 0, 244, .inl v_d)), (q_names, .inl (c 0, 3, .inl v_names))] o_r A below [.ref q_this] s) (F0 m 32 ls []) := by
    intro kk_L5 hkk_L5 x1 v_at v_fault v_opened H locs hP hD hS ls hl h
    unfold f_X12_product_L32 at h
    refine lv_aload_n hx hb dX12_product_32 rfl (lv_at hl 0 rfl) ?_
    replace h := kb_ok h
    obtain ⟨r_16, hc_15, h⟩ := h
    refine gCallIr (isC := [0, 1]) (wc := [(q_this, .inr (12, [.ref q_d, .ref q_kept, .int v_images, .ref q_found, .ref q_aside, .int v_base, .int v_at, .int v_size, .int v_fault, .int v_opened, .int v_isSeen, .ref q_names, .ref q_seenKept, .ref q_movedKept, .int v_isKeeping, .int v_bubbleMany, .int v_bubbleMost, .int v_bubbleCell, .int v_bestShown, .ref q_traced, .int v_traceMany, .int v_who, .ref q_bitsOf, .ref q_sizeOf, .ref q_number, .ref q_lifted])), (q_d, .inl (c 0, 244, .inl v_d))]) hP hD hS hA ⟨rfl, rfl, trivial⟩ (va_runV (rm := rm_X12_here) (ws := wsX12_here) (As := []) (rest := []) (gFix hF) (c_X12_here l D c q_this q_d q_kept q_found q_aside q_names q_seenKept q_movedKept q_traced q_bitsOf q_sizeOf q_number q_lifted v_images v_base v_at v_size v_fault v_opened v_isSeen v_isKeeping v_bubbleMany v_bubbleMost v_bubbleCell v_bestShown v_traceMany v_who v_d r_16 hc_15 H.size) (cwV 0 hts gX12_product_X12_here rfl rfl rfl (by decide +kernel) ⟨show (0) + 1 ≤ fr + 1 by omega, show 8 + (1 + 11) + (0) ≤ lo + 24 by omega⟩) (gPreV (wc := [(q_this, .inr (12, [.ref q_d, .ref q_kept, .int v_images, .ref q_found, .ref q_aside, .int v_base, .int v_at, .int v_size, .int v_fault, .int v_opened, .int v_isSeen, .ref q_names, .ref q_seenKept, .ref q_movedKept, .int v_isKeeping, .int v_bubbleMany, .int v_bubbleMost, .int v_bubbleCell, .int v_bestShown, .ref q_traced, .int v_traceMany, .int v_who, .ref q_bitsOf, .ref q_sizeOf, .ref q_number, .ref q_lifted])), (q_d, .inl (c 0, 244, .inl v_d))]) (q := (RX12, TX12, 26)) (ci := 12) (q0 := 0) (isC := [0, 1]) hK hX hS hA hP hD ⟨rfl, rfl, trivial⟩ (by decide +kernel) rfl rfl) rfl rfl hl.1 rfl (lv_room (Nat.le_of_ble_eq_true rfl)) dX12_product_33 ⟨Nat.le_of_ble_eq_true rfl, Nat.le_of_ble_eq_true rfl⟩) (fun H locs hP hS => ?_)
    refine lv_istore_n (lv' := [(2, .int r_16), (0, .ref q_this), (1, .int x1)]) hx hb dX12_product_36 rfl hl (by decide) rfl (fun ls hl => ?_)
    refine lv_aload_n hx hb dX12_product_37 rfl (lv_at hl 1 rfl) ?_
    refine lv_dup hx hb dX12_product_38 rfl ?_
    refine va_get (D := D) (ci := 12) (v := .int v_at) (C := RX12) (T := TX12) (N := 26) hx hb hts in_X12_product_X12 hown hK.1 hP 0 rfl rfl 6 (by decide) (hts (.fieldLink RX12 61 "PaperBubblesModel" "at" "I") (List.mem_of_getElem? (i := 1) rfl)) (fun _ h9 => h9) rfl dX12_product_39 ?_
    refine lv_iconst (v := 1) hx hb dX12_product_42 (by decide) ?_
    refine lv_iadd hx hb dX12_product_43 ?_
    replace h := nm_ok h
    obtain ⟨t_17, et_17, h⟩ := h
    refine gTop et_17 ?_
    refine va_put (D := D) (ci := 12) (v := .int t_17) (ty := .int) (C := RX12) (T := TX12) (N := 26) hx hb hts in_X12_product_X12 tyX12 tyX12_ok nmX12 hown hK.1 hP hD hS 0 rfl rfl 6 (by decide) (hts (.fieldLink RX12 61 "PaperBubblesModel" "at" "I") (List.mem_of_getElem? (i := 1) rfl)) (fun _ h9 => h9) rfl (by decide +kernel) rfl rfl (Nat.le_of_ble_eq_true rfl) dX12_product_44 (fun H locs hP hD hS => ?_)
    have hP : va_P D gcl [(q_this, .inr (12, [.ref q_d, .ref q_kept, .int v_images, .ref q_found, .ref q_aside, .int v_base, .int t_17, .int v_size, .int v_fault, .int v_opened, .int v_isSeen, .ref q_names, .ref q_seenKept, .ref q_movedKept, .int v_isKeeping, .int v_bubbleMany, .int v_bubbleMost, .int v_bubbleCell, .int v_bestShown, .ref q_traced, .int v_traceMany, .int v_who, .ref q_bitsOf, .ref q_sizeOf, .ref q_number, .ref q_lifted])), (q_d, .inl (c 0, 244, .inl v_d)), (q_names, .inl (c 0, 3, .inl v_names))] H := hP
    have hD : va_D A [(q_this, .inr (12, [.ref q_d, .ref q_kept, .int v_images, .ref q_found, .ref q_aside, .int v_base, .int t_17, .int v_size, .int v_fault, .int v_opened, .int v_isSeen, .ref q_names, .ref q_seenKept, .ref q_movedKept, .int v_isKeeping, .int v_bubbleMany, .int v_bubbleMost, .int v_bubbleCell, .int v_bestShown, .ref q_traced, .int v_traceMany, .int v_who, .ref q_bitsOf, .ref q_sizeOf, .ref q_number, .ref q_lifted])), (q_d, .inl (c 0, 244, .inl v_d)), (q_names, .inl (c 0, 3, .inl v_names))] := hD
    refine lv_aload_n hx hb dX12_product_47 rfl (lv_at hl 1 rfl) ?_
    replace h := kb4_ok h
    obtain ⟨r_19, w_20, w_21, w_22, hc_18, h⟩ := h
    refine gCallI (isC := [0, 1, 2]) (wc := [(q_this, .inr (12, [.ref q_d, .ref q_kept, .int v_images, .ref q_found, .ref q_aside, .int v_base, .int t_17, .int v_size, .int v_fault, .int v_opened, .int v_isSeen, .ref q_names, .ref q_seenKept, .ref q_movedKept, .int v_isKeeping, .int v_bubbleMany, .int v_bubbleMost, .int v_bubbleCell, .int v_bestShown, .ref q_traced, .int v_traceMany, .int v_who, .ref q_bitsOf, .ref q_sizeOf, .ref q_number, .ref q_lifted])), (q_d, .inl (c 0, 244, .inl v_d)), (q_names, .inl (c 0, 3, .inl v_names))]) (w1 := [(q_this, .inr (12, [.ref q_d, .ref q_kept, .int v_images, .ref q_found, .ref q_aside, .int v_base, .int w_20, .int v_size, .int w_21, .int w_22, .int v_isSeen, .ref q_names, .ref q_seenKept, .ref q_movedKept, .int v_isKeeping, .int v_bubbleMany, .int v_bubbleMost, .int v_bubbleCell, .int v_bestShown, .ref q_traced, .int v_traceMany, .int v_who, .ref q_bitsOf, .ref q_sizeOf, .ref q_number, .ref q_lifted])), (q_d, .inl (c 0, 244, .inl v_d)), (q_names, .inl (c 0, 3, .inl v_names))]) (ws2 := [(q_this, .inr (12, [.ref q_d, .ref q_kept, .int v_images, .ref q_found, .ref q_aside, .int v_base, .int w_20, .int v_size, .int w_21, .int w_22, .int v_isSeen, .ref q_names, .ref q_seenKept, .ref q_movedKept, .int v_isKeeping, .int v_bubbleMany, .int v_bubbleMost, .int v_bubbleCell, .int v_bestShown, .ref q_traced, .int v_traceMany, .int v_who, .ref q_bitsOf, .ref q_sizeOf, .ref q_number, .ref q_lifted])), (q_d, .inl (c 0, 244, .inl v_d)), (q_names, .inl (c 0, 3, .inl v_names))]) (ms := [(some 0), (some 1), (some 2)]) hP hD hS hA ⟨rfl, rfl, rfl, trivial⟩ (by decide +kernel) ⟨rfl, rfl, rfl, trivial⟩ (va_runV (rm := { frames := fr, cells := 0, slots := 0, locals := lo }) (ws := wsX12_unit) (As := []) (rest := []) (gFix hF) (hu q_this q_d q_kept q_found q_aside q_names q_seenKept q_movedKept q_traced q_bitsOf q_sizeOf q_number q_lifted v_images v_base t_17 v_size v_fault v_opened v_isSeen v_isKeeping v_bubbleMany v_bubbleMost v_bubbleCell v_bestShown v_traceMany v_who v_d v_names r_19 w_20 w_21 w_22 hc_18 H.size) (cwV 0 hts gX12_product_X12_unit rfl rfl rfl (by decide +kernel) ⟨show (fr) + 1 ≤ fr + 1 by omega, show 8 + (5 + 11) + (lo) ≤ lo + 24 by omega⟩) (gPreV (wc := [(q_this, .inr (12, [.ref q_d, .ref q_kept, .int v_images, .ref q_found, .ref q_aside, .int v_base, .int t_17, .int v_size, .int v_fault, .int v_opened, .int v_isSeen, .ref q_names, .ref q_seenKept, .ref q_movedKept, .int v_isKeeping, .int v_bubbleMany, .int v_bubbleMost, .int v_bubbleCell, .int v_bestShown, .ref q_traced, .int v_traceMany, .int v_who, .ref q_bitsOf, .ref q_sizeOf, .ref q_number, .ref q_lifted])), (q_d, .inl (c 0, 244, .inl v_d)), (q_names, .inl (c 0, 3, .inl v_names))]) (q := (RX12, TX12, 26)) (ci := 12) (q0 := 0) (isC := [0, 1, 2]) hK hX hS hA hP hD ⟨rfl, rfl, rfl, trivial⟩ (by decide +kernel) rfl rfl) rfl rfl hl.1 rfl (lv_room (Nat.le_of_ble_eq_true rfl)) dX12_product_48 ⟨Nat.le_of_ble_eq_true rfl, Nat.le_of_ble_eq_true rfl⟩) (fun H locs hP hD hS => ?_)
    refine lv_istore_n (lv' := [(3, .int r_19), (2, .int r_16), (0, .ref q_this), (1, .int x1)]) hx hb dX12_product_51 rfl hl (by decide) rfl (fun ls hl => ?_)
    refine lv_iload_n hx hb dX12_product_52 rfl (lv_at hl 1 rfl) ?_
    refine lv_bipush (v := 42) hx hb dX12_product_53 (by decide) ?_
    refine lv_icmp_ne (tgt := 64) hx hb dX12_product_55 (by decide) (fun c_23 => ?_) (fun c_23 => ?_)
    · replace h := it_f c_23 h
      refine lv_iload_n hx hb dX12_product_64 rfl (lv_at hl 0 rfl) ?_
      refine lv_if_ne (tgt := 72) hx hb dX12_product_65 (by decide) (fun c_24 => ?_) (fun c_24 => ?_)
      · replace h := it_f c_24 h
        refine lv_iload_n hx hb dX12_product_72 rfl (lv_at hl 1 rfl) ?_
        refine lv_bipush (v := 47) hx hb dX12_product_73 (by decide) ?_
        refine lv_icmp_ne (tgt := 84) hx hb dX12_product_75 (by decide) (fun c_25 => ?_) (fun c_25 => ?_)
        · replace h := it_f c_25 h
          refine lv_iload_n hx hb dX12_product_84 rfl (lv_at hl 3 rfl) ?_
          refine lv_iload_n hx hb dX12_product_85 rfl (lv_at hl 0 rfl) ?_
          replace h := chz_ok h
          obtain ⟨hz_26, h⟩ := h
          refine lv_irem hx hb dX12_product_86 hz_26 ?_
          replace h := nm_ok h
          obtain ⟨t_27, et_27, h⟩ := h
          refine gTop et_27 ?_
          refine lv_istore_n (lv' := [(1, .int t_27), (3, .int r_19), (2, .int r_16), (0, .ref q_this)]) hx hb dX12_product_87 rfl hl (by decide) rfl (fun ls hl => ?_)
          refine lv_goto (tgt := 5) hx hb dX12_product_88 (by decide) ?_
          exact hkk_L5 t_27 w_20 w_21 w_22 H locs hP hD hS ls (lv_sub hl [3, 0] rfl) h
        · replace h := it_t c_25 h
          refine lv_iload_n hx hb dX12_product_78 rfl (lv_at hl 3 rfl) ?_
          refine lv_iload_n hx hb dX12_product_79 rfl (lv_at hl 0 rfl) ?_
          replace h := chz_ok h
          obtain ⟨hz_28, h⟩ := h
          refine lv_idiv hx hb dX12_product_80 hz_28 ?_
          replace h := nm_ok h
          obtain ⟨t_29, et_29, h⟩ := h
          refine gTop et_29 ?_
          refine lv_goto (tgt := 87) hx hb dX12_product_81 (by decide) ?_
          refine lv_istore_n (lv' := [(1, .int t_29), (3, .int r_19), (2, .int r_16), (0, .ref q_this)]) hx hb dX12_product_87 rfl hl (by decide) rfl (fun ls hl => ?_)
          refine lv_goto (tgt := 5) hx hb dX12_product_88 (by decide) ?_
          exact hkk_L5 t_29 w_20 w_21 w_22 H locs hP hD hS ls (lv_sub hl [3, 0] rfl) h
      · replace h := it_t c_24 h
        refine lv_iconst (v := 0) hx hb dX12_product_68 (by decide) ?_
        refine lv_goto (tgt := 87) hx hb dX12_product_69 (by decide) ?_
        refine lv_istore_n (lv' := [(1, .int 0), (3, .int r_19), (2, .int r_16), (0, .ref q_this)]) hx hb dX12_product_87 rfl hl (by decide) rfl (fun ls hl => ?_)
        refine lv_goto (tgt := 5) hx hb dX12_product_88 (by decide) ?_
        exact hkk_L5 0 w_20 w_21 w_22 H locs hP hD hS ls (lv_sub hl [3, 0] rfl) h
    · replace h := it_t c_23 h
      refine lv_iload_n hx hb dX12_product_58 rfl (lv_at hl 3 rfl) ?_
      refine lv_iload_n hx hb dX12_product_59 rfl (lv_at hl 0 rfl) ?_
      refine lv_imul hx hb dX12_product_60 ?_
      replace h := nm_ok h
      obtain ⟨t_30, et_30, h⟩ := h
      refine gTop et_30 ?_
      refine lv_goto (tgt := 87) hx hb dX12_product_61 (by decide) ?_
      refine lv_istore_n (lv' := [(1, .int t_30), (3, .int r_19), (2, .int r_16), (0, .ref q_this)]) hx hb dX12_product_87 rfl hl (by decide) rfl (fun ls hl => ?_)
      refine lv_goto (tgt := 5) hx hb dX12_product_88 (by decide) ?_
      exact hkk_L5 t_30 w_20 w_21 w_22 H locs hP hD hS ls (lv_sub hl [3, 0] rfl) h
  have t_L5 : ∀ (n : Nat), ∀ (x1 : Int32) (v_at : Int32) (v_fault : Int32) (v_opened : Int32) (H : Heap) (locs : List Loc), va_P D gcl [(q_this, .inr (12, [.ref q_d, .ref q_kept, .int v_images, .ref q_found, .ref q_aside, .int v_base, .int v_at, .int v_size, .int v_fault, .int v_opened, .int v_isSeen, .ref q_names, .ref q_seenKept, .ref q_movedKept, .int v_isKeeping, .int v_bubbleMany, .int v_bubbleMost, .int v_bubbleCell, .int v_bestShown, .ref q_traced, .int v_traceMany, .int v_who, .ref q_bitsOf, .ref q_sizeOf, .ref q_number, .ref q_lifted])), (q_d, .inl (c 0, 244, .inl v_d)), (q_names, .inl (c 0, 3, .inl v_names))] H → va_D A [(q_this, .inr (12, [.ref q_d, .ref q_kept, .int v_images, .ref q_found, .ref q_aside, .int v_base, .int v_at, .int v_size, .int v_fault, .int v_opened, .int v_isSeen, .ref q_names, .ref q_seenKept, .ref q_movedKept, .int v_isKeeping, .int v_bubbleMany, .int v_bubbleMost, .int v_bubbleCell, .int v_bestShown, .ref q_traced, .int v_traceMany, .int v_who, .ref q_bitsOf, .ref q_sizeOf, .ref q_number, .ref q_lifted])), (q_d, .inl (c 0, 244, .inl v_d)), (q_names, .inl (c 0, 3, .inl v_names))] → va_S A s.heap H locs → ∀ ls, lv_has ls 4 [(0, .ref q_this), (1, .int x1)] → f_X12_product_L5 uu v_base v_size v_isSeen v_d v_names n x1 v_at v_fault v_opened = some (o_r, o_v_at, o_v_fault, o_v_opened) → W p l e (headSpec wsX12_product (rm_X12_product fr lo)).room s m [.ref q_this].toArray below meth co H locs 0 0 (gQI D [(q_this, .inr (12, [.ref q_d, .ref q_kept, .int v_images, .ref q_found, .ref q_aside, .int v_base, .int o_v_at, .int v_size, .int o_v_fault, .int o_v_opened, .int v_isSeen, .ref q_names, .ref q_seenKept, .ref q_movedKept, .int v_isKeeping, .int v_bubbleMany, .int v_bubbleMost, .int v_bubbleCell, .int v_bestShown, .ref q_traced, .int v_traceMany, .int v_who, .ref q_bitsOf, .ref q_sizeOf, .ref q_number, .ref q_lifted])), (q_d, .inl (c 0, 244, .inl v_d)), (q_names, .inl (c 0, 3, .inl v_names))] o_r A below [.ref q_this] s) (F0 m 5 ls []) := by
    intro n
    induction n with
    | zero => intro x1 v_at v_fault v_opened H locs hP hD hS ls hl h; exact no_ok h
    | succ n ih =>
      intro x1 v_at v_fault v_opened H locs hP hD hS ls hl h
      rw [f_X12_product_L5] at h
      refine lv_aload_n hx hb dX12_product_5 rfl (lv_at hl 0 rfl) ?_
      replace h := kb_ok h
      obtain ⟨r_7, hc_6, h⟩ := h
      refine gCallIr (isC := [0, 1]) (wc := [(q_this, .inr (12, [.ref q_d, .ref q_kept, .int v_images, .ref q_found, .ref q_aside, .int v_base, .int v_at, .int v_size, .int v_fault, .int v_opened, .int v_isSeen, .ref q_names, .ref q_seenKept, .ref q_movedKept, .int v_isKeeping, .int v_bubbleMany, .int v_bubbleMost, .int v_bubbleCell, .int v_bestShown, .ref q_traced, .int v_traceMany, .int v_who, .ref q_bitsOf, .ref q_sizeOf, .ref q_number, .ref q_lifted])), (q_d, .inl (c 0, 244, .inl v_d))]) hP hD hS hA ⟨rfl, rfl, trivial⟩ (va_runV (rm := rm_X12_here) (ws := wsX12_here) (As := []) (rest := []) (gFix hF) (c_X12_here l D c q_this q_d q_kept q_found q_aside q_names q_seenKept q_movedKept q_traced q_bitsOf q_sizeOf q_number q_lifted v_images v_base v_at v_size v_fault v_opened v_isSeen v_isKeeping v_bubbleMany v_bubbleMost v_bubbleCell v_bestShown v_traceMany v_who v_d r_7 hc_6 H.size) (cwV 0 hts gX12_product_X12_here rfl rfl rfl (by decide +kernel) ⟨show (0) + 1 ≤ fr + 1 by omega, show 8 + (1 + 11) + (0) ≤ lo + 24 by omega⟩) (gPreV (wc := [(q_this, .inr (12, [.ref q_d, .ref q_kept, .int v_images, .ref q_found, .ref q_aside, .int v_base, .int v_at, .int v_size, .int v_fault, .int v_opened, .int v_isSeen, .ref q_names, .ref q_seenKept, .ref q_movedKept, .int v_isKeeping, .int v_bubbleMany, .int v_bubbleMost, .int v_bubbleCell, .int v_bestShown, .ref q_traced, .int v_traceMany, .int v_who, .ref q_bitsOf, .ref q_sizeOf, .ref q_number, .ref q_lifted])), (q_d, .inl (c 0, 244, .inl v_d))]) (q := (RX12, TX12, 26)) (ci := 12) (q0 := 0) (isC := [0, 1]) hK hX hS hA hP hD ⟨rfl, rfl, trivial⟩ (by decide +kernel) rfl rfl) rfl rfl hl.1 rfl (lv_room (Nat.le_of_ble_eq_true rfl)) dX12_product_6 ⟨Nat.le_of_ble_eq_true rfl, Nat.le_of_ble_eq_true rfl⟩) (fun H locs hP hS => ?_)
      refine lv_bipush (v := 42) hx hb dX12_product_9 (by decide) ?_
      refine lv_icmp_eq (tgt := 32) hx hb dX12_product_11 (by decide) (fun c_8 => ?_) (fun c_8 => ?_)
      · replace h := it_t c_8 h
        exact t_L32 _ ih x1 v_at v_fault v_opened H locs hP hD hS ls (lv_sub hl [0, 1] rfl) h
      · replace h := it_f c_8 h
        refine lv_aload_n hx hb dX12_product_14 rfl (lv_at hl 0 rfl) ?_
        replace h := kb_ok h
        obtain ⟨r_10, hc_9, h⟩ := h
        refine gCallIr (isC := [0, 1]) (wc := [(q_this, .inr (12, [.ref q_d, .ref q_kept, .int v_images, .ref q_found, .ref q_aside, .int v_base, .int v_at, .int v_size, .int v_fault, .int v_opened, .int v_isSeen, .ref q_names, .ref q_seenKept, .ref q_movedKept, .int v_isKeeping, .int v_bubbleMany, .int v_bubbleMost, .int v_bubbleCell, .int v_bestShown, .ref q_traced, .int v_traceMany, .int v_who, .ref q_bitsOf, .ref q_sizeOf, .ref q_number, .ref q_lifted])), (q_d, .inl (c 0, 244, .inl v_d))]) hP hD hS hA ⟨rfl, rfl, trivial⟩ (va_runV (rm := rm_X12_here) (ws := wsX12_here) (As := []) (rest := []) (gFix hF) (c_X12_here l D c q_this q_d q_kept q_found q_aside q_names q_seenKept q_movedKept q_traced q_bitsOf q_sizeOf q_number q_lifted v_images v_base v_at v_size v_fault v_opened v_isSeen v_isKeeping v_bubbleMany v_bubbleMost v_bubbleCell v_bestShown v_traceMany v_who v_d r_10 hc_9 H.size) (cwV 0 hts gX12_product_X12_here rfl rfl rfl (by decide +kernel) ⟨show (0) + 1 ≤ fr + 1 by omega, show 8 + (1 + 11) + (0) ≤ lo + 24 by omega⟩) (gPreV (wc := [(q_this, .inr (12, [.ref q_d, .ref q_kept, .int v_images, .ref q_found, .ref q_aside, .int v_base, .int v_at, .int v_size, .int v_fault, .int v_opened, .int v_isSeen, .ref q_names, .ref q_seenKept, .ref q_movedKept, .int v_isKeeping, .int v_bubbleMany, .int v_bubbleMost, .int v_bubbleCell, .int v_bestShown, .ref q_traced, .int v_traceMany, .int v_who, .ref q_bitsOf, .ref q_sizeOf, .ref q_number, .ref q_lifted])), (q_d, .inl (c 0, 244, .inl v_d))]) (q := (RX12, TX12, 26)) (ci := 12) (q0 := 0) (isC := [0, 1]) hK hX hS hA hP hD ⟨rfl, rfl, trivial⟩ (by decide +kernel) rfl rfl) rfl rfl hl.1 rfl (lv_room (Nat.le_of_ble_eq_true rfl)) dX12_product_15 ⟨Nat.le_of_ble_eq_true rfl, Nat.le_of_ble_eq_true rfl⟩) (fun H locs hP hS => ?_)
        refine lv_bipush (v := 47) hx hb dX12_product_18 (by decide) ?_
        refine lv_icmp_eq (tgt := 32) hx hb dX12_product_20 (by decide) (fun c_11 => ?_) (fun c_11 => ?_)
        · replace h := it_t c_11 h
          exact t_L32 _ ih x1 v_at v_fault v_opened H locs hP hD hS ls (lv_sub hl [0, 1] rfl) h
        · replace h := it_f c_11 h
          refine lv_aload_n hx hb dX12_product_23 rfl (lv_at hl 0 rfl) ?_
          replace h := kb_ok h
          obtain ⟨r_13, hc_12, h⟩ := h
          refine gCallIr (isC := [0, 1]) (wc := [(q_this, .inr (12, [.ref q_d, .ref q_kept, .int v_images, .ref q_found, .ref q_aside, .int v_base, .int v_at, .int v_size, .int v_fault, .int v_opened, .int v_isSeen, .ref q_names, .ref q_seenKept, .ref q_movedKept, .int v_isKeeping, .int v_bubbleMany, .int v_bubbleMost, .int v_bubbleCell, .int v_bestShown, .ref q_traced, .int v_traceMany, .int v_who, .ref q_bitsOf, .ref q_sizeOf, .ref q_number, .ref q_lifted])), (q_d, .inl (c 0, 244, .inl v_d))]) hP hD hS hA ⟨rfl, rfl, trivial⟩ (va_runV (rm := rm_X12_here) (ws := wsX12_here) (As := []) (rest := []) (gFix hF) (c_X12_here l D c q_this q_d q_kept q_found q_aside q_names q_seenKept q_movedKept q_traced q_bitsOf q_sizeOf q_number q_lifted v_images v_base v_at v_size v_fault v_opened v_isSeen v_isKeeping v_bubbleMany v_bubbleMost v_bubbleCell v_bestShown v_traceMany v_who v_d r_13 hc_12 H.size) (cwV 0 hts gX12_product_X12_here rfl rfl rfl (by decide +kernel) ⟨show (0) + 1 ≤ fr + 1 by omega, show 8 + (1 + 11) + (0) ≤ lo + 24 by omega⟩) (gPreV (wc := [(q_this, .inr (12, [.ref q_d, .ref q_kept, .int v_images, .ref q_found, .ref q_aside, .int v_base, .int v_at, .int v_size, .int v_fault, .int v_opened, .int v_isSeen, .ref q_names, .ref q_seenKept, .ref q_movedKept, .int v_isKeeping, .int v_bubbleMany, .int v_bubbleMost, .int v_bubbleCell, .int v_bestShown, .ref q_traced, .int v_traceMany, .int v_who, .ref q_bitsOf, .ref q_sizeOf, .ref q_number, .ref q_lifted])), (q_d, .inl (c 0, 244, .inl v_d))]) (q := (RX12, TX12, 26)) (ci := 12) (q0 := 0) (isC := [0, 1]) hK hX hS hA hP hD ⟨rfl, rfl, trivial⟩ (by decide +kernel) rfl rfl) rfl rfl hl.1 rfl (lv_room (Nat.le_of_ble_eq_true rfl)) dX12_product_24 ⟨Nat.le_of_ble_eq_true rfl, Nat.le_of_ble_eq_true rfl⟩) (fun H locs hP hS => ?_)
          refine lv_bipush (v := 37) hx hb dX12_product_27 (by decide) ?_
          refine lv_icmp_ne (tgt := 91) hx hb dX12_product_29 (by decide) (fun c_14 => ?_) (fun c_14 => ?_)
          · replace h := it_f c_14 h
            refine lv_iload_n hx hb dX12_product_91 rfl (lv_at hl 1 rfl) ?_
            replace h := so4 h
            obtain ⟨z0, z1, z2, z3⟩ := h
            subst z0 z1 z2 z3
            exact gIret hF hP hD hS rfl dX12_product_92
          · replace h := it_t c_14 h
            exact t_L32 _ ih x1 v_at v_fault v_opened H locs hP hD hS ls (lv_sub hl [0, 1] rfl) h
  unfold f_X12_product at h
  refine lv_aload_n hx hb dX12_product_0 rfl (lv_at hl 0 rfl) ?_
  replace h := kb4_ok h
  obtain ⟨r_2, w_3, w_4, w_5, hc_1, h⟩ := h
  refine gCallI (isC := [0, 1, 2]) (wc := [(q_this, .inr (12, [.ref q_d, .ref q_kept, .int v_images, .ref q_found, .ref q_aside, .int v_base, .int v_at, .int v_size, .int v_fault, .int v_opened, .int v_isSeen, .ref q_names, .ref q_seenKept, .ref q_movedKept, .int v_isKeeping, .int v_bubbleMany, .int v_bubbleMost, .int v_bubbleCell, .int v_bestShown, .ref q_traced, .int v_traceMany, .int v_who, .ref q_bitsOf, .ref q_sizeOf, .ref q_number, .ref q_lifted])), (q_d, .inl (c 0, 244, .inl v_d)), (q_names, .inl (c 0, 3, .inl v_names))]) (w1 := [(q_this, .inr (12, [.ref q_d, .ref q_kept, .int v_images, .ref q_found, .ref q_aside, .int v_base, .int w_3, .int v_size, .int w_4, .int w_5, .int v_isSeen, .ref q_names, .ref q_seenKept, .ref q_movedKept, .int v_isKeeping, .int v_bubbleMany, .int v_bubbleMost, .int v_bubbleCell, .int v_bestShown, .ref q_traced, .int v_traceMany, .int v_who, .ref q_bitsOf, .ref q_sizeOf, .ref q_number, .ref q_lifted])), (q_d, .inl (c 0, 244, .inl v_d)), (q_names, .inl (c 0, 3, .inl v_names))]) (ws2 := [(q_this, .inr (12, [.ref q_d, .ref q_kept, .int v_images, .ref q_found, .ref q_aside, .int v_base, .int w_3, .int v_size, .int w_4, .int w_5, .int v_isSeen, .ref q_names, .ref q_seenKept, .ref q_movedKept, .int v_isKeeping, .int v_bubbleMany, .int v_bubbleMost, .int v_bubbleCell, .int v_bestShown, .ref q_traced, .int v_traceMany, .int v_who, .ref q_bitsOf, .ref q_sizeOf, .ref q_number, .ref q_lifted])), (q_d, .inl (c 0, 244, .inl v_d)), (q_names, .inl (c 0, 3, .inl v_names))]) (ms := [(some 0), (some 1), (some 2)]) hP hD hS hA ⟨rfl, rfl, rfl, trivial⟩ (by decide +kernel) ⟨rfl, rfl, rfl, trivial⟩ (va_runV (rm := { frames := fr, cells := 0, slots := 0, locals := lo }) (ws := wsX12_unit) (As := []) (rest := []) (gFix hF) (hu q_this q_d q_kept q_found q_aside q_names q_seenKept q_movedKept q_traced q_bitsOf q_sizeOf q_number q_lifted v_images v_base v_at v_size v_fault v_opened v_isSeen v_isKeeping v_bubbleMany v_bubbleMost v_bubbleCell v_bestShown v_traceMany v_who v_d v_names r_2 w_3 w_4 w_5 hc_1 s.heap.size) (cwV 0 hts gX12_product_X12_unit rfl rfl rfl (by decide +kernel) ⟨show (fr) + 1 ≤ fr + 1 by omega, show 8 + (5 + 11) + (lo) ≤ lo + 24 by omega⟩) (gPreV (wc := [(q_this, .inr (12, [.ref q_d, .ref q_kept, .int v_images, .ref q_found, .ref q_aside, .int v_base, .int v_at, .int v_size, .int v_fault, .int v_opened, .int v_isSeen, .ref q_names, .ref q_seenKept, .ref q_movedKept, .int v_isKeeping, .int v_bubbleMany, .int v_bubbleMost, .int v_bubbleCell, .int v_bestShown, .ref q_traced, .int v_traceMany, .int v_who, .ref q_bitsOf, .ref q_sizeOf, .ref q_number, .ref q_lifted])), (q_d, .inl (c 0, 244, .inl v_d)), (q_names, .inl (c 0, 3, .inl v_names))]) (q := (RX12, TX12, 26)) (ci := 12) (q0 := 0) (isC := [0, 1, 2]) hK hX hS hA hP hD ⟨rfl, rfl, rfl, trivial⟩ (by decide +kernel) rfl rfl) rfl rfl hl.1 rfl (lv_room (Nat.le_of_ble_eq_true rfl)) dX12_product_1 ⟨Nat.le_of_ble_eq_true rfl, Nat.le_of_ble_eq_true rfl⟩) (fun H locs hP hD hS => ?_)
  refine lv_istore_n (lv' := [(1, .int r_2), (0, .ref q_this)]) hx hb dX12_product_4 rfl hl (by decide) rfl (fun ls hl => ?_)
  exact t_L5 gFuel r_2 w_3 w_4 w_5 H locs hP hD hS ls (lv_sub hl [1, 0] rfl) h
set_option maxRecDepth 20000 in
theorem in_X12_sum_X12 : ∀ w ∈ u_ws RX12 TX12 26, w ∈ wsX12_sum := by decide +kernel
def f_X12_sum_L23 (uu : Int32 → Int32 → Int32 → Int32 → Int32 → Int32 → (Nat → Int32) → (Nat → Int32) → Option (Int32 × Int32 × Int32 × Int32)) (kk_L5 : Int32 → Int32 → Int32 → Int32 → Option (Int32 × Int32 × Int32 × Int32)) (v_base : Int32) (v_size : Int32) (v_isSeen : Int32) (v_d : Nat → Int32) (v_names : Nat → Int32) (x1 : Int32) (v_at : Int32) (v_fault : Int32) (v_opened : Int32) : Option (Int32 × Int32 × Int32 × Int32) :=
  kb (f_X12_here v_base v_at v_size v_fault v_d) fun r_13 =>
  nm (v_at + 1 : Int32) fun t_14 =>
  kb4 (f_X12_product uu v_base t_14 v_size v_fault v_opened v_isSeen v_d v_names) fun r_16 w_17 w_18 w_19 =>
  if r_13 = 43 then
    nm (x1 + r_16 : Int32) fun t_22 =>
    kk_L5 t_22 w_17 w_18 w_19
  else
    nm (x1 - r_16 : Int32) fun t_21 =>
    kk_L5 t_21 w_17 w_18 w_19

def f_X12_sum_L5 (uu : Int32 → Int32 → Int32 → Int32 → Int32 → Int32 → (Nat → Int32) → (Nat → Int32) → Option (Int32 × Int32 × Int32 × Int32)) (v_base : Int32) (v_size : Int32) (v_isSeen : Int32) (v_d : Nat → Int32) (v_names : Nat → Int32) : Nat → Int32 → Int32 → Int32 → Int32 → Option (Int32 × Int32 × Int32 × Int32)
  | 0, _, _, _, _ => none
  | n + 1, x1, v_at, v_fault, v_opened =>
    kb (f_X12_here v_base v_at v_size v_fault v_d) fun r_7 =>
    if r_7 = 43 then
      f_X12_sum_L23 uu (f_X12_sum_L5 uu v_base v_size v_isSeen v_d v_names n) v_base v_size v_isSeen v_d v_names x1 v_at v_fault v_opened
    else
      kb (f_X12_here v_base v_at v_size v_fault v_d) fun r_10 =>
      if r_10 = 45 then
        f_X12_sum_L23 uu (f_X12_sum_L5 uu v_base v_size v_isSeen v_d v_names n) v_base v_size v_isSeen v_d v_names x1 v_at v_fault v_opened
      else
        some (x1, v_at, v_fault, v_opened)

def f_X12_sum (uu : Int32 → Int32 → Int32 → Int32 → Int32 → Int32 → (Nat → Int32) → (Nat → Int32) → Option (Int32 × Int32 × Int32 × Int32)) (v_base : Int32) (v_at : Int32) (v_size : Int32) (v_fault : Int32) (v_opened : Int32) (v_isSeen : Int32) (v_d : Nat → Int32) (v_names : Nat → Int32) : Option (Int32 × Int32 × Int32 × Int32) :=
  kb4 (f_X12_product uu v_base v_at v_size v_fault v_opened v_isSeen v_d v_names) fun r_2 w_3 w_4 w_5 =>
  f_X12_sum_L5 uu v_base v_size v_isSeen v_d v_names gFuel r_2 w_3 w_4 w_5

abbrev rm_X12_sum (fr lo : Nat) : Room := { frames := fr + 2, cells := 0, slots := 0, locals := lo + 47 }
set_option maxHeartbeats 4000000 in
set_option maxRecDepth 100000 in
theorem c_X12_sum (l : Launch) (D : va_G) (c : Nat → ClassId) (uu : Int32 → Int32 → Int32 → Int32 → Int32 → Int32 → (Nat → Int32) → (Nat → Int32) → Option (Int32 × Int32 × Int32 × Int32)) (fr lo : Nat) (hu : ∀ (q_this q_d q_kept q_found q_aside q_names q_seenKept q_movedKept q_traced q_bitsOf q_sizeOf q_number q_lifted : Nat) (v_images : Int32) (v_base : Int32) (v_at : Int32) (v_size : Int32) (v_fault : Int32) (v_opened : Int32) (v_isSeen : Int32) (v_isKeeping : Int32) (v_bubbleMany : Int32) (v_bubbleMost : Int32) (v_bubbleCell : Int32) (v_bestShown : Int32) (v_traceMany : Int32) (v_who : Int32) (v_d : Nat → Int32) (v_names : Nat → Int32) (o_r : Int32) (o_v_at : Int32) (o_v_fault : Int32) (o_v_opened : Int32), uu v_base v_at v_size v_fault v_opened v_isSeen v_d v_names = some (o_r, o_v_at, o_v_fault, o_v_opened) → gMI l yX12_unit wsX12_unit { frames := fr, cells := 0, slots := 0, locals := lo } D c [.ref q_this] [(q_this, .inr (12, [.ref q_d, .ref q_kept, .int v_images, .ref q_found, .ref q_aside, .int v_base, .int v_at, .int v_size, .int v_fault, .int v_opened, .int v_isSeen, .ref q_names, .ref q_seenKept, .ref q_movedKept, .int v_isKeeping, .int v_bubbleMany, .int v_bubbleMost, .int v_bubbleCell, .int v_bestShown, .ref q_traced, .int v_traceMany, .int v_who, .ref q_bitsOf, .ref q_sizeOf, .ref q_number, .ref q_lifted])), (q_d, .inl (c 0, 244, .inl v_d)), (q_names, .inl (c 0, 3, .inl v_names))] [(q_this, .inr (12, [.ref q_d, .ref q_kept, .int v_images, .ref q_found, .ref q_aside, .int v_base, .int o_v_at, .int v_size, .int o_v_fault, .int o_v_opened, .int v_isSeen, .ref q_names, .ref q_seenKept, .ref q_movedKept, .int v_isKeeping, .int v_bubbleMany, .int v_bubbleMost, .int v_bubbleCell, .int v_bestShown, .ref q_traced, .int v_traceMany, .int v_who, .ref q_bitsOf, .ref q_sizeOf, .ref q_number, .ref q_lifted])), (q_d, .inl (c 0, 244, .inl v_d)), (q_names, .inl (c 0, 3, .inl v_names))] o_r) (q_this q_d q_kept q_found q_aside q_names q_seenKept q_movedKept q_traced q_bitsOf q_sizeOf q_number q_lifted : Nat) (v_images : Int32) (v_base : Int32) (v_at : Int32) (v_size : Int32) (v_fault : Int32) (v_opened : Int32) (v_isSeen : Int32) (v_isKeeping : Int32) (v_bubbleMany : Int32) (v_bubbleMost : Int32) (v_bubbleCell : Int32) (v_bestShown : Int32) (v_traceMany : Int32) (v_who : Int32) (v_d : Nat → Int32) (v_names : Nat → Int32) (o_r : Int32) (o_v_at : Int32) (o_v_fault : Int32) (o_v_opened : Int32) (h : f_X12_sum uu v_base v_at v_size v_fault v_opened v_isSeen v_d v_names = some (o_r, o_v_at, o_v_fault, o_v_opened)) : gMI l yX12_sum wsX12_sum (rm_X12_sum fr lo) D c [.ref q_this] [(q_this, .inr (12, [.ref q_d, .ref q_kept, .int v_images, .ref q_found, .ref q_aside, .int v_base, .int v_at, .int v_size, .int v_fault, .int v_opened, .int v_isSeen, .ref q_names, .ref q_seenKept, .ref q_movedKept, .int v_isKeeping, .int v_bubbleMany, .int v_bubbleMost, .int v_bubbleCell, .int v_bestShown, .ref q_traced, .int v_traceMany, .int v_who, .ref q_bitsOf, .ref q_sizeOf, .ref q_number, .ref q_lifted])), (q_d, .inl (c 0, 244, .inl v_d)), (q_names, .inl (c 0, 3, .inl v_names))] [(q_this, .inr (12, [.ref q_d, .ref q_kept, .int v_images, .ref q_found, .ref q_aside, .int v_base, .int o_v_at, .int v_size, .int o_v_fault, .int o_v_opened, .int v_isSeen, .ref q_names, .ref q_seenKept, .ref q_movedKept, .int v_isKeeping, .int v_bubbleMany, .int v_bubbleMost, .int v_bubbleCell, .int v_bestShown, .ref q_traced, .int v_traceMany, .int v_who, .ref q_bitsOf, .ref q_sizeOf, .ref q_number, .ref q_lifted])), (q_d, .inl (c 0, 244, .inl v_d)), (q_names, .inl (c 0, 3, .inl v_names))] o_r := by
  refine gMI_of (cc := cX12_sum) (maxL := 4) (rt := (some .int)) (by decide +kernel) rfl (Nat.le_of_ble_eq_true rfl) ?_
  intro p e s m below meth co A hF hK hX hP hD hA hS ls hl
  obtain ⟨hx, hb, hr, hts, hown, hlocks, hml⟩ := id hF
  have hl : lv_has ls 4 [(0, .ref q_this)] := hl
  have t_L23 : ∀ (kk_L5 : Int32 → Int32 → Int32 → Int32 → Option (Int32 × Int32 × Int32 × Int32)), (∀ (x1 : Int32) (v_at : Int32) (v_fault : Int32) (v_opened : Int32) (H : Heap) (locs : List Loc), va_P D gcl [(q_this, .inr (12, [.ref q_d, .ref q_kept, .int v_images, .ref q_found, .ref q_aside, .int v_base, .int v_at, .int v_size, .int v_fault, .int v_opened, .int v_isSeen, .ref q_names, .ref q_seenKept, .ref q_movedKept, .int v_isKeeping, .int v_bubbleMany, .int v_bubbleMost, .int v_bubbleCell, .int v_bestShown, .ref q_traced, .int v_traceMany, .int v_who, .ref q_bitsOf, .ref q_sizeOf, .ref q_number, .ref q_lifted])), (q_d, .inl (c 0, 244, .inl v_d)), (q_names, .inl (c 0, 3, .inl v_names))] H → va_D A [(q_this, .inr (12, [.ref q_d, .ref q_kept, .int v_images, .ref q_found, .ref q_aside, .int v_base, .int v_at, .int v_size, .int v_fault, .int v_opened, .int v_isSeen, .ref q_names, .ref q_seenKept, .ref q_movedKept, .int v_isKeeping, .int v_bubbleMany, .int v_bubbleMost, .int v_bubbleCell, .int v_bestShown, .ref q_traced, .int v_traceMany, .int v_who, .ref q_bitsOf, .ref q_sizeOf, .ref q_number, .ref q_lifted])), (q_d, .inl (c 0, 244, .inl v_d)), (q_names, .inl (c 0, 3, .inl v_names))] → va_S A s.heap H locs → ∀ ls, lv_has ls 4 [(0, .ref q_this), (1, .int x1)] → kk_L5 x1 v_at v_fault v_opened = some (o_r, o_v_at, o_v_fault, o_v_opened) → W p l e (headSpec wsX12_sum (rm_X12_sum fr lo)).room s m [.ref q_this].toArray below meth co H locs 0 0 (gQI D [(q_this, .inr (12, [.ref q_d, .ref q_kept, .int v_images, .ref q_found, .ref q_aside, .int v_base, .int o_v_at, .int v_size, .int o_v_fault, .int o_v_opened, .int v_isSeen, .ref q_names, .ref q_seenKept, .ref q_movedKept, .int v_isKeeping, .int v_bubbleMany, .int v_bubbleMost, .int v_bubbleCell, .int v_bestShown, .ref q_traced, .int v_traceMany, .int v_who, .ref q_bitsOf, .ref q_sizeOf, .ref q_number, .ref q_lifted])), (q_d, .inl (c 0, 244, .inl v_d)), (q_names, .inl (c 0, 3, .inl v_names))] o_r A below [.ref q_this] s) (F0 m 5 ls [])) → ∀ (x1 : Int32) (v_at : Int32) (v_fault : Int32) (v_opened : Int32) (H : Heap) (locs : List Loc), va_P D gcl [(q_this, .inr (12, [.ref q_d, .ref q_kept, .int v_images, .ref q_found, .ref q_aside, .int v_base, .int v_at, .int v_size, .int v_fault, .int v_opened, .int v_isSeen, .ref q_names, .ref q_seenKept, .ref q_movedKept, .int v_isKeeping, .int v_bubbleMany, .int v_bubbleMost, .int v_bubbleCell, .int v_bestShown, .ref q_traced, .int v_traceMany, .int v_who, .ref q_bitsOf, .ref q_sizeOf, .ref q_number, .ref q_lifted])), (q_d, .inl (c 0, 244, .inl v_d)), (q_names, .inl (c 0, 3, .inl v_names))] H → va_D A [(q_this, .inr (12, [.ref q_d, .ref q_kept, .int v_images, .ref q_found, .ref q_aside, .int v_base, .int v_at, .int v_size, .int v_fault, .int v_opened, .int v_isSeen, .ref q_names, .ref q_seenKept, .ref q_movedKept, .int v_isKeeping, .int v_bubbleMany, .int v_bubbleMost, .int v_bubbleCell, .int v_bestShown, .ref q_traced, .int v_traceMany, .int v_who, .ref q_bitsOf, .ref q_sizeOf, .ref q_number, .ref q_lifted])), (q_d, .inl (c 0, 244, .inl v_d)), (q_names, .inl (c 0, 3, .inl v_names))] → va_S A s.heap H locs → ∀ ls, lv_has ls 4 [(0, .ref q_this), (1, .int x1)] → f_X12_sum_L23 uu kk_L5 v_base v_size v_isSeen v_d v_names x1 v_at v_fault v_opened = some (o_r, o_v_at, o_v_fault, o_v_opened) → W p l e (headSpec wsX12_sum (rm_X12_sum fr lo)).room s m [.ref q_this].toArray below meth co H locs 0 0 (gQI D [(q_this, .inr (12, [.ref q_d, .ref q_kept, .int v_images, .ref q_found, .ref q_aside, .int v_base, .int o_v_at, .int v_size, .int o_v_fault, .int o_v_opened, .int v_isSeen, .ref q_names, .ref q_seenKept, .ref q_movedKept, .int v_isKeeping, .int v_bubbleMany, .int v_bubbleMost, .int v_bubbleCell, .int v_bestShown, .ref q_traced, .int v_traceMany, .int v_who, .ref q_bitsOf, .ref q_sizeOf, .ref q_number, .ref q_lifted])), (q_d, .inl (c 0, 244, .inl v_d)), (q_names, .inl (c 0, 3, .inl v_names))] o_r A below [.ref q_this] s) (F0 m 23 ls []) := by
    intro kk_L5 hkk_L5 x1 v_at v_fault v_opened H locs hP hD hS ls hl h
    unfold f_X12_sum_L23 at h
    refine lv_aload_n hx hb dX12_sum_23 rfl (lv_at hl 0 rfl) ?_
    replace h := kb_ok h
    obtain ⟨r_13, hc_12, h⟩ := h
    refine gCallIr (isC := [0, 1]) (wc := [(q_this, .inr (12, [.ref q_d, .ref q_kept, .int v_images, .ref q_found, .ref q_aside, .int v_base, .int v_at, .int v_size, .int v_fault, .int v_opened, .int v_isSeen, .ref q_names, .ref q_seenKept, .ref q_movedKept, .int v_isKeeping, .int v_bubbleMany, .int v_bubbleMost, .int v_bubbleCell, .int v_bestShown, .ref q_traced, .int v_traceMany, .int v_who, .ref q_bitsOf, .ref q_sizeOf, .ref q_number, .ref q_lifted])), (q_d, .inl (c 0, 244, .inl v_d))]) hP hD hS hA ⟨rfl, rfl, trivial⟩ (va_runV (rm := rm_X12_here) (ws := wsX12_here) (As := []) (rest := []) (gFix hF) (c_X12_here l D c q_this q_d q_kept q_found q_aside q_names q_seenKept q_movedKept q_traced q_bitsOf q_sizeOf q_number q_lifted v_images v_base v_at v_size v_fault v_opened v_isSeen v_isKeeping v_bubbleMany v_bubbleMost v_bubbleCell v_bestShown v_traceMany v_who v_d r_13 hc_12 H.size) (cwV 0 hts gX12_sum_X12_here rfl rfl rfl (by decide +kernel) ⟨show (0) + 1 ≤ fr + 2 by omega, show 8 + (1 + 11) + (0) ≤ lo + 47 by omega⟩) (gPreV (wc := [(q_this, .inr (12, [.ref q_d, .ref q_kept, .int v_images, .ref q_found, .ref q_aside, .int v_base, .int v_at, .int v_size, .int v_fault, .int v_opened, .int v_isSeen, .ref q_names, .ref q_seenKept, .ref q_movedKept, .int v_isKeeping, .int v_bubbleMany, .int v_bubbleMost, .int v_bubbleCell, .int v_bestShown, .ref q_traced, .int v_traceMany, .int v_who, .ref q_bitsOf, .ref q_sizeOf, .ref q_number, .ref q_lifted])), (q_d, .inl (c 0, 244, .inl v_d))]) (q := (RX12, TX12, 26)) (ci := 12) (q0 := 0) (isC := [0, 1]) hK hX hS hA hP hD ⟨rfl, rfl, trivial⟩ (by decide +kernel) rfl rfl) rfl rfl hl.1 rfl (lv_room (Nat.le_of_ble_eq_true rfl)) dX12_sum_24 ⟨Nat.le_of_ble_eq_true rfl, Nat.le_of_ble_eq_true rfl⟩) (fun H locs hP hS => ?_)
    refine lv_istore_n (lv' := [(2, .int r_13), (0, .ref q_this), (1, .int x1)]) hx hb dX12_sum_27 rfl hl (by decide) rfl (fun ls hl => ?_)
    refine lv_aload_n hx hb dX12_sum_28 rfl (lv_at hl 1 rfl) ?_
    refine lv_dup hx hb dX12_sum_29 rfl ?_
    refine va_get (D := D) (ci := 12) (v := .int v_at) (C := RX12) (T := TX12) (N := 26) hx hb hts in_X12_sum_X12 hown hK.1 hP 0 rfl rfl 6 (by decide) (hts (.fieldLink RX12 61 "PaperBubblesModel" "at" "I") (List.mem_of_getElem? (i := 1) rfl)) (fun _ h9 => h9) rfl dX12_sum_30 ?_
    refine lv_iconst (v := 1) hx hb dX12_sum_33 (by decide) ?_
    refine lv_iadd hx hb dX12_sum_34 ?_
    replace h := nm_ok h
    obtain ⟨t_14, et_14, h⟩ := h
    refine gTop et_14 ?_
    refine va_put (D := D) (ci := 12) (v := .int t_14) (ty := .int) (C := RX12) (T := TX12) (N := 26) hx hb hts in_X12_sum_X12 tyX12 tyX12_ok nmX12 hown hK.1 hP hD hS 0 rfl rfl 6 (by decide) (hts (.fieldLink RX12 61 "PaperBubblesModel" "at" "I") (List.mem_of_getElem? (i := 1) rfl)) (fun _ h9 => h9) rfl (by decide +kernel) rfl rfl (Nat.le_of_ble_eq_true rfl) dX12_sum_35 (fun H locs hP hD hS => ?_)
    have hP : va_P D gcl [(q_this, .inr (12, [.ref q_d, .ref q_kept, .int v_images, .ref q_found, .ref q_aside, .int v_base, .int t_14, .int v_size, .int v_fault, .int v_opened, .int v_isSeen, .ref q_names, .ref q_seenKept, .ref q_movedKept, .int v_isKeeping, .int v_bubbleMany, .int v_bubbleMost, .int v_bubbleCell, .int v_bestShown, .ref q_traced, .int v_traceMany, .int v_who, .ref q_bitsOf, .ref q_sizeOf, .ref q_number, .ref q_lifted])), (q_d, .inl (c 0, 244, .inl v_d)), (q_names, .inl (c 0, 3, .inl v_names))] H := hP
    have hD : va_D A [(q_this, .inr (12, [.ref q_d, .ref q_kept, .int v_images, .ref q_found, .ref q_aside, .int v_base, .int t_14, .int v_size, .int v_fault, .int v_opened, .int v_isSeen, .ref q_names, .ref q_seenKept, .ref q_movedKept, .int v_isKeeping, .int v_bubbleMany, .int v_bubbleMost, .int v_bubbleCell, .int v_bestShown, .ref q_traced, .int v_traceMany, .int v_who, .ref q_bitsOf, .ref q_sizeOf, .ref q_number, .ref q_lifted])), (q_d, .inl (c 0, 244, .inl v_d)), (q_names, .inl (c 0, 3, .inl v_names))] := hD
    refine lv_aload_n hx hb dX12_sum_38 rfl (lv_at hl 1 rfl) ?_
    replace h := kb4_ok h
    obtain ⟨r_16, w_17, w_18, w_19, hc_15, h⟩ := h
    refine gCallI (isC := [0, 1, 2]) (wc := [(q_this, .inr (12, [.ref q_d, .ref q_kept, .int v_images, .ref q_found, .ref q_aside, .int v_base, .int t_14, .int v_size, .int v_fault, .int v_opened, .int v_isSeen, .ref q_names, .ref q_seenKept, .ref q_movedKept, .int v_isKeeping, .int v_bubbleMany, .int v_bubbleMost, .int v_bubbleCell, .int v_bestShown, .ref q_traced, .int v_traceMany, .int v_who, .ref q_bitsOf, .ref q_sizeOf, .ref q_number, .ref q_lifted])), (q_d, .inl (c 0, 244, .inl v_d)), (q_names, .inl (c 0, 3, .inl v_names))]) (w1 := [(q_this, .inr (12, [.ref q_d, .ref q_kept, .int v_images, .ref q_found, .ref q_aside, .int v_base, .int w_17, .int v_size, .int w_18, .int w_19, .int v_isSeen, .ref q_names, .ref q_seenKept, .ref q_movedKept, .int v_isKeeping, .int v_bubbleMany, .int v_bubbleMost, .int v_bubbleCell, .int v_bestShown, .ref q_traced, .int v_traceMany, .int v_who, .ref q_bitsOf, .ref q_sizeOf, .ref q_number, .ref q_lifted])), (q_d, .inl (c 0, 244, .inl v_d)), (q_names, .inl (c 0, 3, .inl v_names))]) (ws2 := [(q_this, .inr (12, [.ref q_d, .ref q_kept, .int v_images, .ref q_found, .ref q_aside, .int v_base, .int w_17, .int v_size, .int w_18, .int w_19, .int v_isSeen, .ref q_names, .ref q_seenKept, .ref q_movedKept, .int v_isKeeping, .int v_bubbleMany, .int v_bubbleMost, .int v_bubbleCell, .int v_bestShown, .ref q_traced, .int v_traceMany, .int v_who, .ref q_bitsOf, .ref q_sizeOf, .ref q_number, .ref q_lifted])), (q_d, .inl (c 0, 244, .inl v_d)), (q_names, .inl (c 0, 3, .inl v_names))]) (ms := [(some 0), (some 1), (some 2)]) hP hD hS hA ⟨rfl, rfl, rfl, trivial⟩ (by decide +kernel) ⟨rfl, rfl, rfl, trivial⟩ (va_runV (rm := (rm_X12_product fr lo)) (ws := wsX12_product) (As := []) (rest := []) (gFix hF) (c_X12_product l D c uu fr lo hu q_this q_d q_kept q_found q_aside q_names q_seenKept q_movedKept q_traced q_bitsOf q_sizeOf q_number q_lifted v_images v_base t_14 v_size v_fault v_opened v_isSeen v_isKeeping v_bubbleMany v_bubbleMost v_bubbleCell v_bestShown v_traceMany v_who v_d v_names r_16 w_17 w_18 w_19 hc_15 H.size) (cwV 0 hts gX12_sum_X12_product rfl rfl rfl (by decide +kernel) ⟨show (fr + 1) + 1 ≤ fr + 2 by omega, show 8 + (4 + 11) + (lo + 24) ≤ lo + 47 by omega⟩) (gPreV (wc := [(q_this, .inr (12, [.ref q_d, .ref q_kept, .int v_images, .ref q_found, .ref q_aside, .int v_base, .int t_14, .int v_size, .int v_fault, .int v_opened, .int v_isSeen, .ref q_names, .ref q_seenKept, .ref q_movedKept, .int v_isKeeping, .int v_bubbleMany, .int v_bubbleMost, .int v_bubbleCell, .int v_bestShown, .ref q_traced, .int v_traceMany, .int v_who, .ref q_bitsOf, .ref q_sizeOf, .ref q_number, .ref q_lifted])), (q_d, .inl (c 0, 244, .inl v_d)), (q_names, .inl (c 0, 3, .inl v_names))]) (q := (RX12, TX12, 26)) (ci := 12) (q0 := 0) (isC := [0, 1, 2]) hK hX hS hA hP hD ⟨rfl, rfl, rfl, trivial⟩ (by decide +kernel) rfl rfl) rfl rfl hl.1 rfl (lv_room (Nat.le_of_ble_eq_true rfl)) dX12_sum_39 ⟨Nat.le_of_ble_eq_true rfl, Nat.le_of_ble_eq_true rfl⟩) (fun H locs hP hD hS => ?_)
    refine lv_istore_n (lv' := [(3, .int r_16), (2, .int r_13), (0, .ref q_this), (1, .int x1)]) hx hb dX12_sum_42 rfl hl (by decide) rfl (fun ls hl => ?_)
    refine lv_iload_n hx hb dX12_sum_43 rfl (lv_at hl 1 rfl) ?_
    refine lv_bipush (v := 43) hx hb dX12_sum_44 (by decide) ?_
    refine lv_icmp_ne (tgt := 55) hx hb dX12_sum_46 (by decide) (fun c_20 => ?_) (fun c_20 => ?_)
    · replace h := it_f c_20 h
      refine lv_iload_n hx hb dX12_sum_55 rfl (lv_at hl 3 rfl) ?_
      refine lv_iload_n hx hb dX12_sum_56 rfl (lv_at hl 0 rfl) ?_
      refine lv_isub hx hb dX12_sum_57 ?_
      replace h := nm_ok h
      obtain ⟨t_21, et_21, h⟩ := h
      refine gTop et_21 ?_
      refine lv_istore_n (lv' := [(1, .int t_21), (3, .int r_16), (2, .int r_13), (0, .ref q_this)]) hx hb dX12_sum_58 rfl hl (by decide) rfl (fun ls hl => ?_)
      refine lv_goto (tgt := 5) hx hb dX12_sum_59 (by decide) ?_
      exact hkk_L5 t_21 w_17 w_18 w_19 H locs hP hD hS ls (lv_sub hl [3, 0] rfl) h
    · replace h := it_t c_20 h
      refine lv_iload_n hx hb dX12_sum_49 rfl (lv_at hl 3 rfl) ?_
      refine lv_iload_n hx hb dX12_sum_50 rfl (lv_at hl 0 rfl) ?_
      refine lv_iadd hx hb dX12_sum_51 ?_
      replace h := nm_ok h
      obtain ⟨t_22, et_22, h⟩ := h
      refine gTop et_22 ?_
      refine lv_goto (tgt := 58) hx hb dX12_sum_52 (by decide) ?_
      refine lv_istore_n (lv' := [(1, .int t_22), (3, .int r_16), (2, .int r_13), (0, .ref q_this)]) hx hb dX12_sum_58 rfl hl (by decide) rfl (fun ls hl => ?_)
      refine lv_goto (tgt := 5) hx hb dX12_sum_59 (by decide) ?_
      exact hkk_L5 t_22 w_17 w_18 w_19 H locs hP hD hS ls (lv_sub hl [3, 0] rfl) h
  have t_L5 : ∀ (n : Nat), ∀ (x1 : Int32) (v_at : Int32) (v_fault : Int32) (v_opened : Int32) (H : Heap) (locs : List Loc), va_P D gcl [(q_this, .inr (12, [.ref q_d, .ref q_kept, .int v_images, .ref q_found, .ref q_aside, .int v_base, .int v_at, .int v_size, .int v_fault, .int v_opened, .int v_isSeen, .ref q_names, .ref q_seenKept, .ref q_movedKept, .int v_isKeeping, .int v_bubbleMany, .int v_bubbleMost, .int v_bubbleCell, .int v_bestShown, .ref q_traced, .int v_traceMany, .int v_who, .ref q_bitsOf, .ref q_sizeOf, .ref q_number, .ref q_lifted])), (q_d, .inl (c 0, 244, .inl v_d)), (q_names, .inl (c 0, 3, .inl v_names))] H → va_D A [(q_this, .inr (12, [.ref q_d, .ref q_kept, .int v_images, .ref q_found, .ref q_aside, .int v_base, .int v_at, .int v_size, .int v_fault, .int v_opened, .int v_isSeen, .ref q_names, .ref q_seenKept, .ref q_movedKept, .int v_isKeeping, .int v_bubbleMany, .int v_bubbleMost, .int v_bubbleCell, .int v_bestShown, .ref q_traced, .int v_traceMany, .int v_who, .ref q_bitsOf, .ref q_sizeOf, .ref q_number, .ref q_lifted])), (q_d, .inl (c 0, 244, .inl v_d)), (q_names, .inl (c 0, 3, .inl v_names))] → va_S A s.heap H locs → ∀ ls, lv_has ls 4 [(0, .ref q_this), (1, .int x1)] → f_X12_sum_L5 uu v_base v_size v_isSeen v_d v_names n x1 v_at v_fault v_opened = some (o_r, o_v_at, o_v_fault, o_v_opened) → W p l e (headSpec wsX12_sum (rm_X12_sum fr lo)).room s m [.ref q_this].toArray below meth co H locs 0 0 (gQI D [(q_this, .inr (12, [.ref q_d, .ref q_kept, .int v_images, .ref q_found, .ref q_aside, .int v_base, .int o_v_at, .int v_size, .int o_v_fault, .int o_v_opened, .int v_isSeen, .ref q_names, .ref q_seenKept, .ref q_movedKept, .int v_isKeeping, .int v_bubbleMany, .int v_bubbleMost, .int v_bubbleCell, .int v_bestShown, .ref q_traced, .int v_traceMany, .int v_who, .ref q_bitsOf, .ref q_sizeOf, .ref q_number, .ref q_lifted])), (q_d, .inl (c 0, 244, .inl v_d)), (q_names, .inl (c 0, 3, .inl v_names))] o_r A below [.ref q_this] s) (F0 m 5 ls []) := by
    intro n
    induction n with
    | zero => intro x1 v_at v_fault v_opened H locs hP hD hS ls hl h; exact no_ok h
    | succ n ih =>
      intro x1 v_at v_fault v_opened H locs hP hD hS ls hl h
      rw [f_X12_sum_L5] at h
      refine lv_aload_n hx hb dX12_sum_5 rfl (lv_at hl 0 rfl) ?_
      replace h := kb_ok h
      obtain ⟨r_7, hc_6, h⟩ := h
      refine gCallIr (isC := [0, 1]) (wc := [(q_this, .inr (12, [.ref q_d, .ref q_kept, .int v_images, .ref q_found, .ref q_aside, .int v_base, .int v_at, .int v_size, .int v_fault, .int v_opened, .int v_isSeen, .ref q_names, .ref q_seenKept, .ref q_movedKept, .int v_isKeeping, .int v_bubbleMany, .int v_bubbleMost, .int v_bubbleCell, .int v_bestShown, .ref q_traced, .int v_traceMany, .int v_who, .ref q_bitsOf, .ref q_sizeOf, .ref q_number, .ref q_lifted])), (q_d, .inl (c 0, 244, .inl v_d))]) hP hD hS hA ⟨rfl, rfl, trivial⟩ (va_runV (rm := rm_X12_here) (ws := wsX12_here) (As := []) (rest := []) (gFix hF) (c_X12_here l D c q_this q_d q_kept q_found q_aside q_names q_seenKept q_movedKept q_traced q_bitsOf q_sizeOf q_number q_lifted v_images v_base v_at v_size v_fault v_opened v_isSeen v_isKeeping v_bubbleMany v_bubbleMost v_bubbleCell v_bestShown v_traceMany v_who v_d r_7 hc_6 H.size) (cwV 0 hts gX12_sum_X12_here rfl rfl rfl (by decide +kernel) ⟨show (0) + 1 ≤ fr + 2 by omega, show 8 + (1 + 11) + (0) ≤ lo + 47 by omega⟩) (gPreV (wc := [(q_this, .inr (12, [.ref q_d, .ref q_kept, .int v_images, .ref q_found, .ref q_aside, .int v_base, .int v_at, .int v_size, .int v_fault, .int v_opened, .int v_isSeen, .ref q_names, .ref q_seenKept, .ref q_movedKept, .int v_isKeeping, .int v_bubbleMany, .int v_bubbleMost, .int v_bubbleCell, .int v_bestShown, .ref q_traced, .int v_traceMany, .int v_who, .ref q_bitsOf, .ref q_sizeOf, .ref q_number, .ref q_lifted])), (q_d, .inl (c 0, 244, .inl v_d))]) (q := (RX12, TX12, 26)) (ci := 12) (q0 := 0) (isC := [0, 1]) hK hX hS hA hP hD ⟨rfl, rfl, trivial⟩ (by decide +kernel) rfl rfl) rfl rfl hl.1 rfl (lv_room (Nat.le_of_ble_eq_true rfl)) dX12_sum_6 ⟨Nat.le_of_ble_eq_true rfl, Nat.le_of_ble_eq_true rfl⟩) (fun H locs hP hS => ?_)
      refine lv_bipush (v := 43) hx hb dX12_sum_9 (by decide) ?_
      refine lv_icmp_eq (tgt := 23) hx hb dX12_sum_11 (by decide) (fun c_8 => ?_) (fun c_8 => ?_)
      · replace h := it_t c_8 h
        exact t_L23 _ ih x1 v_at v_fault v_opened H locs hP hD hS ls (lv_sub hl [0, 1] rfl) h
      · replace h := it_f c_8 h
        refine lv_aload_n hx hb dX12_sum_14 rfl (lv_at hl 0 rfl) ?_
        replace h := kb_ok h
        obtain ⟨r_10, hc_9, h⟩ := h
        refine gCallIr (isC := [0, 1]) (wc := [(q_this, .inr (12, [.ref q_d, .ref q_kept, .int v_images, .ref q_found, .ref q_aside, .int v_base, .int v_at, .int v_size, .int v_fault, .int v_opened, .int v_isSeen, .ref q_names, .ref q_seenKept, .ref q_movedKept, .int v_isKeeping, .int v_bubbleMany, .int v_bubbleMost, .int v_bubbleCell, .int v_bestShown, .ref q_traced, .int v_traceMany, .int v_who, .ref q_bitsOf, .ref q_sizeOf, .ref q_number, .ref q_lifted])), (q_d, .inl (c 0, 244, .inl v_d))]) hP hD hS hA ⟨rfl, rfl, trivial⟩ (va_runV (rm := rm_X12_here) (ws := wsX12_here) (As := []) (rest := []) (gFix hF) (c_X12_here l D c q_this q_d q_kept q_found q_aside q_names q_seenKept q_movedKept q_traced q_bitsOf q_sizeOf q_number q_lifted v_images v_base v_at v_size v_fault v_opened v_isSeen v_isKeeping v_bubbleMany v_bubbleMost v_bubbleCell v_bestShown v_traceMany v_who v_d r_10 hc_9 H.size) (cwV 0 hts gX12_sum_X12_here rfl rfl rfl (by decide +kernel) ⟨show (0) + 1 ≤ fr + 2 by omega, show 8 + (1 + 11) + (0) ≤ lo + 47 by omega⟩) (gPreV (wc := [(q_this, .inr (12, [.ref q_d, .ref q_kept, .int v_images, .ref q_found, .ref q_aside, .int v_base, .int v_at, .int v_size, .int v_fault, .int v_opened, .int v_isSeen, .ref q_names, .ref q_seenKept, .ref q_movedKept, .int v_isKeeping, .int v_bubbleMany, .int v_bubbleMost, .int v_bubbleCell, .int v_bestShown, .ref q_traced, .int v_traceMany, .int v_who, .ref q_bitsOf, .ref q_sizeOf, .ref q_number, .ref q_lifted])), (q_d, .inl (c 0, 244, .inl v_d))]) (q := (RX12, TX12, 26)) (ci := 12) (q0 := 0) (isC := [0, 1]) hK hX hS hA hP hD ⟨rfl, rfl, trivial⟩ (by decide +kernel) rfl rfl) rfl rfl hl.1 rfl (lv_room (Nat.le_of_ble_eq_true rfl)) dX12_sum_15 ⟨Nat.le_of_ble_eq_true rfl, Nat.le_of_ble_eq_true rfl⟩) (fun H locs hP hS => ?_)
        refine lv_bipush (v := 45) hx hb dX12_sum_18 (by decide) ?_
        refine lv_icmp_ne (tgt := 62) hx hb dX12_sum_20 (by decide) (fun c_11 => ?_) (fun c_11 => ?_)
        · replace h := it_f c_11 h
          refine lv_iload_n hx hb dX12_sum_62 rfl (lv_at hl 1 rfl) ?_
          replace h := so4 h
          obtain ⟨z0, z1, z2, z3⟩ := h
          subst z0 z1 z2 z3
          exact gIret hF hP hD hS rfl dX12_sum_63
        · replace h := it_t c_11 h
          exact t_L23 _ ih x1 v_at v_fault v_opened H locs hP hD hS ls (lv_sub hl [0, 1] rfl) h
  unfold f_X12_sum at h
  refine lv_aload_n hx hb dX12_sum_0 rfl (lv_at hl 0 rfl) ?_
  replace h := kb4_ok h
  obtain ⟨r_2, w_3, w_4, w_5, hc_1, h⟩ := h
  refine gCallI (isC := [0, 1, 2]) (wc := [(q_this, .inr (12, [.ref q_d, .ref q_kept, .int v_images, .ref q_found, .ref q_aside, .int v_base, .int v_at, .int v_size, .int v_fault, .int v_opened, .int v_isSeen, .ref q_names, .ref q_seenKept, .ref q_movedKept, .int v_isKeeping, .int v_bubbleMany, .int v_bubbleMost, .int v_bubbleCell, .int v_bestShown, .ref q_traced, .int v_traceMany, .int v_who, .ref q_bitsOf, .ref q_sizeOf, .ref q_number, .ref q_lifted])), (q_d, .inl (c 0, 244, .inl v_d)), (q_names, .inl (c 0, 3, .inl v_names))]) (w1 := [(q_this, .inr (12, [.ref q_d, .ref q_kept, .int v_images, .ref q_found, .ref q_aside, .int v_base, .int w_3, .int v_size, .int w_4, .int w_5, .int v_isSeen, .ref q_names, .ref q_seenKept, .ref q_movedKept, .int v_isKeeping, .int v_bubbleMany, .int v_bubbleMost, .int v_bubbleCell, .int v_bestShown, .ref q_traced, .int v_traceMany, .int v_who, .ref q_bitsOf, .ref q_sizeOf, .ref q_number, .ref q_lifted])), (q_d, .inl (c 0, 244, .inl v_d)), (q_names, .inl (c 0, 3, .inl v_names))]) (ws2 := [(q_this, .inr (12, [.ref q_d, .ref q_kept, .int v_images, .ref q_found, .ref q_aside, .int v_base, .int w_3, .int v_size, .int w_4, .int w_5, .int v_isSeen, .ref q_names, .ref q_seenKept, .ref q_movedKept, .int v_isKeeping, .int v_bubbleMany, .int v_bubbleMost, .int v_bubbleCell, .int v_bestShown, .ref q_traced, .int v_traceMany, .int v_who, .ref q_bitsOf, .ref q_sizeOf, .ref q_number, .ref q_lifted])), (q_d, .inl (c 0, 244, .inl v_d)), (q_names, .inl (c 0, 3, .inl v_names))]) (ms := [(some 0), (some 1), (some 2)]) hP hD hS hA ⟨rfl, rfl, rfl, trivial⟩ (by decide +kernel) ⟨rfl, rfl, rfl, trivial⟩ (va_runV (rm := (rm_X12_product fr lo)) (ws := wsX12_product) (As := []) (rest := []) (gFix hF) (c_X12_product l D c uu fr lo hu q_this q_d q_kept q_found q_aside q_names q_seenKept q_movedKept q_traced q_bitsOf q_sizeOf q_number q_lifted v_images v_base v_at v_size v_fault v_opened v_isSeen v_isKeeping v_bubbleMany v_bubbleMost v_bubbleCell v_bestShown v_traceMany v_who v_d v_names r_2 w_3 w_4 w_5 hc_1 s.heap.size) (cwV 0 hts gX12_sum_X12_product rfl rfl rfl (by decide +kernel) ⟨show (fr + 1) + 1 ≤ fr + 2 by omega, show 8 + (4 + 11) + (lo + 24) ≤ lo + 47 by omega⟩) (gPreV (wc := [(q_this, .inr (12, [.ref q_d, .ref q_kept, .int v_images, .ref q_found, .ref q_aside, .int v_base, .int v_at, .int v_size, .int v_fault, .int v_opened, .int v_isSeen, .ref q_names, .ref q_seenKept, .ref q_movedKept, .int v_isKeeping, .int v_bubbleMany, .int v_bubbleMost, .int v_bubbleCell, .int v_bestShown, .ref q_traced, .int v_traceMany, .int v_who, .ref q_bitsOf, .ref q_sizeOf, .ref q_number, .ref q_lifted])), (q_d, .inl (c 0, 244, .inl v_d)), (q_names, .inl (c 0, 3, .inl v_names))]) (q := (RX12, TX12, 26)) (ci := 12) (q0 := 0) (isC := [0, 1, 2]) hK hX hS hA hP hD ⟨rfl, rfl, rfl, trivial⟩ (by decide +kernel) rfl rfl) rfl rfl hl.1 rfl (lv_room (Nat.le_of_ble_eq_true rfl)) dX12_sum_1 ⟨Nat.le_of_ble_eq_true rfl, Nat.le_of_ble_eq_true rfl⟩) (fun H locs hP hD hS => ?_)
  refine lv_istore_n (lv' := [(1, .int r_2), (0, .ref q_this)]) hx hb dX12_sum_4 rfl hl (by decide) rfl (fun ls hl => ?_)
  exact t_L5 gFuel r_2 w_3 w_4 w_5 H locs hP hD hS ls (lv_sub hl [1, 0] rfl) h
set_option maxRecDepth 20000 in
theorem in_X12_compared_X12 : ∀ w ∈ u_ws RX12 TX12 26, w ∈ wsX12_compared := by decide +kernel
def f_X12_compared_L30 (uu : Int32 → Int32 → Int32 → Int32 → Int32 → Int32 → (Nat → Int32) → (Nat → Int32) → Option (Int32 × Int32 × Int32 × Int32)) (v_base : Int32) (v_size : Int32) (v_isSeen : Int32) (v_d : Nat → Int32) (v_names : Nat → Int32) (x1 : Int32) (x2 : Int32) (v_at : Int32) (v_fault : Int32) (v_opened : Int32) : Option (Int32 × Int32 × Int32 × Int32) :=
  nm (v_at + 1 : Int32) fun t_11 =>
  kb4 (f_X12_sum uu v_base t_11 v_size v_fault v_opened v_isSeen v_d v_names) fun r_13 w_14 w_15 w_16 =>
  if x2 = 60 then
    if r_13 ≤ x1 then
      some (0, w_14, w_15, w_16)
    else
      some (1, w_14, w_15, w_16)
  else
    if x2 = 61 then
      if x1 = r_13 then
        some (1, w_14, w_15, w_16)
      else
        some (0, w_14, w_15, w_16)
    else
      if x1 ≤ r_13 then
        some (0, w_14, w_15, w_16)
      else
        some (1, w_14, w_15, w_16)

def f_X12_compared (uu : Int32 → Int32 → Int32 → Int32 → Int32 → Int32 → (Nat → Int32) → (Nat → Int32) → Option (Int32 × Int32 × Int32 × Int32)) (v_base : Int32) (v_at : Int32) (v_size : Int32) (v_fault : Int32) (v_opened : Int32) (v_isSeen : Int32) (v_d : Nat → Int32) (v_names : Nat → Int32) : Option (Int32 × Int32 × Int32 × Int32) :=
  kb4 (f_X12_sum uu v_base v_at v_size v_fault v_opened v_isSeen v_d v_names) fun r_2 w_3 w_4 w_5 =>
  kb (f_X12_here v_base w_3 v_size w_4 v_d) fun r_7 =>
  if r_7 = 60 then
    f_X12_compared_L30 uu v_base v_size v_isSeen v_d v_names r_2 r_7 w_3 w_4 w_5
  else
    if r_7 = 61 then
      f_X12_compared_L30 uu v_base v_size v_isSeen v_d v_names r_2 r_7 w_3 w_4 w_5
    else
      if r_7 = 62 then
        f_X12_compared_L30 uu v_base v_size v_isSeen v_d v_names r_2 r_7 w_3 w_4 w_5
      else
        some (r_2, w_3, w_4, w_5)

abbrev rm_X12_compared (fr lo : Nat) : Room := { frames := fr + 3, cells := 0, slots := 0, locals := lo + 70 }
set_option maxHeartbeats 4000000 in
set_option maxRecDepth 100000 in
theorem c_X12_compared (l : Launch) (D : va_G) (c : Nat → ClassId) (uu : Int32 → Int32 → Int32 → Int32 → Int32 → Int32 → (Nat → Int32) → (Nat → Int32) → Option (Int32 × Int32 × Int32 × Int32)) (fr lo : Nat) (hu : ∀ (q_this q_d q_kept q_found q_aside q_names q_seenKept q_movedKept q_traced q_bitsOf q_sizeOf q_number q_lifted : Nat) (v_images : Int32) (v_base : Int32) (v_at : Int32) (v_size : Int32) (v_fault : Int32) (v_opened : Int32) (v_isSeen : Int32) (v_isKeeping : Int32) (v_bubbleMany : Int32) (v_bubbleMost : Int32) (v_bubbleCell : Int32) (v_bestShown : Int32) (v_traceMany : Int32) (v_who : Int32) (v_d : Nat → Int32) (v_names : Nat → Int32) (o_r : Int32) (o_v_at : Int32) (o_v_fault : Int32) (o_v_opened : Int32), uu v_base v_at v_size v_fault v_opened v_isSeen v_d v_names = some (o_r, o_v_at, o_v_fault, o_v_opened) → gMI l yX12_unit wsX12_unit { frames := fr, cells := 0, slots := 0, locals := lo } D c [.ref q_this] [(q_this, .inr (12, [.ref q_d, .ref q_kept, .int v_images, .ref q_found, .ref q_aside, .int v_base, .int v_at, .int v_size, .int v_fault, .int v_opened, .int v_isSeen, .ref q_names, .ref q_seenKept, .ref q_movedKept, .int v_isKeeping, .int v_bubbleMany, .int v_bubbleMost, .int v_bubbleCell, .int v_bestShown, .ref q_traced, .int v_traceMany, .int v_who, .ref q_bitsOf, .ref q_sizeOf, .ref q_number, .ref q_lifted])), (q_d, .inl (c 0, 244, .inl v_d)), (q_names, .inl (c 0, 3, .inl v_names))] [(q_this, .inr (12, [.ref q_d, .ref q_kept, .int v_images, .ref q_found, .ref q_aside, .int v_base, .int o_v_at, .int v_size, .int o_v_fault, .int o_v_opened, .int v_isSeen, .ref q_names, .ref q_seenKept, .ref q_movedKept, .int v_isKeeping, .int v_bubbleMany, .int v_bubbleMost, .int v_bubbleCell, .int v_bestShown, .ref q_traced, .int v_traceMany, .int v_who, .ref q_bitsOf, .ref q_sizeOf, .ref q_number, .ref q_lifted])), (q_d, .inl (c 0, 244, .inl v_d)), (q_names, .inl (c 0, 3, .inl v_names))] o_r) (q_this q_d q_kept q_found q_aside q_names q_seenKept q_movedKept q_traced q_bitsOf q_sizeOf q_number q_lifted : Nat) (v_images : Int32) (v_base : Int32) (v_at : Int32) (v_size : Int32) (v_fault : Int32) (v_opened : Int32) (v_isSeen : Int32) (v_isKeeping : Int32) (v_bubbleMany : Int32) (v_bubbleMost : Int32) (v_bubbleCell : Int32) (v_bestShown : Int32) (v_traceMany : Int32) (v_who : Int32) (v_d : Nat → Int32) (v_names : Nat → Int32) (o_r : Int32) (o_v_at : Int32) (o_v_fault : Int32) (o_v_opened : Int32) (h : f_X12_compared uu v_base v_at v_size v_fault v_opened v_isSeen v_d v_names = some (o_r, o_v_at, o_v_fault, o_v_opened)) : gMI l yX12_compared wsX12_compared (rm_X12_compared fr lo) D c [.ref q_this] [(q_this, .inr (12, [.ref q_d, .ref q_kept, .int v_images, .ref q_found, .ref q_aside, .int v_base, .int v_at, .int v_size, .int v_fault, .int v_opened, .int v_isSeen, .ref q_names, .ref q_seenKept, .ref q_movedKept, .int v_isKeeping, .int v_bubbleMany, .int v_bubbleMost, .int v_bubbleCell, .int v_bestShown, .ref q_traced, .int v_traceMany, .int v_who, .ref q_bitsOf, .ref q_sizeOf, .ref q_number, .ref q_lifted])), (q_d, .inl (c 0, 244, .inl v_d)), (q_names, .inl (c 0, 3, .inl v_names))] [(q_this, .inr (12, [.ref q_d, .ref q_kept, .int v_images, .ref q_found, .ref q_aside, .int v_base, .int o_v_at, .int v_size, .int o_v_fault, .int o_v_opened, .int v_isSeen, .ref q_names, .ref q_seenKept, .ref q_movedKept, .int v_isKeeping, .int v_bubbleMany, .int v_bubbleMost, .int v_bubbleCell, .int v_bestShown, .ref q_traced, .int v_traceMany, .int v_who, .ref q_bitsOf, .ref q_sizeOf, .ref q_number, .ref q_lifted])), (q_d, .inl (c 0, 244, .inl v_d)), (q_names, .inl (c 0, 3, .inl v_names))] o_r := by
  refine gMI_of (cc := cX12_compared) (maxL := 4) (rt := (some .int)) (by decide +kernel) rfl (Nat.le_of_ble_eq_true rfl) ?_
  intro p e s m below meth co A hF hK hX hP hD hA hS ls hl
  obtain ⟨hx, hb, hr, hts, hown, hlocks, hml⟩ := id hF
  have hl : lv_has ls 4 [(0, .ref q_this)] := hl
  have t_L30 : ∀ (x1 : Int32) (x2 : Int32) (v_at : Int32) (v_fault : Int32) (v_opened : Int32) (H : Heap) (locs : List Loc), va_P D gcl [(q_this, .inr (12, [.ref q_d, .ref q_kept, .int v_images, .ref q_found, .ref q_aside, .int v_base, .int v_at, .int v_size, .int v_fault, .int v_opened, .int v_isSeen, .ref q_names, .ref q_seenKept, .ref q_movedKept, .int v_isKeeping, .int v_bubbleMany, .int v_bubbleMost, .int v_bubbleCell, .int v_bestShown, .ref q_traced, .int v_traceMany, .int v_who, .ref q_bitsOf, .ref q_sizeOf, .ref q_number, .ref q_lifted])), (q_d, .inl (c 0, 244, .inl v_d)), (q_names, .inl (c 0, 3, .inl v_names))] H → va_D A [(q_this, .inr (12, [.ref q_d, .ref q_kept, .int v_images, .ref q_found, .ref q_aside, .int v_base, .int v_at, .int v_size, .int v_fault, .int v_opened, .int v_isSeen, .ref q_names, .ref q_seenKept, .ref q_movedKept, .int v_isKeeping, .int v_bubbleMany, .int v_bubbleMost, .int v_bubbleCell, .int v_bestShown, .ref q_traced, .int v_traceMany, .int v_who, .ref q_bitsOf, .ref q_sizeOf, .ref q_number, .ref q_lifted])), (q_d, .inl (c 0, 244, .inl v_d)), (q_names, .inl (c 0, 3, .inl v_names))] → va_S A s.heap H locs → ∀ ls, lv_has ls 4 [(0, .ref q_this), (1, .int x1), (2, .int x2)] → f_X12_compared_L30 uu v_base v_size v_isSeen v_d v_names x1 x2 v_at v_fault v_opened = some (o_r, o_v_at, o_v_fault, o_v_opened) → W p l e (headSpec wsX12_compared (rm_X12_compared fr lo)).room s m [.ref q_this].toArray below meth co H locs 0 0 (gQI D [(q_this, .inr (12, [.ref q_d, .ref q_kept, .int v_images, .ref q_found, .ref q_aside, .int v_base, .int o_v_at, .int v_size, .int o_v_fault, .int o_v_opened, .int v_isSeen, .ref q_names, .ref q_seenKept, .ref q_movedKept, .int v_isKeeping, .int v_bubbleMany, .int v_bubbleMost, .int v_bubbleCell, .int v_bestShown, .ref q_traced, .int v_traceMany, .int v_who, .ref q_bitsOf, .ref q_sizeOf, .ref q_number, .ref q_lifted])), (q_d, .inl (c 0, 244, .inl v_d)), (q_names, .inl (c 0, 3, .inl v_names))] o_r A below [.ref q_this] s) (F0 m 30 ls []) := by
    intro  x1 x2 v_at v_fault v_opened H locs hP hD hS ls hl h
    unfold f_X12_compared_L30 at h
    refine lv_aload_n hx hb dX12_compared_30 rfl (lv_at hl 0 rfl) ?_
    refine lv_dup hx hb dX12_compared_31 rfl ?_
    refine va_get (D := D) (ci := 12) (v := .int v_at) (C := RX12) (T := TX12) (N := 26) hx hb hts in_X12_compared_X12 hown hK.1 hP 0 rfl rfl 6 (by decide) (hts (.fieldLink RX12 61 "PaperBubblesModel" "at" "I") (List.mem_of_getElem? (i := 1) rfl)) (fun _ h9 => h9) rfl dX12_compared_32 ?_
    refine lv_iconst (v := 1) hx hb dX12_compared_35 (by decide) ?_
    refine lv_iadd hx hb dX12_compared_36 ?_
    replace h := nm_ok h
    obtain ⟨t_11, et_11, h⟩ := h
    refine gTop et_11 ?_
    refine va_put (D := D) (ci := 12) (v := .int t_11) (ty := .int) (C := RX12) (T := TX12) (N := 26) hx hb hts in_X12_compared_X12 tyX12 tyX12_ok nmX12 hown hK.1 hP hD hS 0 rfl rfl 6 (by decide) (hts (.fieldLink RX12 61 "PaperBubblesModel" "at" "I") (List.mem_of_getElem? (i := 1) rfl)) (fun _ h9 => h9) rfl (by decide +kernel) rfl rfl (Nat.le_of_ble_eq_true rfl) dX12_compared_37 (fun H locs hP hD hS => ?_)
    have hP : va_P D gcl [(q_this, .inr (12, [.ref q_d, .ref q_kept, .int v_images, .ref q_found, .ref q_aside, .int v_base, .int t_11, .int v_size, .int v_fault, .int v_opened, .int v_isSeen, .ref q_names, .ref q_seenKept, .ref q_movedKept, .int v_isKeeping, .int v_bubbleMany, .int v_bubbleMost, .int v_bubbleCell, .int v_bestShown, .ref q_traced, .int v_traceMany, .int v_who, .ref q_bitsOf, .ref q_sizeOf, .ref q_number, .ref q_lifted])), (q_d, .inl (c 0, 244, .inl v_d)), (q_names, .inl (c 0, 3, .inl v_names))] H := hP
    have hD : va_D A [(q_this, .inr (12, [.ref q_d, .ref q_kept, .int v_images, .ref q_found, .ref q_aside, .int v_base, .int t_11, .int v_size, .int v_fault, .int v_opened, .int v_isSeen, .ref q_names, .ref q_seenKept, .ref q_movedKept, .int v_isKeeping, .int v_bubbleMany, .int v_bubbleMost, .int v_bubbleCell, .int v_bestShown, .ref q_traced, .int v_traceMany, .int v_who, .ref q_bitsOf, .ref q_sizeOf, .ref q_number, .ref q_lifted])), (q_d, .inl (c 0, 244, .inl v_d)), (q_names, .inl (c 0, 3, .inl v_names))] := hD
    refine lv_aload_n hx hb dX12_compared_40 rfl (lv_at hl 0 rfl) ?_
    replace h := kb4_ok h
    obtain ⟨r_13, w_14, w_15, w_16, hc_12, h⟩ := h
    refine gCallI (isC := [0, 1, 2]) (wc := [(q_this, .inr (12, [.ref q_d, .ref q_kept, .int v_images, .ref q_found, .ref q_aside, .int v_base, .int t_11, .int v_size, .int v_fault, .int v_opened, .int v_isSeen, .ref q_names, .ref q_seenKept, .ref q_movedKept, .int v_isKeeping, .int v_bubbleMany, .int v_bubbleMost, .int v_bubbleCell, .int v_bestShown, .ref q_traced, .int v_traceMany, .int v_who, .ref q_bitsOf, .ref q_sizeOf, .ref q_number, .ref q_lifted])), (q_d, .inl (c 0, 244, .inl v_d)), (q_names, .inl (c 0, 3, .inl v_names))]) (w1 := [(q_this, .inr (12, [.ref q_d, .ref q_kept, .int v_images, .ref q_found, .ref q_aside, .int v_base, .int w_14, .int v_size, .int w_15, .int w_16, .int v_isSeen, .ref q_names, .ref q_seenKept, .ref q_movedKept, .int v_isKeeping, .int v_bubbleMany, .int v_bubbleMost, .int v_bubbleCell, .int v_bestShown, .ref q_traced, .int v_traceMany, .int v_who, .ref q_bitsOf, .ref q_sizeOf, .ref q_number, .ref q_lifted])), (q_d, .inl (c 0, 244, .inl v_d)), (q_names, .inl (c 0, 3, .inl v_names))]) (ws2 := [(q_this, .inr (12, [.ref q_d, .ref q_kept, .int v_images, .ref q_found, .ref q_aside, .int v_base, .int w_14, .int v_size, .int w_15, .int w_16, .int v_isSeen, .ref q_names, .ref q_seenKept, .ref q_movedKept, .int v_isKeeping, .int v_bubbleMany, .int v_bubbleMost, .int v_bubbleCell, .int v_bestShown, .ref q_traced, .int v_traceMany, .int v_who, .ref q_bitsOf, .ref q_sizeOf, .ref q_number, .ref q_lifted])), (q_d, .inl (c 0, 244, .inl v_d)), (q_names, .inl (c 0, 3, .inl v_names))]) (ms := [(some 0), (some 1), (some 2)]) hP hD hS hA ⟨rfl, rfl, rfl, trivial⟩ (by decide +kernel) ⟨rfl, rfl, rfl, trivial⟩ (va_runV (rm := (rm_X12_sum fr lo)) (ws := wsX12_sum) (As := []) (rest := []) (gFix hF) (c_X12_sum l D c uu fr lo hu q_this q_d q_kept q_found q_aside q_names q_seenKept q_movedKept q_traced q_bitsOf q_sizeOf q_number q_lifted v_images v_base t_11 v_size v_fault v_opened v_isSeen v_isKeeping v_bubbleMany v_bubbleMost v_bubbleCell v_bestShown v_traceMany v_who v_d v_names r_13 w_14 w_15 w_16 hc_12 H.size) (cwV 0 hts gX12_compared_X12_sum rfl rfl rfl (by decide +kernel) ⟨show (fr + 2) + 1 ≤ fr + 3 by omega, show 8 + (4 + 11) + (lo + 47) ≤ lo + 70 by omega⟩) (gPreV (wc := [(q_this, .inr (12, [.ref q_d, .ref q_kept, .int v_images, .ref q_found, .ref q_aside, .int v_base, .int t_11, .int v_size, .int v_fault, .int v_opened, .int v_isSeen, .ref q_names, .ref q_seenKept, .ref q_movedKept, .int v_isKeeping, .int v_bubbleMany, .int v_bubbleMost, .int v_bubbleCell, .int v_bestShown, .ref q_traced, .int v_traceMany, .int v_who, .ref q_bitsOf, .ref q_sizeOf, .ref q_number, .ref q_lifted])), (q_d, .inl (c 0, 244, .inl v_d)), (q_names, .inl (c 0, 3, .inl v_names))]) (q := (RX12, TX12, 26)) (ci := 12) (q0 := 0) (isC := [0, 1, 2]) hK hX hS hA hP hD ⟨rfl, rfl, rfl, trivial⟩ (by decide +kernel) rfl rfl) rfl rfl hl.1 rfl (lv_room (Nat.le_of_ble_eq_true rfl)) dX12_compared_41 ⟨Nat.le_of_ble_eq_true rfl, Nat.le_of_ble_eq_true rfl⟩) (fun H locs hP hD hS => ?_)
    refine lv_istore_n (lv' := [(3, .int r_13), (0, .ref q_this), (1, .int x1), (2, .int x2)]) hx hb dX12_compared_44 rfl hl (by decide) rfl (fun ls hl => ?_)
    refine lv_iload_n hx hb dX12_compared_45 rfl (lv_at hl 3 rfl) ?_
    refine lv_bipush (v := 60) hx hb dX12_compared_46 (by decide) ?_
    refine lv_icmp_ne (tgt := 59) hx hb dX12_compared_48 (by decide) (fun c_17 => ?_) (fun c_17 => ?_)
    · replace h := it_f c_17 h
      refine lv_iload_n hx hb dX12_compared_59 rfl (lv_at hl 3 rfl) ?_
      refine lv_bipush (v := 61) hx hb dX12_compared_60 (by decide) ?_
      refine lv_icmp_ne (tgt := 73) hx hb dX12_compared_62 (by decide) (fun c_18 => ?_) (fun c_18 => ?_)
      · replace h := it_f c_18 h
        refine lv_iload_n hx hb dX12_compared_73 rfl (lv_at hl 2 rfl) ?_
        refine lv_iload_n hx hb dX12_compared_74 rfl (lv_at hl 0 rfl) ?_
        refine lv_icmp_le (tgt := 82) hx hb dX12_compared_75 (by decide) (fun c_19 => ?_) (fun c_19 => ?_)
        · replace h := it_t c_19 h
          refine lv_iconst (v := 0) hx hb dX12_compared_82 (by decide) ?_
          replace h := so4 h
          obtain ⟨z0, z1, z2, z3⟩ := h
          subst z0 z1 z2 z3
          exact gIret hF hP hD hS rfl dX12_compared_83
        · replace h := it_f c_19 h
          refine lv_iconst (v := 1) hx hb dX12_compared_78 (by decide) ?_
          refine lv_goto (tgt := 83) hx hb dX12_compared_79 (by decide) ?_
          replace h := so4 h
          obtain ⟨z0, z1, z2, z3⟩ := h
          subst z0 z1 z2 z3
          exact gIret hF hP hD hS rfl dX12_compared_83
      · replace h := it_t c_18 h
        refine lv_iload_n hx hb dX12_compared_65 rfl (lv_at hl 2 rfl) ?_
        refine lv_iload_n hx hb dX12_compared_66 rfl (lv_at hl 0 rfl) ?_
        refine lv_icmp_ne (tgt := 82) hx hb dX12_compared_67 (by decide) (fun c_20 => ?_) (fun c_20 => ?_)
        · replace h := it_f c_20 h
          refine lv_iconst (v := 0) hx hb dX12_compared_82 (by decide) ?_
          replace h := so4 h
          obtain ⟨z0, z1, z2, z3⟩ := h
          subst z0 z1 z2 z3
          exact gIret hF hP hD hS rfl dX12_compared_83
        · replace h := it_t c_20 h
          refine lv_goto (tgt := 78) hx hb dX12_compared_70 (by decide) ?_
          refine lv_iconst (v := 1) hx hb dX12_compared_78 (by decide) ?_
          refine lv_goto (tgt := 83) hx hb dX12_compared_79 (by decide) ?_
          replace h := so4 h
          obtain ⟨z0, z1, z2, z3⟩ := h
          subst z0 z1 z2 z3
          exact gIret hF hP hD hS rfl dX12_compared_83
    · replace h := it_t c_17 h
      refine lv_iload_n hx hb dX12_compared_51 rfl (lv_at hl 2 rfl) ?_
      refine lv_iload_n hx hb dX12_compared_52 rfl (lv_at hl 0 rfl) ?_
      refine lv_icmp_ge (tgt := 82) hx hb dX12_compared_53 (by decide) (fun c_21 => ?_) (fun c_21 => ?_)
      · replace h := it_t c_21 h
        refine lv_iconst (v := 0) hx hb dX12_compared_82 (by decide) ?_
        replace h := so4 h
        obtain ⟨z0, z1, z2, z3⟩ := h
        subst z0 z1 z2 z3
        exact gIret hF hP hD hS rfl dX12_compared_83
      · replace h := it_f c_21 h
        refine lv_goto (tgt := 78) hx hb dX12_compared_56 (by decide) ?_
        refine lv_iconst (v := 1) hx hb dX12_compared_78 (by decide) ?_
        refine lv_goto (tgt := 83) hx hb dX12_compared_79 (by decide) ?_
        replace h := so4 h
        obtain ⟨z0, z1, z2, z3⟩ := h
        subst z0 z1 z2 z3
        exact gIret hF hP hD hS rfl dX12_compared_83
  unfold f_X12_compared at h
  refine lv_aload_n hx hb dX12_compared_0 rfl (lv_at hl 0 rfl) ?_
  replace h := kb4_ok h
  obtain ⟨r_2, w_3, w_4, w_5, hc_1, h⟩ := h
  refine gCallI (isC := [0, 1, 2]) (wc := [(q_this, .inr (12, [.ref q_d, .ref q_kept, .int v_images, .ref q_found, .ref q_aside, .int v_base, .int v_at, .int v_size, .int v_fault, .int v_opened, .int v_isSeen, .ref q_names, .ref q_seenKept, .ref q_movedKept, .int v_isKeeping, .int v_bubbleMany, .int v_bubbleMost, .int v_bubbleCell, .int v_bestShown, .ref q_traced, .int v_traceMany, .int v_who, .ref q_bitsOf, .ref q_sizeOf, .ref q_number, .ref q_lifted])), (q_d, .inl (c 0, 244, .inl v_d)), (q_names, .inl (c 0, 3, .inl v_names))]) (w1 := [(q_this, .inr (12, [.ref q_d, .ref q_kept, .int v_images, .ref q_found, .ref q_aside, .int v_base, .int w_3, .int v_size, .int w_4, .int w_5, .int v_isSeen, .ref q_names, .ref q_seenKept, .ref q_movedKept, .int v_isKeeping, .int v_bubbleMany, .int v_bubbleMost, .int v_bubbleCell, .int v_bestShown, .ref q_traced, .int v_traceMany, .int v_who, .ref q_bitsOf, .ref q_sizeOf, .ref q_number, .ref q_lifted])), (q_d, .inl (c 0, 244, .inl v_d)), (q_names, .inl (c 0, 3, .inl v_names))]) (ws2 := [(q_this, .inr (12, [.ref q_d, .ref q_kept, .int v_images, .ref q_found, .ref q_aside, .int v_base, .int w_3, .int v_size, .int w_4, .int w_5, .int v_isSeen, .ref q_names, .ref q_seenKept, .ref q_movedKept, .int v_isKeeping, .int v_bubbleMany, .int v_bubbleMost, .int v_bubbleCell, .int v_bestShown, .ref q_traced, .int v_traceMany, .int v_who, .ref q_bitsOf, .ref q_sizeOf, .ref q_number, .ref q_lifted])), (q_d, .inl (c 0, 244, .inl v_d)), (q_names, .inl (c 0, 3, .inl v_names))]) (ms := [(some 0), (some 1), (some 2)]) hP hD hS hA ⟨rfl, rfl, rfl, trivial⟩ (by decide +kernel) ⟨rfl, rfl, rfl, trivial⟩ (va_runV (rm := (rm_X12_sum fr lo)) (ws := wsX12_sum) (As := []) (rest := []) (gFix hF) (c_X12_sum l D c uu fr lo hu q_this q_d q_kept q_found q_aside q_names q_seenKept q_movedKept q_traced q_bitsOf q_sizeOf q_number q_lifted v_images v_base v_at v_size v_fault v_opened v_isSeen v_isKeeping v_bubbleMany v_bubbleMost v_bubbleCell v_bestShown v_traceMany v_who v_d v_names r_2 w_3 w_4 w_5 hc_1 s.heap.size) (cwV 0 hts gX12_compared_X12_sum rfl rfl rfl (by decide +kernel) ⟨show (fr + 2) + 1 ≤ fr + 3 by omega, show 8 + (4 + 11) + (lo + 47) ≤ lo + 70 by omega⟩) (gPreV (wc := [(q_this, .inr (12, [.ref q_d, .ref q_kept, .int v_images, .ref q_found, .ref q_aside, .int v_base, .int v_at, .int v_size, .int v_fault, .int v_opened, .int v_isSeen, .ref q_names, .ref q_seenKept, .ref q_movedKept, .int v_isKeeping, .int v_bubbleMany, .int v_bubbleMost, .int v_bubbleCell, .int v_bestShown, .ref q_traced, .int v_traceMany, .int v_who, .ref q_bitsOf, .ref q_sizeOf, .ref q_number, .ref q_lifted])), (q_d, .inl (c 0, 244, .inl v_d)), (q_names, .inl (c 0, 3, .inl v_names))]) (q := (RX12, TX12, 26)) (ci := 12) (q0 := 0) (isC := [0, 1, 2]) hK hX hS hA hP hD ⟨rfl, rfl, rfl, trivial⟩ (by decide +kernel) rfl rfl) rfl rfl hl.1 rfl (lv_room (Nat.le_of_ble_eq_true rfl)) dX12_compared_1 ⟨Nat.le_of_ble_eq_true rfl, Nat.le_of_ble_eq_true rfl⟩) (fun H locs hP hD hS => ?_)
  refine lv_istore_n (lv' := [(1, .int r_2), (0, .ref q_this)]) hx hb dX12_compared_4 rfl hl (by decide) rfl (fun ls hl => ?_)
  refine lv_aload_n hx hb dX12_compared_5 rfl (lv_at hl 1 rfl) ?_
  replace h := kb_ok h
  obtain ⟨r_7, hc_6, h⟩ := h
  refine gCallIr (isC := [0, 1]) (wc := [(q_this, .inr (12, [.ref q_d, .ref q_kept, .int v_images, .ref q_found, .ref q_aside, .int v_base, .int w_3, .int v_size, .int w_4, .int w_5, .int v_isSeen, .ref q_names, .ref q_seenKept, .ref q_movedKept, .int v_isKeeping, .int v_bubbleMany, .int v_bubbleMost, .int v_bubbleCell, .int v_bestShown, .ref q_traced, .int v_traceMany, .int v_who, .ref q_bitsOf, .ref q_sizeOf, .ref q_number, .ref q_lifted])), (q_d, .inl (c 0, 244, .inl v_d))]) hP hD hS hA ⟨rfl, rfl, trivial⟩ (va_runV (rm := rm_X12_here) (ws := wsX12_here) (As := []) (rest := []) (gFix hF) (c_X12_here l D c q_this q_d q_kept q_found q_aside q_names q_seenKept q_movedKept q_traced q_bitsOf q_sizeOf q_number q_lifted v_images v_base w_3 v_size w_4 w_5 v_isSeen v_isKeeping v_bubbleMany v_bubbleMost v_bubbleCell v_bestShown v_traceMany v_who v_d r_7 hc_6 H.size) (cwV 0 hts gX12_compared_X12_here rfl rfl rfl (by decide +kernel) ⟨show (0) + 1 ≤ fr + 3 by omega, show 8 + (1 + 11) + (0) ≤ lo + 70 by omega⟩) (gPreV (wc := [(q_this, .inr (12, [.ref q_d, .ref q_kept, .int v_images, .ref q_found, .ref q_aside, .int v_base, .int w_3, .int v_size, .int w_4, .int w_5, .int v_isSeen, .ref q_names, .ref q_seenKept, .ref q_movedKept, .int v_isKeeping, .int v_bubbleMany, .int v_bubbleMost, .int v_bubbleCell, .int v_bestShown, .ref q_traced, .int v_traceMany, .int v_who, .ref q_bitsOf, .ref q_sizeOf, .ref q_number, .ref q_lifted])), (q_d, .inl (c 0, 244, .inl v_d))]) (q := (RX12, TX12, 26)) (ci := 12) (q0 := 0) (isC := [0, 1]) hK hX hS hA hP hD ⟨rfl, rfl, trivial⟩ (by decide +kernel) rfl rfl) rfl rfl hl.1 rfl (lv_room (Nat.le_of_ble_eq_true rfl)) dX12_compared_6 ⟨Nat.le_of_ble_eq_true rfl, Nat.le_of_ble_eq_true rfl⟩) (fun H locs hP hS => ?_)
  refine lv_istore_n (lv' := [(2, .int r_7), (1, .int r_2), (0, .ref q_this)]) hx hb dX12_compared_9 rfl hl (by decide) rfl (fun ls hl => ?_)
  refine lv_iload_n hx hb dX12_compared_10 rfl (lv_at hl 0 rfl) ?_
  refine lv_bipush (v := 60) hx hb dX12_compared_11 (by decide) ?_
  refine lv_icmp_eq (tgt := 30) hx hb dX12_compared_13 (by decide) (fun c_8 => ?_) (fun c_8 => ?_)
  · replace h := it_t c_8 h
    exact t_L30 r_2 r_7 w_3 w_4 w_5 H locs hP hD hS ls (lv_sub hl [2, 1, 0] rfl) h
  · replace h := it_f c_8 h
    refine lv_iload_n hx hb dX12_compared_16 rfl (lv_at hl 0 rfl) ?_
    refine lv_bipush (v := 61) hx hb dX12_compared_17 (by decide) ?_
    refine lv_icmp_eq (tgt := 30) hx hb dX12_compared_19 (by decide) (fun c_9 => ?_) (fun c_9 => ?_)
    · replace h := it_t c_9 h
      exact t_L30 r_2 r_7 w_3 w_4 w_5 H locs hP hD hS ls (lv_sub hl [2, 1, 0] rfl) h
    · replace h := it_f c_9 h
      refine lv_iload_n hx hb dX12_compared_22 rfl (lv_at hl 0 rfl) ?_
      refine lv_bipush (v := 62) hx hb dX12_compared_23 (by decide) ?_
      refine lv_icmp_eq (tgt := 30) hx hb dX12_compared_25 (by decide) (fun c_10 => ?_) (fun c_10 => ?_)
      · replace h := it_t c_10 h
        exact t_L30 r_2 r_7 w_3 w_4 w_5 H locs hP hD hS ls (lv_sub hl [2, 1, 0] rfl) h
      · replace h := it_f c_10 h
        refine lv_iload_n hx hb dX12_compared_28 rfl (lv_at hl 1 rfl) ?_
        replace h := so4 h
        obtain ⟨z0, z1, z2, z3⟩ := h
        subst z0 z1 z2 z3
        exact gIret hF hP hD hS rfl dX12_compared_29
def f_X12_both_L5 (uu : Int32 → Int32 → Int32 → Int32 → Int32 → Int32 → (Nat → Int32) → (Nat → Int32) → Option (Int32 × Int32 × Int32 × Int32)) (v_base : Int32) (v_size : Int32) (v_isSeen : Int32) (v_d : Nat → Int32) (v_names : Nat → Int32) : Nat → Int32 → Int32 → Int32 → Int32 → Option (Int32 × Int32 × Int32 × Int32)
  | 0, _, _, _, _ => none
  | n + 1, x1, v_at, v_fault, v_opened =>
    kb2 (f_X12_takes 38 v_base v_at v_size v_fault v_d) fun r_7 w_8 =>
    if r_7 = 0 then
      some (x1, w_8, v_fault, v_opened)
    else
      kb4 (f_X12_compared uu v_base w_8 v_size v_fault v_opened v_isSeen v_d v_names) fun r_11 w_12 w_13 w_14 =>
      if x1 = 0 then
        f_X12_both_L5 uu v_base v_size v_isSeen v_d v_names n 0 w_12 w_13 w_14
      else
        if r_11 = 0 then
          f_X12_both_L5 uu v_base v_size v_isSeen v_d v_names n 0 w_12 w_13 w_14
        else
          f_X12_both_L5 uu v_base v_size v_isSeen v_d v_names n 1 w_12 w_13 w_14

def f_X12_both (uu : Int32 → Int32 → Int32 → Int32 → Int32 → Int32 → (Nat → Int32) → (Nat → Int32) → Option (Int32 × Int32 × Int32 × Int32)) (v_base : Int32) (v_at : Int32) (v_size : Int32) (v_fault : Int32) (v_opened : Int32) (v_isSeen : Int32) (v_d : Nat → Int32) (v_names : Nat → Int32) : Option (Int32 × Int32 × Int32 × Int32) :=
  kb4 (f_X12_compared uu v_base v_at v_size v_fault v_opened v_isSeen v_d v_names) fun r_2 w_3 w_4 w_5 =>
  f_X12_both_L5 uu v_base v_size v_isSeen v_d v_names gFuel r_2 w_3 w_4 w_5

abbrev rm_X12_both (fr lo : Nat) : Room := { frames := fr + 4, cells := 0, slots := 0, locals := lo + 93 }
set_option maxHeartbeats 4000000 in
set_option maxRecDepth 100000 in
theorem c_X12_both (l : Launch) (D : va_G) (c : Nat → ClassId) (uu : Int32 → Int32 → Int32 → Int32 → Int32 → Int32 → (Nat → Int32) → (Nat → Int32) → Option (Int32 × Int32 × Int32 × Int32)) (fr lo : Nat) (hu : ∀ (q_this q_d q_kept q_found q_aside q_names q_seenKept q_movedKept q_traced q_bitsOf q_sizeOf q_number q_lifted : Nat) (v_images : Int32) (v_base : Int32) (v_at : Int32) (v_size : Int32) (v_fault : Int32) (v_opened : Int32) (v_isSeen : Int32) (v_isKeeping : Int32) (v_bubbleMany : Int32) (v_bubbleMost : Int32) (v_bubbleCell : Int32) (v_bestShown : Int32) (v_traceMany : Int32) (v_who : Int32) (v_d : Nat → Int32) (v_names : Nat → Int32) (o_r : Int32) (o_v_at : Int32) (o_v_fault : Int32) (o_v_opened : Int32), uu v_base v_at v_size v_fault v_opened v_isSeen v_d v_names = some (o_r, o_v_at, o_v_fault, o_v_opened) → gMI l yX12_unit wsX12_unit { frames := fr, cells := 0, slots := 0, locals := lo } D c [.ref q_this] [(q_this, .inr (12, [.ref q_d, .ref q_kept, .int v_images, .ref q_found, .ref q_aside, .int v_base, .int v_at, .int v_size, .int v_fault, .int v_opened, .int v_isSeen, .ref q_names, .ref q_seenKept, .ref q_movedKept, .int v_isKeeping, .int v_bubbleMany, .int v_bubbleMost, .int v_bubbleCell, .int v_bestShown, .ref q_traced, .int v_traceMany, .int v_who, .ref q_bitsOf, .ref q_sizeOf, .ref q_number, .ref q_lifted])), (q_d, .inl (c 0, 244, .inl v_d)), (q_names, .inl (c 0, 3, .inl v_names))] [(q_this, .inr (12, [.ref q_d, .ref q_kept, .int v_images, .ref q_found, .ref q_aside, .int v_base, .int o_v_at, .int v_size, .int o_v_fault, .int o_v_opened, .int v_isSeen, .ref q_names, .ref q_seenKept, .ref q_movedKept, .int v_isKeeping, .int v_bubbleMany, .int v_bubbleMost, .int v_bubbleCell, .int v_bestShown, .ref q_traced, .int v_traceMany, .int v_who, .ref q_bitsOf, .ref q_sizeOf, .ref q_number, .ref q_lifted])), (q_d, .inl (c 0, 244, .inl v_d)), (q_names, .inl (c 0, 3, .inl v_names))] o_r) (q_this q_d q_kept q_found q_aside q_names q_seenKept q_movedKept q_traced q_bitsOf q_sizeOf q_number q_lifted : Nat) (v_images : Int32) (v_base : Int32) (v_at : Int32) (v_size : Int32) (v_fault : Int32) (v_opened : Int32) (v_isSeen : Int32) (v_isKeeping : Int32) (v_bubbleMany : Int32) (v_bubbleMost : Int32) (v_bubbleCell : Int32) (v_bestShown : Int32) (v_traceMany : Int32) (v_who : Int32) (v_d : Nat → Int32) (v_names : Nat → Int32) (o_r : Int32) (o_v_at : Int32) (o_v_fault : Int32) (o_v_opened : Int32) (h : f_X12_both uu v_base v_at v_size v_fault v_opened v_isSeen v_d v_names = some (o_r, o_v_at, o_v_fault, o_v_opened)) : gMI l yX12_both wsX12_both (rm_X12_both fr lo) D c [.ref q_this] [(q_this, .inr (12, [.ref q_d, .ref q_kept, .int v_images, .ref q_found, .ref q_aside, .int v_base, .int v_at, .int v_size, .int v_fault, .int v_opened, .int v_isSeen, .ref q_names, .ref q_seenKept, .ref q_movedKept, .int v_isKeeping, .int v_bubbleMany, .int v_bubbleMost, .int v_bubbleCell, .int v_bestShown, .ref q_traced, .int v_traceMany, .int v_who, .ref q_bitsOf, .ref q_sizeOf, .ref q_number, .ref q_lifted])), (q_d, .inl (c 0, 244, .inl v_d)), (q_names, .inl (c 0, 3, .inl v_names))] [(q_this, .inr (12, [.ref q_d, .ref q_kept, .int v_images, .ref q_found, .ref q_aside, .int v_base, .int o_v_at, .int v_size, .int o_v_fault, .int o_v_opened, .int v_isSeen, .ref q_names, .ref q_seenKept, .ref q_movedKept, .int v_isKeeping, .int v_bubbleMany, .int v_bubbleMost, .int v_bubbleCell, .int v_bestShown, .ref q_traced, .int v_traceMany, .int v_who, .ref q_bitsOf, .ref q_sizeOf, .ref q_number, .ref q_lifted])), (q_d, .inl (c 0, 244, .inl v_d)), (q_names, .inl (c 0, 3, .inl v_names))] o_r := by
  refine gMI_of (cc := cX12_both) (maxL := 3) (rt := (some .int)) (by decide +kernel) rfl (Nat.le_of_ble_eq_true rfl) ?_
  intro p e s m below meth co A hF hK hX hP hD hA hS ls hl
  obtain ⟨hx, hb, hr, hts, hown, hlocks, hml⟩ := id hF
  have hl : lv_has ls 3 [(0, .ref q_this)] := hl
  have t_L5 : ∀ (n : Nat), ∀ (x1 : Int32) (v_at : Int32) (v_fault : Int32) (v_opened : Int32) (H : Heap) (locs : List Loc), va_P D gcl [(q_this, .inr (12, [.ref q_d, .ref q_kept, .int v_images, .ref q_found, .ref q_aside, .int v_base, .int v_at, .int v_size, .int v_fault, .int v_opened, .int v_isSeen, .ref q_names, .ref q_seenKept, .ref q_movedKept, .int v_isKeeping, .int v_bubbleMany, .int v_bubbleMost, .int v_bubbleCell, .int v_bestShown, .ref q_traced, .int v_traceMany, .int v_who, .ref q_bitsOf, .ref q_sizeOf, .ref q_number, .ref q_lifted])), (q_d, .inl (c 0, 244, .inl v_d)), (q_names, .inl (c 0, 3, .inl v_names))] H → va_D A [(q_this, .inr (12, [.ref q_d, .ref q_kept, .int v_images, .ref q_found, .ref q_aside, .int v_base, .int v_at, .int v_size, .int v_fault, .int v_opened, .int v_isSeen, .ref q_names, .ref q_seenKept, .ref q_movedKept, .int v_isKeeping, .int v_bubbleMany, .int v_bubbleMost, .int v_bubbleCell, .int v_bestShown, .ref q_traced, .int v_traceMany, .int v_who, .ref q_bitsOf, .ref q_sizeOf, .ref q_number, .ref q_lifted])), (q_d, .inl (c 0, 244, .inl v_d)), (q_names, .inl (c 0, 3, .inl v_names))] → va_S A s.heap H locs → ∀ ls, lv_has ls 3 [(0, .ref q_this), (1, .int x1)] → f_X12_both_L5 uu v_base v_size v_isSeen v_d v_names n x1 v_at v_fault v_opened = some (o_r, o_v_at, o_v_fault, o_v_opened) → W p l e (headSpec wsX12_both (rm_X12_both fr lo)).room s m [.ref q_this].toArray below meth co H locs 0 0 (gQI D [(q_this, .inr (12, [.ref q_d, .ref q_kept, .int v_images, .ref q_found, .ref q_aside, .int v_base, .int o_v_at, .int v_size, .int o_v_fault, .int o_v_opened, .int v_isSeen, .ref q_names, .ref q_seenKept, .ref q_movedKept, .int v_isKeeping, .int v_bubbleMany, .int v_bubbleMost, .int v_bubbleCell, .int v_bestShown, .ref q_traced, .int v_traceMany, .int v_who, .ref q_bitsOf, .ref q_sizeOf, .ref q_number, .ref q_lifted])), (q_d, .inl (c 0, 244, .inl v_d)), (q_names, .inl (c 0, 3, .inl v_names))] o_r A below [.ref q_this] s) (F0 m 5 ls []) := by
    intro n
    induction n with
    | zero => intro x1 v_at v_fault v_opened H locs hP hD hS ls hl h; exact no_ok h
    | succ n ih =>
      intro x1 v_at v_fault v_opened H locs hP hD hS ls hl h
      rw [f_X12_both_L5] at h
      refine lv_aload_n hx hb dX12_both_5 rfl (lv_at hl 0 rfl) ?_
      refine lv_bipush (v := 38) hx hb dX12_both_6 (by decide) ?_
      replace h := kb2_ok h
      obtain ⟨r_7, w_8, hc_6, h⟩ := h
      refine gCallI (isC := [0, 1]) (wc := [(q_this, .inr (12, [.ref q_d, .ref q_kept, .int v_images, .ref q_found, .ref q_aside, .int v_base, .int v_at, .int v_size, .int v_fault, .int v_opened, .int v_isSeen, .ref q_names, .ref q_seenKept, .ref q_movedKept, .int v_isKeeping, .int v_bubbleMany, .int v_bubbleMost, .int v_bubbleCell, .int v_bestShown, .ref q_traced, .int v_traceMany, .int v_who, .ref q_bitsOf, .ref q_sizeOf, .ref q_number, .ref q_lifted])), (q_d, .inl (c 0, 244, .inl v_d))]) (w1 := [(q_this, .inr (12, [.ref q_d, .ref q_kept, .int v_images, .ref q_found, .ref q_aside, .int v_base, .int w_8, .int v_size, .int v_fault, .int v_opened, .int v_isSeen, .ref q_names, .ref q_seenKept, .ref q_movedKept, .int v_isKeeping, .int v_bubbleMany, .int v_bubbleMost, .int v_bubbleCell, .int v_bestShown, .ref q_traced, .int v_traceMany, .int v_who, .ref q_bitsOf, .ref q_sizeOf, .ref q_number, .ref q_lifted])), (q_d, .inl (c 0, 244, .inl v_d))]) (ws2 := [(q_this, .inr (12, [.ref q_d, .ref q_kept, .int v_images, .ref q_found, .ref q_aside, .int v_base, .int w_8, .int v_size, .int v_fault, .int v_opened, .int v_isSeen, .ref q_names, .ref q_seenKept, .ref q_movedKept, .int v_isKeeping, .int v_bubbleMany, .int v_bubbleMost, .int v_bubbleCell, .int v_bestShown, .ref q_traced, .int v_traceMany, .int v_who, .ref q_bitsOf, .ref q_sizeOf, .ref q_number, .ref q_lifted])), (q_d, .inl (c 0, 244, .inl v_d)), (q_names, .inl (c 0, 3, .inl v_names))]) (ms := [(some 0), (some 1), none]) hP hD hS hA ⟨rfl, rfl, trivial⟩ (by decide +kernel) ⟨rfl, rfl, rfl, trivial⟩ (va_runV (rm := rm_X12_takes) (ws := wsX12_takes) (As := [.int 38]) (rest := []) (gFix hF) (c_X12_takes l D c q_this q_d q_kept q_found q_aside q_names q_seenKept q_movedKept q_traced q_bitsOf q_sizeOf q_number q_lifted 38 v_images v_base v_at v_size v_fault v_opened v_isSeen v_isKeeping v_bubbleMany v_bubbleMost v_bubbleCell v_bestShown v_traceMany v_who v_d r_7 w_8 hc_6 H.size) (cwV 1 hts gX12_both_X12_takes rfl rfl rfl (by decide +kernel) ⟨show (1) + 1 ≤ fr + 4 by omega, show 8 + (2 + 11) + (20) ≤ lo + 93 by omega⟩) (gPreV (wc := [(q_this, .inr (12, [.ref q_d, .ref q_kept, .int v_images, .ref q_found, .ref q_aside, .int v_base, .int v_at, .int v_size, .int v_fault, .int v_opened, .int v_isSeen, .ref q_names, .ref q_seenKept, .ref q_movedKept, .int v_isKeeping, .int v_bubbleMany, .int v_bubbleMost, .int v_bubbleCell, .int v_bestShown, .ref q_traced, .int v_traceMany, .int v_who, .ref q_bitsOf, .ref q_sizeOf, .ref q_number, .ref q_lifted])), (q_d, .inl (c 0, 244, .inl v_d))]) (q := (RX12, TX12, 26)) (ci := 12) (q0 := 0) (isC := [0, 1]) hK hX hS hA hP hD ⟨rfl, rfl, trivial⟩ (by decide +kernel) rfl rfl) rfl rfl hl.1 rfl (lv_room (Nat.le_of_ble_eq_true rfl)) dX12_both_8 ⟨Nat.le_of_ble_eq_true rfl, Nat.le_of_ble_eq_true rfl⟩) (fun H locs hP hD hS => ?_)
      refine lv_if_eq (tgt := 36) hx hb dX12_both_11 (by decide) (fun c_9 => ?_) (fun c_9 => ?_)
      · replace h := it_t c_9 h
        refine lv_iload_n hx hb dX12_both_36 rfl (lv_at hl 1 rfl) ?_
        replace h := so4 h
        obtain ⟨z0, z1, z2, z3⟩ := h
        subst z0 z1 z2 z3
        exact gIret hF hP hD hS rfl dX12_both_37
      · replace h := it_f c_9 h
        refine lv_aload_n hx hb dX12_both_14 rfl (lv_at hl 0 rfl) ?_
        replace h := kb4_ok h
        obtain ⟨r_11, w_12, w_13, w_14, hc_10, h⟩ := h
        refine gCallI (isC := [0, 1, 2]) (wc := [(q_this, .inr (12, [.ref q_d, .ref q_kept, .int v_images, .ref q_found, .ref q_aside, .int v_base, .int w_8, .int v_size, .int v_fault, .int v_opened, .int v_isSeen, .ref q_names, .ref q_seenKept, .ref q_movedKept, .int v_isKeeping, .int v_bubbleMany, .int v_bubbleMost, .int v_bubbleCell, .int v_bestShown, .ref q_traced, .int v_traceMany, .int v_who, .ref q_bitsOf, .ref q_sizeOf, .ref q_number, .ref q_lifted])), (q_d, .inl (c 0, 244, .inl v_d)), (q_names, .inl (c 0, 3, .inl v_names))]) (w1 := [(q_this, .inr (12, [.ref q_d, .ref q_kept, .int v_images, .ref q_found, .ref q_aside, .int v_base, .int w_12, .int v_size, .int w_13, .int w_14, .int v_isSeen, .ref q_names, .ref q_seenKept, .ref q_movedKept, .int v_isKeeping, .int v_bubbleMany, .int v_bubbleMost, .int v_bubbleCell, .int v_bestShown, .ref q_traced, .int v_traceMany, .int v_who, .ref q_bitsOf, .ref q_sizeOf, .ref q_number, .ref q_lifted])), (q_d, .inl (c 0, 244, .inl v_d)), (q_names, .inl (c 0, 3, .inl v_names))]) (ws2 := [(q_this, .inr (12, [.ref q_d, .ref q_kept, .int v_images, .ref q_found, .ref q_aside, .int v_base, .int w_12, .int v_size, .int w_13, .int w_14, .int v_isSeen, .ref q_names, .ref q_seenKept, .ref q_movedKept, .int v_isKeeping, .int v_bubbleMany, .int v_bubbleMost, .int v_bubbleCell, .int v_bestShown, .ref q_traced, .int v_traceMany, .int v_who, .ref q_bitsOf, .ref q_sizeOf, .ref q_number, .ref q_lifted])), (q_d, .inl (c 0, 244, .inl v_d)), (q_names, .inl (c 0, 3, .inl v_names))]) (ms := [(some 0), (some 1), (some 2)]) hP hD hS hA ⟨rfl, rfl, rfl, trivial⟩ (by decide +kernel) ⟨rfl, rfl, rfl, trivial⟩ (va_runV (rm := (rm_X12_compared fr lo)) (ws := wsX12_compared) (As := []) (rest := []) (gFix hF) (c_X12_compared l D c uu fr lo hu q_this q_d q_kept q_found q_aside q_names q_seenKept q_movedKept q_traced q_bitsOf q_sizeOf q_number q_lifted v_images v_base w_8 v_size v_fault v_opened v_isSeen v_isKeeping v_bubbleMany v_bubbleMost v_bubbleCell v_bestShown v_traceMany v_who v_d v_names r_11 w_12 w_13 w_14 hc_10 H.size) (cwV 0 hts gX12_both_X12_compared rfl rfl rfl (by decide +kernel) ⟨show (fr + 3) + 1 ≤ fr + 4 by omega, show 8 + (4 + 11) + (lo + 70) ≤ lo + 93 by omega⟩) (gPreV (wc := [(q_this, .inr (12, [.ref q_d, .ref q_kept, .int v_images, .ref q_found, .ref q_aside, .int v_base, .int w_8, .int v_size, .int v_fault, .int v_opened, .int v_isSeen, .ref q_names, .ref q_seenKept, .ref q_movedKept, .int v_isKeeping, .int v_bubbleMany, .int v_bubbleMost, .int v_bubbleCell, .int v_bestShown, .ref q_traced, .int v_traceMany, .int v_who, .ref q_bitsOf, .ref q_sizeOf, .ref q_number, .ref q_lifted])), (q_d, .inl (c 0, 244, .inl v_d)), (q_names, .inl (c 0, 3, .inl v_names))]) (q := (RX12, TX12, 26)) (ci := 12) (q0 := 0) (isC := [0, 1, 2]) hK hX hS hA hP hD ⟨rfl, rfl, rfl, trivial⟩ (by decide +kernel) rfl rfl) rfl rfl hl.1 rfl (lv_room (Nat.le_of_ble_eq_true rfl)) dX12_both_15 ⟨Nat.le_of_ble_eq_true rfl, Nat.le_of_ble_eq_true rfl⟩) (fun H locs hP hD hS => ?_)
        refine lv_istore_n (lv' := [(2, .int r_11), (0, .ref q_this), (1, .int x1)]) hx hb dX12_both_18 rfl hl (by decide) rfl (fun ls hl => ?_)
        refine lv_iload_n hx hb dX12_both_19 rfl (lv_at hl 2 rfl) ?_
        refine lv_if_eq (tgt := 31) hx hb dX12_both_20 (by decide) (fun c_15 => ?_) (fun c_15 => ?_)
        · replace h := it_t c_15 h
          refine lv_iconst (v := 0) hx hb dX12_both_31 (by decide) ?_
          refine lv_istore_n (lv' := [(1, .int 0), (2, .int r_11), (0, .ref q_this)]) hx hb dX12_both_32 rfl hl (by decide) rfl (fun ls hl => ?_)
          refine lv_goto (tgt := 5) hx hb dX12_both_33 (by decide) ?_
          exact ih 0 w_12 w_13 w_14 H locs hP hD hS ls (lv_sub hl [2, 0] rfl) h
        · replace h := it_f c_15 h
          refine lv_iload_n hx hb dX12_both_23 rfl (lv_at hl 0 rfl) ?_
          refine lv_if_eq (tgt := 31) hx hb dX12_both_24 (by decide) (fun c_16 => ?_) (fun c_16 => ?_)
          · replace h := it_t c_16 h
            refine lv_iconst (v := 0) hx hb dX12_both_31 (by decide) ?_
            refine lv_istore_n (lv' := [(1, .int 0), (2, .int r_11), (0, .ref q_this)]) hx hb dX12_both_32 rfl hl (by decide) rfl (fun ls hl => ?_)
            refine lv_goto (tgt := 5) hx hb dX12_both_33 (by decide) ?_
            exact ih 0 w_12 w_13 w_14 H locs hP hD hS ls (lv_sub hl [2, 0] rfl) h
          · replace h := it_f c_16 h
            refine lv_iconst (v := 1) hx hb dX12_both_27 (by decide) ?_
            refine lv_goto (tgt := 32) hx hb dX12_both_28 (by decide) ?_
            refine lv_istore_n (lv' := [(1, .int 1), (2, .int r_11), (0, .ref q_this)]) hx hb dX12_both_32 rfl hl (by decide) rfl (fun ls hl => ?_)
            refine lv_goto (tgt := 5) hx hb dX12_both_33 (by decide) ?_
            exact ih 1 w_12 w_13 w_14 H locs hP hD hS ls (lv_sub hl [2, 0] rfl) h
  unfold f_X12_both at h
  refine lv_aload_n hx hb dX12_both_0 rfl (lv_at hl 0 rfl) ?_
  replace h := kb4_ok h
  obtain ⟨r_2, w_3, w_4, w_5, hc_1, h⟩ := h
  refine gCallI (isC := [0, 1, 2]) (wc := [(q_this, .inr (12, [.ref q_d, .ref q_kept, .int v_images, .ref q_found, .ref q_aside, .int v_base, .int v_at, .int v_size, .int v_fault, .int v_opened, .int v_isSeen, .ref q_names, .ref q_seenKept, .ref q_movedKept, .int v_isKeeping, .int v_bubbleMany, .int v_bubbleMost, .int v_bubbleCell, .int v_bestShown, .ref q_traced, .int v_traceMany, .int v_who, .ref q_bitsOf, .ref q_sizeOf, .ref q_number, .ref q_lifted])), (q_d, .inl (c 0, 244, .inl v_d)), (q_names, .inl (c 0, 3, .inl v_names))]) (w1 := [(q_this, .inr (12, [.ref q_d, .ref q_kept, .int v_images, .ref q_found, .ref q_aside, .int v_base, .int w_3, .int v_size, .int w_4, .int w_5, .int v_isSeen, .ref q_names, .ref q_seenKept, .ref q_movedKept, .int v_isKeeping, .int v_bubbleMany, .int v_bubbleMost, .int v_bubbleCell, .int v_bestShown, .ref q_traced, .int v_traceMany, .int v_who, .ref q_bitsOf, .ref q_sizeOf, .ref q_number, .ref q_lifted])), (q_d, .inl (c 0, 244, .inl v_d)), (q_names, .inl (c 0, 3, .inl v_names))]) (ws2 := [(q_this, .inr (12, [.ref q_d, .ref q_kept, .int v_images, .ref q_found, .ref q_aside, .int v_base, .int w_3, .int v_size, .int w_4, .int w_5, .int v_isSeen, .ref q_names, .ref q_seenKept, .ref q_movedKept, .int v_isKeeping, .int v_bubbleMany, .int v_bubbleMost, .int v_bubbleCell, .int v_bestShown, .ref q_traced, .int v_traceMany, .int v_who, .ref q_bitsOf, .ref q_sizeOf, .ref q_number, .ref q_lifted])), (q_d, .inl (c 0, 244, .inl v_d)), (q_names, .inl (c 0, 3, .inl v_names))]) (ms := [(some 0), (some 1), (some 2)]) hP hD hS hA ⟨rfl, rfl, rfl, trivial⟩ (by decide +kernel) ⟨rfl, rfl, rfl, trivial⟩ (va_runV (rm := (rm_X12_compared fr lo)) (ws := wsX12_compared) (As := []) (rest := []) (gFix hF) (c_X12_compared l D c uu fr lo hu q_this q_d q_kept q_found q_aside q_names q_seenKept q_movedKept q_traced q_bitsOf q_sizeOf q_number q_lifted v_images v_base v_at v_size v_fault v_opened v_isSeen v_isKeeping v_bubbleMany v_bubbleMost v_bubbleCell v_bestShown v_traceMany v_who v_d v_names r_2 w_3 w_4 w_5 hc_1 s.heap.size) (cwV 0 hts gX12_both_X12_compared rfl rfl rfl (by decide +kernel) ⟨show (fr + 3) + 1 ≤ fr + 4 by omega, show 8 + (4 + 11) + (lo + 70) ≤ lo + 93 by omega⟩) (gPreV (wc := [(q_this, .inr (12, [.ref q_d, .ref q_kept, .int v_images, .ref q_found, .ref q_aside, .int v_base, .int v_at, .int v_size, .int v_fault, .int v_opened, .int v_isSeen, .ref q_names, .ref q_seenKept, .ref q_movedKept, .int v_isKeeping, .int v_bubbleMany, .int v_bubbleMost, .int v_bubbleCell, .int v_bestShown, .ref q_traced, .int v_traceMany, .int v_who, .ref q_bitsOf, .ref q_sizeOf, .ref q_number, .ref q_lifted])), (q_d, .inl (c 0, 244, .inl v_d)), (q_names, .inl (c 0, 3, .inl v_names))]) (q := (RX12, TX12, 26)) (ci := 12) (q0 := 0) (isC := [0, 1, 2]) hK hX hS hA hP hD ⟨rfl, rfl, rfl, trivial⟩ (by decide +kernel) rfl rfl) rfl rfl hl.1 rfl (lv_room (Nat.le_of_ble_eq_true rfl)) dX12_both_1 ⟨Nat.le_of_ble_eq_true rfl, Nat.le_of_ble_eq_true rfl⟩) (fun H locs hP hD hS => ?_)
  refine lv_istore_n (lv' := [(1, .int r_2), (0, .ref q_this)]) hx hb dX12_both_4 rfl hl (by decide) rfl (fun ls hl => ?_)
  exact t_L5 gFuel r_2 w_3 w_4 w_5 H locs hP hD hS ls (lv_sub hl [1, 0] rfl) h
def f_X12_either_L5 (uu : Int32 → Int32 → Int32 → Int32 → Int32 → Int32 → (Nat → Int32) → (Nat → Int32) → Option (Int32 × Int32 × Int32 × Int32)) (v_base : Int32) (v_size : Int32) (v_isSeen : Int32) (v_d : Nat → Int32) (v_names : Nat → Int32) : Nat → Int32 → Int32 → Int32 → Int32 → Option (Int32 × Int32 × Int32 × Int32)
  | 0, _, _, _, _ => none
  | n + 1, x1, v_at, v_fault, v_opened =>
    kb2 (f_X12_takes 124 v_base v_at v_size v_fault v_d) fun r_7 w_8 =>
    if r_7 = 0 then
      some (x1, w_8, v_fault, v_opened)
    else
      kb4 (f_X12_both uu v_base w_8 v_size v_fault v_opened v_isSeen v_d v_names) fun r_11 w_12 w_13 w_14 =>
      if x1 = 0 then
        if r_11 = 0 then
          f_X12_either_L5 uu v_base v_size v_isSeen v_d v_names n 0 w_12 w_13 w_14
        else
          f_X12_either_L5 uu v_base v_size v_isSeen v_d v_names n 1 w_12 w_13 w_14
      else
        f_X12_either_L5 uu v_base v_size v_isSeen v_d v_names n 1 w_12 w_13 w_14

def f_X12_either (uu : Int32 → Int32 → Int32 → Int32 → Int32 → Int32 → (Nat → Int32) → (Nat → Int32) → Option (Int32 × Int32 × Int32 × Int32)) (v_base : Int32) (v_at : Int32) (v_size : Int32) (v_fault : Int32) (v_opened : Int32) (v_isSeen : Int32) (v_d : Nat → Int32) (v_names : Nat → Int32) : Option (Int32 × Int32 × Int32 × Int32) :=
  kb4 (f_X12_both uu v_base v_at v_size v_fault v_opened v_isSeen v_d v_names) fun r_2 w_3 w_4 w_5 =>
  f_X12_either_L5 uu v_base v_size v_isSeen v_d v_names gFuel r_2 w_3 w_4 w_5

abbrev rm_X12_either (fr lo : Nat) : Room := { frames := fr + 5, cells := 0, slots := 0, locals := lo + 115 }
set_option maxHeartbeats 4000000 in
set_option maxRecDepth 100000 in
theorem c_X12_either (l : Launch) (D : va_G) (c : Nat → ClassId) (uu : Int32 → Int32 → Int32 → Int32 → Int32 → Int32 → (Nat → Int32) → (Nat → Int32) → Option (Int32 × Int32 × Int32 × Int32)) (fr lo : Nat) (hu : ∀ (q_this q_d q_kept q_found q_aside q_names q_seenKept q_movedKept q_traced q_bitsOf q_sizeOf q_number q_lifted : Nat) (v_images : Int32) (v_base : Int32) (v_at : Int32) (v_size : Int32) (v_fault : Int32) (v_opened : Int32) (v_isSeen : Int32) (v_isKeeping : Int32) (v_bubbleMany : Int32) (v_bubbleMost : Int32) (v_bubbleCell : Int32) (v_bestShown : Int32) (v_traceMany : Int32) (v_who : Int32) (v_d : Nat → Int32) (v_names : Nat → Int32) (o_r : Int32) (o_v_at : Int32) (o_v_fault : Int32) (o_v_opened : Int32), uu v_base v_at v_size v_fault v_opened v_isSeen v_d v_names = some (o_r, o_v_at, o_v_fault, o_v_opened) → gMI l yX12_unit wsX12_unit { frames := fr, cells := 0, slots := 0, locals := lo } D c [.ref q_this] [(q_this, .inr (12, [.ref q_d, .ref q_kept, .int v_images, .ref q_found, .ref q_aside, .int v_base, .int v_at, .int v_size, .int v_fault, .int v_opened, .int v_isSeen, .ref q_names, .ref q_seenKept, .ref q_movedKept, .int v_isKeeping, .int v_bubbleMany, .int v_bubbleMost, .int v_bubbleCell, .int v_bestShown, .ref q_traced, .int v_traceMany, .int v_who, .ref q_bitsOf, .ref q_sizeOf, .ref q_number, .ref q_lifted])), (q_d, .inl (c 0, 244, .inl v_d)), (q_names, .inl (c 0, 3, .inl v_names))] [(q_this, .inr (12, [.ref q_d, .ref q_kept, .int v_images, .ref q_found, .ref q_aside, .int v_base, .int o_v_at, .int v_size, .int o_v_fault, .int o_v_opened, .int v_isSeen, .ref q_names, .ref q_seenKept, .ref q_movedKept, .int v_isKeeping, .int v_bubbleMany, .int v_bubbleMost, .int v_bubbleCell, .int v_bestShown, .ref q_traced, .int v_traceMany, .int v_who, .ref q_bitsOf, .ref q_sizeOf, .ref q_number, .ref q_lifted])), (q_d, .inl (c 0, 244, .inl v_d)), (q_names, .inl (c 0, 3, .inl v_names))] o_r) (q_this q_d q_kept q_found q_aside q_names q_seenKept q_movedKept q_traced q_bitsOf q_sizeOf q_number q_lifted : Nat) (v_images : Int32) (v_base : Int32) (v_at : Int32) (v_size : Int32) (v_fault : Int32) (v_opened : Int32) (v_isSeen : Int32) (v_isKeeping : Int32) (v_bubbleMany : Int32) (v_bubbleMost : Int32) (v_bubbleCell : Int32) (v_bestShown : Int32) (v_traceMany : Int32) (v_who : Int32) (v_d : Nat → Int32) (v_names : Nat → Int32) (o_r : Int32) (o_v_at : Int32) (o_v_fault : Int32) (o_v_opened : Int32) (h : f_X12_either uu v_base v_at v_size v_fault v_opened v_isSeen v_d v_names = some (o_r, o_v_at, o_v_fault, o_v_opened)) : gMI l yX12_either wsX12_either (rm_X12_either fr lo) D c [.ref q_this] [(q_this, .inr (12, [.ref q_d, .ref q_kept, .int v_images, .ref q_found, .ref q_aside, .int v_base, .int v_at, .int v_size, .int v_fault, .int v_opened, .int v_isSeen, .ref q_names, .ref q_seenKept, .ref q_movedKept, .int v_isKeeping, .int v_bubbleMany, .int v_bubbleMost, .int v_bubbleCell, .int v_bestShown, .ref q_traced, .int v_traceMany, .int v_who, .ref q_bitsOf, .ref q_sizeOf, .ref q_number, .ref q_lifted])), (q_d, .inl (c 0, 244, .inl v_d)), (q_names, .inl (c 0, 3, .inl v_names))] [(q_this, .inr (12, [.ref q_d, .ref q_kept, .int v_images, .ref q_found, .ref q_aside, .int v_base, .int o_v_at, .int v_size, .int o_v_fault, .int o_v_opened, .int v_isSeen, .ref q_names, .ref q_seenKept, .ref q_movedKept, .int v_isKeeping, .int v_bubbleMany, .int v_bubbleMost, .int v_bubbleCell, .int v_bestShown, .ref q_traced, .int v_traceMany, .int v_who, .ref q_bitsOf, .ref q_sizeOf, .ref q_number, .ref q_lifted])), (q_d, .inl (c 0, 244, .inl v_d)), (q_names, .inl (c 0, 3, .inl v_names))] o_r := by
  refine gMI_of (cc := cX12_either) (maxL := 3) (rt := (some .int)) (by decide +kernel) rfl (Nat.le_of_ble_eq_true rfl) ?_
  intro p e s m below meth co A hF hK hX hP hD hA hS ls hl
  obtain ⟨hx, hb, hr, hts, hown, hlocks, hml⟩ := id hF
  have hl : lv_has ls 3 [(0, .ref q_this)] := hl
  have t_L5 : ∀ (n : Nat), ∀ (x1 : Int32) (v_at : Int32) (v_fault : Int32) (v_opened : Int32) (H : Heap) (locs : List Loc), va_P D gcl [(q_this, .inr (12, [.ref q_d, .ref q_kept, .int v_images, .ref q_found, .ref q_aside, .int v_base, .int v_at, .int v_size, .int v_fault, .int v_opened, .int v_isSeen, .ref q_names, .ref q_seenKept, .ref q_movedKept, .int v_isKeeping, .int v_bubbleMany, .int v_bubbleMost, .int v_bubbleCell, .int v_bestShown, .ref q_traced, .int v_traceMany, .int v_who, .ref q_bitsOf, .ref q_sizeOf, .ref q_number, .ref q_lifted])), (q_d, .inl (c 0, 244, .inl v_d)), (q_names, .inl (c 0, 3, .inl v_names))] H → va_D A [(q_this, .inr (12, [.ref q_d, .ref q_kept, .int v_images, .ref q_found, .ref q_aside, .int v_base, .int v_at, .int v_size, .int v_fault, .int v_opened, .int v_isSeen, .ref q_names, .ref q_seenKept, .ref q_movedKept, .int v_isKeeping, .int v_bubbleMany, .int v_bubbleMost, .int v_bubbleCell, .int v_bestShown, .ref q_traced, .int v_traceMany, .int v_who, .ref q_bitsOf, .ref q_sizeOf, .ref q_number, .ref q_lifted])), (q_d, .inl (c 0, 244, .inl v_d)), (q_names, .inl (c 0, 3, .inl v_names))] → va_S A s.heap H locs → ∀ ls, lv_has ls 3 [(0, .ref q_this), (1, .int x1)] → f_X12_either_L5 uu v_base v_size v_isSeen v_d v_names n x1 v_at v_fault v_opened = some (o_r, o_v_at, o_v_fault, o_v_opened) → W p l e (headSpec wsX12_either (rm_X12_either fr lo)).room s m [.ref q_this].toArray below meth co H locs 0 0 (gQI D [(q_this, .inr (12, [.ref q_d, .ref q_kept, .int v_images, .ref q_found, .ref q_aside, .int v_base, .int o_v_at, .int v_size, .int o_v_fault, .int o_v_opened, .int v_isSeen, .ref q_names, .ref q_seenKept, .ref q_movedKept, .int v_isKeeping, .int v_bubbleMany, .int v_bubbleMost, .int v_bubbleCell, .int v_bestShown, .ref q_traced, .int v_traceMany, .int v_who, .ref q_bitsOf, .ref q_sizeOf, .ref q_number, .ref q_lifted])), (q_d, .inl (c 0, 244, .inl v_d)), (q_names, .inl (c 0, 3, .inl v_names))] o_r A below [.ref q_this] s) (F0 m 5 ls []) := by
    intro n
    induction n with
    | zero => intro x1 v_at v_fault v_opened H locs hP hD hS ls hl h; exact no_ok h
    | succ n ih =>
      intro x1 v_at v_fault v_opened H locs hP hD hS ls hl h
      rw [f_X12_either_L5] at h
      refine lv_aload_n hx hb dX12_either_5 rfl (lv_at hl 0 rfl) ?_
      refine lv_bipush (v := 124) hx hb dX12_either_6 (by decide) ?_
      replace h := kb2_ok h
      obtain ⟨r_7, w_8, hc_6, h⟩ := h
      refine gCallI (isC := [0, 1]) (wc := [(q_this, .inr (12, [.ref q_d, .ref q_kept, .int v_images, .ref q_found, .ref q_aside, .int v_base, .int v_at, .int v_size, .int v_fault, .int v_opened, .int v_isSeen, .ref q_names, .ref q_seenKept, .ref q_movedKept, .int v_isKeeping, .int v_bubbleMany, .int v_bubbleMost, .int v_bubbleCell, .int v_bestShown, .ref q_traced, .int v_traceMany, .int v_who, .ref q_bitsOf, .ref q_sizeOf, .ref q_number, .ref q_lifted])), (q_d, .inl (c 0, 244, .inl v_d))]) (w1 := [(q_this, .inr (12, [.ref q_d, .ref q_kept, .int v_images, .ref q_found, .ref q_aside, .int v_base, .int w_8, .int v_size, .int v_fault, .int v_opened, .int v_isSeen, .ref q_names, .ref q_seenKept, .ref q_movedKept, .int v_isKeeping, .int v_bubbleMany, .int v_bubbleMost, .int v_bubbleCell, .int v_bestShown, .ref q_traced, .int v_traceMany, .int v_who, .ref q_bitsOf, .ref q_sizeOf, .ref q_number, .ref q_lifted])), (q_d, .inl (c 0, 244, .inl v_d))]) (ws2 := [(q_this, .inr (12, [.ref q_d, .ref q_kept, .int v_images, .ref q_found, .ref q_aside, .int v_base, .int w_8, .int v_size, .int v_fault, .int v_opened, .int v_isSeen, .ref q_names, .ref q_seenKept, .ref q_movedKept, .int v_isKeeping, .int v_bubbleMany, .int v_bubbleMost, .int v_bubbleCell, .int v_bestShown, .ref q_traced, .int v_traceMany, .int v_who, .ref q_bitsOf, .ref q_sizeOf, .ref q_number, .ref q_lifted])), (q_d, .inl (c 0, 244, .inl v_d)), (q_names, .inl (c 0, 3, .inl v_names))]) (ms := [(some 0), (some 1), none]) hP hD hS hA ⟨rfl, rfl, trivial⟩ (by decide +kernel) ⟨rfl, rfl, rfl, trivial⟩ (va_runV (rm := rm_X12_takes) (ws := wsX12_takes) (As := [.int 124]) (rest := []) (gFix hF) (c_X12_takes l D c q_this q_d q_kept q_found q_aside q_names q_seenKept q_movedKept q_traced q_bitsOf q_sizeOf q_number q_lifted 124 v_images v_base v_at v_size v_fault v_opened v_isSeen v_isKeeping v_bubbleMany v_bubbleMost v_bubbleCell v_bestShown v_traceMany v_who v_d r_7 w_8 hc_6 H.size) (cwV 1 hts gX12_either_X12_takes rfl rfl rfl (by decide +kernel) ⟨show (1) + 1 ≤ fr + 5 by omega, show 8 + (2 + 11) + (20) ≤ lo + 115 by omega⟩) (gPreV (wc := [(q_this, .inr (12, [.ref q_d, .ref q_kept, .int v_images, .ref q_found, .ref q_aside, .int v_base, .int v_at, .int v_size, .int v_fault, .int v_opened, .int v_isSeen, .ref q_names, .ref q_seenKept, .ref q_movedKept, .int v_isKeeping, .int v_bubbleMany, .int v_bubbleMost, .int v_bubbleCell, .int v_bestShown, .ref q_traced, .int v_traceMany, .int v_who, .ref q_bitsOf, .ref q_sizeOf, .ref q_number, .ref q_lifted])), (q_d, .inl (c 0, 244, .inl v_d))]) (q := (RX12, TX12, 26)) (ci := 12) (q0 := 0) (isC := [0, 1]) hK hX hS hA hP hD ⟨rfl, rfl, trivial⟩ (by decide +kernel) rfl rfl) rfl rfl hl.1 rfl (lv_room (Nat.le_of_ble_eq_true rfl)) dX12_either_8 ⟨Nat.le_of_ble_eq_true rfl, Nat.le_of_ble_eq_true rfl⟩) (fun H locs hP hD hS => ?_)
      refine lv_if_eq (tgt := 36) hx hb dX12_either_11 (by decide) (fun c_9 => ?_) (fun c_9 => ?_)
      · replace h := it_t c_9 h
        refine lv_iload_n hx hb dX12_either_36 rfl (lv_at hl 1 rfl) ?_
        replace h := so4 h
        obtain ⟨z0, z1, z2, z3⟩ := h
        subst z0 z1 z2 z3
        exact gIret hF hP hD hS rfl dX12_either_37
      · replace h := it_f c_9 h
        refine lv_aload_n hx hb dX12_either_14 rfl (lv_at hl 0 rfl) ?_
        replace h := kb4_ok h
        obtain ⟨r_11, w_12, w_13, w_14, hc_10, h⟩ := h
        refine gCallI (isC := [0, 1, 2]) (wc := [(q_this, .inr (12, [.ref q_d, .ref q_kept, .int v_images, .ref q_found, .ref q_aside, .int v_base, .int w_8, .int v_size, .int v_fault, .int v_opened, .int v_isSeen, .ref q_names, .ref q_seenKept, .ref q_movedKept, .int v_isKeeping, .int v_bubbleMany, .int v_bubbleMost, .int v_bubbleCell, .int v_bestShown, .ref q_traced, .int v_traceMany, .int v_who, .ref q_bitsOf, .ref q_sizeOf, .ref q_number, .ref q_lifted])), (q_d, .inl (c 0, 244, .inl v_d)), (q_names, .inl (c 0, 3, .inl v_names))]) (w1 := [(q_this, .inr (12, [.ref q_d, .ref q_kept, .int v_images, .ref q_found, .ref q_aside, .int v_base, .int w_12, .int v_size, .int w_13, .int w_14, .int v_isSeen, .ref q_names, .ref q_seenKept, .ref q_movedKept, .int v_isKeeping, .int v_bubbleMany, .int v_bubbleMost, .int v_bubbleCell, .int v_bestShown, .ref q_traced, .int v_traceMany, .int v_who, .ref q_bitsOf, .ref q_sizeOf, .ref q_number, .ref q_lifted])), (q_d, .inl (c 0, 244, .inl v_d)), (q_names, .inl (c 0, 3, .inl v_names))]) (ws2 := [(q_this, .inr (12, [.ref q_d, .ref q_kept, .int v_images, .ref q_found, .ref q_aside, .int v_base, .int w_12, .int v_size, .int w_13, .int w_14, .int v_isSeen, .ref q_names, .ref q_seenKept, .ref q_movedKept, .int v_isKeeping, .int v_bubbleMany, .int v_bubbleMost, .int v_bubbleCell, .int v_bestShown, .ref q_traced, .int v_traceMany, .int v_who, .ref q_bitsOf, .ref q_sizeOf, .ref q_number, .ref q_lifted])), (q_d, .inl (c 0, 244, .inl v_d)), (q_names, .inl (c 0, 3, .inl v_names))]) (ms := [(some 0), (some 1), (some 2)]) hP hD hS hA ⟨rfl, rfl, rfl, trivial⟩ (by decide +kernel) ⟨rfl, rfl, rfl, trivial⟩ (va_runV (rm := (rm_X12_both fr lo)) (ws := wsX12_both) (As := []) (rest := []) (gFix hF) (c_X12_both l D c uu fr lo hu q_this q_d q_kept q_found q_aside q_names q_seenKept q_movedKept q_traced q_bitsOf q_sizeOf q_number q_lifted v_images v_base w_8 v_size v_fault v_opened v_isSeen v_isKeeping v_bubbleMany v_bubbleMost v_bubbleCell v_bestShown v_traceMany v_who v_d v_names r_11 w_12 w_13 w_14 hc_10 H.size) (cwV 0 hts gX12_either_X12_both rfl rfl rfl (by decide +kernel) ⟨show (fr + 4) + 1 ≤ fr + 5 by omega, show 8 + (3 + 11) + (lo + 93) ≤ lo + 115 by omega⟩) (gPreV (wc := [(q_this, .inr (12, [.ref q_d, .ref q_kept, .int v_images, .ref q_found, .ref q_aside, .int v_base, .int w_8, .int v_size, .int v_fault, .int v_opened, .int v_isSeen, .ref q_names, .ref q_seenKept, .ref q_movedKept, .int v_isKeeping, .int v_bubbleMany, .int v_bubbleMost, .int v_bubbleCell, .int v_bestShown, .ref q_traced, .int v_traceMany, .int v_who, .ref q_bitsOf, .ref q_sizeOf, .ref q_number, .ref q_lifted])), (q_d, .inl (c 0, 244, .inl v_d)), (q_names, .inl (c 0, 3, .inl v_names))]) (q := (RX12, TX12, 26)) (ci := 12) (q0 := 0) (isC := [0, 1, 2]) hK hX hS hA hP hD ⟨rfl, rfl, rfl, trivial⟩ (by decide +kernel) rfl rfl) rfl rfl hl.1 rfl (lv_room (Nat.le_of_ble_eq_true rfl)) dX12_either_15 ⟨Nat.le_of_ble_eq_true rfl, Nat.le_of_ble_eq_true rfl⟩) (fun H locs hP hD hS => ?_)
        refine lv_istore_n (lv' := [(2, .int r_11), (0, .ref q_this), (1, .int x1)]) hx hb dX12_either_18 rfl hl (by decide) rfl (fun ls hl => ?_)
        refine lv_iload_n hx hb dX12_either_19 rfl (lv_at hl 2 rfl) ?_
        refine lv_if_ne (tgt := 27) hx hb dX12_either_20 (by decide) (fun c_15 => ?_) (fun c_15 => ?_)
        · replace h := it_f c_15 h
          refine lv_iconst (v := 1) hx hb dX12_either_27 (by decide) ?_
          refine lv_goto (tgt := 32) hx hb dX12_either_28 (by decide) ?_
          refine lv_istore_n (lv' := [(1, .int 1), (2, .int r_11), (0, .ref q_this)]) hx hb dX12_either_32 rfl hl (by decide) rfl (fun ls hl => ?_)
          refine lv_goto (tgt := 5) hx hb dX12_either_33 (by decide) ?_
          exact ih 1 w_12 w_13 w_14 H locs hP hD hS ls (lv_sub hl [2, 0] rfl) h
        · replace h := it_t c_15 h
          refine lv_iload_n hx hb dX12_either_23 rfl (lv_at hl 0 rfl) ?_
          refine lv_if_eq (tgt := 31) hx hb dX12_either_24 (by decide) (fun c_16 => ?_) (fun c_16 => ?_)
          · replace h := it_t c_16 h
            refine lv_iconst (v := 0) hx hb dX12_either_31 (by decide) ?_
            refine lv_istore_n (lv' := [(1, .int 0), (2, .int r_11), (0, .ref q_this)]) hx hb dX12_either_32 rfl hl (by decide) rfl (fun ls hl => ?_)
            refine lv_goto (tgt := 5) hx hb dX12_either_33 (by decide) ?_
            exact ih 0 w_12 w_13 w_14 H locs hP hD hS ls (lv_sub hl [2, 0] rfl) h
          · replace h := it_f c_16 h
            refine lv_iconst (v := 1) hx hb dX12_either_27 (by decide) ?_
            refine lv_goto (tgt := 32) hx hb dX12_either_28 (by decide) ?_
            refine lv_istore_n (lv' := [(1, .int 1), (2, .int r_11), (0, .ref q_this)]) hx hb dX12_either_32 rfl hl (by decide) rfl (fun ls hl => ?_)
            refine lv_goto (tgt := 5) hx hb dX12_either_33 (by decide) ?_
            exact ih 1 w_12 w_13 w_14 H locs hP hD hS ls (lv_sub hl [2, 0] rfl) h
  unfold f_X12_either at h
  refine lv_aload_n hx hb dX12_either_0 rfl (lv_at hl 0 rfl) ?_
  replace h := kb4_ok h
  obtain ⟨r_2, w_3, w_4, w_5, hc_1, h⟩ := h
  refine gCallI (isC := [0, 1, 2]) (wc := [(q_this, .inr (12, [.ref q_d, .ref q_kept, .int v_images, .ref q_found, .ref q_aside, .int v_base, .int v_at, .int v_size, .int v_fault, .int v_opened, .int v_isSeen, .ref q_names, .ref q_seenKept, .ref q_movedKept, .int v_isKeeping, .int v_bubbleMany, .int v_bubbleMost, .int v_bubbleCell, .int v_bestShown, .ref q_traced, .int v_traceMany, .int v_who, .ref q_bitsOf, .ref q_sizeOf, .ref q_number, .ref q_lifted])), (q_d, .inl (c 0, 244, .inl v_d)), (q_names, .inl (c 0, 3, .inl v_names))]) (w1 := [(q_this, .inr (12, [.ref q_d, .ref q_kept, .int v_images, .ref q_found, .ref q_aside, .int v_base, .int w_3, .int v_size, .int w_4, .int w_5, .int v_isSeen, .ref q_names, .ref q_seenKept, .ref q_movedKept, .int v_isKeeping, .int v_bubbleMany, .int v_bubbleMost, .int v_bubbleCell, .int v_bestShown, .ref q_traced, .int v_traceMany, .int v_who, .ref q_bitsOf, .ref q_sizeOf, .ref q_number, .ref q_lifted])), (q_d, .inl (c 0, 244, .inl v_d)), (q_names, .inl (c 0, 3, .inl v_names))]) (ws2 := [(q_this, .inr (12, [.ref q_d, .ref q_kept, .int v_images, .ref q_found, .ref q_aside, .int v_base, .int w_3, .int v_size, .int w_4, .int w_5, .int v_isSeen, .ref q_names, .ref q_seenKept, .ref q_movedKept, .int v_isKeeping, .int v_bubbleMany, .int v_bubbleMost, .int v_bubbleCell, .int v_bestShown, .ref q_traced, .int v_traceMany, .int v_who, .ref q_bitsOf, .ref q_sizeOf, .ref q_number, .ref q_lifted])), (q_d, .inl (c 0, 244, .inl v_d)), (q_names, .inl (c 0, 3, .inl v_names))]) (ms := [(some 0), (some 1), (some 2)]) hP hD hS hA ⟨rfl, rfl, rfl, trivial⟩ (by decide +kernel) ⟨rfl, rfl, rfl, trivial⟩ (va_runV (rm := (rm_X12_both fr lo)) (ws := wsX12_both) (As := []) (rest := []) (gFix hF) (c_X12_both l D c uu fr lo hu q_this q_d q_kept q_found q_aside q_names q_seenKept q_movedKept q_traced q_bitsOf q_sizeOf q_number q_lifted v_images v_base v_at v_size v_fault v_opened v_isSeen v_isKeeping v_bubbleMany v_bubbleMost v_bubbleCell v_bestShown v_traceMany v_who v_d v_names r_2 w_3 w_4 w_5 hc_1 s.heap.size) (cwV 0 hts gX12_either_X12_both rfl rfl rfl (by decide +kernel) ⟨show (fr + 4) + 1 ≤ fr + 5 by omega, show 8 + (3 + 11) + (lo + 93) ≤ lo + 115 by omega⟩) (gPreV (wc := [(q_this, .inr (12, [.ref q_d, .ref q_kept, .int v_images, .ref q_found, .ref q_aside, .int v_base, .int v_at, .int v_size, .int v_fault, .int v_opened, .int v_isSeen, .ref q_names, .ref q_seenKept, .ref q_movedKept, .int v_isKeeping, .int v_bubbleMany, .int v_bubbleMost, .int v_bubbleCell, .int v_bestShown, .ref q_traced, .int v_traceMany, .int v_who, .ref q_bitsOf, .ref q_sizeOf, .ref q_number, .ref q_lifted])), (q_d, .inl (c 0, 244, .inl v_d)), (q_names, .inl (c 0, 3, .inl v_names))]) (q := (RX12, TX12, 26)) (ci := 12) (q0 := 0) (isC := [0, 1, 2]) hK hX hS hA hP hD ⟨rfl, rfl, rfl, trivial⟩ (by decide +kernel) rfl rfl) rfl rfl hl.1 rfl (lv_room (Nat.le_of_ble_eq_true rfl)) dX12_either_1 ⟨Nat.le_of_ble_eq_true rfl, Nat.le_of_ble_eq_true rfl⟩) (fun H locs hP hD hS => ?_)
  refine lv_istore_n (lv' := [(1, .int r_2), (0, .ref q_this)]) hx hb dX12_either_4 rfl hl (by decide) rfl (fun ls hl => ?_)
  exact t_L5 gFuel r_2 w_3 w_4 w_5 H locs hP hD hS ls (lv_sub hl [1, 0] rfl) h
set_option maxRecDepth 20000 in
theorem in_X12_nameOf_X12 : ∀ w ∈ u_ws RX12 TX12 26, w ∈ wsX12_nameOf := by decide +kernel
def f_X12_nameOf (a_1 : Int32) (v_isSeen : Int32) : Option (Int32) :=
  if v_isSeen = 0 then
    if a_1 = 97 then
      some 0
    else
      if a_1 = 112 then
        some 1
      else
        if a_1 = 109 then
          some 2
        else
          some (-1)
  else
    if a_1 = 97 then
      some 0
    else
      if a_1 = 114 then
        some 1
      else
        if a_1 = 99 then
          some 2
        else
          some (-1)

abbrev rm_X12_nameOf : Room := { frames := 0, cells := 0, slots := 0, locals := 0 }
set_option maxHeartbeats 4000000 in
set_option maxRecDepth 100000 in
theorem c_X12_nameOf (l : Launch) (D : va_G) (c : Nat → ClassId) (q_this q_d q_kept q_found q_aside q_names q_seenKept q_movedKept q_traced q_bitsOf q_sizeOf q_number q_lifted : Nat) (a_1 : Int32) (v_images : Int32) (v_base : Int32) (v_at : Int32) (v_size : Int32) (v_fault : Int32) (v_opened : Int32) (v_isSeen : Int32) (v_isKeeping : Int32) (v_bubbleMany : Int32) (v_bubbleMost : Int32) (v_bubbleCell : Int32) (v_bestShown : Int32) (v_traceMany : Int32) (v_who : Int32) (o_r : Int32) (h : f_X12_nameOf a_1 v_isSeen = some o_r) : gMI l yX12_nameOf wsX12_nameOf rm_X12_nameOf D c [.ref q_this, .int a_1] [(q_this, .inr (12, [.ref q_d, .ref q_kept, .int v_images, .ref q_found, .ref q_aside, .int v_base, .int v_at, .int v_size, .int v_fault, .int v_opened, .int v_isSeen, .ref q_names, .ref q_seenKept, .ref q_movedKept, .int v_isKeeping, .int v_bubbleMany, .int v_bubbleMost, .int v_bubbleCell, .int v_bestShown, .ref q_traced, .int v_traceMany, .int v_who, .ref q_bitsOf, .ref q_sizeOf, .ref q_number, .ref q_lifted]))] [(q_this, .inr (12, [.ref q_d, .ref q_kept, .int v_images, .ref q_found, .ref q_aside, .int v_base, .int v_at, .int v_size, .int v_fault, .int v_opened, .int v_isSeen, .ref q_names, .ref q_seenKept, .ref q_movedKept, .int v_isKeeping, .int v_bubbleMany, .int v_bubbleMost, .int v_bubbleCell, .int v_bestShown, .ref q_traced, .int v_traceMany, .int v_who, .ref q_bitsOf, .ref q_sizeOf, .ref q_number, .ref q_lifted]))] o_r := by
  refine gMI_of (cc := cX12_nameOf) (maxL := 2) (rt := (some .int)) (by decide +kernel) rfl (Nat.le_of_ble_eq_true rfl) ?_
  intro p e s m below meth co A hF hK hX hP hD hA hS ls hl
  obtain ⟨hx, hb, hr, hts, hown, hlocks, hml⟩ := id hF
  have hl : lv_has ls 2 [(0, .ref q_this), (1, .int a_1)] := hl
  unfold f_X12_nameOf at h
  refine lv_aload_n hx hb dX12_nameOf_0 rfl (lv_at hl 0 rfl) ?_
  refine va_get (D := D) (ci := 12) (v := .int v_isSeen) (C := RX12) (T := TX12) (N := 26) hx hb hts in_X12_nameOf_X12 hown hK.1 hP 0 rfl rfl 10 (by decide) (hts (.fieldLink RX12 77 "PaperBubblesModel" "isSeen" "Z") (List.mem_of_getElem? (i := 1) rfl)) (fun _ h9 => h9) rfl dX12_nameOf_1 ?_
  refine lv_if_eq (tgt := 39) hx hb dX12_nameOf_4 (by decide) (fun c_1 => ?_) (fun c_1 => ?_)
  · replace h := it_t c_1 h
    refine lv_iload_n hx hb dX12_nameOf_39 rfl (lv_at hl 1 rfl) ?_
    refine lv_bipush (v := 97) hx hb dX12_nameOf_40 (by decide) ?_
    refine lv_icmp_ne (tgt := 49) hx hb dX12_nameOf_42 (by decide) (fun c_2 => ?_) (fun c_2 => ?_)
    · replace h := it_f c_2 h
      refine lv_iload_n hx hb dX12_nameOf_49 rfl (lv_at hl 1 rfl) ?_
      refine lv_bipush (v := 112) hx hb dX12_nameOf_50 (by decide) ?_
      refine lv_icmp_ne (tgt := 59) hx hb dX12_nameOf_52 (by decide) (fun c_3 => ?_) (fun c_3 => ?_)
      · replace h := it_f c_3 h
        refine lv_iload_n hx hb dX12_nameOf_59 rfl (lv_at hl 1 rfl) ?_
        refine lv_bipush (v := 109) hx hb dX12_nameOf_60 (by decide) ?_
        refine lv_icmp_ne (tgt := 69) hx hb dX12_nameOf_62 (by decide) (fun c_4 => ?_) (fun c_4 => ?_)
        · replace h := it_f c_4 h
          refine lv_iconst (v := (-1)) hx hb dX12_nameOf_69 (by decide) ?_
          replace h := so1 h
          subst h
          exact gIret hF hP hD hS rfl dX12_nameOf_70
        · replace h := it_t c_4 h
          refine lv_iconst (v := 2) hx hb dX12_nameOf_65 (by decide) ?_
          refine lv_goto (tgt := 70) hx hb dX12_nameOf_66 (by decide) ?_
          replace h := so1 h
          subst h
          exact gIret hF hP hD hS rfl dX12_nameOf_70
      · replace h := it_t c_3 h
        refine lv_iconst (v := 1) hx hb dX12_nameOf_55 (by decide) ?_
        refine lv_goto (tgt := 70) hx hb dX12_nameOf_56 (by decide) ?_
        replace h := so1 h
        subst h
        exact gIret hF hP hD hS rfl dX12_nameOf_70
    · replace h := it_t c_2 h
      refine lv_iconst (v := 0) hx hb dX12_nameOf_45 (by decide) ?_
      refine lv_goto (tgt := 70) hx hb dX12_nameOf_46 (by decide) ?_
      replace h := so1 h
      subst h
      exact gIret hF hP hD hS rfl dX12_nameOf_70
  · replace h := it_f c_1 h
    refine lv_iload_n hx hb dX12_nameOf_7 rfl (lv_at hl 1 rfl) ?_
    refine lv_bipush (v := 97) hx hb dX12_nameOf_8 (by decide) ?_
    refine lv_icmp_ne (tgt := 17) hx hb dX12_nameOf_10 (by decide) (fun c_5 => ?_) (fun c_5 => ?_)
    · replace h := it_f c_5 h
      refine lv_iload_n hx hb dX12_nameOf_17 rfl (lv_at hl 1 rfl) ?_
      refine lv_bipush (v := 114) hx hb dX12_nameOf_18 (by decide) ?_
      refine lv_icmp_ne (tgt := 27) hx hb dX12_nameOf_20 (by decide) (fun c_6 => ?_) (fun c_6 => ?_)
      · replace h := it_f c_6 h
        refine lv_iload_n hx hb dX12_nameOf_27 rfl (lv_at hl 1 rfl) ?_
        refine lv_bipush (v := 99) hx hb dX12_nameOf_28 (by decide) ?_
        refine lv_icmp_ne (tgt := 37) hx hb dX12_nameOf_30 (by decide) (fun c_7 => ?_) (fun c_7 => ?_)
        · replace h := it_f c_7 h
          refine lv_iconst (v := (-1)) hx hb dX12_nameOf_37 (by decide) ?_
          replace h := so1 h
          subst h
          exact gIret hF hP hD hS rfl dX12_nameOf_38
        · replace h := it_t c_7 h
          refine lv_iconst (v := 2) hx hb dX12_nameOf_33 (by decide) ?_
          refine lv_goto (tgt := 38) hx hb dX12_nameOf_34 (by decide) ?_
          replace h := so1 h
          subst h
          exact gIret hF hP hD hS rfl dX12_nameOf_38
      · replace h := it_t c_6 h
        refine lv_iconst (v := 1) hx hb dX12_nameOf_23 (by decide) ?_
        refine lv_goto (tgt := 38) hx hb dX12_nameOf_24 (by decide) ?_
        replace h := so1 h
        subst h
        exact gIret hF hP hD hS rfl dX12_nameOf_38
    · replace h := it_t c_5 h
      refine lv_iconst (v := 0) hx hb dX12_nameOf_13 (by decide) ?_
      refine lv_goto (tgt := 38) hx hb dX12_nameOf_14 (by decide) ?_
      replace h := so1 h
      subst h
      exact gIret hF hP hD hS rfl dX12_nameOf_38
set_option maxRecDepth 20000 in
theorem in_X12_wrong_X12 : ∀ w ∈ u_ws RX12 TX12 26, w ∈ wsX12_wrong := by decide +kernel
def f_X12_wrong (v_at : Int32) (v_fault : Int32) : Option (Int32 × Int32) :=
  if 0 ≤ v_fault then
    some (0, v_fault)
  else
    some (0, v_at)

abbrev rm_X12_wrong : Room := { frames := 0, cells := 0, slots := 0, locals := 0 }
set_option maxHeartbeats 4000000 in
set_option maxRecDepth 100000 in
theorem c_X12_wrong (l : Launch) (D : va_G) (c : Nat → ClassId) (q_this q_d q_kept q_found q_aside q_names q_seenKept q_movedKept q_traced q_bitsOf q_sizeOf q_number q_lifted : Nat) (v_images : Int32) (v_base : Int32) (v_at : Int32) (v_size : Int32) (v_fault : Int32) (v_opened : Int32) (v_isSeen : Int32) (v_isKeeping : Int32) (v_bubbleMany : Int32) (v_bubbleMost : Int32) (v_bubbleCell : Int32) (v_bestShown : Int32) (v_traceMany : Int32) (v_who : Int32) (o_r : Int32) (o_v_fault : Int32) (h : f_X12_wrong v_at v_fault = some (o_r, o_v_fault)) : gMI l yX12_wrong wsX12_wrong rm_X12_wrong D c [.ref q_this] [(q_this, .inr (12, [.ref q_d, .ref q_kept, .int v_images, .ref q_found, .ref q_aside, .int v_base, .int v_at, .int v_size, .int v_fault, .int v_opened, .int v_isSeen, .ref q_names, .ref q_seenKept, .ref q_movedKept, .int v_isKeeping, .int v_bubbleMany, .int v_bubbleMost, .int v_bubbleCell, .int v_bestShown, .ref q_traced, .int v_traceMany, .int v_who, .ref q_bitsOf, .ref q_sizeOf, .ref q_number, .ref q_lifted]))] [(q_this, .inr (12, [.ref q_d, .ref q_kept, .int v_images, .ref q_found, .ref q_aside, .int v_base, .int v_at, .int v_size, .int o_v_fault, .int v_opened, .int v_isSeen, .ref q_names, .ref q_seenKept, .ref q_movedKept, .int v_isKeeping, .int v_bubbleMany, .int v_bubbleMost, .int v_bubbleCell, .int v_bestShown, .ref q_traced, .int v_traceMany, .int v_who, .ref q_bitsOf, .ref q_sizeOf, .ref q_number, .ref q_lifted]))] o_r := by
  refine gMI_of (cc := cX12_wrong) (maxL := 1) (rt := (some .int)) (by decide +kernel) rfl (Nat.le_of_ble_eq_true rfl) ?_
  intro p e s m below meth co A hF hK hX hP hD hA hS ls hl
  obtain ⟨hx, hb, hr, hts, hown, hlocks, hml⟩ := id hF
  have hl : lv_has ls 1 [(0, .ref q_this)] := hl
  unfold f_X12_wrong at h
  refine lv_aload_n hx hb dX12_wrong_0 rfl (lv_at hl 0 rfl) ?_
  refine lv_aload_n hx hb dX12_wrong_1 rfl (lv_at hl 0 rfl) ?_
  refine va_get (D := D) (ci := 12) (v := .int v_fault) (C := RX12) (T := TX12) (N := 26) hx hb hts in_X12_wrong_X12 hown hK.1 hP 0 rfl rfl 8 (by decide) (hts (.fieldLink RX12 68 "PaperBubblesModel" "fault" "I") (List.mem_of_getElem? (i := 1) rfl)) (fun _ h9 => h9) rfl dX12_wrong_2 ?_
  refine lv_if_ge (tgt := 15) hx hb dX12_wrong_5 (by decide) (fun c_1 => ?_) (fun c_1 => ?_)
  · replace h := it_t c_1 h
    refine lv_aload_n hx hb dX12_wrong_15 rfl (lv_at hl 0 rfl) ?_
    refine va_get (D := D) (ci := 12) (v := .int v_fault) (C := RX12) (T := TX12) (N := 26) hx hb hts in_X12_wrong_X12 hown hK.1 hP 0 rfl rfl 8 (by decide) (hts (.fieldLink RX12 68 "PaperBubblesModel" "fault" "I") (List.mem_of_getElem? (i := 1) rfl)) (fun _ h9 => h9) rfl dX12_wrong_16 ?_
    refine va_put (D := D) (ci := 12) (v := .int v_fault) (ty := .int) (C := RX12) (T := TX12) (N := 26) hx hb hts in_X12_wrong_X12 tyX12 tyX12_ok nmX12 hown hK.1 hP hD hS 0 rfl rfl 8 (by decide) (hts (.fieldLink RX12 68 "PaperBubblesModel" "fault" "I") (List.mem_of_getElem? (i := 1) rfl)) (fun _ h9 => h9) rfl (by decide +kernel) rfl rfl (Nat.le_of_ble_eq_true rfl) dX12_wrong_19 (fun H locs hP hD hS => ?_)
    have hP : va_P D gcl [(q_this, .inr (12, [.ref q_d, .ref q_kept, .int v_images, .ref q_found, .ref q_aside, .int v_base, .int v_at, .int v_size, .int v_fault, .int v_opened, .int v_isSeen, .ref q_names, .ref q_seenKept, .ref q_movedKept, .int v_isKeeping, .int v_bubbleMany, .int v_bubbleMost, .int v_bubbleCell, .int v_bestShown, .ref q_traced, .int v_traceMany, .int v_who, .ref q_bitsOf, .ref q_sizeOf, .ref q_number, .ref q_lifted]))] H := hP
    have hD : va_D A [(q_this, .inr (12, [.ref q_d, .ref q_kept, .int v_images, .ref q_found, .ref q_aside, .int v_base, .int v_at, .int v_size, .int v_fault, .int v_opened, .int v_isSeen, .ref q_names, .ref q_seenKept, .ref q_movedKept, .int v_isKeeping, .int v_bubbleMany, .int v_bubbleMost, .int v_bubbleCell, .int v_bestShown, .ref q_traced, .int v_traceMany, .int v_who, .ref q_bitsOf, .ref q_sizeOf, .ref q_number, .ref q_lifted]))] := hD
    refine lv_iconst (v := 0) hx hb dX12_wrong_22 (by decide) ?_
    replace h := so2 h
    obtain ⟨z0, z1⟩ := h
    subst z0 z1
    exact gIret hF hP hD hS rfl dX12_wrong_23
  · replace h := it_f c_1 h
    refine lv_aload_n hx hb dX12_wrong_8 rfl (lv_at hl 0 rfl) ?_
    refine va_get (D := D) (ci := 12) (v := .int v_at) (C := RX12) (T := TX12) (N := 26) hx hb hts in_X12_wrong_X12 hown hK.1 hP 0 rfl rfl 6 (by decide) (hts (.fieldLink RX12 61 "PaperBubblesModel" "at" "I") (List.mem_of_getElem? (i := 2) rfl)) (fun _ h9 => h9) rfl dX12_wrong_9 ?_
    refine lv_goto (tgt := 19) hx hb dX12_wrong_12 (by decide) ?_
    refine va_put (D := D) (ci := 12) (v := .int v_at) (ty := .int) (C := RX12) (T := TX12) (N := 26) hx hb hts in_X12_wrong_X12 tyX12 tyX12_ok nmX12 hown hK.1 hP hD hS 0 rfl rfl 8 (by decide) (hts (.fieldLink RX12 68 "PaperBubblesModel" "fault" "I") (List.mem_of_getElem? (i := 1) rfl)) (fun _ h9 => h9) rfl (by decide +kernel) rfl rfl (Nat.le_of_ble_eq_true rfl) dX12_wrong_19 (fun H locs hP hD hS => ?_)
    have hP : va_P D gcl [(q_this, .inr (12, [.ref q_d, .ref q_kept, .int v_images, .ref q_found, .ref q_aside, .int v_base, .int v_at, .int v_size, .int v_at, .int v_opened, .int v_isSeen, .ref q_names, .ref q_seenKept, .ref q_movedKept, .int v_isKeeping, .int v_bubbleMany, .int v_bubbleMost, .int v_bubbleCell, .int v_bestShown, .ref q_traced, .int v_traceMany, .int v_who, .ref q_bitsOf, .ref q_sizeOf, .ref q_number, .ref q_lifted]))] H := hP
    have hD : va_D A [(q_this, .inr (12, [.ref q_d, .ref q_kept, .int v_images, .ref q_found, .ref q_aside, .int v_base, .int v_at, .int v_size, .int v_at, .int v_opened, .int v_isSeen, .ref q_names, .ref q_seenKept, .ref q_movedKept, .int v_isKeeping, .int v_bubbleMany, .int v_bubbleMost, .int v_bubbleCell, .int v_bestShown, .ref q_traced, .int v_traceMany, .int v_who, .ref q_bitsOf, .ref q_sizeOf, .ref q_number, .ref q_lifted]))] := hD
    refine lv_iconst (v := 0) hx hb dX12_wrong_22 (by decide) ?_
    replace h := so2 h
    obtain ⟨z0, z1⟩ := h
    subst z0 z1
    exact gIret hF hP hD hS rfl dX12_wrong_23
set_option maxRecDepth 20000 in
theorem in_X12_unit_X12 : ∀ w ∈ u_ws RX12 TX12 26, w ∈ wsX12_unit := by decide +kernel
def f_X12_unit_L88 (uu : Int32 → Int32 → Int32 → Int32 → Int32 → Int32 → (Nat → Int32) → (Nat → Int32) → Option (Int32 × Int32 × Int32 × Int32)) (x1 : Int32) (x2 : Int32) (v_at : Int32) (v_fault : Int32) (v_opened : Int32) : Option (Int32 × Int32 × Int32 × Int32) :=
  nm (v_opened - 1 : Int32) fun t_52 =>
  if x1 = 40 then
    some (x2, v_at, v_fault, t_52)
  else
    if x2 = 0 then
      some (1, v_at, v_fault, t_52)
    else
      some (0, v_at, v_fault, t_52)

def f_X12_unit_L67 (uu : Int32 → Int32 → Int32 → Int32 → Int32 → Int32 → (Nat → Int32) → (Nat → Int32) → Option (Int32 × Int32 × Int32 × Int32)) (v_base : Int32) (v_size : Int32) (v_d : Nat → Int32) (x1 : Int32) (y0 : Int32) (v_at : Int32) (v_fault : Int32) (v_opened : Int32) : Option (Int32 × Int32 × Int32 × Int32) :=
  if x1 = 40 then
    kb2 (f_X12_takes 41 v_base v_at v_size v_fault v_d) fun r_42 w_43 =>
    if r_42 = 0 then
      kb2 (f_X12_wrong w_43 v_fault) fun r_46 w_47 =>
      some (r_46, w_43, w_47, v_opened)
    else
      f_X12_unit_L88 uu x1 y0 w_43 v_fault v_opened
  else
    f_X12_unit_L88 uu x1 y0 v_at v_fault v_opened

def f_X12_unit_L17 (uu : Int32 → Int32 → Int32 → Int32 → Int32 → Int32 → (Nat → Int32) → (Nat → Int32) → Option (Int32 × Int32 × Int32 × Int32)) (v_base : Int32) (v_size : Int32) (v_isSeen : Int32) (v_d : Nat → Int32) (v_names : Nat → Int32) (x1 : Int32) (v_at : Int32) (v_fault : Int32) (v_opened : Int32) : Option (Int32 × Int32 × Int32 × Int32) :=
  if v_opened = 5 then
    kb2 (f_X12_wrong v_at v_fault) fun r_25 w_26 =>
    some (r_25, v_at, w_26, v_opened)
  else
    nm (v_opened + 1 : Int32) fun t_11 =>
    nm (v_at + 1 : Int32) fun t_12 =>
    if x1 = 40 then
      kb4 (f_X12_either uu v_base t_12 v_size v_fault t_11 v_isSeen v_d v_names) fun r_20 w_21 w_22 w_23 =>
      f_X12_unit_L67 uu v_base v_size v_d x1 r_20 w_21 w_22 w_23
    else
      kb4 (uu v_base t_12 v_size v_fault t_11 v_isSeen v_d v_names) fun r_15 w_16 w_17 w_18 =>
      f_X12_unit_L67 uu v_base v_size v_d x1 r_15 w_16 w_17 w_18

def f_X12_unit_L202 (uu : Int32 → Int32 → Int32 → Int32 → Int32 → Int32 → (Nat → Int32) → (Nat → Int32) → Option (Int32 × Int32 × Int32 × Int32)) (x3 : Int32) (x4 : Int32) (v_at : Int32) (v_fault : Int32) (v_opened : Int32) : Option (Int32 × Int32 × Int32 × Int32) :=
  if x4 = 0 then
    kb2 (f_X12_wrong v_at v_fault) fun r_50 w_51 =>
    some (r_50, v_at, w_51, v_opened)
  else
    some (x3, v_at, v_fault, v_opened)

def f_X12_unit_L150 (uu : Int32 → Int32 → Int32 → Int32 → Int32 → Int32 → (Nat → Int32) → (Nat → Int32) → Option (Int32 × Int32 × Int32 × Int32)) (v_base : Int32) (v_size : Int32) (v_d : Nat → Int32) : Nat → Int32 → Int32 → Int32 → Int32 → Int32 → Option (Int32 × Int32 × Int32 × Int32)
  | 0, _, _, _, _, _ => none
  | n + 1, x3, x4, v_at, v_fault, v_opened =>
    if 4 ≤ x4 then
      f_X12_unit_L202 uu x3 x4 v_at v_fault v_opened
    else
      kb (f_X12_here v_base v_at v_size v_fault v_d) fun r_29 =>
      kb (f_X12_in ((r_29 : Int32).toInt64) 48 57) fun r_31 =>
      if r_31 = 0 then
        f_X12_unit_L202 uu x3 x4 v_at v_fault v_opened
      else
        nm (10 * x3 : Int32) fun t_33 =>
        kb (f_X12_here v_base v_at v_size v_fault v_d) fun r_35 =>
        nm (t_33 + r_35 : Int32) fun t_36 =>
        nm (t_36 - 48 : Int32) fun t_37 =>
        nm (v_at + 1 : Int32) fun t_38 =>
        nm (x4 + 1 : Int32) fun t_39 =>
        f_X12_unit_L150 uu v_base v_size v_d n t_37 t_39 t_38 v_fault v_opened

def f_X12_unit (uu : Int32 → Int32 → Int32 → Int32 → Int32 → Int32 → (Nat → Int32) → (Nat → Int32) → Option (Int32 × Int32 × Int32 × Int32)) (v_base : Int32) (v_at : Int32) (v_size : Int32) (v_fault : Int32) (v_opened : Int32) (v_isSeen : Int32) (v_d : Nat → Int32) (v_names : Nat → Int32) : Option (Int32 × Int32 × Int32 × Int32) :=
  kb (f_X12_here v_base v_at v_size v_fault v_d) fun r_2 =>
  if r_2 = 33 then
    f_X12_unit_L17 uu v_base v_size v_isSeen v_d v_names r_2 v_at v_fault v_opened
  else
    if r_2 = 40 then
      f_X12_unit_L17 uu v_base v_size v_isSeen v_d v_names r_2 v_at v_fault v_opened
    else
      kb (f_X12_nameOf r_2 v_isSeen) fun r_6 =>
      if r_6 < 0 then
        f_X12_unit_L150 uu v_base v_size v_d gFuel 0 0 v_at v_fault v_opened
      else
        nm (v_at + 1 : Int32) fun t_8 =>
        chi r_6 3 <|
        some (v_names r_6.toNatClampNeg, t_8, v_fault, v_opened)

abbrev rm_X12_unit (fr lo : Nat) : Room := { frames := fr + 6, cells := 0, slots := 0, locals := lo + 137 }
set_option maxHeartbeats 4000000 in
set_option maxRecDepth 100000 in
theorem c_X12_unit (l : Launch) (D : va_G) (c : Nat → ClassId) (uu : Int32 → Int32 → Int32 → Int32 → Int32 → Int32 → (Nat → Int32) → (Nat → Int32) → Option (Int32 × Int32 × Int32 × Int32)) (fr lo : Nat) (hu : ∀ (q_this q_d q_kept q_found q_aside q_names q_seenKept q_movedKept q_traced q_bitsOf q_sizeOf q_number q_lifted : Nat) (v_images : Int32) (v_base : Int32) (v_at : Int32) (v_size : Int32) (v_fault : Int32) (v_opened : Int32) (v_isSeen : Int32) (v_isKeeping : Int32) (v_bubbleMany : Int32) (v_bubbleMost : Int32) (v_bubbleCell : Int32) (v_bestShown : Int32) (v_traceMany : Int32) (v_who : Int32) (v_d : Nat → Int32) (v_names : Nat → Int32) (o_r : Int32) (o_v_at : Int32) (o_v_fault : Int32) (o_v_opened : Int32), uu v_base v_at v_size v_fault v_opened v_isSeen v_d v_names = some (o_r, o_v_at, o_v_fault, o_v_opened) → gMI l yX12_unit wsX12_unit { frames := fr, cells := 0, slots := 0, locals := lo } D c [.ref q_this] [(q_this, .inr (12, [.ref q_d, .ref q_kept, .int v_images, .ref q_found, .ref q_aside, .int v_base, .int v_at, .int v_size, .int v_fault, .int v_opened, .int v_isSeen, .ref q_names, .ref q_seenKept, .ref q_movedKept, .int v_isKeeping, .int v_bubbleMany, .int v_bubbleMost, .int v_bubbleCell, .int v_bestShown, .ref q_traced, .int v_traceMany, .int v_who, .ref q_bitsOf, .ref q_sizeOf, .ref q_number, .ref q_lifted])), (q_d, .inl (c 0, 244, .inl v_d)), (q_names, .inl (c 0, 3, .inl v_names))] [(q_this, .inr (12, [.ref q_d, .ref q_kept, .int v_images, .ref q_found, .ref q_aside, .int v_base, .int o_v_at, .int v_size, .int o_v_fault, .int o_v_opened, .int v_isSeen, .ref q_names, .ref q_seenKept, .ref q_movedKept, .int v_isKeeping, .int v_bubbleMany, .int v_bubbleMost, .int v_bubbleCell, .int v_bestShown, .ref q_traced, .int v_traceMany, .int v_who, .ref q_bitsOf, .ref q_sizeOf, .ref q_number, .ref q_lifted])), (q_d, .inl (c 0, 244, .inl v_d)), (q_names, .inl (c 0, 3, .inl v_names))] o_r) (q_this q_d q_kept q_found q_aside q_names q_seenKept q_movedKept q_traced q_bitsOf q_sizeOf q_number q_lifted : Nat) (v_images : Int32) (v_base : Int32) (v_at : Int32) (v_size : Int32) (v_fault : Int32) (v_opened : Int32) (v_isSeen : Int32) (v_isKeeping : Int32) (v_bubbleMany : Int32) (v_bubbleMost : Int32) (v_bubbleCell : Int32) (v_bestShown : Int32) (v_traceMany : Int32) (v_who : Int32) (v_d : Nat → Int32) (v_names : Nat → Int32) (o_r : Int32) (o_v_at : Int32) (o_v_fault : Int32) (o_v_opened : Int32) (h : f_X12_unit uu v_base v_at v_size v_fault v_opened v_isSeen v_d v_names = some (o_r, o_v_at, o_v_fault, o_v_opened)) : gMI l yX12_unit wsX12_unit (rm_X12_unit fr lo) D c [.ref q_this] [(q_this, .inr (12, [.ref q_d, .ref q_kept, .int v_images, .ref q_found, .ref q_aside, .int v_base, .int v_at, .int v_size, .int v_fault, .int v_opened, .int v_isSeen, .ref q_names, .ref q_seenKept, .ref q_movedKept, .int v_isKeeping, .int v_bubbleMany, .int v_bubbleMost, .int v_bubbleCell, .int v_bestShown, .ref q_traced, .int v_traceMany, .int v_who, .ref q_bitsOf, .ref q_sizeOf, .ref q_number, .ref q_lifted])), (q_d, .inl (c 0, 244, .inl v_d)), (q_names, .inl (c 0, 3, .inl v_names))] [(q_this, .inr (12, [.ref q_d, .ref q_kept, .int v_images, .ref q_found, .ref q_aside, .int v_base, .int o_v_at, .int v_size, .int o_v_fault, .int o_v_opened, .int v_isSeen, .ref q_names, .ref q_seenKept, .ref q_movedKept, .int v_isKeeping, .int v_bubbleMany, .int v_bubbleMost, .int v_bubbleCell, .int v_bestShown, .ref q_traced, .int v_traceMany, .int v_who, .ref q_bitsOf, .ref q_sizeOf, .ref q_number, .ref q_lifted])), (q_d, .inl (c 0, 244, .inl v_d)), (q_names, .inl (c 0, 3, .inl v_names))] o_r := by
  refine gMI_of (cc := cX12_unit) (maxL := 5) (rt := (some .int)) (by decide +kernel) rfl (Nat.le_of_ble_eq_true rfl) ?_
  intro p e s m below meth co A hF hK hX hP hD hA hS ls hl
  obtain ⟨hx, hb, hr, hts, hown, hlocks, hml⟩ := id hF
  have hl : lv_has ls 5 [(0, .ref q_this)] := hl
  have t_L88 : ∀ (x1 : Int32) (x2 : Int32) (v_at : Int32) (v_fault : Int32) (v_opened : Int32) (H : Heap) (locs : List Loc), va_P D gcl [(q_this, .inr (12, [.ref q_d, .ref q_kept, .int v_images, .ref q_found, .ref q_aside, .int v_base, .int v_at, .int v_size, .int v_fault, .int v_opened, .int v_isSeen, .ref q_names, .ref q_seenKept, .ref q_movedKept, .int v_isKeeping, .int v_bubbleMany, .int v_bubbleMost, .int v_bubbleCell, .int v_bestShown, .ref q_traced, .int v_traceMany, .int v_who, .ref q_bitsOf, .ref q_sizeOf, .ref q_number, .ref q_lifted])), (q_d, .inl (c 0, 244, .inl v_d)), (q_names, .inl (c 0, 3, .inl v_names))] H → va_D A [(q_this, .inr (12, [.ref q_d, .ref q_kept, .int v_images, .ref q_found, .ref q_aside, .int v_base, .int v_at, .int v_size, .int v_fault, .int v_opened, .int v_isSeen, .ref q_names, .ref q_seenKept, .ref q_movedKept, .int v_isKeeping, .int v_bubbleMany, .int v_bubbleMost, .int v_bubbleCell, .int v_bestShown, .ref q_traced, .int v_traceMany, .int v_who, .ref q_bitsOf, .ref q_sizeOf, .ref q_number, .ref q_lifted])), (q_d, .inl (c 0, 244, .inl v_d)), (q_names, .inl (c 0, 3, .inl v_names))] → va_S A s.heap H locs → ∀ ls, lv_has ls 5 [(0, .ref q_this), (1, .int x1), (2, .int x2)] → f_X12_unit_L88 uu x1 x2 v_at v_fault v_opened = some (o_r, o_v_at, o_v_fault, o_v_opened) → W p l e (headSpec wsX12_unit (rm_X12_unit fr lo)).room s m [.ref q_this].toArray below meth co H locs 0 0 (gQI D [(q_this, .inr (12, [.ref q_d, .ref q_kept, .int v_images, .ref q_found, .ref q_aside, .int v_base, .int o_v_at, .int v_size, .int o_v_fault, .int o_v_opened, .int v_isSeen, .ref q_names, .ref q_seenKept, .ref q_movedKept, .int v_isKeeping, .int v_bubbleMany, .int v_bubbleMost, .int v_bubbleCell, .int v_bestShown, .ref q_traced, .int v_traceMany, .int v_who, .ref q_bitsOf, .ref q_sizeOf, .ref q_number, .ref q_lifted])), (q_d, .inl (c 0, 244, .inl v_d)), (q_names, .inl (c 0, 3, .inl v_names))] o_r A below [.ref q_this] s) (F0 m 88 ls []) := by
    intro  x1 x2 v_at v_fault v_opened H locs hP hD hS ls hl h
    unfold f_X12_unit_L88 at h
    refine lv_aload_n hx hb dX12_unit_88 rfl (lv_at hl 0 rfl) ?_
    refine lv_dup hx hb dX12_unit_89 rfl ?_
    refine va_get (D := D) (ci := 12) (v := .int v_opened) (C := RX12) (T := TX12) (N := 26) hx hb hts in_X12_unit_X12 hown hK.1 hP 0 rfl rfl 9 (by decide) (hts (.fieldLink RX12 100 "PaperBubblesModel" "opened" "I") (List.mem_of_getElem? (i := 1) rfl)) (fun _ h9 => h9) rfl dX12_unit_90 ?_
    refine lv_iconst (v := 1) hx hb dX12_unit_93 (by decide) ?_
    refine lv_isub hx hb dX12_unit_94 ?_
    replace h := nm_ok h
    obtain ⟨t_52, et_52, h⟩ := h
    refine gTop et_52 ?_
    refine va_put (D := D) (ci := 12) (v := .int t_52) (ty := .int) (C := RX12) (T := TX12) (N := 26) hx hb hts in_X12_unit_X12 tyX12 tyX12_ok nmX12 hown hK.1 hP hD hS 0 rfl rfl 9 (by decide) (hts (.fieldLink RX12 100 "PaperBubblesModel" "opened" "I") (List.mem_of_getElem? (i := 1) rfl)) (fun _ h9 => h9) rfl (by decide +kernel) rfl rfl (Nat.le_of_ble_eq_true rfl) dX12_unit_95 (fun H locs hP hD hS => ?_)
    have hP : va_P D gcl [(q_this, .inr (12, [.ref q_d, .ref q_kept, .int v_images, .ref q_found, .ref q_aside, .int v_base, .int v_at, .int v_size, .int v_fault, .int t_52, .int v_isSeen, .ref q_names, .ref q_seenKept, .ref q_movedKept, .int v_isKeeping, .int v_bubbleMany, .int v_bubbleMost, .int v_bubbleCell, .int v_bestShown, .ref q_traced, .int v_traceMany, .int v_who, .ref q_bitsOf, .ref q_sizeOf, .ref q_number, .ref q_lifted])), (q_d, .inl (c 0, 244, .inl v_d)), (q_names, .inl (c 0, 3, .inl v_names))] H := hP
    have hD : va_D A [(q_this, .inr (12, [.ref q_d, .ref q_kept, .int v_images, .ref q_found, .ref q_aside, .int v_base, .int v_at, .int v_size, .int v_fault, .int t_52, .int v_isSeen, .ref q_names, .ref q_seenKept, .ref q_movedKept, .int v_isKeeping, .int v_bubbleMany, .int v_bubbleMost, .int v_bubbleCell, .int v_bestShown, .ref q_traced, .int v_traceMany, .int v_who, .ref q_bitsOf, .ref q_sizeOf, .ref q_number, .ref q_lifted])), (q_d, .inl (c 0, 244, .inl v_d)), (q_names, .inl (c 0, 3, .inl v_names))] := hD
    refine lv_iload_n hx hb dX12_unit_98 rfl (lv_at hl 1 rfl) ?_
    refine lv_bipush (v := 40) hx hb dX12_unit_99 (by decide) ?_
    refine lv_icmp_ne (tgt := 108) hx hb dX12_unit_101 (by decide) (fun c_53 => ?_) (fun c_53 => ?_)
    · replace h := it_f c_53 h
      refine lv_iload_n hx hb dX12_unit_108 rfl (lv_at hl 2 rfl) ?_
      refine lv_if_ne (tgt := 116) hx hb dX12_unit_109 (by decide) (fun c_54 => ?_) (fun c_54 => ?_)
      · replace h := it_f c_54 h
        refine lv_iconst (v := 0) hx hb dX12_unit_116 (by decide) ?_
        replace h := so4 h
        obtain ⟨z0, z1, z2, z3⟩ := h
        subst z0 z1 z2 z3
        exact gIret hF hP hD hS rfl dX12_unit_117
      · replace h := it_t c_54 h
        refine lv_iconst (v := 1) hx hb dX12_unit_112 (by decide) ?_
        refine lv_goto (tgt := 117) hx hb dX12_unit_113 (by decide) ?_
        replace h := so4 h
        obtain ⟨z0, z1, z2, z3⟩ := h
        subst z0 z1 z2 z3
        exact gIret hF hP hD hS rfl dX12_unit_117
    · replace h := it_t c_53 h
      refine lv_iload_n hx hb dX12_unit_104 rfl (lv_at hl 2 rfl) ?_
      refine lv_goto (tgt := 117) hx hb dX12_unit_105 (by decide) ?_
      replace h := so4 h
      obtain ⟨z0, z1, z2, z3⟩ := h
      subst z0 z1 z2 z3
      exact gIret hF hP hD hS rfl dX12_unit_117
  have t_L67 : ∀ (x1 : Int32) (y0 : Int32) (v_at : Int32) (v_fault : Int32) (v_opened : Int32) (H : Heap) (locs : List Loc), va_P D gcl [(q_this, .inr (12, [.ref q_d, .ref q_kept, .int v_images, .ref q_found, .ref q_aside, .int v_base, .int v_at, .int v_size, .int v_fault, .int v_opened, .int v_isSeen, .ref q_names, .ref q_seenKept, .ref q_movedKept, .int v_isKeeping, .int v_bubbleMany, .int v_bubbleMost, .int v_bubbleCell, .int v_bestShown, .ref q_traced, .int v_traceMany, .int v_who, .ref q_bitsOf, .ref q_sizeOf, .ref q_number, .ref q_lifted])), (q_d, .inl (c 0, 244, .inl v_d)), (q_names, .inl (c 0, 3, .inl v_names))] H → va_D A [(q_this, .inr (12, [.ref q_d, .ref q_kept, .int v_images, .ref q_found, .ref q_aside, .int v_base, .int v_at, .int v_size, .int v_fault, .int v_opened, .int v_isSeen, .ref q_names, .ref q_seenKept, .ref q_movedKept, .int v_isKeeping, .int v_bubbleMany, .int v_bubbleMost, .int v_bubbleCell, .int v_bestShown, .ref q_traced, .int v_traceMany, .int v_who, .ref q_bitsOf, .ref q_sizeOf, .ref q_number, .ref q_lifted])), (q_d, .inl (c 0, 244, .inl v_d)), (q_names, .inl (c 0, 3, .inl v_names))] → va_S A s.heap H locs → ∀ ls, lv_has ls 5 [(0, .ref q_this), (1, .int x1)] → f_X12_unit_L67 uu v_base v_size v_d x1 y0 v_at v_fault v_opened = some (o_r, o_v_at, o_v_fault, o_v_opened) → W p l e (headSpec wsX12_unit (rm_X12_unit fr lo)).room s m [.ref q_this].toArray below meth co H locs 0 0 (gQI D [(q_this, .inr (12, [.ref q_d, .ref q_kept, .int v_images, .ref q_found, .ref q_aside, .int v_base, .int o_v_at, .int v_size, .int o_v_fault, .int o_v_opened, .int v_isSeen, .ref q_names, .ref q_seenKept, .ref q_movedKept, .int v_isKeeping, .int v_bubbleMany, .int v_bubbleMost, .int v_bubbleCell, .int v_bestShown, .ref q_traced, .int v_traceMany, .int v_who, .ref q_bitsOf, .ref q_sizeOf, .ref q_number, .ref q_lifted])), (q_d, .inl (c 0, 244, .inl v_d)), (q_names, .inl (c 0, 3, .inl v_names))] o_r A below [.ref q_this] s) (F0 m 67 ls [.int y0]) := by
    intro  x1 y0 v_at v_fault v_opened H locs hP hD hS ls hl h
    unfold f_X12_unit_L67 at h
    refine lv_istore_n (lv' := [(2, .int y0), (0, .ref q_this), (1, .int x1)]) hx hb dX12_unit_67 rfl hl (by decide) rfl (fun ls hl => ?_)
    refine lv_iload_n hx hb dX12_unit_68 rfl (lv_at hl 2 rfl) ?_
    refine lv_bipush (v := 40) hx hb dX12_unit_69 (by decide) ?_
    refine lv_icmp_ne (tgt := 88) hx hb dX12_unit_71 (by decide) (fun c_40 => ?_) (fun c_40 => ?_)
    · replace h := it_f c_40 h
      exact t_L88 x1 y0 v_at v_fault v_opened H locs hP hD hS ls (lv_sub hl [1, 2, 0] rfl) h
    · replace h := it_t c_40 h
      refine lv_aload_n hx hb dX12_unit_74 rfl (lv_at hl 1 rfl) ?_
      refine lv_bipush (v := 41) hx hb dX12_unit_75 (by decide) ?_
      replace h := kb2_ok h
      obtain ⟨r_42, w_43, hc_41, h⟩ := h
      refine gCallI (isC := [0, 1]) (wc := [(q_this, .inr (12, [.ref q_d, .ref q_kept, .int v_images, .ref q_found, .ref q_aside, .int v_base, .int v_at, .int v_size, .int v_fault, .int v_opened, .int v_isSeen, .ref q_names, .ref q_seenKept, .ref q_movedKept, .int v_isKeeping, .int v_bubbleMany, .int v_bubbleMost, .int v_bubbleCell, .int v_bestShown, .ref q_traced, .int v_traceMany, .int v_who, .ref q_bitsOf, .ref q_sizeOf, .ref q_number, .ref q_lifted])), (q_d, .inl (c 0, 244, .inl v_d))]) (w1 := [(q_this, .inr (12, [.ref q_d, .ref q_kept, .int v_images, .ref q_found, .ref q_aside, .int v_base, .int w_43, .int v_size, .int v_fault, .int v_opened, .int v_isSeen, .ref q_names, .ref q_seenKept, .ref q_movedKept, .int v_isKeeping, .int v_bubbleMany, .int v_bubbleMost, .int v_bubbleCell, .int v_bestShown, .ref q_traced, .int v_traceMany, .int v_who, .ref q_bitsOf, .ref q_sizeOf, .ref q_number, .ref q_lifted])), (q_d, .inl (c 0, 244, .inl v_d))]) (ws2 := [(q_this, .inr (12, [.ref q_d, .ref q_kept, .int v_images, .ref q_found, .ref q_aside, .int v_base, .int w_43, .int v_size, .int v_fault, .int v_opened, .int v_isSeen, .ref q_names, .ref q_seenKept, .ref q_movedKept, .int v_isKeeping, .int v_bubbleMany, .int v_bubbleMost, .int v_bubbleCell, .int v_bestShown, .ref q_traced, .int v_traceMany, .int v_who, .ref q_bitsOf, .ref q_sizeOf, .ref q_number, .ref q_lifted])), (q_d, .inl (c 0, 244, .inl v_d)), (q_names, .inl (c 0, 3, .inl v_names))]) (ms := [(some 0), (some 1), none]) hP hD hS hA ⟨rfl, rfl, trivial⟩ (by decide +kernel) ⟨rfl, rfl, rfl, trivial⟩ (va_runV (rm := rm_X12_takes) (ws := wsX12_takes) (As := [.int 41]) (rest := []) (gFix hF) (c_X12_takes l D c q_this q_d q_kept q_found q_aside q_names q_seenKept q_movedKept q_traced q_bitsOf q_sizeOf q_number q_lifted 41 v_images v_base v_at v_size v_fault v_opened v_isSeen v_isKeeping v_bubbleMany v_bubbleMost v_bubbleCell v_bestShown v_traceMany v_who v_d r_42 w_43 hc_41 H.size) (cwV 1 hts gX12_unit_X12_takes rfl rfl rfl (by decide +kernel) ⟨show (1) + 1 ≤ fr + 6 by omega, show 8 + (2 + 11) + (20) ≤ lo + 137 by omega⟩) (gPreV (wc := [(q_this, .inr (12, [.ref q_d, .ref q_kept, .int v_images, .ref q_found, .ref q_aside, .int v_base, .int v_at, .int v_size, .int v_fault, .int v_opened, .int v_isSeen, .ref q_names, .ref q_seenKept, .ref q_movedKept, .int v_isKeeping, .int v_bubbleMany, .int v_bubbleMost, .int v_bubbleCell, .int v_bestShown, .ref q_traced, .int v_traceMany, .int v_who, .ref q_bitsOf, .ref q_sizeOf, .ref q_number, .ref q_lifted])), (q_d, .inl (c 0, 244, .inl v_d))]) (q := (RX12, TX12, 26)) (ci := 12) (q0 := 0) (isC := [0, 1]) hK hX hS hA hP hD ⟨rfl, rfl, trivial⟩ (by decide +kernel) rfl rfl) rfl rfl hl.1 rfl (lv_room (Nat.le_of_ble_eq_true rfl)) dX12_unit_77 ⟨Nat.le_of_ble_eq_true rfl, Nat.le_of_ble_eq_true rfl⟩) (fun H locs hP hD hS => ?_)
      refine lv_if_ne (tgt := 88) hx hb dX12_unit_80 (by decide) (fun c_44 => ?_) (fun c_44 => ?_)
      · replace h := it_f c_44 h
        exact t_L88 x1 y0 w_43 v_fault v_opened H locs hP hD hS ls (lv_sub hl [1, 2, 0] rfl) h
      · replace h := it_t c_44 h
        refine lv_aload_n hx hb dX12_unit_83 rfl (lv_at hl 1 rfl) ?_
        replace h := kb2_ok h
        obtain ⟨r_46, w_47, hc_45, h⟩ := h
        refine gCallI (isC := [0]) (wc := [(q_this, .inr (12, [.ref q_d, .ref q_kept, .int v_images, .ref q_found, .ref q_aside, .int v_base, .int w_43, .int v_size, .int v_fault, .int v_opened, .int v_isSeen, .ref q_names, .ref q_seenKept, .ref q_movedKept, .int v_isKeeping, .int v_bubbleMany, .int v_bubbleMost, .int v_bubbleCell, .int v_bestShown, .ref q_traced, .int v_traceMany, .int v_who, .ref q_bitsOf, .ref q_sizeOf, .ref q_number, .ref q_lifted]))]) (w1 := [(q_this, .inr (12, [.ref q_d, .ref q_kept, .int v_images, .ref q_found, .ref q_aside, .int v_base, .int w_43, .int v_size, .int w_47, .int v_opened, .int v_isSeen, .ref q_names, .ref q_seenKept, .ref q_movedKept, .int v_isKeeping, .int v_bubbleMany, .int v_bubbleMost, .int v_bubbleCell, .int v_bestShown, .ref q_traced, .int v_traceMany, .int v_who, .ref q_bitsOf, .ref q_sizeOf, .ref q_number, .ref q_lifted]))]) (ws2 := [(q_this, .inr (12, [.ref q_d, .ref q_kept, .int v_images, .ref q_found, .ref q_aside, .int v_base, .int w_43, .int v_size, .int w_47, .int v_opened, .int v_isSeen, .ref q_names, .ref q_seenKept, .ref q_movedKept, .int v_isKeeping, .int v_bubbleMany, .int v_bubbleMost, .int v_bubbleCell, .int v_bestShown, .ref q_traced, .int v_traceMany, .int v_who, .ref q_bitsOf, .ref q_sizeOf, .ref q_number, .ref q_lifted])), (q_d, .inl (c 0, 244, .inl v_d)), (q_names, .inl (c 0, 3, .inl v_names))]) (ms := [(some 0), none, none]) hP hD hS hA ⟨rfl, trivial⟩ (by decide +kernel) ⟨rfl, rfl, rfl, trivial⟩ (va_runV (rm := rm_X12_wrong) (ws := wsX12_wrong) (As := []) (rest := []) (gFix hF) (c_X12_wrong l D c q_this q_d q_kept q_found q_aside q_names q_seenKept q_movedKept q_traced q_bitsOf q_sizeOf q_number q_lifted v_images v_base w_43 v_size v_fault v_opened v_isSeen v_isKeeping v_bubbleMany v_bubbleMost v_bubbleCell v_bestShown v_traceMany v_who r_46 w_47 hc_45 H.size) (cwV 0 hts gX12_unit_X12_wrong rfl rfl rfl (by decide +kernel) ⟨show (0) + 1 ≤ fr + 6 by omega, show 8 + (1 + 11) + (0) ≤ lo + 137 by omega⟩) (gPreV (wc := [(q_this, .inr (12, [.ref q_d, .ref q_kept, .int v_images, .ref q_found, .ref q_aside, .int v_base, .int w_43, .int v_size, .int v_fault, .int v_opened, .int v_isSeen, .ref q_names, .ref q_seenKept, .ref q_movedKept, .int v_isKeeping, .int v_bubbleMany, .int v_bubbleMost, .int v_bubbleCell, .int v_bestShown, .ref q_traced, .int v_traceMany, .int v_who, .ref q_bitsOf, .ref q_sizeOf, .ref q_number, .ref q_lifted]))]) (q := (RX12, TX12, 26)) (ci := 12) (q0 := 0) (isC := [0]) hK hX hS hA hP hD ⟨rfl, trivial⟩ (by decide +kernel) rfl rfl) rfl rfl hl.1 rfl (lv_room (Nat.le_of_ble_eq_true rfl)) dX12_unit_84 ⟨Nat.le_of_ble_eq_true rfl, Nat.le_of_ble_eq_true rfl⟩) (fun H locs hP hD hS => ?_)
        replace h := so4 h
        obtain ⟨z0, z1, z2, z3⟩ := h
        subst z0 z1 z2 z3
        exact gIret hF hP hD hS rfl dX12_unit_87
  have t_L17 : ∀ (x1 : Int32) (v_at : Int32) (v_fault : Int32) (v_opened : Int32) (H : Heap) (locs : List Loc), va_P D gcl [(q_this, .inr (12, [.ref q_d, .ref q_kept, .int v_images, .ref q_found, .ref q_aside, .int v_base, .int v_at, .int v_size, .int v_fault, .int v_opened, .int v_isSeen, .ref q_names, .ref q_seenKept, .ref q_movedKept, .int v_isKeeping, .int v_bubbleMany, .int v_bubbleMost, .int v_bubbleCell, .int v_bestShown, .ref q_traced, .int v_traceMany, .int v_who, .ref q_bitsOf, .ref q_sizeOf, .ref q_number, .ref q_lifted])), (q_d, .inl (c 0, 244, .inl v_d)), (q_names, .inl (c 0, 3, .inl v_names))] H → va_D A [(q_this, .inr (12, [.ref q_d, .ref q_kept, .int v_images, .ref q_found, .ref q_aside, .int v_base, .int v_at, .int v_size, .int v_fault, .int v_opened, .int v_isSeen, .ref q_names, .ref q_seenKept, .ref q_movedKept, .int v_isKeeping, .int v_bubbleMany, .int v_bubbleMost, .int v_bubbleCell, .int v_bestShown, .ref q_traced, .int v_traceMany, .int v_who, .ref q_bitsOf, .ref q_sizeOf, .ref q_number, .ref q_lifted])), (q_d, .inl (c 0, 244, .inl v_d)), (q_names, .inl (c 0, 3, .inl v_names))] → va_S A s.heap H locs → ∀ ls, lv_has ls 5 [(0, .ref q_this), (1, .int x1)] → f_X12_unit_L17 uu v_base v_size v_isSeen v_d v_names x1 v_at v_fault v_opened = some (o_r, o_v_at, o_v_fault, o_v_opened) → W p l e (headSpec wsX12_unit (rm_X12_unit fr lo)).room s m [.ref q_this].toArray below meth co H locs 0 0 (gQI D [(q_this, .inr (12, [.ref q_d, .ref q_kept, .int v_images, .ref q_found, .ref q_aside, .int v_base, .int o_v_at, .int v_size, .int o_v_fault, .int o_v_opened, .int v_isSeen, .ref q_names, .ref q_seenKept, .ref q_movedKept, .int v_isKeeping, .int v_bubbleMany, .int v_bubbleMost, .int v_bubbleCell, .int v_bestShown, .ref q_traced, .int v_traceMany, .int v_who, .ref q_bitsOf, .ref q_sizeOf, .ref q_number, .ref q_lifted])), (q_d, .inl (c 0, 244, .inl v_d)), (q_names, .inl (c 0, 3, .inl v_names))] o_r A below [.ref q_this] s) (F0 m 17 ls []) := by
    intro  x1 v_at v_fault v_opened H locs hP hD hS ls hl h
    unfold f_X12_unit_L17 at h
    refine lv_aload_n hx hb dX12_unit_17 rfl (lv_at hl 0 rfl) ?_
    refine va_get (D := D) (ci := 12) (v := .int v_opened) (C := RX12) (T := TX12) (N := 26) hx hb hts in_X12_unit_X12 hown hK.1 hP 0 rfl rfl 9 (by decide) (hts (.fieldLink RX12 100 "PaperBubblesModel" "opened" "I") (List.mem_of_getElem? (i := 1) rfl)) (fun _ h9 => h9) rfl dX12_unit_18 ?_
    refine lv_iconst (v := 5) hx hb dX12_unit_21 (by decide) ?_
    refine lv_icmp_ne (tgt := 30) hx hb dX12_unit_22 (by decide) (fun c_10 => ?_) (fun c_10 => ?_)
    · replace h := it_f c_10 h
      refine lv_aload_n hx hb dX12_unit_30 rfl (lv_at hl 0 rfl) ?_
      refine lv_dup hx hb dX12_unit_31 rfl ?_
      refine va_get (D := D) (ci := 12) (v := .int v_opened) (C := RX12) (T := TX12) (N := 26) hx hb hts in_X12_unit_X12 hown hK.1 hP 0 rfl rfl 9 (by decide) (hts (.fieldLink RX12 100 "PaperBubblesModel" "opened" "I") (List.mem_of_getElem? (i := 1) rfl)) (fun _ h9 => h9) rfl dX12_unit_32 ?_
      refine lv_iconst (v := 1) hx hb dX12_unit_35 (by decide) ?_
      refine lv_iadd hx hb dX12_unit_36 ?_
      replace h := nm_ok h
      obtain ⟨t_11, et_11, h⟩ := h
      refine gTop et_11 ?_
      refine va_put (D := D) (ci := 12) (v := .int t_11) (ty := .int) (C := RX12) (T := TX12) (N := 26) hx hb hts in_X12_unit_X12 tyX12 tyX12_ok nmX12 hown hK.1 hP hD hS 0 rfl rfl 9 (by decide) (hts (.fieldLink RX12 100 "PaperBubblesModel" "opened" "I") (List.mem_of_getElem? (i := 1) rfl)) (fun _ h9 => h9) rfl (by decide +kernel) rfl rfl (Nat.le_of_ble_eq_true rfl) dX12_unit_37 (fun H locs hP hD hS => ?_)
      have hP : va_P D gcl [(q_this, .inr (12, [.ref q_d, .ref q_kept, .int v_images, .ref q_found, .ref q_aside, .int v_base, .int v_at, .int v_size, .int v_fault, .int t_11, .int v_isSeen, .ref q_names, .ref q_seenKept, .ref q_movedKept, .int v_isKeeping, .int v_bubbleMany, .int v_bubbleMost, .int v_bubbleCell, .int v_bestShown, .ref q_traced, .int v_traceMany, .int v_who, .ref q_bitsOf, .ref q_sizeOf, .ref q_number, .ref q_lifted])), (q_d, .inl (c 0, 244, .inl v_d)), (q_names, .inl (c 0, 3, .inl v_names))] H := hP
      have hD : va_D A [(q_this, .inr (12, [.ref q_d, .ref q_kept, .int v_images, .ref q_found, .ref q_aside, .int v_base, .int v_at, .int v_size, .int v_fault, .int t_11, .int v_isSeen, .ref q_names, .ref q_seenKept, .ref q_movedKept, .int v_isKeeping, .int v_bubbleMany, .int v_bubbleMost, .int v_bubbleCell, .int v_bestShown, .ref q_traced, .int v_traceMany, .int v_who, .ref q_bitsOf, .ref q_sizeOf, .ref q_number, .ref q_lifted])), (q_d, .inl (c 0, 244, .inl v_d)), (q_names, .inl (c 0, 3, .inl v_names))] := hD
      refine lv_aload_n hx hb dX12_unit_40 rfl (lv_at hl 0 rfl) ?_
      refine lv_dup hx hb dX12_unit_41 rfl ?_
      refine va_get (D := D) (ci := 12) (v := .int v_at) (C := RX12) (T := TX12) (N := 26) hx hb hts in_X12_unit_X12 hown hK.1 hP 0 rfl rfl 6 (by decide) (hts (.fieldLink RX12 61 "PaperBubblesModel" "at" "I") (List.mem_of_getElem? (i := 2) rfl)) (fun _ h9 => h9) rfl dX12_unit_42 ?_
      refine lv_iconst (v := 1) hx hb dX12_unit_45 (by decide) ?_
      refine lv_iadd hx hb dX12_unit_46 ?_
      replace h := nm_ok h
      obtain ⟨t_12, et_12, h⟩ := h
      refine gTop et_12 ?_
      refine va_put (D := D) (ci := 12) (v := .int t_12) (ty := .int) (C := RX12) (T := TX12) (N := 26) hx hb hts in_X12_unit_X12 tyX12 tyX12_ok nmX12 hown hK.1 hP hD hS 0 rfl rfl 6 (by decide) (hts (.fieldLink RX12 61 "PaperBubblesModel" "at" "I") (List.mem_of_getElem? (i := 2) rfl)) (fun _ h9 => h9) rfl (by decide +kernel) rfl rfl (Nat.le_of_ble_eq_true rfl) dX12_unit_47 (fun H locs hP hD hS => ?_)
      have hP : va_P D gcl [(q_this, .inr (12, [.ref q_d, .ref q_kept, .int v_images, .ref q_found, .ref q_aside, .int v_base, .int t_12, .int v_size, .int v_fault, .int t_11, .int v_isSeen, .ref q_names, .ref q_seenKept, .ref q_movedKept, .int v_isKeeping, .int v_bubbleMany, .int v_bubbleMost, .int v_bubbleCell, .int v_bestShown, .ref q_traced, .int v_traceMany, .int v_who, .ref q_bitsOf, .ref q_sizeOf, .ref q_number, .ref q_lifted])), (q_d, .inl (c 0, 244, .inl v_d)), (q_names, .inl (c 0, 3, .inl v_names))] H := hP
      have hD : va_D A [(q_this, .inr (12, [.ref q_d, .ref q_kept, .int v_images, .ref q_found, .ref q_aside, .int v_base, .int t_12, .int v_size, .int v_fault, .int t_11, .int v_isSeen, .ref q_names, .ref q_seenKept, .ref q_movedKept, .int v_isKeeping, .int v_bubbleMany, .int v_bubbleMost, .int v_bubbleCell, .int v_bestShown, .ref q_traced, .int v_traceMany, .int v_who, .ref q_bitsOf, .ref q_sizeOf, .ref q_number, .ref q_lifted])), (q_d, .inl (c 0, 244, .inl v_d)), (q_names, .inl (c 0, 3, .inl v_names))] := hD
      refine lv_iload_n hx hb dX12_unit_50 rfl (lv_at hl 1 rfl) ?_
      refine lv_bipush (v := 40) hx hb dX12_unit_51 (by decide) ?_
      refine lv_icmp_ne (tgt := 63) hx hb dX12_unit_53 (by decide) (fun c_13 => ?_) (fun c_13 => ?_)
      · replace h := it_f c_13 h
        refine lv_aload_n hx hb dX12_unit_63 rfl (lv_at hl 0 rfl) ?_
        replace h := kb4_ok h
        obtain ⟨r_15, w_16, w_17, w_18, hc_14, h⟩ := h
        refine gCallI (isC := [0, 1, 2]) (wc := [(q_this, .inr (12, [.ref q_d, .ref q_kept, .int v_images, .ref q_found, .ref q_aside, .int v_base, .int t_12, .int v_size, .int v_fault, .int t_11, .int v_isSeen, .ref q_names, .ref q_seenKept, .ref q_movedKept, .int v_isKeeping, .int v_bubbleMany, .int v_bubbleMost, .int v_bubbleCell, .int v_bestShown, .ref q_traced, .int v_traceMany, .int v_who, .ref q_bitsOf, .ref q_sizeOf, .ref q_number, .ref q_lifted])), (q_d, .inl (c 0, 244, .inl v_d)), (q_names, .inl (c 0, 3, .inl v_names))]) (w1 := [(q_this, .inr (12, [.ref q_d, .ref q_kept, .int v_images, .ref q_found, .ref q_aside, .int v_base, .int w_16, .int v_size, .int w_17, .int w_18, .int v_isSeen, .ref q_names, .ref q_seenKept, .ref q_movedKept, .int v_isKeeping, .int v_bubbleMany, .int v_bubbleMost, .int v_bubbleCell, .int v_bestShown, .ref q_traced, .int v_traceMany, .int v_who, .ref q_bitsOf, .ref q_sizeOf, .ref q_number, .ref q_lifted])), (q_d, .inl (c 0, 244, .inl v_d)), (q_names, .inl (c 0, 3, .inl v_names))]) (ws2 := [(q_this, .inr (12, [.ref q_d, .ref q_kept, .int v_images, .ref q_found, .ref q_aside, .int v_base, .int w_16, .int v_size, .int w_17, .int w_18, .int v_isSeen, .ref q_names, .ref q_seenKept, .ref q_movedKept, .int v_isKeeping, .int v_bubbleMany, .int v_bubbleMost, .int v_bubbleCell, .int v_bestShown, .ref q_traced, .int v_traceMany, .int v_who, .ref q_bitsOf, .ref q_sizeOf, .ref q_number, .ref q_lifted])), (q_d, .inl (c 0, 244, .inl v_d)), (q_names, .inl (c 0, 3, .inl v_names))]) (ms := [(some 0), (some 1), (some 2)]) hP hD hS hA ⟨rfl, rfl, rfl, trivial⟩ (by decide +kernel) ⟨rfl, rfl, rfl, trivial⟩ (va_runV (rm := { frames := fr, cells := 0, slots := 0, locals := lo }) (ws := wsX12_unit) (As := []) (rest := []) (gFix hF) (hu q_this q_d q_kept q_found q_aside q_names q_seenKept q_movedKept q_traced q_bitsOf q_sizeOf q_number q_lifted v_images v_base t_12 v_size v_fault t_11 v_isSeen v_isKeeping v_bubbleMany v_bubbleMost v_bubbleCell v_bestShown v_traceMany v_who v_d v_names r_15 w_16 w_17 w_18 hc_14 H.size) (cwV 0 hts gX12_unit_X12_unit rfl rfl rfl (by decide +kernel) ⟨show (fr) + 1 ≤ fr + 6 by omega, show 8 + (5 + 11) + (lo) ≤ lo + 137 by omega⟩) (gPreV (wc := [(q_this, .inr (12, [.ref q_d, .ref q_kept, .int v_images, .ref q_found, .ref q_aside, .int v_base, .int t_12, .int v_size, .int v_fault, .int t_11, .int v_isSeen, .ref q_names, .ref q_seenKept, .ref q_movedKept, .int v_isKeeping, .int v_bubbleMany, .int v_bubbleMost, .int v_bubbleCell, .int v_bestShown, .ref q_traced, .int v_traceMany, .int v_who, .ref q_bitsOf, .ref q_sizeOf, .ref q_number, .ref q_lifted])), (q_d, .inl (c 0, 244, .inl v_d)), (q_names, .inl (c 0, 3, .inl v_names))]) (q := (RX12, TX12, 26)) (ci := 12) (q0 := 0) (isC := [0, 1, 2]) hK hX hS hA hP hD ⟨rfl, rfl, rfl, trivial⟩ (by decide +kernel) rfl rfl) rfl rfl hl.1 rfl (lv_room (Nat.le_of_ble_eq_true rfl)) dX12_unit_64 ⟨Nat.le_of_ble_eq_true rfl, Nat.le_of_ble_eq_true rfl⟩) (fun H locs hP hD hS => ?_)
        exact t_L67 x1 r_15 w_16 w_17 w_18 H locs hP hD hS ls (lv_sub hl [0, 1] rfl) h
      · replace h := it_t c_13 h
        refine lv_aload_n hx hb dX12_unit_56 rfl (lv_at hl 0 rfl) ?_
        replace h := kb4_ok h
        obtain ⟨r_20, w_21, w_22, w_23, hc_19, h⟩ := h
        refine gCallI (isC := [0, 1, 2]) (wc := [(q_this, .inr (12, [.ref q_d, .ref q_kept, .int v_images, .ref q_found, .ref q_aside, .int v_base, .int t_12, .int v_size, .int v_fault, .int t_11, .int v_isSeen, .ref q_names, .ref q_seenKept, .ref q_movedKept, .int v_isKeeping, .int v_bubbleMany, .int v_bubbleMost, .int v_bubbleCell, .int v_bestShown, .ref q_traced, .int v_traceMany, .int v_who, .ref q_bitsOf, .ref q_sizeOf, .ref q_number, .ref q_lifted])), (q_d, .inl (c 0, 244, .inl v_d)), (q_names, .inl (c 0, 3, .inl v_names))]) (w1 := [(q_this, .inr (12, [.ref q_d, .ref q_kept, .int v_images, .ref q_found, .ref q_aside, .int v_base, .int w_21, .int v_size, .int w_22, .int w_23, .int v_isSeen, .ref q_names, .ref q_seenKept, .ref q_movedKept, .int v_isKeeping, .int v_bubbleMany, .int v_bubbleMost, .int v_bubbleCell, .int v_bestShown, .ref q_traced, .int v_traceMany, .int v_who, .ref q_bitsOf, .ref q_sizeOf, .ref q_number, .ref q_lifted])), (q_d, .inl (c 0, 244, .inl v_d)), (q_names, .inl (c 0, 3, .inl v_names))]) (ws2 := [(q_this, .inr (12, [.ref q_d, .ref q_kept, .int v_images, .ref q_found, .ref q_aside, .int v_base, .int w_21, .int v_size, .int w_22, .int w_23, .int v_isSeen, .ref q_names, .ref q_seenKept, .ref q_movedKept, .int v_isKeeping, .int v_bubbleMany, .int v_bubbleMost, .int v_bubbleCell, .int v_bestShown, .ref q_traced, .int v_traceMany, .int v_who, .ref q_bitsOf, .ref q_sizeOf, .ref q_number, .ref q_lifted])), (q_d, .inl (c 0, 244, .inl v_d)), (q_names, .inl (c 0, 3, .inl v_names))]) (ms := [(some 0), (some 1), (some 2)]) hP hD hS hA ⟨rfl, rfl, rfl, trivial⟩ (by decide +kernel) ⟨rfl, rfl, rfl, trivial⟩ (va_runV (rm := (rm_X12_either fr lo)) (ws := wsX12_either) (As := []) (rest := []) (gFix hF) (c_X12_either l D c uu fr lo hu q_this q_d q_kept q_found q_aside q_names q_seenKept q_movedKept q_traced q_bitsOf q_sizeOf q_number q_lifted v_images v_base t_12 v_size v_fault t_11 v_isSeen v_isKeeping v_bubbleMany v_bubbleMost v_bubbleCell v_bestShown v_traceMany v_who v_d v_names r_20 w_21 w_22 w_23 hc_19 H.size) (cwV 0 hts gX12_unit_X12_either rfl rfl rfl (by decide +kernel) ⟨show (fr + 5) + 1 ≤ fr + 6 by omega, show 8 + (3 + 11) + (lo + 115) ≤ lo + 137 by omega⟩) (gPreV (wc := [(q_this, .inr (12, [.ref q_d, .ref q_kept, .int v_images, .ref q_found, .ref q_aside, .int v_base, .int t_12, .int v_size, .int v_fault, .int t_11, .int v_isSeen, .ref q_names, .ref q_seenKept, .ref q_movedKept, .int v_isKeeping, .int v_bubbleMany, .int v_bubbleMost, .int v_bubbleCell, .int v_bestShown, .ref q_traced, .int v_traceMany, .int v_who, .ref q_bitsOf, .ref q_sizeOf, .ref q_number, .ref q_lifted])), (q_d, .inl (c 0, 244, .inl v_d)), (q_names, .inl (c 0, 3, .inl v_names))]) (q := (RX12, TX12, 26)) (ci := 12) (q0 := 0) (isC := [0, 1, 2]) hK hX hS hA hP hD ⟨rfl, rfl, rfl, trivial⟩ (by decide +kernel) rfl rfl) rfl rfl hl.1 rfl (lv_room (Nat.le_of_ble_eq_true rfl)) dX12_unit_57 ⟨Nat.le_of_ble_eq_true rfl, Nat.le_of_ble_eq_true rfl⟩) (fun H locs hP hD hS => ?_)
        refine lv_goto (tgt := 67) hx hb dX12_unit_60 (by decide) ?_
        exact t_L67 x1 r_20 w_21 w_22 w_23 H locs hP hD hS ls (lv_sub hl [0, 1] rfl) h
    · replace h := it_t c_10 h
      refine lv_aload_n hx hb dX12_unit_25 rfl (lv_at hl 0 rfl) ?_
      replace h := kb2_ok h
      obtain ⟨r_25, w_26, hc_24, h⟩ := h
      refine gCallI (isC := [0]) (wc := [(q_this, .inr (12, [.ref q_d, .ref q_kept, .int v_images, .ref q_found, .ref q_aside, .int v_base, .int v_at, .int v_size, .int v_fault, .int v_opened, .int v_isSeen, .ref q_names, .ref q_seenKept, .ref q_movedKept, .int v_isKeeping, .int v_bubbleMany, .int v_bubbleMost, .int v_bubbleCell, .int v_bestShown, .ref q_traced, .int v_traceMany, .int v_who, .ref q_bitsOf, .ref q_sizeOf, .ref q_number, .ref q_lifted]))]) (w1 := [(q_this, .inr (12, [.ref q_d, .ref q_kept, .int v_images, .ref q_found, .ref q_aside, .int v_base, .int v_at, .int v_size, .int w_26, .int v_opened, .int v_isSeen, .ref q_names, .ref q_seenKept, .ref q_movedKept, .int v_isKeeping, .int v_bubbleMany, .int v_bubbleMost, .int v_bubbleCell, .int v_bestShown, .ref q_traced, .int v_traceMany, .int v_who, .ref q_bitsOf, .ref q_sizeOf, .ref q_number, .ref q_lifted]))]) (ws2 := [(q_this, .inr (12, [.ref q_d, .ref q_kept, .int v_images, .ref q_found, .ref q_aside, .int v_base, .int v_at, .int v_size, .int w_26, .int v_opened, .int v_isSeen, .ref q_names, .ref q_seenKept, .ref q_movedKept, .int v_isKeeping, .int v_bubbleMany, .int v_bubbleMost, .int v_bubbleCell, .int v_bestShown, .ref q_traced, .int v_traceMany, .int v_who, .ref q_bitsOf, .ref q_sizeOf, .ref q_number, .ref q_lifted])), (q_d, .inl (c 0, 244, .inl v_d)), (q_names, .inl (c 0, 3, .inl v_names))]) (ms := [(some 0), none, none]) hP hD hS hA ⟨rfl, trivial⟩ (by decide +kernel) ⟨rfl, rfl, rfl, trivial⟩ (va_runV (rm := rm_X12_wrong) (ws := wsX12_wrong) (As := []) (rest := []) (gFix hF) (c_X12_wrong l D c q_this q_d q_kept q_found q_aside q_names q_seenKept q_movedKept q_traced q_bitsOf q_sizeOf q_number q_lifted v_images v_base v_at v_size v_fault v_opened v_isSeen v_isKeeping v_bubbleMany v_bubbleMost v_bubbleCell v_bestShown v_traceMany v_who r_25 w_26 hc_24 H.size) (cwV 0 hts gX12_unit_X12_wrong rfl rfl rfl (by decide +kernel) ⟨show (0) + 1 ≤ fr + 6 by omega, show 8 + (1 + 11) + (0) ≤ lo + 137 by omega⟩) (gPreV (wc := [(q_this, .inr (12, [.ref q_d, .ref q_kept, .int v_images, .ref q_found, .ref q_aside, .int v_base, .int v_at, .int v_size, .int v_fault, .int v_opened, .int v_isSeen, .ref q_names, .ref q_seenKept, .ref q_movedKept, .int v_isKeeping, .int v_bubbleMany, .int v_bubbleMost, .int v_bubbleCell, .int v_bestShown, .ref q_traced, .int v_traceMany, .int v_who, .ref q_bitsOf, .ref q_sizeOf, .ref q_number, .ref q_lifted]))]) (q := (RX12, TX12, 26)) (ci := 12) (q0 := 0) (isC := [0]) hK hX hS hA hP hD ⟨rfl, trivial⟩ (by decide +kernel) rfl rfl) rfl rfl hl.1 rfl (lv_room (Nat.le_of_ble_eq_true rfl)) dX12_unit_26 ⟨Nat.le_of_ble_eq_true rfl, Nat.le_of_ble_eq_true rfl⟩) (fun H locs hP hD hS => ?_)
      replace h := so4 h
      obtain ⟨z0, z1, z2, z3⟩ := h
      subst z0 z1 z2 z3
      exact gIret hF hP hD hS rfl dX12_unit_29
  have t_L202 : ∀ (x3 : Int32) (x4 : Int32) (v_at : Int32) (v_fault : Int32) (v_opened : Int32) (H : Heap) (locs : List Loc), va_P D gcl [(q_this, .inr (12, [.ref q_d, .ref q_kept, .int v_images, .ref q_found, .ref q_aside, .int v_base, .int v_at, .int v_size, .int v_fault, .int v_opened, .int v_isSeen, .ref q_names, .ref q_seenKept, .ref q_movedKept, .int v_isKeeping, .int v_bubbleMany, .int v_bubbleMost, .int v_bubbleCell, .int v_bestShown, .ref q_traced, .int v_traceMany, .int v_who, .ref q_bitsOf, .ref q_sizeOf, .ref q_number, .ref q_lifted])), (q_d, .inl (c 0, 244, .inl v_d)), (q_names, .inl (c 0, 3, .inl v_names))] H → va_D A [(q_this, .inr (12, [.ref q_d, .ref q_kept, .int v_images, .ref q_found, .ref q_aside, .int v_base, .int v_at, .int v_size, .int v_fault, .int v_opened, .int v_isSeen, .ref q_names, .ref q_seenKept, .ref q_movedKept, .int v_isKeeping, .int v_bubbleMany, .int v_bubbleMost, .int v_bubbleCell, .int v_bestShown, .ref q_traced, .int v_traceMany, .int v_who, .ref q_bitsOf, .ref q_sizeOf, .ref q_number, .ref q_lifted])), (q_d, .inl (c 0, 244, .inl v_d)), (q_names, .inl (c 0, 3, .inl v_names))] → va_S A s.heap H locs → ∀ ls, lv_has ls 5 [(0, .ref q_this), (3, .int x3), (4, .int x4)] → f_X12_unit_L202 uu x3 x4 v_at v_fault v_opened = some (o_r, o_v_at, o_v_fault, o_v_opened) → W p l e (headSpec wsX12_unit (rm_X12_unit fr lo)).room s m [.ref q_this].toArray below meth co H locs 0 0 (gQI D [(q_this, .inr (12, [.ref q_d, .ref q_kept, .int v_images, .ref q_found, .ref q_aside, .int v_base, .int o_v_at, .int v_size, .int o_v_fault, .int o_v_opened, .int v_isSeen, .ref q_names, .ref q_seenKept, .ref q_movedKept, .int v_isKeeping, .int v_bubbleMany, .int v_bubbleMost, .int v_bubbleCell, .int v_bestShown, .ref q_traced, .int v_traceMany, .int v_who, .ref q_bitsOf, .ref q_sizeOf, .ref q_number, .ref q_lifted])), (q_d, .inl (c 0, 244, .inl v_d)), (q_names, .inl (c 0, 3, .inl v_names))] o_r A below [.ref q_this] s) (F0 m 202 ls []) := by
    intro  x3 x4 v_at v_fault v_opened H locs hP hD hS ls hl h
    unfold f_X12_unit_L202 at h
    refine lv_iload hx hb dX12_unit_202 (lv_at hl 2 rfl) ?_
    refine lv_if_ne (tgt := 214) hx hb dX12_unit_204 (by decide) (fun c_48 => ?_) (fun c_48 => ?_)
    · replace h := it_f c_48 h
      refine lv_iload_n hx hb dX12_unit_214 rfl (lv_at hl 1 rfl) ?_
      replace h := so4 h
      obtain ⟨z0, z1, z2, z3⟩ := h
      subst z0 z1 z2 z3
      exact gIret hF hP hD hS rfl dX12_unit_215
    · replace h := it_t c_48 h
      refine lv_aload_n hx hb dX12_unit_207 rfl (lv_at hl 0 rfl) ?_
      replace h := kb2_ok h
      obtain ⟨r_50, w_51, hc_49, h⟩ := h
      refine gCallI (isC := [0]) (wc := [(q_this, .inr (12, [.ref q_d, .ref q_kept, .int v_images, .ref q_found, .ref q_aside, .int v_base, .int v_at, .int v_size, .int v_fault, .int v_opened, .int v_isSeen, .ref q_names, .ref q_seenKept, .ref q_movedKept, .int v_isKeeping, .int v_bubbleMany, .int v_bubbleMost, .int v_bubbleCell, .int v_bestShown, .ref q_traced, .int v_traceMany, .int v_who, .ref q_bitsOf, .ref q_sizeOf, .ref q_number, .ref q_lifted]))]) (w1 := [(q_this, .inr (12, [.ref q_d, .ref q_kept, .int v_images, .ref q_found, .ref q_aside, .int v_base, .int v_at, .int v_size, .int w_51, .int v_opened, .int v_isSeen, .ref q_names, .ref q_seenKept, .ref q_movedKept, .int v_isKeeping, .int v_bubbleMany, .int v_bubbleMost, .int v_bubbleCell, .int v_bestShown, .ref q_traced, .int v_traceMany, .int v_who, .ref q_bitsOf, .ref q_sizeOf, .ref q_number, .ref q_lifted]))]) (ws2 := [(q_this, .inr (12, [.ref q_d, .ref q_kept, .int v_images, .ref q_found, .ref q_aside, .int v_base, .int v_at, .int v_size, .int w_51, .int v_opened, .int v_isSeen, .ref q_names, .ref q_seenKept, .ref q_movedKept, .int v_isKeeping, .int v_bubbleMany, .int v_bubbleMost, .int v_bubbleCell, .int v_bestShown, .ref q_traced, .int v_traceMany, .int v_who, .ref q_bitsOf, .ref q_sizeOf, .ref q_number, .ref q_lifted])), (q_d, .inl (c 0, 244, .inl v_d)), (q_names, .inl (c 0, 3, .inl v_names))]) (ms := [(some 0), none, none]) hP hD hS hA ⟨rfl, trivial⟩ (by decide +kernel) ⟨rfl, rfl, rfl, trivial⟩ (va_runV (rm := rm_X12_wrong) (ws := wsX12_wrong) (As := []) (rest := []) (gFix hF) (c_X12_wrong l D c q_this q_d q_kept q_found q_aside q_names q_seenKept q_movedKept q_traced q_bitsOf q_sizeOf q_number q_lifted v_images v_base v_at v_size v_fault v_opened v_isSeen v_isKeeping v_bubbleMany v_bubbleMost v_bubbleCell v_bestShown v_traceMany v_who r_50 w_51 hc_49 H.size) (cwV 0 hts gX12_unit_X12_wrong rfl rfl rfl (by decide +kernel) ⟨show (0) + 1 ≤ fr + 6 by omega, show 8 + (1 + 11) + (0) ≤ lo + 137 by omega⟩) (gPreV (wc := [(q_this, .inr (12, [.ref q_d, .ref q_kept, .int v_images, .ref q_found, .ref q_aside, .int v_base, .int v_at, .int v_size, .int v_fault, .int v_opened, .int v_isSeen, .ref q_names, .ref q_seenKept, .ref q_movedKept, .int v_isKeeping, .int v_bubbleMany, .int v_bubbleMost, .int v_bubbleCell, .int v_bestShown, .ref q_traced, .int v_traceMany, .int v_who, .ref q_bitsOf, .ref q_sizeOf, .ref q_number, .ref q_lifted]))]) (q := (RX12, TX12, 26)) (ci := 12) (q0 := 0) (isC := [0]) hK hX hS hA hP hD ⟨rfl, trivial⟩ (by decide +kernel) rfl rfl) rfl rfl hl.1 rfl (lv_room (Nat.le_of_ble_eq_true rfl)) dX12_unit_208 ⟨Nat.le_of_ble_eq_true rfl, Nat.le_of_ble_eq_true rfl⟩) (fun H locs hP hD hS => ?_)
      refine lv_goto (tgt := 215) hx hb dX12_unit_211 (by decide) ?_
      replace h := so4 h
      obtain ⟨z0, z1, z2, z3⟩ := h
      subst z0 z1 z2 z3
      exact gIret hF hP hD hS rfl dX12_unit_215
  have t_L150 : ∀ (n : Nat), ∀ (x3 : Int32) (x4 : Int32) (v_at : Int32) (v_fault : Int32) (v_opened : Int32) (H : Heap) (locs : List Loc), va_P D gcl [(q_this, .inr (12, [.ref q_d, .ref q_kept, .int v_images, .ref q_found, .ref q_aside, .int v_base, .int v_at, .int v_size, .int v_fault, .int v_opened, .int v_isSeen, .ref q_names, .ref q_seenKept, .ref q_movedKept, .int v_isKeeping, .int v_bubbleMany, .int v_bubbleMost, .int v_bubbleCell, .int v_bestShown, .ref q_traced, .int v_traceMany, .int v_who, .ref q_bitsOf, .ref q_sizeOf, .ref q_number, .ref q_lifted])), (q_d, .inl (c 0, 244, .inl v_d)), (q_names, .inl (c 0, 3, .inl v_names))] H → va_D A [(q_this, .inr (12, [.ref q_d, .ref q_kept, .int v_images, .ref q_found, .ref q_aside, .int v_base, .int v_at, .int v_size, .int v_fault, .int v_opened, .int v_isSeen, .ref q_names, .ref q_seenKept, .ref q_movedKept, .int v_isKeeping, .int v_bubbleMany, .int v_bubbleMost, .int v_bubbleCell, .int v_bestShown, .ref q_traced, .int v_traceMany, .int v_who, .ref q_bitsOf, .ref q_sizeOf, .ref q_number, .ref q_lifted])), (q_d, .inl (c 0, 244, .inl v_d)), (q_names, .inl (c 0, 3, .inl v_names))] → va_S A s.heap H locs → ∀ ls, lv_has ls 5 [(0, .ref q_this), (3, .int x3), (4, .int x4)] → f_X12_unit_L150 uu v_base v_size v_d n x3 x4 v_at v_fault v_opened = some (o_r, o_v_at, o_v_fault, o_v_opened) → W p l e (headSpec wsX12_unit (rm_X12_unit fr lo)).room s m [.ref q_this].toArray below meth co H locs 0 0 (gQI D [(q_this, .inr (12, [.ref q_d, .ref q_kept, .int v_images, .ref q_found, .ref q_aside, .int v_base, .int o_v_at, .int v_size, .int o_v_fault, .int o_v_opened, .int v_isSeen, .ref q_names, .ref q_seenKept, .ref q_movedKept, .int v_isKeeping, .int v_bubbleMany, .int v_bubbleMost, .int v_bubbleCell, .int v_bestShown, .ref q_traced, .int v_traceMany, .int v_who, .ref q_bitsOf, .ref q_sizeOf, .ref q_number, .ref q_lifted])), (q_d, .inl (c 0, 244, .inl v_d)), (q_names, .inl (c 0, 3, .inl v_names))] o_r A below [.ref q_this] s) (F0 m 150 ls []) := by
    intro n
    induction n with
    | zero => intro x3 x4 v_at v_fault v_opened H locs hP hD hS ls hl h; exact no_ok h
    | succ n ih =>
      intro x3 x4 v_at v_fault v_opened H locs hP hD hS ls hl h
      rw [f_X12_unit_L150] at h
      refine lv_iload hx hb dX12_unit_150 (lv_at hl 2 rfl) ?_
      refine lv_iconst (v := 4) hx hb dX12_unit_152 (by decide) ?_
      refine lv_icmp_ge (tgt := 202) hx hb dX12_unit_153 (by decide) (fun c_27 => ?_) (fun c_27 => ?_)
      · replace h := it_t c_27 h
        exact t_L202 x3 x4 v_at v_fault v_opened H locs hP hD hS ls (lv_sub hl [0, 1, 2] rfl) h
      · replace h := it_f c_27 h
        refine lv_aload_n hx hb dX12_unit_156 rfl (lv_at hl 0 rfl) ?_
        replace h := kb_ok h
        obtain ⟨r_29, hc_28, h⟩ := h
        refine gCallIr (isC := [0, 1]) (wc := [(q_this, .inr (12, [.ref q_d, .ref q_kept, .int v_images, .ref q_found, .ref q_aside, .int v_base, .int v_at, .int v_size, .int v_fault, .int v_opened, .int v_isSeen, .ref q_names, .ref q_seenKept, .ref q_movedKept, .int v_isKeeping, .int v_bubbleMany, .int v_bubbleMost, .int v_bubbleCell, .int v_bestShown, .ref q_traced, .int v_traceMany, .int v_who, .ref q_bitsOf, .ref q_sizeOf, .ref q_number, .ref q_lifted])), (q_d, .inl (c 0, 244, .inl v_d))]) hP hD hS hA ⟨rfl, rfl, trivial⟩ (va_runV (rm := rm_X12_here) (ws := wsX12_here) (As := []) (rest := []) (gFix hF) (c_X12_here l D c q_this q_d q_kept q_found q_aside q_names q_seenKept q_movedKept q_traced q_bitsOf q_sizeOf q_number q_lifted v_images v_base v_at v_size v_fault v_opened v_isSeen v_isKeeping v_bubbleMany v_bubbleMost v_bubbleCell v_bestShown v_traceMany v_who v_d r_29 hc_28 H.size) (cwV 0 hts gX12_unit_X12_here rfl rfl rfl (by decide +kernel) ⟨show (0) + 1 ≤ fr + 6 by omega, show 8 + (1 + 11) + (0) ≤ lo + 137 by omega⟩) (gPreV (wc := [(q_this, .inr (12, [.ref q_d, .ref q_kept, .int v_images, .ref q_found, .ref q_aside, .int v_base, .int v_at, .int v_size, .int v_fault, .int v_opened, .int v_isSeen, .ref q_names, .ref q_seenKept, .ref q_movedKept, .int v_isKeeping, .int v_bubbleMany, .int v_bubbleMost, .int v_bubbleCell, .int v_bestShown, .ref q_traced, .int v_traceMany, .int v_who, .ref q_bitsOf, .ref q_sizeOf, .ref q_number, .ref q_lifted])), (q_d, .inl (c 0, 244, .inl v_d))]) (q := (RX12, TX12, 26)) (ci := 12) (q0 := 0) (isC := [0, 1]) hK hX hS hA hP hD ⟨rfl, rfl, trivial⟩ (by decide +kernel) rfl rfl) rfl rfl hl.1 rfl (lv_room (Nat.le_of_ble_eq_true rfl)) dX12_unit_157 ⟨Nat.le_of_ble_eq_true rfl, Nat.le_of_ble_eq_true rfl⟩) (fun H locs hP hS => ?_)
        refine lv_i2l hx hb dX12_unit_160 rfl ?_
        refine lv_ldc2 (v := 48) hx hb hown (hts (.constantLong RX12 113 (48)) (List.mem_of_getElem? (i := 4) rfl)) dX12_unit_161 ?_
        refine lv_ldc2 (v := 57) hx hb hown (hts (.constantLong RX12 115 (57)) (List.mem_of_getElem? (i := 5) rfl)) dX12_unit_164 ?_
        replace h := kb_ok h
        obtain ⟨r_31, hc_30, h⟩ := h
        refine gCallIr (isC := []) (wc := []) hP hD hS hA trivial (va_runS (rm := rm_X12_in) (ws := wsX12_in) (As := [.long ((r_29 : Int32).toInt64), .long 48, .long 57]) (rest := []) (gFix hF) (c_X12_in l D c ((r_29 : Int32).toInt64) 48 57 r_31 hc_30 H.size) (va_cwS 3 hts gX12_unit_X12_in rfl rfl rfl (by decide +kernel) ⟨show (0) + 1 ≤ fr + 6 by omega, show 8 + (6 + 11) + (0) ≤ lo + 137 by omega⟩) (gPreS (wc := []) (isC := []) hK hX hS hA hP hD trivial (by decide +kernel)) rfl rfl hl.1 rfl (lv_room (Nat.le_of_ble_eq_true rfl)) dX12_unit_167 ⟨Nat.le_of_ble_eq_true rfl, Nat.le_of_ble_eq_true rfl⟩) (fun H locs hP hS => ?_)
        refine lv_if_eq (tgt := 202) hx hb dX12_unit_170 (by decide) (fun c_32 => ?_) (fun c_32 => ?_)
        · replace h := it_t c_32 h
          exact t_L202 x3 x4 v_at v_fault v_opened H locs hP hD hS ls (lv_sub hl [0, 1, 2] rfl) h
        · replace h := it_f c_32 h
          refine lv_bipush (v := 10) hx hb dX12_unit_173 (by decide) ?_
          refine lv_iload_n hx hb dX12_unit_175 rfl (lv_at hl 1 rfl) ?_
          refine lv_imul hx hb dX12_unit_176 ?_
          replace h := nm_ok h
          obtain ⟨t_33, et_33, h⟩ := h
          refine gTop et_33 ?_
          refine lv_aload_n hx hb dX12_unit_177 rfl (lv_at hl 0 rfl) ?_
          replace h := kb_ok h
          obtain ⟨r_35, hc_34, h⟩ := h
          refine gCallIr (isC := [0, 1]) (wc := [(q_this, .inr (12, [.ref q_d, .ref q_kept, .int v_images, .ref q_found, .ref q_aside, .int v_base, .int v_at, .int v_size, .int v_fault, .int v_opened, .int v_isSeen, .ref q_names, .ref q_seenKept, .ref q_movedKept, .int v_isKeeping, .int v_bubbleMany, .int v_bubbleMost, .int v_bubbleCell, .int v_bestShown, .ref q_traced, .int v_traceMany, .int v_who, .ref q_bitsOf, .ref q_sizeOf, .ref q_number, .ref q_lifted])), (q_d, .inl (c 0, 244, .inl v_d))]) hP hD hS hA ⟨rfl, rfl, trivial⟩ (va_runV (rm := rm_X12_here) (ws := wsX12_here) (As := []) (rest := [.int t_33]) (gFix hF) (c_X12_here l D c q_this q_d q_kept q_found q_aside q_names q_seenKept q_movedKept q_traced q_bitsOf q_sizeOf q_number q_lifted v_images v_base v_at v_size v_fault v_opened v_isSeen v_isKeeping v_bubbleMany v_bubbleMost v_bubbleCell v_bestShown v_traceMany v_who v_d r_35 hc_34 H.size) (cwV 0 hts gX12_unit_X12_here rfl rfl rfl (by decide +kernel) ⟨show (0) + 1 ≤ fr + 6 by omega, show 8 + (1 + 11) + (0) ≤ lo + 137 by omega⟩) (gPreV (wc := [(q_this, .inr (12, [.ref q_d, .ref q_kept, .int v_images, .ref q_found, .ref q_aside, .int v_base, .int v_at, .int v_size, .int v_fault, .int v_opened, .int v_isSeen, .ref q_names, .ref q_seenKept, .ref q_movedKept, .int v_isKeeping, .int v_bubbleMany, .int v_bubbleMost, .int v_bubbleCell, .int v_bestShown, .ref q_traced, .int v_traceMany, .int v_who, .ref q_bitsOf, .ref q_sizeOf, .ref q_number, .ref q_lifted])), (q_d, .inl (c 0, 244, .inl v_d))]) (q := (RX12, TX12, 26)) (ci := 12) (q0 := 0) (isC := [0, 1]) hK hX hS hA hP hD ⟨rfl, rfl, trivial⟩ (by decide +kernel) rfl rfl) rfl rfl hl.1 rfl (lv_room (Nat.le_of_ble_eq_true rfl)) dX12_unit_178 ⟨Nat.le_of_ble_eq_true rfl, Nat.le_of_ble_eq_true rfl⟩) (fun H locs hP hS => ?_)
          refine lv_iadd hx hb dX12_unit_181 ?_
          replace h := nm_ok h
          obtain ⟨t_36, et_36, h⟩ := h
          refine gTop et_36 ?_
          refine lv_bipush (v := 48) hx hb dX12_unit_182 (by decide) ?_
          refine lv_isub hx hb dX12_unit_184 ?_
          replace h := nm_ok h
          obtain ⟨t_37, et_37, h⟩ := h
          refine gTop et_37 ?_
          refine lv_istore_n (lv' := [(3, .int t_37), (0, .ref q_this), (4, .int x4)]) hx hb dX12_unit_185 rfl hl (by decide) rfl (fun ls hl => ?_)
          refine lv_aload_n hx hb dX12_unit_186 rfl (lv_at hl 1 rfl) ?_
          refine lv_dup hx hb dX12_unit_187 rfl ?_
          refine va_get (D := D) (ci := 12) (v := .int v_at) (C := RX12) (T := TX12) (N := 26) hx hb hts in_X12_unit_X12 hown hK.1 hP 0 rfl rfl 6 (by decide) (hts (.fieldLink RX12 61 "PaperBubblesModel" "at" "I") (List.mem_of_getElem? (i := 2) rfl)) (fun _ h9 => h9) rfl dX12_unit_188 ?_
          refine lv_iconst (v := 1) hx hb dX12_unit_191 (by decide) ?_
          refine lv_iadd hx hb dX12_unit_192 ?_
          replace h := nm_ok h
          obtain ⟨t_38, et_38, h⟩ := h
          refine gTop et_38 ?_
          refine va_put (D := D) (ci := 12) (v := .int t_38) (ty := .int) (C := RX12) (T := TX12) (N := 26) hx hb hts in_X12_unit_X12 tyX12 tyX12_ok nmX12 hown hK.1 hP hD hS 0 rfl rfl 6 (by decide) (hts (.fieldLink RX12 61 "PaperBubblesModel" "at" "I") (List.mem_of_getElem? (i := 2) rfl)) (fun _ h9 => h9) rfl (by decide +kernel) rfl rfl (Nat.le_of_ble_eq_true rfl) dX12_unit_193 (fun H locs hP hD hS => ?_)
          have hP : va_P D gcl [(q_this, .inr (12, [.ref q_d, .ref q_kept, .int v_images, .ref q_found, .ref q_aside, .int v_base, .int t_38, .int v_size, .int v_fault, .int v_opened, .int v_isSeen, .ref q_names, .ref q_seenKept, .ref q_movedKept, .int v_isKeeping, .int v_bubbleMany, .int v_bubbleMost, .int v_bubbleCell, .int v_bestShown, .ref q_traced, .int v_traceMany, .int v_who, .ref q_bitsOf, .ref q_sizeOf, .ref q_number, .ref q_lifted])), (q_d, .inl (c 0, 244, .inl v_d)), (q_names, .inl (c 0, 3, .inl v_names))] H := hP
          have hD : va_D A [(q_this, .inr (12, [.ref q_d, .ref q_kept, .int v_images, .ref q_found, .ref q_aside, .int v_base, .int t_38, .int v_size, .int v_fault, .int v_opened, .int v_isSeen, .ref q_names, .ref q_seenKept, .ref q_movedKept, .int v_isKeeping, .int v_bubbleMany, .int v_bubbleMost, .int v_bubbleCell, .int v_bestShown, .ref q_traced, .int v_traceMany, .int v_who, .ref q_bitsOf, .ref q_sizeOf, .ref q_number, .ref q_lifted])), (q_d, .inl (c 0, 244, .inl v_d)), (q_names, .inl (c 0, 3, .inl v_names))] := hD
          replace h := nm_ok h
          obtain ⟨t_39, et_39, h⟩ := h
          refine lv_iinc (v := t_39) (lv' := [(4, .int t_39), (3, .int t_37), (0, .ref q_this)]) hx hb dX12_unit_196 hl (k := 2) rfl (by rw [et_39]; rfl) (by decide) rfl (fun ls hl => ?_)
          refine lv_goto (tgt := 150) hx hb dX12_unit_199 (by decide) ?_
          exact ih t_37 t_39 t_38 v_fault v_opened H locs hP hD hS ls (lv_sub hl [2, 1, 0] rfl) h
  unfold f_X12_unit at h
  refine lv_aload_n hx hb dX12_unit_0 rfl (lv_at hl 0 rfl) ?_
  replace h := kb_ok h
  obtain ⟨r_2, hc_1, h⟩ := h
  refine gCallIr (isC := [0, 1]) (wc := [(q_this, .inr (12, [.ref q_d, .ref q_kept, .int v_images, .ref q_found, .ref q_aside, .int v_base, .int v_at, .int v_size, .int v_fault, .int v_opened, .int v_isSeen, .ref q_names, .ref q_seenKept, .ref q_movedKept, .int v_isKeeping, .int v_bubbleMany, .int v_bubbleMost, .int v_bubbleCell, .int v_bestShown, .ref q_traced, .int v_traceMany, .int v_who, .ref q_bitsOf, .ref q_sizeOf, .ref q_number, .ref q_lifted])), (q_d, .inl (c 0, 244, .inl v_d))]) hP hD hS hA ⟨rfl, rfl, trivial⟩ (va_runV (rm := rm_X12_here) (ws := wsX12_here) (As := []) (rest := []) (gFix hF) (c_X12_here l D c q_this q_d q_kept q_found q_aside q_names q_seenKept q_movedKept q_traced q_bitsOf q_sizeOf q_number q_lifted v_images v_base v_at v_size v_fault v_opened v_isSeen v_isKeeping v_bubbleMany v_bubbleMost v_bubbleCell v_bestShown v_traceMany v_who v_d r_2 hc_1 s.heap.size) (cwV 0 hts gX12_unit_X12_here rfl rfl rfl (by decide +kernel) ⟨show (0) + 1 ≤ fr + 6 by omega, show 8 + (1 + 11) + (0) ≤ lo + 137 by omega⟩) (gPreV (wc := [(q_this, .inr (12, [.ref q_d, .ref q_kept, .int v_images, .ref q_found, .ref q_aside, .int v_base, .int v_at, .int v_size, .int v_fault, .int v_opened, .int v_isSeen, .ref q_names, .ref q_seenKept, .ref q_movedKept, .int v_isKeeping, .int v_bubbleMany, .int v_bubbleMost, .int v_bubbleCell, .int v_bestShown, .ref q_traced, .int v_traceMany, .int v_who, .ref q_bitsOf, .ref q_sizeOf, .ref q_number, .ref q_lifted])), (q_d, .inl (c 0, 244, .inl v_d))]) (q := (RX12, TX12, 26)) (ci := 12) (q0 := 0) (isC := [0, 1]) hK hX hS hA hP hD ⟨rfl, rfl, trivial⟩ (by decide +kernel) rfl rfl) rfl rfl hl.1 rfl (lv_room (Nat.le_of_ble_eq_true rfl)) dX12_unit_1 ⟨Nat.le_of_ble_eq_true rfl, Nat.le_of_ble_eq_true rfl⟩) (fun H locs hP hS => ?_)
  refine lv_istore_n (lv' := [(1, .int r_2), (0, .ref q_this)]) hx hb dX12_unit_4 rfl hl (by decide) rfl (fun ls hl => ?_)
  refine lv_iload_n hx hb dX12_unit_5 rfl (lv_at hl 0 rfl) ?_
  refine lv_bipush (v := 33) hx hb dX12_unit_6 (by decide) ?_
  refine lv_icmp_eq (tgt := 17) hx hb dX12_unit_8 (by decide) (fun c_3 => ?_) (fun c_3 => ?_)
  · replace h := it_t c_3 h
    exact t_L17 r_2 v_at v_fault v_opened H locs hP hD hS ls (lv_sub hl [1, 0] rfl) h
  · replace h := it_f c_3 h
    refine lv_iload_n hx hb dX12_unit_11 rfl (lv_at hl 0 rfl) ?_
    refine lv_bipush (v := 40) hx hb dX12_unit_12 (by decide) ?_
    refine lv_icmp_ne (tgt := 118) hx hb dX12_unit_14 (by decide) (fun c_4 => ?_) (fun c_4 => ?_)
    · replace h := it_f c_4 h
      refine lv_aload_n hx hb dX12_unit_118 rfl (lv_at hl 1 rfl) ?_
      refine lv_iload_n hx hb dX12_unit_119 rfl (lv_at hl 0 rfl) ?_
      replace h := kb_ok h
      obtain ⟨r_6, hc_5, h⟩ := h
      refine gCallIr (isC := [0]) (wc := [(q_this, .inr (12, [.ref q_d, .ref q_kept, .int v_images, .ref q_found, .ref q_aside, .int v_base, .int v_at, .int v_size, .int v_fault, .int v_opened, .int v_isSeen, .ref q_names, .ref q_seenKept, .ref q_movedKept, .int v_isKeeping, .int v_bubbleMany, .int v_bubbleMost, .int v_bubbleCell, .int v_bestShown, .ref q_traced, .int v_traceMany, .int v_who, .ref q_bitsOf, .ref q_sizeOf, .ref q_number, .ref q_lifted]))]) hP hD hS hA ⟨rfl, trivial⟩ (va_runV (rm := rm_X12_nameOf) (ws := wsX12_nameOf) (As := [.int r_2]) (rest := []) (gFix hF) (c_X12_nameOf l D c q_this q_d q_kept q_found q_aside q_names q_seenKept q_movedKept q_traced q_bitsOf q_sizeOf q_number q_lifted r_2 v_images v_base v_at v_size v_fault v_opened v_isSeen v_isKeeping v_bubbleMany v_bubbleMost v_bubbleCell v_bestShown v_traceMany v_who r_6 hc_5 H.size) (cwV 1 hts gX12_unit_X12_nameOf rfl rfl rfl (by decide +kernel) ⟨show (0) + 1 ≤ fr + 6 by omega, show 8 + (2 + 11) + (0) ≤ lo + 137 by omega⟩) (gPreV (wc := [(q_this, .inr (12, [.ref q_d, .ref q_kept, .int v_images, .ref q_found, .ref q_aside, .int v_base, .int v_at, .int v_size, .int v_fault, .int v_opened, .int v_isSeen, .ref q_names, .ref q_seenKept, .ref q_movedKept, .int v_isKeeping, .int v_bubbleMany, .int v_bubbleMost, .int v_bubbleCell, .int v_bestShown, .ref q_traced, .int v_traceMany, .int v_who, .ref q_bitsOf, .ref q_sizeOf, .ref q_number, .ref q_lifted]))]) (q := (RX12, TX12, 26)) (ci := 12) (q0 := 0) (isC := [0]) hK hX hS hA hP hD ⟨rfl, trivial⟩ (by decide +kernel) rfl rfl) rfl rfl hl.1 rfl (lv_room (Nat.le_of_ble_eq_true rfl)) dX12_unit_120 ⟨Nat.le_of_ble_eq_true rfl, Nat.le_of_ble_eq_true rfl⟩) (fun H locs hP hS => ?_)
      refine lv_istore_n (lv' := [(2, .int r_6), (1, .int r_2), (0, .ref q_this)]) hx hb dX12_unit_123 rfl hl (by decide) rfl (fun ls hl => ?_)
      refine lv_iload_n hx hb dX12_unit_124 rfl (lv_at hl 0 rfl) ?_
      refine lv_if_lt (tgt := 145) hx hb dX12_unit_125 (by decide) (fun c_7 => ?_) (fun c_7 => ?_)
      · replace h := it_t c_7 h
        refine lv_iconst (v := 0) hx hb dX12_unit_145 (by decide) ?_
        refine lv_istore_n (lv' := [(3, .int 0), (2, .int r_6), (1, .int r_2), (0, .ref q_this)]) hx hb dX12_unit_146 rfl hl (by decide) rfl (fun ls hl => ?_)
        refine lv_iconst (v := 0) hx hb dX12_unit_147 (by decide) ?_
        refine lv_istore (lv' := [(4, .int 0), (3, .int 0), (2, .int r_6), (1, .int r_2), (0, .ref q_this)]) hx hb dX12_unit_148 hl (by decide) rfl (fun ls hl => ?_)
        exact t_L150 gFuel 0 0 v_at v_fault v_opened H locs hP hD hS ls (lv_sub hl [4, 1, 0] rfl) h
      · replace h := it_f c_7 h
        refine lv_aload_n hx hb dX12_unit_128 rfl (lv_at hl 2 rfl) ?_
        refine lv_dup hx hb dX12_unit_129 rfl ?_
        refine va_get (D := D) (ci := 12) (v := .int v_at) (C := RX12) (T := TX12) (N := 26) hx hb hts in_X12_unit_X12 hown hK.1 hP 0 rfl rfl 6 (by decide) (hts (.fieldLink RX12 61 "PaperBubblesModel" "at" "I") (List.mem_of_getElem? (i := 2) rfl)) (fun _ h9 => h9) rfl dX12_unit_130 ?_
        refine lv_iconst (v := 1) hx hb dX12_unit_133 (by decide) ?_
        refine lv_iadd hx hb dX12_unit_134 ?_
        replace h := nm_ok h
        obtain ⟨t_8, et_8, h⟩ := h
        refine gTop et_8 ?_
        refine va_put (D := D) (ci := 12) (v := .int t_8) (ty := .int) (C := RX12) (T := TX12) (N := 26) hx hb hts in_X12_unit_X12 tyX12 tyX12_ok nmX12 hown hK.1 hP hD hS 0 rfl rfl 6 (by decide) (hts (.fieldLink RX12 61 "PaperBubblesModel" "at" "I") (List.mem_of_getElem? (i := 2) rfl)) (fun _ h9 => h9) rfl (by decide +kernel) rfl rfl (Nat.le_of_ble_eq_true rfl) dX12_unit_135 (fun H locs hP hD hS => ?_)
        have hP : va_P D gcl [(q_this, .inr (12, [.ref q_d, .ref q_kept, .int v_images, .ref q_found, .ref q_aside, .int v_base, .int t_8, .int v_size, .int v_fault, .int v_opened, .int v_isSeen, .ref q_names, .ref q_seenKept, .ref q_movedKept, .int v_isKeeping, .int v_bubbleMany, .int v_bubbleMost, .int v_bubbleCell, .int v_bestShown, .ref q_traced, .int v_traceMany, .int v_who, .ref q_bitsOf, .ref q_sizeOf, .ref q_number, .ref q_lifted])), (q_d, .inl (c 0, 244, .inl v_d)), (q_names, .inl (c 0, 3, .inl v_names))] H := hP
        have hD : va_D A [(q_this, .inr (12, [.ref q_d, .ref q_kept, .int v_images, .ref q_found, .ref q_aside, .int v_base, .int t_8, .int v_size, .int v_fault, .int v_opened, .int v_isSeen, .ref q_names, .ref q_seenKept, .ref q_movedKept, .int v_isKeeping, .int v_bubbleMany, .int v_bubbleMost, .int v_bubbleCell, .int v_bestShown, .ref q_traced, .int v_traceMany, .int v_who, .ref q_bitsOf, .ref q_sizeOf, .ref q_number, .ref q_lifted])), (q_d, .inl (c 0, 244, .inl v_d)), (q_names, .inl (c 0, 3, .inl v_names))] := hD
        refine lv_aload_n hx hb dX12_unit_138 rfl (lv_at hl 2 rfl) ?_
        refine va_get (D := D) (ci := 12) (v := .ref q_names) (C := RX12) (T := TX12) (N := 26) hx hb hts in_X12_unit_X12 hown hK.1 hP 0 rfl rfl 11 (by decide) (hts (.fieldLink RX12 22 "PaperBubblesModel" "names" "[I") (List.mem_of_getElem? (i := 3) rfl)) (fun _ h9 => h9) rfl dX12_unit_139 ?_
        refine lv_iload_n hx hb dX12_unit_142 rfl (lv_at hl 0 rfl) ?_
        replace h := chi_ok h
        obtain ⟨hi_9, h⟩ := h
        refine va_iald hx hb hK.1 hP 2 0 rfl rfl hi_9 dX12_unit_143 ?_
        replace h := so4 h
        obtain ⟨z0, z1, z2, z3⟩ := h
        subst z0 z1 z2 z3
        exact gIret hF hP hD hS rfl dX12_unit_144
    · replace h := it_t c_4 h
      exact t_L17 r_2 v_at v_fault v_opened H locs hP hD hS ls (lv_sub hl [1, 0] rfl) h
def f_X12_unitN : Nat → Int32 → Int32 → Int32 → Int32 → Int32 → Int32 → (Nat → Int32) → (Nat → Int32) → Option (Int32 × Int32 × Int32 × Int32)
  | 0, _, _, _, _, _, _, _, _ => none
  | n + 1, v_base, v_at, v_size, v_fault, v_opened, v_isSeen, v_d, v_names => f_X12_unit (f_X12_unitN n) v_base v_at v_size v_fault v_opened v_isSeen v_d v_names
theorem c_X12_unitN (l : Launch) (D : va_G) (c : Nat → ClassId) (n : Nat) : ∀ (q_this q_d q_kept q_found q_aside q_names q_seenKept q_movedKept q_traced q_bitsOf q_sizeOf q_number q_lifted : Nat) (v_images : Int32) (v_base : Int32) (v_at : Int32) (v_size : Int32) (v_fault : Int32) (v_opened : Int32) (v_isSeen : Int32) (v_isKeeping : Int32) (v_bubbleMany : Int32) (v_bubbleMost : Int32) (v_bubbleCell : Int32) (v_bestShown : Int32) (v_traceMany : Int32) (v_who : Int32) (v_d : Nat → Int32) (v_names : Nat → Int32) (o_r : Int32) (o_v_at : Int32) (o_v_fault : Int32) (o_v_opened : Int32), f_X12_unitN n v_base v_at v_size v_fault v_opened v_isSeen v_d v_names = some (o_r, o_v_at, o_v_fault, o_v_opened) → gMI l yX12_unit wsX12_unit { frames := 6 * n, cells := 0, slots := 0, locals := 137 * n } D c [.ref q_this] [(q_this, .inr (12, [.ref q_d, .ref q_kept, .int v_images, .ref q_found, .ref q_aside, .int v_base, .int v_at, .int v_size, .int v_fault, .int v_opened, .int v_isSeen, .ref q_names, .ref q_seenKept, .ref q_movedKept, .int v_isKeeping, .int v_bubbleMany, .int v_bubbleMost, .int v_bubbleCell, .int v_bestShown, .ref q_traced, .int v_traceMany, .int v_who, .ref q_bitsOf, .ref q_sizeOf, .ref q_number, .ref q_lifted])), (q_d, .inl (c 0, 244, .inl v_d)), (q_names, .inl (c 0, 3, .inl v_names))] [(q_this, .inr (12, [.ref q_d, .ref q_kept, .int v_images, .ref q_found, .ref q_aside, .int v_base, .int o_v_at, .int v_size, .int o_v_fault, .int o_v_opened, .int v_isSeen, .ref q_names, .ref q_seenKept, .ref q_movedKept, .int v_isKeeping, .int v_bubbleMany, .int v_bubbleMost, .int v_bubbleCell, .int v_bestShown, .ref q_traced, .int v_traceMany, .int v_who, .ref q_bitsOf, .ref q_sizeOf, .ref q_number, .ref q_lifted])), (q_d, .inl (c 0, 244, .inl v_d)), (q_names, .inl (c 0, 3, .inl v_names))] o_r := by
  induction n with
  | zero => intros; exact no_ok (by assumption)
  | succ n ih =>
    intro q_this q_d q_kept q_found q_aside q_names q_seenKept q_movedKept q_traced q_bitsOf q_sizeOf q_number q_lifted v_images v_base v_at v_size v_fault v_opened v_isSeen v_isKeeping v_bubbleMany v_bubbleMost v_bubbleCell v_bestShown v_traceMany v_who v_d v_names o_r o_v_at o_v_fault o_v_opened h
    exact c_X12_unit l D c (f_X12_unitN n) (6 * n) (137 * n) ih q_this q_d q_kept q_found q_aside q_names q_seenKept q_movedKept q_traced q_bitsOf q_sizeOf q_number q_lifted v_images v_base v_at v_size v_fault v_opened v_isSeen v_isKeeping v_bubbleMany v_bubbleMost v_bubbleCell v_bestShown v_traceMany v_who v_d v_names o_r o_v_at o_v_fault o_v_opened h

