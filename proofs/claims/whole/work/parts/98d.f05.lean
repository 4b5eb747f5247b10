set_option maxRecDepth 20000 in
theorem in_X11_isTool_X11 : ∀ w ∈ u_ws RX11 TX11 11, w ∈ wsX11_isTool := by decide +kernel
set_option maxRecDepth 20000 in
theorem in_X11_isTool_X7 : ∀ w ∈ u_ws RX7 TX7 11, w ∈ wsX11_isTool := by decide +kernel
abbrev rm_X11_isTool : Room := { frames := 1, cells := 0, slots := 0, locals := 22 }
set_option maxHeartbeats 4000000 in
set_option maxRecDepth 100000 in
theorem c_X11_isTool (l : Launch) (D : va_G) (c : Nat → ClassId) (q_this q_now q_kept q_kinds q_voice q_thought q_further q_errors q_sheetBits q_sheetLength q_numbers q_now_wall q_now_kind q_now_m q_now_tape q_now_moved q_now_seen q_now_told : Nat) (a_1 : Int32) (v_images : Int32) (v_now_tools : Int32) (v_now_tapeLength : Int32) (v_now_z : Int32) (v_now_waiting : Int32) (o_r : Int32) (h : f_X11_isTool a_1 v_now_tools = some o_r) : gMI l yX11_isTool wsX11_isTool rm_X11_isTool D c [.ref q_this, .int a_1] [(q_this, .inr (11, [.ref q_now, .ref q_kept, .int v_images, .ref q_kinds, .ref q_voice, .ref q_thought, .ref q_further, .ref q_errors, .ref q_sheetBits, .ref q_sheetLength, .ref q_numbers])), (q_now, .inr (7, [.ref q_now_wall, .int v_now_tools, .ref q_now_kind, .ref q_now_m, .ref q_now_tape, .int v_now_tapeLength, .ref q_now_moved, .ref q_now_seen, .int v_now_z, .ref q_now_told, .int v_now_waiting]))] [(q_this, .inr (11, [.ref q_now, .ref q_kept, .int v_images, .ref q_kinds, .ref q_voice, .ref q_thought, .ref q_further, .ref q_errors, .ref q_sheetBits, .ref q_sheetLength, .ref q_numbers])), (q_now, .inr (7, [.ref q_now_wall, .int v_now_tools, .ref q_now_kind, .ref q_now_m, .ref q_now_tape, .int v_now_tapeLength, .ref q_now_moved, .ref q_now_seen, .int v_now_z, .ref q_now_told, .int v_now_waiting]))] o_r := by
  refine gMI_of (cc := cX11_isTool) (maxL := 2) (rt := (some .boolean)) (by decide +kernel) rfl (Nat.le_of_ble_eq_true rfl) ?_
  intro p e s m below meth co A hF hK hX hP hD hA hS ls hl
  obtain ⟨hx, hb, hr, hts, hown, hlocks, hml⟩ := id hF
  have hl : lv_has ls 2 [(0, .ref q_this), (1, .int a_1)] := hl
  unfold f_X11_isTool at h
  refine lv_iload_n hx hb dX11_isTool_0 rfl (lv_at hl 1 rfl) ?_
  refine lv_iconst (v := 0) hx hb dX11_isTool_1 (by decide) ?_
  refine lv_aload_n hx hb dX11_isTool_2 rfl (lv_at hl 0 rfl) ?_
  refine va_get (D := D) (ci := 11) (v := .ref q_now) (C := RX11) (T := TX11) (N := 11) hx hb hts in_X11_isTool_X11 hown hK.1 hP 0 rfl rfl 0 (by decide) (hts (.fieldLink RX11 14 "PaperBubbles" "now" "LPaperBubbles$State;") (List.mem_of_getElem? (i := 1) rfl)) (fun _ h9 => h9) rfl dX11_isTool_3 ?_
  refine va_getN (D := D) (ci := 7) (v := .int v_now_tools) (C := RX7) (T := TX7) (N := 11) hx hb hts in_X11_isTool_X7 hown hK.1 hP 1 rfl rfl 1 (by decide) (va_Nw.use rfl (hK.2 (.fieldLinkNest "PaperBubbles" 132 "PaperBubbles$State" "tools" "I" "PaperBubbles") (List.mem_of_getElem? (i := 4) rfl))) (fun _ h9 => h9) rfl dX11_isTool_6 ?_
  refine lv_iconst (v := 1) hx hb dX11_isTool_9 (by decide) ?_
  refine lv_isub hx hb dX11_isTool_10 ?_
  replace h := nm_ok h
  obtain ⟨t_1, et_1, h⟩ := h
  refine gTop et_1 ?_
  replace h := kb_ok h
  obtain ⟨r_3, hc_2, h⟩ := h
  refine gCallIr (isC := []) (wc := []) hP hD hS hA trivial (va_runS (rm := rm_X11_within) (ws := wsX11_within) (As := [.int a_1, .int 0, .int t_1]) (rest := []) (gFix hF) (c_X11_within l D c a_1 0 t_1 r_3 hc_2 s.heap.size) (va_cwS 3 hts gX11_isTool_X11_within rfl rfl rfl (by decide +kernel) ⟨Nat.le_of_ble_eq_true rfl, Nat.le_of_ble_eq_true rfl⟩) (gPreS (wc := []) (isC := []) hK hX hS hA hP hD trivial (by decide +kernel)) rfl rfl hl.1 rfl (lv_room (Nat.le_of_ble_eq_true rfl)) dX11_isTool_11 ⟨Nat.le_of_ble_eq_true rfl, Nat.le_of_ble_eq_true rfl⟩) (fun H locs hP hS => ?_)
  refine lv_if_eq (tgt := 27) hx hb dX11_isTool_14 (by decide) (fun c_4 => ?_) (fun c_4 => ?_)
  · replace h := it_t c_4 h
    refine lv_iconst (v := 0) hx hb dX11_isTool_27 (by decide) ?_
    replace h := so1 h
    subst h
    exact gIret hF hP hD hS rfl dX11_isTool_28
  · replace h := it_f c_4 h
    refine lv_iload_n hx hb dX11_isTool_17 rfl (lv_at hl 1 rfl) ?_
    refine lv_bipush (v := 6) hx hb dX11_isTool_18 (by decide) ?_
    refine lv_icmp_ge (tgt := 27) hx hb dX11_isTool_20 (by decide) (fun c_5 => ?_) (fun c_5 => ?_)
    · replace h := it_t c_5 h
      refine lv_iconst (v := 0) hx hb dX11_isTool_27 (by decide) ?_
      replace h := so1 h
      subst h
      exact gIret hF hP hD hS rfl dX11_isTool_28
    · replace h := it_f c_5 h
      refine lv_iconst (v := 1) hx hb dX11_isTool_23 (by decide) ?_
      refine lv_goto (tgt := 28) hx hb dX11_isTool_24 (by decide) ?_
      replace h := so1 h
      subst h
      exact gIret hF hP hD hS rfl dX11_isTool_28
set_option maxRecDepth 20000 in
theorem in_X11_kindAt_X11 : ∀ w ∈ u_ws RX11 TX11 11, w ∈ wsX11_kindAt := by decide +kernel
abbrev rm_X11_kindAt : Room := { frames := 1, cells := 0, slots := 0, locals := 22 }
set_option maxHeartbeats 4000000 in
set_option maxRecDepth 100000 in
theorem c_X11_kindAt (l : Launch) (D : va_G) (c : Nat → ClassId) (q_this q_now q_kept q_kinds q_voice q_thought q_further q_errors q_sheetBits q_sheetLength q_numbers : Nat) (ta : Nat → Nat) (a_1 : Int32) (v_images : Int32) (o_r : Int32) (h : f_X11_kindAt a_1 = some o_r) : gMR l yX11_kindAt wsX11_kindAt rm_X11_kindAt D c [.ref q_this, .int a_1] [(q_this, .inr (11, [.ref q_now, .ref q_kept, .int v_images, .ref q_kinds, .ref q_voice, .ref q_thought, .ref q_further, .ref q_errors, .ref q_sheetBits, .ref q_sheetLength, .ref q_numbers])), (q_kinds, .inl (c 1, 7, .inr (.inr (.inr (.inr (fun j => some (ta j))))))), (ta 0, .inr (8, [])), (ta 1, .inr (0, [])), (ta 2, .inr (4, [])), (ta 3, .inr (5, [])), (ta 4, .inr (6, [])), (ta 5, .inr (2, [])), (ta 6, .inr (1, []))] [(q_this, .inr (11, [.ref q_now, .ref q_kept, .int v_images, .ref q_kinds, .ref q_voice, .ref q_thought, .ref q_further, .ref q_errors, .ref q_sheetBits, .ref q_sheetLength, .ref q_numbers])), (q_kinds, .inl (c 1, 7, .inr (.inr (.inr (.inr (fun j => some (ta j))))))), (ta 0, .inr (8, [])), (ta 1, .inr (0, [])), (ta 2, .inr (4, [])), (ta 3, .inr (5, [])), (ta 4, .inr (6, [])), (ta 5, .inr (2, [])), (ta 6, .inr (1, []))] (some (ta o_r.toNatClampNeg)) := by
  refine gMR_of (cc := cX11_kindAt) (maxL := 2) (rt := (some (.object "PaperBubbles$Tool"))) (by decide +kernel) rfl (Nat.le_of_ble_eq_true rfl) ?_
  intro p e s m below meth co A hF hK hX hP hD hA hS ls hl
  obtain ⟨hx, hb, hr, hts, hown, hlocks, hml⟩ := id hF
  have hl : lv_has ls 2 [(0, .ref q_this), (1, .int a_1)] := hl
  unfold f_X11_kindAt at h
  refine lv_iload_n hx hb dX11_kindAt_0 rfl (lv_at hl 1 rfl) ?_
  refine lv_iconst (v := 0) hx hb dX11_kindAt_1 (by decide) ?_
  refine lv_bipush (v := 6) hx hb dX11_kindAt_2 (by decide) ?_
  replace h := kb_ok h
  obtain ⟨r_2, hc_1, h⟩ := h
  refine gCallIr (isC := []) (wc := []) hP hD hS hA trivial (va_runS (rm := rm_X11_within) (ws := wsX11_within) (As := [.int a_1, .int 0, .int 6]) (rest := []) (gFix hF) (c_X11_within l D c a_1 0 6 r_2 hc_1 s.heap.size) (va_cwS 3 hts gX11_kindAt_X11_within rfl rfl rfl (by decide +kernel) ⟨Nat.le_of_ble_eq_true rfl, Nat.le_of_ble_eq_true rfl⟩) (gPreS (wc := []) (isC := []) hK hX hS hA hP hD trivial (by decide +kernel)) rfl rfl hl.1 rfl (lv_room (Nat.le_of_ble_eq_true rfl)) dX11_kindAt_4 ⟨Nat.le_of_ble_eq_true rfl, Nat.le_of_ble_eq_true rfl⟩) (fun H locs hP hS => ?_)
  refine lv_if_eq (tgt := 19) hx hb dX11_kindAt_7 (by decide) (fun c_3 => ?_) (fun c_3 => ?_)
  · replace h := it_t c_3 h
    refine lv_aload_n hx hb dX11_kindAt_19 rfl (lv_at hl 0 rfl) ?_
    refine va_get (D := D) (ci := 11) (v := .ref q_kinds) (C := RX11) (T := TX11) (N := 11) hx hb hts in_X11_kindAt_X11 hown hK.1 hP 0 rfl rfl 3 (by decide) (hts (.fieldLink RX11 42 "PaperBubbles" "kinds" "[LPaperBubbles$Tool;") (List.mem_of_getElem? (i := 1) rfl)) (fun _ h9 => h9) rfl dX11_kindAt_20 ?_
    refine lv_iconst (v := 0) hx hb dX11_kindAt_23 (by decide) ?_
    replace h := chi_ok h
    obtain ⟨hi_4, h⟩ := h
    refine gAldT hx hb hK.1 hP 1 1 rfl rfl hi_4 dX11_kindAt_24 ?_
    replace h := so1 h
    subst h
    exact gAret hF hP hD hS dX11_kindAt_25
  · replace h := it_f c_3 h
    refine lv_aload_n hx hb dX11_kindAt_10 rfl (lv_at hl 0 rfl) ?_
    refine va_get (D := D) (ci := 11) (v := .ref q_kinds) (C := RX11) (T := TX11) (N := 11) hx hb hts in_X11_kindAt_X11 hown hK.1 hP 0 rfl rfl 3 (by decide) (hts (.fieldLink RX11 42 "PaperBubbles" "kinds" "[LPaperBubbles$Tool;") (List.mem_of_getElem? (i := 1) rfl)) (fun _ h9 => h9) rfl dX11_kindAt_11 ?_
    refine lv_iload_n hx hb dX11_kindAt_14 rfl (lv_at hl 1 rfl) ?_
    replace h := chi_ok h
    obtain ⟨hi_5, h⟩ := h
    refine gAldT hx hb hK.1 hP 1 1 rfl rfl hi_5 dX11_kindAt_15 ?_
    refine lv_goto (tgt := 25) hx hb dX11_kindAt_16 (by decide) ?_
    replace h := so1 h
    subst h
    exact gAret hF hP hD hS dX11_kindAt_25
set_option maxRecDepth 20000 in
theorem in_X11_kindOf_X11 : ∀ w ∈ u_ws RX11 TX11 11, w ∈ wsX11_kindOf := by decide +kernel
set_option maxRecDepth 20000 in
theorem in_X11_kindOf_X7 : ∀ w ∈ u_ws RX7 TX7 11, w ∈ wsX11_kindOf := by decide +kernel
abbrev rm_X11_kindOf : Room := { frames := 2, cells := 0, slots := 0, locals := 43 }
set_option maxHeartbeats 4000000 in
set_option maxRecDepth 100000 in
theorem c_X11_kindOf (l : Launch) (D : va_G) (c : Nat → ClassId) (q_this q_now q_kept q_kinds q_voice q_thought q_further q_errors q_sheetBits q_sheetLength q_numbers q_now_wall q_now_kind q_now_m q_now_tape q_now_moved q_now_seen q_now_told : Nat) (ta : Nat → Nat) (a_1 : Int32) (v_images : Int32) (v_now_tools : Int32) (v_now_tapeLength : Int32) (v_now_z : Int32) (v_now_waiting : Int32) (v_now_kind : Nat → Int32) (o_r : Int32) (h : f_X11_kindOf a_1 v_now_tools v_now_kind = some o_r) : gMR l yX11_kindOf wsX11_kindOf rm_X11_kindOf D c [.ref q_this, .int a_1] [(q_this, .inr (11, [.ref q_now, .ref q_kept, .int v_images, .ref q_kinds, .ref q_voice, .ref q_thought, .ref q_further, .ref q_errors, .ref q_sheetBits, .ref q_sheetLength, .ref q_numbers])), (q_kinds, .inl (c 1, 7, .inr (.inr (.inr (.inr (fun j => some (ta j))))))), (q_now, .inr (7, [.ref q_now_wall, .int v_now_tools, .ref q_now_kind, .ref q_now_m, .ref q_now_tape, .int v_now_tapeLength, .ref q_now_moved, .ref q_now_seen, .int v_now_z, .ref q_now_told, .int v_now_waiting])), (q_now_kind, .inl (c 0, 6, .inl v_now_kind)), (ta 0, .inr (8, [])), (ta 1, .inr (0, [])), (ta 2, .inr (4, [])), (ta 3, .inr (5, [])), (ta 4, .inr (6, [])), (ta 5, .inr (2, [])), (ta 6, .inr (1, []))] [(q_this, .inr (11, [.ref q_now, .ref q_kept, .int v_images, .ref q_kinds, .ref q_voice, .ref q_thought, .ref q_further, .ref q_errors, .ref q_sheetBits, .ref q_sheetLength, .ref q_numbers])), (q_kinds, .inl (c 1, 7, .inr (.inr (.inr (.inr (fun j => some (ta j))))))), (q_now, .inr (7, [.ref q_now_wall, .int v_now_tools, .ref q_now_kind, .ref q_now_m, .ref q_now_tape, .int v_now_tapeLength, .ref q_now_moved, .ref q_now_seen, .int v_now_z, .ref q_now_told, .int v_now_waiting])), (q_now_kind, .inl (c 0, 6, .inl v_now_kind)), (ta 0, .inr (8, [])), (ta 1, .inr (0, [])), (ta 2, .inr (4, [])), (ta 3, .inr (5, [])), (ta 4, .inr (6, [])), (ta 5, .inr (2, [])), (ta 6, .inr (1, []))] (some (ta o_r.toNatClampNeg)) := by
  refine gMR_of (cc := cX11_kindOf) (maxL := 2) (rt := (some (.object "PaperBubbles$Tool"))) (by decide +kernel) rfl (Nat.le_of_ble_eq_true rfl) ?_
  intro p e s m below meth co A hF hK hX hP hD hA hS ls hl
  obtain ⟨hx, hb, hr, hts, hown, hlocks, hml⟩ := id hF
  have hl : lv_has ls 2 [(0, .ref q_this), (1, .int a_1)] := hl
  have t_L22 : ∀ (y1 : Int32) (H : Heap) (locs : List Loc), va_P D gcl [(q_this, .inr (11, [.ref q_now, .ref q_kept, .int v_images, .ref q_kinds, .ref q_voice, .ref q_thought, .ref q_further, .ref q_errors, .ref q_sheetBits, .ref q_sheetLength, .ref q_numbers])), (q_kinds, .inl (c 1, 7, .inr (.inr (.inr (.inr (fun j => some (ta j))))))), (q_now, .inr (7, [.ref q_now_wall, .int v_now_tools, .ref q_now_kind, .ref q_now_m, .ref q_now_tape, .int v_now_tapeLength, .ref q_now_moved, .ref q_now_seen, .int v_now_z, .ref q_now_told, .int v_now_waiting])), (q_now_kind, .inl (c 0, 6, .inl v_now_kind)), (ta 0, .inr (8, [])), (ta 1, .inr (0, [])), (ta 2, .inr (4, [])), (ta 3, .inr (5, [])), (ta 4, .inr (6, [])), (ta 5, .inr (2, [])), (ta 6, .inr (1, []))] H → va_D A [(q_this, .inr (11, [.ref q_now, .ref q_kept, .int v_images, .ref q_kinds, .ref q_voice, .ref q_thought, .ref q_further, .ref q_errors, .ref q_sheetBits, .ref q_sheetLength, .ref q_numbers])), (q_kinds, .inl (c 1, 7, .inr (.inr (.inr (.inr (fun j => some (ta j))))))), (q_now, .inr (7, [.ref q_now_wall, .int v_now_tools, .ref q_now_kind, .ref q_now_m, .ref q_now_tape, .int v_now_tapeLength, .ref q_now_moved, .ref q_now_seen, .int v_now_z, .ref q_now_told, .int v_now_waiting])), (q_now_kind, .inl (c 0, 6, .inl v_now_kind)), (ta 0, .inr (8, [])), (ta 1, .inr (0, [])), (ta 2, .inr (4, [])), (ta 3, .inr (5, [])), (ta 4, .inr (6, [])), (ta 5, .inr (2, [])), (ta 6, .inr (1, []))] → va_S A s.heap H locs → ∀ ls, lv_has ls 2 [] → f_X11_kindOf_L22 y1 = some o_r → W p l e (headSpec wsX11_kindOf rm_X11_kindOf).room s m [.ref q_this, .int a_1].toArray below meth co H locs 0 0 (gQR D [(q_this, .inr (11, [.ref q_now, .ref q_kept, .int v_images, .ref q_kinds, .ref q_voice, .ref q_thought, .ref q_further, .ref q_errors, .ref q_sheetBits, .ref q_sheetLength, .ref q_numbers])), (q_kinds, .inl (c 1, 7, .inr (.inr (.inr (.inr (fun j => some (ta j))))))), (q_now, .inr (7, [.ref q_now_wall, .int v_now_tools, .ref q_now_kind, .ref q_now_m, .ref q_now_tape, .int v_now_tapeLength, .ref q_now_moved, .ref q_now_seen, .int v_now_z, .ref q_now_told, .int v_now_waiting])), (q_now_kind, .inl (c 0, 6, .inl v_now_kind)), (ta 0, .inr (8, [])), (ta 1, .inr (0, [])), (ta 2, .inr (4, [])), (ta 3, .inr (5, [])), (ta 4, .inr (6, [])), (ta 5, .inr (2, [])), (ta 6, .inr (1, []))] (some (ta o_r.toNatClampNeg)) A below [.ref q_this, .int a_1] s) (F0 m 22 ls [.int y1, .ref q_this]) := by
    intro  y1 H locs hP hD hS ls hl h
    unfold f_X11_kindOf_L22 at h
    replace h := kb_ok h
    obtain ⟨r_7, hc_6, h⟩ := h
    refine gCallRr (isC := [0, 1, 4, 5, 6, 7, 8, 9, 10]) (wc := [(q_this, .inr (11, [.ref q_now, .ref q_kept, .int v_images, .ref q_kinds, .ref q_voice, .ref q_thought, .ref q_further, .ref q_errors, .ref q_sheetBits, .ref q_sheetLength, .ref q_numbers])), (q_kinds, .inl (c 1, 7, .inr (.inr (.inr (.inr (fun j => some (ta j))))))), (ta 0, .inr (8, [])), (ta 1, .inr (0, [])), (ta 2, .inr (4, [])), (ta 3, .inr (5, [])), (ta 4, .inr (6, [])), (ta 5, .inr (2, [])), (ta 6, .inr (1, []))]) hP hD hS hA ⟨rfl, rfl, rfl, rfl, rfl, rfl, rfl, rfl, rfl, trivial⟩ (va_runV (rm := rm_X11_kindAt) (ws := wsX11_kindAt) (As := [.int y1]) (rest := []) (gFix hF) (c_X11_kindAt l D c q_this q_now q_kept q_kinds q_voice q_thought q_further q_errors q_sheetBits q_sheetLength q_numbers ta y1 v_images r_7 hc_6 H.size) (cwV 1 hts gX11_kindOf_X11_kindAt rfl rfl rfl (by decide +kernel) ⟨Nat.le_of_ble_eq_true rfl, Nat.le_of_ble_eq_true rfl⟩) (gPreV (wc := [(q_this, .inr (11, [.ref q_now, .ref q_kept, .int v_images, .ref q_kinds, .ref q_voice, .ref q_thought, .ref q_further, .ref q_errors, .ref q_sheetBits, .ref q_sheetLength, .ref q_numbers])), (q_kinds, .inl (c 1, 7, .inr (.inr (.inr (.inr (fun j => some (ta j))))))), (ta 0, .inr (8, [])), (ta 1, .inr (0, [])), (ta 2, .inr (4, [])), (ta 3, .inr (5, [])), (ta 4, .inr (6, [])), (ta 5, .inr (2, [])), (ta 6, .inr (1, []))]) (q := (RX11, TX11, 11)) (ci := 11) (q0 := 0) (isC := [0, 1, 4, 5, 6, 7, 8, 9, 10]) hK hX hS hA hP hD ⟨rfl, rfl, rfl, rfl, rfl, rfl, rfl, rfl, rfl, trivial⟩ (by decide +kernel) rfl rfl) rfl rfl hl.1 rfl (lv_room (Nat.le_of_ble_eq_true rfl)) dX11_kindOf_22 ⟨Nat.le_of_ble_eq_true rfl, Nat.le_of_ble_eq_true rfl⟩) (fun H locs hP hS => ?_)
    replace h := so1 h
    subst h
    exact gAret hF hP hD hS dX11_kindOf_25
  unfold f_X11_kindOf at h
  refine lv_aload_n hx hb dX11_kindOf_0 rfl (lv_at hl 0 rfl) ?_
  refine lv_aload_n hx hb dX11_kindOf_1 rfl (lv_at hl 0 rfl) ?_
  refine lv_iload_n hx hb dX11_kindOf_2 rfl (lv_at hl 1 rfl) ?_
  replace h := kb_ok h
  obtain ⟨r_2, hc_1, h⟩ := h
  refine gCallIr (isC := [0, 2]) (wc := [(q_this, .inr (11, [.ref q_now, .ref q_kept, .int v_images, .ref q_kinds, .ref q_voice, .ref q_thought, .ref q_further, .ref q_errors, .ref q_sheetBits, .ref q_sheetLength, .ref q_numbers])), (q_now, .inr (7, [.ref q_now_wall, .int v_now_tools, .ref q_now_kind, .ref q_now_m, .ref q_now_tape, .int v_now_tapeLength, .ref q_now_moved, .ref q_now_seen, .int v_now_z, .ref q_now_told, .int v_now_waiting]))]) hP hD hS hA ⟨rfl, rfl, trivial⟩ (va_runV (rm := rm_X11_isTool) (ws := wsX11_isTool) (As := [.int a_1]) (rest := [.ref q_this]) (gFix hF) (c_X11_isTool l D c q_this q_now q_kept q_kinds q_voice q_thought q_further q_errors q_sheetBits q_sheetLength q_numbers q_now_wall q_now_kind q_now_m q_now_tape q_now_moved q_now_seen q_now_told a_1 v_images v_now_tools v_now_tapeLength v_now_z v_now_waiting r_2 hc_1 s.heap.size) (cwV 1 hts gX11_kindOf_X11_isTool rfl rfl rfl (by decide +kernel) ⟨Nat.le_of_ble_eq_true rfl, Nat.le_of_ble_eq_true rfl⟩) (gPreV (wc := [(q_this, .inr (11, [.ref q_now, .ref q_kept, .int v_images, .ref q_kinds, .ref q_voice, .ref q_thought, .ref q_further, .ref q_errors, .ref q_sheetBits, .ref q_sheetLength, .ref q_numbers])), (q_now, .inr (7, [.ref q_now_wall, .int v_now_tools, .ref q_now_kind, .ref q_now_m, .ref q_now_tape, .int v_now_tapeLength, .ref q_now_moved, .ref q_now_seen, .int v_now_z, .ref q_now_told, .int v_now_waiting]))]) (q := (RX11, TX11, 11)) (ci := 11) (q0 := 0) (isC := [0, 2]) hK hX hS hA hP hD ⟨rfl, rfl, trivial⟩ (by decide +kernel) rfl rfl) rfl rfl hl.1 rfl (lv_room (Nat.le_of_ble_eq_true rfl)) dX11_kindOf_3 ⟨Nat.le_of_ble_eq_true rfl, Nat.le_of_ble_eq_true rfl⟩) (fun H locs hP hS => ?_)
  refine lv_if_eq (tgt := 21) hx hb dX11_kindOf_6 (by decide) (fun c_3 => ?_) (fun c_3 => ?_)
  · replace h := it_t c_3 h
    refine lv_iconst (v := 0) hx hb dX11_kindOf_21 (by decide) ?_
    exact t_L22 0 H locs hP hD hS ls (lv_sub hl [] rfl) h
  · replace h := it_f c_3 h
    refine lv_aload_n hx hb dX11_kindOf_9 rfl (lv_at hl 0 rfl) ?_
    refine va_get (D := D) (ci := 11) (v := .ref q_now) (C := RX11) (T := TX11) (N := 11) hx hb hts in_X11_kindOf_X11 hown hK.1 hP 0 rfl rfl 0 (by decide) (hts (.fieldLink RX11 14 "PaperBubbles" "now" "LPaperBubbles$State;") (List.mem_of_getElem? (i := 1) rfl)) (fun _ h9 => h9) rfl dX11_kindOf_10 ?_
    refine va_getN (D := D) (ci := 7) (v := .ref q_now_kind) (C := RX7) (T := TX7) (N := 11) hx hb hts in_X11_kindOf_X7 hown hK.1 hP 2 rfl rfl 2 (by decide) (va_Nw.use rfl (hK.2 (.fieldLinkNest "PaperBubbles" 136 "PaperBubbles$State" "kind" "[I" "PaperBubbles") (List.mem_of_getElem? (i := 5) rfl))) (fun _ h9 => h9) rfl dX11_kindOf_13 ?_
    refine lv_iload_n hx hb dX11_kindOf_16 rfl (lv_at hl 1 rfl) ?_
    replace h := chi_ok h
    obtain ⟨hi_4, h⟩ := h
    refine va_iald hx hb hK.1 hP 3 0 rfl rfl hi_4 dX11_kindOf_17 ?_
    replace h := nm_ok h
    obtain ⟨t_5, et_5, h⟩ := h
    refine gTop et_5 ?_
    refine lv_goto (tgt := 22) hx hb dX11_kindOf_18 (by decide) ?_
    exact t_L22 t_5 H locs hP hD hS ls (lv_sub hl [] rfl) h
abbrev rm_X8_isA_X8 : Room := { frames := 0, cells := 0, slots := 0, locals := 0 }
set_option maxHeartbeats 4000000 in
set_option maxRecDepth 100000 in
theorem c_X8_isA_X8 (l : Launch) (D : va_G) (c : Nat → ClassId) (q_this : Nat) (a_1 : Int32) (o_r : Int32) (h : f_X8_isA_X8 a_1 = some o_r) : gMI l yX8_isA wsX8_isA rm_X8_isA_X8 D c [.ref q_this, .int a_1] [] [] o_r := by
  refine gMI_of (cc := cX8_isA) (maxL := 2) (rt := (some .boolean)) (by decide +kernel) rfl (Nat.le_of_ble_eq_true rfl) ?_
  intro p e s m below meth co A hF hK hX hP hD hA hS ls hl
  obtain ⟨hx, hb, hr, hts, hown, hlocks, hml⟩ := id hF
  have hl : lv_has ls 2 [(0, .ref q_this), (1, .int a_1)] := hl
  unfold f_X8_isA_X8 at h
  refine lv_iload_n hx hb dX8_isA_0 rfl (lv_at hl 1 rfl) ?_
  refine lv_if_ne (tgt := 8) hx hb dX8_isA_1 (by decide) (fun c_1 => ?_) (fun c_1 => ?_)
  · replace h := it_f c_1 h
    refine lv_iconst (v := 0) hx hb dX8_isA_8 (by decide) ?_
    replace h := so1 h
    subst h
    exact gIret hF hP hD hS rfl dX8_isA_9
  · replace h := it_t c_1 h
    refine lv_iconst (v := 1) hx hb dX8_isA_4 (by decide) ?_
    refine lv_goto (tgt := 9) hx hb dX8_isA_5 (by decide) ?_
    replace h := so1 h
    subst h
    exact gIret hF hP hD hS rfl dX8_isA_9
abbrev rm_X8_isA_X4 : Room := { frames := 0, cells := 0, slots := 0, locals := 0 }
set_option maxHeartbeats 4000000 in
set_option maxRecDepth 100000 in
theorem c_X8_isA_X4 (l : Launch) (D : va_G) (c : Nat → ClassId) (q_this : Nat) (a_1 : Int32) (o_r : Int32) (h : f_X8_isA_X4 a_1 = some o_r) : gMI l yX8_isA wsX8_isA rm_X8_isA_X4 D c [.ref q_this, .int a_1] [] [] o_r := by
  refine gMI_of (cc := cX8_isA) (maxL := 2) (rt := (some .boolean)) (by decide +kernel) rfl (Nat.le_of_ble_eq_true rfl) ?_
  intro p e s m below meth co A hF hK hX hP hD hA hS ls hl
  obtain ⟨hx, hb, hr, hts, hown, hlocks, hml⟩ := id hF
  have hl : lv_has ls 2 [(0, .ref q_this), (1, .int a_1)] := hl
  unfold f_X8_isA_X4 at h
  refine lv_iload_n hx hb dX8_isA_0 rfl (lv_at hl 1 rfl) ?_
  refine lv_if_ne (tgt := 8) hx hb dX8_isA_1 (by decide) (fun c_1 => ?_) (fun c_1 => ?_)
  · replace h := it_f c_1 h
    refine lv_iconst (v := 0) hx hb dX8_isA_8 (by decide) ?_
    replace h := so1 h
    subst h
    exact gIret hF hP hD hS rfl dX8_isA_9
  · replace h := it_t c_1 h
    refine lv_iconst (v := 1) hx hb dX8_isA_4 (by decide) ?_
    refine lv_goto (tgt := 9) hx hb dX8_isA_5 (by decide) ?_
    replace h := so1 h
    subst h
    exact gIret hF hP hD hS rfl dX8_isA_9
abbrev rm_X4_isA_X4 : Room := { frames := 1, cells := 0, slots := 0, locals := 21 }
set_option maxHeartbeats 4000000 in
set_option maxRecDepth 100000 in
theorem c_X4_isA_X4 (l : Launch) (D : va_G) (c : Nat → ClassId) (q_this : Nat) (a_1 : Int32) (o_r : Int32) (h : f_X4_isA_X4 a_1 = some o_r) : gMI l yX4_isA wsX4_isA rm_X4_isA_X4 D c [.ref q_this, .int a_1] [(q_this, .inr (4, []))] [(q_this, .inr (4, []))] o_r := by
  refine gMI_of (cc := cX4_isA) (maxL := 2) (rt := (some .boolean)) (by decide +kernel) rfl (Nat.le_of_ble_eq_true rfl) ?_
  intro p e s m below meth co A hF hK hX hP hD hA hS ls hl
  obtain ⟨hx, hb, hr, hts, hown, hlocks, hml⟩ := id hF
  have hl : lv_has ls 2 [(0, .ref q_this), (1, .int a_1)] := hl
  unfold f_X4_isA_X4 at h
  refine lv_iload_n hx hb dX4_isA_0 rfl (lv_at hl 1 rfl) ?_
  refine lv_iconst (v := 2) hx hb dX4_isA_1 (by decide) ?_
  refine lv_icmp_eq (tgt := 13) hx hb dX4_isA_2 (by decide) (fun c_1 => ?_) (fun c_1 => ?_)
  · replace h := it_t c_1 h
    refine lv_iconst (v := 1) hx hb dX4_isA_13 (by decide) ?_
    refine lv_goto (tgt := 18) hx hb dX4_isA_14 (by decide) ?_
    replace h := so1 h
    subst h
    exact gIret hF hP hD hS rfl dX4_isA_18
  · replace h := it_f c_1 h
    refine lv_aload_n hx hb dX4_isA_5 rfl (lv_at hl 0 rfl) ?_
    refine lv_iload_n hx hb dX4_isA_6 rfl (lv_at hl 1 rfl) ?_
    replace h := kb_ok h
    obtain ⟨r_3, hc_2, h⟩ := h
    refine gCallIr (isC := []) (wc := []) hP hD hS hA trivial (va_runSU (rm := rm_X8_isA_X4) (ws := wsX8_isA) (As := [.int a_1]) (rest := []) (hK.1.1 4 _ rfl).2 (gFix hF) (c_X8_isA_X4 l D c q_this a_1 r_3 hc_2 s.heap.size) (va_cwSU 1 hts gX4_isA_X8_isA_s7 rfl rfl rfl (by decide +kernel) ⟨Nat.le_of_ble_eq_true rfl, Nat.le_of_ble_eq_true rfl⟩) (gPreV (wc := []) (q := (RX4, TX4, 0)) (ci := 4) (q0 := 0) (isC := []) hK hX hS hA hP hD trivial (by decide +kernel) rfl rfl) rfl rfl hl.1 rfl (lv_room (Nat.le_of_ble_eq_true rfl)) dX4_isA_7 ⟨Nat.le_of_ble_eq_true rfl, Nat.le_of_ble_eq_true rfl⟩) (fun H locs hP hS => ?_)
    refine lv_if_eq (tgt := 17) hx hb dX4_isA_10 (by decide) (fun c_4 => ?_) (fun c_4 => ?_)
    · replace h := it_t c_4 h
      refine lv_iconst (v := 0) hx hb dX4_isA_17 (by decide) ?_
      replace h := so1 h
      subst h
      exact gIret hF hP hD hS rfl dX4_isA_18
    · replace h := it_f c_4 h
      refine lv_iconst (v := 1) hx hb dX4_isA_13 (by decide) ?_
      refine lv_goto (tgt := 18) hx hb dX4_isA_14 (by decide) ?_
      replace h := so1 h
      subst h
      exact gIret hF hP hD hS rfl dX4_isA_18
abbrev rm_X8_isA_X5 : Room := { frames := 0, cells := 0, slots := 0, locals := 0 }
set_option maxHeartbeats 4000000 in
set_option maxRecDepth 100000 in
theorem c_X8_isA_X5 (l : Launch) (D : va_G) (c : Nat → ClassId) (q_this : Nat) (a_1 : Int32) (o_r : Int32) (h : f_X8_isA_X5 a_1 = some o_r) : gMI l yX8_isA wsX8_isA rm_X8_isA_X5 D c [.ref q_this, .int a_1] [] [] o_r := by
  refine gMI_of (cc := cX8_isA) (maxL := 2) (rt := (some .boolean)) (by decide +kernel) rfl (Nat.le_of_ble_eq_true rfl) ?_
  intro p e s m below meth co A hF hK hX hP hD hA hS ls hl
  obtain ⟨hx, hb, hr, hts, hown, hlocks, hml⟩ := id hF
  have hl : lv_has ls 2 [(0, .ref q_this), (1, .int a_1)] := hl
  unfold f_X8_isA_X5 at h
  refine lv_iload_n hx hb dX8_isA_0 rfl (lv_at hl 1 rfl) ?_
  refine lv_if_ne (tgt := 8) hx hb dX8_isA_1 (by decide) (fun c_1 => ?_) (fun c_1 => ?_)
  · replace h := it_f c_1 h
    refine lv_iconst (v := 0) hx hb dX8_isA_8 (by decide) ?_
    replace h := so1 h
    subst h
    exact gIret hF hP hD hS rfl dX8_isA_9
  · replace h := it_t c_1 h
    refine lv_iconst (v := 1) hx hb dX8_isA_4 (by decide) ?_
    refine lv_goto (tgt := 9) hx hb dX8_isA_5 (by decide) ?_
    replace h := so1 h
    subst h
    exact gIret hF hP hD hS rfl dX8_isA_9
abbrev rm_X5_isA_X5 : Room := { frames := 1, cells := 0, slots := 0, locals := 21 }
set_option maxHeartbeats 4000000 in
set_option maxRecDepth 100000 in
theorem c_X5_isA_X5 (l : Launch) (D : va_G) (c : Nat → ClassId) (q_this : Nat) (a_1 : Int32) (o_r : Int32) (h : f_X5_isA_X5 a_1 = some o_r) : gMI l yX5_isA wsX5_isA rm_X5_isA_X5 D c [.ref q_this, .int a_1] [(q_this, .inr (5, []))] [(q_this, .inr (5, []))] o_r := by
  refine gMI_of (cc := cX5_isA) (maxL := 2) (rt := (some .boolean)) (by decide +kernel) rfl (Nat.le_of_ble_eq_true rfl) ?_
  intro p e s m below meth co A hF hK hX hP hD hA hS ls hl
  obtain ⟨hx, hb, hr, hts, hown, hlocks, hml⟩ := id hF
  have hl : lv_has ls 2 [(0, .ref q_this), (1, .int a_1)] := hl
  unfold f_X5_isA_X5 at h
  refine lv_iload_n hx hb dX5_isA_0 rfl (lv_at hl 1 rfl) ?_
  refine lv_iconst (v := 3) hx hb dX5_isA_1 (by decide) ?_
  refine lv_icmp_eq (tgt := 13) hx hb dX5_isA_2 (by decide) (fun c_1 => ?_) (fun c_1 => ?_)
  · replace h := it_t c_1 h
    refine lv_iconst (v := 1) hx hb dX5_isA_13 (by decide) ?_
    refine lv_goto (tgt := 18) hx hb dX5_isA_14 (by decide) ?_
    replace h := so1 h
    subst h
    exact gIret hF hP hD hS rfl dX5_isA_18
  · replace h := it_f c_1 h
    refine lv_aload_n hx hb dX5_isA_5 rfl (lv_at hl 0 rfl) ?_
    refine lv_iload_n hx hb dX5_isA_6 rfl (lv_at hl 1 rfl) ?_
    replace h := kb_ok h
    obtain ⟨r_3, hc_2, h⟩ := h
    refine gCallIr (isC := []) (wc := []) hP hD hS hA trivial (va_runSU (rm := rm_X8_isA_X5) (ws := wsX8_isA) (As := [.int a_1]) (rest := []) (hK.1.1 5 _ rfl).2 (gFix hF) (c_X8_isA_X5 l D c q_this a_1 r_3 hc_2 s.heap.size) (va_cwSU 1 hts gX5_isA_X8_isA_s7 rfl rfl rfl (by decide +kernel) ⟨Nat.le_of_ble_eq_true rfl, Nat.le_of_ble_eq_true rfl⟩) (gPreV (wc := []) (q := (RX5, TX5, 0)) (ci := 5) (q0 := 0) (isC := []) hK hX hS hA hP hD trivial (by decide +kernel) rfl rfl) rfl rfl hl.1 rfl (lv_room (Nat.le_of_ble_eq_true rfl)) dX5_isA_7 ⟨Nat.le_of_ble_eq_true rfl, Nat.le_of_ble_eq_true rfl⟩) (fun H locs hP hS => ?_)
    refine lv_if_eq (tgt := 17) hx hb dX5_isA_10 (by decide) (fun c_4 => ?_) (fun c_4 => ?_)
    · replace h := it_t c_4 h
      refine lv_iconst (v := 0) hx hb dX5_isA_17 (by decide) ?_
      replace h := so1 h
      subst h
      exact gIret hF hP hD hS rfl dX5_isA_18
    · replace h := it_f c_4 h
      refine lv_iconst (v := 1) hx hb dX5_isA_13 (by decide) ?_
      refine lv_goto (tgt := 18) hx hb dX5_isA_14 (by decide) ?_
      replace h := so1 h
      subst h
      exact gIret hF hP hD hS rfl dX5_isA_18
abbrev rm_X6_isA_X6 : Room := { frames := 2, cells := 0, slots := 0, locals := 42 }
set_option maxHeartbeats 4000000 in
set_option maxRecDepth 100000 in
theorem c_X6_isA_X6 (l : Launch) (D : va_G) (c : Nat → ClassId) (q_this : Nat) (a_1 : Int32) (o_r : Int32) (h : f_X6_isA_X6 a_1 = some o_r) : gMI l yX6_isA wsX6_isA rm_X6_isA_X6 D c [.ref q_this, .int a_1] [(q_this, .inr (6, []))] [(q_this, .inr (6, []))] o_r := by
  refine gMI_of (cc := cX6_isA) (maxL := 2) (rt := (some .boolean)) (by decide +kernel) rfl (Nat.le_of_ble_eq_true rfl) ?_
  intro p e s m below meth co A hF hK hX hP hD hA hS ls hl
  obtain ⟨hx, hb, hr, hts, hown, hlocks, hml⟩ := id hF
  have hl : lv_has ls 2 [(0, .ref q_this), (1, .int a_1)] := hl
  unfold f_X6_isA_X6 at h
  refine lv_iload_n hx hb dX6_isA_0 rfl (lv_at hl 1 rfl) ?_
  refine lv_iconst (v := 4) hx hb dX6_isA_1 (by decide) ?_
  refine lv_icmp_eq (tgt := 13) hx hb dX6_isA_2 (by decide) (fun c_1 => ?_) (fun c_1 => ?_)
  · replace h := it_t c_1 h
    refine lv_iconst (v := 1) hx hb dX6_isA_13 (by decide) ?_
    refine lv_goto (tgt := 18) hx hb dX6_isA_14 (by decide) ?_
    replace h := so1 h
    subst h
    exact gIret hF hP hD hS rfl dX6_isA_18
  · replace h := it_f c_1 h
    refine lv_aload_n hx hb dX6_isA_5 rfl (lv_at hl 0 rfl) ?_
    refine lv_iload_n hx hb dX6_isA_6 rfl (lv_at hl 1 rfl) ?_
    replace h := kb_ok h
    obtain ⟨r_3, hc_2, h⟩ := h
    refine gCallIr (isC := [0]) (wc := [(q_this, .inr (6, []))]) hP hD hS hA ⟨rfl, trivial⟩ (va_runSU (rm := rm_X0_isA_X6) (ws := wsX0_isA) (As := [.int a_1]) (rest := []) (hK.1.1 6 _ rfl).2 (gFix hF) (c_X0_isA_X6 l D c q_this a_1 r_3 hc_2 s.heap.size) (va_cwSU 1 hts gX6_isA_X0_isA_s7 rfl rfl rfl (by decide +kernel) ⟨Nat.le_of_ble_eq_true rfl, Nat.le_of_ble_eq_true rfl⟩) (gPreV (wc := [(q_this, .inr (6, []))]) (q := (RX6, TX6, 0)) (ci := 6) (q0 := 0) (isC := [0]) hK hX hS hA hP hD ⟨rfl, trivial⟩ (by decide +kernel) rfl rfl) rfl rfl hl.1 rfl (lv_room (Nat.le_of_ble_eq_true rfl)) dX6_isA_7 ⟨Nat.le_of_ble_eq_true rfl, Nat.le_of_ble_eq_true rfl⟩) (fun H locs hP hS => ?_)
    refine lv_if_eq (tgt := 17) hx hb dX6_isA_10 (by decide) (fun c_4 => ?_) (fun c_4 => ?_)
    · replace h := it_t c_4 h
      refine lv_iconst (v := 0) hx hb dX6_isA_17 (by decide) ?_
      replace h := so1 h
      subst h
      exact gIret hF hP hD hS rfl dX6_isA_18
    · replace h := it_f c_4 h
      refine lv_iconst (v := 1) hx hb dX6_isA_13 (by decide) ?_
      refine lv_goto (tgt := 18) hx hb dX6_isA_14 (by decide) ?_
      replace h := so1 h
      subst h
      exact gIret hF hP hD hS rfl dX6_isA_18
abbrev rm_X8_isA_X2 : Room := { frames := 0, cells := 0, slots := 0, locals := 0 }
set_option maxHeartbeats 4000000 in
set_option maxRecDepth 100000 in
theorem c_X8_isA_X2 (l : Launch) (D : va_G) (c : Nat → ClassId) (q_this : Nat) (a_1 : Int32) (o_r : Int32) (h : f_X8_isA_X2 a_1 = some o_r) : gMI l yX8_isA wsX8_isA rm_X8_isA_X2 D c [.ref q_this, .int a_1] [] [] o_r := by
  refine gMI_of (cc := cX8_isA) (maxL := 2) (rt := (some .boolean)) (by decide +kernel) rfl (Nat.le_of_ble_eq_true rfl) ?_
  intro p e s m below meth co A hF hK hX hP hD hA hS ls hl
  obtain ⟨hx, hb, hr, hts, hown, hlocks, hml⟩ := id hF
  have hl : lv_has ls 2 [(0, .ref q_this), (1, .int a_1)] := hl
  unfold f_X8_isA_X2 at h
  refine lv_iload_n hx hb dX8_isA_0 rfl (lv_at hl 1 rfl) ?_
  refine lv_if_ne (tgt := 8) hx hb dX8_isA_1 (by decide) (fun c_1 => ?_) (fun c_1 => ?_)
  · replace h := it_f c_1 h
    refine lv_iconst (v := 0) hx hb dX8_isA_8 (by decide) ?_
    replace h := so1 h
    subst h
    exact gIret hF hP hD hS rfl dX8_isA_9
  · replace h := it_t c_1 h
    refine lv_iconst (v := 1) hx hb dX8_isA_4 (by decide) ?_
    refine lv_goto (tgt := 9) hx hb dX8_isA_5 (by decide) ?_
    replace h := so1 h
    subst h
    exact gIret hF hP hD hS rfl dX8_isA_9
abbrev rm_X4_isA_X2 : Room := { frames := 1, cells := 0, slots := 0, locals := 21 }
set_option maxHeartbeats 4000000 in
set_option maxRecDepth 100000 in
theorem c_X4_isA_X2 (l : Launch) (D : va_G) (c : Nat → ClassId) (q_this : Nat) (a_1 : Int32) (o_r : Int32) (h : f_X4_isA_X2 a_1 = some o_r) : gMI l yX4_isA wsX4_isA rm_X4_isA_X2 D c [.ref q_this, .int a_1] [(q_this, .inr (2, []))] [(q_this, .inr (2, []))] o_r := by
  refine gMI_of (cc := cX4_isA) (maxL := 2) (rt := (some .boolean)) (by decide +kernel) rfl (Nat.le_of_ble_eq_true rfl) ?_
  intro p e s m below meth co A hF hK hX hP hD hA hS ls hl
  obtain ⟨hx, hb, hr, hts, hown, hlocks, hml⟩ := id hF
  have hl : lv_has ls 2 [(0, .ref q_this), (1, .int a_1)] := hl
  unfold f_X4_isA_X2 at h
  refine lv_iload_n hx hb dX4_isA_0 rfl (lv_at hl 1 rfl) ?_
  refine lv_iconst (v := 2) hx hb dX4_isA_1 (by decide) ?_
  refine lv_icmp_eq (tgt := 13) hx hb dX4_isA_2 (by decide) (fun c_1 => ?_) (fun c_1 => ?_)
  · replace h := it_t c_1 h
    refine lv_iconst (v := 1) hx hb dX4_isA_13 (by decide) ?_
    refine lv_goto (tgt := 18) hx hb dX4_isA_14 (by decide) ?_
    replace h := so1 h
    subst h
    exact gIret hF hP hD hS rfl dX4_isA_18
  · replace h := it_f c_1 h
    refine lv_aload_n hx hb dX4_isA_5 rfl (lv_at hl 0 rfl) ?_
    refine lv_iload_n hx hb dX4_isA_6 rfl (lv_at hl 1 rfl) ?_
    replace h := kb_ok h
    obtain ⟨r_3, hc_2, h⟩ := h
    refine gCallIr (isC := []) (wc := []) hP hD hS hA trivial (va_runSU (rm := rm_X8_isA_X2) (ws := wsX8_isA) (As := [.int a_1]) (rest := []) (hK.1.1 2 _ rfl).2 (gFix hF) (c_X8_isA_X2 l D c q_this a_1 r_3 hc_2 s.heap.size) (va_cwSU 1 hts gX4_isA_X8_isA_s7 rfl rfl rfl (by decide +kernel) ⟨Nat.le_of_ble_eq_true rfl, Nat.le_of_ble_eq_true rfl⟩) (gPreV (wc := []) (q := (RX2, TX2, 0)) (ci := 2) (q0 := 0) (isC := []) hK hX hS hA hP hD trivial (by decide +kernel) rfl rfl) rfl rfl hl.1 rfl (lv_room (Nat.le_of_ble_eq_true rfl)) dX4_isA_7 ⟨Nat.le_of_ble_eq_true rfl, Nat.le_of_ble_eq_true rfl⟩) (fun H locs hP hS => ?_)
    refine lv_if_eq (tgt := 17) hx hb dX4_isA_10 (by decide) (fun c_4 => ?_) (fun c_4 => ?_)
    · replace h := it_t c_4 h
      refine lv_iconst (v := 0) hx hb dX4_isA_17 (by decide) ?_
      replace h := so1 h
      subst h
      exact gIret hF hP hD hS rfl dX4_isA_18
    · replace h := it_f c_4 h
      refine lv_iconst (v := 1) hx hb dX4_isA_13 (by decide) ?_
      refine lv_goto (tgt := 18) hx hb dX4_isA_14 (by decide) ?_
      replace h := so1 h
      subst h
      exact gIret hF hP hD hS rfl dX4_isA_18
abbrev rm_X2_isA_X2 : Room := { frames := 2, cells := 0, slots := 0, locals := 42 }
set_option maxHeartbeats 4000000 in
set_option maxRecDepth 100000 in
theorem c_X2_isA_X2 (l : Launch) (D : va_G) (c : Nat → ClassId) (q_this : Nat) (a_1 : Int32) (o_r : Int32) (h : f_X2_isA_X2 a_1 = some o_r) : gMI l yX2_isA wsX2_isA rm_X2_isA_X2 D c [.ref q_this, .int a_1] [(q_this, .inr (2, []))] [(q_this, .inr (2, []))] o_r := by
  refine gMI_of (cc := cX2_isA) (maxL := 2) (rt := (some .boolean)) (by decide +kernel) rfl (Nat.le_of_ble_eq_true rfl) ?_
  intro p e s m below meth co A hF hK hX hP hD hA hS ls hl
  obtain ⟨hx, hb, hr, hts, hown, hlocks, hml⟩ := id hF
  have hl : lv_has ls 2 [(0, .ref q_this), (1, .int a_1)] := hl
  unfold f_X2_isA_X2 at h
  refine lv_iload_n hx hb dX2_isA_0 rfl (lv_at hl 1 rfl) ?_
  refine lv_iconst (v := 5) hx hb dX2_isA_1 (by decide) ?_
  refine lv_icmp_eq (tgt := 13) hx hb dX2_isA_2 (by decide) (fun c_1 => ?_) (fun c_1 => ?_)
  · replace h := it_t c_1 h
    refine lv_iconst (v := 1) hx hb dX2_isA_13 (by decide) ?_
    refine lv_goto (tgt := 18) hx hb dX2_isA_14 (by decide) ?_
    replace h := so1 h
    subst h
    exact gIret hF hP hD hS rfl dX2_isA_18
  · replace h := it_f c_1 h
    refine lv_aload_n hx hb dX2_isA_5 rfl (lv_at hl 0 rfl) ?_
    refine lv_iload_n hx hb dX2_isA_6 rfl (lv_at hl 1 rfl) ?_
    replace h := kb_ok h
    obtain ⟨r_3, hc_2, h⟩ := h
    refine gCallIr (isC := [0]) (wc := [(q_this, .inr (2, []))]) hP hD hS hA ⟨rfl, trivial⟩ (va_runSU (rm := rm_X4_isA_X2) (ws := wsX4_isA) (As := [.int a_1]) (rest := []) (hK.1.1 2 _ rfl).2 (gFix hF) (c_X4_isA_X2 l D c q_this a_1 r_3 hc_2 s.heap.size) (va_cwSU 1 hts gX2_isA_X4_isA_s7 rfl rfl rfl (by decide +kernel) ⟨Nat.le_of_ble_eq_true rfl, Nat.le_of_ble_eq_true rfl⟩) (gPreV (wc := [(q_this, .inr (2, []))]) (q := (RX2, TX2, 0)) (ci := 2) (q0 := 0) (isC := [0]) hK hX hS hA hP hD ⟨rfl, trivial⟩ (by decide +kernel) rfl rfl) rfl rfl hl.1 rfl (lv_room (Nat.le_of_ble_eq_true rfl)) dX2_isA_7 ⟨Nat.le_of_ble_eq_true rfl, Nat.le_of_ble_eq_true rfl⟩) (fun H locs hP hS => ?_)
    refine lv_if_eq (tgt := 17) hx hb dX2_isA_10 (by decide) (fun c_4 => ?_) (fun c_4 => ?_)
    · replace h := it_t c_4 h
      refine lv_iconst (v := 0) hx hb dX2_isA_17 (by decide) ?_
      replace h := so1 h
      subst h
      exact gIret hF hP hD hS rfl dX2_isA_18
    · replace h := it_f c_4 h
      refine lv_iconst (v := 1) hx hb dX2_isA_13 (by decide) ?_
      refine lv_goto (tgt := 18) hx hb dX2_isA_14 (by decide) ?_
      replace h := so1 h
      subst h
      exact gIret hF hP hD hS rfl dX2_isA_18
abbrev rm_X8_isA_X1 : Room := { frames := 0, cells := 0, slots := 0, locals := 0 }
set_option maxHeartbeats 4000000 in
set_option maxRecDepth 100000 in
theorem c_X8_isA_X1 (l : Launch) (D : va_G) (c : Nat → ClassId) (q_this : Nat) (a_1 : Int32) (o_r : Int32) (h : f_X8_isA_X1 a_1 = some o_r) : gMI l yX8_isA wsX8_isA rm_X8_isA_X1 D c [.ref q_this, .int a_1] [] [] o_r := by
  refine gMI_of (cc := cX8_isA) (maxL := 2) (rt := (some .boolean)) (by decide +kernel) rfl (Nat.le_of_ble_eq_true rfl) ?_
  intro p e s m below meth co A hF hK hX hP hD hA hS ls hl
  obtain ⟨hx, hb, hr, hts, hown, hlocks, hml⟩ := id hF
  have hl : lv_has ls 2 [(0, .ref q_this), (1, .int a_1)] := hl
  unfold f_X8_isA_X1 at h
  refine lv_iload_n hx hb dX8_isA_0 rfl (lv_at hl 1 rfl) ?_
  refine lv_if_ne (tgt := 8) hx hb dX8_isA_1 (by decide) (fun c_1 => ?_) (fun c_1 => ?_)
  · replace h := it_f c_1 h
    refine lv_iconst (v := 0) hx hb dX8_isA_8 (by decide) ?_
    replace h := so1 h
    subst h
    exact gIret hF hP hD hS rfl dX8_isA_9
  · replace h := it_t c_1 h
    refine lv_iconst (v := 1) hx hb dX8_isA_4 (by decide) ?_
    refine lv_goto (tgt := 9) hx hb dX8_isA_5 (by decide) ?_
    replace h := so1 h
    subst h
    exact gIret hF hP hD hS rfl dX8_isA_9
abbrev rm_X5_isA_X1 : Room := { frames := 1, cells := 0, slots := 0, locals := 21 }
set_option maxHeartbeats 4000000 in
set_option maxRecDepth 100000 in
theorem c_X5_isA_X1 (l : Launch) (D : va_G) (c : Nat → ClassId) (q_this : Nat) (a_1 : Int32) (o_r : Int32) (h : f_X5_isA_X1 a_1 = some o_r) : gMI l yX5_isA wsX5_isA rm_X5_isA_X1 D c [.ref q_this, .int a_1] [(q_this, .inr (1, []))] [(q_this, .inr (1, []))] o_r := by
  refine gMI_of (cc := cX5_isA) (maxL := 2) (rt := (some .boolean)) (by decide +kernel) rfl (Nat.le_of_ble_eq_true rfl) ?_
  intro p e s m below meth co A hF hK hX hP hD hA hS ls hl
  obtain ⟨hx, hb, hr, hts, hown, hlocks, hml⟩ := id hF
  have hl : lv_has ls 2 [(0, .ref q_this), (1, .int a_1)] := hl
  unfold f_X5_isA_X1 at h
  refine lv_iload_n hx hb dX5_isA_0 rfl (lv_at hl 1 rfl) ?_
  refine lv_iconst (v := 3) hx hb dX5_isA_1 (by decide) ?_
  refine lv_icmp_eq (tgt := 13) hx hb dX5_isA_2 (by decide) (fun c_1 => ?_) (fun c_1 => ?_)
  · replace h := it_t c_1 h
    refine lv_iconst (v := 1) hx hb dX5_isA_13 (by decide) ?_
    refine lv_goto (tgt := 18) hx hb dX5_isA_14 (by decide) ?_
    replace h := so1 h
    subst h
    exact gIret hF hP hD hS rfl dX5_isA_18
  · replace h := it_f c_1 h
    refine lv_aload_n hx hb dX5_isA_5 rfl (lv_at hl 0 rfl) ?_
    refine lv_iload_n hx hb dX5_isA_6 rfl (lv_at hl 1 rfl) ?_
    replace h := kb_ok h
    obtain ⟨r_3, hc_2, h⟩ := h
    refine gCallIr (isC := []) (wc := []) hP hD hS hA trivial (va_runSU (rm := rm_X8_isA_X1) (ws := wsX8_isA) (As := [.int a_1]) (rest := []) (hK.1.1 1 _ rfl).2 (gFix hF) (c_X8_isA_X1 l D c q_this a_1 r_3 hc_2 s.heap.size) (va_cwSU 1 hts gX5_isA_X8_isA_s7 rfl rfl rfl (by decide +kernel) ⟨Nat.le_of_ble_eq_true rfl, Nat.le_of_ble_eq_true rfl⟩) (gPreV (wc := []) (q := (RX1, TX1, 0)) (ci := 1) (q0 := 0) (isC := []) hK hX hS hA hP hD trivial (by decide +kernel) rfl rfl) rfl rfl hl.1 rfl (lv_room (Nat.le_of_ble_eq_true rfl)) dX5_isA_7 ⟨Nat.le_of_ble_eq_true rfl, Nat.le_of_ble_eq_true rfl⟩) (fun H locs hP hS => ?_)
    refine lv_if_eq (tgt := 17) hx hb dX5_isA_10 (by decide) (fun c_4 => ?_) (fun c_4 => ?_)
    · replace h := it_t c_4 h
      refine lv_iconst (v := 0) hx hb dX5_isA_17 (by decide) ?_
      replace h := so1 h
      subst h
      exact gIret hF hP hD hS rfl dX5_isA_18
    · replace h := it_f c_4 h
      refine lv_iconst (v := 1) hx hb dX5_isA_13 (by decide) ?_
      refine lv_goto (tgt := 18) hx hb dX5_isA_14 (by decide) ?_
      replace h := so1 h
      subst h
      exact gIret hF hP hD hS rfl dX5_isA_18
abbrev rm_X1_isA_X1 : Room := { frames := 2, cells := 0, slots := 0, locals := 42 }
set_option maxHeartbeats 4000000 in
set_option maxRecDepth 100000 in
theorem c_X1_isA_X1 (l : Launch) (D : va_G) (c : Nat → ClassId) (q_this : Nat) (a_1 : Int32) (o_r : Int32) (h : f_X1_isA_X1 a_1 = some o_r) : gMI l yX1_isA wsX1_isA rm_X1_isA_X1 D c [.ref q_this, .int a_1] [(q_this, .inr (1, []))] [(q_this, .inr (1, []))] o_r := by
  refine gMI_of (cc := cX1_isA) (maxL := 2) (rt := (some .boolean)) (by decide +kernel) rfl (Nat.le_of_ble_eq_true rfl) ?_
  intro p e s m below meth co A hF hK hX hP hD hA hS ls hl
  obtain ⟨hx, hb, hr, hts, hown, hlocks, hml⟩ := id hF
  have hl : lv_has ls 2 [(0, .ref q_this), (1, .int a_1)] := hl
  unfold f_X1_isA_X1 at h
  refine lv_iload_n hx hb dX1_isA_0 rfl (lv_at hl 1 rfl) ?_
  refine lv_bipush (v := 6) hx hb dX1_isA_1 (by decide) ?_
  refine lv_icmp_eq (tgt := 14) hx hb dX1_isA_3 (by decide) (fun c_1 => ?_) (fun c_1 => ?_)
  · replace h := it_t c_1 h
    refine lv_iconst (v := 1) hx hb dX1_isA_14 (by decide) ?_
    refine lv_goto (tgt := 19) hx hb dX1_isA_15 (by decide) ?_
    replace h := so1 h
    subst h
    exact gIret hF hP hD hS rfl dX1_isA_19
  · replace h := it_f c_1 h
    refine lv_aload_n hx hb dX1_isA_6 rfl (lv_at hl 0 rfl) ?_
    refine lv_iload_n hx hb dX1_isA_7 rfl (lv_at hl 1 rfl) ?_
    replace h := kb_ok h
    obtain ⟨r_3, hc_2, h⟩ := h
    refine gCallIr (isC := [0]) (wc := [(q_this, .inr (1, []))]) hP hD hS hA ⟨rfl, trivial⟩ (va_runSU (rm := rm_X5_isA_X1) (ws := wsX5_isA) (As := [.int a_1]) (rest := []) (hK.1.1 1 _ rfl).2 (gFix hF) (c_X5_isA_X1 l D c q_this a_1 r_3 hc_2 s.heap.size) (va_cwSU 1 hts gX1_isA_X5_isA_s7 rfl rfl rfl (by decide +kernel) ⟨Nat.le_of_ble_eq_true rfl, Nat.le_of_ble_eq_true rfl⟩) (gPreV (wc := [(q_this, .inr (1, []))]) (q := (RX1, TX1, 0)) (ci := 1) (q0 := 0) (isC := [0]) hK hX hS hA hP hD ⟨rfl, trivial⟩ (by decide +kernel) rfl rfl) rfl rfl hl.1 rfl (lv_room (Nat.le_of_ble_eq_true rfl)) dX1_isA_8 ⟨Nat.le_of_ble_eq_true rfl, Nat.le_of_ble_eq_true rfl⟩) (fun H locs hP hS => ?_)
    refine lv_if_eq (tgt := 18) hx hb dX1_isA_11 (by decide) (fun c_4 => ?_) (fun c_4 => ?_)
    · replace h := it_t c_4 h
      refine lv_iconst (v := 0) hx hb dX1_isA_18 (by decide) ?_
      replace h := so1 h
      subst h
      exact gIret hF hP hD hS rfl dX1_isA_19
    · replace h := it_f c_4 h
      refine lv_iconst (v := 1) hx hb dX1_isA_14 (by decide) ?_
      refine lv_goto (tgt := 19) hx hb dX1_isA_15 (by decide) ?_
      replace h := so1 h
      subst h
      exact gIret hF hP hD hS rfl dX1_isA_19
theorem td_isA {k : Int32} {a_1 : Int32} {o : Int32} (h : f_TD_isA k a_1 = some o) : (k = 0 ∧ f_X8_isA_X8 a_1 = some o) ∨ (k = 1 ∧ f_X0_isA_X0 a_1 = some o) ∨ (k = 2 ∧ f_X4_isA_X4 a_1 = some o) ∨ (k = 3 ∧ f_X5_isA_X5 a_1 = some o) ∨ (k = 4 ∧ f_X6_isA_X6 a_1 = some o) ∨ (k = 5 ∧ f_X2_isA_X2 a_1 = some o) ∨ (k = 6 ∧ f_X1_isA_X1 a_1 = some o) := by
  unfold f_TD_isA at h
  by_cases c0 : k = 0
  · exact Or.inl ⟨c0, it_t c0 h⟩
  replace h := it_f c0 h
  by_cases c1 : k = 1
  · exact Or.inr (Or.inl ⟨c1, it_t c1 h⟩)
  replace h := it_f c1 h
  by_cases c2 : k = 2
  · exact Or.inr (Or.inr (Or.inl ⟨c2, it_t c2 h⟩))
  replace h := it_f c2 h
  by_cases c3 : k = 3
  · exact Or.inr (Or.inr (Or.inr (Or.inl ⟨c3, it_t c3 h⟩)))
  replace h := it_f c3 h
  by_cases c4 : k = 4
  · exact Or.inr (Or.inr (Or.inr (Or.inr (Or.inl ⟨c4, it_t c4 h⟩))))
  replace h := it_f c4 h
  by_cases c5 : k = 5
  · exact Or.inr (Or.inr (Or.inr (Or.inr (Or.inr (Or.inl ⟨c5, it_t c5 h⟩)))))
  replace h := it_f c5 h
  by_cases c6 : k = 6
  · exact Or.inr (Or.inr (Or.inr (Or.inr (Or.inr (Or.inr (⟨c6, it_t c6 h⟩))))))
  replace h := it_f c6 h
  exact no_ok h
set_option maxRecDepth 20000 in
theorem in_X11_as_X11 : ∀ w ∈ u_ws RX11 TX11 11, w ∈ wsX11_as := by decide +kernel
set_option maxRecDepth 20000 in
theorem in_X11_as_X7 : ∀ w ∈ u_ws RX7 TX7 11, w ∈ wsX11_as := by decide +kernel
abbrev rm_X11_as : Room := { frames := 3, cells := 0, slots := 0, locals := 64 }
set_option maxHeartbeats 4000000 in
set_option maxRecDepth 100000 in
theorem c_X11_as (l : Launch) (D : va_G) (c : Nat → ClassId) (q_this q_now q_kept q_kinds q_voice q_thought q_further q_errors q_sheetBits q_sheetLength q_numbers q_now_wall q_now_kind q_now_m q_now_tape q_now_moved q_now_seen q_now_told : Nat) (ta : Nat → Nat) (a_1 : Int32) (a_2 : Int32) (v_images : Int32) (v_errors : Nat → Int32) (v_now_tools : Int32) (v_now_tapeLength : Int32) (v_now_z : Int32) (v_now_waiting : Int32) (v_now_kind : Nat → Int32) (v_now_m : Nat → Int32) (o_r : Int32) (o_v_errors : Nat → Int32) (h : f_X11_as a_1 a_2 v_errors v_now_tools v_now_kind v_now_m = some (o_r, o_v_errors)) : gMI l yX11_as wsX11_as rm_X11_as D c [.ref q_this, .int a_1, .int a_2] [(q_this, .inr (11, [.ref q_now, .ref q_kept, .int v_images, .ref q_kinds, .ref q_voice, .ref q_thought, .ref q_further, .ref q_errors, .ref q_sheetBits, .ref q_sheetLength, .ref q_numbers])), (q_errors, .inl (c 0, 6, .inl v_errors)), (q_kinds, .inl (c 1, 7, .inr (.inr (.inr (.inr (fun j => some (ta j))))))), (q_now, .inr (7, [.ref q_now_wall, .int v_now_tools, .ref q_now_kind, .ref q_now_m, .ref q_now_tape, .int v_now_tapeLength, .ref q_now_moved, .ref q_now_seen, .int v_now_z, .ref q_now_told, .int v_now_waiting])), (q_now_kind, .inl (c 0, 6, .inl v_now_kind)), (q_now_m, .inl (c 0, 6, .inl v_now_m)), (ta 0, .inr (8, [])), (ta 1, .inr (0, [])), (ta 2, .inr (4, [])), (ta 3, .inr (5, [])), (ta 4, .inr (6, [])), (ta 5, .inr (2, [])), (ta 6, .inr (1, []))] [(q_this, .inr (11, [.ref q_now, .ref q_kept, .int v_images, .ref q_kinds, .ref q_voice, .ref q_thought, .ref q_further, .ref q_errors, .ref q_sheetBits, .ref q_sheetLength, .ref q_numbers])), (q_errors, .inl (c 0, 6, .inl o_v_errors)), (q_kinds, .inl (c 1, 7, .inr (.inr (.inr (.inr (fun j => some (ta j))))))), (q_now, .inr (7, [.ref q_now_wall, .int v_now_tools, .ref q_now_kind, .ref q_now_m, .ref q_now_tape, .int v_now_tapeLength, .ref q_now_moved, .ref q_now_seen, .int v_now_z, .ref q_now_told, .int v_now_waiting])), (q_now_kind, .inl (c 0, 6, .inl v_now_kind)), (q_now_m, .inl (c 0, 6, .inl v_now_m)), (ta 0, .inr (8, [])), (ta 1, .inr (0, [])), (ta 2, .inr (4, [])), (ta 3, .inr (5, [])), (ta 4, .inr (6, [])), (ta 5, .inr (2, [])), (ta 6, .inr (1, []))] o_r := by
  refine gMI_of (cc := cX11_as) (maxL := 3) (rt := (some .int)) (by decide +kernel) rfl (Nat.le_of_ble_eq_true rfl) ?_
  intro p e s m below meth co A hF hK hX hP hD hA hS ls hl
  obtain ⟨hx, hb, hr, hts, hown, hlocks, hml⟩ := id hF
  have hl : lv_has ls 3 [(0, .ref q_this), (1, .int a_1), (2, .int a_2)] := hl
  have t_L18 : ∀ (v_errors : Nat → Int32) (H : Heap) (locs : List Loc), va_P D gcl [(q_this, .inr (11, [.ref q_now, .ref q_kept, .int v_images, .ref q_kinds, .ref q_voice, .ref q_thought, .ref q_further, .ref q_errors, .ref q_sheetBits, .ref q_sheetLength, .ref q_numbers])), (q_errors, .inl (c 0, 6, .inl v_errors)), (q_kinds, .inl (c 1, 7, .inr (.inr (.inr (.inr (fun j => some (ta j))))))), (q_now, .inr (7, [.ref q_now_wall, .int v_now_tools, .ref q_now_kind, .ref q_now_m, .ref q_now_tape, .int v_now_tapeLength, .ref q_now_moved, .ref q_now_seen, .int v_now_z, .ref q_now_told, .int v_now_waiting])), (q_now_kind, .inl (c 0, 6, .inl v_now_kind)), (q_now_m, .inl (c 0, 6, .inl v_now_m)), (ta 0, .inr (8, [])), (ta 1, .inr (0, [])), (ta 2, .inr (4, [])), (ta 3, .inr (5, [])), (ta 4, .inr (6, [])), (ta 5, .inr (2, [])), (ta 6, .inr (1, []))] H → va_D A [(q_this, .inr (11, [.ref q_now, .ref q_kept, .int v_images, .ref q_kinds, .ref q_voice, .ref q_thought, .ref q_further, .ref q_errors, .ref q_sheetBits, .ref q_sheetLength, .ref q_numbers])), (q_errors, .inl (c 0, 6, .inl v_errors)), (q_kinds, .inl (c 1, 7, .inr (.inr (.inr (.inr (fun j => some (ta j))))))), (q_now, .inr (7, [.ref q_now_wall, .int v_now_tools, .ref q_now_kind, .ref q_now_m, .ref q_now_tape, .int v_now_tapeLength, .ref q_now_moved, .ref q_now_seen, .int v_now_z, .ref q_now_told, .int v_now_waiting])), (q_now_kind, .inl (c 0, 6, .inl v_now_kind)), (q_now_m, .inl (c 0, 6, .inl v_now_m)), (ta 0, .inr (8, [])), (ta 1, .inr (0, [])), (ta 2, .inr (4, [])), (ta 3, .inr (5, [])), (ta 4, .inr (6, [])), (ta 5, .inr (2, [])), (ta 6, .inr (1, []))] → va_S A s.heap H locs → ∀ ls, lv_has ls 3 [(0, .ref q_this)] → f_X11_as_L18 v_errors = some (o_r, o_v_errors) → W p l e (headSpec wsX11_as rm_X11_as).room s m [.ref q_this, .int a_1, .int a_2].toArray below meth co H locs 0 0 (gQI D [(q_this, .inr (11, [.ref q_now, .ref q_kept, .int v_images, .ref q_kinds, .ref q_voice, .ref q_thought, .ref q_further, .ref q_errors, .ref q_sheetBits, .ref q_sheetLength, .ref q_numbers])), (q_errors, .inl (c 0, 6, .inl o_v_errors)), (q_kinds, .inl (c 1, 7, .inr (.inr (.inr (.inr (fun j => some (ta j))))))), (q_now, .inr (7, [.ref q_now_wall, .int v_now_tools, .ref q_now_kind, .ref q_now_m, .ref q_now_tape, .int v_now_tapeLength, .ref q_now_moved, .ref q_now_seen, .int v_now_z, .ref q_now_told, .int v_now_waiting])), (q_now_kind, .inl (c 0, 6, .inl v_now_kind)), (q_now_m, .inl (c 0, 6, .inl v_now_m)), (ta 0, .inr (8, [])), (ta 1, .inr (0, [])), (ta 2, .inr (4, [])), (ta 3, .inr (5, [])), (ta 4, .inr (6, [])), (ta 5, .inr (2, [])), (ta 6, .inr (1, []))] o_r A below [.ref q_this, .int a_1, .int a_2] s) (F0 m 18 ls []) := by
    intro  v_errors H locs hP hD hS ls hl h
    unfold f_X11_as_L18 at h
    refine lv_aload_n hx hb dX11_as_18 rfl (lv_at hl 0 rfl) ?_
    refine lv_iconst (v := 1) hx hb dX11_as_19 (by decide) ?_
    replace h := kb2_ok h
    obtain ⟨r_18, w_19, hc_17, h⟩ := h
    refine gCallI (isC := [0, 1]) (wc := [(q_this, .inr (11, [.ref q_now, .ref q_kept, .int v_images, .ref q_kinds, .ref q_voice, .ref q_thought, .ref q_further, .ref q_errors, .ref q_sheetBits, .ref q_sheetLength, .ref q_numbers])), (q_errors, .inl (c 0, 6, .inl v_errors))]) (w1 := [(q_this, .inr (11, [.ref q_now, .ref q_kept, .int v_images, .ref q_kinds, .ref q_voice, .ref q_thought, .ref q_further, .ref q_errors, .ref q_sheetBits, .ref q_sheetLength, .ref q_numbers])), (q_errors, .inl (c 0, 6, .inl w_19))]) (ws2 := [(q_this, .inr (11, [.ref q_now, .ref q_kept, .int v_images, .ref q_kinds, .ref q_voice, .ref q_thought, .ref q_further, .ref q_errors, .ref q_sheetBits, .ref q_sheetLength, .ref q_numbers])), (q_errors, .inl (c 0, 6, .inl w_19)), (q_kinds, .inl (c 1, 7, .inr (.inr (.inr (.inr (fun j => some (ta j))))))), (q_now, .inr (7, [.ref q_now_wall, .int v_now_tools, .ref q_now_kind, .ref q_now_m, .ref q_now_tape, .int v_now_tapeLength, .ref q_now_moved, .ref q_now_seen, .int v_now_z, .ref q_now_told, .int v_now_waiting])), (q_now_kind, .inl (c 0, 6, .inl v_now_kind)), (q_now_m, .inl (c 0, 6, .inl v_now_m)), (ta 0, .inr (8, [])), (ta 1, .inr (0, [])), (ta 2, .inr (4, [])), (ta 3, .inr (5, [])), (ta 4, .inr (6, [])), (ta 5, .inr (2, [])), (ta 6, .inr (1, []))]) (ms := [(some 0), (some 1), none, none, none, none, none, none, none, none, none, none, none]) hP hD hS hA ⟨rfl, rfl, trivial⟩ (by decide +kernel) ⟨rfl, rfl, rfl, rfl, rfl, rfl, rfl, rfl, rfl, rfl, rfl, rfl, rfl, trivial⟩ (va_runV (rm := rm_X11_error) (ws := wsX11_error) (As := [.int 1]) (rest := []) (gFix hF) (c_X11_error l D c q_this q_now q_kept q_kinds q_voice q_thought q_further q_errors q_sheetBits q_sheetLength q_numbers 1 v_images v_errors r_18 w_19 hc_17 H.size) (cwV 1 hts gX11_as_X11_error rfl rfl rfl (by decide +kernel) ⟨Nat.le_of_ble_eq_true rfl, Nat.le_of_ble_eq_true rfl⟩) (gPreV (wc := [(q_this, .inr (11, [.ref q_now, .ref q_kept, .int v_images, .ref q_kinds, .ref q_voice, .ref q_thought, .ref q_further, .ref q_errors, .ref q_sheetBits, .ref q_sheetLength, .ref q_numbers])), (q_errors, .inl (c 0, 6, .inl v_errors))]) (q := (RX11, TX11, 11)) (ci := 11) (q0 := 0) (isC := [0, 1]) hK hX hS hA hP hD ⟨rfl, rfl, trivial⟩ (by decide +kernel) rfl rfl) rfl rfl hl.1 rfl (lv_room (Nat.le_of_ble_eq_true rfl)) dX11_as_20 ⟨Nat.le_of_ble_eq_true rfl, Nat.le_of_ble_eq_true rfl⟩) (fun H locs hP hD hS => ?_)
    replace h := so2 h
    obtain ⟨z0, z1⟩ := h
    subst z0 z1
    exact gIret hF hP hD hS rfl dX11_as_23
  unfold f_X11_as at h
  refine lv_aload_n hx hb dX11_as_0 rfl (lv_at hl 0 rfl) ?_
  refine lv_iload_n hx hb dX11_as_1 rfl (lv_at hl 1 rfl) ?_
  replace h := kb_ok h
  obtain ⟨r_2, hc_1, h⟩ := h
  refine gCallIr (isC := [0, 3]) (wc := [(q_this, .inr (11, [.ref q_now, .ref q_kept, .int v_images, .ref q_kinds, .ref q_voice, .ref q_thought, .ref q_further, .ref q_errors, .ref q_sheetBits, .ref q_sheetLength, .ref q_numbers])), (q_now, .inr (7, [.ref q_now_wall, .int v_now_tools, .ref q_now_kind, .ref q_now_m, .ref q_now_tape, .int v_now_tapeLength, .ref q_now_moved, .ref q_now_seen, .int v_now_z, .ref q_now_told, .int v_now_waiting]))]) hP hD hS hA ⟨rfl, rfl, trivial⟩ (va_runV (rm := rm_X11_isTool) (ws := wsX11_isTool) (As := [.int a_1]) (rest := []) (gFix hF) (c_X11_isTool l D c q_this q_now q_kept q_kinds q_voice q_thought q_further q_errors q_sheetBits q_sheetLength q_numbers q_now_wall q_now_kind q_now_m q_now_tape q_now_moved q_now_seen q_now_told a_1 v_images v_now_tools v_now_tapeLength v_now_z v_now_waiting r_2 hc_1 s.heap.size) (cwV 1 hts gX11_as_X11_isTool rfl rfl rfl (by decide +kernel) ⟨Nat.le_of_ble_eq_true rfl, Nat.le_of_ble_eq_true rfl⟩) (gPreV (wc := [(q_this, .inr (11, [.ref q_now, .ref q_kept, .int v_images, .ref q_kinds, .ref q_voice, .ref q_thought, .ref q_further, .ref q_errors, .ref q_sheetBits, .ref q_sheetLength, .ref q_numbers])), (q_now, .inr (7, [.ref q_now_wall, .int v_now_tools, .ref q_now_kind, .ref q_now_m, .ref q_now_tape, .int v_now_tapeLength, .ref q_now_moved, .ref q_now_seen, .int v_now_z, .ref q_now_told, .int v_now_waiting]))]) (q := (RX11, TX11, 11)) (ci := 11) (q0 := 0) (isC := [0, 3]) hK hX hS hA hP hD ⟨rfl, rfl, trivial⟩ (by decide +kernel) rfl rfl) rfl rfl hl.1 rfl (lv_room (Nat.le_of_ble_eq_true rfl)) dX11_as_2 ⟨Nat.le_of_ble_eq_true rfl, Nat.le_of_ble_eq_true rfl⟩) (fun H locs hP hS => ?_)
  refine lv_if_eq (tgt := 18) hx hb dX11_as_5 (by decide) (fun c_3 => ?_) (fun c_3 => ?_)
  · replace h := it_t c_3 h
    exact t_L18 v_errors H locs hP hD hS ls (lv_sub hl [0] rfl) h
  · replace h := it_f c_3 h
    refine lv_iload_n hx hb dX11_as_8 rfl (lv_at hl 2 rfl) ?_
    refine lv_iconst (v := 0) hx hb dX11_as_9 (by decide) ?_
    refine lv_bipush (v := 6) hx hb dX11_as_10 (by decide) ?_
    replace h := kb_ok h
    obtain ⟨r_5, hc_4, h⟩ := h
    refine gCallIr (isC := []) (wc := []) hP hD hS hA trivial (va_runS (rm := rm_X11_within) (ws := wsX11_within) (As := [.int a_2, .int 0, .int 6]) (rest := []) (gFix hF) (c_X11_within l D c a_2 0 6 r_5 hc_4 H.size) (va_cwS 3 hts gX11_as_X11_within rfl rfl rfl (by decide +kernel) ⟨Nat.le_of_ble_eq_true rfl, Nat.le_of_ble_eq_true rfl⟩) (gPreS (wc := []) (isC := []) hK hX hS hA hP hD trivial (by decide +kernel)) rfl rfl hl.1 rfl (lv_room (Nat.le_of_ble_eq_true rfl)) dX11_as_12 ⟨Nat.le_of_ble_eq_true rfl, Nat.le_of_ble_eq_true rfl⟩) (fun H locs hP hS => ?_)
    refine lv_if_ne (tgt := 24) hx hb dX11_as_15 (by decide) (fun c_6 => ?_) (fun c_6 => ?_)
    · replace h := it_f c_6 h
      refine lv_aload_n hx hb dX11_as_24 rfl (lv_at hl 0 rfl) ?_
      refine lv_iload_n hx hb dX11_as_25 rfl (lv_at hl 1 rfl) ?_
      replace h := kb_ok h
      obtain ⟨r_8, hc_7, h⟩ := h
      refine gCallRr (isC := [0, 2, 3, 4, 6, 7, 8, 9, 10, 11, 12]) (wc := [(q_this, .inr (11, [.ref q_now, .ref q_kept, .int v_images, .ref q_kinds, .ref q_voice, .ref q_thought, .ref q_further, .ref q_errors, .ref q_sheetBits, .ref q_sheetLength, .ref q_numbers])), (q_kinds, .inl (c 1, 7, .inr (.inr (.inr (.inr (fun j => some (ta j))))))), (q_now, .inr (7, [.ref q_now_wall, .int v_now_tools, .ref q_now_kind, .ref q_now_m, .ref q_now_tape, .int v_now_tapeLength, .ref q_now_moved, .ref q_now_seen, .int v_now_z, .ref q_now_told, .int v_now_waiting])), (q_now_kind, .inl (c 0, 6, .inl v_now_kind)), (ta 0, .inr (8, [])), (ta 1, .inr (0, [])), (ta 2, .inr (4, [])), (ta 3, .inr (5, [])), (ta 4, .inr (6, [])), (ta 5, .inr (2, [])), (ta 6, .inr (1, []))]) hP hD hS hA ⟨rfl, rfl, rfl, rfl, rfl, rfl, rfl, rfl, rfl, rfl, rfl, trivial⟩ (va_runV (rm := rm_X11_kindOf) (ws := wsX11_kindOf) (As := [.int a_1]) (rest := []) (gFix hF) (c_X11_kindOf l D c q_this q_now q_kept q_kinds q_voice q_thought q_further q_errors q_sheetBits q_sheetLength q_numbers q_now_wall q_now_kind q_now_m q_now_tape q_now_moved q_now_seen q_now_told ta a_1 v_images v_now_tools v_now_tapeLength v_now_z v_now_waiting v_now_kind r_8 hc_7 H.size) (cwV 1 hts gX11_as_X11_kindOf rfl rfl rfl (by decide +kernel) ⟨Nat.le_of_ble_eq_true rfl, Nat.le_of_ble_eq_true rfl⟩) (gPreV (wc := [(q_this, .inr (11, [.ref q_now, .ref q_kept, .int v_images, .ref q_kinds, .ref q_voice, .ref q_thought, .ref q_further, .ref q_errors, .ref q_sheetBits, .ref q_sheetLength, .ref q_numbers])), (q_kinds, .inl (c 1, 7, .inr (.inr (.inr (.inr (fun j => some (ta j))))))), (q_now, .inr (7, [.ref q_now_wall, .int v_now_tools, .ref q_now_kind, .ref q_now_m, .ref q_now_tape, .int v_now_tapeLength, .ref q_now_moved, .ref q_now_seen, .int v_now_z, .ref q_now_told, .int v_now_waiting])), (q_now_kind, .inl (c 0, 6, .inl v_now_kind)), (ta 0, .inr (8, [])), (ta 1, .inr (0, [])), (ta 2, .inr (4, [])), (ta 3, .inr (5, [])), (ta 4, .inr (6, [])), (ta 5, .inr (2, [])), (ta 6, .inr (1, []))]) (q := (RX11, TX11, 11)) (ci := 11) (q0 := 0) (isC := [0, 2, 3, 4, 6, 7, 8, 9, 10, 11, 12]) hK hX hS hA hP hD ⟨rfl, rfl, rfl, rfl, rfl, rfl, rfl, rfl, rfl, rfl, rfl, trivial⟩ (by decide +kernel) rfl rfl) rfl rfl hl.1 rfl (lv_room (Nat.le_of_ble_eq_true rfl)) dX11_as_26 ⟨Nat.le_of_ble_eq_true rfl, Nat.le_of_ble_eq_true rfl⟩) (fun H locs hP hS => ?_)
      refine lv_iload_n hx hb dX11_as_29 rfl (lv_at hl 2 rfl) ?_
      replace h := kb_ok h
      obtain ⟨r_10, hc_9, h⟩ := h
      have cont_11 : ∀ (H : Heap) (locs : List Loc), va_P D gcl [(q_this, .inr (11, [.ref q_now, .ref q_kept, .int v_images, .ref q_kinds, .ref q_voice, .ref q_thought, .ref q_further, .ref q_errors, .ref q_sheetBits, .ref q_sheetLength, .ref q_numbers])), (q_errors, .inl (c 0, 6, .inl v_errors)), (q_kinds, .inl (c 1, 7, .inr (.inr (.inr (.inr (fun j => some (ta j))))))), (q_now, .inr (7, [.ref q_now_wall, .int v_now_tools, .ref q_now_kind, .ref q_now_m, .ref q_now_tape, .int v_now_tapeLength, .ref q_now_moved, .ref q_now_seen, .int v_now_z, .ref q_now_told, .int v_now_waiting])), (q_now_kind, .inl (c 0, 6, .inl v_now_kind)), (q_now_m, .inl (c 0, 6, .inl v_now_m)), (ta 0, .inr (8, [])), (ta 1, .inr (0, [])), (ta 2, .inr (4, [])), (ta 3, .inr (5, [])), (ta 4, .inr (6, [])), (ta 5, .inr (2, [])), (ta 6, .inr (1, []))] H → va_D A [(q_this, .inr (11, [.ref q_now, .ref q_kept, .int v_images, .ref q_kinds, .ref q_voice, .ref q_thought, .ref q_further, .ref q_errors, .ref q_sheetBits, .ref q_sheetLength, .ref q_numbers])), (q_errors, .inl (c 0, 6, .inl v_errors)), (q_kinds, .inl (c 1, 7, .inr (.inr (.inr (.inr (fun j => some (ta j))))))), (q_now, .inr (7, [.ref q_now_wall, .int v_now_tools, .ref q_now_kind, .ref q_now_m, .ref q_now_tape, .int v_now_tapeLength, .ref q_now_moved, .ref q_now_seen, .int v_now_z, .ref q_now_told, .int v_now_waiting])), (q_now_kind, .inl (c 0, 6, .inl v_now_kind)), (q_now_m, .inl (c 0, 6, .inl v_now_m)), (ta 0, .inr (8, [])), (ta 1, .inr (0, [])), (ta 2, .inr (4, [])), (ta 3, .inr (5, [])), (ta 4, .inr (6, [])), (ta 5, .inr (2, [])), (ta 6, .inr (1, []))] → va_S A s.heap H locs → W p l e (headSpec wsX11_as rm_X11_as).room s m [.ref q_this, .int a_1, .int a_2].toArray below meth co H locs 0 0 (gQI D [(q_this, .inr (11, [.ref q_now, .ref q_kept, .int v_images, .ref q_kinds, .ref q_voice, .ref q_thought, .ref q_further, .ref q_errors, .ref q_sheetBits, .ref q_sheetLength, .ref q_numbers])), (q_errors, .inl (c 0, 6, .inl o_v_errors)), (q_kinds, .inl (c 1, 7, .inr (.inr (.inr (.inr (fun j => some (ta j))))))), (q_now, .inr (7, [.ref q_now_wall, .int v_now_tools, .ref q_now_kind, .ref q_now_m, .ref q_now_tape, .int v_now_tapeLength, .ref q_now_moved, .ref q_now_seen, .int v_now_z, .ref q_now_told, .int v_now_waiting])), (q_now_kind, .inl (c 0, 6, .inl v_now_kind)), (q_now_m, .inl (c 0, 6, .inl v_now_m)), (ta 0, .inr (8, [])), (ta 1, .inr (0, [])), (ta 2, .inr (4, [])), (ta 3, .inr (5, [])), (ta 4, .inr (6, [])), (ta 5, .inr (2, [])), (ta 6, .inr (1, []))] o_r A below [.ref q_this, .int a_1, .int a_2] s) (F0 m 33 ls [.int r_10]) := by
        intro H locs hP hD hS
        refine lv_if_ne (tgt := 42) hx hb dX11_as_33 (by decide) (fun c_12 => ?_) (fun c_12 => ?_)
        · replace h := it_f c_12 h
          refine lv_aload_n hx hb dX11_as_42 rfl (lv_at hl 0 rfl) ?_
          refine va_get (D := D) (ci := 11) (v := .ref q_now) (C := RX11) (T := TX11) (N := 11) hx hb hts in_X11_as_X11 hown hK.1 hP 0 rfl rfl 0 (by decide) (hts (.fieldLink RX11 14 "PaperBubbles" "now" "LPaperBubbles$State;") (List.mem_of_getElem? (i := 1) rfl)) (fun _ h9 => h9) rfl dX11_as_43 ?_
          refine va_getN (D := D) (ci := 7) (v := .ref q_now_m) (C := RX7) (T := TX7) (N := 11) hx hb hts in_X11_as_X7 hown hK.1 hP 3 rfl rfl 3 (by decide) (va_Nw.use rfl (hK.2 (.fieldLinkNest "PaperBubbles" 139 "PaperBubbles$State" "m" "[I" "PaperBubbles") (List.mem_of_getElem? (i := 6) rfl))) (fun _ h9 => h9) rfl dX11_as_46 ?_
          refine lv_iload_n hx hb dX11_as_49 rfl (lv_at hl 1 rfl) ?_
          replace h := chi_ok h
          obtain ⟨hi_13, h⟩ := h
          refine va_iald hx hb hK.1 hP 5 0 rfl rfl hi_13 dX11_as_50 ?_
          replace h := so2 h
          obtain ⟨z0, z1⟩ := h
          subst z0 z1
          exact gIret hF hP hD hS rfl dX11_as_51
        · replace h := it_t c_12 h
          refine lv_aload_n hx hb dX11_as_36 rfl (lv_at hl 0 rfl) ?_
          refine lv_iconst (v := 5) hx hb dX11_as_37 (by decide) ?_
          replace h := kb2_ok h
          obtain ⟨r_15, w_16, hc_14, h⟩ := h
          refine gCallI (isC := [0, 1]) (wc := [(q_this, .inr (11, [.ref q_now, .ref q_kept, .int v_images, .ref q_kinds, .ref q_voice, .ref q_thought, .ref q_further, .ref q_errors, .ref q_sheetBits, .ref q_sheetLength, .ref q_numbers])), (q_errors, .inl (c 0, 6, .inl v_errors))]) (w1 := [(q_this, .inr (11, [.ref q_now, .ref q_kept, .int v_images, .ref q_kinds, .ref q_voice, .ref q_thought, .ref q_further, .ref q_errors, .ref q_sheetBits, .ref q_sheetLength, .ref q_numbers])), (q_errors, .inl (c 0, 6, .inl w_16))]) (ws2 := [(q_this, .inr (11, [.ref q_now, .ref q_kept, .int v_images, .ref q_kinds, .ref q_voice, .ref q_thought, .ref q_further, .ref q_errors, .ref q_sheetBits, .ref q_sheetLength, .ref q_numbers])), (q_errors, .inl (c 0, 6, .inl w_16)), (q_kinds, .inl (c 1, 7, .inr (.inr (.inr (.inr (fun j => some (ta j))))))), (q_now, .inr (7, [.ref q_now_wall, .int v_now_tools, .ref q_now_kind, .ref q_now_m, .ref q_now_tape, .int v_now_tapeLength, .ref q_now_moved, .ref q_now_seen, .int v_now_z, .ref q_now_told, .int v_now_waiting])), (q_now_kind, .inl (c 0, 6, .inl v_now_kind)), (q_now_m, .inl (c 0, 6, .inl v_now_m)), (ta 0, .inr (8, [])), (ta 1, .inr (0, [])), (ta 2, .inr (4, [])), (ta 3, .inr (5, [])), (ta 4, .inr (6, [])), (ta 5, .inr (2, [])), (ta 6, .inr (1, []))]) (ms := [(some 0), (some 1), none, none, none, none, none, none, none, none, none, none, none]) hP hD hS hA ⟨rfl, rfl, trivial⟩ (by decide +kernel) ⟨rfl, rfl, rfl, rfl, rfl, rfl, rfl, rfl, rfl, rfl, rfl, rfl, rfl, trivial⟩ (va_runV (rm := rm_X11_error) (ws := wsX11_error) (As := [.int 5]) (rest := []) (gFix hF) (c_X11_error l D c q_this q_now q_kept q_kinds q_voice q_thought q_further q_errors q_sheetBits q_sheetLength q_numbers 5 v_images v_errors r_15 w_16 hc_14 H.size) (cwV 1 hts gX11_as_X11_error rfl rfl rfl (by decide +kernel) ⟨Nat.le_of_ble_eq_true rfl, Nat.le_of_ble_eq_true rfl⟩) (gPreV (wc := [(q_this, .inr (11, [.ref q_now, .ref q_kept, .int v_images, .ref q_kinds, .ref q_voice, .ref q_thought, .ref q_further, .ref q_errors, .ref q_sheetBits, .ref q_sheetLength, .ref q_numbers])), (q_errors, .inl (c 0, 6, .inl v_errors))]) (q := (RX11, TX11, 11)) (ci := 11) (q0 := 0) (isC := [0, 1]) hK hX hS hA hP hD ⟨rfl, rfl, trivial⟩ (by decide +kernel) rfl rfl) rfl rfl hl.1 rfl (lv_room (Nat.le_of_ble_eq_true rfl)) dX11_as_38 ⟨Nat.le_of_ble_eq_true rfl, Nat.le_of_ble_eq_true rfl⟩) (fun H locs hP hD hS => ?_)
          replace h := so2 h
          obtain ⟨z0, z1⟩ := h
          subst z0 z1
          exact gIret hF hP hD hS rfl dX11_as_41
      rcases td_isA hc_9 with ⟨rfl, hc_9⟩ | ⟨rfl, hc_9⟩ | ⟨rfl, hc_9⟩ | ⟨rfl, hc_9⟩ | ⟨rfl, hc_9⟩ | ⟨rfl, hc_9⟩ | ⟨rfl, hc_9⟩
      · exact gCallIr (isC := []) (wc := []) hP hD hS hA trivial (va_runV (rm := rm_X8_isA_X8) (ws := wsX8_isA) (As := [.int a_2]) (rest := []) (gFix hF) (c_X8_isA_X8 l D c (ta 0) a_2 r_10 hc_9 H.size) (cwV 1 hts gX11_as_X8_isA rfl rfl rfl (by decide +kernel) ⟨Nat.le_of_ble_eq_true rfl, Nat.le_of_ble_eq_true rfl⟩) (gPreV (wc := []) (q := (RX8, TX8, 0)) (ci := 8) (q0 := 6) (isC := []) hK hX hS hA hP hD trivial (by decide +kernel) rfl rfl) rfl rfl hl.1 rfl (lv_room (Nat.le_of_ble_eq_true rfl)) dX11_as_30 ⟨Nat.le_of_ble_eq_true rfl, Nat.le_of_ble_eq_true rfl⟩) (fun H locs hP hS => cont_11 H locs hP hD hS)
      · exact gCallIr (isC := [7]) (wc := [(ta 1, .inr (0, []))]) hP hD hS hA ⟨rfl, trivial⟩ (va_runU (rm := rm_X0_isA_X0) (ws := wsX0_isA) (As := [.int a_2]) (rest := []) (gFix hF) (c_X0_isA_X0 l D c (ta 1) a_2 r_10 hc_9 H.size) (va_cwO 1 hts gX11_as_X0_isA_u170X0 rfl rfl rfl (List.mem_of_getElem? (i := 36) (rfl : wsX11_as[36]? = some (.code yX8_isA cX8_isA 2 (some .boolean)))) (by decide +kernel) ⟨Nat.le_of_ble_eq_true rfl, Nat.le_of_ble_eq_true rfl⟩) (gPreV (wc := [(ta 1, .inr (0, []))]) (q := (RX0, TX0, 0)) (ci := 0) (q0 := 7) (isC := [7]) hK hX hS hA hP hD ⟨rfl, trivial⟩ (by decide +kernel) rfl rfl) rfl rfl hl.1 rfl (lv_room (Nat.le_of_ble_eq_true rfl)) dX11_as_30 ⟨Nat.le_of_ble_eq_true rfl, Nat.le_of_ble_eq_true rfl⟩) (fun H locs hP hS => cont_11 H locs hP hD hS)
      · exact gCallIr (isC := [8]) (wc := [(ta 2, .inr (4, []))]) hP hD hS hA ⟨rfl, trivial⟩ (va_runU (rm := rm_X4_isA_X4) (ws := wsX4_isA) (As := [.int a_2]) (rest := []) (gFix hF) (c_X4_isA_X4 l D c (ta 2) a_2 r_10 hc_9 H.size) (va_cwO 1 hts gX11_as_X4_isA_u170X4 rfl rfl rfl (List.mem_of_getElem? (i := 36) (rfl : wsX11_as[36]? = some (.code yX8_isA cX8_isA 2 (some .boolean)))) (by decide +kernel) ⟨Nat.le_of_ble_eq_true rfl, Nat.le_of_ble_eq_true rfl⟩) (gPreV (wc := [(ta 2, .inr (4, []))]) (q := (RX4, TX4, 0)) (ci := 4) (q0 := 8) (isC := [8]) hK hX hS hA hP hD ⟨rfl, trivial⟩ (by decide +kernel) rfl rfl) rfl rfl hl.1 rfl (lv_room (Nat.le_of_ble_eq_true rfl)) dX11_as_30 ⟨Nat.le_of_ble_eq_true rfl, Nat.le_of_ble_eq_true rfl⟩) (fun H locs hP hS => cont_11 H locs hP hD hS)
      · exact gCallIr (isC := [9]) (wc := [(ta 3, .inr (5, []))]) hP hD hS hA ⟨rfl, trivial⟩ (va_runU (rm := rm_X5_isA_X5) (ws := wsX5_isA) (As := [.int a_2]) (rest := []) (gFix hF) (c_X5_isA_X5 l D c (ta 3) a_2 r_10 hc_9 H.size) (va_cwO 1 hts gX11_as_X5_isA_u170X5 rfl rfl rfl (List.mem_of_getElem? (i := 36) (rfl : wsX11_as[36]? = some (.code yX8_isA cX8_isA 2 (some .boolean)))) (by decide +kernel) ⟨Nat.le_of_ble_eq_true rfl, Nat.le_of_ble_eq_true rfl⟩) (gPreV (wc := [(ta 3, .inr (5, []))]) (q := (RX5, TX5, 0)) (ci := 5) (q0 := 9) (isC := [9]) hK hX hS hA hP hD ⟨rfl, trivial⟩ (by decide +kernel) rfl rfl) rfl rfl hl.1 rfl (lv_room (Nat.le_of_ble_eq_true rfl)) dX11_as_30 ⟨Nat.le_of_ble_eq_true rfl, Nat.le_of_ble_eq_true rfl⟩) (fun H locs hP hS => cont_11 H locs hP hD hS)
      · exact gCallIr (isC := [10]) (wc := [(ta 4, .inr (6, []))]) hP hD hS hA ⟨rfl, trivial⟩ (va_runU (rm := rm_X6_isA_X6) (ws := wsX6_isA) (As := [.int a_2]) (rest := []) (gFix hF) (c_X6_isA_X6 l D c (ta 4) a_2 r_10 hc_9 H.size) (va_cwO 1 hts gX11_as_X6_isA_u170X6 rfl rfl rfl (List.mem_of_getElem? (i := 36) (rfl : wsX11_as[36]? = some (.code yX8_isA cX8_isA 2 (some .boolean)))) (by decide +kernel) ⟨Nat.le_of_ble_eq_true rfl, Nat.le_of_ble_eq_true rfl⟩) (gPreV (wc := [(ta 4, .inr (6, []))]) (q := (RX6, TX6, 0)) (ci := 6) (q0 := 10) (isC := [10]) hK hX hS hA hP hD ⟨rfl, trivial⟩ (by decide +kernel) rfl rfl) rfl rfl hl.1 rfl (lv_room (Nat.le_of_ble_eq_true rfl)) dX11_as_30 ⟨Nat.le_of_ble_eq_true rfl, Nat.le_of_ble_eq_true rfl⟩) (fun H locs hP hS => cont_11 H locs hP hD hS)
      · exact gCallIr (isC := [11]) (wc := [(ta 5, .inr (2, []))]) hP hD hS hA ⟨rfl, trivial⟩ (va_runU (rm := rm_X2_isA_X2) (ws := wsX2_isA) (As := [.int a_2]) (rest := []) (gFix hF) (c_X2_isA_X2 l D c (ta 5) a_2 r_10 hc_9 H.size) (va_cwO 1 hts gX11_as_X2_isA_u170X2 rfl rfl rfl (List.mem_of_getElem? (i := 36) (rfl : wsX11_as[36]? = some (.code yX8_isA cX8_isA 2 (some .boolean)))) (by decide +kernel) ⟨Nat.le_of_ble_eq_true rfl, Nat.le_of_ble_eq_true rfl⟩) (gPreV (wc := [(ta 5, .inr (2, []))]) (q := (RX2, TX2, 0)) (ci := 2) (q0 := 11) (isC := [11]) hK hX hS hA hP hD ⟨rfl, trivial⟩ (by decide +kernel) rfl rfl) rfl rfl hl.1 rfl (lv_room (Nat.le_of_ble_eq_true rfl)) dX11_as_30 ⟨Nat.le_of_ble_eq_true rfl, Nat.le_of_ble_eq_true rfl⟩) (fun H locs hP hS => cont_11 H locs hP hD hS)
      · exact gCallIr (isC := [12]) (wc := [(ta 6, .inr (1, []))]) hP hD hS hA ⟨rfl, trivial⟩ (va_runU (rm := rm_X1_isA_X1) (ws := wsX1_isA) (As := [.int a_2]) (rest := []) (gFix hF) (c_X1_isA_X1 l D c (ta 6) a_2 r_10 hc_9 H.size) (va_cwO 1 hts gX11_as_X1_isA_u170X1 rfl rfl rfl (List.mem_of_getElem? (i := 36) (rfl : wsX11_as[36]? = some (.code yX8_isA cX8_isA 2 (some .boolean)))) (by decide +kernel) ⟨Nat.le_of_ble_eq_true rfl, Nat.le_of_ble_eq_true rfl⟩) (gPreV (wc := [(ta 6, .inr (1, []))]) (q := (RX1, TX1, 0)) (ci := 1) (q0 := 12) (isC := [12]) hK hX hS hA hP hD ⟨rfl, trivial⟩ (by decide +kernel) rfl rfl) rfl rfl hl.1 rfl (lv_room (Nat.le_of_ble_eq_true rfl)) dX11_as_30 ⟨Nat.le_of_ble_eq_true rfl, Nat.le_of_ble_eq_true rfl⟩) (fun H locs hP hS => cont_11 H locs hP hD hS)
    · replace h := it_t c_6 h
      exact t_L18 v_errors H locs hP hD hS ls (lv_sub hl [0] rfl) h
set_option maxRecDepth 20000 in
theorem in_X11_become_X11 : ∀ w ∈ u_ws RX11 TX11 11, w ∈ wsX11_become := by decide +kernel
set_option maxRecDepth 20000 in
theorem in_X11_become_X7 : ∀ w ∈ u_ws RX7 TX7 11, w ∈ wsX11_become := by decide +kernel
abbrev rm_X11_become : Room := { frames := 2, cells := 0, slots := 0, locals := 43 }
set_option maxHeartbeats 4000000 in
set_option maxRecDepth 100000 in
theorem c_X11_become (l : Launch) (D : va_G) (c : Nat → ClassId) (q_this q_now q_kept q_kinds q_voice q_thought q_further q_errors q_sheetBits q_sheetLength q_numbers q_now_wall q_now_kind q_now_m q_now_tape q_now_moved q_now_seen q_now_told : Nat) (a_1 : Int32) (a_2 : Int32) (v_images : Int32) (v_errors : Nat → Int32) (v_now_tools : Int32) (v_now_tapeLength : Int32) (v_now_z : Int32) (v_now_waiting : Int32) (v_now_kind : Nat → Int32) (v_now_m : Nat → Int32) (o_r : Int32) (o_v_errors : Nat → Int32) (o_v_now_kind : Nat → Int32) (o_v_now_m : Nat → Int32) (h : f_X11_become a_1 a_2 v_errors v_now_tools v_now_kind v_now_m = some (o_r, o_v_errors, o_v_now_kind, o_v_now_m)) : gMI l yX11_become wsX11_become rm_X11_become D c [.ref q_this, .int a_1, .int a_2] [(q_this, .inr (11, [.ref q_now, .ref q_kept, .int v_images, .ref q_kinds, .ref q_voice, .ref q_thought, .ref q_further, .ref q_errors, .ref q_sheetBits, .ref q_sheetLength, .ref q_numbers])), (q_errors, .inl (c 0, 6, .inl v_errors)), (q_now, .inr (7, [.ref q_now_wall, .int v_now_tools, .ref q_now_kind, .ref q_now_m, .ref q_now_tape, .int v_now_tapeLength, .ref q_now_moved, .ref q_now_seen, .int v_now_z, .ref q_now_told, .int v_now_waiting])), (q_now_kind, .inl (c 0, 6, .inl v_now_kind)), (q_now_m, .inl (c 0, 6, .inl v_now_m))] [(q_this, .inr (11, [.ref q_now, .ref q_kept, .int v_images, .ref q_kinds, .ref q_voice, .ref q_thought, .ref q_further, .ref q_errors, .ref q_sheetBits, .ref q_sheetLength, .ref q_numbers])), (q_errors, .inl (c 0, 6, .inl o_v_errors)), (q_now, .inr (7, [.ref q_now_wall, .int v_now_tools, .ref q_now_kind, .ref q_now_m, .ref q_now_tape, .int v_now_tapeLength, .ref q_now_moved, .ref q_now_seen, .int v_now_z, .ref q_now_told, .int v_now_waiting])), (q_now_kind, .inl (c 0, 6, .inl o_v_now_kind)), (q_now_m, .inl (c 0, 6, .inl o_v_now_m))] o_r := by
  refine gMI_of (cc := cX11_become) (maxL := 4) (rt := (some .int)) (by decide +kernel) rfl (Nat.le_of_ble_eq_true rfl) ?_
  intro p e s m below meth co A hF hK hX hP hD hA hS ls hl
  obtain ⟨hx, hb, hr, hts, hown, hlocks, hml⟩ := id hF
  have hl : lv_has ls 4 [(0, .ref q_this), (1, .int a_1), (2, .int a_2)] := hl
  have t_L18 : ∀ (v_errors : Nat → Int32) (v_now_kind : Nat → Int32) (v_now_m : Nat → Int32) (H : Heap) (locs : List Loc), va_P D gcl [(q_this, .inr (11, [.ref q_now, .ref q_kept, .int v_images, .ref q_kinds, .ref q_voice, .ref q_thought, .ref q_further, .ref q_errors, .ref q_sheetBits, .ref q_sheetLength, .ref q_numbers])), (q_errors, .inl (c 0, 6, .inl v_errors)), (q_now, .inr (7, [.ref q_now_wall, .int v_now_tools, .ref q_now_kind, .ref q_now_m, .ref q_now_tape, .int v_now_tapeLength, .ref q_now_moved, .ref q_now_seen, .int v_now_z, .ref q_now_told, .int v_now_waiting])), (q_now_kind, .inl (c 0, 6, .inl v_now_kind)), (q_now_m, .inl (c 0, 6, .inl v_now_m))] H → va_D A [(q_this, .inr (11, [.ref q_now, .ref q_kept, .int v_images, .ref q_kinds, .ref q_voice, .ref q_thought, .ref q_further, .ref q_errors, .ref q_sheetBits, .ref q_sheetLength, .ref q_numbers])), (q_errors, .inl (c 0, 6, .inl v_errors)), (q_now, .inr (7, [.ref q_now_wall, .int v_now_tools, .ref q_now_kind, .ref q_now_m, .ref q_now_tape, .int v_now_tapeLength, .ref q_now_moved, .ref q_now_seen, .int v_now_z, .ref q_now_told, .int v_now_waiting])), (q_now_kind, .inl (c 0, 6, .inl v_now_kind)), (q_now_m, .inl (c 0, 6, .inl v_now_m))] → va_S A s.heap H locs → ∀ ls, lv_has ls 4 [(0, .ref q_this)] → f_X11_become_L18 v_errors v_now_kind v_now_m = some (o_r, o_v_errors, o_v_now_kind, o_v_now_m) → W p l e (headSpec wsX11_become rm_X11_become).room s m [.ref q_this, .int a_1, .int a_2].toArray below meth co H locs 0 0 (gQI D [(q_this, .inr (11, [.ref q_now, .ref q_kept, .int v_images, .ref q_kinds, .ref q_voice, .ref q_thought, .ref q_further, .ref q_errors, .ref q_sheetBits, .ref q_sheetLength, .ref q_numbers])), (q_errors, .inl (c 0, 6, .inl o_v_errors)), (q_now, .inr (7, [.ref q_now_wall, .int v_now_tools, .ref q_now_kind, .ref q_now_m, .ref q_now_tape, .int v_now_tapeLength, .ref q_now_moved, .ref q_now_seen, .int v_now_z, .ref q_now_told, .int v_now_waiting])), (q_now_kind, .inl (c 0, 6, .inl o_v_now_kind)), (q_now_m, .inl (c 0, 6, .inl o_v_now_m))] o_r A below [.ref q_this, .int a_1, .int a_2] s) (F0 m 18 ls []) := by
    intro  v_errors v_now_kind v_now_m H locs hP hD hS ls hl h
    unfold f_X11_become_L18 at h
    refine lv_aload_n hx hb dX11_become_18 rfl (lv_at hl 0 rfl) ?_
    refine lv_iconst (v := 1) hx hb dX11_become_19 (by decide) ?_
    replace h := kb2_ok h
    obtain ⟨r_18, w_19, hc_17, h⟩ := h
    refine gCallI (isC := [0, 1]) (wc := [(q_this, .inr (11, [.ref q_now, .ref q_kept, .int v_images, .ref q_kinds, .ref q_voice, .ref q_thought, .ref q_further, .ref q_errors, .ref q_sheetBits, .ref q_sheetLength, .ref q_numbers])), (q_errors, .inl (c 0, 6, .inl v_errors))]) (w1 := [(q_this, .inr (11, [.ref q_now, .ref q_kept, .int v_images, .ref q_kinds, .ref q_voice, .ref q_thought, .ref q_further, .ref q_errors, .ref q_sheetBits, .ref q_sheetLength, .ref q_numbers])), (q_errors, .inl (c 0, 6, .inl w_19))]) (ws2 := [(q_this, .inr (11, [.ref q_now, .ref q_kept, .int v_images, .ref q_kinds, .ref q_voice, .ref q_thought, .ref q_further, .ref q_errors, .ref q_sheetBits, .ref q_sheetLength, .ref q_numbers])), (q_errors, .inl (c 0, 6, .inl w_19)), (q_now, .inr (7, [.ref q_now_wall, .int v_now_tools, .ref q_now_kind, .ref q_now_m, .ref q_now_tape, .int v_now_tapeLength, .ref q_now_moved, .ref q_now_seen, .int v_now_z, .ref q_now_told, .int v_now_waiting])), (q_now_kind, .inl (c 0, 6, .inl v_now_kind)), (q_now_m, .inl (c 0, 6, .inl v_now_m))]) (ms := [(some 0), (some 1), none, none, none]) hP hD hS hA ⟨rfl, rfl, trivial⟩ (by decide +kernel) ⟨rfl, rfl, rfl, rfl, rfl, trivial⟩ (va_runV (rm := rm_X11_error) (ws := wsX11_error) (As := [.int 1]) (rest := []) (gFix hF) (c_X11_error l D c q_this q_now q_kept q_kinds q_voice q_thought q_further q_errors q_sheetBits q_sheetLength q_numbers 1 v_images v_errors r_18 w_19 hc_17 H.size) (cwV 1 hts gX11_become_X11_error rfl rfl rfl (by decide +kernel) ⟨Nat.le_of_ble_eq_true rfl, Nat.le_of_ble_eq_true rfl⟩) (gPreV (wc := [(q_this, .inr (11, [.ref q_now, .ref q_kept, .int v_images, .ref q_kinds, .ref q_voice, .ref q_thought, .ref q_further, .ref q_errors, .ref q_sheetBits, .ref q_sheetLength, .ref q_numbers])), (q_errors, .inl (c 0, 6, .inl v_errors))]) (q := (RX11, TX11, 11)) (ci := 11) (q0 := 0) (isC := [0, 1]) hK hX hS hA hP hD ⟨rfl, rfl, trivial⟩ (by decide +kernel) rfl rfl) rfl rfl hl.1 rfl (lv_room (Nat.le_of_ble_eq_true rfl)) dX11_become_20 ⟨Nat.le_of_ble_eq_true rfl, Nat.le_of_ble_eq_true rfl⟩) (fun H locs hP hD hS => ?_)
    replace h := so4 h
    obtain ⟨z0, z1, z2, z3⟩ := h
    subst z0 z1 z2 z3
    exact gIret hF hP hD hS rfl dX11_become_23
  unfold f_X11_become at h
  refine lv_aload_n hx hb dX11_become_0 rfl (lv_at hl 0 rfl) ?_
  refine lv_iload_n hx hb dX11_become_1 rfl (lv_at hl 1 rfl) ?_
  replace h := kb_ok h
  obtain ⟨r_2, hc_1, h⟩ := h
  refine gCallIr (isC := [0, 2]) (wc := [(q_this, .inr (11, [.ref q_now, .ref q_kept, .int v_images, .ref q_kinds, .ref q_voice, .ref q_thought, .ref q_further, .ref q_errors, .ref q_sheetBits, .ref q_sheetLength, .ref q_numbers])), (q_now, .inr (7, [.ref q_now_wall, .int v_now_tools, .ref q_now_kind, .ref q_now_m, .ref q_now_tape, .int v_now_tapeLength, .ref q_now_moved, .ref q_now_seen, .int v_now_z, .ref q_now_told, .int v_now_waiting]))]) hP hD hS hA ⟨rfl, rfl, trivial⟩ (va_runV (rm := rm_X11_isTool) (ws := wsX11_isTool) (As := [.int a_1]) (rest := []) (gFix hF) (c_X11_isTool l D c q_this q_now q_kept q_kinds q_voice q_thought q_further q_errors q_sheetBits q_sheetLength q_numbers q_now_wall q_now_kind q_now_m q_now_tape q_now_moved q_now_seen q_now_told a_1 v_images v_now_tools v_now_tapeLength v_now_z v_now_waiting r_2 hc_1 s.heap.size) (cwV 1 hts gX11_become_X11_isTool rfl rfl rfl (by decide +kernel) ⟨Nat.le_of_ble_eq_true rfl, Nat.le_of_ble_eq_true rfl⟩) (gPreV (wc := [(q_this, .inr (11, [.ref q_now, .ref q_kept, .int v_images, .ref q_kinds, .ref q_voice, .ref q_thought, .ref q_further, .ref q_errors, .ref q_sheetBits, .ref q_sheetLength, .ref q_numbers])), (q_now, .inr (7, [.ref q_now_wall, .int v_now_tools, .ref q_now_kind, .ref q_now_m, .ref q_now_tape, .int v_now_tapeLength, .ref q_now_moved, .ref q_now_seen, .int v_now_z, .ref q_now_told, .int v_now_waiting]))]) (q := (RX11, TX11, 11)) (ci := 11) (q0 := 0) (isC := [0, 2]) hK hX hS hA hP hD ⟨rfl, rfl, trivial⟩ (by decide +kernel) rfl rfl) rfl rfl hl.1 rfl (lv_room (Nat.le_of_ble_eq_true rfl)) dX11_become_2 ⟨Nat.le_of_ble_eq_true rfl, Nat.le_of_ble_eq_true rfl⟩) (fun H locs hP hS => ?_)
  refine lv_if_eq (tgt := 18) hx hb dX11_become_5 (by decide) (fun c_3 => ?_) (fun c_3 => ?_)
  · replace h := it_t c_3 h
    exact t_L18 v_errors v_now_kind v_now_m H locs hP hD hS ls (lv_sub hl [0] rfl) h
  · replace h := it_f c_3 h
    refine lv_iload_n hx hb dX11_become_8 rfl (lv_at hl 2 rfl) ?_
    refine lv_iconst (v := 0) hx hb dX11_become_9 (by decide) ?_
    refine lv_bipush (v := 69) hx hb dX11_become_10 (by decide) ?_
    replace h := kb_ok h
    obtain ⟨r_5, hc_4, h⟩ := h
    refine gCallIr (isC := []) (wc := []) hP hD hS hA trivial (va_runS (rm := rm_X11_within) (ws := wsX11_within) (As := [.int a_2, .int 0, .int 69]) (rest := []) (gFix hF) (c_X11_within l D c a_2 0 69 r_5 hc_4 H.size) (va_cwS 3 hts gX11_become_X11_within rfl rfl rfl (by decide +kernel) ⟨Nat.le_of_ble_eq_true rfl, Nat.le_of_ble_eq_true rfl⟩) (gPreS (wc := []) (isC := []) hK hX hS hA hP hD trivial (by decide +kernel)) rfl rfl hl.1 rfl (lv_room (Nat.le_of_ble_eq_true rfl)) dX11_become_12 ⟨Nat.le_of_ble_eq_true rfl, Nat.le_of_ble_eq_true rfl⟩) (fun H locs hP hS => ?_)
    refine lv_if_ne (tgt := 24) hx hb dX11_become_15 (by decide) (fun c_6 => ?_) (fun c_6 => ?_)
    · replace h := it_f c_6 h
      refine lv_aload_n hx hb dX11_become_24 rfl (lv_at hl 0 rfl) ?_
      refine va_get (D := D) (ci := 11) (v := .ref q_now) (C := RX11) (T := TX11) (N := 11) hx hb hts in_X11_become_X11 hown hK.1 hP 0 rfl rfl 0 (by decide) (hts (.fieldLink RX11 14 "PaperBubbles" "now" "LPaperBubbles$State;") (List.mem_of_getElem? (i := 1) rfl)) (fun _ h9 => h9) rfl dX11_become_25 ?_
      refine va_getN (D := D) (ci := 7) (v := .ref q_now_kind) (C := RX7) (T := TX7) (N := 11) hx hb hts in_X11_become_X7 hown hK.1 hP 2 rfl rfl 2 (by decide) (va_Nw.use rfl (hK.2 (.fieldLinkNest "PaperBubbles" 136 "PaperBubbles$State" "kind" "[I" "PaperBubbles") (List.mem_of_getElem? (i := 5) rfl))) (fun _ h9 => h9) rfl dX11_become_28 ?_
      refine lv_iload_n hx hb dX11_become_31 rfl (lv_at hl 1 rfl) ?_
      replace h := chi_ok h
      obtain ⟨hi_7, h⟩ := h
      refine va_iald hx hb hK.1 hP 3 0 rfl rfl hi_7 dX11_become_32 ?_
      replace h := nm_ok h
      obtain ⟨t_8, et_8, h⟩ := h
      refine gTop et_8 ?_
      refine lv_istore_n (lv' := [(3, .int t_8), (0, .ref q_this), (1, .int a_1), (2, .int a_2)]) hx hb dX11_become_33 rfl hl (by decide) rfl (fun ls hl => ?_)
      refine lv_aload_n hx hb dX11_become_34 rfl (lv_at hl 1 rfl) ?_
      refine va_get (D := D) (ci := 11) (v := .ref q_now) (C := RX11) (T := TX11) (N := 11) hx hb hts in_X11_become_X11 hown hK.1 hP 0 rfl rfl 0 (by decide) (hts (.fieldLink RX11 14 "PaperBubbles" "now" "LPaperBubbles$State;") (List.mem_of_getElem? (i := 1) rfl)) (fun _ h9 => h9) rfl dX11_become_35 ?_
      refine va_getN (D := D) (ci := 7) (v := .ref q_now_kind) (C := RX7) (T := TX7) (N := 11) hx hb hts in_X11_become_X7 hown hK.1 hP 2 rfl rfl 2 (by decide) (va_Nw.use rfl (hK.2 (.fieldLinkNest "PaperBubbles" 136 "PaperBubbles$State" "kind" "[I" "PaperBubbles") (List.mem_of_getElem? (i := 5) rfl))) (fun _ h9 => h9) rfl dX11_become_38 ?_
      refine lv_iload_n hx hb dX11_become_41 rfl (lv_at hl 2 rfl) ?_
      refine lv_iload_n hx hb dX11_become_42 rfl (lv_at hl 3 rfl) ?_
      refine lv_bipush (v := 10) hx hb dX11_become_43 (by decide) ?_
      replace h := chz_ok h
      obtain ⟨hz_9, h⟩ := h
      refine lv_idiv hx hb dX11_become_45 hz_9 ?_
      replace h := nm_ok h
      obtain ⟨t_10, et_10, h⟩ := h
      refine gTop et_10 ?_
      replace h := chi_ok h
      obtain ⟨hi_11, h⟩ := h
      replace h := nm_ok h
      obtain ⟨w_12, ew_12, h⟩ := h
      refine va_iast hx hb hK.1 hP hD hS 3 0 rfl rfl hi_11 dX11_become_46 (fun H locs hP hD hS => ?_)
      have hP : va_P D gcl [(q_this, .inr (11, [.ref q_now, .ref q_kept, .int v_images, .ref q_kinds, .ref q_voice, .ref q_thought, .ref q_further, .ref q_errors, .ref q_sheetBits, .ref q_sheetLength, .ref q_numbers])), (q_errors, .inl (c 0, 6, .inl v_errors)), (q_now, .inr (7, [.ref q_now_wall, .int v_now_tools, .ref q_now_kind, .ref q_now_m, .ref q_now_tape, .int v_now_tapeLength, .ref q_now_moved, .ref q_now_seen, .int v_now_z, .ref q_now_told, .int v_now_waiting])), (q_now_kind, .inl (c 0, 6, .inl w_12)), (q_now_m, .inl (c 0, 6, .inl v_now_m))] H := by subst ew_12; exact hP
      have hD : va_D A [(q_this, .inr (11, [.ref q_now, .ref q_kept, .int v_images, .ref q_kinds, .ref q_voice, .ref q_thought, .ref q_further, .ref q_errors, .ref q_sheetBits, .ref q_sheetLength, .ref q_numbers])), (q_errors, .inl (c 0, 6, .inl v_errors)), (q_now, .inr (7, [.ref q_now_wall, .int v_now_tools, .ref q_now_kind, .ref q_now_m, .ref q_now_tape, .int v_now_tapeLength, .ref q_now_moved, .ref q_now_seen, .int v_now_z, .ref q_now_told, .int v_now_waiting])), (q_now_kind, .inl (c 0, 6, .inl w_12)), (q_now_m, .inl (c 0, 6, .inl v_now_m))] := by subst ew_12; exact hD
      refine lv_aload_n hx hb dX11_become_47 rfl (lv_at hl 1 rfl) ?_
      refine va_get (D := D) (ci := 11) (v := .ref q_now) (C := RX11) (T := TX11) (N := 11) hx hb hts in_X11_become_X11 hown hK.1 hP 0 rfl rfl 0 (by decide) (hts (.fieldLink RX11 14 "PaperBubbles" "now" "LPaperBubbles$State;") (List.mem_of_getElem? (i := 1) rfl)) (fun _ h9 => h9) rfl dX11_become_48 ?_
      refine va_getN (D := D) (ci := 7) (v := .ref q_now_m) (C := RX7) (T := TX7) (N := 11) hx hb hts in_X11_become_X7 hown hK.1 hP 2 rfl rfl 3 (by decide) (va_Nw.use rfl (hK.2 (.fieldLinkNest "PaperBubbles" 139 "PaperBubbles$State" "m" "[I" "PaperBubbles") (List.mem_of_getElem? (i := 6) rfl))) (fun _ h9 => h9) rfl dX11_become_51 ?_
      refine lv_iload_n hx hb dX11_become_54 rfl (lv_at hl 2 rfl) ?_
      refine lv_iload_n hx hb dX11_become_55 rfl (lv_at hl 3 rfl) ?_
      refine lv_bipush (v := 10) hx hb dX11_become_56 (by decide) ?_
      replace h := chz_ok h
      obtain ⟨hz_13, h⟩ := h
      refine lv_irem hx hb dX11_become_58 hz_13 ?_
      replace h := nm_ok h
      obtain ⟨t_14, et_14, h⟩ := h
      refine gTop et_14 ?_
      replace h := chi_ok h
      obtain ⟨hi_15, h⟩ := h
      replace h := nm_ok h
      obtain ⟨w_16, ew_16, h⟩ := h
      refine va_iast hx hb hK.1 hP hD hS 4 0 rfl rfl hi_15 dX11_become_59 (fun H locs hP hD hS => ?_)
      have hP : va_P D gcl [(q_this, .inr (11, [.ref q_now, .ref q_kept, .int v_images, .ref q_kinds, .ref q_voice, .ref q_thought, .ref q_further, .ref q_errors, .ref q_sheetBits, .ref q_sheetLength, .ref q_numbers])), (q_errors, .inl (c 0, 6, .inl v_errors)), (q_now, .inr (7, [.ref q_now_wall, .int v_now_tools, .ref q_now_kind, .ref q_now_m, .ref q_now_tape, .int v_now_tapeLength, .ref q_now_moved, .ref q_now_seen, .int v_now_z, .ref q_now_told, .int v_now_waiting])), (q_now_kind, .inl (c 0, 6, .inl w_12)), (q_now_m, .inl (c 0, 6, .inl w_16))] H := by subst ew_16; exact hP
      have hD : va_D A [(q_this, .inr (11, [.ref q_now, .ref q_kept, .int v_images, .ref q_kinds, .ref q_voice, .ref q_thought, .ref q_further, .ref q_errors, .ref q_sheetBits, .ref q_sheetLength, .ref q_numbers])), (q_errors, .inl (c 0, 6, .inl v_errors)), (q_now, .inr (7, [.ref q_now_wall, .int v_now_tools, .ref q_now_kind, .ref q_now_m, .ref q_now_tape, .int v_now_tapeLength, .ref q_now_moved, .ref q_now_seen, .int v_now_z, .ref q_now_told, .int v_now_waiting])), (q_now_kind, .inl (c 0, 6, .inl w_12)), (q_now_m, .inl (c 0, 6, .inl w_16))] := by subst ew_16; exact hD
      refine lv_iload_n hx hb dX11_become_60 rfl (lv_at hl 0 rfl) ?_
      replace h := so4 h
      obtain ⟨z0, z1, z2, z3⟩ := h
      subst z0 z1 z2 z3
      exact gIret hF hP hD hS rfl dX11_become_61
    · replace h := it_t c_6 h
      exact t_L18 v_errors v_now_kind v_now_m H locs hP hD hS ls (lv_sub hl [0] rfl) h
set_option maxRecDepth 20000 in
theorem in_X11_bestFrom_X11 : ∀ w ∈ u_ws RX11 TX11 11, w ∈ wsX11_bestFrom := by decide +kernel
set_option maxRecDepth 20000 in
theorem in_X11_bestFrom_X7 : ∀ w ∈ u_ws RX7 TX7 11, w ∈ wsX11_bestFrom := by decide +kernel
abbrev rm_X11_bestFrom : Room := { frames := 5, cells := 0, slots := 0, locals := 130 }
set_option maxHeartbeats 4000000 in
set_option maxRecDepth 100000 in
theorem c_X11_bestFrom (l : Launch) (D : va_G) (c : Nat → ClassId) (q_this q_p1 q_now q_kept q_kinds q_voice q_thought q_further q_errors q_sheetBits q_sheetLength q_numbers q_further_air q_further_paste q_further_open q_further_met q_further_line q_now_wall q_now_kind q_now_m q_now_tape q_now_moved q_now_seen q_now_told q_now_moved_steps q_now_moved_stack q_now_moved_answers q_now_moved_draft q_now_moved_held q_now_seen_steps q_now_seen_stack q_now_seen_answers q_now_seen_draft q_now_seen_held q_p1_air q_p1_paste q_p1_open q_p1_met q_p1_line : Nat) (ta : Nat → Nat) (s_now_moved_names : Nat) (s_now_seen_names : Nat) (n_now_moved_answers : Nat) (n_now_seen_answers : Nat) (a_3 : Int32) (k_2 : Int32) (v_images : Int32) (v_further_rows : Int32) (v_further_columns : Int32) (v_further_holes : Int32) (v_further_out : Int32) (v_further_night : Int32) (v_further_inLine : Int32) (v_further_air : Nat → Int32) (v_further_open : Nat → Int32) (v_further_paste : Nat → Int32) (v_now_tools : Int32) (v_now_tapeLength : Int32) (v_now_z : Int32) (v_now_waiting : Int32) (v_now_moved_length : Int32) (v_now_moved_side : Int32) (v_now_moved_round : Int32) (v_now_moved_drafted : Int32) (v_now_moved_holding : Int32) (v_now_moved_open : Int32) (v_now_moved_digits : Int32) (v_now_moved_wantsOperand : Int32) (v_now_moved_answers : Nat → Int32) (v_now_moved_stack : Nat → Int32) (v_now_moved_steps : Nat → Int32) (v_now_seen_length : Int32) (v_now_seen_side : Int32) (v_now_seen_round : Int32) (v_now_seen_drafted : Int32) (v_now_seen_holding : Int32) (v_now_seen_open : Int32) (v_now_seen_digits : Int32) (v_now_seen_wantsOperand : Int32) (v_now_seen_answers : Nat → Int32) (v_now_seen_stack : Nat → Int32) (v_now_seen_steps : Nat → Int32) (v_p1_rows : Int32) (v_p1_columns : Int32) (v_p1_holes : Int32) (v_p1_out : Int32) (v_p1_night : Int32) (v_p1_inLine : Int32) (v_p1_air : Nat → Int32) (v_p1_open : Nat → Int32) (v_p1_paste : Nat → Int32) (o_r : Int32) (o_v_further_rows : Int32) (o_v_further_columns : Int32) (o_v_further_holes : Int32) (o_v_further_out : Int32) (o_v_further_night : Int32) (o_v_further_air : Nat → Int32) (o_v_further_open : Nat → Int32) (o_v_further_paste : Nat → Int32) (o_v_now_moved_answers : Nat → Int32) (o_v_now_moved_stack : Nat → Int32) (o_v_now_seen_answers : Nat → Int32) (o_v_now_seen_stack : Nat → Int32) (h : f_X11_bestFrom a_3 k_2 n_now_moved_answers n_now_seen_answers v_further_rows v_further_columns v_further_holes v_further_out v_further_night v_further_air v_further_open v_further_paste v_now_moved_length v_now_moved_side v_now_moved_round v_now_moved_answers v_now_moved_stack v_now_moved_steps v_now_seen_length v_now_seen_side v_now_seen_round v_now_seen_answers v_now_seen_stack v_now_seen_steps v_p1_rows v_p1_columns v_p1_holes v_p1_out v_p1_night v_p1_air v_p1_open v_p1_paste = some (o_r, o_v_further_rows, o_v_further_columns, o_v_further_holes, o_v_further_out, o_v_further_night, o_v_further_air, o_v_further_open, o_v_further_paste, o_v_now_moved_answers, o_v_now_moved_stack, o_v_now_seen_answers, o_v_now_seen_stack)) : gMI l yX11_bestFrom wsX11_bestFrom rm_X11_bestFrom D c [.ref q_this, .ref q_p1, .ref (ta k_2.toNatClampNeg), .int a_3] [(q_this, .inr (11, [.ref q_now, .ref q_kept, .int v_images, .ref q_kinds, .ref q_voice, .ref q_thought, .ref q_further, .ref q_errors, .ref q_sheetBits, .ref q_sheetLength, .ref q_numbers])), (q_further, .inr (10, [.int v_further_rows, .int v_further_columns, .ref q_further_air, .ref q_further_paste, .ref q_further_open, .int v_further_holes, .int v_further_out, .int v_further_night, .ref q_further_met, .ref q_further_line, .int v_further_inLine])), (q_further_air, .inl (c 0, 25, .inl v_further_air)), (q_further_open, .inl (c 0, 4, .inl v_further_open)), (q_further_paste, .inl (c 0, 25, .inl v_further_paste)), (q_now, .inr (7, [.ref q_now_wall, .int v_now_tools, .ref q_now_kind, .ref q_now_m, .ref q_now_tape, .int v_now_tapeLength, .ref q_now_moved, .ref q_now_seen, .int v_now_z, .ref q_now_told, .int v_now_waiting])), (q_now_moved, .inr (3, [.ref (c (10 + s_now_moved_names)), .ref q_now_moved_steps, .int v_now_moved_length, .ref q_now_moved_stack, .ref q_now_moved_answers, .int v_now_moved_side, .int v_now_moved_round, .ref q_now_moved_draft, .int v_now_moved_drafted, .ref q_now_moved_held, .int v_now_moved_holding, .int v_now_moved_open, .int v_now_moved_digits, .int v_now_moved_wantsOperand])), (q_now_moved_answers, .inl (c 0, n_now_moved_answers, .inl v_now_moved_answers)), (q_now_moved_stack, .inl (c 0, 50, .inl v_now_moved_stack)), (q_now_moved_steps, .inl (c 0, 50, .inl v_now_moved_steps)), (q_now_seen, .inr (3, [.ref (c (10 + s_now_seen_names)), .ref q_now_seen_steps, .int v_now_seen_length, .ref q_now_seen_stack, .ref q_now_seen_answers, .int v_now_seen_side, .int v_now_seen_round, .ref q_now_seen_draft, .int v_now_seen_drafted, .ref q_now_seen_held, .int v_now_seen_holding, .int v_now_seen_open, .int v_now_seen_digits, .int v_now_seen_wantsOperand])), (q_now_seen_answers, .inl (c 0, n_now_seen_answers, .inl v_now_seen_answers)), (q_now_seen_stack, .inl (c 0, 50, .inl v_now_seen_stack)), (q_now_seen_steps, .inl (c 0, 50, .inl v_now_seen_steps)), (q_p1, .inr (10, [.int v_p1_rows, .int v_p1_columns, .ref q_p1_air, .ref q_p1_paste, .ref q_p1_open, .int v_p1_holes, .int v_p1_out, .int v_p1_night, .ref q_p1_met, .ref q_p1_line, .int v_p1_inLine])), (q_p1_air, .inl (c 0, 25, .inl v_p1_air)), (q_p1_open, .inl (c 0, 4, .inl v_p1_open)), (q_p1_paste, .inl (c 0, 25, .inl v_p1_paste)), (ta 0, .inr (8, [])), (ta 1, .inr (0, [])), (ta 2, .inr (4, [])), (ta 3, .inr (5, [])), (ta 4, .inr (6, [])), (ta 5, .inr (2, [])), (ta 6, .inr (1, []))] [(q_this, .inr (11, [.ref q_now, .ref q_kept, .int v_images, .ref q_kinds, .ref q_voice, .ref q_thought, .ref q_further, .ref q_errors, .ref q_sheetBits, .ref q_sheetLength, .ref q_numbers])), (q_further, .inr (10, [.int o_v_further_rows, .int o_v_further_columns, .ref q_further_air, .ref q_further_paste, .ref q_further_open, .int o_v_further_holes, .int o_v_further_out, .int o_v_further_night, .ref q_further_met, .ref q_further_line, .int v_further_inLine])), (q_further_air, .inl (c 0, 25, .inl o_v_further_air)), (q_further_open, .inl (c 0, 4, .inl o_v_further_open)), (q_further_paste, .inl (c 0, 25, .inl o_v_further_paste)), (q_now, .inr (7, [.ref q_now_wall, .int v_now_tools, .ref q_now_kind, .ref q_now_m, .ref q_now_tape, .int v_now_tapeLength, .ref q_now_moved, .ref q_now_seen, .int v_now_z, .ref q_now_told, .int v_now_waiting])), (q_now_moved, .inr (3, [.ref (c (10 + s_now_moved_names)), .ref q_now_moved_steps, .int v_now_moved_length, .ref q_now_moved_stack, .ref q_now_moved_answers, .int v_now_moved_side, .int v_now_moved_round, .ref q_now_moved_draft, .int v_now_moved_drafted, .ref q_now_moved_held, .int v_now_moved_holding, .int v_now_moved_open, .int v_now_moved_digits, .int v_now_moved_wantsOperand])), (q_now_moved_answers, .inl (c 0, n_now_moved_answers, .inl o_v_now_moved_answers)), (q_now_moved_stack, .inl (c 0, 50, .inl o_v_now_moved_stack)), (q_now_moved_steps, .inl (c 0, 50, .inl v_now_moved_steps)), (q_now_seen, .inr (3, [.ref (c (10 + s_now_seen_names)), .ref q_now_seen_steps, .int v_now_seen_length, .ref q_now_seen_stack, .ref q_now_seen_answers, .int v_now_seen_side, .int v_now_seen_round, .ref q_now_seen_draft, .int v_now_seen_drafted, .ref q_now_seen_held, .int v_now_seen_holding, .int v_now_seen_open, .int v_now_seen_digits, .int v_now_seen_wantsOperand])), (q_now_seen_answers, .inl (c 0, n_now_seen_answers, .inl o_v_now_seen_answers)), (q_now_seen_stack, .inl (c 0, 50, .inl o_v_now_seen_stack)), (q_now_seen_steps, .inl (c 0, 50, .inl v_now_seen_steps)), (q_p1, .inr (10, [.int v_p1_rows, .int v_p1_columns, .ref q_p1_air, .ref q_p1_paste, .ref q_p1_open, .int v_p1_holes, .int v_p1_out, .int v_p1_night, .ref q_p1_met, .ref q_p1_line, .int v_p1_inLine])), (q_p1_air, .inl (c 0, 25, .inl v_p1_air)), (q_p1_open, .inl (c 0, 4, .inl v_p1_open)), (q_p1_paste, .inl (c 0, 25, .inl v_p1_paste)), (ta 0, .inr (8, [])), (ta 1, .inr (0, [])), (ta 2, .inr (4, [])), (ta 3, .inr (5, [])), (ta 4, .inr (6, [])), (ta 5, .inr (2, [])), (ta 6, .inr (1, []))] o_r := by
  refine gMI_of (cc := cX11_bestFrom) (maxL := 8) (rt := (some .int)) (by decide +kernel) rfl (Nat.le_of_ble_eq_true rfl) ?_
  intro p e s m below meth co A hF hK hX hP hD hA hS ls hl
  obtain ⟨hx, hb, hr, hts, hown, hlocks, hml⟩ := id hF
  have hl : lv_has ls 8 [(0, .ref q_this), (1, .ref q_p1), (2, .ref (ta k_2.toNatClampNeg)), (3, .int a_3)] := hl
  have t_L31 : ∀ (kk_L21 : Int32 → Int32 → Int32 → Int32 → Int32 → Int32 → Int32 → Int32 → (Nat → Int32) → (Nat → Int32) → (Nat → Int32) → (Nat → Int32) → (Nat → Int32) → (Nat → Int32) → (Nat → Int32) → Option (Int32 × Int32 × Int32 × Int32 × Int32 × Int32 × (Nat → Int32) × (Nat → Int32) × (Nat → Int32) × (Nat → Int32) × (Nat → Int32) × (Nat → Int32) × (Nat → Int32))), (∀ (x4 : Int32) (x5 : Int32) (x6 : Int32) (v_further_rows : Int32) (v_further_columns : Int32) (v_further_holes : Int32) (v_further_out : Int32) (v_further_night : Int32) (v_further_air : Nat → Int32) (v_further_open : Nat → Int32) (v_further_paste : Nat → Int32) (v_now_moved_answers : Nat → Int32) (v_now_moved_stack : Nat → Int32) (v_now_seen_answers : Nat → Int32) (v_now_seen_stack : Nat → Int32) (H : Heap) (locs : List Loc), va_P D gcl [(q_this, .inr (11, [.ref q_now, .ref q_kept, .int v_images, .ref q_kinds, .ref q_voice, .ref q_thought, .ref q_further, .ref q_errors, .ref q_sheetBits, .ref q_sheetLength, .ref q_numbers])), (q_further, .inr (10, [.int v_further_rows, .int v_further_columns, .ref q_further_air, .ref q_further_paste, .ref q_further_open, .int v_further_holes, .int v_further_out, .int v_further_night, .ref q_further_met, .ref q_further_line, .int v_further_inLine])), (q_further_air, .inl (c 0, 25, .inl v_further_air)), (q_further_open, .inl (c 0, 4, .inl v_further_open)), (q_further_paste, .inl (c 0, 25, .inl v_further_paste)), (q_now, .inr (7, [.ref q_now_wall, .int v_now_tools, .ref q_now_kind, .ref q_now_m, .ref q_now_tape, .int v_now_tapeLength, .ref q_now_moved, .ref q_now_seen, .int v_now_z, .ref q_now_told, .int v_now_waiting])), (q_now_moved, .inr (3, [.ref (c (10 + s_now_moved_names)), .ref q_now_moved_steps, .int v_now_moved_length, .ref q_now_moved_stack, .ref q_now_moved_answers, .int v_now_moved_side, .int v_now_moved_round, .ref q_now_moved_draft, .int v_now_moved_drafted, .ref q_now_moved_held, .int v_now_moved_holding, .int v_now_moved_open, .int v_now_moved_digits, .int v_now_moved_wantsOperand])), (q_now_moved_answers, .inl (c 0, n_now_moved_answers, .inl v_now_moved_answers)), (q_now_moved_stack, .inl (c 0, 50, .inl v_now_moved_stack)), (q_now_moved_steps, .inl (c 0, 50, .inl v_now_moved_steps)), (q_now_seen, .inr (3, [.ref (c (10 + s_now_seen_names)), .ref q_now_seen_steps, .int v_now_seen_length, .ref q_now_seen_stack, .ref q_now_seen_answers, .int v_now_seen_side, .int v_now_seen_round, .ref q_now_seen_draft, .int v_now_seen_drafted, .ref q_now_seen_held, .int v_now_seen_holding, .int v_now_seen_open, .int v_now_seen_digits, .int v_now_seen_wantsOperand])), (q_now_seen_answers, .inl (c 0, n_now_seen_answers, .inl v_now_seen_answers)), (q_now_seen_stack, .inl (c 0, 50, .inl v_now_seen_stack)), (q_now_seen_steps, .inl (c 0, 50, .inl v_now_seen_steps)), (q_p1, .inr (10, [.int v_p1_rows, .int v_p1_columns, .ref q_p1_air, .ref q_p1_paste, .ref q_p1_open, .int v_p1_holes, .int v_p1_out, .int v_p1_night, .ref q_p1_met, .ref q_p1_line, .int v_p1_inLine])), (q_p1_air, .inl (c 0, 25, .inl v_p1_air)), (q_p1_open, .inl (c 0, 4, .inl v_p1_open)), (q_p1_paste, .inl (c 0, 25, .inl v_p1_paste)), (ta 0, .inr (8, [])), (ta 1, .inr (0, [])), (ta 2, .inr (4, [])), (ta 3, .inr (5, [])), (ta 4, .inr (6, [])), (ta 5, .inr (2, [])), (ta 6, .inr (1, []))] H → va_D A [(q_this, .inr (11, [.ref q_now, .ref q_kept, .int v_images, .ref q_kinds, .ref q_voice, .ref q_thought, .ref q_further, .ref q_errors, .ref q_sheetBits, .ref q_sheetLength, .ref q_numbers])), (q_further, .inr (10, [.int v_further_rows, .int v_further_columns, .ref q_further_air, .ref q_further_paste, .ref q_further_open, .int v_further_holes, .int v_further_out, .int v_further_night, .ref q_further_met, .ref q_further_line, .int v_further_inLine])), (q_further_air, .inl (c 0, 25, .inl v_further_air)), (q_further_open, .inl (c 0, 4, .inl v_further_open)), (q_further_paste, .inl (c 0, 25, .inl v_further_paste)), (q_now, .inr (7, [.ref q_now_wall, .int v_now_tools, .ref q_now_kind, .ref q_now_m, .ref q_now_tape, .int v_now_tapeLength, .ref q_now_moved, .ref q_now_seen, .int v_now_z, .ref q_now_told, .int v_now_waiting])), (q_now_moved, .inr (3, [.ref (c (10 + s_now_moved_names)), .ref q_now_moved_steps, .int v_now_moved_length, .ref q_now_moved_stack, .ref q_now_moved_answers, .int v_now_moved_side, .int v_now_moved_round, .ref q_now_moved_draft, .int v_now_moved_drafted, .ref q_now_moved_held, .int v_now_moved_holding, .int v_now_moved_open, .int v_now_moved_digits, .int v_now_moved_wantsOperand])), (q_now_moved_answers, .inl (c 0, n_now_moved_answers, .inl v_now_moved_answers)), (q_now_moved_stack, .inl (c 0, 50, .inl v_now_moved_stack)), (q_now_moved_steps, .inl (c 0, 50, .inl v_now_moved_steps)), (q_now_seen, .inr (3, [.ref (c (10 + s_now_seen_names)), .ref q_now_seen_steps, .int v_now_seen_length, .ref q_now_seen_stack, .ref q_now_seen_answers, .int v_now_seen_side, .int v_now_seen_round, .ref q_now_seen_draft, .int v_now_seen_drafted, .ref q_now_seen_held, .int v_now_seen_holding, .int v_now_seen_open, .int v_now_seen_digits, .int v_now_seen_wantsOperand])), (q_now_seen_answers, .inl (c 0, n_now_seen_answers, .inl v_now_seen_answers)), (q_now_seen_stack, .inl (c 0, 50, .inl v_now_seen_stack)), (q_now_seen_steps, .inl (c 0, 50, .inl v_now_seen_steps)), (q_p1, .inr (10, [.int v_p1_rows, .int v_p1_columns, .ref q_p1_air, .ref q_p1_paste, .ref q_p1_open, .int v_p1_holes, .int v_p1_out, .int v_p1_night, .ref q_p1_met, .ref q_p1_line, .int v_p1_inLine])), (q_p1_air, .inl (c 0, 25, .inl v_p1_air)), (q_p1_open, .inl (c 0, 4, .inl v_p1_open)), (q_p1_paste, .inl (c 0, 25, .inl v_p1_paste)), (ta 0, .inr (8, [])), (ta 1, .inr (0, [])), (ta 2, .inr (4, [])), (ta 3, .inr (5, [])), (ta 4, .inr (6, [])), (ta 5, .inr (2, [])), (ta 6, .inr (1, []))] → va_S A s.heap H locs → ∀ ls, lv_has ls 8 [(0, .ref q_this), (1, .ref q_p1), (2, .ref (ta k_2.toNatClampNeg)), (3, .int a_3), (4, .int x4), (5, .int x5), (6, .int x6)] → kk_L21 x4 x5 x6 v_further_rows v_further_columns v_further_holes v_further_out v_further_night v_further_air v_further_open v_further_paste v_now_moved_answers v_now_moved_stack v_now_seen_answers v_now_seen_stack = some (o_r, o_v_further_rows, o_v_further_columns, o_v_further_holes, o_v_further_out, o_v_further_night, o_v_further_air, o_v_further_open, o_v_further_paste, o_v_now_moved_answers, o_v_now_moved_stack, o_v_now_seen_answers, o_v_now_seen_stack) → W p l e (headSpec wsX11_bestFrom rm_X11_bestFrom).room s m [.ref q_this, .ref q_p1, .ref (ta k_2.toNatClampNeg), .int a_3].toArray below meth co H locs 0 0 (gQI D [(q_this, .inr (11, [.ref q_now, .ref q_kept, .int v_images, .ref q_kinds, .ref q_voice, .ref q_thought, .ref q_further, .ref q_errors, .ref q_sheetBits, .ref q_sheetLength, .ref q_numbers])), (q_further, .inr (10, [.int o_v_further_rows, .int o_v_further_columns, .ref q_further_air, .ref q_further_paste, .ref q_further_open, .int o_v_further_holes, .int o_v_further_out, .int o_v_further_night, .ref q_further_met, .ref q_further_line, .int v_further_inLine])), (q_further_air, .inl (c 0, 25, .inl o_v_further_air)), (q_further_open, .inl (c 0, 4, .inl o_v_further_open)), (q_further_paste, .inl (c 0, 25, .inl o_v_further_paste)), (q_now, .inr (7, [.ref q_now_wall, .int v_now_tools, .ref q_now_kind, .ref q_now_m, .ref q_now_tape, .int v_now_tapeLength, .ref q_now_moved, .ref q_now_seen, .int v_now_z, .ref q_now_told, .int v_now_waiting])), (q_now_moved, .inr (3, [.ref (c (10 + s_now_moved_names)), .ref q_now_moved_steps, .int v_now_moved_length, .ref q_now_moved_stack, .ref q_now_moved_answers, .int v_now_moved_side, .int v_now_moved_round, .ref q_now_moved_draft, .int v_now_moved_drafted, .ref q_now_moved_held, .int v_now_moved_holding, .int v_now_moved_open, .int v_now_moved_digits, .int v_now_moved_wantsOperand])), (q_now_moved_answers, .inl (c 0, n_now_moved_answers, .inl o_v_now_moved_answers)), (q_now_moved_stack, .inl (c 0, 50, .inl o_v_now_moved_stack)), (q_now_moved_steps, .inl (c 0, 50, .inl v_now_moved_steps)), (q_now_seen, .inr (3, [.ref (c (10 + s_now_seen_names)), .ref q_now_seen_steps, .int v_now_seen_length, .ref q_now_seen_stack, .ref q_now_seen_answers, .int v_now_seen_side, .int v_now_seen_round, .ref q_now_seen_draft, .int v_now_seen_drafted, .ref q_now_seen_held, .int v_now_seen_holding, .int v_now_seen_open, .int v_now_seen_digits, .int v_now_seen_wantsOperand])), (q_now_seen_answers, .inl (c 0, n_now_seen_answers, .inl o_v_now_seen_answers)), (q_now_seen_stack, .inl (c 0, 50, .inl o_v_now_seen_stack)), (q_now_seen_steps, .inl (c 0, 50, .inl v_now_seen_steps)), (q_p1, .inr (10, [.int v_p1_rows, .int v_p1_columns, .ref q_p1_air, .ref q_p1_paste, .ref q_p1_open, .int v_p1_holes, .int v_p1_out, .int v_p1_night, .ref q_p1_met, .ref q_p1_line, .int v_p1_inLine])), (q_p1_air, .inl (c 0, 25, .inl v_p1_air)), (q_p1_open, .inl (c 0, 4, .inl v_p1_open)), (q_p1_paste, .inl (c 0, 25, .inl v_p1_paste)), (ta 0, .inr (8, [])), (ta 1, .inr (0, [])), (ta 2, .inr (4, [])), (ta 3, .inr (5, [])), (ta 4, .inr (6, [])), (ta 5, .inr (2, [])), (ta 6, .inr (1, []))] o_r A below [.ref q_this, .ref q_p1, .ref (ta k_2.toNatClampNeg), .int a_3] s) (F0 m 21 ls [])) → ∀ (n : Nat), ∀ (x4 : Int32) (x5 : Int32) (x6 : Int32) (x7 : Int32) (v_further_rows : Int32) (v_further_columns : Int32) (v_further_holes : Int32) (v_further_out : Int32) (v_further_night : Int32) (v_further_air : Nat → Int32) (v_further_open : Nat → Int32) (v_further_paste : Nat → Int32) (v_now_moved_answers : Nat → Int32) (v_now_moved_stack : Nat → Int32) (v_now_seen_answers : Nat → Int32) (v_now_seen_stack : Nat → Int32) (H : Heap) (locs : List Loc), va_P D gcl [(q_this, .inr (11, [.ref q_now, .ref q_kept, .int v_images, .ref q_kinds, .ref q_voice, .ref q_thought, .ref q_further, .ref q_errors, .ref q_sheetBits, .ref q_sheetLength, .ref q_numbers])), (q_further, .inr (10, [.int v_further_rows, .int v_further_columns, .ref q_further_air, .ref q_further_paste, .ref q_further_open, .int v_further_holes, .int v_further_out, .int v_further_night, .ref q_further_met, .ref q_further_line, .int v_further_inLine])), (q_further_air, .inl (c 0, 25, .inl v_further_air)), (q_further_open, .inl (c 0, 4, .inl v_further_open)), (q_further_paste, .inl (c 0, 25, .inl v_further_paste)), (q_now, .inr (7, [.ref q_now_wall, .int v_now_tools, .ref q_now_kind, .ref q_now_m, .ref q_now_tape, .int v_now_tapeLength, .ref q_now_moved, .ref q_now_seen, .int v_now_z, .ref q_now_told, .int v_now_waiting])), (q_now_moved, .inr (3, [.ref (c (10 + s_now_moved_names)), .ref q_now_moved_steps, .int v_now_moved_length, .ref q_now_moved_stack, .ref q_now_moved_answers, .int v_now_moved_side, .int v_now_moved_round, .ref q_now_moved_draft, .int v_now_moved_drafted, .ref q_now_moved_held, .int v_now_moved_holding, .int v_now_moved_open, .int v_now_moved_digits, .int v_now_moved_wantsOperand])), (q_now_moved_answers, .inl (c 0, n_now_moved_answers, .inl v_now_moved_answers)), (q_now_moved_stack, .inl (c 0, 50, .inl v_now_moved_stack)), (q_now_moved_steps, .inl (c 0, 50, .inl v_now_moved_steps)), (q_now_seen, .inr (3, [.ref (c (10 + s_now_seen_names)), .ref q_now_seen_steps, .int v_now_seen_length, .ref q_now_seen_stack, .ref q_now_seen_answers, .int v_now_seen_side, .int v_now_seen_round, .ref q_now_seen_draft, .int v_now_seen_drafted, .ref q_now_seen_held, .int v_now_seen_holding, .int v_now_seen_open, .int v_now_seen_digits, .int v_now_seen_wantsOperand])), (q_now_seen_answers, .inl (c 0, n_now_seen_answers, .inl v_now_seen_answers)), (q_now_seen_stack, .inl (c 0, 50, .inl v_now_seen_stack)), (q_now_seen_steps, .inl (c 0, 50, .inl v_now_seen_steps)), (q_p1, .inr (10, [.int v_p1_rows, .int v_p1_columns, .ref q_p1_air, .ref q_p1_paste, .ref q_p1_open, .int v_p1_holes, .int v_p1_out, .int v_p1_night, .ref q_p1_met, .ref q_p1_line, .int v_p1_inLine])), (q_p1_air, .inl (c 0, 25, .inl v_p1_air)), (q_p1_open, .inl (c 0, 4, .inl v_p1_open)), (q_p1_paste, .inl (c 0, 25, .inl v_p1_paste)), (ta 0, .inr (8, [])), (ta 1, .inr (0, [])), (ta 2, .inr (4, [])), (ta 3, .inr (5, [])), (ta 4, .inr (6, [])), (ta 5, .inr (2, [])), (ta 6, .inr (1, []))] H → va_D A [(q_this, .inr (11, [.ref q_now, .ref q_kept, .int v_images, .ref q_kinds, .ref q_voice, .ref q_thought, .ref q_further, .ref q_errors, .ref q_sheetBits, .ref q_sheetLength, .ref q_numbers])), (q_further, .inr (10, [.int v_further_rows, .int v_further_columns, .ref q_further_air, .ref q_further_paste, .ref q_further_open, .int v_further_holes, .int v_further_out, .int v_further_night, .ref q_further_met, .ref q_further_line, .int v_further_inLine])), (q_further_air, .inl (c 0, 25, .inl v_further_air)), (q_further_open, .inl (c 0, 4, .inl v_further_open)), (q_further_paste, .inl (c 0, 25, .inl v_further_paste)), (q_now, .inr (7, [.ref q_now_wall, .int v_now_tools, .ref q_now_kind, .ref q_now_m, .ref q_now_tape, .int v_now_tapeLength, .ref q_now_moved, .ref q_now_seen, .int v_now_z, .ref q_now_told, .int v_now_waiting])), (q_now_moved, .inr (3, [.ref (c (10 + s_now_moved_names)), .ref q_now_moved_steps, .int v_now_moved_length, .ref q_now_moved_stack, .ref q_now_moved_answers, .int v_now_moved_side, .int v_now_moved_round, .ref q_now_moved_draft, .int v_now_moved_drafted, .ref q_now_moved_held, .int v_now_moved_holding, .int v_now_moved_open, .int v_now_moved_digits, .int v_now_moved_wantsOperand])), (q_now_moved_answers, .inl (c 0, n_now_moved_answers, .inl v_now_moved_answers)), (q_now_moved_stack, .inl (c 0, 50, .inl v_now_moved_stack)), (q_now_moved_steps, .inl (c 0, 50, .inl v_now_moved_steps)), (q_now_seen, .inr (3, [.ref (c (10 + s_now_seen_names)), .ref q_now_seen_steps, .int v_now_seen_length, .ref q_now_seen_stack, .ref q_now_seen_answers, .int v_now_seen_side, .int v_now_seen_round, .ref q_now_seen_draft, .int v_now_seen_drafted, .ref q_now_seen_held, .int v_now_seen_holding, .int v_now_seen_open, .int v_now_seen_digits, .int v_now_seen_wantsOperand])), (q_now_seen_answers, .inl (c 0, n_now_seen_answers, .inl v_now_seen_answers)), (q_now_seen_stack, .inl (c 0, 50, .inl v_now_seen_stack)), (q_now_seen_steps, .inl (c 0, 50, .inl v_now_seen_steps)), (q_p1, .inr (10, [.int v_p1_rows, .int v_p1_columns, .ref q_p1_air, .ref q_p1_paste, .ref q_p1_open, .int v_p1_holes, .int v_p1_out, .int v_p1_night, .ref q_p1_met, .ref q_p1_line, .int v_p1_inLine])), (q_p1_air, .inl (c 0, 25, .inl v_p1_air)), (q_p1_open, .inl (c 0, 4, .inl v_p1_open)), (q_p1_paste, .inl (c 0, 25, .inl v_p1_paste)), (ta 0, .inr (8, [])), (ta 1, .inr (0, [])), (ta 2, .inr (4, [])), (ta 3, .inr (5, [])), (ta 4, .inr (6, [])), (ta 5, .inr (2, [])), (ta 6, .inr (1, []))] → va_S A s.heap H locs → ∀ ls, lv_has ls 8 [(0, .ref q_this), (1, .ref q_p1), (2, .ref (ta k_2.toNatClampNeg)), (3, .int a_3), (4, .int x4), (5, .int x5), (6, .int x6), (7, .int x7)] → f_X11_bestFrom_L31 kk_L21 a_3 k_2 n_now_moved_answers n_now_seen_answers v_now_moved_length v_now_moved_side v_now_moved_round v_now_moved_steps v_now_seen_length v_now_seen_side v_now_seen_round v_now_seen_steps v_p1_air n x4 x5 x6 x7 v_further_rows v_further_columns v_further_holes v_further_out v_further_night v_further_air v_further_open v_further_paste v_now_moved_answers v_now_moved_stack v_now_seen_answers v_now_seen_stack = some (o_r, o_v_further_rows, o_v_further_columns, o_v_further_holes, o_v_further_out, o_v_further_night, o_v_further_air, o_v_further_open, o_v_further_paste, o_v_now_moved_answers, o_v_now_moved_stack, o_v_now_seen_answers, o_v_now_seen_stack) → W p l e (headSpec wsX11_bestFrom rm_X11_bestFrom).room s m [.ref q_this, .ref q_p1, .ref (ta k_2.toNatClampNeg), .int a_3].toArray below meth co H locs 0 0 (gQI D [(q_this, .inr (11, [.ref q_now, .ref q_kept, .int v_images, .ref q_kinds, .ref q_voice, .ref q_thought, .ref q_further, .ref q_errors, .ref q_sheetBits, .ref q_sheetLength, .ref q_numbers])), (q_further, .inr (10, [.int o_v_further_rows, .int o_v_further_columns, .ref q_further_air, .ref q_further_paste, .ref q_further_open, .int o_v_further_holes, .int o_v_further_out, .int o_v_further_night, .ref q_further_met, .ref q_further_line, .int v_further_inLine])), (q_further_air, .inl (c 0, 25, .inl o_v_further_air)), (q_further_open, .inl (c 0, 4, .inl o_v_further_open)), (q_further_paste, .inl (c 0, 25, .inl o_v_further_paste)), (q_now, .inr (7, [.ref q_now_wall, .int v_now_tools, .ref q_now_kind, .ref q_now_m, .ref q_now_tape, .int v_now_tapeLength, .ref q_now_moved, .ref q_now_seen, .int v_now_z, .ref q_now_told, .int v_now_waiting])), (q_now_moved, .inr (3, [.ref (c (10 + s_now_moved_names)), .ref q_now_moved_steps, .int v_now_moved_length, .ref q_now_moved_stack, .ref q_now_moved_answers, .int v_now_moved_side, .int v_now_moved_round, .ref q_now_moved_draft, .int v_now_moved_drafted, .ref q_now_moved_held, .int v_now_moved_holding, .int v_now_moved_open, .int v_now_moved_digits, .int v_now_moved_wantsOperand])), (q_now_moved_answers, .inl (c 0, n_now_moved_answers, .inl o_v_now_moved_answers)), (q_now_moved_stack, .inl (c 0, 50, .inl o_v_now_moved_stack)), (q_now_moved_steps, .inl (c 0, 50, .inl v_now_moved_steps)), (q_now_seen, .inr (3, [.ref (c (10 + s_now_seen_names)), .ref q_now_seen_steps, .int v_now_seen_length, .ref q_now_seen_stack, .ref q_now_seen_answers, .int v_now_seen_side, .int v_now_seen_round, .ref q_now_seen_draft, .int v_now_seen_drafted, .ref q_now_seen_held, .int v_now_seen_holding, .int v_now_seen_open, .int v_now_seen_digits, .int v_now_seen_wantsOperand])), (q_now_seen_answers, .inl (c 0, n_now_seen_answers, .inl o_v_now_seen_answers)), (q_now_seen_stack, .inl (c 0, 50, .inl o_v_now_seen_stack)), (q_now_seen_steps, .inl (c 0, 50, .inl v_now_seen_steps)), (q_p1, .inr (10, [.int v_p1_rows, .int v_p1_columns, .ref q_p1_air, .ref q_p1_paste, .ref q_p1_open, .int v_p1_holes, .int v_p1_out, .int v_p1_night, .ref q_p1_met, .ref q_p1_line, .int v_p1_inLine])), (q_p1_air, .inl (c 0, 25, .inl v_p1_air)), (q_p1_open, .inl (c 0, 4, .inl v_p1_open)), (q_p1_paste, .inl (c 0, 25, .inl v_p1_paste)), (ta 0, .inr (8, [])), (ta 1, .inr (0, [])), (ta 2, .inr (4, [])), (ta 3, .inr (5, [])), (ta 4, .inr (6, [])), (ta 5, .inr (2, [])), (ta 6, .inr (1, []))] o_r A below [.ref q_this, .ref q_p1, .ref (ta k_2.toNatClampNeg), .int a_3] s) (F0 m 31 ls []) := by
    intro kk_L21 hkk_L21
    intro n
    induction n with
    | zero => intro x4 x5 x6 x7 v_further_rows v_further_columns v_further_holes v_further_out v_further_night v_further_air v_further_open v_further_paste v_now_moved_answers v_now_moved_stack v_now_seen_answers v_now_seen_stack H locs hP hD hS ls hl h; exact no_ok h
    | succ n ih =>
      intro x4 x5 x6 x7 v_further_rows v_further_columns v_further_holes v_further_out v_further_night v_further_air v_further_open v_further_paste v_now_moved_answers v_now_moved_stack v_now_seen_answers v_now_seen_stack H locs hP hD hS ls hl h
      rw [f_X11_bestFrom_L31] at h
      refine lv_iload hx hb dX11_bestFrom_31 (lv_at hl 7 rfl) ?_
      refine lv_iconst (v := 4) hx hb dX11_bestFrom_33 (by decide) ?_
      refine lv_icmp_ge (tgt := 105) hx hb dX11_bestFrom_34 (by decide) (fun c_13 => ?_) (fun c_13 => ?_)
      · replace h := it_t c_13 h
        replace h := nm_ok h
        obtain ⟨t_14, et_14, h⟩ := h
        refine lv_iinc (v := t_14) (lv' := [(6, .int t_14), (0, .ref q_this), (1, .ref q_p1), (2, .ref (ta k_2.toNatClampNeg)), (3, .int a_3), (4, .int x4), (5, .int x5), (7, .int x7)]) hx hb dX11_bestFrom_105 hl (k := 6) rfl (by rw [et_14]; rfl) (by decide) rfl (fun ls hl => ?_)
        refine lv_goto (tgt := 21) hx hb dX11_bestFrom_108 (by decide) ?_
        exact hkk_L21 x4 x5 t_14 v_further_rows v_further_columns v_further_holes v_further_out v_further_night v_further_air v_further_open v_further_paste v_now_moved_answers v_now_moved_stack v_now_seen_answers v_now_seen_stack H locs hP hD hS ls (lv_sub hl [1, 2, 3, 4, 5, 6, 0] rfl) h
      · replace h := it_f c_13 h
        refine lv_aload_n hx hb dX11_bestFrom_37 rfl (lv_at hl 0 rfl) ?_
        refine va_get (D := D) (ci := 11) (v := .ref q_further) (C := RX11) (T := TX11) (N := 11) hx hb hts in_X11_bestFrom_X11 hown hK.1 hP 0 rfl rfl 6 (by decide) (hts (.fieldLink RX11 60 "PaperBubbles" "further" "LPaperBubbles$Wall;") (List.mem_of_getElem? (i := 2) rfl)) (fun _ h9 => h9) rfl dX11_bestFrom_38 ?_
        refine lv_aload_n hx hb dX11_bestFrom_41 rfl (lv_at hl 1 rfl) ?_
        replace h := kb_ok h
        obtain ⟨w_16, hc_15, h⟩ := h
        refine gCallV (isC := [1, 2, 14, 15]) (wc := [(q_further, .inr (10, [.int v_further_rows, .int v_further_columns, .ref q_further_air, .ref q_further_paste, .ref q_further_open, .int v_further_holes, .int v_further_out, .int v_further_night, .ref q_further_met, .ref q_further_line, .int v_further_inLine])), (q_further_air, .inl (c 0, 25, .inl v_further_air)), (q_p1, .inr (10, [.int v_p1_rows, .int v_p1_columns, .ref q_p1_air, .ref q_p1_paste, .ref q_p1_open, .int v_p1_holes, .int v_p1_out, .int v_p1_night, .ref q_p1_met, .ref q_p1_line, .int v_p1_inLine])), (q_p1_air, .inl (c 0, 25, .inl v_p1_air))]) (w1 := [(q_further, .inr (10, [.int v_further_rows, .int v_further_columns, .ref q_further_air, .ref q_further_paste, .ref q_further_open, .int v_further_holes, .int v_further_out, .int v_further_night, .ref q_further_met, .ref q_further_line, .int v_further_inLine])), (q_further_air, .inl (c 0, 25, .inl w_16)), (q_p1, .inr (10, [.int v_p1_rows, .int v_p1_columns, .ref q_p1_air, .ref q_p1_paste, .ref q_p1_open, .int v_p1_holes, .int v_p1_out, .int v_p1_night, .ref q_p1_met, .ref q_p1_line, .int v_p1_inLine])), (q_p1_air, .inl (c 0, 25, .inl v_p1_air))]) (ws2 := [(q_this, .inr (11, [.ref q_now, .ref q_kept, .int v_images, .ref q_kinds, .ref q_voice, .ref q_thought, .ref q_further, .ref q_errors, .ref q_sheetBits, .ref q_sheetLength, .ref q_numbers])), (q_further, .inr (10, [.int v_further_rows, .int v_further_columns, .ref q_further_air, .ref q_further_paste, .ref q_further_open, .int v_further_holes, .int v_further_out, .int v_further_night, .ref q_further_met, .ref q_further_line, .int v_further_inLine])), (q_further_air, .inl (c 0, 25, .inl w_16)), (q_further_open, .inl (c 0, 4, .inl v_further_open)), (q_further_paste, .inl (c 0, 25, .inl v_further_paste)), (q_now, .inr (7, [.ref q_now_wall, .int v_now_tools, .ref q_now_kind, .ref q_now_m, .ref q_now_tape, .int v_now_tapeLength, .ref q_now_moved, .ref q_now_seen, .int v_now_z, .ref q_now_told, .int v_now_waiting])), (q_now_moved, .inr (3, [.ref (c (10 + s_now_moved_names)), .ref q_now_moved_steps, .int v_now_moved_length, .ref q_now_moved_stack, .ref q_now_moved_answers, .int v_now_moved_side, .int v_now_moved_round, .ref q_now_moved_draft, .int v_now_moved_drafted, .ref q_now_moved_held, .int v_now_moved_holding, .int v_now_moved_open, .int v_now_moved_digits, .int v_now_moved_wantsOperand])), (q_now_moved_answers, .inl (c 0, n_now_moved_answers, .inl v_now_moved_answers)), (q_now_moved_stack, .inl (c 0, 50, .inl v_now_moved_stack)), (q_now_moved_steps, .inl (c 0, 50, .inl v_now_moved_steps)), (q_now_seen, .inr (3, [.ref (c (10 + s_now_seen_names)), .ref q_now_seen_steps, .int v_now_seen_length, .ref q_now_seen_stack, .ref q_now_seen_answers, .int v_now_seen_side, .int v_now_seen_round, .ref q_now_seen_draft, .int v_now_seen_drafted, .ref q_now_seen_held, .int v_now_seen_holding, .int v_now_seen_open, .int v_now_seen_digits, .int v_now_seen_wantsOperand])), (q_now_seen_answers, .inl (c 0, n_now_seen_answers, .inl v_now_seen_answers)), (q_now_seen_stack, .inl (c 0, 50, .inl v_now_seen_stack)), (q_now_seen_steps, .inl (c 0, 50, .inl v_now_seen_steps)), (q_p1, .inr (10, [.int v_p1_rows, .int v_p1_columns, .ref q_p1_air, .ref q_p1_paste, .ref q_p1_open, .int v_p1_holes, .int v_p1_out, .int v_p1_night, .ref q_p1_met, .ref q_p1_line, .int v_p1_inLine])), (q_p1_air, .inl (c 0, 25, .inl v_p1_air)), (q_p1_open, .inl (c 0, 4, .inl v_p1_open)), (q_p1_paste, .inl (c 0, 25, .inl v_p1_paste)), (ta 0, .inr (8, [])), (ta 1, .inr (0, [])), (ta 2, .inr (4, [])), (ta 3, .inr (5, [])), (ta 4, .inr (6, [])), (ta 5, .inr (2, [])), (ta 6, .inr (1, []))]) (ms := [none, (some 0), (some 1), none, none, none, none, none, none, none, none, none, none, none, (some 2), (some 3), none, none, none, none, none, none, none, none, none]) hP hD hS hA ⟨rfl, rfl, rfl, rfl, trivial⟩ (by decide +kernel) ⟨rfl, rfl, rfl, rfl, rfl, rfl, rfl, rfl, rfl, rfl, rfl, rfl, rfl, rfl, rfl, rfl, rfl, rfl, rfl, rfl, rfl, rfl, rfl, rfl, rfl, trivial⟩ (va_runV (rm := rm_X10_airAs) (ws := wsX10_airAs) (As := [.ref q_p1]) (rest := []) (gFix hF) (c_X10_airAs l D c q_further q_p1 q_further_air q_further_paste q_further_open q_further_met q_further_line q_p1_air q_p1_paste q_p1_open q_p1_met q_p1_line v_further_rows v_further_columns v_further_holes v_further_out v_further_night v_further_inLine v_further_air v_p1_rows v_p1_columns v_p1_holes v_p1_out v_p1_night v_p1_inLine v_p1_air w_16 hc_15 H.size) (cwV 1 hts gX11_bestFrom_X10_airAs rfl rfl rfl (by decide +kernel) ⟨Nat.le_of_ble_eq_true rfl, Nat.le_of_ble_eq_true rfl⟩) (gPreV (wc := [(q_further, .inr (10, [.int v_further_rows, .int v_further_columns, .ref q_further_air, .ref q_further_paste, .ref q_further_open, .int v_further_holes, .int v_further_out, .int v_further_night, .ref q_further_met, .ref q_further_line, .int v_further_inLine])), (q_further_air, .inl (c 0, 25, .inl v_further_air)), (q_p1, .inr (10, [.int v_p1_rows, .int v_p1_columns, .ref q_p1_air, .ref q_p1_paste, .ref q_p1_open, .int v_p1_holes, .int v_p1_out, .int v_p1_night, .ref q_p1_met, .ref q_p1_line, .int v_p1_inLine])), (q_p1_air, .inl (c 0, 25, .inl v_p1_air))]) (q := (RX10, TX10, 11)) (ci := 10) (q0 := 1) (isC := [1, 2, 14, 15]) hK hX hS hA hP hD ⟨rfl, rfl, rfl, rfl, trivial⟩ (by decide +kernel) rfl rfl) rfl rfl hl.1 rfl (lv_room (Nat.le_of_ble_eq_true rfl)) dX11_bestFrom_42 ⟨Nat.le_of_ble_eq_true rfl, Nat.le_of_ble_eq_true rfl⟩) (fun H locs hP hD hS => ?_)
        refine lv_aload_n hx hb dX11_bestFrom_45 rfl (lv_at hl 0 rfl) ?_
        refine va_get (D := D) (ci := 11) (v := .ref q_further) (C := RX11) (T := TX11) (N := 11) hx hb hts in_X11_bestFrom_X11 hown hK.1 hP 0 rfl rfl 6 (by decide) (hts (.fieldLink RX11 60 "PaperBubbles" "further" "LPaperBubbles$Wall;") (List.mem_of_getElem? (i := 2) rfl)) (fun _ h9 => h9) rfl dX11_bestFrom_46 ?_
        refine lv_aload_n hx hb dX11_bestFrom_49 rfl (lv_at hl 2 rfl) ?_
        refine lv_iload_n hx hb dX11_bestFrom_50 rfl (lv_at hl 3 rfl) ?_
        refine lv_aload_n hx hb dX11_bestFrom_51 rfl (lv_at hl 0 rfl) ?_
        refine va_get (D := D) (ci := 11) (v := .ref q_now) (C := RX11) (T := TX11) (N := 11) hx hb hts in_X11_bestFrom_X11 hown hK.1 hP 0 rfl rfl 0 (by decide) (hts (.fieldLink RX11 14 "PaperBubbles" "now" "LPaperBubbles$State;") (List.mem_of_getElem? (i := 3) rfl)) (fun _ h9 => h9) rfl dX11_bestFrom_52 ?_
        refine va_getN (D := D) (ci := 7) (v := .ref q_now_moved) (C := RX7) (T := TX7) (N := 11) hx hb hts in_X11_bestFrom_X7 hown hK.1 hP 5 rfl rfl 6 (by decide) (va_Nw.use rfl (hK.2 (.fieldLinkNest "PaperBubbles" 152 "PaperBubbles$State" "moved" "LPaperBubbles$Law;" "PaperBubbles") (List.mem_of_getElem? (i := 7) rfl))) (fun _ h9 => h9) rfl dX11_bestFrom_55 ?_
        refine lv_iload hx hb dX11_bestFrom_58 (lv_at hl 6 rfl) ?_
        refine lv_iload hx hb dX11_bestFrom_60 (lv_at hl 7 rfl) ?_
        replace h := kb5_ok h
        obtain ⟨w_18, w_19, w_20, w_21, w_22, hc_17, h⟩ := h
        refine gCallV (isC := [1, 2, 3, 4, 6, 7, 8, 9, 18, 19, 20, 21, 22, 23, 24]) (wc := [(q_further, .inr (10, [.int v_further_rows, .int v_further_columns, .ref q_further_air, .ref q_further_paste, .ref q_further_open, .int v_further_holes, .int v_further_out, .int v_further_night, .ref q_further_met, .ref q_further_line, .int v_further_inLine])), (q_further_air, .inl (c 0, 25, .inl w_16)), (q_further_open, .inl (c 0, 4, .inl v_further_open)), (q_further_paste, .inl (c 0, 25, .inl v_further_paste)), (q_now_moved, .inr (3, [.ref (c (10 + s_now_moved_names)), .ref q_now_moved_steps, .int v_now_moved_length, .ref q_now_moved_stack, .ref q_now_moved_answers, .int v_now_moved_side, .int v_now_moved_round, .ref q_now_moved_draft, .int v_now_moved_drafted, .ref q_now_moved_held, .int v_now_moved_holding, .int v_now_moved_open, .int v_now_moved_digits, .int v_now_moved_wantsOperand])), (q_now_moved_answers, .inl (c 0, n_now_moved_answers, .inl v_now_moved_answers)), (q_now_moved_stack, .inl (c 0, 50, .inl v_now_moved_stack)), (q_now_moved_steps, .inl (c 0, 50, .inl v_now_moved_steps)), (ta 0, .inr (8, [])), (ta 1, .inr (0, [])), (ta 2, .inr (4, [])), (ta 3, .inr (5, [])), (ta 4, .inr (6, [])), (ta 5, .inr (2, [])), (ta 6, .inr (1, []))]) (w1 := [(q_further, .inr (10, [.int v_further_rows, .int v_further_columns, .ref q_further_air, .ref q_further_paste, .ref q_further_open, .int w_18, .int w_19, .int v_further_night, .ref q_further_met, .ref q_further_line, .int v_further_inLine])), (q_further_air, .inl (c 0, 25, .inl w_20)), (q_further_open, .inl (c 0, 4, .inl v_further_open)), (q_further_paste, .inl (c 0, 25, .inl v_further_paste)), (q_now_moved, .inr (3, [.ref (c (10 + s_now_moved_names)), .ref q_now_moved_steps, .int v_now_moved_length, .ref q_now_moved_stack, .ref q_now_moved_answers, .int v_now_moved_side, .int v_now_moved_round, .ref q_now_moved_draft, .int v_now_moved_drafted, .ref q_now_moved_held, .int v_now_moved_holding, .int v_now_moved_open, .int v_now_moved_digits, .int v_now_moved_wantsOperand])), (q_now_moved_answers, .inl (c 0, n_now_moved_answers, .inl w_21)), (q_now_moved_stack, .inl (c 0, 50, .inl w_22)), (q_now_moved_steps, .inl (c 0, 50, .inl v_now_moved_steps)), (ta 0, .inr (8, [])), (ta 1, .inr (0, [])), (ta 2, .inr (4, [])), (ta 3, .inr (5, [])), (ta 4, .inr (6, [])), (ta 5, .inr (2, [])), (ta 6, .inr (1, []))]) (ws2 := [(q_this, .inr (11, [.ref q_now, .ref q_kept, .int v_images, .ref q_kinds, .ref q_voice, .ref q_thought, .ref q_further, .ref q_errors, .ref q_sheetBits, .ref q_sheetLength, .ref q_numbers])), (q_further, .inr (10, [.int v_further_rows, .int v_further_columns, .ref q_further_air, .ref q_further_paste, .ref q_further_open, .int w_18, .int w_19, .int v_further_night, .ref q_further_met, .ref q_further_line, .int v_further_inLine])), (q_further_air, .inl (c 0, 25, .inl w_20)), (q_further_open, .inl (c 0, 4, .inl v_further_open)), (q_further_paste, .inl (c 0, 25, .inl v_further_paste)), (q_now, .inr (7, [.ref q_now_wall, .int v_now_tools, .ref q_now_kind, .ref q_now_m, .ref q_now_tape, .int v_now_tapeLength, .ref q_now_moved, .ref q_now_seen, .int v_now_z, .ref q_now_told, .int v_now_waiting])), (q_now_moved, .inr (3, [.ref (c (10 + s_now_moved_names)), .ref q_now_moved_steps, .int v_now_moved_length, .ref q_now_moved_stack, .ref q_now_moved_answers, .int v_now_moved_side, .int v_now_moved_round, .ref q_now_moved_draft, .int v_now_moved_drafted, .ref q_now_moved_held, .int v_now_moved_holding, .int v_now_moved_open, .int v_now_moved_digits, .int v_now_moved_wantsOperand])), (q_now_moved_answers, .inl (c 0, n_now_moved_answers, .inl w_21)), (q_now_moved_stack, .inl (c 0, 50, .inl w_22)), (q_now_moved_steps, .inl (c 0, 50, .inl v_now_moved_steps)), (q_now_seen, .inr (3, [.ref (c (10 + s_now_seen_names)), .ref q_now_seen_steps, .int v_now_seen_length, .ref q_now_seen_stack, .ref q_now_seen_answers, .int v_now_seen_side, .int v_now_seen_round, .ref q_now_seen_draft, .int v_now_seen_drafted, .ref q_now_seen_held, .int v_now_seen_holding, .int v_now_seen_open, .int v_now_seen_digits, .int v_now_seen_wantsOperand])), (q_now_seen_answers, .inl (c 0, n_now_seen_answers, .inl v_now_seen_answers)), (q_now_seen_stack, .inl (c 0, 50, .inl v_now_seen_stack)), (q_now_seen_steps, .inl (c 0, 50, .inl v_now_seen_steps)), (q_p1, .inr (10, [.int v_p1_rows, .int v_p1_columns, .ref q_p1_air, .ref q_p1_paste, .ref q_p1_open, .int v_p1_holes, .int v_p1_out, .int v_p1_night, .ref q_p1_met, .ref q_p1_line, .int v_p1_inLine])), (q_p1_air, .inl (c 0, 25, .inl v_p1_air)), (q_p1_open, .inl (c 0, 4, .inl v_p1_open)), (q_p1_paste, .inl (c 0, 25, .inl v_p1_paste)), (ta 0, .inr (8, [])), (ta 1, .inr (0, [])), (ta 2, .inr (4, [])), (ta 3, .inr (5, [])), (ta 4, .inr (6, [])), (ta 5, .inr (2, [])), (ta 6, .inr (1, []))]) (ms := [none, (some 0), (some 1), (some 2), (some 3), none, (some 4), (some 5), (some 6), (some 7), none, none, none, none, none, none, none, none, (some 8), (some 9), (some 10), (some 11), (some 12), (some 13), (some 14)]) hP hD hS hA ⟨rfl, rfl, rfl, rfl, rfl, rfl, rfl, rfl, rfl, rfl, rfl, rfl, rfl, rfl, rfl, trivial⟩ (by decide +kernel) ⟨rfl, rfl, rfl, rfl, rfl, rfl, rfl, rfl, rfl, rfl, rfl, rfl, rfl, rfl, rfl, rfl, rfl, rfl, rfl, rfl, rfl, rfl, rfl, rfl, rfl, trivial⟩ (va_runV (rm := rm_X10_strike) (ws := wsX10_strike) (As := [.ref (ta k_2.toNatClampNeg), .int a_3, .ref q_now_moved, .int x6, .int x7]) (rest := []) (gFix hF) (c_X10_strike l D c q_further q_now_moved q_further_air q_further_paste q_further_open q_further_met q_further_line q_now_moved_steps q_now_moved_stack q_now_moved_answers q_now_moved_draft q_now_moved_held ta s_now_moved_names n_now_moved_answers a_3 x6 x7 k_2 v_further_rows v_further_columns v_further_holes v_further_out v_further_night v_further_inLine w_16 v_further_open v_further_paste v_now_moved_length v_now_moved_side v_now_moved_round v_now_moved_drafted v_now_moved_holding v_now_moved_open v_now_moved_digits v_now_moved_wantsOperand v_now_moved_answers v_now_moved_stack v_now_moved_steps w_18 w_19 w_20 w_21 w_22 hc_17 H.size) (cwV 5 hts gX11_bestFrom_X10_strike rfl rfl rfl (by decide +kernel) ⟨Nat.le_of_ble_eq_true rfl, Nat.le_of_ble_eq_true rfl⟩) (gPreV (wc := [(q_further, .inr (10, [.int v_further_rows, .int v_further_columns, .ref q_further_air, .ref q_further_paste, .ref q_further_open, .int v_further_holes, .int v_further_out, .int v_further_night, .ref q_further_met, .ref q_further_line, .int v_further_inLine])), (q_further_air, .inl (c 0, 25, .inl w_16)), (q_further_open, .inl (c 0, 4, .inl v_further_open)), (q_further_paste, .inl (c 0, 25, .inl v_further_paste)), (q_now_moved, .inr (3, [.ref (c (10 + s_now_moved_names)), .ref q_now_moved_steps, .int v_now_moved_length, .ref q_now_moved_stack, .ref q_now_moved_answers, .int v_now_moved_side, .int v_now_moved_round, .ref q_now_moved_draft, .int v_now_moved_drafted, .ref q_now_moved_held, .int v_now_moved_holding, .int v_now_moved_open, .int v_now_moved_digits, .int v_now_moved_wantsOperand])), (q_now_moved_answers, .inl (c 0, n_now_moved_answers, .inl v_now_moved_answers)), (q_now_moved_stack, .inl (c 0, 50, .inl v_now_moved_stack)), (q_now_moved_steps, .inl (c 0, 50, .inl v_now_moved_steps)), (ta 0, .inr (8, [])), (ta 1, .inr (0, [])), (ta 2, .inr (4, [])), (ta 3, .inr (5, [])), (ta 4, .inr (6, [])), (ta 5, .inr (2, [])), (ta 6, .inr (1, []))]) (q := (RX10, TX10, 11)) (ci := 10) (q0 := 1) (isC := [1, 2, 3, 4, 6, 7, 8, 9, 18, 19, 20, 21, 22, 23, 24]) hK hX hS hA hP hD ⟨rfl, rfl, rfl, rfl, rfl, rfl, rfl, rfl, rfl, rfl, rfl, rfl, rfl, rfl, rfl, trivial⟩ (by decide +kernel) rfl rfl) rfl rfl hl.1 rfl (lv_room (Nat.le_of_ble_eq_true rfl)) dX11_bestFrom_62 ⟨Nat.le_of_ble_eq_true rfl, Nat.le_of_ble_eq_true rfl⟩) (fun H locs hP hD hS => ?_)
        refine lv_iload hx hb dX11_bestFrom_65 (lv_at hl 5 rfl) ?_
        refine lv_aload_n hx hb dX11_bestFrom_67 rfl (lv_at hl 0 rfl) ?_
        refine va_get (D := D) (ci := 11) (v := .ref q_further) (C := RX11) (T := TX11) (N := 11) hx hb hts in_X11_bestFrom_X11 hown hK.1 hP 0 rfl rfl 6 (by decide) (hts (.fieldLink RX11 60 "PaperBubbles" "further" "LPaperBubbles$Wall;") (List.mem_of_getElem? (i := 2) rfl)) (fun _ h9 => h9) rfl dX11_bestFrom_68 ?_
        refine lv_aload_n hx hb dX11_bestFrom_71 rfl (lv_at hl 0 rfl) ?_
        refine va_get (D := D) (ci := 11) (v := .ref q_now) (C := RX11) (T := TX11) (N := 11) hx hb hts in_X11_bestFrom_X11 hown hK.1 hP 0 rfl rfl 0 (by decide) (hts (.fieldLink RX11 14 "PaperBubbles" "now" "LPaperBubbles$State;") (List.mem_of_getElem? (i := 3) rfl)) (fun _ h9 => h9) rfl dX11_bestFrom_72 ?_
        refine va_getN (D := D) (ci := 7) (v := .ref q_now_seen) (C := RX7) (T := TX7) (N := 11) hx hb hts in_X11_bestFrom_X7 hown hK.1 hP 5 rfl rfl 7 (by decide) (va_Nw.use rfl (hK.2 (.fieldLinkNest "PaperBubbles" 107 "PaperBubbles$State" "seen" "LPaperBubbles$Law;" "PaperBubbles") (List.mem_of_getElem? (i := 2) rfl))) (fun _ h9 => h9) rfl dX11_bestFrom_75 ?_
        replace h := kb3_ok h
        obtain ⟨r_24, w_25, w_26, hc_23, h⟩ := h
        refine gCallI (isC := [1, 2, 10, 11, 12, 13]) (wc := [(q_further, .inr (10, [.int v_further_rows, .int v_further_columns, .ref q_further_air, .ref q_further_paste, .ref q_further_open, .int w_18, .int w_19, .int v_further_night, .ref q_further_met, .ref q_further_line, .int v_further_inLine])), (q_further_air, .inl (c 0, 25, .inl w_20)), (q_now_seen, .inr (3, [.ref (c (10 + s_now_seen_names)), .ref q_now_seen_steps, .int v_now_seen_length, .ref q_now_seen_stack, .ref q_now_seen_answers, .int v_now_seen_side, .int v_now_seen_round, .ref q_now_seen_draft, .int v_now_seen_drafted, .ref q_now_seen_held, .int v_now_seen_holding, .int v_now_seen_open, .int v_now_seen_digits, .int v_now_seen_wantsOperand])), (q_now_seen_answers, .inl (c 0, n_now_seen_answers, .inl v_now_seen_answers)), (q_now_seen_stack, .inl (c 0, 50, .inl v_now_seen_stack)), (q_now_seen_steps, .inl (c 0, 50, .inl v_now_seen_steps))]) (w1 := [(q_further, .inr (10, [.int v_further_rows, .int v_further_columns, .ref q_further_air, .ref q_further_paste, .ref q_further_open, .int w_18, .int w_19, .int v_further_night, .ref q_further_met, .ref q_further_line, .int v_further_inLine])), (q_further_air, .inl (c 0, 25, .inl w_20)), (q_now_seen, .inr (3, [.ref (c (10 + s_now_seen_names)), .ref q_now_seen_steps, .int v_now_seen_length, .ref q_now_seen_stack, .ref q_now_seen_answers, .int v_now_seen_side, .int v_now_seen_round, .ref q_now_seen_draft, .int v_now_seen_drafted, .ref q_now_seen_held, .int v_now_seen_holding, .int v_now_seen_open, .int v_now_seen_digits, .int v_now_seen_wantsOperand])), (q_now_seen_answers, .inl (c 0, n_now_seen_answers, .inl w_25)), (q_now_seen_stack, .inl (c 0, 50, .inl w_26)), (q_now_seen_steps, .inl (c 0, 50, .inl v_now_seen_steps))]) (ws2 := [(q_this, .inr (11, [.ref q_now, .ref q_kept, .int v_images, .ref q_kinds, .ref q_voice, .ref q_thought, .ref q_further, .ref q_errors, .ref q_sheetBits, .ref q_sheetLength, .ref q_numbers])), (q_further, .inr (10, [.int v_further_rows, .int v_further_columns, .ref q_further_air, .ref q_further_paste, .ref q_further_open, .int w_18, .int w_19, .int v_further_night, .ref q_further_met, .ref q_further_line, .int v_further_inLine])), (q_further_air, .inl (c 0, 25, .inl w_20)), (q_further_open, .inl (c 0, 4, .inl v_further_open)), (q_further_paste, .inl (c 0, 25, .inl v_further_paste)), (q_now, .inr (7, [.ref q_now_wall, .int v_now_tools, .ref q_now_kind, .ref q_now_m, .ref q_now_tape, .int v_now_tapeLength, .ref q_now_moved, .ref q_now_seen, .int v_now_z, .ref q_now_told, .int v_now_waiting])), (q_now_moved, .inr (3, [.ref (c (10 + s_now_moved_names)), .ref q_now_moved_steps, .int v_now_moved_length, .ref q_now_moved_stack, .ref q_now_moved_answers, .int v_now_moved_side, .int v_now_moved_round, .ref q_now_moved_draft, .int v_now_moved_drafted, .ref q_now_moved_held, .int v_now_moved_holding, .int v_now_moved_open, .int v_now_moved_digits, .int v_now_moved_wantsOperand])), (q_now_moved_answers, .inl (c 0, n_now_moved_answers, .inl w_21)), (q_now_moved_stack, .inl (c 0, 50, .inl w_22)), (q_now_moved_steps, .inl (c 0, 50, .inl v_now_moved_steps)), (q_now_seen, .inr (3, [.ref (c (10 + s_now_seen_names)), .ref q_now_seen_steps, .int v_now_seen_length, .ref q_now_seen_stack, .ref q_now_seen_answers, .int v_now_seen_side, .int v_now_seen_round, .ref q_now_seen_draft, .int v_now_seen_drafted, .ref q_now_seen_held, .int v_now_seen_holding, .int v_now_seen_open, .int v_now_seen_digits, .int v_now_seen_wantsOperand])), (q_now_seen_answers, .inl (c 0, n_now_seen_answers, .inl w_25)), (q_now_seen_stack, .inl (c 0, 50, .inl w_26)), (q_now_seen_steps, .inl (c 0, 50, .inl v_now_seen_steps)), (q_p1, .inr (10, [.int v_p1_rows, .int v_p1_columns, .ref q_p1_air, .ref q_p1_paste, .ref q_p1_open, .int v_p1_holes, .int v_p1_out, .int v_p1_night, .ref q_p1_met, .ref q_p1_line, .int v_p1_inLine])), (q_p1_air, .inl (c 0, 25, .inl v_p1_air)), (q_p1_open, .inl (c 0, 4, .inl v_p1_open)), (q_p1_paste, .inl (c 0, 25, .inl v_p1_paste)), (ta 0, .inr (8, [])), (ta 1, .inr (0, [])), (ta 2, .inr (4, [])), (ta 3, .inr (5, [])), (ta 4, .inr (6, [])), (ta 5, .inr (2, [])), (ta 6, .inr (1, []))]) (ms := [none, (some 0), (some 1), none, none, none, none, none, none, none, (some 2), (some 3), (some 4), (some 5), none, none, none, none, none, none, none, none, none, none, none]) hP hD hS hA ⟨rfl, rfl, rfl, rfl, rfl, rfl, trivial⟩ (by decide +kernel) ⟨rfl, rfl, rfl, rfl, rfl, rfl, rfl, rfl, rfl, rfl, rfl, rfl, rfl, rfl, rfl, rfl, rfl, rfl, rfl, rfl, rfl, rfl, rfl, rfl, rfl, trivial⟩ (va_runV (rm := rm_X10_shownBy) (ws := wsX10_shownBy) (As := [.ref q_now_seen]) (rest := [.int x5]) (gFix hF) (c_X10_shownBy l D c q_further q_now_seen q_further_air q_further_paste q_further_open q_further_met q_further_line q_now_seen_steps q_now_seen_stack q_now_seen_answers q_now_seen_draft q_now_seen_held s_now_seen_names n_now_seen_answers v_further_rows v_further_columns w_18 w_19 v_further_night v_further_inLine w_20 v_now_seen_length v_now_seen_side v_now_seen_round v_now_seen_drafted v_now_seen_holding v_now_seen_open v_now_seen_digits v_now_seen_wantsOperand v_now_seen_answers v_now_seen_stack v_now_seen_steps r_24 w_25 w_26 hc_23 H.size) (cwV 1 hts gX11_bestFrom_X10_shownBy rfl rfl rfl (by decide +kernel) ⟨Nat.le_of_ble_eq_true rfl, Nat.le_of_ble_eq_true rfl⟩) (gPreV (wc := [(q_further, .inr (10, [.int v_further_rows, .int v_further_columns, .ref q_further_air, .ref q_further_paste, .ref q_further_open, .int w_18, .int w_19, .int v_further_night, .ref q_further_met, .ref q_further_line, .int v_further_inLine])), (q_further_air, .inl (c 0, 25, .inl w_20)), (q_now_seen, .inr (3, [.ref (c (10 + s_now_seen_names)), .ref q_now_seen_steps, .int v_now_seen_length, .ref q_now_seen_stack, .ref q_now_seen_answers, .int v_now_seen_side, .int v_now_seen_round, .ref q_now_seen_draft, .int v_now_seen_drafted, .ref q_now_seen_held, .int v_now_seen_holding, .int v_now_seen_open, .int v_now_seen_digits, .int v_now_seen_wantsOperand])), (q_now_seen_answers, .inl (c 0, n_now_seen_answers, .inl v_now_seen_answers)), (q_now_seen_stack, .inl (c 0, 50, .inl v_now_seen_stack)), (q_now_seen_steps, .inl (c 0, 50, .inl v_now_seen_steps))]) (q := (RX10, TX10, 11)) (ci := 10) (q0 := 1) (isC := [1, 2, 10, 11, 12, 13]) hK hX hS hA hP hD ⟨rfl, rfl, rfl, rfl, rfl, rfl, trivial⟩ (by decide +kernel) rfl rfl) rfl rfl hl.1 rfl (lv_room (Nat.le_of_ble_eq_true rfl)) dX11_bestFrom_78 ⟨Nat.le_of_ble_eq_true rfl, Nat.le_of_ble_eq_true rfl⟩) (fun H locs hP hD hS => ?_)
        refine lv_sipush (v := 1000) hx hb dX11_bestFrom_81 (by decide) ?_
        refine lv_imul hx hb dX11_bestFrom_84 ?_
        replace h := nm_ok h
        obtain ⟨t_27, et_27, h⟩ := h
        refine gTop et_27 ?_
        refine lv_bipush (v := 10) hx hb dX11_bestFrom_85 (by decide) ?_
        refine lv_iload hx hb dX11_bestFrom_87 (lv_at hl 6 rfl) ?_
        refine lv_imul hx hb dX11_bestFrom_89 ?_
        refine lv_iadd hx hb dX11_bestFrom_90 ?_
        replace h := nm_ok h
        obtain ⟨t_28, et_28, h⟩ := h
        refine gTop et_28 ?_
        refine lv_iload hx hb dX11_bestFrom_91 (lv_at hl 7 rfl) ?_
        refine lv_iadd hx hb dX11_bestFrom_93 ?_
        replace h := nm_ok h
        obtain ⟨t_29, et_29, h⟩ := h
        refine gTop et_29 ?_
        refine va_mmin hx hb (by rw [hml]; exact hl.1.symm) hown (hts (.methodLink RX11 158 Lib.Math.min.name) (List.mem_of_getElem? (i := 4) rfl)) (hts (.static Lib.Math.min.name) (List.mem_of_getElem? (i := 5) rfl)) (hts (.initialized "java/lang/Math") (List.mem_of_getElem? (i := 6) rfl)) (hts (.code Lib.Math.min.name Lib.Math.min.code 2 (some .int)) (List.mem_of_getElem? (i := 7) rfl)) (Nat.le_of_ble_eq_true rfl) (by first | exact Nat.le_of_ble_eq_true rfl | decide) (Nat.le_of_ble_eq_true rfl) (Nat.le_of_ble_eq_true rfl) dX11_bestFrom_94 ?_
        replace h := nm_ok h
        obtain ⟨t_30, et_30, h⟩ := h
        refine gTop et_30 ?_
        refine lv_istore (lv' := [(5, .int t_30), (0, .ref q_this), (1, .ref q_p1), (2, .ref (ta k_2.toNatClampNeg)), (3, .int a_3), (4, .int x4), (6, .int x6), (7, .int x7)]) hx hb dX11_bestFrom_97 hl (by decide) rfl (fun ls hl => ?_)
        replace h := nm_ok h
        obtain ⟨t_31, et_31, h⟩ := h
        refine lv_iinc (v := t_31) (lv' := [(7, .int t_31), (5, .int t_30), (0, .ref q_this), (1, .ref q_p1), (2, .ref (ta k_2.toNatClampNeg)), (3, .int a_3), (4, .int x4), (6, .int x6)]) hx hb dX11_bestFrom_99 hl (k := 7) rfl (by rw [et_31]; rfl) (by decide) rfl (fun ls hl => ?_)
        refine lv_goto (tgt := 31) hx hb dX11_bestFrom_102 (by decide) ?_
        exact ih x4 t_30 x6 t_31 v_further_rows v_further_columns w_18 w_19 v_further_night w_20 v_further_open v_further_paste w_21 w_22 w_25 w_26 H locs hP hD hS ls (lv_sub hl [2, 3, 4, 5, 6, 1, 7, 0] rfl) h
  have t_L21 : ∀ (n : Nat), ∀ (x4 : Int32) (x5 : Int32) (x6 : Int32) (v_further_rows : Int32) (v_further_columns : Int32) (v_further_holes : Int32) (v_further_out : Int32) (v_further_night : Int32) (v_further_air : Nat → Int32) (v_further_open : Nat → Int32) (v_further_paste : Nat → Int32) (v_now_moved_answers : Nat → Int32) (v_now_moved_stack : Nat → Int32) (v_now_seen_answers : Nat → Int32) (v_now_seen_stack : Nat → Int32) (H : Heap) (locs : List Loc), va_P D gcl [(q_this, .inr (11, [.ref q_now, .ref q_kept, .int v_images, .ref q_kinds, .ref q_voice, .ref q_thought, .ref q_further, .ref q_errors, .ref q_sheetBits, .ref q_sheetLength, .ref q_numbers])), (q_further, .inr (10, [.int v_further_rows, .int v_further_columns, .ref q_further_air, .ref q_further_paste, .ref q_further_open, .int v_further_holes, .int v_further_out, .int v_further_night, .ref q_further_met, .ref q_further_line, .int v_further_inLine])), (q_further_air, .inl (c 0, 25, .inl v_further_air)), (q_further_open, .inl (c 0, 4, .inl v_further_open)), (q_further_paste, .inl (c 0, 25, .inl v_further_paste)), (q_now, .inr (7, [.ref q_now_wall, .int v_now_tools, .ref q_now_kind, .ref q_now_m, .ref q_now_tape, .int v_now_tapeLength, .ref q_now_moved, .ref q_now_seen, .int v_now_z, .ref q_now_told, .int v_now_waiting])), (q_now_moved, .inr (3, [.ref (c (10 + s_now_moved_names)), .ref q_now_moved_steps, .int v_now_moved_length, .ref q_now_moved_stack, .ref q_now_moved_answers, .int v_now_moved_side, .int v_now_moved_round, .ref q_now_moved_draft, .int v_now_moved_drafted, .ref q_now_moved_held, .int v_now_moved_holding, .int v_now_moved_open, .int v_now_moved_digits, .int v_now_moved_wantsOperand])), (q_now_moved_answers, .inl (c 0, n_now_moved_answers, .inl v_now_moved_answers)), (q_now_moved_stack, .inl (c 0, 50, .inl v_now_moved_stack)), (q_now_moved_steps, .inl (c 0, 50, .inl v_now_moved_steps)), (q_now_seen, .inr (3, [.ref (c (10 + s_now_seen_names)), .ref q_now_seen_steps, .int v_now_seen_length, .ref q_now_seen_stack, .ref q_now_seen_answers, .int v_now_seen_side, .int v_now_seen_round, .ref q_now_seen_draft, .int v_now_seen_drafted, .ref q_now_seen_held, .int v_now_seen_holding, .int v_now_seen_open, .int v_now_seen_digits, .int v_now_seen_wantsOperand])), (q_now_seen_answers, .inl (c 0, n_now_seen_answers, .inl v_now_seen_answers)), (q_now_seen_stack, .inl (c 0, 50, .inl v_now_seen_stack)), (q_now_seen_steps, .inl (c 0, 50, .inl v_now_seen_steps)), (q_p1, .inr (10, [.int v_p1_rows, .int v_p1_columns, .ref q_p1_air, .ref q_p1_paste, .ref q_p1_open, .int v_p1_holes, .int v_p1_out, .int v_p1_night, .ref q_p1_met, .ref q_p1_line, .int v_p1_inLine])), (q_p1_air, .inl (c 0, 25, .inl v_p1_air)), (q_p1_open, .inl (c 0, 4, .inl v_p1_open)), (q_p1_paste, .inl (c 0, 25, .inl v_p1_paste)), (ta 0, .inr (8, [])), (ta 1, .inr (0, [])), (ta 2, .inr (4, [])), (ta 3, .inr (5, [])), (ta 4, .inr (6, [])), (ta 5, .inr (2, [])), (ta 6, .inr (1, []))] H → va_D A [(q_this, .inr (11, [.ref q_now, .ref q_kept, .int v_images, .ref q_kinds, .ref q_voice, .ref q_thought, .ref q_further, .ref q_errors, .ref q_sheetBits, .ref q_sheetLength, .ref q_numbers])), (q_further, .inr (10, [.int v_further_rows, .int v_further_columns, .ref q_further_air, .ref q_further_paste, .ref q_further_open, .int v_further_holes, .int v_further_out, .int v_further_night, .ref q_further_met, .ref q_further_line, .int v_further_inLine])), (q_further_air, .inl (c 0, 25, .inl v_further_air)), (q_further_open, .inl (c 0, 4, .inl v_further_open)), (q_further_paste, .inl (c 0, 25, .inl v_further_paste)), (q_now, .inr (7, [.ref q_now_wall, .int v_now_tools, .ref q_now_kind, .ref q_now_m, .ref q_now_tape, .int v_now_tapeLength, .ref q_now_moved, .ref q_now_seen, .int v_now_z, .ref q_now_told, .int v_now_waiting])), (q_now_moved, .inr (3, [.ref (c (10 + s_now_moved_names)), .ref q_now_moved_steps, .int v_now_moved_length, .ref q_now_moved_stack, .ref q_now_moved_answers, .int v_now_moved_side, .int v_now_moved_round, .ref q_now_moved_draft, .int v_now_moved_drafted, .ref q_now_moved_held, .int v_now_moved_holding, .int v_now_moved_open, .int v_now_moved_digits, .int v_now_moved_wantsOperand])), (q_now_moved_answers, .inl (c 0, n_now_moved_answers, .inl v_now_moved_answers)), (q_now_moved_stack, .inl (c 0, 50, .inl v_now_moved_stack)), (q_now_moved_steps, .inl (c 0, 50, .inl v_now_moved_steps)), (q_now_seen, .inr (3, [.ref (c (10 + s_now_seen_names)), .ref q_now_seen_steps, .int v_now_seen_length, .ref q_now_seen_stack, .ref q_now_seen_answers, .int v_now_seen_side, .int v_now_seen_round, .ref q_now_seen_draft, .int v_now_seen_drafted, .ref q_now_seen_held, .int v_now_seen_holding, .int v_now_seen_open, .int v_now_seen_digits, .int v_now_seen_wantsOperand])), (q_now_seen_answers, .inl (c 0, n_now_seen_answers, .inl v_now_seen_answers)), (q_now_seen_stack, .inl (c 0, 50, .inl v_now_seen_stack)), (q_now_seen_steps, .inl (c 0, 50, .inl v_now_seen_steps)), (q_p1, .inr (10, [.int v_p1_rows, .int v_p1_columns, .ref q_p1_air, .ref q_p1_paste, .ref q_p1_open, .int v_p1_holes, .int v_p1_out, .int v_p1_night, .ref q_p1_met, .ref q_p1_line, .int v_p1_inLine])), (q_p1_air, .inl (c 0, 25, .inl v_p1_air)), (q_p1_open, .inl (c 0, 4, .inl v_p1_open)), (q_p1_paste, .inl (c 0, 25, .inl v_p1_paste)), (ta 0, .inr (8, [])), (ta 1, .inr (0, [])), (ta 2, .inr (4, [])), (ta 3, .inr (5, [])), (ta 4, .inr (6, [])), (ta 5, .inr (2, [])), (ta 6, .inr (1, []))] → va_S A s.heap H locs → ∀ ls, lv_has ls 8 [(0, .ref q_this), (1, .ref q_p1), (2, .ref (ta k_2.toNatClampNeg)), (3, .int a_3), (4, .int x4), (5, .int x5), (6, .int x6)] → f_X11_bestFrom_L21 a_3 k_2 n_now_moved_answers n_now_seen_answers v_now_moved_length v_now_moved_side v_now_moved_round v_now_moved_steps v_now_seen_length v_now_seen_side v_now_seen_round v_now_seen_steps v_p1_air n x4 x5 x6 v_further_rows v_further_columns v_further_holes v_further_out v_further_night v_further_air v_further_open v_further_paste v_now_moved_answers v_now_moved_stack v_now_seen_answers v_now_seen_stack = some (o_r, o_v_further_rows, o_v_further_columns, o_v_further_holes, o_v_further_out, o_v_further_night, o_v_further_air, o_v_further_open, o_v_further_paste, o_v_now_moved_answers, o_v_now_moved_stack, o_v_now_seen_answers, o_v_now_seen_stack) → W p l e (headSpec wsX11_bestFrom rm_X11_bestFrom).room s m [.ref q_this, .ref q_p1, .ref (ta k_2.toNatClampNeg), .int a_3].toArray below meth co H locs 0 0 (gQI D [(q_this, .inr (11, [.ref q_now, .ref q_kept, .int v_images, .ref q_kinds, .ref q_voice, .ref q_thought, .ref q_further, .ref q_errors, .ref q_sheetBits, .ref q_sheetLength, .ref q_numbers])), (q_further, .inr (10, [.int o_v_further_rows, .int o_v_further_columns, .ref q_further_air, .ref q_further_paste, .ref q_further_open, .int o_v_further_holes, .int o_v_further_out, .int o_v_further_night, .ref q_further_met, .ref q_further_line, .int v_further_inLine])), (q_further_air, .inl (c 0, 25, .inl o_v_further_air)), (q_further_open, .inl (c 0, 4, .inl o_v_further_open)), (q_further_paste, .inl (c 0, 25, .inl o_v_further_paste)), (q_now, .inr (7, [.ref q_now_wall, .int v_now_tools, .ref q_now_kind, .ref q_now_m, .ref q_now_tape, .int v_now_tapeLength, .ref q_now_moved, .ref q_now_seen, .int v_now_z, .ref q_now_told, .int v_now_waiting])), (q_now_moved, .inr (3, [.ref (c (10 + s_now_moved_names)), .ref q_now_moved_steps, .int v_now_moved_length, .ref q_now_moved_stack, .ref q_now_moved_answers, .int v_now_moved_side, .int v_now_moved_round, .ref q_now_moved_draft, .int v_now_moved_drafted, .ref q_now_moved_held, .int v_now_moved_holding, .int v_now_moved_open, .int v_now_moved_digits, .int v_now_moved_wantsOperand])), (q_now_moved_answers, .inl (c 0, n_now_moved_answers, .inl o_v_now_moved_answers)), (q_now_moved_stack, .inl (c 0, 50, .inl o_v_now_moved_stack)), (q_now_moved_steps, .inl (c 0, 50, .inl v_now_moved_steps)), (q_now_seen, .inr (3, [.ref (c (10 + s_now_seen_names)), .ref q_now_seen_steps, .int v_now_seen_length, .ref q_now_seen_stack, .ref q_now_seen_answers, .int v_now_seen_side, .int v_now_seen_round, .ref q_now_seen_draft, .int v_now_seen_drafted, .ref q_now_seen_held, .int v_now_seen_holding, .int v_now_seen_open, .int v_now_seen_digits, .int v_now_seen_wantsOperand])), (q_now_seen_answers, .inl (c 0, n_now_seen_answers, .inl o_v_now_seen_answers)), (q_now_seen_stack, .inl (c 0, 50, .inl o_v_now_seen_stack)), (q_now_seen_steps, .inl (c 0, 50, .inl v_now_seen_steps)), (q_p1, .inr (10, [.int v_p1_rows, .int v_p1_columns, .ref q_p1_air, .ref q_p1_paste, .ref q_p1_open, .int v_p1_holes, .int v_p1_out, .int v_p1_night, .ref q_p1_met, .ref q_p1_line, .int v_p1_inLine])), (q_p1_air, .inl (c 0, 25, .inl v_p1_air)), (q_p1_open, .inl (c 0, 4, .inl v_p1_open)), (q_p1_paste, .inl (c 0, 25, .inl v_p1_paste)), (ta 0, .inr (8, [])), (ta 1, .inr (0, [])), (ta 2, .inr (4, [])), (ta 3, .inr (5, [])), (ta 4, .inr (6, [])), (ta 5, .inr (2, [])), (ta 6, .inr (1, []))] o_r A below [.ref q_this, .ref q_p1, .ref (ta k_2.toNatClampNeg), .int a_3] s) (F0 m 21 ls []) := by
    intro n
    induction n with
    | zero => intro x4 x5 x6 v_further_rows v_further_columns v_further_holes v_further_out v_further_night v_further_air v_further_open v_further_paste v_now_moved_answers v_now_moved_stack v_now_seen_answers v_now_seen_stack H locs hP hD hS ls hl h; exact no_ok h
    | succ n ih =>
      intro x4 x5 x6 v_further_rows v_further_columns v_further_holes v_further_out v_further_night v_further_air v_further_open v_further_paste v_now_moved_answers v_now_moved_stack v_now_seen_answers v_now_seen_stack H locs hP hD hS ls hl h
      rw [f_X11_bestFrom_L21] at h
      refine lv_iload hx hb dX11_bestFrom_21 (lv_at hl 6 rfl) ?_
      refine lv_iload hx hb dX11_bestFrom_23 (lv_at hl 4 rfl) ?_
      refine lv_icmp_ge (tgt := 111) hx hb dX11_bestFrom_25 (by decide) (fun c_12 => ?_) (fun c_12 => ?_)
      · replace h := it_t c_12 h
        refine lv_iload hx hb dX11_bestFrom_111 (lv_at hl 5 rfl) ?_
        replace h := so13 h
        obtain ⟨z0, z1, z2, z3, z4, z5, z6, z7, z8, z9, z10, z11, z12⟩ := h
        subst z0 z1 z2 z3 z4 z5 z6 z7 z8 z9 z10 z11 z12
        exact gIret hF hP hD hS rfl dX11_bestFrom_113
      · replace h := it_f c_12 h
        refine lv_iconst (v := 0) hx hb dX11_bestFrom_28 (by decide) ?_
        refine lv_istore (lv' := [(7, .int 0), (0, .ref q_this), (1, .ref q_p1), (2, .ref (ta k_2.toNatClampNeg)), (3, .int a_3), (4, .int x4), (5, .int x5), (6, .int x6)]) hx hb dX11_bestFrom_29 hl (by decide) rfl (fun ls hl => ?_)
        exact t_L31 _ ih gFuel x4 x5 x6 0 v_further_rows v_further_columns v_further_holes v_further_out v_further_night v_further_air v_further_open v_further_paste v_now_moved_answers v_now_moved_stack v_now_seen_answers v_now_seen_stack H locs hP hD hS ls (lv_sub hl [1, 2, 3, 4, 5, 6, 7, 0] rfl) h
  unfold f_X11_bestFrom at h
  refine lv_aload_n hx hb dX11_bestFrom_0 rfl (lv_at hl 1 rfl) ?_
  replace h := kb_ok h
  obtain ⟨r_2, hc_1, h⟩ := h
  refine gCallIr (isC := [14]) (wc := [(q_p1, .inr (10, [.int v_p1_rows, .int v_p1_columns, .ref q_p1_air, .ref q_p1_paste, .ref q_p1_open, .int v_p1_holes, .int v_p1_out, .int v_p1_night, .ref q_p1_met, .ref q_p1_line, .int v_p1_inLine]))]) hP hD hS hA ⟨rfl, trivial⟩ (va_runV (rm := rm_X10_cells) (ws := wsX10_cells) (As := []) (rest := []) (gFix hF) (c_X10_cells l D c q_p1 q_p1_air q_p1_paste q_p1_open q_p1_met q_p1_line v_p1_rows v_p1_columns v_p1_holes v_p1_out v_p1_night v_p1_inLine r_2 hc_1 s.heap.size) (cwV 0 hts gX11_bestFrom_X10_cells rfl rfl rfl (by decide +kernel) ⟨Nat.le_of_ble_eq_true rfl, Nat.le_of_ble_eq_true rfl⟩) (gPreV (wc := [(q_p1, .inr (10, [.int v_p1_rows, .int v_p1_columns, .ref q_p1_air, .ref q_p1_paste, .ref q_p1_open, .int v_p1_holes, .int v_p1_out, .int v_p1_night, .ref q_p1_met, .ref q_p1_line, .int v_p1_inLine]))]) (q := (RX10, TX10, 11)) (ci := 10) (q0 := 14) (isC := [14]) hK hX hS hA hP hD ⟨rfl, trivial⟩ (by decide +kernel) rfl rfl) rfl rfl hl.1 rfl (lv_room (Nat.le_of_ble_eq_true rfl)) dX11_bestFrom_1 ⟨Nat.le_of_ble_eq_true rfl, Nat.le_of_ble_eq_true rfl⟩) (fun H locs hP hS => ?_)
  refine lv_istore (lv' := [(4, .int r_2), (0, .ref q_this), (1, .ref q_p1), (2, .ref (ta k_2.toNatClampNeg)), (3, .int a_3)]) hx hb dX11_bestFrom_4 hl (by decide) rfl (fun ls hl => ?_)
  refine lv_ldc (v := 2147483647) hx hb hown (hts (.constant RX11 235 (2147483647)) (List.mem_of_getElem? (i := 1) rfl)) dX11_bestFrom_6 ?_
  refine lv_istore (lv' := [(5, .int 2147483647), (4, .int r_2), (0, .ref q_this), (1, .ref q_p1), (2, .ref (ta k_2.toNatClampNeg)), (3, .int a_3)]) hx hb dX11_bestFrom_8 hl (by decide) rfl (fun ls hl => ?_)
  refine lv_aload_n hx hb dX11_bestFrom_10 rfl (lv_at hl 2 rfl) ?_
  refine va_get (D := D) (ci := 11) (v := .ref q_further) (C := RX11) (T := TX11) (N := 11) hx hb hts in_X11_bestFrom_X11 hown hK.1 hP 0 rfl rfl 6 (by decide) (hts (.fieldLink RX11 60 "PaperBubbles" "further" "LPaperBubbles$Wall;") (List.mem_of_getElem? (i := 2) rfl)) (fun _ h9 => h9) rfl dX11_bestFrom_11 ?_
  refine lv_aload_n hx hb dX11_bestFrom_14 rfl (lv_at hl 3 rfl) ?_
  replace h := kb8_ok h
  obtain ⟨w_4, w_5, w_6, w_7, w_8, w_9, w_10, w_11, hc_3, h⟩ := h
  refine gCallV (isC := [1, 2, 3, 4, 14, 15, 16, 17]) (wc := [(q_further, .inr (10, [.int v_further_rows, .int v_further_columns, .ref q_further_air, .ref q_further_paste, .ref q_further_open, .int v_further_holes, .int v_further_out, .int v_further_night, .ref q_further_met, .ref q_further_line, .int v_further_inLine])), (q_further_air, .inl (c 0, 25, .inl v_further_air)), (q_further_open, .inl (c 0, 4, .inl v_further_open)), (q_further_paste, .inl (c 0, 25, .inl v_further_paste)), (q_p1, .inr (10, [.int v_p1_rows, .int v_p1_columns, .ref q_p1_air, .ref q_p1_paste, .ref q_p1_open, .int v_p1_holes, .int v_p1_out, .int v_p1_night, .ref q_p1_met, .ref q_p1_line, .int v_p1_inLine])), (q_p1_air, .inl (c 0, 25, .inl v_p1_air)), (q_p1_open, .inl (c 0, 4, .inl v_p1_open)), (q_p1_paste, .inl (c 0, 25, .inl v_p1_paste))]) (w1 := [(q_further, .inr (10, [.int w_4, .int w_5, .ref q_further_air, .ref q_further_paste, .ref q_further_open, .int w_6, .int w_7, .int w_8, .ref q_further_met, .ref q_further_line, .int v_further_inLine])), (q_further_air, .inl (c 0, 25, .inl w_9)), (q_further_open, .inl (c 0, 4, .inl w_10)), (q_further_paste, .inl (c 0, 25, .inl w_11)), (q_p1, .inr (10, [.int v_p1_rows, .int v_p1_columns, .ref q_p1_air, .ref q_p1_paste, .ref q_p1_open, .int v_p1_holes, .int v_p1_out, .int v_p1_night, .ref q_p1_met, .ref q_p1_line, .int v_p1_inLine])), (q_p1_air, .inl (c 0, 25, .inl v_p1_air)), (q_p1_open, .inl (c 0, 4, .inl v_p1_open)), (q_p1_paste, .inl (c 0, 25, .inl v_p1_paste))]) (ws2 := [(q_this, .inr (11, [.ref q_now, .ref q_kept, .int v_images, .ref q_kinds, .ref q_voice, .ref q_thought, .ref q_further, .ref q_errors, .ref q_sheetBits, .ref q_sheetLength, .ref q_numbers])), (q_further, .inr (10, [.int w_4, .int w_5, .ref q_further_air, .ref q_further_paste, .ref q_further_open, .int w_6, .int w_7, .int w_8, .ref q_further_met, .ref q_further_line, .int v_further_inLine])), (q_further_air, .inl (c 0, 25, .inl w_9)), (q_further_open, .inl (c 0, 4, .inl w_10)), (q_further_paste, .inl (c 0, 25, .inl w_11)), (q_now, .inr (7, [.ref q_now_wall, .int v_now_tools, .ref q_now_kind, .ref q_now_m, .ref q_now_tape, .int v_now_tapeLength, .ref q_now_moved, .ref q_now_seen, .int v_now_z, .ref q_now_told, .int v_now_waiting])), (q_now_moved, .inr (3, [.ref (c (10 + s_now_moved_names)), .ref q_now_moved_steps, .int v_now_moved_length, .ref q_now_moved_stack, .ref q_now_moved_answers, .int v_now_moved_side, .int v_now_moved_round, .ref q_now_moved_draft, .int v_now_moved_drafted, .ref q_now_moved_held, .int v_now_moved_holding, .int v_now_moved_open, .int v_now_moved_digits, .int v_now_moved_wantsOperand])), (q_now_moved_answers, .inl (c 0, n_now_moved_answers, .inl v_now_moved_answers)), (q_now_moved_stack, .inl (c 0, 50, .inl v_now_moved_stack)), (q_now_moved_steps, .inl (c 0, 50, .inl v_now_moved_steps)), (q_now_seen, .inr (3, [.ref (c (10 + s_now_seen_names)), .ref q_now_seen_steps, .int v_now_seen_length, .ref q_now_seen_stack, .ref q_now_seen_answers, .int v_now_seen_side, .int v_now_seen_round, .ref q_now_seen_draft, .int v_now_seen_drafted, .ref q_now_seen_held, .int v_now_seen_holding, .int v_now_seen_open, .int v_now_seen_digits, .int v_now_seen_wantsOperand])), (q_now_seen_answers, .inl (c 0, n_now_seen_answers, .inl v_now_seen_answers)), (q_now_seen_stack, .inl (c 0, 50, .inl v_now_seen_stack)), (q_now_seen_steps, .inl (c 0, 50, .inl v_now_seen_steps)), (q_p1, .inr (10, [.int v_p1_rows, .int v_p1_columns, .ref q_p1_air, .ref q_p1_paste, .ref q_p1_open, .int v_p1_holes, .int v_p1_out, .int v_p1_night, .ref q_p1_met, .ref q_p1_line, .int v_p1_inLine])), (q_p1_air, .inl (c 0, 25, .inl v_p1_air)), (q_p1_open, .inl (c 0, 4, .inl v_p1_open)), (q_p1_paste, .inl (c 0, 25, .inl v_p1_paste)), (ta 0, .inr (8, [])), (ta 1, .inr (0, [])), (ta 2, .inr (4, [])), (ta 3, .inr (5, [])), (ta 4, .inr (6, [])), (ta 5, .inr (2, [])), (ta 6, .inr (1, []))]) (ms := [none, (some 0), (some 1), (some 2), (some 3), none, none, none, none, none, none, none, none, none, (some 4), (some 5), (some 6), (some 7), none, none, none, none, none, none, none]) hP hD hS hA ⟨rfl, rfl, rfl, rfl, rfl, rfl, rfl, rfl, trivial⟩ (by decide +kernel) ⟨rfl, rfl, rfl, rfl, rfl, rfl, rfl, rfl, rfl, rfl, rfl, rfl, rfl, rfl, rfl, rfl, rfl, rfl, rfl, rfl, rfl, rfl, rfl, rfl, rfl, trivial⟩ (va_runV (rm := rm_X10_copy) (ws := wsX10_copy) (As := [.ref q_p1]) (rest := []) (gFix hF) (c_X10_copy l D c q_further q_p1 q_further_air q_further_paste q_further_open q_further_met q_further_line q_p1_air q_p1_paste q_p1_open q_p1_met q_p1_line v_further_rows v_further_columns v_further_holes v_further_out v_further_night v_further_inLine v_further_air v_further_open v_further_paste v_p1_rows v_p1_columns v_p1_holes v_p1_out v_p1_night v_p1_inLine v_p1_air v_p1_open v_p1_paste w_4 w_5 w_6 w_7 w_8 w_9 w_10 w_11 hc_3 H.size) (cwV 1 hts gX11_bestFrom_X10_copy rfl rfl rfl (by decide +kernel) ⟨Nat.le_of_ble_eq_true rfl, Nat.le_of_ble_eq_true rfl⟩) (gPreV (wc := [(q_further, .inr (10, [.int v_further_rows, .int v_further_columns, .ref q_further_air, .ref q_further_paste, .ref q_further_open, .int v_further_holes, .int v_further_out, .int v_further_night, .ref q_further_met, .ref q_further_line, .int v_further_inLine])), (q_further_air, .inl (c 0, 25, .inl v_further_air)), (q_further_open, .inl (c 0, 4, .inl v_further_open)), (q_further_paste, .inl (c 0, 25, .inl v_further_paste)), (q_p1, .inr (10, [.int v_p1_rows, .int v_p1_columns, .ref q_p1_air, .ref q_p1_paste, .ref q_p1_open, .int v_p1_holes, .int v_p1_out, .int v_p1_night, .ref q_p1_met, .ref q_p1_line, .int v_p1_inLine])), (q_p1_air, .inl (c 0, 25, .inl v_p1_air)), (q_p1_open, .inl (c 0, 4, .inl v_p1_open)), (q_p1_paste, .inl (c 0, 25, .inl v_p1_paste))]) (q := (RX10, TX10, 11)) (ci := 10) (q0 := 1) (isC := [1, 2, 3, 4, 14, 15, 16, 17]) hK hX hS hA hP hD ⟨rfl, rfl, rfl, rfl, rfl, rfl, rfl, rfl, trivial⟩ (by decide +kernel) rfl rfl) rfl rfl hl.1 rfl (lv_room (Nat.le_of_ble_eq_true rfl)) dX11_bestFrom_15 ⟨Nat.le_of_ble_eq_true rfl, Nat.le_of_ble_eq_true rfl⟩) (fun H locs hP hD hS => ?_)
  refine lv_iconst (v := 0) hx hb dX11_bestFrom_18 (by decide) ?_
  refine lv_istore (lv' := [(6, .int 0), (5, .int 2147483647), (4, .int r_2), (0, .ref q_this), (1, .ref q_p1), (2, .ref (ta k_2.toNatClampNeg)), (3, .int a_3)]) hx hb dX11_bestFrom_19 hl (by decide) rfl (fun ls hl => ?_)
  exact t_L21 gFuel r_2 2147483647 0 w_4 w_5 w_6 w_7 w_8 w_9 w_10 w_11 v_now_moved_answers v_now_moved_stack v_now_seen_answers v_now_seen_stack H locs hP hD hS ls (lv_sub hl [3, 4, 5, 6, 2, 1, 0] rfl) h
