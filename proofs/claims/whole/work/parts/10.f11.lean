set_option maxRecDepth 20000 in
theorem in_X11_told_X11 : ∀ w ∈ u_ws RX11 TX11 11, w ∈ wsX11_told := by decide +kernel
def f_X11_told (a_1 : Int32) (v_errors : Nat → Int32) : Option (Int32 × (Nat → Int32)) :=
  kb (f_X11_within a_1 1 5) fun r_2 =>
  if r_2 = 0 then
    kb2 (f_X11_error 1 v_errors) fun r_5 w_6 =>
    some (r_5, w_6)
  else
    chi a_1 6 <|
    nm (v_errors a_1.toNatClampNeg : Int32) fun t_8 =>
    some (t_8, v_errors)

abbrev rm_X11_told : Room := { frames := 2, cells := 0, slots := 0, locals := 43 }
set_option maxHeartbeats 4000000 in
set_option maxRecDepth 100000 in
theorem c_X11_told (l : Launch) (D : va_G) (c : Nat → ClassId) (q_this q_now q_kept q_kinds q_voice q_thought q_further q_errors q_sheetBits q_sheetLength q_numbers : Nat) (a_1 : Int32) (v_images : Int32) (v_errors : Nat → Int32) (o_r : Int32) (o_v_errors : Nat → Int32) (h : f_X11_told a_1 v_errors = some (o_r, o_v_errors)) : gMI l yX11_told wsX11_told rm_X11_told D c [.ref q_this, .int a_1] [(q_this, .inr (11, [.ref q_now, .ref q_kept, .int v_images, .ref q_kinds, .ref q_voice, .ref q_thought, .ref q_further, .ref q_errors, .ref q_sheetBits, .ref q_sheetLength, .ref q_numbers])), (q_errors, .inl (c 0, 6, .inl v_errors))] [(q_this, .inr (11, [.ref q_now, .ref q_kept, .int v_images, .ref q_kinds, .ref q_voice, .ref q_thought, .ref q_further, .ref q_errors, .ref q_sheetBits, .ref q_sheetLength, .ref q_numbers])), (q_errors, .inl (c 0, 6, .inl o_v_errors))] o_r := by
  refine gMI_of (cc := cX11_told) (maxL := 2) (rt := (some .int)) (by decide +kernel) rfl (Nat.le_of_ble_eq_true rfl) ?_
  intro p e s m below meth co A hF hK hX hP hD hA hS ls hl
  obtain ⟨hx, hb, hr, hts, hown, hlocks, hml⟩ := id hF
  have hl : lv_has ls 2 [(0, .ref q_this), (1, .int a_1)] := hl
  unfold f_X11_told at h
  refine lv_iload_n hx hb dX11_told_0 rfl (lv_at hl 1 rfl) ?_
  refine lv_iconst (v := 1) hx hb dX11_told_1 (by decide) ?_
  refine lv_iconst (v := 5) hx hb dX11_told_2 (by decide) ?_
  obtain ⟨r_2, hc_1, h⟩ := kb_ok h
  refine gCallIr (isC := []) (wc := []) hP hD hS hA trivial (va_runS (rm := rm_X11_within) (ws := wsX11_within) (As := [.int a_1, .int 1, .int 5]) (rest := []) (gFix hF) (c_X11_within l D c a_1 1 5 r_2 hc_1 s.heap.size) (va_cwS 3 hts gX11_told_X11_within rfl rfl rfl (by decide +kernel) ⟨Nat.le_of_ble_eq_true rfl, Nat.le_of_ble_eq_true rfl⟩) (gPreS (wc := []) (isC := []) hK hX hS hA hP hD trivial (by decide +kernel)) rfl rfl hl.1 rfl (lv_room (Nat.le_of_ble_eq_true rfl)) dX11_told_3 ⟨Nat.le_of_ble_eq_true rfl, Nat.le_of_ble_eq_true rfl⟩) (fun H locs hP hS => ?_)
  refine lv_if_eq (tgt := 18) hx hb dX11_told_6 (by decide) (fun c_3 => ?_) (fun c_3 => ?_)
  · have h := it_t c_3 h
    refine lv_aload_n hx hb dX11_told_18 rfl (lv_at hl 0 rfl) ?_
    refine lv_iconst (v := 1) hx hb dX11_told_19 (by decide) ?_
    obtain ⟨r_5, w_6, hc_4, h⟩ := kb2_ok h
    refine gCallI (isC := [0, 1]) (wc := [(q_this, .inr (11, [.ref q_now, .ref q_kept, .int v_images, .ref q_kinds, .ref q_voice, .ref q_thought, .ref q_further, .ref q_errors, .ref q_sheetBits, .ref q_sheetLength, .ref q_numbers])), (q_errors, .inl (c 0, 6, .inl v_errors))]) (w1 := [(q_this, .inr (11, [.ref q_now, .ref q_kept, .int v_images, .ref q_kinds, .ref q_voice, .ref q_thought, .ref q_further, .ref q_errors, .ref q_sheetBits, .ref q_sheetLength, .ref q_numbers])), (q_errors, .inl (c 0, 6, .inl w_6))]) (ws2 := [(q_this, .inr (11, [.ref q_now, .ref q_kept, .int v_images, .ref q_kinds, .ref q_voice, .ref q_thought, .ref q_further, .ref q_errors, .ref q_sheetBits, .ref q_sheetLength, .ref q_numbers])), (q_errors, .inl (c 0, 6, .inl w_6))]) (ms := [(some 0), (some 1)]) hP hD hS hA ⟨rfl, rfl, trivial⟩ (by decide +kernel) ⟨rfl, rfl, trivial⟩ (va_runV (rm := rm_X11_error) (ws := wsX11_error) (As := [.int 1]) (rest := []) (gFix hF) (c_X11_error l D c q_this q_now q_kept q_kinds q_voice q_thought q_further q_errors q_sheetBits q_sheetLength q_numbers 1 v_images v_errors r_5 w_6 hc_4 H.size) (cwV 1 hts gX11_told_X11_error rfl rfl rfl (by decide +kernel) ⟨Nat.le_of_ble_eq_true rfl, Nat.le_of_ble_eq_true rfl⟩) (gPreV (wc := [(q_this, .inr (11, [.ref q_now, .ref q_kept, .int v_images, .ref q_kinds, .ref q_voice, .ref q_thought, .ref q_further, .ref q_errors, .ref q_sheetBits, .ref q_sheetLength, .ref q_numbers])), (q_errors, .inl (c 0, 6, .inl v_errors))]) (q := (RX11, TX11, 11)) (ci := 11) (q0 := 0) (isC := [0, 1]) hK hX hS hA hP hD ⟨rfl, rfl, trivial⟩ (by decide +kernel) rfl rfl) rfl rfl hl.1 rfl (lv_room (Nat.le_of_ble_eq_true rfl)) dX11_told_20 ⟨Nat.le_of_ble_eq_true rfl, Nat.le_of_ble_eq_true rfl⟩) (fun H locs hP hD hS => ?_)
    obtain ⟨z0, z1⟩ := so2 h
    subst z0 z1
    exact gIret hF hP hD hS rfl dX11_told_23
  · have h := it_f c_3 h
    refine lv_aload_n hx hb dX11_told_9 rfl (lv_at hl 0 rfl) ?_
    refine va_get (D := D) (ci := 11) (v := .ref q_errors) (C := RX11) (T := TX11) (N := 11) hx hb hts in_X11_told_X11 hown hK.1 hP 0 rfl rfl 7 (by decide) (hts (.fieldLink RX11 63 "PaperBubbles" "errors" "[I") (List.mem_of_getElem? (i := 1) rfl)) (fun _ h9 => h9) rfl dX11_told_10 ?_
    refine lv_iload_n hx hb dX11_told_13 rfl (lv_at hl 1 rfl) ?_
    obtain ⟨hi_7, h⟩ := chi_ok h
    refine va_iald hx hb hK.1 hP 1 0 rfl rfl hi_7 dX11_told_14 ?_
    obtain ⟨t_8, et_8, h⟩ := nm_ok h
    refine gTop et_8 ?_
    refine lv_goto (tgt := 23) hx hb dX11_told_15 (by decide) ?_
    obtain ⟨z0, z1⟩ := so2 h
    subst z0 z1
    exact gIret hF hP hD hS rfl dX11_told_23
set_option maxRecDepth 20000 in
theorem in_X11_tool_X11 : ∀ w ∈ u_ws RX11 TX11 11, w ∈ wsX11_tool := by decide +kernel
set_option maxRecDepth 20000 in
theorem in_X11_tool_X7 : ∀ w ∈ u_ws RX7 TX7 11, w ∈ wsX11_tool := by decide +kernel
def f_X11_tool (a_1 : Int32) (v_errors : Nat → Int32) (v_now_tools : Int32) (v_now_kind : Nat → Int32) (v_now_m : Nat → Int32) : Option (Int32 × (Nat → Int32) × Int32 × (Nat → Int32) × (Nat → Int32)) :=
  kb (f_X11_within a_1 0 69) fun r_2 =>
  if r_2 = 0 then
    kb2 (f_X11_error 1 v_errors) fun r_20 w_21 =>
    some (r_20, w_21, v_now_tools, v_now_kind, v_now_m)
  else
    kb (f_X11_within v_now_tools 0 5) fun r_5 =>
    if r_5 = 0 then
      kb2 (f_X11_error 4 v_errors) fun r_17 w_18 =>
      some (r_17, w_18, v_now_tools, v_now_kind, v_now_m)
    else
      chz 10 <|
      nm (a_1 / 10 : Int32) fun t_8 =>
      chi v_now_tools 6 <|
      nm (upd v_now_kind v_now_tools.toNatClampNeg t_8) fun w_10 =>
      chz 10 <|
      nm (a_1 - a_1 / 10 * 10 : Int32) fun t_12 =>
      chi v_now_tools 6 <|
      nm (upd v_now_m v_now_tools.toNatClampNeg t_12) fun w_14 =>
      nm (v_now_tools + 1 : Int32) fun t_15 =>
      some (v_now_tools, v_errors, t_15, w_10, w_14)

abbrev rm_X11_tool : Room := { frames := 2, cells := 0, slots := 0, locals := 43 }
set_option maxHeartbeats 4000000 in
set_option maxRecDepth 100000 in
theorem c_X11_tool (l : Launch) (D : va_G) (c : Nat → ClassId) (q_this q_now q_kept q_kinds q_voice q_thought q_further q_errors q_sheetBits q_sheetLength q_numbers q_now_wall q_now_kind q_now_m q_now_tape q_now_moved q_now_seen q_now_told : Nat) (a_1 : Int32) (v_images : Int32) (v_errors : Nat → Int32) (v_now_tools : Int32) (v_now_tapeLength : Int32) (v_now_z : Int32) (v_now_waiting : Int32) (v_now_kind : Nat → Int32) (v_now_m : Nat → Int32) (o_r : Int32) (o_v_errors : Nat → Int32) (o_v_now_tools : Int32) (o_v_now_kind : Nat → Int32) (o_v_now_m : Nat → Int32) (h : f_X11_tool a_1 v_errors v_now_tools v_now_kind v_now_m = some (o_r, o_v_errors, o_v_now_tools, o_v_now_kind, o_v_now_m)) : gMI l yX11_tool wsX11_tool rm_X11_tool D c [.ref q_this, .int a_1] [(q_this, .inr (11, [.ref q_now, .ref q_kept, .int v_images, .ref q_kinds, .ref q_voice, .ref q_thought, .ref q_further, .ref q_errors, .ref q_sheetBits, .ref q_sheetLength, .ref q_numbers])), (q_errors, .inl (c 0, 6, .inl v_errors)), (q_now, .inr (7, [.ref q_now_wall, .int v_now_tools, .ref q_now_kind, .ref q_now_m, .ref q_now_tape, .int v_now_tapeLength, .ref q_now_moved, .ref q_now_seen, .int v_now_z, .ref q_now_told, .int v_now_waiting])), (q_now_kind, .inl (c 0, 6, .inl v_now_kind)), (q_now_m, .inl (c 0, 6, .inl v_now_m))] [(q_this, .inr (11, [.ref q_now, .ref q_kept, .int v_images, .ref q_kinds, .ref q_voice, .ref q_thought, .ref q_further, .ref q_errors, .ref q_sheetBits, .ref q_sheetLength, .ref q_numbers])), (q_errors, .inl (c 0, 6, .inl o_v_errors)), (q_now, .inr (7, [.ref q_now_wall, .int o_v_now_tools, .ref q_now_kind, .ref q_now_m, .ref q_now_tape, .int v_now_tapeLength, .ref q_now_moved, .ref q_now_seen, .int v_now_z, .ref q_now_told, .int v_now_waiting])), (q_now_kind, .inl (c 0, 6, .inl o_v_now_kind)), (q_now_m, .inl (c 0, 6, .inl o_v_now_m))] o_r := by
  refine gMI_of (cc := cX11_tool) (maxL := 3) (rt := (some .int)) (by decide +kernel) rfl (Nat.le_of_ble_eq_true rfl) ?_
  intro p e s m below meth co A hF hK hX hP hD hA hS ls hl
  obtain ⟨hx, hb, hr, hts, hown, hlocks, hml⟩ := id hF
  have hl : lv_has ls 3 [(0, .ref q_this), (1, .int a_1)] := hl
  unfold f_X11_tool at h
  refine lv_iload_n hx hb dX11_tool_0 rfl (lv_at hl 1 rfl) ?_
  refine lv_iconst (v := 0) hx hb dX11_tool_1 (by decide) ?_
  refine lv_bipush (v := 69) hx hb dX11_tool_2 (by decide) ?_
  obtain ⟨r_2, hc_1, h⟩ := kb_ok h
  refine gCallIr (isC := []) (wc := []) hP hD hS hA trivial (va_runS (rm := rm_X11_within) (ws := wsX11_within) (As := [.int a_1, .int 0, .int 69]) (rest := []) (gFix hF) (c_X11_within l D c a_1 0 69 r_2 hc_1 s.heap.size) (va_cwS 3 hts gX11_tool_X11_within rfl rfl rfl (by decide +kernel) ⟨Nat.le_of_ble_eq_true rfl, Nat.le_of_ble_eq_true rfl⟩) (gPreS (wc := []) (isC := []) hK hX hS hA hP hD trivial (by decide +kernel)) rfl rfl hl.1 rfl (lv_room (Nat.le_of_ble_eq_true rfl)) dX11_tool_4 ⟨Nat.le_of_ble_eq_true rfl, Nat.le_of_ble_eq_true rfl⟩) (fun H locs hP hS => ?_)
  refine lv_if_ne (tgt := 16) hx hb dX11_tool_7 (by decide) (fun c_3 => ?_) (fun c_3 => ?_)
  · have h := it_f c_3 h
    refine lv_aload_n hx hb dX11_tool_16 rfl (lv_at hl 0 rfl) ?_
    refine va_get (D := D) (ci := 11) (v := .ref q_now) (C := RX11) (T := TX11) (N := 11) hx hb hts in_X11_tool_X11 hown hK.1 hP 0 rfl rfl 0 (by decide) (hts (.fieldLink RX11 14 "PaperBubbles" "now" "LPaperBubbles$State;") (List.mem_of_getElem? (i := 1) rfl)) (fun _ h9 => h9) rfl dX11_tool_17 ?_
    refine va_getN (D := D) (ci := 7) (v := .int v_now_tools) (C := RX7) (T := TX7) (N := 11) hx hb hts in_X11_tool_X7 hown hK.1 hP 2 rfl rfl 1 (by decide) (va_Nw.use rfl (hK.2 (.fieldLinkNest "PaperBubbles" 132 "PaperBubbles$State" "tools" "I" "PaperBubbles") (List.mem_of_getElem? (i := 4) rfl))) (fun _ h9 => h9) rfl dX11_tool_20 ?_
    refine lv_istore_n (lv' := [(2, .int v_now_tools), (0, .ref q_this), (1, .int a_1)]) hx hb dX11_tool_23 rfl hl (by decide) rfl (fun ls hl => ?_)
    refine lv_iload_n hx hb dX11_tool_24 rfl (lv_at hl 0 rfl) ?_
    refine lv_iconst (v := 0) hx hb dX11_tool_25 (by decide) ?_
    refine lv_iconst (v := 5) hx hb dX11_tool_26 (by decide) ?_
    obtain ⟨r_5, hc_4, h⟩ := kb_ok h
    refine gCallIr (isC := []) (wc := []) hP hD hS hA trivial (va_runS (rm := rm_X11_within) (ws := wsX11_within) (As := [.int v_now_tools, .int 0, .int 5]) (rest := []) (gFix hF) (c_X11_within l D c v_now_tools 0 5 r_5 hc_4 H.size) (va_cwS 3 hts gX11_tool_X11_within rfl rfl rfl (by decide +kernel) ⟨Nat.le_of_ble_eq_true rfl, Nat.le_of_ble_eq_true rfl⟩) (gPreS (wc := []) (isC := []) hK hX hS hA hP hD trivial (by decide +kernel)) rfl rfl hl.1 rfl (lv_room (Nat.le_of_ble_eq_true rfl)) dX11_tool_27 ⟨Nat.le_of_ble_eq_true rfl, Nat.le_of_ble_eq_true rfl⟩) (fun H locs hP hS => ?_)
    refine lv_if_ne (tgt := 39) hx hb dX11_tool_30 (by decide) (fun c_6 => ?_) (fun c_6 => ?_)
    · have h := it_f c_6 h
      refine lv_aload_n hx hb dX11_tool_39 rfl (lv_at hl 1 rfl) ?_
      refine va_get (D := D) (ci := 11) (v := .ref q_now) (C := RX11) (T := TX11) (N := 11) hx hb hts in_X11_tool_X11 hown hK.1 hP 0 rfl rfl 0 (by decide) (hts (.fieldLink RX11 14 "PaperBubbles" "now" "LPaperBubbles$State;") (List.mem_of_getElem? (i := 1) rfl)) (fun _ h9 => h9) rfl dX11_tool_40 ?_
      refine va_getN (D := D) (ci := 7) (v := .ref q_now_kind) (C := RX7) (T := TX7) (N := 11) hx hb hts in_X11_tool_X7 hown hK.1 hP 2 rfl rfl 2 (by decide) (va_Nw.use rfl (hK.2 (.fieldLinkNest "PaperBubbles" 136 "PaperBubbles$State" "kind" "[I" "PaperBubbles") (List.mem_of_getElem? (i := 5) rfl))) (fun _ h9 => h9) rfl dX11_tool_43 ?_
      refine lv_iload_n hx hb dX11_tool_46 rfl (lv_at hl 0 rfl) ?_
      refine lv_iload_n hx hb dX11_tool_47 rfl (lv_at hl 2 rfl) ?_
      refine lv_bipush (v := 10) hx hb dX11_tool_48 (by decide) ?_
      obtain ⟨hz_7, h⟩ := chz_ok h
      refine lv_idiv hx hb dX11_tool_50 hz_7 ?_
      obtain ⟨t_8, et_8, h⟩ := nm_ok h
      refine gTop et_8 ?_
      obtain ⟨hi_9, h⟩ := chi_ok h
      obtain ⟨w_10, ew_10, h⟩ := nm_ok h
      refine va_iast hx hb hK.1 hP hD hS 3 0 rfl rfl hi_9 dX11_tool_51 (fun H locs hP hD hS => ?_)
      have hP : va_P D gcl [(q_this, .inr (11, [.ref q_now, .ref q_kept, .int v_images, .ref q_kinds, .ref q_voice, .ref q_thought, .ref q_further, .ref q_errors, .ref q_sheetBits, .ref q_sheetLength, .ref q_numbers])), (q_errors, .inl (c 0, 6, .inl v_errors)), (q_now, .inr (7, [.ref q_now_wall, .int v_now_tools, .ref q_now_kind, .ref q_now_m, .ref q_now_tape, .int v_now_tapeLength, .ref q_now_moved, .ref q_now_seen, .int v_now_z, .ref q_now_told, .int v_now_waiting])), (q_now_kind, .inl (c 0, 6, .inl w_10)), (q_now_m, .inl (c 0, 6, .inl v_now_m))] H := by subst ew_10; exact hP
      have hD : va_D A [(q_this, .inr (11, [.ref q_now, .ref q_kept, .int v_images, .ref q_kinds, .ref q_voice, .ref q_thought, .ref q_further, .ref q_errors, .ref q_sheetBits, .ref q_sheetLength, .ref q_numbers])), (q_errors, .inl (c 0, 6, .inl v_errors)), (q_now, .inr (7, [.ref q_now_wall, .int v_now_tools, .ref q_now_kind, .ref q_now_m, .ref q_now_tape, .int v_now_tapeLength, .ref q_now_moved, .ref q_now_seen, .int v_now_z, .ref q_now_told, .int v_now_waiting])), (q_now_kind, .inl (c 0, 6, .inl w_10)), (q_now_m, .inl (c 0, 6, .inl v_now_m))] := by subst ew_10; exact hD
      refine lv_aload_n hx hb dX11_tool_52 rfl (lv_at hl 1 rfl) ?_
      refine va_get (D := D) (ci := 11) (v := .ref q_now) (C := RX11) (T := TX11) (N := 11) hx hb hts in_X11_tool_X11 hown hK.1 hP 0 rfl rfl 0 (by decide) (hts (.fieldLink RX11 14 "PaperBubbles" "now" "LPaperBubbles$State;") (List.mem_of_getElem? (i := 1) rfl)) (fun _ h9 => h9) rfl dX11_tool_53 ?_
      refine va_getN (D := D) (ci := 7) (v := .ref q_now_m) (C := RX7) (T := TX7) (N := 11) hx hb hts in_X11_tool_X7 hown hK.1 hP 2 rfl rfl 3 (by decide) (va_Nw.use rfl (hK.2 (.fieldLinkNest "PaperBubbles" 139 "PaperBubbles$State" "m" "[I" "PaperBubbles") (List.mem_of_getElem? (i := 6) rfl))) (fun _ h9 => h9) rfl dX11_tool_56 ?_
      refine lv_iload_n hx hb dX11_tool_59 rfl (lv_at hl 0 rfl) ?_
      refine lv_iload_n hx hb dX11_tool_60 rfl (lv_at hl 2 rfl) ?_
      refine lv_bipush (v := 10) hx hb dX11_tool_61 (by decide) ?_
      obtain ⟨hz_11, h⟩ := chz_ok h
      refine lv_irem hx hb dX11_tool_63 hz_11 ?_
      obtain ⟨t_12, et_12, h⟩ := nm_ok h
      refine gTop et_12 ?_
      obtain ⟨hi_13, h⟩ := chi_ok h
      obtain ⟨w_14, ew_14, h⟩ := nm_ok h
      refine va_iast hx hb hK.1 hP hD hS 4 0 rfl rfl hi_13 dX11_tool_64 (fun H locs hP hD hS => ?_)
      have hP : va_P D gcl [(q_this, .inr (11, [.ref q_now, .ref q_kept, .int v_images, .ref q_kinds, .ref q_voice, .ref q_thought, .ref q_further, .ref q_errors, .ref q_sheetBits, .ref q_sheetLength, .ref q_numbers])), (q_errors, .inl (c 0, 6, .inl v_errors)), (q_now, .inr (7, [.ref q_now_wall, .int v_now_tools, .ref q_now_kind, .ref q_now_m, .ref q_now_tape, .int v_now_tapeLength, .ref q_now_moved, .ref q_now_seen, .int v_now_z, .ref q_now_told, .int v_now_waiting])), (q_now_kind, .inl (c 0, 6, .inl w_10)), (q_now_m, .inl (c 0, 6, .inl w_14))] H := by subst ew_14; exact hP
      have hD : va_D A [(q_this, .inr (11, [.ref q_now, .ref q_kept, .int v_images, .ref q_kinds, .ref q_voice, .ref q_thought, .ref q_further, .ref q_errors, .ref q_sheetBits, .ref q_sheetLength, .ref q_numbers])), (q_errors, .inl (c 0, 6, .inl v_errors)), (q_now, .inr (7, [.ref q_now_wall, .int v_now_tools, .ref q_now_kind, .ref q_now_m, .ref q_now_tape, .int v_now_tapeLength, .ref q_now_moved, .ref q_now_seen, .int v_now_z, .ref q_now_told, .int v_now_waiting])), (q_now_kind, .inl (c 0, 6, .inl w_10)), (q_now_m, .inl (c 0, 6, .inl w_14))] := by subst ew_14; exact hD
      refine lv_aload_n hx hb dX11_tool_65 rfl (lv_at hl 1 rfl) ?_
      refine va_get (D := D) (ci := 11) (v := .ref q_now) (C := RX11) (T := TX11) (N := 11) hx hb hts in_X11_tool_X11 hown hK.1 hP 0 rfl rfl 0 (by decide) (hts (.fieldLink RX11 14 "PaperBubbles" "now" "LPaperBubbles$State;") (List.mem_of_getElem? (i := 1) rfl)) (fun _ h9 => h9) rfl dX11_tool_66 ?_
      refine lv_iload_n hx hb dX11_tool_69 rfl (lv_at hl 0 rfl) ?_
      refine lv_iconst (v := 1) hx hb dX11_tool_70 (by decide) ?_
      refine lv_iadd hx hb dX11_tool_71 ?_
      obtain ⟨t_15, et_15, h⟩ := nm_ok h
      refine gTop et_15 ?_
      refine va_putN (D := D) (ci := 7) (v := .int t_15) (ty := .int) (C := RX7) (T := TX7) (N := 11) hx hb hts in_X11_tool_X7 tyX7 tyX7_ok nmX7 hown hK.1 hP hD hS 2 rfl rfl 1 (by decide) (va_Nw.use rfl (hK.2 (.fieldLinkNest "PaperBubbles" 132 "PaperBubbles$State" "tools" "I" "PaperBubbles") (List.mem_of_getElem? (i := 4) rfl))) (fun _ h9 => h9) rfl (by decide +kernel) rfl rfl (Nat.le_of_ble_eq_true rfl) dX11_tool_72 (fun H locs hP hD hS => ?_)
      have hP : va_P D gcl [(q_this, .inr (11, [.ref q_now, .ref q_kept, .int v_images, .ref q_kinds, .ref q_voice, .ref q_thought, .ref q_further, .ref q_errors, .ref q_sheetBits, .ref q_sheetLength, .ref q_numbers])), (q_errors, .inl (c 0, 6, .inl v_errors)), (q_now, .inr (7, [.ref q_now_wall, .int t_15, .ref q_now_kind, .ref q_now_m, .ref q_now_tape, .int v_now_tapeLength, .ref q_now_moved, .ref q_now_seen, .int v_now_z, .ref q_now_told, .int v_now_waiting])), (q_now_kind, .inl (c 0, 6, .inl w_10)), (q_now_m, .inl (c 0, 6, .inl w_14))] H := hP
      have hD : va_D A [(q_this, .inr (11, [.ref q_now, .ref q_kept, .int v_images, .ref q_kinds, .ref q_voice, .ref q_thought, .ref q_further, .ref q_errors, .ref q_sheetBits, .ref q_sheetLength, .ref q_numbers])), (q_errors, .inl (c 0, 6, .inl v_errors)), (q_now, .inr (7, [.ref q_now_wall, .int t_15, .ref q_now_kind, .ref q_now_m, .ref q_now_tape, .int v_now_tapeLength, .ref q_now_moved, .ref q_now_seen, .int v_now_z, .ref q_now_told, .int v_now_waiting])), (q_now_kind, .inl (c 0, 6, .inl w_10)), (q_now_m, .inl (c 0, 6, .inl w_14))] := hD
      refine lv_iload_n hx hb dX11_tool_75 rfl (lv_at hl 0 rfl) ?_
      obtain ⟨z0, z1, z2, z3, z4⟩ := so5 h
      subst z0 z1 z2 z3 z4
      exact gIret hF hP hD hS rfl dX11_tool_76
    · have h := it_t c_6 h
      refine lv_aload_n hx hb dX11_tool_33 rfl (lv_at hl 1 rfl) ?_
      refine lv_iconst (v := 4) hx hb dX11_tool_34 (by decide) ?_
      obtain ⟨r_17, w_18, hc_16, h⟩ := kb2_ok h
      refine gCallI (isC := [0, 1]) (wc := [(q_this, .inr (11, [.ref q_now, .ref q_kept, .int v_images, .ref q_kinds, .ref q_voice, .ref q_thought, .ref q_further, .ref q_errors, .ref q_sheetBits, .ref q_sheetLength, .ref q_numbers])), (q_errors, .inl (c 0, 6, .inl v_errors))]) (w1 := [(q_this, .inr (11, [.ref q_now, .ref q_kept, .int v_images, .ref q_kinds, .ref q_voice, .ref q_thought, .ref q_further, .ref q_errors, .ref q_sheetBits, .ref q_sheetLength, .ref q_numbers])), (q_errors, .inl (c 0, 6, .inl w_18))]) (ws2 := [(q_this, .inr (11, [.ref q_now, .ref q_kept, .int v_images, .ref q_kinds, .ref q_voice, .ref q_thought, .ref q_further, .ref q_errors, .ref q_sheetBits, .ref q_sheetLength, .ref q_numbers])), (q_errors, .inl (c 0, 6, .inl w_18)), (q_now, .inr (7, [.ref q_now_wall, .int v_now_tools, .ref q_now_kind, .ref q_now_m, .ref q_now_tape, .int v_now_tapeLength, .ref q_now_moved, .ref q_now_seen, .int v_now_z, .ref q_now_told, .int v_now_waiting])), (q_now_kind, .inl (c 0, 6, .inl v_now_kind)), (q_now_m, .inl (c 0, 6, .inl v_now_m))]) (ms := [(some 0), (some 1), none, none, none]) hP hD hS hA ⟨rfl, rfl, trivial⟩ (by decide +kernel) ⟨rfl, rfl, rfl, rfl, rfl, trivial⟩ (va_runV (rm := rm_X11_error) (ws := wsX11_error) (As := [.int 4]) (rest := []) (gFix hF) (c_X11_error l D c q_this q_now q_kept q_kinds q_voice q_thought q_further q_errors q_sheetBits q_sheetLength q_numbers 4 v_images v_errors r_17 w_18 hc_16 H.size) (cwV 1 hts gX11_tool_X11_error rfl rfl rfl (by decide +kernel) ⟨Nat.le_of_ble_eq_true rfl, Nat.le_of_ble_eq_true rfl⟩) (gPreV (wc := [(q_this, .inr (11, [.ref q_now, .ref q_kept, .int v_images, .ref q_kinds, .ref q_voice, .ref q_thought, .ref q_further, .ref q_errors, .ref q_sheetBits, .ref q_sheetLength, .ref q_numbers])), (q_errors, .inl (c 0, 6, .inl v_errors))]) (q := (RX11, TX11, 11)) (ci := 11) (q0 := 0) (isC := [0, 1]) hK hX hS hA hP hD ⟨rfl, rfl, trivial⟩ (by decide +kernel) rfl rfl) rfl rfl hl.1 rfl (lv_room (Nat.le_of_ble_eq_true rfl)) dX11_tool_35 ⟨Nat.le_of_ble_eq_true rfl, Nat.le_of_ble_eq_true rfl⟩) (fun H locs hP hD hS => ?_)
      obtain ⟨z0, z1, z2, z3, z4⟩ := so5 h
      subst z0 z1 z2 z3 z4
      exact gIret hF hP hD hS rfl dX11_tool_38
  · have h := it_t c_3 h
    refine lv_aload_n hx hb dX11_tool_10 rfl (lv_at hl 0 rfl) ?_
    refine lv_iconst (v := 1) hx hb dX11_tool_11 (by decide) ?_
    obtain ⟨r_20, w_21, hc_19, h⟩ := kb2_ok h
    refine gCallI (isC := [0, 1]) (wc := [(q_this, .inr (11, [.ref q_now, .ref q_kept, .int v_images, .ref q_kinds, .ref q_voice, .ref q_thought, .ref q_further, .ref q_errors, .ref q_sheetBits, .ref q_sheetLength, .ref q_numbers])), (q_errors, .inl (c 0, 6, .inl v_errors))]) (w1 := [(q_this, .inr (11, [.ref q_now, .ref q_kept, .int v_images, .ref q_kinds, .ref q_voice, .ref q_thought, .ref q_further, .ref q_errors, .ref q_sheetBits, .ref q_sheetLength, .ref q_numbers])), (q_errors, .inl (c 0, 6, .inl w_21))]) (ws2 := [(q_this, .inr (11, [.ref q_now, .ref q_kept, .int v_images, .ref q_kinds, .ref q_voice, .ref q_thought, .ref q_further, .ref q_errors, .ref q_sheetBits, .ref q_sheetLength, .ref q_numbers])), (q_errors, .inl (c 0, 6, .inl w_21)), (q_now, .inr (7, [.ref q_now_wall, .int v_now_tools, .ref q_now_kind, .ref q_now_m, .ref q_now_tape, .int v_now_tapeLength, .ref q_now_moved, .ref q_now_seen, .int v_now_z, .ref q_now_told, .int v_now_waiting])), (q_now_kind, .inl (c 0, 6, .inl v_now_kind)), (q_now_m, .inl (c 0, 6, .inl v_now_m))]) (ms := [(some 0), (some 1), none, none, none]) hP hD hS hA ⟨rfl, rfl, trivial⟩ (by decide +kernel) ⟨rfl, rfl, rfl, rfl, rfl, trivial⟩ (va_runV (rm := rm_X11_error) (ws := wsX11_error) (As := [.int 1]) (rest := []) (gFix hF) (c_X11_error l D c q_this q_now q_kept q_kinds q_voice q_thought q_further q_errors q_sheetBits q_sheetLength q_numbers 1 v_images v_errors r_20 w_21 hc_19 H.size) (cwV 1 hts gX11_tool_X11_error rfl rfl rfl (by decide +kernel) ⟨Nat.le_of_ble_eq_true rfl, Nat.le_of_ble_eq_true rfl⟩) (gPreV (wc := [(q_this, .inr (11, [.ref q_now, .ref q_kept, .int v_images, .ref q_kinds, .ref q_voice, .ref q_thought, .ref q_further, .ref q_errors, .ref q_sheetBits, .ref q_sheetLength, .ref q_numbers])), (q_errors, .inl (c 0, 6, .inl v_errors))]) (q := (RX11, TX11, 11)) (ci := 11) (q0 := 0) (isC := [0, 1]) hK hX hS hA hP hD ⟨rfl, rfl, trivial⟩ (by decide +kernel) rfl rfl) rfl rfl hl.1 rfl (lv_room (Nat.le_of_ble_eq_true rfl)) dX11_tool_12 ⟨Nat.le_of_ble_eq_true rfl, Nat.le_of_ble_eq_true rfl⟩) (fun H locs hP hD hS => ?_)
    obtain ⟨z0, z1, z2, z3, z4⟩ := so5 h
    subst z0 z1 z2 z3 z4
    exact gIret hF hP hD hS rfl dX11_tool_15
set_option maxRecDepth 20000 in
theorem in_X11_trace_X11 : ∀ w ∈ u_ws RX11 TX11 11, w ∈ wsX11_trace := by decide +kernel
set_option maxRecDepth 20000 in
theorem in_X11_trace_X9 : ∀ w ∈ u_ws RX9 TX9 4, w ∈ wsX11_trace := by decide +kernel
def f_X11_trace_L35 (v_errors : Nat → Int32) : Option (Int32 × (Nat → Int32)) :=
  kb2 (f_X11_error 2 v_errors) fun r_9 w_10 =>
  some (r_9, w_10)

def f_X11_trace (a_1 : Int32) (v_errors : Nat → Int32) (v_voice_length : Int32) (v_voice_bodies : Nat → Int32) : Option (Int32 × (Nat → Int32)) :=
  nm (v_voice_length - 1 : Int32) fun t_1 =>
  kb (f_X11_within a_1 0 t_1) fun r_3 =>
  if r_3 = 0 then
    f_X11_trace_L35 v_errors
  else
    if 40 ≤ a_1 then
      f_X11_trace_L35 v_errors
    else
      chi a_1 40 <|
      nm (v_voice_bodies a_1.toNatClampNeg : Int32) fun t_7 =>
      some (t_7, v_errors)

abbrev rm_X11_trace : Room := { frames := 2, cells := 0, slots := 0, locals := 43 }
set_option maxHeartbeats 4000000 in
set_option maxRecDepth 100000 in
theorem c_X11_trace (l : Launch) (D : va_G) (c : Nat → ClassId) (q_this q_now q_kept q_kinds q_voice q_thought q_further q_errors q_sheetBits q_sheetLength q_numbers q_voice_bodies : Nat) (a_1 : Int32) (v_images : Int32) (v_errors : Nat → Int32) (v_voice_n : Int32) (v_voice_m : Int32) (v_voice_length : Int32) (v_voice_bodies : Nat → Int32) (o_r : Int32) (o_v_errors : Nat → Int32) (h : f_X11_trace a_1 v_errors v_voice_length v_voice_bodies = some (o_r, o_v_errors)) : gMI l yX11_trace wsX11_trace rm_X11_trace D c [.ref q_this, .int a_1] [(q_this, .inr (11, [.ref q_now, .ref q_kept, .int v_images, .ref q_kinds, .ref q_voice, .ref q_thought, .ref q_further, .ref q_errors, .ref q_sheetBits, .ref q_sheetLength, .ref q_numbers])), (q_errors, .inl (c 0, 6, .inl v_errors)), (q_voice, .inr (9, [.int v_voice_n, .int v_voice_m, .ref q_voice_bodies, .int v_voice_length])), (q_voice_bodies, .inl (c 0, 40, .inl v_voice_bodies))] [(q_this, .inr (11, [.ref q_now, .ref q_kept, .int v_images, .ref q_kinds, .ref q_voice, .ref q_thought, .ref q_further, .ref q_errors, .ref q_sheetBits, .ref q_sheetLength, .ref q_numbers])), (q_errors, .inl (c 0, 6, .inl o_v_errors)), (q_voice, .inr (9, [.int v_voice_n, .int v_voice_m, .ref q_voice_bodies, .int v_voice_length])), (q_voice_bodies, .inl (c 0, 40, .inl v_voice_bodies))] o_r := by
  refine gMI_of (cc := cX11_trace) (maxL := 2) (rt := (some .int)) (by decide +kernel) rfl (Nat.le_of_ble_eq_true rfl) ?_
  intro p e s m below meth co A hF hK hX hP hD hA hS ls hl
  obtain ⟨hx, hb, hr, hts, hown, hlocks, hml⟩ := id hF
  have hl : lv_has ls 2 [(0, .ref q_this), (1, .int a_1)] := hl
  have t_L35 : ∀ (v_errors : Nat → Int32) (H : Heap) (locs : List Loc), va_P D gcl [(q_this, .inr (11, [.ref q_now, .ref q_kept, .int v_images, .ref q_kinds, .ref q_voice, .ref q_thought, .ref q_further, .ref q_errors, .ref q_sheetBits, .ref q_sheetLength, .ref q_numbers])), (q_errors, .inl (c 0, 6, .inl v_errors)), (q_voice, .inr (9, [.int v_voice_n, .int v_voice_m, .ref q_voice_bodies, .int v_voice_length])), (q_voice_bodies, .inl (c 0, 40, .inl v_voice_bodies))] H → va_D A [(q_this, .inr (11, [.ref q_now, .ref q_kept, .int v_images, .ref q_kinds, .ref q_voice, .ref q_thought, .ref q_further, .ref q_errors, .ref q_sheetBits, .ref q_sheetLength, .ref q_numbers])), (q_errors, .inl (c 0, 6, .inl v_errors)), (q_voice, .inr (9, [.int v_voice_n, .int v_voice_m, .ref q_voice_bodies, .int v_voice_length])), (q_voice_bodies, .inl (c 0, 40, .inl v_voice_bodies))] → va_S A s.heap H locs → ∀ ls, lv_has ls 2 [(0, .ref q_this)] → f_X11_trace_L35 v_errors = some (o_r, o_v_errors) → W p l e (headSpec wsX11_trace rm_X11_trace).room s m [.ref q_this, .int a_1].toArray below meth co H locs 0 0 (gQI D [(q_this, .inr (11, [.ref q_now, .ref q_kept, .int v_images, .ref q_kinds, .ref q_voice, .ref q_thought, .ref q_further, .ref q_errors, .ref q_sheetBits, .ref q_sheetLength, .ref q_numbers])), (q_errors, .inl (c 0, 6, .inl o_v_errors)), (q_voice, .inr (9, [.int v_voice_n, .int v_voice_m, .ref q_voice_bodies, .int v_voice_length])), (q_voice_bodies, .inl (c 0, 40, .inl v_voice_bodies))] o_r A below [.ref q_this, .int a_1] s) (F0 m 35 ls []) := by
    intro  v_errors H locs hP hD hS ls hl h
    unfold f_X11_trace_L35 at h
    refine lv_aload_n hx hb dX11_trace_35 rfl (lv_at hl 0 rfl) ?_
    refine lv_iconst (v := 2) hx hb dX11_trace_36 (by decide) ?_
    obtain ⟨r_9, w_10, hc_8, h⟩ := kb2_ok h
    refine gCallI (isC := [0, 1]) (wc := [(q_this, .inr (11, [.ref q_now, .ref q_kept, .int v_images, .ref q_kinds, .ref q_voice, .ref q_thought, .ref q_further, .ref q_errors, .ref q_sheetBits, .ref q_sheetLength, .ref q_numbers])), (q_errors, .inl (c 0, 6, .inl v_errors))]) (w1 := [(q_this, .inr (11, [.ref q_now, .ref q_kept, .int v_images, .ref q_kinds, .ref q_voice, .ref q_thought, .ref q_further, .ref q_errors, .ref q_sheetBits, .ref q_sheetLength, .ref q_numbers])), (q_errors, .inl (c 0, 6, .inl w_10))]) (ws2 := [(q_this, .inr (11, [.ref q_now, .ref q_kept, .int v_images, .ref q_kinds, .ref q_voice, .ref q_thought, .ref q_further, .ref q_errors, .ref q_sheetBits, .ref q_sheetLength, .ref q_numbers])), (q_errors, .inl (c 0, 6, .inl w_10)), (q_voice, .inr (9, [.int v_voice_n, .int v_voice_m, .ref q_voice_bodies, .int v_voice_length])), (q_voice_bodies, .inl (c 0, 40, .inl v_voice_bodies))]) (ms := [(some 0), (some 1), none, none]) hP hD hS hA ⟨rfl, rfl, trivial⟩ (by decide +kernel) ⟨rfl, rfl, rfl, rfl, trivial⟩ (va_runV (rm := rm_X11_error) (ws := wsX11_error) (As := [.int 2]) (rest := []) (gFix hF) (c_X11_error l D c q_this q_now q_kept q_kinds q_voice q_thought q_further q_errors q_sheetBits q_sheetLength q_numbers 2 v_images v_errors r_9 w_10 hc_8 H.size) (cwV 1 hts gX11_trace_X11_error rfl rfl rfl (by decide +kernel) ⟨Nat.le_of_ble_eq_true rfl, Nat.le_of_ble_eq_true rfl⟩) (gPreV (wc := [(q_this, .inr (11, [.ref q_now, .ref q_kept, .int v_images, .ref q_kinds, .ref q_voice, .ref q_thought, .ref q_further, .ref q_errors, .ref q_sheetBits, .ref q_sheetLength, .ref q_numbers])), (q_errors, .inl (c 0, 6, .inl v_errors))]) (q := (RX11, TX11, 11)) (ci := 11) (q0 := 0) (isC := [0, 1]) hK hX hS hA hP hD ⟨rfl, rfl, trivial⟩ (by decide +kernel) rfl rfl) rfl rfl hl.1 rfl (lv_room (Nat.le_of_ble_eq_true rfl)) dX11_trace_37 ⟨Nat.le_of_ble_eq_true rfl, Nat.le_of_ble_eq_true rfl⟩) (fun H locs hP hD hS => ?_)
    obtain ⟨z0, z1⟩ := so2 h
    subst z0 z1
    exact gIret hF hP hD hS rfl dX11_trace_40
  unfold f_X11_trace at h
  refine lv_iload_n hx hb dX11_trace_0 rfl (lv_at hl 1 rfl) ?_
  refine lv_iconst (v := 0) hx hb dX11_trace_1 (by decide) ?_
  refine lv_aload_n hx hb dX11_trace_2 rfl (lv_at hl 0 rfl) ?_
  refine va_get (D := D) (ci := 11) (v := .ref q_voice) (C := RX11) (T := TX11) (N := 11) hx hb hts in_X11_trace_X11 hown hK.1 hP 0 rfl rfl 4 (by decide) (hts (.fieldLink RX11 49 "PaperBubbles" "voice" "LPaperBubbles$Voice;") (List.mem_of_getElem? (i := 1) rfl)) (fun _ h9 => h9) rfl dX11_trace_3 ?_
  refine va_getN (D := D) (ci := 9) (v := .int v_voice_length) (C := RX9) (T := TX9) (N := 4) hx hb hts in_X11_trace_X9 hown hK.1 hP 2 rfl rfl 3 (by decide) (va_Nw.use rfl (hK.2 (.fieldLinkNest "PaperBubbles" 279 "PaperBubbles$Voice" "length" "I" "PaperBubbles") (List.mem_of_getElem? (i := 12) rfl))) (fun _ h9 => h9) rfl dX11_trace_6 ?_
  refine lv_iconst (v := 1) hx hb dX11_trace_9 (by decide) ?_
  refine lv_isub hx hb dX11_trace_10 ?_
  obtain ⟨t_1, et_1, h⟩ := nm_ok h
  refine gTop et_1 ?_
  obtain ⟨r_3, hc_2, h⟩ := kb_ok h
  refine gCallIr (isC := []) (wc := []) hP hD hS hA trivial (va_runS (rm := rm_X11_within) (ws := wsX11_within) (As := [.int a_1, .int 0, .int t_1]) (rest := []) (gFix hF) (c_X11_within l D c a_1 0 t_1 r_3 hc_2 s.heap.size) (va_cwS 3 hts gX11_trace_X11_within rfl rfl rfl (by decide +kernel) ⟨Nat.le_of_ble_eq_true rfl, Nat.le_of_ble_eq_true rfl⟩) (gPreS (wc := []) (isC := []) hK hX hS hA hP hD trivial (by decide +kernel)) rfl rfl hl.1 rfl (lv_room (Nat.le_of_ble_eq_true rfl)) dX11_trace_11 ⟨Nat.le_of_ble_eq_true rfl, Nat.le_of_ble_eq_true rfl⟩) (fun H locs hP hS => ?_)
  refine lv_if_eq (tgt := 35) hx hb dX11_trace_14 (by decide) (fun c_4 => ?_) (fun c_4 => ?_)
  · have h := it_t c_4 h
    exact t_L35 v_errors H locs hP hD hS ls (lv_sub hl [0] rfl) h
  · have h := it_f c_4 h
    refine lv_iload_n hx hb dX11_trace_17 rfl (lv_at hl 1 rfl) ?_
    refine lv_bipush (v := 40) hx hb dX11_trace_18 (by decide) ?_
    refine lv_icmp_ge (tgt := 35) hx hb dX11_trace_20 (by decide) (fun c_5 => ?_) (fun c_5 => ?_)
    · have h := it_t c_5 h
      exact t_L35 v_errors H locs hP hD hS ls (lv_sub hl [0] rfl) h
    · have h := it_f c_5 h
      refine lv_aload_n hx hb dX11_trace_23 rfl (lv_at hl 0 rfl) ?_
      refine va_get (D := D) (ci := 11) (v := .ref q_voice) (C := RX11) (T := TX11) (N := 11) hx hb hts in_X11_trace_X11 hown hK.1 hP 0 rfl rfl 4 (by decide) (hts (.fieldLink RX11 49 "PaperBubbles" "voice" "LPaperBubbles$Voice;") (List.mem_of_getElem? (i := 1) rfl)) (fun _ h9 => h9) rfl dX11_trace_24 ?_
      refine va_getN (D := D) (ci := 9) (v := .ref q_voice_bodies) (C := RX9) (T := TX9) (N := 4) hx hb hts in_X11_trace_X9 hown hK.1 hP 2 rfl rfl 2 (by decide) (va_Nw.use rfl (hK.2 (.fieldLinkNest "PaperBubbles" 282 "PaperBubbles$Voice" "bodies" "[I" "PaperBubbles") (List.mem_of_getElem? (i := 13) rfl))) (fun _ h9 => h9) rfl dX11_trace_27 ?_
      refine lv_iload_n hx hb dX11_trace_30 rfl (lv_at hl 1 rfl) ?_
      obtain ⟨hi_6, h⟩ := chi_ok h
      refine va_iald hx hb hK.1 hP 3 0 rfl rfl hi_6 dX11_trace_31 ?_
      obtain ⟨t_7, et_7, h⟩ := nm_ok h
      refine gTop et_7 ?_
      refine lv_goto (tgt := 40) hx hb dX11_trace_32 (by decide) ?_
      obtain ⟨z0, z1⟩ := so2 h
      subst z0 z1
      exact gIret hF hP hD hS rfl dX11_trace_40
set_option maxRecDepth 20000 in
theorem in_X9_start_X9 : ∀ w ∈ u_ws RX9 TX9 4, w ∈ wsX9_start := by decide +kernel
def f_X9_start (a_1 : Int32) (a_2 : Int32) (v_n : Int32) (v_m : Int32) (v_length : Int32) : Option (Int32 × Int32 × Int32) :=
  some (a_1, a_2, 0)

abbrev rm_X9_start : Room := { frames := 0, cells := 0, slots := 0, locals := 0 }
set_option maxHeartbeats 4000000 in
set_option maxRecDepth 100000 in
theorem c_X9_start (l : Launch) (D : va_G) (c : Nat → ClassId) (q_this q_bodies : Nat) (a_1 : Int32) (a_2 : Int32) (v_n : Int32) (v_m : Int32) (v_length : Int32) (o_v_n : Int32) (o_v_m : Int32) (o_v_length : Int32) (h : f_X9_start a_1 a_2 v_n v_m v_length = some (o_v_n, o_v_m, o_v_length)) : gMV l yX9_start wsX9_start rm_X9_start D c [.ref q_this, .int a_1, .int a_2] [(q_this, .inr (9, [.int v_n, .int v_m, .ref q_bodies, .int v_length]))] [(q_this, .inr (9, [.int o_v_n, .int o_v_m, .ref q_bodies, .int o_v_length]))] := by
  refine gMV_of (cc := cX9_start) (maxL := 3) (rt := none) (by decide +kernel) rfl (Nat.le_of_ble_eq_true rfl) ?_
  intro p e s m below meth co A hF hK hX hP hD hA hS ls hl
  obtain ⟨hx, hb, hr, hts, hown, hlocks, hml⟩ := id hF
  have hl : lv_has ls 3 [(0, .ref q_this), (1, .int a_1), (2, .int a_2)] := hl
  unfold f_X9_start at h
  refine lv_aload_n hx hb dX9_start_0 rfl (lv_at hl 0 rfl) ?_
  refine lv_iload_n hx hb dX9_start_1 rfl (lv_at hl 1 rfl) ?_
  refine va_put (D := D) (ci := 9) (v := .int a_1) (ty := .int) (C := RX9) (T := TX9) (N := 4) hx hb hts in_X9_start_X9 tyX9 tyX9_ok nmX9 hown hK.1 hP hD hS 0 rfl rfl 0 (by decide) (hts (.fieldLink RX9 15 "PaperBubbles$Voice" "n" "I") (List.mem_of_getElem? (i := 1) rfl)) (fun _ h9 => h9) rfl (by decide +kernel) rfl rfl (Nat.le_of_ble_eq_true rfl) dX9_start_2 (fun H locs hP hD hS => ?_)
  have hP : va_P D gcl [(q_this, .inr (9, [.int a_1, .int v_m, .ref q_bodies, .int v_length]))] H := hP
  have hD : va_D A [(q_this, .inr (9, [.int a_1, .int v_m, .ref q_bodies, .int v_length]))] := hD
  refine lv_aload_n hx hb dX9_start_5 rfl (lv_at hl 0 rfl) ?_
  refine lv_iload_n hx hb dX9_start_6 rfl (lv_at hl 2 rfl) ?_
  refine va_put (D := D) (ci := 9) (v := .int a_2) (ty := .int) (C := RX9) (T := TX9) (N := 4) hx hb hts in_X9_start_X9 tyX9 tyX9_ok nmX9 hown hK.1 hP hD hS 0 rfl rfl 1 (by decide) (hts (.fieldLink RX9 19 "PaperBubbles$Voice" "m" "I") (List.mem_of_getElem? (i := 2) rfl)) (fun _ h9 => h9) rfl (by decide +kernel) rfl rfl (Nat.le_of_ble_eq_true rfl) dX9_start_7 (fun H locs hP hD hS => ?_)
  have hP : va_P D gcl [(q_this, .inr (9, [.int a_1, .int a_2, .ref q_bodies, .int v_length]))] H := hP
  have hD : va_D A [(q_this, .inr (9, [.int a_1, .int a_2, .ref q_bodies, .int v_length]))] := hD
  refine lv_aload_n hx hb dX9_start_10 rfl (lv_at hl 0 rfl) ?_
  refine lv_iconst (v := 0) hx hb dX9_start_11 (by decide) ?_
  refine va_put (D := D) (ci := 9) (v := .int 0) (ty := .int) (C := RX9) (T := TX9) (N := 4) hx hb hts in_X9_start_X9 tyX9 tyX9_ok nmX9 hown hK.1 hP hD hS 0 rfl rfl 3 (by decide) (hts (.fieldLink RX9 22 "PaperBubbles$Voice" "length" "I") (List.mem_of_getElem? (i := 3) rfl)) (fun _ h9 => h9) rfl (by decide +kernel) rfl rfl (Nat.le_of_ble_eq_true rfl) dX9_start_12 (fun H locs hP hD hS => ?_)
  have hP : va_P D gcl [(q_this, .inr (9, [.int a_1, .int a_2, .ref q_bodies, .int 0]))] H := hP
  have hD : va_D A [(q_this, .inr (9, [.int a_1, .int a_2, .ref q_bodies, .int 0]))] := hD
  obtain ⟨z0, z1, z2⟩ := so3 h
  subst z0 z1 z2
  exact gVret hF hP hD hS dX9_start_15
def f_X8_sayMoves_X8 (a_1 : Int32) (v_p2_n : Int32) (v_p2_m : Int32) (v_p2_length : Int32) (v_p2_bodies : Nat → Int32) : Option (Int32 × Int32 × (Nat → Int32)) :=
  kb2 (f_X9_begin 10 v_p2_length v_p2_bodies) fun w_2 w_3 =>
  some (a_1 + v_p2_n, w_2, w_3)

abbrev rm_X8_sayMoves_X8 : Room := { frames := 1, cells := 0, slots := 0, locals := 21 }
set_option maxHeartbeats 4000000 in
set_option maxRecDepth 100000 in
theorem c_X8_sayMoves_X8 (l : Launch) (D : va_G) (c : Nat → ClassId) (q_this q_p2 q_p2_bodies : Nat) (a_1 : Int32) (v_p2_n : Int32) (v_p2_m : Int32) (v_p2_length : Int32) (v_p2_bodies : Nat → Int32) (o_r : Int32) (o_v_p2_length : Int32) (o_v_p2_bodies : Nat → Int32) (h : f_X8_sayMoves_X8 a_1 v_p2_n v_p2_m v_p2_length v_p2_bodies = some (o_r, o_v_p2_length, o_v_p2_bodies)) : gMI l yX8_sayMoves wsX8_sayMoves rm_X8_sayMoves_X8 D c [.ref q_this, .int a_1, .ref q_p2] [(q_this, .inr (8, [])), (q_p2, .inr (9, [.int v_p2_n, .int v_p2_m, .ref q_p2_bodies, .int v_p2_length])), (q_p2_bodies, .inl (c 0, 40, .inl v_p2_bodies))] [(q_this, .inr (8, [])), (q_p2, .inr (9, [.int v_p2_n, .int v_p2_m, .ref q_p2_bodies, .int o_v_p2_length])), (q_p2_bodies, .inl (c 0, 40, .inl o_v_p2_bodies))] o_r := by
  refine gMI_of (cc := cX8_sayMoves) (maxL := 3) (rt := (some .int)) (by decide +kernel) rfl (Nat.le_of_ble_eq_true rfl) ?_
  intro p e s m below meth co A hF hK hX hP hD hA hS ls hl
  obtain ⟨hx, hb, hr, hts, hown, hlocks, hml⟩ := id hF
  have hl : lv_has ls 3 [(0, .ref q_this), (1, .int a_1), (2, .ref q_p2)] := hl
  unfold f_X8_sayMoves_X8 at h
  refine lv_aload_n hx hb dX8_sayMoves_0 rfl (lv_at hl 2 rfl) ?_
  refine lv_bipush (v := 10) hx hb dX8_sayMoves_1 (by decide) ?_
  obtain ⟨w_2, w_3, hc_1, h⟩ := kb2_ok h
  refine gCallV (isC := [1, 2]) (wc := [(q_p2, .inr (9, [.int v_p2_n, .int v_p2_m, .ref q_p2_bodies, .int v_p2_length])), (q_p2_bodies, .inl (c 0, 40, .inl v_p2_bodies))]) (w1 := [(q_p2, .inr (9, [.int v_p2_n, .int v_p2_m, .ref q_p2_bodies, .int w_2])), (q_p2_bodies, .inl (c 0, 40, .inl w_3))]) (ws2 := [(q_this, .inr (8, [])), (q_p2, .inr (9, [.int v_p2_n, .int v_p2_m, .ref q_p2_bodies, .int w_2])), (q_p2_bodies, .inl (c 0, 40, .inl w_3))]) (ms := [none, (some 0), (some 1)]) hP hD hS hA ⟨rfl, rfl, trivial⟩ (by decide +kernel) ⟨rfl, rfl, rfl, trivial⟩ (va_runV (rm := rm_X9_begin) (ws := wsX9_begin) (As := [.int 10]) (rest := []) (gFix hF) (c_X9_begin l D c q_p2 q_p2_bodies 10 v_p2_n v_p2_m v_p2_length v_p2_bodies w_2 w_3 hc_1 s.heap.size) (cwV 1 hts gX8_sayMoves_X9_begin rfl rfl rfl (by decide +kernel) ⟨Nat.le_of_ble_eq_true rfl, Nat.le_of_ble_eq_true rfl⟩) (gPreV (wc := [(q_p2, .inr (9, [.int v_p2_n, .int v_p2_m, .ref q_p2_bodies, .int v_p2_length])), (q_p2_bodies, .inl (c 0, 40, .inl v_p2_bodies))]) (q := (RX9, TX9, 4)) (ci := 9) (q0 := 1) (isC := [1, 2]) hK hX hS hA hP hD ⟨rfl, rfl, trivial⟩ (by decide +kernel) rfl rfl) rfl rfl hl.1 rfl (lv_room (Nat.le_of_ble_eq_true rfl)) dX8_sayMoves_3 ⟨Nat.le_of_ble_eq_true rfl, Nat.le_of_ble_eq_true rfl⟩) (fun H locs hP hD hS => ?_)
  refine lv_iload_n hx hb dX8_sayMoves_6 rfl (lv_at hl 1 rfl) ?_
  refine lv_aload_n hx hb dX8_sayMoves_7 rfl (lv_at hl 2 rfl) ?_
  refine va_getN (D := D) (ci := 9) (v := .int v_p2_n) (C := RX9) (T := TX9) (N := 4) hx hb hts in_X8_sayMoves_X9 hown hK.1 hP 1 rfl rfl 0 (by decide) (va_Nw.use rfl (hK.2 (.fieldLinkNest "PaperBubbles$Tool" 13 "PaperBubbles$Voice" "n" "I" "PaperBubbles") (List.mem_of_getElem? (i := 20) rfl))) (fun _ h9 => h9) rfl dX8_sayMoves_8 ?_
  refine lv_iadd hx hb dX8_sayMoves_11 ?_
  obtain ⟨z0, z1, z2⟩ := so3 h
  subst z0 z1 z2
  exact gIret hF hP hD hS rfl dX8_sayMoves_12
def f_X8_sayLets_X8 (a_1 : Int32) (v_p2_n : Int32) (v_p2_m : Int32) (v_p2_length : Int32) (v_p2_bodies : Nat → Int32) : Option (Int32 × Int32 × (Nat → Int32)) :=
  kb2 (f_X9_begin 11 v_p2_length v_p2_bodies) fun w_2 w_3 =>
  kb3 (f_X8_sayMoves_X8 a_1 v_p2_n v_p2_m w_2 w_3) fun r_5 w_6 w_7 =>
  some (r_5 * 2, w_6, w_7)

abbrev rm_X8_sayLets_X8 : Room := { frames := 2, cells := 0, slots := 0, locals := 43 }
set_option maxHeartbeats 4000000 in
set_option maxRecDepth 100000 in
theorem c_X8_sayLets_X8 (l : Launch) (D : va_G) (c : Nat → ClassId) (q_this q_p2 q_p2_bodies : Nat) (a_1 : Int32) (v_p2_n : Int32) (v_p2_m : Int32) (v_p2_length : Int32) (v_p2_bodies : Nat → Int32) (o_r : Int32) (o_v_p2_length : Int32) (o_v_p2_bodies : Nat → Int32) (h : f_X8_sayLets_X8 a_1 v_p2_n v_p2_m v_p2_length v_p2_bodies = some (o_r, o_v_p2_length, o_v_p2_bodies)) : gMI l yX8_sayLets wsX8_sayLets rm_X8_sayLets_X8 D c [.ref q_this, .int a_1, .ref q_p2] [(q_this, .inr (8, [])), (q_p2, .inr (9, [.int v_p2_n, .int v_p2_m, .ref q_p2_bodies, .int v_p2_length])), (q_p2_bodies, .inl (c 0, 40, .inl v_p2_bodies))] [(q_this, .inr (8, [])), (q_p2, .inr (9, [.int v_p2_n, .int v_p2_m, .ref q_p2_bodies, .int o_v_p2_length])), (q_p2_bodies, .inl (c 0, 40, .inl o_v_p2_bodies))] o_r := by
  refine gMI_of (cc := cX8_sayLets) (maxL := 3) (rt := (some .int)) (by decide +kernel) rfl (Nat.le_of_ble_eq_true rfl) ?_
  intro p e s m below meth co A hF hK hX hP hD hA hS ls hl
  obtain ⟨hx, hb, hr, hts, hown, hlocks, hml⟩ := id hF
  have hl : lv_has ls 3 [(0, .ref q_this), (1, .int a_1), (2, .ref q_p2)] := hl
  unfold f_X8_sayLets_X8 at h
  refine lv_aload_n hx hb dX8_sayLets_0 rfl (lv_at hl 2 rfl) ?_
  refine lv_bipush (v := 11) hx hb dX8_sayLets_1 (by decide) ?_
  obtain ⟨w_2, w_3, hc_1, h⟩ := kb2_ok h
  refine gCallV (isC := [1, 2]) (wc := [(q_p2, .inr (9, [.int v_p2_n, .int v_p2_m, .ref q_p2_bodies, .int v_p2_length])), (q_p2_bodies, .inl (c 0, 40, .inl v_p2_bodies))]) (w1 := [(q_p2, .inr (9, [.int v_p2_n, .int v_p2_m, .ref q_p2_bodies, .int w_2])), (q_p2_bodies, .inl (c 0, 40, .inl w_3))]) (ws2 := [(q_this, .inr (8, [])), (q_p2, .inr (9, [.int v_p2_n, .int v_p2_m, .ref q_p2_bodies, .int w_2])), (q_p2_bodies, .inl (c 0, 40, .inl w_3))]) (ms := [none, (some 0), (some 1)]) hP hD hS hA ⟨rfl, rfl, trivial⟩ (by decide +kernel) ⟨rfl, rfl, rfl, trivial⟩ (va_runV (rm := rm_X9_begin) (ws := wsX9_begin) (As := [.int 11]) (rest := []) (gFix hF) (c_X9_begin l D c q_p2 q_p2_bodies 11 v_p2_n v_p2_m v_p2_length v_p2_bodies w_2 w_3 hc_1 s.heap.size) (cwV 1 hts gX8_sayLets_X9_begin rfl rfl rfl (by decide +kernel) ⟨Nat.le_of_ble_eq_true rfl, Nat.le_of_ble_eq_true rfl⟩) (gPreV (wc := [(q_p2, .inr (9, [.int v_p2_n, .int v_p2_m, .ref q_p2_bodies, .int v_p2_length])), (q_p2_bodies, .inl (c 0, 40, .inl v_p2_bodies))]) (q := (RX9, TX9, 4)) (ci := 9) (q0 := 1) (isC := [1, 2]) hK hX hS hA hP hD ⟨rfl, rfl, trivial⟩ (by decide +kernel) rfl rfl) rfl rfl hl.1 rfl (lv_room (Nat.le_of_ble_eq_true rfl)) dX8_sayLets_3 ⟨Nat.le_of_ble_eq_true rfl, Nat.le_of_ble_eq_true rfl⟩) (fun H locs hP hD hS => ?_)
  refine lv_aload_n hx hb dX8_sayLets_6 rfl (lv_at hl 0 rfl) ?_
  refine lv_iload_n hx hb dX8_sayLets_7 rfl (lv_at hl 1 rfl) ?_
  refine lv_aload_n hx hb dX8_sayLets_8 rfl (lv_at hl 2 rfl) ?_
  obtain ⟨r_5, w_6, w_7, hc_4, h⟩ := kb3_ok h
  refine gCallI (isC := [0, 1, 2]) (wc := [(q_this, .inr (8, [])), (q_p2, .inr (9, [.int v_p2_n, .int v_p2_m, .ref q_p2_bodies, .int w_2])), (q_p2_bodies, .inl (c 0, 40, .inl w_3))]) (w1 := [(q_this, .inr (8, [])), (q_p2, .inr (9, [.int v_p2_n, .int v_p2_m, .ref q_p2_bodies, .int w_6])), (q_p2_bodies, .inl (c 0, 40, .inl w_7))]) (ws2 := [(q_this, .inr (8, [])), (q_p2, .inr (9, [.int v_p2_n, .int v_p2_m, .ref q_p2_bodies, .int w_6])), (q_p2_bodies, .inl (c 0, 40, .inl w_7))]) (ms := [(some 0), (some 1), (some 2)]) hP hD hS hA ⟨rfl, rfl, rfl, trivial⟩ (by decide +kernel) ⟨rfl, rfl, rfl, trivial⟩ (va_runV (rm := rm_X8_sayMoves_X8) (ws := wsX8_sayMoves) (As := [.int a_1, .ref q_p2]) (rest := []) (gFix hF) (c_X8_sayMoves_X8 l D c q_this q_p2 q_p2_bodies a_1 v_p2_n v_p2_m w_2 w_3 r_5 w_6 w_7 hc_4 H.size) (cwV 2 hts gX8_sayLets_X8_sayMoves rfl rfl rfl (by decide +kernel) ⟨Nat.le_of_ble_eq_true rfl, Nat.le_of_ble_eq_true rfl⟩) (gPreV (wc := [(q_this, .inr (8, [])), (q_p2, .inr (9, [.int v_p2_n, .int v_p2_m, .ref q_p2_bodies, .int w_2])), (q_p2_bodies, .inl (c 0, 40, .inl w_3))]) (q := (RX8, TX8, 0)) (ci := 8) (q0 := 0) (isC := [0, 1, 2]) hK hX hS hA hP hD ⟨rfl, rfl, rfl, trivial⟩ (by decide +kernel) rfl rfl) rfl rfl hl.1 rfl (lv_room (Nat.le_of_ble_eq_true rfl)) dX8_sayLets_9 ⟨Nat.le_of_ble_eq_true rfl, Nat.le_of_ble_eq_true rfl⟩) (fun H locs hP hD hS => ?_)
  refine lv_iconst (v := 2) hx hb dX8_sayLets_12 (by decide) ?_
  refine lv_imul hx hb dX8_sayLets_13 ?_
  obtain ⟨z0, z1, z2⟩ := so3 h
  subst z0 z1 z2
  exact gIret hF hP hD hS rfl dX8_sayLets_14
def f_X8_sayLets_X0 (a_1 : Int32) (v_p2_n : Int32) (v_p2_m : Int32) (v_p2_length : Int32) (v_p2_bodies : Nat → Int32) : Option (Int32 × Int32 × (Nat → Int32)) :=
  kb2 (f_X9_begin 11 v_p2_length v_p2_bodies) fun w_2 w_3 =>
  kb3 (f_X0_sayMoves_X0 a_1 v_p2_n v_p2_m w_2 w_3) fun r_5 w_6 w_7 =>
  some (r_5 * 2, w_6, w_7)

abbrev rm_X8_sayLets_X0 : Room := { frames := 3, cells := 0, slots := 0, locals := 65 }
set_option maxHeartbeats 4000000 in
set_option maxRecDepth 100000 in
theorem c_X8_sayLets_X0 (l : Launch) (D : va_G) (c : Nat → ClassId) (q_this q_p2 q_p2_bodies : Nat) (a_1 : Int32) (v_p2_n : Int32) (v_p2_m : Int32) (v_p2_length : Int32) (v_p2_bodies : Nat → Int32) (o_r : Int32) (o_v_p2_length : Int32) (o_v_p2_bodies : Nat → Int32) (h : f_X8_sayLets_X0 a_1 v_p2_n v_p2_m v_p2_length v_p2_bodies = some (o_r, o_v_p2_length, o_v_p2_bodies)) : gMI l yX8_sayLets wsX8_sayLets rm_X8_sayLets_X0 D c [.ref q_this, .int a_1, .ref q_p2] [(q_this, .inr (0, [])), (q_p2, .inr (9, [.int v_p2_n, .int v_p2_m, .ref q_p2_bodies, .int v_p2_length])), (q_p2_bodies, .inl (c 0, 40, .inl v_p2_bodies))] [(q_this, .inr (0, [])), (q_p2, .inr (9, [.int v_p2_n, .int v_p2_m, .ref q_p2_bodies, .int o_v_p2_length])), (q_p2_bodies, .inl (c 0, 40, .inl o_v_p2_bodies))] o_r := by
  refine gMI_of (cc := cX8_sayLets) (maxL := 3) (rt := (some .int)) (by decide +kernel) rfl (Nat.le_of_ble_eq_true rfl) ?_
  intro p e s m below meth co A hF hK hX hP hD hA hS ls hl
  obtain ⟨hx, hb, hr, hts, hown, hlocks, hml⟩ := id hF
  have hl : lv_has ls 3 [(0, .ref q_this), (1, .int a_1), (2, .ref q_p2)] := hl
  unfold f_X8_sayLets_X0 at h
  refine lv_aload_n hx hb dX8_sayLets_0 rfl (lv_at hl 2 rfl) ?_
  refine lv_bipush (v := 11) hx hb dX8_sayLets_1 (by decide) ?_
  obtain ⟨w_2, w_3, hc_1, h⟩ := kb2_ok h
  refine gCallV (isC := [1, 2]) (wc := [(q_p2, .inr (9, [.int v_p2_n, .int v_p2_m, .ref q_p2_bodies, .int v_p2_length])), (q_p2_bodies, .inl (c 0, 40, .inl v_p2_bodies))]) (w1 := [(q_p2, .inr (9, [.int v_p2_n, .int v_p2_m, .ref q_p2_bodies, .int w_2])), (q_p2_bodies, .inl (c 0, 40, .inl w_3))]) (ws2 := [(q_this, .inr (0, [])), (q_p2, .inr (9, [.int v_p2_n, .int v_p2_m, .ref q_p2_bodies, .int w_2])), (q_p2_bodies, .inl (c 0, 40, .inl w_3))]) (ms := [none, (some 0), (some 1)]) hP hD hS hA ⟨rfl, rfl, trivial⟩ (by decide +kernel) ⟨rfl, rfl, rfl, trivial⟩ (va_runV (rm := rm_X9_begin) (ws := wsX9_begin) (As := [.int 11]) (rest := []) (gFix hF) (c_X9_begin l D c q_p2 q_p2_bodies 11 v_p2_n v_p2_m v_p2_length v_p2_bodies w_2 w_3 hc_1 s.heap.size) (cwV 1 hts gX8_sayLets_X9_begin rfl rfl rfl (by decide +kernel) ⟨Nat.le_of_ble_eq_true rfl, Nat.le_of_ble_eq_true rfl⟩) (gPreV (wc := [(q_p2, .inr (9, [.int v_p2_n, .int v_p2_m, .ref q_p2_bodies, .int v_p2_length])), (q_p2_bodies, .inl (c 0, 40, .inl v_p2_bodies))]) (q := (RX9, TX9, 4)) (ci := 9) (q0 := 1) (isC := [1, 2]) hK hX hS hA hP hD ⟨rfl, rfl, trivial⟩ (by decide +kernel) rfl rfl) rfl rfl hl.1 rfl (lv_room (Nat.le_of_ble_eq_true rfl)) dX8_sayLets_3 ⟨Nat.le_of_ble_eq_true rfl, Nat.le_of_ble_eq_true rfl⟩) (fun H locs hP hD hS => ?_)
  refine lv_aload_n hx hb dX8_sayLets_6 rfl (lv_at hl 0 rfl) ?_
  refine lv_iload_n hx hb dX8_sayLets_7 rfl (lv_at hl 1 rfl) ?_
  refine lv_aload_n hx hb dX8_sayLets_8 rfl (lv_at hl 2 rfl) ?_
  obtain ⟨r_5, w_6, w_7, hc_4, h⟩ := kb3_ok h
  refine gCallI (isC := [0, 1, 2]) (wc := [(q_this, .inr (0, [])), (q_p2, .inr (9, [.int v_p2_n, .int v_p2_m, .ref q_p2_bodies, .int w_2])), (q_p2_bodies, .inl (c 0, 40, .inl w_3))]) (w1 := [(q_this, .inr (0, [])), (q_p2, .inr (9, [.int v_p2_n, .int v_p2_m, .ref q_p2_bodies, .int w_6])), (q_p2_bodies, .inl (c 0, 40, .inl w_7))]) (ws2 := [(q_this, .inr (0, [])), (q_p2, .inr (9, [.int v_p2_n, .int v_p2_m, .ref q_p2_bodies, .int w_6])), (q_p2_bodies, .inl (c 0, 40, .inl w_7))]) (ms := [(some 0), (some 1), (some 2)]) hP hD hS hA ⟨rfl, rfl, rfl, trivial⟩ (by decide +kernel) ⟨rfl, rfl, rfl, trivial⟩ (va_runU (rm := rm_X0_sayMoves_X0) (ws := wsX0_sayMoves) (As := [.int a_1, .ref q_p2]) (rest := []) (gFix hF) (c_X0_sayMoves_X0 l D c q_this q_p2 q_p2_bodies a_1 v_p2_n v_p2_m w_2 w_3 r_5 w_6 w_7 hc_4 H.size) (va_cwO 2 hts gX8_sayLets_X0_sayMoves_u17X0 rfl rfl rfl (List.mem_of_getElem? (i := 20) (rfl : wsX8_sayLets[20]? = some (.code yX8_sayMoves cX8_sayMoves 3 (some .int)))) (by decide +kernel) ⟨Nat.le_of_ble_eq_true rfl, Nat.le_of_ble_eq_true rfl⟩) (gPreV (wc := [(q_this, .inr (0, [])), (q_p2, .inr (9, [.int v_p2_n, .int v_p2_m, .ref q_p2_bodies, .int w_2])), (q_p2_bodies, .inl (c 0, 40, .inl w_3))]) (q := (RX0, TX0, 0)) (ci := 0) (q0 := 0) (isC := [0, 1, 2]) hK hX hS hA hP hD ⟨rfl, rfl, rfl, trivial⟩ (by decide +kernel) rfl rfl) rfl rfl hl.1 rfl (lv_room (Nat.le_of_ble_eq_true rfl)) dX8_sayLets_9 ⟨Nat.le_of_ble_eq_true rfl, Nat.le_of_ble_eq_true rfl⟩) (fun H locs hP hD hS => ?_)
  refine lv_iconst (v := 2) hx hb dX8_sayLets_12 (by decide) ?_
  refine lv_imul hx hb dX8_sayLets_13 ?_
  obtain ⟨z0, z1, z2⟩ := so3 h
  subst z0 z1 z2
  exact gIret hF hP hD hS rfl dX8_sayLets_14
def f_X8_sayMoves_X4 (a_1 : Int32) (v_p2_n : Int32) (v_p2_m : Int32) (v_p2_length : Int32) (v_p2_bodies : Nat → Int32) : Option (Int32 × Int32 × (Nat → Int32)) :=
  kb2 (f_X9_begin 10 v_p2_length v_p2_bodies) fun w_2 w_3 =>
  some (a_1 + v_p2_n, w_2, w_3)

abbrev rm_X8_sayMoves_X4 : Room := { frames := 1, cells := 0, slots := 0, locals := 21 }
set_option maxHeartbeats 4000000 in
set_option maxRecDepth 100000 in
theorem c_X8_sayMoves_X4 (l : Launch) (D : va_G) (c : Nat → ClassId) (q_this q_p2 q_p2_bodies : Nat) (a_1 : Int32) (v_p2_n : Int32) (v_p2_m : Int32) (v_p2_length : Int32) (v_p2_bodies : Nat → Int32) (o_r : Int32) (o_v_p2_length : Int32) (o_v_p2_bodies : Nat → Int32) (h : f_X8_sayMoves_X4 a_1 v_p2_n v_p2_m v_p2_length v_p2_bodies = some (o_r, o_v_p2_length, o_v_p2_bodies)) : gMI l yX8_sayMoves wsX8_sayMoves rm_X8_sayMoves_X4 D c [.ref q_this, .int a_1, .ref q_p2] [(q_this, .inr (4, [])), (q_p2, .inr (9, [.int v_p2_n, .int v_p2_m, .ref q_p2_bodies, .int v_p2_length])), (q_p2_bodies, .inl (c 0, 40, .inl v_p2_bodies))] [(q_this, .inr (4, [])), (q_p2, .inr (9, [.int v_p2_n, .int v_p2_m, .ref q_p2_bodies, .int o_v_p2_length])), (q_p2_bodies, .inl (c 0, 40, .inl o_v_p2_bodies))] o_r := by
  refine gMI_of (cc := cX8_sayMoves) (maxL := 3) (rt := (some .int)) (by decide +kernel) rfl (Nat.le_of_ble_eq_true rfl) ?_
  intro p e s m below meth co A hF hK hX hP hD hA hS ls hl
  obtain ⟨hx, hb, hr, hts, hown, hlocks, hml⟩ := id hF
  have hl : lv_has ls 3 [(0, .ref q_this), (1, .int a_1), (2, .ref q_p2)] := hl
  unfold f_X8_sayMoves_X4 at h
  refine lv_aload_n hx hb dX8_sayMoves_0 rfl (lv_at hl 2 rfl) ?_
  refine lv_bipush (v := 10) hx hb dX8_sayMoves_1 (by decide) ?_
  obtain ⟨w_2, w_3, hc_1, h⟩ := kb2_ok h
  refine gCallV (isC := [1, 2]) (wc := [(q_p2, .inr (9, [.int v_p2_n, .int v_p2_m, .ref q_p2_bodies, .int v_p2_length])), (q_p2_bodies, .inl (c 0, 40, .inl v_p2_bodies))]) (w1 := [(q_p2, .inr (9, [.int v_p2_n, .int v_p2_m, .ref q_p2_bodies, .int w_2])), (q_p2_bodies, .inl (c 0, 40, .inl w_3))]) (ws2 := [(q_this, .inr (4, [])), (q_p2, .inr (9, [.int v_p2_n, .int v_p2_m, .ref q_p2_bodies, .int w_2])), (q_p2_bodies, .inl (c 0, 40, .inl w_3))]) (ms := [none, (some 0), (some 1)]) hP hD hS hA ⟨rfl, rfl, trivial⟩ (by decide +kernel) ⟨rfl, rfl, rfl, trivial⟩ (va_runV (rm := rm_X9_begin) (ws := wsX9_begin) (As := [.int 10]) (rest := []) (gFix hF) (c_X9_begin l D c q_p2 q_p2_bodies 10 v_p2_n v_p2_m v_p2_length v_p2_bodies w_2 w_3 hc_1 s.heap.size) (cwV 1 hts gX8_sayMoves_X9_begin rfl rfl rfl (by decide +kernel) ⟨Nat.le_of_ble_eq_true rfl, Nat.le_of_ble_eq_true rfl⟩) (gPreV (wc := [(q_p2, .inr (9, [.int v_p2_n, .int v_p2_m, .ref q_p2_bodies, .int v_p2_length])), (q_p2_bodies, .inl (c 0, 40, .inl v_p2_bodies))]) (q := (RX9, TX9, 4)) (ci := 9) (q0 := 1) (isC := [1, 2]) hK hX hS hA hP hD ⟨rfl, rfl, trivial⟩ (by decide +kernel) rfl rfl) rfl rfl hl.1 rfl (lv_room (Nat.le_of_ble_eq_true rfl)) dX8_sayMoves_3 ⟨Nat.le_of_ble_eq_true rfl, Nat.le_of_ble_eq_true rfl⟩) (fun H locs hP hD hS => ?_)
  refine lv_iload_n hx hb dX8_sayMoves_6 rfl (lv_at hl 1 rfl) ?_
  refine lv_aload_n hx hb dX8_sayMoves_7 rfl (lv_at hl 2 rfl) ?_
  refine va_getN (D := D) (ci := 9) (v := .int v_p2_n) (C := RX9) (T := TX9) (N := 4) hx hb hts in_X8_sayMoves_X9 hown hK.1 hP 1 rfl rfl 0 (by decide) (va_Nw.use rfl (hK.2 (.fieldLinkNest "PaperBubbles$Tool" 13 "PaperBubbles$Voice" "n" "I" "PaperBubbles") (List.mem_of_getElem? (i := 20) rfl))) (fun _ h9 => h9) rfl dX8_sayMoves_8 ?_
  refine lv_iadd hx hb dX8_sayMoves_11 ?_
  obtain ⟨z0, z1, z2⟩ := so3 h
  subst z0 z1 z2
  exact gIret hF hP hD hS rfl dX8_sayMoves_12
def f_X8_sayLets_X4 (a_1 : Int32) (v_p2_n : Int32) (v_p2_m : Int32) (v_p2_length : Int32) (v_p2_bodies : Nat → Int32) : Option (Int32 × Int32 × (Nat → Int32)) :=
  kb2 (f_X9_begin 11 v_p2_length v_p2_bodies) fun w_2 w_3 =>
  kb3 (f_X8_sayMoves_X4 a_1 v_p2_n v_p2_m w_2 w_3) fun r_5 w_6 w_7 =>
  some (r_5 * 2, w_6, w_7)

abbrev rm_X8_sayLets_X4 : Room := { frames := 2, cells := 0, slots := 0, locals := 43 }
set_option maxHeartbeats 4000000 in
set_option maxRecDepth 100000 in
theorem c_X8_sayLets_X4 (l : Launch) (D : va_G) (c : Nat → ClassId) (q_this q_p2 q_p2_bodies : Nat) (a_1 : Int32) (v_p2_n : Int32) (v_p2_m : Int32) (v_p2_length : Int32) (v_p2_bodies : Nat → Int32) (o_r : Int32) (o_v_p2_length : Int32) (o_v_p2_bodies : Nat → Int32) (h : f_X8_sayLets_X4 a_1 v_p2_n v_p2_m v_p2_length v_p2_bodies = some (o_r, o_v_p2_length, o_v_p2_bodies)) : gMI l yX8_sayLets wsX8_sayLets rm_X8_sayLets_X4 D c [.ref q_this, .int a_1, .ref q_p2] [(q_this, .inr (4, [])), (q_p2, .inr (9, [.int v_p2_n, .int v_p2_m, .ref q_p2_bodies, .int v_p2_length])), (q_p2_bodies, .inl (c 0, 40, .inl v_p2_bodies))] [(q_this, .inr (4, [])), (q_p2, .inr (9, [.int v_p2_n, .int v_p2_m, .ref q_p2_bodies, .int o_v_p2_length])), (q_p2_bodies, .inl (c 0, 40, .inl o_v_p2_bodies))] o_r := by
  refine gMI_of (cc := cX8_sayLets) (maxL := 3) (rt := (some .int)) (by decide +kernel) rfl (Nat.le_of_ble_eq_true rfl) ?_
  intro p e s m below meth co A hF hK hX hP hD hA hS ls hl
  obtain ⟨hx, hb, hr, hts, hown, hlocks, hml⟩ := id hF
  have hl : lv_has ls 3 [(0, .ref q_this), (1, .int a_1), (2, .ref q_p2)] := hl
  unfold f_X8_sayLets_X4 at h
  refine lv_aload_n hx hb dX8_sayLets_0 rfl (lv_at hl 2 rfl) ?_
  refine lv_bipush (v := 11) hx hb dX8_sayLets_1 (by decide) ?_
  obtain ⟨w_2, w_3, hc_1, h⟩ := kb2_ok h
  refine gCallV (isC := [1, 2]) (wc := [(q_p2, .inr (9, [.int v_p2_n, .int v_p2_m, .ref q_p2_bodies, .int v_p2_length])), (q_p2_bodies, .inl (c 0, 40, .inl v_p2_bodies))]) (w1 := [(q_p2, .inr (9, [.int v_p2_n, .int v_p2_m, .ref q_p2_bodies, .int w_2])), (q_p2_bodies, .inl (c 0, 40, .inl w_3))]) (ws2 := [(q_this, .inr (4, [])), (q_p2, .inr (9, [.int v_p2_n, .int v_p2_m, .ref q_p2_bodies, .int w_2])), (q_p2_bodies, .inl (c 0, 40, .inl w_3))]) (ms := [none, (some 0), (some 1)]) hP hD hS hA ⟨rfl, rfl, trivial⟩ (by decide +kernel) ⟨rfl, rfl, rfl, trivial⟩ (va_runV (rm := rm_X9_begin) (ws := wsX9_begin) (As := [.int 11]) (rest := []) (gFix hF) (c_X9_begin l D c q_p2 q_p2_bodies 11 v_p2_n v_p2_m v_p2_length v_p2_bodies w_2 w_3 hc_1 s.heap.size) (cwV 1 hts gX8_sayLets_X9_begin rfl rfl rfl (by decide +kernel) ⟨Nat.le_of_ble_eq_true rfl, Nat.le_of_ble_eq_true rfl⟩) (gPreV (wc := [(q_p2, .inr (9, [.int v_p2_n, .int v_p2_m, .ref q_p2_bodies, .int v_p2_length])), (q_p2_bodies, .inl (c 0, 40, .inl v_p2_bodies))]) (q := (RX9, TX9, 4)) (ci := 9) (q0 := 1) (isC := [1, 2]) hK hX hS hA hP hD ⟨rfl, rfl, trivial⟩ (by decide +kernel) rfl rfl) rfl rfl hl.1 rfl (lv_room (Nat.le_of_ble_eq_true rfl)) dX8_sayLets_3 ⟨Nat.le_of_ble_eq_true rfl, Nat.le_of_ble_eq_true rfl⟩) (fun H locs hP hD hS => ?_)
  refine lv_aload_n hx hb dX8_sayLets_6 rfl (lv_at hl 0 rfl) ?_
  refine lv_iload_n hx hb dX8_sayLets_7 rfl (lv_at hl 1 rfl) ?_
  refine lv_aload_n hx hb dX8_sayLets_8 rfl (lv_at hl 2 rfl) ?_
  obtain ⟨r_5, w_6, w_7, hc_4, h⟩ := kb3_ok h
  refine gCallI (isC := [0, 1, 2]) (wc := [(q_this, .inr (4, [])), (q_p2, .inr (9, [.int v_p2_n, .int v_p2_m, .ref q_p2_bodies, .int w_2])), (q_p2_bodies, .inl (c 0, 40, .inl w_3))]) (w1 := [(q_this, .inr (4, [])), (q_p2, .inr (9, [.int v_p2_n, .int v_p2_m, .ref q_p2_bodies, .int w_6])), (q_p2_bodies, .inl (c 0, 40, .inl w_7))]) (ws2 := [(q_this, .inr (4, [])), (q_p2, .inr (9, [.int v_p2_n, .int v_p2_m, .ref q_p2_bodies, .int w_6])), (q_p2_bodies, .inl (c 0, 40, .inl w_7))]) (ms := [(some 0), (some 1), (some 2)]) hP hD hS hA ⟨rfl, rfl, rfl, trivial⟩ (by decide +kernel) ⟨rfl, rfl, rfl, trivial⟩ (va_runU (rm := rm_X8_sayMoves_X4) (ws := wsX8_sayMoves) (As := [.int a_1, .ref q_p2]) (rest := []) (gFix hF) (c_X8_sayMoves_X4 l D c q_this q_p2 q_p2_bodies a_1 v_p2_n v_p2_m w_2 w_3 r_5 w_6 w_7 hc_4 H.size) (va_cwU 2 hts gX8_sayLets_X8_sayMoves_u17X4 rfl rfl rfl rfl (by decide +kernel) ⟨Nat.le_of_ble_eq_true rfl, Nat.le_of_ble_eq_true rfl⟩) (gPreV (wc := [(q_this, .inr (4, [])), (q_p2, .inr (9, [.int v_p2_n, .int v_p2_m, .ref q_p2_bodies, .int w_2])), (q_p2_bodies, .inl (c 0, 40, .inl w_3))]) (q := (RX4, TX4, 0)) (ci := 4) (q0 := 0) (isC := [0, 1, 2]) hK hX hS hA hP hD ⟨rfl, rfl, rfl, trivial⟩ (by decide +kernel) rfl rfl) rfl rfl hl.1 rfl (lv_room (Nat.le_of_ble_eq_true rfl)) dX8_sayLets_9 ⟨Nat.le_of_ble_eq_true rfl, Nat.le_of_ble_eq_true rfl⟩) (fun H locs hP hD hS => ?_)
  refine lv_iconst (v := 2) hx hb dX8_sayLets_12 (by decide) ?_
  refine lv_imul hx hb dX8_sayLets_13 ?_
  obtain ⟨z0, z1, z2⟩ := so3 h
  subst z0 z1 z2
  exact gIret hF hP hD hS rfl dX8_sayLets_14
set_option maxRecDepth 20000 in
theorem in_X8_sayTears_X9 : ∀ w ∈ u_ws RX9 TX9 4, w ∈ wsX8_sayTears := by decide +kernel
def f_X8_sayTears_X4 (a_1 : Int32) (v_p2_n : Int32) (v_p2_m : Int32) (v_p2_length : Int32) (v_p2_bodies : Nat → Int32) : Option (Int32 × Int32 × (Nat → Int32)) :=
  kb2 (f_X9_begin 12 v_p2_length v_p2_bodies) fun w_2 w_3 =>
  some (a_1 - v_p2_m, w_2, w_3)

abbrev rm_X8_sayTears_X4 : Room := { frames := 1, cells := 0, slots := 0, locals := 21 }
set_option maxHeartbeats 4000000 in
set_option maxRecDepth 100000 in
theorem c_X8_sayTears_X4 (l : Launch) (D : va_G) (c : Nat → ClassId) (q_this q_p2 q_p2_bodies : Nat) (a_1 : Int32) (v_p2_n : Int32) (v_p2_m : Int32) (v_p2_length : Int32) (v_p2_bodies : Nat → Int32) (o_r : Int32) (o_v_p2_length : Int32) (o_v_p2_bodies : Nat → Int32) (h : f_X8_sayTears_X4 a_1 v_p2_n v_p2_m v_p2_length v_p2_bodies = some (o_r, o_v_p2_length, o_v_p2_bodies)) : gMI l yX8_sayTears wsX8_sayTears rm_X8_sayTears_X4 D c [.ref q_this, .int a_1, .ref q_p2] [(q_this, .inr (4, [])), (q_p2, .inr (9, [.int v_p2_n, .int v_p2_m, .ref q_p2_bodies, .int v_p2_length])), (q_p2_bodies, .inl (c 0, 40, .inl v_p2_bodies))] [(q_this, .inr (4, [])), (q_p2, .inr (9, [.int v_p2_n, .int v_p2_m, .ref q_p2_bodies, .int o_v_p2_length])), (q_p2_bodies, .inl (c 0, 40, .inl o_v_p2_bodies))] o_r := by
  refine gMI_of (cc := cX8_sayTears) (maxL := 3) (rt := (some .int)) (by decide +kernel) rfl (Nat.le_of_ble_eq_true rfl) ?_
  intro p e s m below meth co A hF hK hX hP hD hA hS ls hl
  obtain ⟨hx, hb, hr, hts, hown, hlocks, hml⟩ := id hF
  have hl : lv_has ls 3 [(0, .ref q_this), (1, .int a_1), (2, .ref q_p2)] := hl
  unfold f_X8_sayTears_X4 at h
  refine lv_aload_n hx hb dX8_sayTears_0 rfl (lv_at hl 2 rfl) ?_
  refine lv_bipush (v := 12) hx hb dX8_sayTears_1 (by decide) ?_
  obtain ⟨w_2, w_3, hc_1, h⟩ := kb2_ok h
  refine gCallV (isC := [1, 2]) (wc := [(q_p2, .inr (9, [.int v_p2_n, .int v_p2_m, .ref q_p2_bodies, .int v_p2_length])), (q_p2_bodies, .inl (c 0, 40, .inl v_p2_bodies))]) (w1 := [(q_p2, .inr (9, [.int v_p2_n, .int v_p2_m, .ref q_p2_bodies, .int w_2])), (q_p2_bodies, .inl (c 0, 40, .inl w_3))]) (ws2 := [(q_this, .inr (4, [])), (q_p2, .inr (9, [.int v_p2_n, .int v_p2_m, .ref q_p2_bodies, .int w_2])), (q_p2_bodies, .inl (c 0, 40, .inl w_3))]) (ms := [none, (some 0), (some 1)]) hP hD hS hA ⟨rfl, rfl, trivial⟩ (by decide +kernel) ⟨rfl, rfl, rfl, trivial⟩ (va_runV (rm := rm_X9_begin) (ws := wsX9_begin) (As := [.int 12]) (rest := []) (gFix hF) (c_X9_begin l D c q_p2 q_p2_bodies 12 v_p2_n v_p2_m v_p2_length v_p2_bodies w_2 w_3 hc_1 s.heap.size) (cwV 1 hts gX8_sayTears_X9_begin rfl rfl rfl (by decide +kernel) ⟨Nat.le_of_ble_eq_true rfl, Nat.le_of_ble_eq_true rfl⟩) (gPreV (wc := [(q_p2, .inr (9, [.int v_p2_n, .int v_p2_m, .ref q_p2_bodies, .int v_p2_length])), (q_p2_bodies, .inl (c 0, 40, .inl v_p2_bodies))]) (q := (RX9, TX9, 4)) (ci := 9) (q0 := 1) (isC := [1, 2]) hK hX hS hA hP hD ⟨rfl, rfl, trivial⟩ (by decide +kernel) rfl rfl) rfl rfl hl.1 rfl (lv_room (Nat.le_of_ble_eq_true rfl)) dX8_sayTears_3 ⟨Nat.le_of_ble_eq_true rfl, Nat.le_of_ble_eq_true rfl⟩) (fun H locs hP hD hS => ?_)
  refine lv_iload_n hx hb dX8_sayTears_6 rfl (lv_at hl 1 rfl) ?_
  refine lv_aload_n hx hb dX8_sayTears_7 rfl (lv_at hl 2 rfl) ?_
  refine va_getN (D := D) (ci := 9) (v := .int v_p2_m) (C := RX9) (T := TX9) (N := 4) hx hb hts in_X8_sayTears_X9 hown hK.1 hP 1 rfl rfl 1 (by decide) (va_Nw.use rfl (hK.2 (.fieldLinkNest "PaperBubbles$Tool" 23 "PaperBubbles$Voice" "m" "I" "PaperBubbles") (List.mem_of_getElem? (i := 21) rfl))) (fun _ h9 => h9) rfl dX8_sayTears_8 ?_
  refine lv_isub hx hb dX8_sayTears_11 ?_
  obtain ⟨z0, z1, z2⟩ := so3 h
  subst z0 z1 z2
  exact gIret hF hP hD hS rfl dX8_sayTears_12
def f_X4_sayLets_X4 (a_1 : Int32) (v_p2_n : Int32) (v_p2_m : Int32) (v_p2_length : Int32) (v_p2_bodies : Nat → Int32) : Option (Int32 × Int32 × (Nat → Int32)) :=
  kb2 (f_X9_begin 30 v_p2_length v_p2_bodies) fun w_2 w_3 =>
  kb3 (f_X8_sayLets_X4 a_1 v_p2_n v_p2_m w_2 w_3) fun r_5 w_6 w_7 =>
  kb3 (f_X8_sayTears_X4 1 v_p2_n v_p2_m w_6 w_7) fun r_9 w_10 w_11 =>
  some (r_5 - r_9, w_10, w_11)

abbrev rm_X4_sayLets_X4 : Room := { frames := 3, cells := 0, slots := 0, locals := 65 }
set_option maxHeartbeats 4000000 in
set_option maxRecDepth 100000 in
theorem c_X4_sayLets_X4 (l : Launch) (D : va_G) (c : Nat → ClassId) (q_this q_p2 q_p2_bodies : Nat) (a_1 : Int32) (v_p2_n : Int32) (v_p2_m : Int32) (v_p2_length : Int32) (v_p2_bodies : Nat → Int32) (o_r : Int32) (o_v_p2_length : Int32) (o_v_p2_bodies : Nat → Int32) (h : f_X4_sayLets_X4 a_1 v_p2_n v_p2_m v_p2_length v_p2_bodies = some (o_r, o_v_p2_length, o_v_p2_bodies)) : gMI l yX4_sayLets wsX4_sayLets rm_X4_sayLets_X4 D c [.ref q_this, .int a_1, .ref q_p2] [(q_this, .inr (4, [])), (q_p2, .inr (9, [.int v_p2_n, .int v_p2_m, .ref q_p2_bodies, .int v_p2_length])), (q_p2_bodies, .inl (c 0, 40, .inl v_p2_bodies))] [(q_this, .inr (4, [])), (q_p2, .inr (9, [.int v_p2_n, .int v_p2_m, .ref q_p2_bodies, .int o_v_p2_length])), (q_p2_bodies, .inl (c 0, 40, .inl o_v_p2_bodies))] o_r := by
  refine gMI_of (cc := cX4_sayLets) (maxL := 3) (rt := (some .int)) (by decide +kernel) rfl (Nat.le_of_ble_eq_true rfl) ?_
  intro p e s m below meth co A hF hK hX hP hD hA hS ls hl
  obtain ⟨hx, hb, hr, hts, hown, hlocks, hml⟩ := id hF
  have hl : lv_has ls 3 [(0, .ref q_this), (1, .int a_1), (2, .ref q_p2)] := hl
  unfold f_X4_sayLets_X4 at h
  refine lv_aload_n hx hb dX4_sayLets_0 rfl (lv_at hl 2 rfl) ?_
  refine lv_bipush (v := 30) hx hb dX4_sayLets_1 (by decide) ?_
  obtain ⟨w_2, w_3, hc_1, h⟩ := kb2_ok h
  refine gCallV (isC := [1, 2]) (wc := [(q_p2, .inr (9, [.int v_p2_n, .int v_p2_m, .ref q_p2_bodies, .int v_p2_length])), (q_p2_bodies, .inl (c 0, 40, .inl v_p2_bodies))]) (w1 := [(q_p2, .inr (9, [.int v_p2_n, .int v_p2_m, .ref q_p2_bodies, .int w_2])), (q_p2_bodies, .inl (c 0, 40, .inl w_3))]) (ws2 := [(q_this, .inr (4, [])), (q_p2, .inr (9, [.int v_p2_n, .int v_p2_m, .ref q_p2_bodies, .int w_2])), (q_p2_bodies, .inl (c 0, 40, .inl w_3))]) (ms := [none, (some 0), (some 1)]) hP hD hS hA ⟨rfl, rfl, trivial⟩ (by decide +kernel) ⟨rfl, rfl, rfl, trivial⟩ (va_runV (rm := rm_X9_begin) (ws := wsX9_begin) (As := [.int 30]) (rest := []) (gFix hF) (c_X9_begin l D c q_p2 q_p2_bodies 30 v_p2_n v_p2_m v_p2_length v_p2_bodies w_2 w_3 hc_1 s.heap.size) (cwV 1 hts gX4_sayLets_X9_begin rfl rfl rfl (by decide +kernel) ⟨Nat.le_of_ble_eq_true rfl, Nat.le_of_ble_eq_true rfl⟩) (gPreV (wc := [(q_p2, .inr (9, [.int v_p2_n, .int v_p2_m, .ref q_p2_bodies, .int v_p2_length])), (q_p2_bodies, .inl (c 0, 40, .inl v_p2_bodies))]) (q := (RX9, TX9, 4)) (ci := 9) (q0 := 1) (isC := [1, 2]) hK hX hS hA hP hD ⟨rfl, rfl, trivial⟩ (by decide +kernel) rfl rfl) rfl rfl hl.1 rfl (lv_room (Nat.le_of_ble_eq_true rfl)) dX4_sayLets_3 ⟨Nat.le_of_ble_eq_true rfl, Nat.le_of_ble_eq_true rfl⟩) (fun H locs hP hD hS => ?_)
  refine lv_aload_n hx hb dX4_sayLets_6 rfl (lv_at hl 0 rfl) ?_
  refine lv_iload_n hx hb dX4_sayLets_7 rfl (lv_at hl 1 rfl) ?_
  refine lv_aload_n hx hb dX4_sayLets_8 rfl (lv_at hl 2 rfl) ?_
  obtain ⟨r_5, w_6, w_7, hc_4, h⟩ := kb3_ok h
  refine gCallI (isC := [0, 1, 2]) (wc := [(q_this, .inr (4, [])), (q_p2, .inr (9, [.int v_p2_n, .int v_p2_m, .ref q_p2_bodies, .int w_2])), (q_p2_bodies, .inl (c 0, 40, .inl w_3))]) (w1 := [(q_this, .inr (4, [])), (q_p2, .inr (9, [.int v_p2_n, .int v_p2_m, .ref q_p2_bodies, .int w_6])), (q_p2_bodies, .inl (c 0, 40, .inl w_7))]) (ws2 := [(q_this, .inr (4, [])), (q_p2, .inr (9, [.int v_p2_n, .int v_p2_m, .ref q_p2_bodies, .int w_6])), (q_p2_bodies, .inl (c 0, 40, .inl w_7))]) (ms := [(some 0), (some 1), (some 2)]) hP hD hS hA ⟨rfl, rfl, rfl, trivial⟩ (by decide +kernel) ⟨rfl, rfl, rfl, trivial⟩ (va_runSU (rm := rm_X8_sayLets_X4) (ws := wsX8_sayLets) (As := [.int a_1, .ref q_p2]) (rest := []) (hK.1.1 4 _ rfl).2 (gFix hF) (c_X8_sayLets_X4 l D c q_this q_p2 q_p2_bodies a_1 v_p2_n v_p2_m w_2 w_3 r_5 w_6 w_7 hc_4 H.size) (va_cwSU 2 hts gX4_sayLets_X8_sayLets_s17 rfl rfl rfl (by decide +kernel) ⟨Nat.le_of_ble_eq_true rfl, Nat.le_of_ble_eq_true rfl⟩) (gPreV (wc := [(q_this, .inr (4, [])), (q_p2, .inr (9, [.int v_p2_n, .int v_p2_m, .ref q_p2_bodies, .int w_2])), (q_p2_bodies, .inl (c 0, 40, .inl w_3))]) (q := (RX4, TX4, 0)) (ci := 4) (q0 := 0) (isC := [0, 1, 2]) hK hX hS hA hP hD ⟨rfl, rfl, rfl, trivial⟩ (by decide +kernel) rfl rfl) rfl rfl hl.1 rfl (lv_room (Nat.le_of_ble_eq_true rfl)) dX4_sayLets_9 ⟨Nat.le_of_ble_eq_true rfl, Nat.le_of_ble_eq_true rfl⟩) (fun H locs hP hD hS => ?_)
  refine lv_aload_n hx hb dX4_sayLets_12 rfl (lv_at hl 0 rfl) ?_
  refine lv_iconst (v := 1) hx hb dX4_sayLets_13 (by decide) ?_
  refine lv_aload_n hx hb dX4_sayLets_14 rfl (lv_at hl 2 rfl) ?_
  obtain ⟨r_9, w_10, w_11, hc_8, h⟩ := kb3_ok h
  refine gCallI (isC := [0, 1, 2]) (wc := [(q_this, .inr (4, [])), (q_p2, .inr (9, [.int v_p2_n, .int v_p2_m, .ref q_p2_bodies, .int w_6])), (q_p2_bodies, .inl (c 0, 40, .inl w_7))]) (w1 := [(q_this, .inr (4, [])), (q_p2, .inr (9, [.int v_p2_n, .int v_p2_m, .ref q_p2_bodies, .int w_10])), (q_p2_bodies, .inl (c 0, 40, .inl w_11))]) (ws2 := [(q_this, .inr (4, [])), (q_p2, .inr (9, [.int v_p2_n, .int v_p2_m, .ref q_p2_bodies, .int w_10])), (q_p2_bodies, .inl (c 0, 40, .inl w_11))]) (ms := [(some 0), (some 1), (some 2)]) hP hD hS hA ⟨rfl, rfl, rfl, trivial⟩ (by decide +kernel) ⟨rfl, rfl, rfl, trivial⟩ (va_runU (rm := rm_X8_sayTears_X4) (ws := wsX8_sayTears) (As := [.int 1, .ref q_p2]) (rest := [.int r_5]) (gFix hF) (c_X8_sayTears_X4 l D c q_this q_p2 q_p2_bodies 1 v_p2_n v_p2_m w_6 w_7 r_9 w_10 w_11 hc_8 H.size) (va_cwU 2 hts gX4_sayLets_X8_sayTears_u21X4 rfl rfl rfl rfl (by decide +kernel) ⟨Nat.le_of_ble_eq_true rfl, Nat.le_of_ble_eq_true rfl⟩) (gPreV (wc := [(q_this, .inr (4, [])), (q_p2, .inr (9, [.int v_p2_n, .int v_p2_m, .ref q_p2_bodies, .int w_6])), (q_p2_bodies, .inl (c 0, 40, .inl w_7))]) (q := (RX4, TX4, 0)) (ci := 4) (q0 := 0) (isC := [0, 1, 2]) hK hX hS hA hP hD ⟨rfl, rfl, rfl, trivial⟩ (by decide +kernel) rfl rfl) rfl rfl hl.1 rfl (lv_room (Nat.le_of_ble_eq_true rfl)) dX4_sayLets_15 ⟨Nat.le_of_ble_eq_true rfl, Nat.le_of_ble_eq_true rfl⟩) (fun H locs hP hD hS => ?_)
  refine lv_isub hx hb dX4_sayLets_18 ?_
  obtain ⟨z0, z1, z2⟩ := so3 h
  subst z0 z1 z2
  exact gIret hF hP hD hS rfl dX4_sayLets_19
def f_X8_sayMoves_X5 (a_1 : Int32) (v_p2_n : Int32) (v_p2_m : Int32) (v_p2_length : Int32) (v_p2_bodies : Nat → Int32) : Option (Int32 × Int32 × (Nat → Int32)) :=
  kb2 (f_X9_begin 10 v_p2_length v_p2_bodies) fun w_2 w_3 =>
  some (a_1 + v_p2_n, w_2, w_3)

abbrev rm_X8_sayMoves_X5 : Room := { frames := 1, cells := 0, slots := 0, locals := 21 }
set_option maxHeartbeats 4000000 in
set_option maxRecDepth 100000 in
theorem c_X8_sayMoves_X5 (l : Launch) (D : va_G) (c : Nat → ClassId) (q_this q_p2 q_p2_bodies : Nat) (a_1 : Int32) (v_p2_n : Int32) (v_p2_m : Int32) (v_p2_length : Int32) (v_p2_bodies : Nat → Int32) (o_r : Int32) (o_v_p2_length : Int32) (o_v_p2_bodies : Nat → Int32) (h : f_X8_sayMoves_X5 a_1 v_p2_n v_p2_m v_p2_length v_p2_bodies = some (o_r, o_v_p2_length, o_v_p2_bodies)) : gMI l yX8_sayMoves wsX8_sayMoves rm_X8_sayMoves_X5 D c [.ref q_this, .int a_1, .ref q_p2] [(q_this, .inr (5, [])), (q_p2, .inr (9, [.int v_p2_n, .int v_p2_m, .ref q_p2_bodies, .int v_p2_length])), (q_p2_bodies, .inl (c 0, 40, .inl v_p2_bodies))] [(q_this, .inr (5, [])), (q_p2, .inr (9, [.int v_p2_n, .int v_p2_m, .ref q_p2_bodies, .int o_v_p2_length])), (q_p2_bodies, .inl (c 0, 40, .inl o_v_p2_bodies))] o_r := by
  refine gMI_of (cc := cX8_sayMoves) (maxL := 3) (rt := (some .int)) (by decide +kernel) rfl (Nat.le_of_ble_eq_true rfl) ?_
  intro p e s m below meth co A hF hK hX hP hD hA hS ls hl
  obtain ⟨hx, hb, hr, hts, hown, hlocks, hml⟩ := id hF
  have hl : lv_has ls 3 [(0, .ref q_this), (1, .int a_1), (2, .ref q_p2)] := hl
  unfold f_X8_sayMoves_X5 at h
  refine lv_aload_n hx hb dX8_sayMoves_0 rfl (lv_at hl 2 rfl) ?_
  refine lv_bipush (v := 10) hx hb dX8_sayMoves_1 (by decide) ?_
  obtain ⟨w_2, w_3, hc_1, h⟩ := kb2_ok h
  refine gCallV (isC := [1, 2]) (wc := [(q_p2, .inr (9, [.int v_p2_n, .int v_p2_m, .ref q_p2_bodies, .int v_p2_length])), (q_p2_bodies, .inl (c 0, 40, .inl v_p2_bodies))]) (w1 := [(q_p2, .inr (9, [.int v_p2_n, .int v_p2_m, .ref q_p2_bodies, .int w_2])), (q_p2_bodies, .inl (c 0, 40, .inl w_3))]) (ws2 := [(q_this, .inr (5, [])), (q_p2, .inr (9, [.int v_p2_n, .int v_p2_m, .ref q_p2_bodies, .int w_2])), (q_p2_bodies, .inl (c 0, 40, .inl w_3))]) (ms := [none, (some 0), (some 1)]) hP hD hS hA ⟨rfl, rfl, trivial⟩ (by decide +kernel) ⟨rfl, rfl, rfl, trivial⟩ (va_runV (rm := rm_X9_begin) (ws := wsX9_begin) (As := [.int 10]) (rest := []) (gFix hF) (c_X9_begin l D c q_p2 q_p2_bodies 10 v_p2_n v_p2_m v_p2_length v_p2_bodies w_2 w_3 hc_1 s.heap.size) (cwV 1 hts gX8_sayMoves_X9_begin rfl rfl rfl (by decide +kernel) ⟨Nat.le_of_ble_eq_true rfl, Nat.le_of_ble_eq_true rfl⟩) (gPreV (wc := [(q_p2, .inr (9, [.int v_p2_n, .int v_p2_m, .ref q_p2_bodies, .int v_p2_length])), (q_p2_bodies, .inl (c 0, 40, .inl v_p2_bodies))]) (q := (RX9, TX9, 4)) (ci := 9) (q0 := 1) (isC := [1, 2]) hK hX hS hA hP hD ⟨rfl, rfl, trivial⟩ (by decide +kernel) rfl rfl) rfl rfl hl.1 rfl (lv_room (Nat.le_of_ble_eq_true rfl)) dX8_sayMoves_3 ⟨Nat.le_of_ble_eq_true rfl, Nat.le_of_ble_eq_true rfl⟩) (fun H locs hP hD hS => ?_)
  refine lv_iload_n hx hb dX8_sayMoves_6 rfl (lv_at hl 1 rfl) ?_
  refine lv_aload_n hx hb dX8_sayMoves_7 rfl (lv_at hl 2 rfl) ?_
  refine va_getN (D := D) (ci := 9) (v := .int v_p2_n) (C := RX9) (T := TX9) (N := 4) hx hb hts in_X8_sayMoves_X9 hown hK.1 hP 1 rfl rfl 0 (by decide) (va_Nw.use rfl (hK.2 (.fieldLinkNest "PaperBubbles$Tool" 13 "PaperBubbles$Voice" "n" "I" "PaperBubbles") (List.mem_of_getElem? (i := 20) rfl))) (fun _ h9 => h9) rfl dX8_sayMoves_8 ?_
  refine lv_iadd hx hb dX8_sayMoves_11 ?_
  obtain ⟨z0, z1, z2⟩ := so3 h
  subst z0 z1 z2
  exact gIret hF hP hD hS rfl dX8_sayMoves_12
def f_X8_sayLets_X5 (a_1 : Int32) (v_p2_n : Int32) (v_p2_m : Int32) (v_p2_length : Int32) (v_p2_bodies : Nat → Int32) : Option (Int32 × Int32 × (Nat → Int32)) :=
  kb2 (f_X9_begin 11 v_p2_length v_p2_bodies) fun w_2 w_3 =>
  kb3 (f_X8_sayMoves_X5 a_1 v_p2_n v_p2_m w_2 w_3) fun r_5 w_6 w_7 =>
  some (r_5 * 2, w_6, w_7)

abbrev rm_X8_sayLets_X5 : Room := { frames := 2, cells := 0, slots := 0, locals := 43 }
set_option maxHeartbeats 4000000 in
set_option maxRecDepth 100000 in
theorem c_X8_sayLets_X5 (l : Launch) (D : va_G) (c : Nat → ClassId) (q_this q_p2 q_p2_bodies : Nat) (a_1 : Int32) (v_p2_n : Int32) (v_p2_m : Int32) (v_p2_length : Int32) (v_p2_bodies : Nat → Int32) (o_r : Int32) (o_v_p2_length : Int32) (o_v_p2_bodies : Nat → Int32) (h : f_X8_sayLets_X5 a_1 v_p2_n v_p2_m v_p2_length v_p2_bodies = some (o_r, o_v_p2_length, o_v_p2_bodies)) : gMI l yX8_sayLets wsX8_sayLets rm_X8_sayLets_X5 D c [.ref q_this, .int a_1, .ref q_p2] [(q_this, .inr (5, [])), (q_p2, .inr (9, [.int v_p2_n, .int v_p2_m, .ref q_p2_bodies, .int v_p2_length])), (q_p2_bodies, .inl (c 0, 40, .inl v_p2_bodies))] [(q_this, .inr (5, [])), (q_p2, .inr (9, [.int v_p2_n, .int v_p2_m, .ref q_p2_bodies, .int o_v_p2_length])), (q_p2_bodies, .inl (c 0, 40, .inl o_v_p2_bodies))] o_r := by
  refine gMI_of (cc := cX8_sayLets) (maxL := 3) (rt := (some .int)) (by decide +kernel) rfl (Nat.le_of_ble_eq_true rfl) ?_
  intro p e s m below meth co A hF hK hX hP hD hA hS ls hl
  obtain ⟨hx, hb, hr, hts, hown, hlocks, hml⟩ := id hF
  have hl : lv_has ls 3 [(0, .ref q_this), (1, .int a_1), (2, .ref q_p2)] := hl
  unfold f_X8_sayLets_X5 at h
  refine lv_aload_n hx hb dX8_sayLets_0 rfl (lv_at hl 2 rfl) ?_
  refine lv_bipush (v := 11) hx hb dX8_sayLets_1 (by decide) ?_
  obtain ⟨w_2, w_3, hc_1, h⟩ := kb2_ok h
  refine gCallV (isC := [1, 2]) (wc := [(q_p2, .inr (9, [.int v_p2_n, .int v_p2_m, .ref q_p2_bodies, .int v_p2_length])), (q_p2_bodies, .inl (c 0, 40, .inl v_p2_bodies))]) (w1 := [(q_p2, .inr (9, [.int v_p2_n, .int v_p2_m, .ref q_p2_bodies, .int w_2])), (q_p2_bodies, .inl (c 0, 40, .inl w_3))]) (ws2 := [(q_this, .inr (5, [])), (q_p2, .inr (9, [.int v_p2_n, .int v_p2_m, .ref q_p2_bodies, .int w_2])), (q_p2_bodies, .inl (c 0, 40, .inl w_3))]) (ms := [none, (some 0), (some 1)]) hP hD hS hA ⟨rfl, rfl, trivial⟩ (by decide +kernel) ⟨rfl, rfl, rfl, trivial⟩ (va_runV (rm := rm_X9_begin) (ws := wsX9_begin) (As := [.int 11]) (rest := []) (gFix hF) (c_X9_begin l D c q_p2 q_p2_bodies 11 v_p2_n v_p2_m v_p2_length v_p2_bodies w_2 w_3 hc_1 s.heap.size) (cwV 1 hts gX8_sayLets_X9_begin rfl rfl rfl (by decide +kernel) ⟨Nat.le_of_ble_eq_true rfl, Nat.le_of_ble_eq_true rfl⟩) (gPreV (wc := [(q_p2, .inr (9, [.int v_p2_n, .int v_p2_m, .ref q_p2_bodies, .int v_p2_length])), (q_p2_bodies, .inl (c 0, 40, .inl v_p2_bodies))]) (q := (RX9, TX9, 4)) (ci := 9) (q0 := 1) (isC := [1, 2]) hK hX hS hA hP hD ⟨rfl, rfl, trivial⟩ (by decide +kernel) rfl rfl) rfl rfl hl.1 rfl (lv_room (Nat.le_of_ble_eq_true rfl)) dX8_sayLets_3 ⟨Nat.le_of_ble_eq_true rfl, Nat.le_of_ble_eq_true rfl⟩) (fun H locs hP hD hS => ?_)
  refine lv_aload_n hx hb dX8_sayLets_6 rfl (lv_at hl 0 rfl) ?_
  refine lv_iload_n hx hb dX8_sayLets_7 rfl (lv_at hl 1 rfl) ?_
  refine lv_aload_n hx hb dX8_sayLets_8 rfl (lv_at hl 2 rfl) ?_
  obtain ⟨r_5, w_6, w_7, hc_4, h⟩ := kb3_ok h
  refine gCallI (isC := [0, 1, 2]) (wc := [(q_this, .inr (5, [])), (q_p2, .inr (9, [.int v_p2_n, .int v_p2_m, .ref q_p2_bodies, .int w_2])), (q_p2_bodies, .inl (c 0, 40, .inl w_3))]) (w1 := [(q_this, .inr (5, [])), (q_p2, .inr (9, [.int v_p2_n, .int v_p2_m, .ref q_p2_bodies, .int w_6])), (q_p2_bodies, .inl (c 0, 40, .inl w_7))]) (ws2 := [(q_this, .inr (5, [])), (q_p2, .inr (9, [.int v_p2_n, .int v_p2_m, .ref q_p2_bodies, .int w_6])), (q_p2_bodies, .inl (c 0, 40, .inl w_7))]) (ms := [(some 0), (some 1), (some 2)]) hP hD hS hA ⟨rfl, rfl, rfl, trivial⟩ (by decide +kernel) ⟨rfl, rfl, rfl, trivial⟩ (va_runU (rm := rm_X8_sayMoves_X5) (ws := wsX8_sayMoves) (As := [.int a_1, .ref q_p2]) (rest := []) (gFix hF) (c_X8_sayMoves_X5 l D c q_this q_p2 q_p2_bodies a_1 v_p2_n v_p2_m w_2 w_3 r_5 w_6 w_7 hc_4 H.size) (va_cwU 2 hts gX8_sayLets_X8_sayMoves_u17X5 rfl rfl rfl rfl (by decide +kernel) ⟨Nat.le_of_ble_eq_true rfl, Nat.le_of_ble_eq_true rfl⟩) (gPreV (wc := [(q_this, .inr (5, [])), (q_p2, .inr (9, [.int v_p2_n, .int v_p2_m, .ref q_p2_bodies, .int w_2])), (q_p2_bodies, .inl (c 0, 40, .inl w_3))]) (q := (RX5, TX5, 0)) (ci := 5) (q0 := 0) (isC := [0, 1, 2]) hK hX hS hA hP hD ⟨rfl, rfl, rfl, trivial⟩ (by decide +kernel) rfl rfl) rfl rfl hl.1 rfl (lv_room (Nat.le_of_ble_eq_true rfl)) dX8_sayLets_9 ⟨Nat.le_of_ble_eq_true rfl, Nat.le_of_ble_eq_true rfl⟩) (fun H locs hP hD hS => ?_)
  refine lv_iconst (v := 2) hx hb dX8_sayLets_12 (by decide) ?_
  refine lv_imul hx hb dX8_sayLets_13 ?_
  obtain ⟨z0, z1, z2⟩ := so3 h
  subst z0 z1 z2
  exact gIret hF hP hD hS rfl dX8_sayLets_14
def f_X8_sayLets_X6 (a_1 : Int32) (v_p2_n : Int32) (v_p2_m : Int32) (v_p2_length : Int32) (v_p2_bodies : Nat → Int32) : Option (Int32 × Int32 × (Nat → Int32)) :=
  kb2 (f_X9_begin 11 v_p2_length v_p2_bodies) fun w_2 w_3 =>
  kb3 (f_X0_sayMoves_X6 a_1 v_p2_n v_p2_m w_2 w_3) fun r_5 w_6 w_7 =>
  some (r_5 * 2, w_6, w_7)

abbrev rm_X8_sayLets_X6 : Room := { frames := 3, cells := 0, slots := 0, locals := 65 }
set_option maxHeartbeats 4000000 in
set_option maxRecDepth 100000 in
theorem c_X8_sayLets_X6 (l : Launch) (D : va_G) (c : Nat → ClassId) (q_this q_p2 q_p2_bodies : Nat) (a_1 : Int32) (v_p2_n : Int32) (v_p2_m : Int32) (v_p2_length : Int32) (v_p2_bodies : Nat → Int32) (o_r : Int32) (o_v_p2_length : Int32) (o_v_p2_bodies : Nat → Int32) (h : f_X8_sayLets_X6 a_1 v_p2_n v_p2_m v_p2_length v_p2_bodies = some (o_r, o_v_p2_length, o_v_p2_bodies)) : gMI l yX8_sayLets wsX8_sayLets rm_X8_sayLets_X6 D c [.ref q_this, .int a_1, .ref q_p2] [(q_this, .inr (6, [])), (q_p2, .inr (9, [.int v_p2_n, .int v_p2_m, .ref q_p2_bodies, .int v_p2_length])), (q_p2_bodies, .inl (c 0, 40, .inl v_p2_bodies))] [(q_this, .inr (6, [])), (q_p2, .inr (9, [.int v_p2_n, .int v_p2_m, .ref q_p2_bodies, .int o_v_p2_length])), (q_p2_bodies, .inl (c 0, 40, .inl o_v_p2_bodies))] o_r := by
  refine gMI_of (cc := cX8_sayLets) (maxL := 3) (rt := (some .int)) (by decide +kernel) rfl (Nat.le_of_ble_eq_true rfl) ?_
  intro p e s m below meth co A hF hK hX hP hD hA hS ls hl
  obtain ⟨hx, hb, hr, hts, hown, hlocks, hml⟩ := id hF
  have hl : lv_has ls 3 [(0, .ref q_this), (1, .int a_1), (2, .ref q_p2)] := hl
  unfold f_X8_sayLets_X6 at h
  refine lv_aload_n hx hb dX8_sayLets_0 rfl (lv_at hl 2 rfl) ?_
  refine lv_bipush (v := 11) hx hb dX8_sayLets_1 (by decide) ?_
  obtain ⟨w_2, w_3, hc_1, h⟩ := kb2_ok h
  refine gCallV (isC := [1, 2]) (wc := [(q_p2, .inr (9, [.int v_p2_n, .int v_p2_m, .ref q_p2_bodies, .int v_p2_length])), (q_p2_bodies, .inl (c 0, 40, .inl v_p2_bodies))]) (w1 := [(q_p2, .inr (9, [.int v_p2_n, .int v_p2_m, .ref q_p2_bodies, .int w_2])), (q_p2_bodies, .inl (c 0, 40, .inl w_3))]) (ws2 := [(q_this, .inr (6, [])), (q_p2, .inr (9, [.int v_p2_n, .int v_p2_m, .ref q_p2_bodies, .int w_2])), (q_p2_bodies, .inl (c 0, 40, .inl w_3))]) (ms := [none, (some 0), (some 1)]) hP hD hS hA ⟨rfl, rfl, trivial⟩ (by decide +kernel) ⟨rfl, rfl, rfl, trivial⟩ (va_runV (rm := rm_X9_begin) (ws := wsX9_begin) (As := [.int 11]) (rest := []) (gFix hF) (c_X9_begin l D c q_p2 q_p2_bodies 11 v_p2_n v_p2_m v_p2_length v_p2_bodies w_2 w_3 hc_1 s.heap.size) (cwV 1 hts gX8_sayLets_X9_begin rfl rfl rfl (by decide +kernel) ⟨Nat.le_of_ble_eq_true rfl, Nat.le_of_ble_eq_true rfl⟩) (gPreV (wc := [(q_p2, .inr (9, [.int v_p2_n, .int v_p2_m, .ref q_p2_bodies, .int v_p2_length])), (q_p2_bodies, .inl (c 0, 40, .inl v_p2_bodies))]) (q := (RX9, TX9, 4)) (ci := 9) (q0 := 1) (isC := [1, 2]) hK hX hS hA hP hD ⟨rfl, rfl, trivial⟩ (by decide +kernel) rfl rfl) rfl rfl hl.1 rfl (lv_room (Nat.le_of_ble_eq_true rfl)) dX8_sayLets_3 ⟨Nat.le_of_ble_eq_true rfl, Nat.le_of_ble_eq_true rfl⟩) (fun H locs hP hD hS => ?_)
  refine lv_aload_n hx hb dX8_sayLets_6 rfl (lv_at hl 0 rfl) ?_
  refine lv_iload_n hx hb dX8_sayLets_7 rfl (lv_at hl 1 rfl) ?_
  refine lv_aload_n hx hb dX8_sayLets_8 rfl (lv_at hl 2 rfl) ?_
  obtain ⟨r_5, w_6, w_7, hc_4, h⟩ := kb3_ok h
  refine gCallI (isC := [0, 1, 2]) (wc := [(q_this, .inr (6, [])), (q_p2, .inr (9, [.int v_p2_n, .int v_p2_m, .ref q_p2_bodies, .int w_2])), (q_p2_bodies, .inl (c 0, 40, .inl w_3))]) (w1 := [(q_this, .inr (6, [])), (q_p2, .inr (9, [.int v_p2_n, .int v_p2_m, .ref q_p2_bodies, .int w_6])), (q_p2_bodies, .inl (c 0, 40, .inl w_7))]) (ws2 := [(q_this, .inr (6, [])), (q_p2, .inr (9, [.int v_p2_n, .int v_p2_m, .ref q_p2_bodies, .int w_6])), (q_p2_bodies, .inl (c 0, 40, .inl w_7))]) (ms := [(some 0), (some 1), (some 2)]) hP hD hS hA ⟨rfl, rfl, rfl, trivial⟩ (by decide +kernel) ⟨rfl, rfl, rfl, trivial⟩ (va_runU (rm := rm_X0_sayMoves_X6) (ws := wsX0_sayMoves) (As := [.int a_1, .ref q_p2]) (rest := []) (gFix hF) (c_X0_sayMoves_X6 l D c q_this q_p2 q_p2_bodies a_1 v_p2_n v_p2_m w_2 w_3 r_5 w_6 w_7 hc_4 H.size) (va_cwO 2 hts gX8_sayLets_X0_sayMoves_u17X6 rfl rfl rfl (List.mem_of_getElem? (i := 20) (rfl : wsX8_sayLets[20]? = some (.code yX8_sayMoves cX8_sayMoves 3 (some .int)))) (by decide +kernel) ⟨Nat.le_of_ble_eq_true rfl, Nat.le_of_ble_eq_true rfl⟩) (gPreV (wc := [(q_this, .inr (6, [])), (q_p2, .inr (9, [.int v_p2_n, .int v_p2_m, .ref q_p2_bodies, .int w_2])), (q_p2_bodies, .inl (c 0, 40, .inl w_3))]) (q := (RX6, TX6, 0)) (ci := 6) (q0 := 0) (isC := [0, 1, 2]) hK hX hS hA hP hD ⟨rfl, rfl, rfl, trivial⟩ (by decide +kernel) rfl rfl) rfl rfl hl.1 rfl (lv_room (Nat.le_of_ble_eq_true rfl)) dX8_sayLets_9 ⟨Nat.le_of_ble_eq_true rfl, Nat.le_of_ble_eq_true rfl⟩) (fun H locs hP hD hS => ?_)
  refine lv_iconst (v := 2) hx hb dX8_sayLets_12 (by decide) ?_
  refine lv_imul hx hb dX8_sayLets_13 ?_
  obtain ⟨z0, z1, z2⟩ := so3 h
  subst z0 z1 z2
  exact gIret hF hP hD hS rfl dX8_sayLets_14
def f_X8_sayMoves_X2 (a_1 : Int32) (v_p2_n : Int32) (v_p2_m : Int32) (v_p2_length : Int32) (v_p2_bodies : Nat → Int32) : Option (Int32 × Int32 × (Nat → Int32)) :=
  kb2 (f_X9_begin 10 v_p2_length v_p2_bodies) fun w_2 w_3 =>
  some (a_1 + v_p2_n, w_2, w_3)

abbrev rm_X8_sayMoves_X2 : Room := { frames := 1, cells := 0, slots := 0, locals := 21 }
set_option maxHeartbeats 4000000 in
set_option maxRecDepth 100000 in
theorem c_X8_sayMoves_X2 (l : Launch) (D : va_G) (c : Nat → ClassId) (q_this q_p2 q_p2_bodies : Nat) (a_1 : Int32) (v_p2_n : Int32) (v_p2_m : Int32) (v_p2_length : Int32) (v_p2_bodies : Nat → Int32) (o_r : Int32) (o_v_p2_length : Int32) (o_v_p2_bodies : Nat → Int32) (h : f_X8_sayMoves_X2 a_1 v_p2_n v_p2_m v_p2_length v_p2_bodies = some (o_r, o_v_p2_length, o_v_p2_bodies)) : gMI l yX8_sayMoves wsX8_sayMoves rm_X8_sayMoves_X2 D c [.ref q_this, .int a_1, .ref q_p2] [(q_this, .inr (2, [])), (q_p2, .inr (9, [.int v_p2_n, .int v_p2_m, .ref q_p2_bodies, .int v_p2_length])), (q_p2_bodies, .inl (c 0, 40, .inl v_p2_bodies))] [(q_this, .inr (2, [])), (q_p2, .inr (9, [.int v_p2_n, .int v_p2_m, .ref q_p2_bodies, .int o_v_p2_length])), (q_p2_bodies, .inl (c 0, 40, .inl o_v_p2_bodies))] o_r := by
  refine gMI_of (cc := cX8_sayMoves) (maxL := 3) (rt := (some .int)) (by decide +kernel) rfl (Nat.le_of_ble_eq_true rfl) ?_
  intro p e s m below meth co A hF hK hX hP hD hA hS ls hl
  obtain ⟨hx, hb, hr, hts, hown, hlocks, hml⟩ := id hF
  have hl : lv_has ls 3 [(0, .ref q_this), (1, .int a_1), (2, .ref q_p2)] := hl
  unfold f_X8_sayMoves_X2 at h
  refine lv_aload_n hx hb dX8_sayMoves_0 rfl (lv_at hl 2 rfl) ?_
  refine lv_bipush (v := 10) hx hb dX8_sayMoves_1 (by decide) ?_
  obtain ⟨w_2, w_3, hc_1, h⟩ := kb2_ok h
  refine gCallV (isC := [1, 2]) (wc := [(q_p2, .inr (9, [.int v_p2_n, .int v_p2_m, .ref q_p2_bodies, .int v_p2_length])), (q_p2_bodies, .inl (c 0, 40, .inl v_p2_bodies))]) (w1 := [(q_p2, .inr (9, [.int v_p2_n, .int v_p2_m, .ref q_p2_bodies, .int w_2])), (q_p2_bodies, .inl (c 0, 40, .inl w_3))]) (ws2 := [(q_this, .inr (2, [])), (q_p2, .inr (9, [.int v_p2_n, .int v_p2_m, .ref q_p2_bodies, .int w_2])), (q_p2_bodies, .inl (c 0, 40, .inl w_3))]) (ms := [none, (some 0), (some 1)]) hP hD hS hA ⟨rfl, rfl, trivial⟩ (by decide +kernel) ⟨rfl, rfl, rfl, trivial⟩ (va_runV (rm := rm_X9_begin) (ws := wsX9_begin) (As := [.int 10]) (rest := []) (gFix hF) (c_X9_begin l D c q_p2 q_p2_bodies 10 v_p2_n v_p2_m v_p2_length v_p2_bodies w_2 w_3 hc_1 s.heap.size) (cwV 1 hts gX8_sayMoves_X9_begin rfl rfl rfl (by decide +kernel) ⟨Nat.le_of_ble_eq_true rfl, Nat.le_of_ble_eq_true rfl⟩) (gPreV (wc := [(q_p2, .inr (9, [.int v_p2_n, .int v_p2_m, .ref q_p2_bodies, .int v_p2_length])), (q_p2_bodies, .inl (c 0, 40, .inl v_p2_bodies))]) (q := (RX9, TX9, 4)) (ci := 9) (q0 := 1) (isC := [1, 2]) hK hX hS hA hP hD ⟨rfl, rfl, trivial⟩ (by decide +kernel) rfl rfl) rfl rfl hl.1 rfl (lv_room (Nat.le_of_ble_eq_true rfl)) dX8_sayMoves_3 ⟨Nat.le_of_ble_eq_true rfl, Nat.le_of_ble_eq_true rfl⟩) (fun H locs hP hD hS => ?_)
  refine lv_iload_n hx hb dX8_sayMoves_6 rfl (lv_at hl 1 rfl) ?_
  refine lv_aload_n hx hb dX8_sayMoves_7 rfl (lv_at hl 2 rfl) ?_
  refine va_getN (D := D) (ci := 9) (v := .int v_p2_n) (C := RX9) (T := TX9) (N := 4) hx hb hts in_X8_sayMoves_X9 hown hK.1 hP 1 rfl rfl 0 (by decide) (va_Nw.use rfl (hK.2 (.fieldLinkNest "PaperBubbles$Tool" 13 "PaperBubbles$Voice" "n" "I" "PaperBubbles") (List.mem_of_getElem? (i := 20) rfl))) (fun _ h9 => h9) rfl dX8_sayMoves_8 ?_
  refine lv_iadd hx hb dX8_sayMoves_11 ?_
  obtain ⟨z0, z1, z2⟩ := so3 h
  subst z0 z1 z2
  exact gIret hF hP hD hS rfl dX8_sayMoves_12
def f_X8_sayLets_X2 (a_1 : Int32) (v_p2_n : Int32) (v_p2_m : Int32) (v_p2_length : Int32) (v_p2_bodies : Nat → Int32) : Option (Int32 × Int32 × (Nat → Int32)) :=
  kb2 (f_X9_begin 11 v_p2_length v_p2_bodies) fun w_2 w_3 =>
  kb3 (f_X8_sayMoves_X2 a_1 v_p2_n v_p2_m w_2 w_3) fun r_5 w_6 w_7 =>
  some (r_5 * 2, w_6, w_7)

abbrev rm_X8_sayLets_X2 : Room := { frames := 2, cells := 0, slots := 0, locals := 43 }
set_option maxHeartbeats 4000000 in
set_option maxRecDepth 100000 in
theorem c_X8_sayLets_X2 (l : Launch) (D : va_G) (c : Nat → ClassId) (q_this q_p2 q_p2_bodies : Nat) (a_1 : Int32) (v_p2_n : Int32) (v_p2_m : Int32) (v_p2_length : Int32) (v_p2_bodies : Nat → Int32) (o_r : Int32) (o_v_p2_length : Int32) (o_v_p2_bodies : Nat → Int32) (h : f_X8_sayLets_X2 a_1 v_p2_n v_p2_m v_p2_length v_p2_bodies = some (o_r, o_v_p2_length, o_v_p2_bodies)) : gMI l yX8_sayLets wsX8_sayLets rm_X8_sayLets_X2 D c [.ref q_this, .int a_1, .ref q_p2] [(q_this, .inr (2, [])), (q_p2, .inr (9, [.int v_p2_n, .int v_p2_m, .ref q_p2_bodies, .int v_p2_length])), (q_p2_bodies, .inl (c 0, 40, .inl v_p2_bodies))] [(q_this, .inr (2, [])), (q_p2, .inr (9, [.int v_p2_n, .int v_p2_m, .ref q_p2_bodies, .int o_v_p2_length])), (q_p2_bodies, .inl (c 0, 40, .inl o_v_p2_bodies))] o_r := by
  refine gMI_of (cc := cX8_sayLets) (maxL := 3) (rt := (some .int)) (by decide +kernel) rfl (Nat.le_of_ble_eq_true rfl) ?_
  intro p e s m below meth co A hF hK hX hP hD hA hS ls hl
  obtain ⟨hx, hb, hr, hts, hown, hlocks, hml⟩ := id hF
  have hl : lv_has ls 3 [(0, .ref q_this), (1, .int a_1), (2, .ref q_p2)] := hl
  unfold f_X8_sayLets_X2 at h
  refine lv_aload_n hx hb dX8_sayLets_0 rfl (lv_at hl 2 rfl) ?_
  refine lv_bipush (v := 11) hx hb dX8_sayLets_1 (by decide) ?_
  obtain ⟨w_2, w_3, hc_1, h⟩ := kb2_ok h
  refine gCallV (isC := [1, 2]) (wc := [(q_p2, .inr (9, [.int v_p2_n, .int v_p2_m, .ref q_p2_bodies, .int v_p2_length])), (q_p2_bodies, .inl (c 0, 40, .inl v_p2_bodies))]) (w1 := [(q_p2, .inr (9, [.int v_p2_n, .int v_p2_m, .ref q_p2_bodies, .int w_2])), (q_p2_bodies, .inl (c 0, 40, .inl w_3))]) (ws2 := [(q_this, .inr (2, [])), (q_p2, .inr (9, [.int v_p2_n, .int v_p2_m, .ref q_p2_bodies, .int w_2])), (q_p2_bodies, .inl (c 0, 40, .inl w_3))]) (ms := [none, (some 0), (some 1)]) hP hD hS hA ⟨rfl, rfl, trivial⟩ (by decide +kernel) ⟨rfl, rfl, rfl, trivial⟩ (va_runV (rm := rm_X9_begin) (ws := wsX9_begin) (As := [.int 11]) (rest := []) (gFix hF) (c_X9_begin l D c q_p2 q_p2_bodies 11 v_p2_n v_p2_m v_p2_length v_p2_bodies w_2 w_3 hc_1 s.heap.size) (cwV 1 hts gX8_sayLets_X9_begin rfl rfl rfl (by decide +kernel) ⟨Nat.le_of_ble_eq_true rfl, Nat.le_of_ble_eq_true rfl⟩) (gPreV (wc := [(q_p2, .inr (9, [.int v_p2_n, .int v_p2_m, .ref q_p2_bodies, .int v_p2_length])), (q_p2_bodies, .inl (c 0, 40, .inl v_p2_bodies))]) (q := (RX9, TX9, 4)) (ci := 9) (q0 := 1) (isC := [1, 2]) hK hX hS hA hP hD ⟨rfl, rfl, trivial⟩ (by decide +kernel) rfl rfl) rfl rfl hl.1 rfl (lv_room (Nat.le_of_ble_eq_true rfl)) dX8_sayLets_3 ⟨Nat.le_of_ble_eq_true rfl, Nat.le_of_ble_eq_true rfl⟩) (fun H locs hP hD hS => ?_)
  refine lv_aload_n hx hb dX8_sayLets_6 rfl (lv_at hl 0 rfl) ?_
  refine lv_iload_n hx hb dX8_sayLets_7 rfl (lv_at hl 1 rfl) ?_
  refine lv_aload_n hx hb dX8_sayLets_8 rfl (lv_at hl 2 rfl) ?_
  obtain ⟨r_5, w_6, w_7, hc_4, h⟩ := kb3_ok h
  refine gCallI (isC := [0, 1, 2]) (wc := [(q_this, .inr (2, [])), (q_p2, .inr (9, [.int v_p2_n, .int v_p2_m, .ref q_p2_bodies, .int w_2])), (q_p2_bodies, .inl (c 0, 40, .inl w_3))]) (w1 := [(q_this, .inr (2, [])), (q_p2, .inr (9, [.int v_p2_n, .int v_p2_m, .ref q_p2_bodies, .int w_6])), (q_p2_bodies, .inl (c 0, 40, .inl w_7))]) (ws2 := [(q_this, .inr (2, [])), (q_p2, .inr (9, [.int v_p2_n, .int v_p2_m, .ref q_p2_bodies, .int w_6])), (q_p2_bodies, .inl (c 0, 40, .inl w_7))]) (ms := [(some 0), (some 1), (some 2)]) hP hD hS hA ⟨rfl, rfl, rfl, trivial⟩ (by decide +kernel) ⟨rfl, rfl, rfl, trivial⟩ (va_runU (rm := rm_X8_sayMoves_X2) (ws := wsX8_sayMoves) (As := [.int a_1, .ref q_p2]) (rest := []) (gFix hF) (c_X8_sayMoves_X2 l D c q_this q_p2 q_p2_bodies a_1 v_p2_n v_p2_m w_2 w_3 r_5 w_6 w_7 hc_4 H.size) (va_cwU 2 hts gX8_sayLets_X8_sayMoves_u17X2 rfl rfl rfl rfl (by decide +kernel) ⟨Nat.le_of_ble_eq_true rfl, Nat.le_of_ble_eq_true rfl⟩) (gPreV (wc := [(q_this, .inr (2, [])), (q_p2, .inr (9, [.int v_p2_n, .int v_p2_m, .ref q_p2_bodies, .int w_2])), (q_p2_bodies, .inl (c 0, 40, .inl w_3))]) (q := (RX2, TX2, 0)) (ci := 2) (q0 := 0) (isC := [0, 1, 2]) hK hX hS hA hP hD ⟨rfl, rfl, rfl, trivial⟩ (by decide +kernel) rfl rfl) rfl rfl hl.1 rfl (lv_room (Nat.le_of_ble_eq_true rfl)) dX8_sayLets_9 ⟨Nat.le_of_ble_eq_true rfl, Nat.le_of_ble_eq_true rfl⟩) (fun H locs hP hD hS => ?_)
  refine lv_iconst (v := 2) hx hb dX8_sayLets_12 (by decide) ?_
  refine lv_imul hx hb dX8_sayLets_13 ?_
  obtain ⟨z0, z1, z2⟩ := so3 h
  subst z0 z1 z2
  exact gIret hF hP hD hS rfl dX8_sayLets_14
def f_X8_sayTears_X2 (a_1 : Int32) (v_p2_n : Int32) (v_p2_m : Int32) (v_p2_length : Int32) (v_p2_bodies : Nat → Int32) : Option (Int32 × Int32 × (Nat → Int32)) :=
  kb2 (f_X9_begin 12 v_p2_length v_p2_bodies) fun w_2 w_3 =>
  some (a_1 - v_p2_m, w_2, w_3)

abbrev rm_X8_sayTears_X2 : Room := { frames := 1, cells := 0, slots := 0, locals := 21 }
set_option maxHeartbeats 4000000 in
set_option maxRecDepth 100000 in
theorem c_X8_sayTears_X2 (l : Launch) (D : va_G) (c : Nat → ClassId) (q_this q_p2 q_p2_bodies : Nat) (a_1 : Int32) (v_p2_n : Int32) (v_p2_m : Int32) (v_p2_length : Int32) (v_p2_bodies : Nat → Int32) (o_r : Int32) (o_v_p2_length : Int32) (o_v_p2_bodies : Nat → Int32) (h : f_X8_sayTears_X2 a_1 v_p2_n v_p2_m v_p2_length v_p2_bodies = some (o_r, o_v_p2_length, o_v_p2_bodies)) : gMI l yX8_sayTears wsX8_sayTears rm_X8_sayTears_X2 D c [.ref q_this, .int a_1, .ref q_p2] [(q_this, .inr (2, [])), (q_p2, .inr (9, [.int v_p2_n, .int v_p2_m, .ref q_p2_bodies, .int v_p2_length])), (q_p2_bodies, .inl (c 0, 40, .inl v_p2_bodies))] [(q_this, .inr (2, [])), (q_p2, .inr (9, [.int v_p2_n, .int v_p2_m, .ref q_p2_bodies, .int o_v_p2_length])), (q_p2_bodies, .inl (c 0, 40, .inl o_v_p2_bodies))] o_r := by
  refine gMI_of (cc := cX8_sayTears) (maxL := 3) (rt := (some .int)) (by decide +kernel) rfl (Nat.le_of_ble_eq_true rfl) ?_
  intro p e s m below meth co A hF hK hX hP hD hA hS ls hl
  obtain ⟨hx, hb, hr, hts, hown, hlocks, hml⟩ := id hF
  have hl : lv_has ls 3 [(0, .ref q_this), (1, .int a_1), (2, .ref q_p2)] := hl
  unfold f_X8_sayTears_X2 at h
  refine lv_aload_n hx hb dX8_sayTears_0 rfl (lv_at hl 2 rfl) ?_
  refine lv_bipush (v := 12) hx hb dX8_sayTears_1 (by decide) ?_
  obtain ⟨w_2, w_3, hc_1, h⟩ := kb2_ok h
  refine gCallV (isC := [1, 2]) (wc := [(q_p2, .inr (9, [.int v_p2_n, .int v_p2_m, .ref q_p2_bodies, .int v_p2_length])), (q_p2_bodies, .inl (c 0, 40, .inl v_p2_bodies))]) (w1 := [(q_p2, .inr (9, [.int v_p2_n, .int v_p2_m, .ref q_p2_bodies, .int w_2])), (q_p2_bodies, .inl (c 0, 40, .inl w_3))]) (ws2 := [(q_this, .inr (2, [])), (q_p2, .inr (9, [.int v_p2_n, .int v_p2_m, .ref q_p2_bodies, .int w_2])), (q_p2_bodies, .inl (c 0, 40, .inl w_3))]) (ms := [none, (some 0), (some 1)]) hP hD hS hA ⟨rfl, rfl, trivial⟩ (by decide +kernel) ⟨rfl, rfl, rfl, trivial⟩ (va_runV (rm := rm_X9_begin) (ws := wsX9_begin) (As := [.int 12]) (rest := []) (gFix hF) (c_X9_begin l D c q_p2 q_p2_bodies 12 v_p2_n v_p2_m v_p2_length v_p2_bodies w_2 w_3 hc_1 s.heap.size) (cwV 1 hts gX8_sayTears_X9_begin rfl rfl rfl (by decide +kernel) ⟨Nat.le_of_ble_eq_true rfl, Nat.le_of_ble_eq_true rfl⟩) (gPreV (wc := [(q_p2, .inr (9, [.int v_p2_n, .int v_p2_m, .ref q_p2_bodies, .int v_p2_length])), (q_p2_bodies, .inl (c 0, 40, .inl v_p2_bodies))]) (q := (RX9, TX9, 4)) (ci := 9) (q0 := 1) (isC := [1, 2]) hK hX hS hA hP hD ⟨rfl, rfl, trivial⟩ (by decide +kernel) rfl rfl) rfl rfl hl.1 rfl (lv_room (Nat.le_of_ble_eq_true rfl)) dX8_sayTears_3 ⟨Nat.le_of_ble_eq_true rfl, Nat.le_of_ble_eq_true rfl⟩) (fun H locs hP hD hS => ?_)
  refine lv_iload_n hx hb dX8_sayTears_6 rfl (lv_at hl 1 rfl) ?_
  refine lv_aload_n hx hb dX8_sayTears_7 rfl (lv_at hl 2 rfl) ?_
  refine va_getN (D := D) (ci := 9) (v := .int v_p2_m) (C := RX9) (T := TX9) (N := 4) hx hb hts in_X8_sayTears_X9 hown hK.1 hP 1 rfl rfl 1 (by decide) (va_Nw.use rfl (hK.2 (.fieldLinkNest "PaperBubbles$Tool" 23 "PaperBubbles$Voice" "m" "I" "PaperBubbles") (List.mem_of_getElem? (i := 21) rfl))) (fun _ h9 => h9) rfl dX8_sayTears_8 ?_
  refine lv_isub hx hb dX8_sayTears_11 ?_
  obtain ⟨z0, z1, z2⟩ := so3 h
  subst z0 z1 z2
  exact gIret hF hP hD hS rfl dX8_sayTears_12
def f_X4_sayLets_X2 (a_1 : Int32) (v_p2_n : Int32) (v_p2_m : Int32) (v_p2_length : Int32) (v_p2_bodies : Nat → Int32) : Option (Int32 × Int32 × (Nat → Int32)) :=
  kb2 (f_X9_begin 30 v_p2_length v_p2_bodies) fun w_2 w_3 =>
  kb3 (f_X8_sayLets_X2 a_1 v_p2_n v_p2_m w_2 w_3) fun r_5 w_6 w_7 =>
  kb3 (f_X8_sayTears_X2 1 v_p2_n v_p2_m w_6 w_7) fun r_9 w_10 w_11 =>
  some (r_5 - r_9, w_10, w_11)

abbrev rm_X4_sayLets_X2 : Room := { frames := 3, cells := 0, slots := 0, locals := 65 }
set_option maxHeartbeats 4000000 in
set_option maxRecDepth 100000 in
theorem c_X4_sayLets_X2 (l : Launch) (D : va_G) (c : Nat → ClassId) (q_this q_p2 q_p2_bodies : Nat) (a_1 : Int32) (v_p2_n : Int32) (v_p2_m : Int32) (v_p2_length : Int32) (v_p2_bodies : Nat → Int32) (o_r : Int32) (o_v_p2_length : Int32) (o_v_p2_bodies : Nat → Int32) (h : f_X4_sayLets_X2 a_1 v_p2_n v_p2_m v_p2_length v_p2_bodies = some (o_r, o_v_p2_length, o_v_p2_bodies)) : gMI l yX4_sayLets wsX4_sayLets rm_X4_sayLets_X2 D c [.ref q_this, .int a_1, .ref q_p2] [(q_this, .inr (2, [])), (q_p2, .inr (9, [.int v_p2_n, .int v_p2_m, .ref q_p2_bodies, .int v_p2_length])), (q_p2_bodies, .inl (c 0, 40, .inl v_p2_bodies))] [(q_this, .inr (2, [])), (q_p2, .inr (9, [.int v_p2_n, .int v_p2_m, .ref q_p2_bodies, .int o_v_p2_length])), (q_p2_bodies, .inl (c 0, 40, .inl o_v_p2_bodies))] o_r := by
  refine gMI_of (cc := cX4_sayLets) (maxL := 3) (rt := (some .int)) (by decide +kernel) rfl (Nat.le_of_ble_eq_true rfl) ?_
  intro p e s m below meth co A hF hK hX hP hD hA hS ls hl
  obtain ⟨hx, hb, hr, hts, hown, hlocks, hml⟩ := id hF
  have hl : lv_has ls 3 [(0, .ref q_this), (1, .int a_1), (2, .ref q_p2)] := hl
  unfold f_X4_sayLets_X2 at h
  refine lv_aload_n hx hb dX4_sayLets_0 rfl (lv_at hl 2 rfl) ?_
  refine lv_bipush (v := 30) hx hb dX4_sayLets_1 (by decide) ?_
  obtain ⟨w_2, w_3, hc_1, h⟩ := kb2_ok h
  refine gCallV (isC := [1, 2]) (wc := [(q_p2, .inr (9, [.int v_p2_n, .int v_p2_m, .ref q_p2_bodies, .int v_p2_length])), (q_p2_bodies, .inl (c 0, 40, .inl v_p2_bodies))]) (w1 := [(q_p2, .inr (9, [.int v_p2_n, .int v_p2_m, .ref q_p2_bodies, .int w_2])), (q_p2_bodies, .inl (c 0, 40, .inl w_3))]) (ws2 := [(q_this, .inr (2, [])), (q_p2, .inr (9, [.int v_p2_n, .int v_p2_m, .ref q_p2_bodies, .int w_2])), (q_p2_bodies, .inl (c 0, 40, .inl w_3))]) (ms := [none, (some 0), (some 1)]) hP hD hS hA ⟨rfl, rfl, trivial⟩ (by decide +kernel) ⟨rfl, rfl, rfl, trivial⟩ (va_runV (rm := rm_X9_begin) (ws := wsX9_begin) (As := [.int 30]) (rest := []) (gFix hF) (c_X9_begin l D c q_p2 q_p2_bodies 30 v_p2_n v_p2_m v_p2_length v_p2_bodies w_2 w_3 hc_1 s.heap.size) (cwV 1 hts gX4_sayLets_X9_begin rfl rfl rfl (by decide +kernel) ⟨Nat.le_of_ble_eq_true rfl, Nat.le_of_ble_eq_true rfl⟩) (gPreV (wc := [(q_p2, .inr (9, [.int v_p2_n, .int v_p2_m, .ref q_p2_bodies, .int v_p2_length])), (q_p2_bodies, .inl (c 0, 40, .inl v_p2_bodies))]) (q := (RX9, TX9, 4)) (ci := 9) (q0 := 1) (isC := [1, 2]) hK hX hS hA hP hD ⟨rfl, rfl, trivial⟩ (by decide +kernel) rfl rfl) rfl rfl hl.1 rfl (lv_room (Nat.le_of_ble_eq_true rfl)) dX4_sayLets_3 ⟨Nat.le_of_ble_eq_true rfl, Nat.le_of_ble_eq_true rfl⟩) (fun H locs hP hD hS => ?_)
  refine lv_aload_n hx hb dX4_sayLets_6 rfl (lv_at hl 0 rfl) ?_
  refine lv_iload_n hx hb dX4_sayLets_7 rfl (lv_at hl 1 rfl) ?_
  refine lv_aload_n hx hb dX4_sayLets_8 rfl (lv_at hl 2 rfl) ?_
  obtain ⟨r_5, w_6, w_7, hc_4, h⟩ := kb3_ok h
  refine gCallI (isC := [0, 1, 2]) (wc := [(q_this, .inr (2, [])), (q_p2, .inr (9, [.int v_p2_n, .int v_p2_m, .ref q_p2_bodies, .int w_2])), (q_p2_bodies, .inl (c 0, 40, .inl w_3))]) (w1 := [(q_this, .inr (2, [])), (q_p2, .inr (9, [.int v_p2_n, .int v_p2_m, .ref q_p2_bodies, .int w_6])), (q_p2_bodies, .inl (c 0, 40, .inl w_7))]) (ws2 := [(q_this, .inr (2, [])), (q_p2, .inr (9, [.int v_p2_n, .int v_p2_m, .ref q_p2_bodies, .int w_6])), (q_p2_bodies, .inl (c 0, 40, .inl w_7))]) (ms := [(some 0), (some 1), (some 2)]) hP hD hS hA ⟨rfl, rfl, rfl, trivial⟩ (by decide +kernel) ⟨rfl, rfl, rfl, trivial⟩ (va_runSU (rm := rm_X8_sayLets_X2) (ws := wsX8_sayLets) (As := [.int a_1, .ref q_p2]) (rest := []) (hK.1.1 2 _ rfl).2 (gFix hF) (c_X8_sayLets_X2 l D c q_this q_p2 q_p2_bodies a_1 v_p2_n v_p2_m w_2 w_3 r_5 w_6 w_7 hc_4 H.size) (va_cwSU 2 hts gX4_sayLets_X8_sayLets_s17 rfl rfl rfl (by decide +kernel) ⟨Nat.le_of_ble_eq_true rfl, Nat.le_of_ble_eq_true rfl⟩) (gPreV (wc := [(q_this, .inr (2, [])), (q_p2, .inr (9, [.int v_p2_n, .int v_p2_m, .ref q_p2_bodies, .int w_2])), (q_p2_bodies, .inl (c 0, 40, .inl w_3))]) (q := (RX2, TX2, 0)) (ci := 2) (q0 := 0) (isC := [0, 1, 2]) hK hX hS hA hP hD ⟨rfl, rfl, rfl, trivial⟩ (by decide +kernel) rfl rfl) rfl rfl hl.1 rfl (lv_room (Nat.le_of_ble_eq_true rfl)) dX4_sayLets_9 ⟨Nat.le_of_ble_eq_true rfl, Nat.le_of_ble_eq_true rfl⟩) (fun H locs hP hD hS => ?_)
  refine lv_aload_n hx hb dX4_sayLets_12 rfl (lv_at hl 0 rfl) ?_
  refine lv_iconst (v := 1) hx hb dX4_sayLets_13 (by decide) ?_
  refine lv_aload_n hx hb dX4_sayLets_14 rfl (lv_at hl 2 rfl) ?_
  obtain ⟨r_9, w_10, w_11, hc_8, h⟩ := kb3_ok h
  refine gCallI (isC := [0, 1, 2]) (wc := [(q_this, .inr (2, [])), (q_p2, .inr (9, [.int v_p2_n, .int v_p2_m, .ref q_p2_bodies, .int w_6])), (q_p2_bodies, .inl (c 0, 40, .inl w_7))]) (w1 := [(q_this, .inr (2, [])), (q_p2, .inr (9, [.int v_p2_n, .int v_p2_m, .ref q_p2_bodies, .int w_10])), (q_p2_bodies, .inl (c 0, 40, .inl w_11))]) (ws2 := [(q_this, .inr (2, [])), (q_p2, .inr (9, [.int v_p2_n, .int v_p2_m, .ref q_p2_bodies, .int w_10])), (q_p2_bodies, .inl (c 0, 40, .inl w_11))]) (ms := [(some 0), (some 1), (some 2)]) hP hD hS hA ⟨rfl, rfl, rfl, trivial⟩ (by decide +kernel) ⟨rfl, rfl, rfl, trivial⟩ (va_runU (rm := rm_X8_sayTears_X2) (ws := wsX8_sayTears) (As := [.int 1, .ref q_p2]) (rest := [.int r_5]) (gFix hF) (c_X8_sayTears_X2 l D c q_this q_p2 q_p2_bodies 1 v_p2_n v_p2_m w_6 w_7 r_9 w_10 w_11 hc_8 H.size) (va_cwU 2 hts gX4_sayLets_X8_sayTears_u21X2 rfl rfl rfl rfl (by decide +kernel) ⟨Nat.le_of_ble_eq_true rfl, Nat.le_of_ble_eq_true rfl⟩) (gPreV (wc := [(q_this, .inr (2, [])), (q_p2, .inr (9, [.int v_p2_n, .int v_p2_m, .ref q_p2_bodies, .int w_6])), (q_p2_bodies, .inl (c 0, 40, .inl w_7))]) (q := (RX2, TX2, 0)) (ci := 2) (q0 := 0) (isC := [0, 1, 2]) hK hX hS hA hP hD ⟨rfl, rfl, rfl, trivial⟩ (by decide +kernel) rfl rfl) rfl rfl hl.1 rfl (lv_room (Nat.le_of_ble_eq_true rfl)) dX4_sayLets_15 ⟨Nat.le_of_ble_eq_true rfl, Nat.le_of_ble_eq_true rfl⟩) (fun H locs hP hD hS => ?_)
  refine lv_isub hx hb dX4_sayLets_18 ?_
  obtain ⟨z0, z1, z2⟩ := so3 h
  subst z0 z1 z2
  exact gIret hF hP hD hS rfl dX4_sayLets_19
def f_X2_sayLets_X2 (a_1 : Int32) (v_p2_n : Int32) (v_p2_m : Int32) (v_p2_length : Int32) (v_p2_bodies : Nat → Int32) : Option (Int32 × Int32 × (Nat → Int32)) :=
  kb2 (f_X9_begin 60 v_p2_length v_p2_bodies) fun w_2 w_3 =>
  nm (a_1 + 1 : Int32) fun t_4 =>
  kb3 (f_X4_sayLets_X2 t_4 v_p2_n v_p2_m w_2 w_3) fun r_6 w_7 w_8 =>
  some (r_6, w_7, w_8)

abbrev rm_X2_sayLets_X2 : Room := { frames := 4, cells := 0, slots := 0, locals := 87 }
set_option maxHeartbeats 4000000 in
set_option maxRecDepth 100000 in
theorem c_X2_sayLets_X2 (l : Launch) (D : va_G) (c : Nat → ClassId) (q_this q_p2 q_p2_bodies : Nat) (a_1 : Int32) (v_p2_n : Int32) (v_p2_m : Int32) (v_p2_length : Int32) (v_p2_bodies : Nat → Int32) (o_r : Int32) (o_v_p2_length : Int32) (o_v_p2_bodies : Nat → Int32) (h : f_X2_sayLets_X2 a_1 v_p2_n v_p2_m v_p2_length v_p2_bodies = some (o_r, o_v_p2_length, o_v_p2_bodies)) : gMI l yX2_sayLets wsX2_sayLets rm_X2_sayLets_X2 D c [.ref q_this, .int a_1, .ref q_p2] [(q_this, .inr (2, [])), (q_p2, .inr (9, [.int v_p2_n, .int v_p2_m, .ref q_p2_bodies, .int v_p2_length])), (q_p2_bodies, .inl (c 0, 40, .inl v_p2_bodies))] [(q_this, .inr (2, [])), (q_p2, .inr (9, [.int v_p2_n, .int v_p2_m, .ref q_p2_bodies, .int o_v_p2_length])), (q_p2_bodies, .inl (c 0, 40, .inl o_v_p2_bodies))] o_r := by
  refine gMI_of (cc := cX2_sayLets) (maxL := 3) (rt := (some .int)) (by decide +kernel) rfl (Nat.le_of_ble_eq_true rfl) ?_
  intro p e s m below meth co A hF hK hX hP hD hA hS ls hl
  obtain ⟨hx, hb, hr, hts, hown, hlocks, hml⟩ := id hF
  have hl : lv_has ls 3 [(0, .ref q_this), (1, .int a_1), (2, .ref q_p2)] := hl
  unfold f_X2_sayLets_X2 at h
  refine lv_aload_n hx hb dX2_sayLets_0 rfl (lv_at hl 2 rfl) ?_
  refine lv_bipush (v := 60) hx hb dX2_sayLets_1 (by decide) ?_
  obtain ⟨w_2, w_3, hc_1, h⟩ := kb2_ok h
  refine gCallV (isC := [1, 2]) (wc := [(q_p2, .inr (9, [.int v_p2_n, .int v_p2_m, .ref q_p2_bodies, .int v_p2_length])), (q_p2_bodies, .inl (c 0, 40, .inl v_p2_bodies))]) (w1 := [(q_p2, .inr (9, [.int v_p2_n, .int v_p2_m, .ref q_p2_bodies, .int w_2])), (q_p2_bodies, .inl (c 0, 40, .inl w_3))]) (ws2 := [(q_this, .inr (2, [])), (q_p2, .inr (9, [.int v_p2_n, .int v_p2_m, .ref q_p2_bodies, .int w_2])), (q_p2_bodies, .inl (c 0, 40, .inl w_3))]) (ms := [none, (some 0), (some 1)]) hP hD hS hA ⟨rfl, rfl, trivial⟩ (by decide +kernel) ⟨rfl, rfl, rfl, trivial⟩ (va_runV (rm := rm_X9_begin) (ws := wsX9_begin) (As := [.int 60]) (rest := []) (gFix hF) (c_X9_begin l D c q_p2 q_p2_bodies 60 v_p2_n v_p2_m v_p2_length v_p2_bodies w_2 w_3 hc_1 s.heap.size) (cwV 1 hts gX2_sayLets_X9_begin rfl rfl rfl (by decide +kernel) ⟨Nat.le_of_ble_eq_true rfl, Nat.le_of_ble_eq_true rfl⟩) (gPreV (wc := [(q_p2, .inr (9, [.int v_p2_n, .int v_p2_m, .ref q_p2_bodies, .int v_p2_length])), (q_p2_bodies, .inl (c 0, 40, .inl v_p2_bodies))]) (q := (RX9, TX9, 4)) (ci := 9) (q0 := 1) (isC := [1, 2]) hK hX hS hA hP hD ⟨rfl, rfl, trivial⟩ (by decide +kernel) rfl rfl) rfl rfl hl.1 rfl (lv_room (Nat.le_of_ble_eq_true rfl)) dX2_sayLets_3 ⟨Nat.le_of_ble_eq_true rfl, Nat.le_of_ble_eq_true rfl⟩) (fun H locs hP hD hS => ?_)
  refine lv_aload_n hx hb dX2_sayLets_6 rfl (lv_at hl 0 rfl) ?_
  refine lv_iload_n hx hb dX2_sayLets_7 rfl (lv_at hl 1 rfl) ?_
  refine lv_iconst (v := 1) hx hb dX2_sayLets_8 (by decide) ?_
  refine lv_iadd hx hb dX2_sayLets_9 ?_
  obtain ⟨t_4, et_4, h⟩ := nm_ok h
  refine gTop et_4 ?_
  refine lv_aload_n hx hb dX2_sayLets_10 rfl (lv_at hl 2 rfl) ?_
  obtain ⟨r_6, w_7, w_8, hc_5, h⟩ := kb3_ok h
  refine gCallI (isC := [0, 1, 2]) (wc := [(q_this, .inr (2, [])), (q_p2, .inr (9, [.int v_p2_n, .int v_p2_m, .ref q_p2_bodies, .int w_2])), (q_p2_bodies, .inl (c 0, 40, .inl w_3))]) (w1 := [(q_this, .inr (2, [])), (q_p2, .inr (9, [.int v_p2_n, .int v_p2_m, .ref q_p2_bodies, .int w_7])), (q_p2_bodies, .inl (c 0, 40, .inl w_8))]) (ws2 := [(q_this, .inr (2, [])), (q_p2, .inr (9, [.int v_p2_n, .int v_p2_m, .ref q_p2_bodies, .int w_7])), (q_p2_bodies, .inl (c 0, 40, .inl w_8))]) (ms := [(some 0), (some 1), (some 2)]) hP hD hS hA ⟨rfl, rfl, rfl, trivial⟩ (by decide +kernel) ⟨rfl, rfl, rfl, trivial⟩ (va_runSU (rm := rm_X4_sayLets_X2) (ws := wsX4_sayLets) (As := [.int t_4, .ref q_p2]) (rest := []) (hK.1.1 2 _ rfl).2 (gFix hF) (c_X4_sayLets_X2 l D c q_this q_p2 q_p2_bodies t_4 v_p2_n v_p2_m w_2 w_3 r_6 w_7 w_8 hc_5 H.size) (va_cwSU 2 hts gX2_sayLets_X4_sayLets_s21 rfl rfl rfl (by decide +kernel) ⟨Nat.le_of_ble_eq_true rfl, Nat.le_of_ble_eq_true rfl⟩) (gPreV (wc := [(q_this, .inr (2, [])), (q_p2, .inr (9, [.int v_p2_n, .int v_p2_m, .ref q_p2_bodies, .int w_2])), (q_p2_bodies, .inl (c 0, 40, .inl w_3))]) (q := (RX2, TX2, 0)) (ci := 2) (q0 := 0) (isC := [0, 1, 2]) hK hX hS hA hP hD ⟨rfl, rfl, rfl, trivial⟩ (by decide +kernel) rfl rfl) rfl rfl hl.1 rfl (lv_room (Nat.le_of_ble_eq_true rfl)) dX2_sayLets_11 ⟨Nat.le_of_ble_eq_true rfl, Nat.le_of_ble_eq_true rfl⟩) (fun H locs hP hD hS => ?_)
  obtain ⟨z0, z1, z2⟩ := so3 h
  subst z0 z1 z2
  exact gIret hF hP hD hS rfl dX2_sayLets_14
def f_X8_sayMoves_X1 (a_1 : Int32) (v_p2_n : Int32) (v_p2_m : Int32) (v_p2_length : Int32) (v_p2_bodies : Nat → Int32) : Option (Int32 × Int32 × (Nat → Int32)) :=
  kb2 (f_X9_begin 10 v_p2_length v_p2_bodies) fun w_2 w_3 =>
  some (a_1 + v_p2_n, w_2, w_3)

abbrev rm_X8_sayMoves_X1 : Room := { frames := 1, cells := 0, slots := 0, locals := 21 }
set_option maxHeartbeats 4000000 in
set_option maxRecDepth 100000 in
theorem c_X8_sayMoves_X1 (l : Launch) (D : va_G) (c : Nat → ClassId) (q_this q_p2 q_p2_bodies : Nat) (a_1 : Int32) (v_p2_n : Int32) (v_p2_m : Int32) (v_p2_length : Int32) (v_p2_bodies : Nat → Int32) (o_r : Int32) (o_v_p2_length : Int32) (o_v_p2_bodies : Nat → Int32) (h : f_X8_sayMoves_X1 a_1 v_p2_n v_p2_m v_p2_length v_p2_bodies = some (o_r, o_v_p2_length, o_v_p2_bodies)) : gMI l yX8_sayMoves wsX8_sayMoves rm_X8_sayMoves_X1 D c [.ref q_this, .int a_1, .ref q_p2] [(q_this, .inr (1, [])), (q_p2, .inr (9, [.int v_p2_n, .int v_p2_m, .ref q_p2_bodies, .int v_p2_length])), (q_p2_bodies, .inl (c 0, 40, .inl v_p2_bodies))] [(q_this, .inr (1, [])), (q_p2, .inr (9, [.int v_p2_n, .int v_p2_m, .ref q_p2_bodies, .int o_v_p2_length])), (q_p2_bodies, .inl (c 0, 40, .inl o_v_p2_bodies))] o_r := by
  refine gMI_of (cc := cX8_sayMoves) (maxL := 3) (rt := (some .int)) (by decide +kernel) rfl (Nat.le_of_ble_eq_true rfl) ?_
  intro p e s m below meth co A hF hK hX hP hD hA hS ls hl
  obtain ⟨hx, hb, hr, hts, hown, hlocks, hml⟩ := id hF
  have hl : lv_has ls 3 [(0, .ref q_this), (1, .int a_1), (2, .ref q_p2)] := hl
  unfold f_X8_sayMoves_X1 at h
  refine lv_aload_n hx hb dX8_sayMoves_0 rfl (lv_at hl 2 rfl) ?_
  refine lv_bipush (v := 10) hx hb dX8_sayMoves_1 (by decide) ?_
  obtain ⟨w_2, w_3, hc_1, h⟩ := kb2_ok h
  refine gCallV (isC := [1, 2]) (wc := [(q_p2, .inr (9, [.int v_p2_n, .int v_p2_m, .ref q_p2_bodies, .int v_p2_length])), (q_p2_bodies, .inl (c 0, 40, .inl v_p2_bodies))]) (w1 := [(q_p2, .inr (9, [.int v_p2_n, .int v_p2_m, .ref q_p2_bodies, .int w_2])), (q_p2_bodies, .inl (c 0, 40, .inl w_3))]) (ws2 := [(q_this, .inr (1, [])), (q_p2, .inr (9, [.int v_p2_n, .int v_p2_m, .ref q_p2_bodies, .int w_2])), (q_p2_bodies, .inl (c 0, 40, .inl w_3))]) (ms := [none, (some 0), (some 1)]) hP hD hS hA ⟨rfl, rfl, trivial⟩ (by decide +kernel) ⟨rfl, rfl, rfl, trivial⟩ (va_runV (rm := rm_X9_begin) (ws := wsX9_begin) (As := [.int 10]) (rest := []) (gFix hF) (c_X9_begin l D c q_p2 q_p2_bodies 10 v_p2_n v_p2_m v_p2_length v_p2_bodies w_2 w_3 hc_1 s.heap.size) (cwV 1 hts gX8_sayMoves_X9_begin rfl rfl rfl (by decide +kernel) ⟨Nat.le_of_ble_eq_true rfl, Nat.le_of_ble_eq_true rfl⟩) (gPreV (wc := [(q_p2, .inr (9, [.int v_p2_n, .int v_p2_m, .ref q_p2_bodies, .int v_p2_length])), (q_p2_bodies, .inl (c 0, 40, .inl v_p2_bodies))]) (q := (RX9, TX9, 4)) (ci := 9) (q0 := 1) (isC := [1, 2]) hK hX hS hA hP hD ⟨rfl, rfl, trivial⟩ (by decide +kernel) rfl rfl) rfl rfl hl.1 rfl (lv_room (Nat.le_of_ble_eq_true rfl)) dX8_sayMoves_3 ⟨Nat.le_of_ble_eq_true rfl, Nat.le_of_ble_eq_true rfl⟩) (fun H locs hP hD hS => ?_)
  refine lv_iload_n hx hb dX8_sayMoves_6 rfl (lv_at hl 1 rfl) ?_
  refine lv_aload_n hx hb dX8_sayMoves_7 rfl (lv_at hl 2 rfl) ?_
  refine va_getN (D := D) (ci := 9) (v := .int v_p2_n) (C := RX9) (T := TX9) (N := 4) hx hb hts in_X8_sayMoves_X9 hown hK.1 hP 1 rfl rfl 0 (by decide) (va_Nw.use rfl (hK.2 (.fieldLinkNest "PaperBubbles$Tool" 13 "PaperBubbles$Voice" "n" "I" "PaperBubbles") (List.mem_of_getElem? (i := 20) rfl))) (fun _ h9 => h9) rfl dX8_sayMoves_8 ?_
  refine lv_iadd hx hb dX8_sayMoves_11 ?_
  obtain ⟨z0, z1, z2⟩ := so3 h
  subst z0 z1 z2
  exact gIret hF hP hD hS rfl dX8_sayMoves_12
def f_X8_sayLets_X1 (a_1 : Int32) (v_p2_n : Int32) (v_p2_m : Int32) (v_p2_length : Int32) (v_p2_bodies : Nat → Int32) : Option (Int32 × Int32 × (Nat → Int32)) :=
  kb2 (f_X9_begin 11 v_p2_length v_p2_bodies) fun w_2 w_3 =>
  kb3 (f_X8_sayMoves_X1 a_1 v_p2_n v_p2_m w_2 w_3) fun r_5 w_6 w_7 =>
  some (r_5 * 2, w_6, w_7)

abbrev rm_X8_sayLets_X1 : Room := { frames := 2, cells := 0, slots := 0, locals := 43 }
set_option maxHeartbeats 4000000 in
set_option maxRecDepth 100000 in
theorem c_X8_sayLets_X1 (l : Launch) (D : va_G) (c : Nat → ClassId) (q_this q_p2 q_p2_bodies : Nat) (a_1 : Int32) (v_p2_n : Int32) (v_p2_m : Int32) (v_p2_length : Int32) (v_p2_bodies : Nat → Int32) (o_r : Int32) (o_v_p2_length : Int32) (o_v_p2_bodies : Nat → Int32) (h : f_X8_sayLets_X1 a_1 v_p2_n v_p2_m v_p2_length v_p2_bodies = some (o_r, o_v_p2_length, o_v_p2_bodies)) : gMI l yX8_sayLets wsX8_sayLets rm_X8_sayLets_X1 D c [.ref q_this, .int a_1, .ref q_p2] [(q_this, .inr (1, [])), (q_p2, .inr (9, [.int v_p2_n, .int v_p2_m, .ref q_p2_bodies, .int v_p2_length])), (q_p2_bodies, .inl (c 0, 40, .inl v_p2_bodies))] [(q_this, .inr (1, [])), (q_p2, .inr (9, [.int v_p2_n, .int v_p2_m, .ref q_p2_bodies, .int o_v_p2_length])), (q_p2_bodies, .inl (c 0, 40, .inl o_v_p2_bodies))] o_r := by
  refine gMI_of (cc := cX8_sayLets) (maxL := 3) (rt := (some .int)) (by decide +kernel) rfl (Nat.le_of_ble_eq_true rfl) ?_
  intro p e s m below meth co A hF hK hX hP hD hA hS ls hl
  obtain ⟨hx, hb, hr, hts, hown, hlocks, hml⟩ := id hF
  have hl : lv_has ls 3 [(0, .ref q_this), (1, .int a_1), (2, .ref q_p2)] := hl
  unfold f_X8_sayLets_X1 at h
  refine lv_aload_n hx hb dX8_sayLets_0 rfl (lv_at hl 2 rfl) ?_
  refine lv_bipush (v := 11) hx hb dX8_sayLets_1 (by decide) ?_
  obtain ⟨w_2, w_3, hc_1, h⟩ := kb2_ok h
  refine gCallV (isC := [1, 2]) (wc := [(q_p2, .inr (9, [.int v_p2_n, .int v_p2_m, .ref q_p2_bodies, .int v_p2_length])), (q_p2_bodies, .inl (c 0, 40, .inl v_p2_bodies))]) (w1 := [(q_p2, .inr (9, [.int v_p2_n, .int v_p2_m, .ref q_p2_bodies, .int w_2])), (q_p2_bodies, .inl (c 0, 40, .inl w_3))]) (ws2 := [(q_this, .inr (1, [])), (q_p2, .inr (9, [.int v_p2_n, .int v_p2_m, .ref q_p2_bodies, .int w_2])), (q_p2_bodies, .inl (c 0, 40, .inl w_3))]) (ms := [none, (some 0), (some 1)]) hP hD hS hA ⟨rfl, rfl, trivial⟩ (by decide +kernel) ⟨rfl, rfl, rfl, trivial⟩ (va_runV (rm := rm_X9_begin) (ws := wsX9_begin) (As := [.int 11]) (rest := []) (gFix hF) (c_X9_begin l D c q_p2 q_p2_bodies 11 v_p2_n v_p2_m v_p2_length v_p2_bodies w_2 w_3 hc_1 s.heap.size) (cwV 1 hts gX8_sayLets_X9_begin rfl rfl rfl (by decide +kernel) ⟨Nat.le_of_ble_eq_true rfl, Nat.le_of_ble_eq_true rfl⟩) (gPreV (wc := [(q_p2, .inr (9, [.int v_p2_n, .int v_p2_m, .ref q_p2_bodies, .int v_p2_length])), (q_p2_bodies, .inl (c 0, 40, .inl v_p2_bodies))]) (q := (RX9, TX9, 4)) (ci := 9) (q0 := 1) (isC := [1, 2]) hK hX hS hA hP hD ⟨rfl, rfl, trivial⟩ (by decide +kernel) rfl rfl) rfl rfl hl.1 rfl (lv_room (Nat.le_of_ble_eq_true rfl)) dX8_sayLets_3 ⟨Nat.le_of_ble_eq_true rfl, Nat.le_of_ble_eq_true rfl⟩) (fun H locs hP hD hS => ?_)
  refine lv_aload_n hx hb dX8_sayLets_6 rfl (lv_at hl 0 rfl) ?_
  refine lv_iload_n hx hb dX8_sayLets_7 rfl (lv_at hl 1 rfl) ?_
  refine lv_aload_n hx hb dX8_sayLets_8 rfl (lv_at hl 2 rfl) ?_
  obtain ⟨r_5, w_6, w_7, hc_4, h⟩ := kb3_ok h
  refine gCallI (isC := [0, 1, 2]) (wc := [(q_this, .inr (1, [])), (q_p2, .inr (9, [.int v_p2_n, .int v_p2_m, .ref q_p2_bodies, .int w_2])), (q_p2_bodies, .inl (c 0, 40, .inl w_3))]) (w1 := [(q_this, .inr (1, [])), (q_p2, .inr (9, [.int v_p2_n, .int v_p2_m, .ref q_p2_bodies, .int w_6])), (q_p2_bodies, .inl (c 0, 40, .inl w_7))]) (ws2 := [(q_this, .inr (1, [])), (q_p2, .inr (9, [.int v_p2_n, .int v_p2_m, .ref q_p2_bodies, .int w_6])), (q_p2_bodies, .inl (c 0, 40, .inl w_7))]) (ms := [(some 0), (some 1), (some 2)]) hP hD hS hA ⟨rfl, rfl, rfl, trivial⟩ (by decide +kernel) ⟨rfl, rfl, rfl, trivial⟩ (va_runU (rm := rm_X8_sayMoves_X1) (ws := wsX8_sayMoves) (As := [.int a_1, .ref q_p2]) (rest := []) (gFix hF) (c_X8_sayMoves_X1 l D c q_this q_p2 q_p2_bodies a_1 v_p2_n v_p2_m w_2 w_3 r_5 w_6 w_7 hc_4 H.size) (va_cwU 2 hts gX8_sayLets_X8_sayMoves_u17X1 rfl rfl rfl rfl (by decide +kernel) ⟨Nat.le_of_ble_eq_true rfl, Nat.le_of_ble_eq_true rfl⟩) (gPreV (wc := [(q_this, .inr (1, [])), (q_p2, .inr (9, [.int v_p2_n, .int v_p2_m, .ref q_p2_bodies, .int w_2])), (q_p2_bodies, .inl (c 0, 40, .inl w_3))]) (q := (RX1, TX1, 0)) (ci := 1) (q0 := 0) (isC := [0, 1, 2]) hK hX hS hA hP hD ⟨rfl, rfl, rfl, trivial⟩ (by decide +kernel) rfl rfl) rfl rfl hl.1 rfl (lv_room (Nat.le_of_ble_eq_true rfl)) dX8_sayLets_9 ⟨Nat.le_of_ble_eq_true rfl, Nat.le_of_ble_eq_true rfl⟩) (fun H locs hP hD hS => ?_)
  refine lv_iconst (v := 2) hx hb dX8_sayLets_12 (by decide) ?_
  refine lv_imul hx hb dX8_sayLets_13 ?_
  obtain ⟨z0, z1, z2⟩ := so3 h
  subst z0 z1 z2
  exact gIret hF hP hD hS rfl dX8_sayLets_14
def f_TD_sayLets (k : Int32) (a_1 : Int32) (v_p2_n : Int32) (v_p2_m : Int32) (v_p2_length : Int32) (v_p2_bodies : Nat → Int32) : Option (Int32 × Int32 × (Nat → Int32)) :=
  if k = 0 then f_X8_sayLets_X8 a_1 v_p2_n v_p2_m v_p2_length v_p2_bodies else
  if k = 1 then f_X8_sayLets_X0 a_1 v_p2_n v_p2_m v_p2_length v_p2_bodies else
  if k = 2 then f_X4_sayLets_X4 a_1 v_p2_n v_p2_m v_p2_length v_p2_bodies else
  if k = 3 then f_X8_sayLets_X5 a_1 v_p2_n v_p2_m v_p2_length v_p2_bodies else
  if k = 4 then f_X8_sayLets_X6 a_1 v_p2_n v_p2_m v_p2_length v_p2_bodies else
  if k = 5 then f_X2_sayLets_X2 a_1 v_p2_n v_p2_m v_p2_length v_p2_bodies else
  if k = 6 then f_X8_sayLets_X1 a_1 v_p2_n v_p2_m v_p2_length v_p2_bodies else
  none
theorem td_sayLets {k : Int32} {a_1 : Int32} {v_p2_n : Int32} {v_p2_m : Int32} {v_p2_length : Int32} {v_p2_bodies : Nat → Int32} {o : Int32 × Int32 × (Nat → Int32)} (h : f_TD_sayLets k a_1 v_p2_n v_p2_m v_p2_length v_p2_bodies = some o) : (k = 0 ∧ f_X8_sayLets_X8 a_1 v_p2_n v_p2_m v_p2_length v_p2_bodies = some o) ∨ (k = 1 ∧ f_X8_sayLets_X0 a_1 v_p2_n v_p2_m v_p2_length v_p2_bodies = some o) ∨ (k = 2 ∧ f_X4_sayLets_X4 a_1 v_p2_n v_p2_m v_p2_length v_p2_bodies = some o) ∨ (k = 3 ∧ f_X8_sayLets_X5 a_1 v_p2_n v_p2_m v_p2_length v_p2_bodies = some o) ∨ (k = 4 ∧ f_X8_sayLets_X6 a_1 v_p2_n v_p2_m v_p2_length v_p2_bodies = some o) ∨ (k = 5 ∧ f_X2_sayLets_X2 a_1 v_p2_n v_p2_m v_p2_length v_p2_bodies = some o) ∨ (k = 6 ∧ f_X8_sayLets_X1 a_1 v_p2_n v_p2_m v_p2_length v_p2_bodies = some o) := by
  unfold f_TD_sayLets at h
  by_cases c0 : k = 0
  · exact Or.inl ⟨c0, it_t c0 h⟩
  replace h := it_f c0 h
  by_cases c1 : k = 1
  · exact Or.inr (Or.inl ⟨c1, it_t c1 h⟩)
  replace h := it_f c1 h
  by_cases c2 : k = 2
  · exact Or.inr (Or.inr (Or.inl ⟨c2, it_t c2 h⟩))
  replace h := it_f c2 h
  by_cases c3 : k = 3
  · exact Or.inr (Or.inr (Or.inr (Or.inl ⟨c3, it_t c3 h⟩)))
  replace h := it_f c3 h
  by_cases c4 : k = 4
  · exact Or.inr (Or.inr (Or.inr (Or.inr (Or.inl ⟨c4, it_t c4 h⟩))))
  replace h := it_f c4 h
  by_cases c5 : k = 5
  · exact Or.inr (Or.inr (Or.inr (Or.inr (Or.inr (Or.inl ⟨c5, it_t c5 h⟩)))))
  replace h := it_f c5 h
  by_cases c6 : k = 6
  · exact Or.inr (Or.inr (Or.inr (Or.inr (Or.inr (Or.inr (⟨c6, it_t c6 h⟩))))))
  replace h := it_f c6 h
  exact no_ok h

def f_TD_sayMoves (k : Int32) (a_1 : Int32) (v_p2_n : Int32) (v_p2_m : Int32) (v_p2_length : Int32) (v_p2_bodies : Nat → Int32) : Option (Int32 × Int32 × (Nat → Int32)) :=
  if k = 0 then f_X8_sayMoves_X8 a_1 v_p2_n v_p2_m v_p2_length v_p2_bodies else
  if k = 1 then f_X0_sayMoves_X0 a_1 v_p2_n v_p2_m v_p2_length v_p2_bodies else
  if k = 2 then f_X8_sayMoves_X4 a_1 v_p2_n v_p2_m v_p2_length v_p2_bodies else
  if k = 3 then f_X8_sayMoves_X5 a_1 v_p2_n v_p2_m v_p2_length v_p2_bodies else
  if k = 4 then f_X0_sayMoves_X6 a_1 v_p2_n v_p2_m v_p2_length v_p2_bodies else
  if k = 5 then f_X8_sayMoves_X2 a_1 v_p2_n v_p2_m v_p2_length v_p2_bodies else
  if k = 6 then f_X8_sayMoves_X1 a_1 v_p2_n v_p2_m v_p2_length v_p2_bodies else
  none
theorem td_sayMoves {k : Int32} {a_1 : Int32} {v_p2_n : Int32} {v_p2_m : Int32} {v_p2_length : Int32} {v_p2_bodies : Nat → Int32} {o : Int32 × Int32 × (Nat → Int32)} (h : f_TD_sayMoves k a_1 v_p2_n v_p2_m v_p2_length v_p2_bodies = some o) : (k = 0 ∧ f_X8_sayMoves_X8 a_1 v_p2_n v_p2_m v_p2_length v_p2_bodies = some o) ∨ (k = 1 ∧ f_X0_sayMoves_X0 a_1 v_p2_n v_p2_m v_p2_length v_p2_bodies = some o) ∨ (k = 2 ∧ f_X8_sayMoves_X4 a_1 v_p2_n v_p2_m v_p2_length v_p2_bodies = some o) ∨ (k = 3 ∧ f_X8_sayMoves_X5 a_1 v_p2_n v_p2_m v_p2_length v_p2_bodies = some o) ∨ (k = 4 ∧ f_X0_sayMoves_X6 a_1 v_p2_n v_p2_m v_p2_length v_p2_bodies = some o) ∨ (k = 5 ∧ f_X8_sayMoves_X2 a_1 v_p2_n v_p2_m v_p2_length v_p2_bodies = some o) ∨ (k = 6 ∧ f_X8_sayMoves_X1 a_1 v_p2_n v_p2_m v_p2_length v_p2_bodies = some o) := by
  unfold f_TD_sayMoves at h
  by_cases c0 : k = 0
  · exact Or.inl ⟨c0, it_t c0 h⟩
  replace h := it_f c0 h
  by_cases c1 : k = 1
  · exact Or.inr (Or.inl ⟨c1, it_t c1 h⟩)
  replace h := it_f c1 h
  by_cases c2 : k = 2
  · exact Or.inr (Or.inr (Or.inl ⟨c2, it_t c2 h⟩))
  replace h := it_f c2 h
  by_cases c3 : k = 3
  · exact Or.inr (Or.inr (Or.inr (Or.inl ⟨c3, it_t c3 h⟩)))
  replace h := it_f c3 h
  by_cases c4 : k = 4
  · exact Or.inr (Or.inr (Or.inr (Or.inr (Or.inl ⟨c4, it_t c4 h⟩))))
  replace h := it_f c4 h
  by_cases c5 : k = 5
  · exact Or.inr (Or.inr (Or.inr (Or.inr (Or.inr (Or.inl ⟨c5, it_t c5 h⟩)))))
  replace h := it_f c5 h
  by_cases c6 : k = 6
  · exact Or.inr (Or.inr (Or.inr (Or.inr (Or.inr (Or.inr (⟨c6, it_t c6 h⟩))))))
  replace h := it_f c6 h
  exact no_ok h

def f_X8_sayTears_X8 (a_1 : Int32) (v_p2_n : Int32) (v_p2_m : Int32) (v_p2_length : Int32) (v_p2_bodies : Nat → Int32) : Option (Int32 × Int32 × (Nat → Int32)) :=
  kb2 (f_X9_begin 12 v_p2_length v_p2_bodies) fun w_2 w_3 =>
  some (a_1 - v_p2_m, w_2, w_3)

abbrev rm_X8_sayTears_X8 : Room := { frames := 1, cells := 0, slots := 0, locals := 21 }
set_option maxHeartbeats 4000000 in
set_option maxRecDepth 100000 in
theorem c_X8_sayTears_X8 (l : Launch) (D : va_G) (c : Nat → ClassId) (q_this q_p2 q_p2_bodies : Nat) (a_1 : Int32) (v_p2_n : Int32) (v_p2_m : Int32) (v_p2_length : Int32) (v_p2_bodies : Nat → Int32) (o_r : Int32) (o_v_p2_length : Int32) (o_v_p2_bodies : Nat → Int32) (h : f_X8_sayTears_X8 a_1 v_p2_n v_p2_m v_p2_length v_p2_bodies = some (o_r, o_v_p2_length, o_v_p2_bodies)) : gMI l yX8_sayTears wsX8_sayTears rm_X8_sayTears_X8 D c [.ref q_this, .int a_1, .ref q_p2] [(q_this, .inr (8, [])), (q_p2, .inr (9, [.int v_p2_n, .int v_p2_m, .ref q_p2_bodies, .int v_p2_length])), (q_p2_bodies, .inl (c 0, 40, .inl v_p2_bodies))] [(q_this, .inr (8, [])), (q_p2, .inr (9, [.int v_p2_n, .int v_p2_m, .ref q_p2_bodies, .int o_v_p2_length])), (q_p2_bodies, .inl (c 0, 40, .inl o_v_p2_bodies))] o_r := by
  refine gMI_of (cc := cX8_sayTears) (maxL := 3) (rt := (some .int)) (by decide +kernel) rfl (Nat.le_of_ble_eq_true rfl) ?_
  intro p e s m below meth co A hF hK hX hP hD hA hS ls hl
  obtain ⟨hx, hb, hr, hts, hown, hlocks, hml⟩ := id hF
  have hl : lv_has ls 3 [(0, .ref q_this), (1, .int a_1), (2, .ref q_p2)] := hl
  unfold f_X8_sayTears_X8 at h
  refine lv_aload_n hx hb dX8_sayTears_0 rfl (lv_at hl 2 rfl) ?_
  refine lv_bipush (v := 12) hx hb dX8_sayTears_1 (by decide) ?_
  obtain ⟨w_2, w_3, hc_1, h⟩ := kb2_ok h
  refine gCallV (isC := [1, 2]) (wc := [(q_p2, .inr (9, [.int v_p2_n, .int v_p2_m, .ref q_p2_bodies, .int v_p2_length])), (q_p2_bodies, .inl (c 0, 40, .inl v_p2_bodies))]) (w1 := [(q_p2, .inr (9, [.int v_p2_n, .int v_p2_m, .ref q_p2_bodies, .int w_2])), (q_p2_bodies, .inl (c 0, 40, .inl w_3))]) (ws2 := [(q_this, .inr (8, [])), (q_p2, .inr (9, [.int v_p2_n, .int v_p2_m, .ref q_p2_bodies, .int w_2])), (q_p2_bodies, .inl (c 0, 40, .inl w_3))]) (ms := [none, (some 0), (some 1)]) hP hD hS hA ⟨rfl, rfl, trivial⟩ (by decide +kernel) ⟨rfl, rfl, rfl, trivial⟩ (va_runV (rm := rm_X9_begin) (ws := wsX9_begin) (As := [.int 12]) (rest := []) (gFix hF) (c_X9_begin l D c q_p2 q_p2_bodies 12 v_p2_n v_p2_m v_p2_length v_p2_bodies w_2 w_3 hc_1 s.heap.size) (cwV 1 hts gX8_sayTears_X9_begin rfl rfl rfl (by decide +kernel) ⟨Nat.le_of_ble_eq_true rfl, Nat.le_of_ble_eq_true rfl⟩) (gPreV (wc := [(q_p2, .inr (9, [.int v_p2_n, .int v_p2_m, .ref q_p2_bodies, .int v_p2_length])), (q_p2_bodies, .inl (c 0, 40, .inl v_p2_bodies))]) (q := (RX9, TX9, 4)) (ci := 9) (q0 := 1) (isC := [1, 2]) hK hX hS hA hP hD ⟨rfl, rfl, trivial⟩ (by decide +kernel) rfl rfl) rfl rfl hl.1 rfl (lv_room (Nat.le_of_ble_eq_true rfl)) dX8_sayTears_3 ⟨Nat.le_of_ble_eq_true rfl, Nat.le_of_ble_eq_true rfl⟩) (fun H locs hP hD hS => ?_)
  refine lv_iload_n hx hb dX8_sayTears_6 rfl (lv_at hl 1 rfl) ?_
  refine lv_aload_n hx hb dX8_sayTears_7 rfl (lv_at hl 2 rfl) ?_
  refine va_getN (D := D) (ci := 9) (v := .int v_p2_m) (C := RX9) (T := TX9) (N := 4) hx hb hts in_X8_sayTears_X9 hown hK.1 hP 1 rfl rfl 1 (by decide) (va_Nw.use rfl (hK.2 (.fieldLinkNest "PaperBubbles$Tool" 23 "PaperBubbles$Voice" "m" "I" "PaperBubbles") (List.mem_of_getElem? (i := 21) rfl))) (fun _ h9 => h9) rfl dX8_sayTears_8 ?_
  refine lv_isub hx hb dX8_sayTears_11 ?_
  obtain ⟨z0, z1, z2⟩ := so3 h
  subst z0 z1 z2
  exact gIret hF hP hD hS rfl dX8_sayTears_12
def f_X8_sayTears_X0 (a_1 : Int32) (v_p2_n : Int32) (v_p2_m : Int32) (v_p2_length : Int32) (v_p2_bodies : Nat → Int32) : Option (Int32 × Int32 × (Nat → Int32)) :=
  kb2 (f_X9_begin 12 v_p2_length v_p2_bodies) fun w_2 w_3 =>
  some (a_1 - v_p2_m, w_2, w_3)

abbrev rm_X8_sayTears_X0 : Room := { frames := 1, cells := 0, slots := 0, locals := 21 }
set_option maxHeartbeats 4000000 in
set_option maxRecDepth 100000 in
theorem c_X8_sayTears_X0 (l : Launch) (D : va_G) (c : Nat → ClassId) (q_this q_p2 q_p2_bodies : Nat) (a_1 : Int32) (v_p2_n : Int32) (v_p2_m : Int32) (v_p2_length : Int32) (v_p2_bodies : Nat → Int32) (o_r : Int32) (o_v_p2_length : Int32) (o_v_p2_bodies : Nat → Int32) (h : f_X8_sayTears_X0 a_1 v_p2_n v_p2_m v_p2_length v_p2_bodies = some (o_r, o_v_p2_length, o_v_p2_bodies)) : gMI l yX8_sayTears wsX8_sayTears rm_X8_sayTears_X0 D c [.ref q_this, .int a_1, .ref q_p2] [(q_this, .inr (0, [])), (q_p2, .inr (9, [.int v_p2_n, .int v_p2_m, .ref q_p2_bodies, .int v_p2_length])), (q_p2_bodies, .inl (c 0, 40, .inl v_p2_bodies))] [(q_this, .inr (0, [])), (q_p2, .inr (9, [.int v_p2_n, .int v_p2_m, .ref q_p2_bodies, .int o_v_p2_length])), (q_p2_bodies, .inl (c 0, 40, .inl o_v_p2_bodies))] o_r := by
  refine gMI_of (cc := cX8_sayTears) (maxL := 3) (rt := (some .int)) (by decide +kernel) rfl (Nat.le_of_ble_eq_true rfl) ?_
  intro p e s m below meth co A hF hK hX hP hD hA hS ls hl
  obtain ⟨hx, hb, hr, hts, hown, hlocks, hml⟩ := id hF
  have hl : lv_has ls 3 [(0, .ref q_this), (1, .int a_1), (2, .ref q_p2)] := hl
  unfold f_X8_sayTears_X0 at h
  refine lv_aload_n hx hb dX8_sayTears_0 rfl (lv_at hl 2 rfl) ?_
  refine lv_bipush (v := 12) hx hb dX8_sayTears_1 (by decide) ?_
  obtain ⟨w_2, w_3, hc_1, h⟩ := kb2_ok h
  refine gCallV (isC := [1, 2]) (wc := [(q_p2, .inr (9, [.int v_p2_n, .int v_p2_m, .ref q_p2_bodies, .int v_p2_length])), (q_p2_bodies, .inl (c 0, 40, .inl v_p2_bodies))]) (w1 := [(q_p2, .inr (9, [.int v_p2_n, .int v_p2_m, .ref q_p2_bodies, .int w_2])), (q_p2_bodies, .inl (c 0, 40, .inl w_3))]) (ws2 := [(q_this, .inr (0, [])), (q_p2, .inr (9, [.int v_p2_n, .int v_p2_m, .ref q_p2_bodies, .int w_2])), (q_p2_bodies, .inl (c 0, 40, .inl w_3))]) (ms := [none, (some 0), (some 1)]) hP hD hS hA ⟨rfl, rfl, trivial⟩ (by decide +kernel) ⟨rfl, rfl, rfl, trivial⟩ (va_runV (rm := rm_X9_begin) (ws := wsX9_begin) (As := [.int 12]) (rest := []) (gFix hF) (c_X9_begin l D c q_p2 q_p2_bodies 12 v_p2_n v_p2_m v_p2_length v_p2_bodies w_2 w_3 hc_1 s.heap.size) (cwV 1 hts gX8_sayTears_X9_begin rfl rfl rfl (by decide +kernel) ⟨Nat.le_of_ble_eq_true rfl, Nat.le_of_ble_eq_true rfl⟩) (gPreV (wc := [(q_p2, .inr (9, [.int v_p2_n, .int v_p2_m, .ref q_p2_bodies, .int v_p2_length])), (q_p2_bodies, .inl (c 0, 40, .inl v_p2_bodies))]) (q := (RX9, TX9, 4)) (ci := 9) (q0 := 1) (isC := [1, 2]) hK hX hS hA hP hD ⟨rfl, rfl, trivial⟩ (by decide +kernel) rfl rfl) rfl rfl hl.1 rfl (lv_room (Nat.le_of_ble_eq_true rfl)) dX8_sayTears_3 ⟨Nat.le_of_ble_eq_true rfl, Nat.le_of_ble_eq_true rfl⟩) (fun H locs hP hD hS => ?_)
  refine lv_iload_n hx hb dX8_sayTears_6 rfl (lv_at hl 1 rfl) ?_
  refine lv_aload_n hx hb dX8_sayTears_7 rfl (lv_at hl 2 rfl) ?_
  refine va_getN (D := D) (ci := 9) (v := .int v_p2_m) (C := RX9) (T := TX9) (N := 4) hx hb hts in_X8_sayTears_X9 hown hK.1 hP 1 rfl rfl 1 (by decide) (va_Nw.use rfl (hK.2 (.fieldLinkNest "PaperBubbles$Tool" 23 "PaperBubbles$Voice" "m" "I" "PaperBubbles") (List.mem_of_getElem? (i := 21) rfl))) (fun _ h9 => h9) rfl dX8_sayTears_8 ?_
  refine lv_isub hx hb dX8_sayTears_11 ?_
  obtain ⟨z0, z1, z2⟩ := so3 h
  subst z0 z1 z2
  exact gIret hF hP hD hS rfl dX8_sayTears_12
def f_X8_sayTears_X5 (a_1 : Int32) (v_p2_n : Int32) (v_p2_m : Int32) (v_p2_length : Int32) (v_p2_bodies : Nat → Int32) : Option (Int32 × Int32 × (Nat → Int32)) :=
  kb2 (f_X9_begin 12 v_p2_length v_p2_bodies) fun w_2 w_3 =>
  some (a_1 - v_p2_m, w_2, w_3)

abbrev rm_X8_sayTears_X5 : Room := { frames := 1, cells := 0, slots := 0, locals := 21 }
set_option maxHeartbeats 4000000 in
set_option maxRecDepth 100000 in
theorem c_X8_sayTears_X5 (l : Launch) (D : va_G) (c : Nat → ClassId) (q_this q_p2 q_p2_bodies : Nat) (a_1 : Int32) (v_p2_n : Int32) (v_p2_m : Int32) (v_p2_length : Int32) (v_p2_bodies : Nat → Int32) (o_r : Int32) (o_v_p2_length : Int32) (o_v_p2_bodies : Nat → Int32) (h : f_X8_sayTears_X5 a_1 v_p2_n v_p2_m v_p2_length v_p2_bodies = some (o_r, o_v_p2_length, o_v_p2_bodies)) : gMI l yX8_sayTears wsX8_sayTears rm_X8_sayTears_X5 D c [.ref q_this, .int a_1, .ref q_p2] [(q_this, .inr (5, [])), (q_p2, .inr (9, [.int v_p2_n, .int v_p2_m, .ref q_p2_bodies, .int v_p2_length])), (q_p2_bodies, .inl (c 0, 40, .inl v_p2_bodies))] [(q_this, .inr (5, [])), (q_p2, .inr (9, [.int v_p2_n, .int v_p2_m, .ref q_p2_bodies, .int o_v_p2_length])), (q_p2_bodies, .inl (c 0, 40, .inl o_v_p2_bodies))] o_r := by
  refine gMI_of (cc := cX8_sayTears) (maxL := 3) (rt := (some .int)) (by decide +kernel) rfl (Nat.le_of_ble_eq_true rfl) ?_
  intro p e s m below meth co A hF hK hX hP hD hA hS ls hl
  obtain ⟨hx, hb, hr, hts, hown, hlocks, hml⟩ := id hF
  have hl : lv_has ls 3 [(0, .ref q_this), (1, .int a_1), (2, .ref q_p2)] := hl
  unfold f_X8_sayTears_X5 at h
  refine lv_aload_n hx hb dX8_sayTears_0 rfl (lv_at hl 2 rfl) ?_
  refine lv_bipush (v := 12) hx hb dX8_sayTears_1 (by decide) ?_
  obtain ⟨w_2, w_3, hc_1, h⟩ := kb2_ok h
  refine gCallV (isC := [1, 2]) (wc := [(q_p2, .inr (9, [.int v_p2_n, .int v_p2_m, .ref q_p2_bodies, .int v_p2_length])), (q_p2_bodies, .inl (c 0, 40, .inl v_p2_bodies))]) (w1 := [(q_p2, .inr (9, [.int v_p2_n, .int v_p2_m, .ref q_p2_bodies, .int w_2])), (q_p2_bodies, .inl (c 0, 40, .inl w_3))]) (ws2 := [(q_this, .inr (5, [])), (q_p2, .inr (9, [.int v_p2_n, .int v_p2_m, .ref q_p2_bodies, .int w_2])), (q_p2_bodies, .inl (c 0, 40, .inl w_3))]) (ms := [none, (some 0), (some 1)]) hP hD hS hA ⟨rfl, rfl, trivial⟩ (by decide +kernel) ⟨rfl, rfl, rfl, trivial⟩ (va_runV (rm := rm_X9_begin) (ws := wsX9_begin) (As := [.int 12]) (rest := []) (gFix hF) (c_X9_begin l D c q_p2 q_p2_bodies 12 v_p2_n v_p2_m v_p2_length v_p2_bodies w_2 w_3 hc_1 s.heap.size) (cwV 1 hts gX8_sayTears_X9_begin rfl rfl rfl (by decide +kernel) ⟨Nat.le_of_ble_eq_true rfl, Nat.le_of_ble_eq_true rfl⟩) (gPreV (wc := [(q_p2, .inr (9, [.int v_p2_n, .int v_p2_m, .ref q_p2_bodies, .int v_p2_length])), (q_p2_bodies, .inl (c 0, 40, .inl v_p2_bodies))]) (q := (RX9, TX9, 4)) (ci := 9) (q0 := 1) (isC := [1, 2]) hK hX hS hA hP hD ⟨rfl, rfl, trivial⟩ (by decide +kernel) rfl rfl) rfl rfl hl.1 rfl (lv_room (Nat.le_of_ble_eq_true rfl)) dX8_sayTears_3 ⟨Nat.le_of_ble_eq_true rfl, Nat.le_of_ble_eq_true rfl⟩) (fun H locs hP hD hS => ?_)
  refine lv_iload_n hx hb dX8_sayTears_6 rfl (lv_at hl 1 rfl) ?_
  refine lv_aload_n hx hb dX8_sayTears_7 rfl (lv_at hl 2 rfl) ?_
  refine va_getN (D := D) (ci := 9) (v := .int v_p2_m) (C := RX9) (T := TX9) (N := 4) hx hb hts in_X8_sayTears_X9 hown hK.1 hP 1 rfl rfl 1 (by decide) (va_Nw.use rfl (hK.2 (.fieldLinkNest "PaperBubbles$Tool" 23 "PaperBubbles$Voice" "m" "I" "PaperBubbles") (List.mem_of_getElem? (i := 21) rfl))) (fun _ h9 => h9) rfl dX8_sayTears_8 ?_
  refine lv_isub hx hb dX8_sayTears_11 ?_
  obtain ⟨z0, z1, z2⟩ := so3 h
  subst z0 z1 z2
  exact gIret hF hP hD hS rfl dX8_sayTears_12
def f_X5_sayTears_X5 (a_1 : Int32) (v_p2_n : Int32) (v_p2_m : Int32) (v_p2_length : Int32) (v_p2_bodies : Nat → Int32) : Option (Int32 × Int32 × (Nat → Int32)) :=
  kb2 (f_X9_begin 40 v_p2_length v_p2_bodies) fun w_2 w_3 =>
  kb3 (f_X8_sayTears_X5 a_1 v_p2_n v_p2_m w_2 w_3) fun r_5 w_6 w_7 =>
  some (-r_5, w_6, w_7)

abbrev rm_X5_sayTears_X5 : Room := { frames := 2, cells := 0, slots := 0, locals := 43 }
set_option maxHeartbeats 4000000 in
set_option maxRecDepth 100000 in
theorem c_X5_sayTears_X5 (l : Launch) (D : va_G) (c : Nat → ClassId) (q_this q_p2 q_p2_bodies : Nat) (a_1 : Int32) (v_p2_n : Int32) (v_p2_m : Int32) (v_p2_length : Int32) (v_p2_bodies : Nat → Int32) (o_r : Int32) (o_v_p2_length : Int32) (o_v_p2_bodies : Nat → Int32) (h : f_X5_sayTears_X5 a_1 v_p2_n v_p2_m v_p2_length v_p2_bodies = some (o_r, o_v_p2_length, o_v_p2_bodies)) : gMI l yX5_sayTears wsX5_sayTears rm_X5_sayTears_X5 D c [.ref q_this, .int a_1, .ref q_p2] [(q_this, .inr (5, [])), (q_p2, .inr (9, [.int v_p2_n, .int v_p2_m, .ref q_p2_bodies, .int v_p2_length])), (q_p2_bodies, .inl (c 0, 40, .inl v_p2_bodies))] [(q_this, .inr (5, [])), (q_p2, .inr (9, [.int v_p2_n, .int v_p2_m, .ref q_p2_bodies, .int o_v_p2_length])), (q_p2_bodies, .inl (c 0, 40, .inl o_v_p2_bodies))] o_r := by
  refine gMI_of (cc := cX5_sayTears) (maxL := 3) (rt := (some .int)) (by decide +kernel) rfl (Nat.le_of_ble_eq_true rfl) ?_
  intro p e s m below meth co A hF hK hX hP hD hA hS ls hl
  obtain ⟨hx, hb, hr, hts, hown, hlocks, hml⟩ := id hF
  have hl : lv_has ls 3 [(0, .ref q_this), (1, .int a_1), (2, .ref q_p2)] := hl
  unfold f_X5_sayTears_X5 at h
  refine lv_aload_n hx hb dX5_sayTears_0 rfl (lv_at hl 2 rfl) ?_
  refine lv_bipush (v := 40) hx hb dX5_sayTears_1 (by decide) ?_
  obtain ⟨w_2, w_3, hc_1, h⟩ := kb2_ok h
  refine gCallV (isC := [1, 2]) (wc := [(q_p2, .inr (9, [.int v_p2_n, .int v_p2_m, .ref q_p2_bodies, .int v_p2_length])), (q_p2_bodies, .inl (c 0, 40, .inl v_p2_bodies))]) (w1 := [(q_p2, .inr (9, [.int v_p2_n, .int v_p2_m, .ref q_p2_bodies, .int w_2])), (q_p2_bodies, .inl (c 0, 40, .inl w_3))]) (ws2 := [(q_this, .inr (5, [])), (q_p2, .inr (9, [.int v_p2_n, .int v_p2_m, .ref q_p2_bodies, .int w_2])), (q_p2_bodies, .inl (c 0, 40, .inl w_3))]) (ms := [none, (some 0), (some 1)]) hP hD hS hA ⟨rfl, rfl, trivial⟩ (by decide +kernel) ⟨rfl, rfl, rfl, trivial⟩ (va_runV (rm := rm_X9_begin) (ws := wsX9_begin) (As := [.int 40]) (rest := []) (gFix hF) (c_X9_begin l D c q_p2 q_p2_bodies 40 v_p2_n v_p2_m v_p2_length v_p2_bodies w_2 w_3 hc_1 s.heap.size) (cwV 1 hts gX5_sayTears_X9_begin rfl rfl rfl (by decide +kernel) ⟨Nat.le_of_ble_eq_true rfl, Nat.le_of_ble_eq_true rfl⟩) (gPreV (wc := [(q_p2, .inr (9, [.int v_p2_n, .int v_p2_m, .ref q_p2_bodies, .int v_p2_length])), (q_p2_bodies, .inl (c 0, 40, .inl v_p2_bodies))]) (q := (RX9, TX9, 4)) (ci := 9) (q0 := 1) (isC := [1, 2]) hK hX hS hA hP hD ⟨rfl, rfl, trivial⟩ (by decide +kernel) rfl rfl) rfl rfl hl.1 rfl (lv_room (Nat.le_of_ble_eq_true rfl)) dX5_sayTears_3 ⟨Nat.le_of_ble_eq_true rfl, Nat.le_of_ble_eq_true rfl⟩) (fun H locs hP hD hS => ?_)
  refine lv_aload_n hx hb dX5_sayTears_6 rfl (lv_at hl 0 rfl) ?_
  refine lv_iload_n hx hb dX5_sayTears_7 rfl (lv_at hl 1 rfl) ?_
  refine lv_aload_n hx hb dX5_sayTears_8 rfl (lv_at hl 2 rfl) ?_
  obtain ⟨r_5, w_6, w_7, hc_4, h⟩ := kb3_ok h
  refine gCallI (isC := [0, 1, 2]) (wc := [(q_this, .inr (5, [])), (q_p2, .inr (9, [.int v_p2_n, .int v_p2_m, .ref q_p2_bodies, .int w_2])), (q_p2_bodies, .inl (c 0, 40, .inl w_3))]) (w1 := [(q_this, .inr (5, [])), (q_p2, .inr (9, [.int v_p2_n, .int v_p2_m, .ref q_p2_bodies, .int w_6])), (q_p2_bodies, .inl (c 0, 40, .inl w_7))]) (ws2 := [(q_this, .inr (5, [])), (q_p2, .inr (9, [.int v_p2_n, .int v_p2_m, .ref q_p2_bodies, .int w_6])), (q_p2_bodies, .inl (c 0, 40, .inl w_7))]) (ms := [(some 0), (some 1), (some 2)]) hP hD hS hA ⟨rfl, rfl, rfl, trivial⟩ (by decide +kernel) ⟨rfl, rfl, rfl, trivial⟩ (va_runSU (rm := rm_X8_sayTears_X5) (ws := wsX8_sayTears) (As := [.int a_1, .ref q_p2]) (rest := []) (hK.1.1 5 _ rfl).2 (gFix hF) (c_X8_sayTears_X5 l D c q_this q_p2 q_p2_bodies a_1 v_p2_n v_p2_m w_2 w_3 r_5 w_6 w_7 hc_4 H.size) (va_cwSU 2 hts gX5_sayTears_X8_sayTears_s17 rfl rfl rfl (by decide +kernel) ⟨Nat.le_of_ble_eq_true rfl, Nat.le_of_ble_eq_true rfl⟩) (gPreV (wc := [(q_this, .inr (5, [])), (q_p2, .inr (9, [.int v_p2_n, .int v_p2_m, .ref q_p2_bodies, .int w_2])), (q_p2_bodies, .inl (c 0, 40, .inl w_3))]) (q := (RX5, TX5, 0)) (ci := 5) (q0 := 0) (isC := [0, 1, 2]) hK hX hS hA hP hD ⟨rfl, rfl, rfl, trivial⟩ (by decide +kernel) rfl rfl) rfl rfl hl.1 rfl (lv_room (Nat.le_of_ble_eq_true rfl)) dX5_sayTears_9 ⟨Nat.le_of_ble_eq_true rfl, Nat.le_of_ble_eq_true rfl⟩) (fun H locs hP hD hS => ?_)
  refine lv_ineg hx hb dX5_sayTears_12 ?_
  obtain ⟨z0, z1, z2⟩ := so3 h
  subst z0 z1 z2
  exact gIret hF hP hD hS rfl dX5_sayTears_13
def f_X8_sayTears_X6 (a_1 : Int32) (v_p2_n : Int32) (v_p2_m : Int32) (v_p2_length : Int32) (v_p2_bodies : Nat → Int32) : Option (Int32 × Int32 × (Nat → Int32)) :=
  kb2 (f_X9_begin 12 v_p2_length v_p2_bodies) fun w_2 w_3 =>
  some (a_1 - v_p2_m, w_2, w_3)

abbrev rm_X8_sayTears_X6 : Room := { frames := 1, cells := 0, slots := 0, locals := 21 }
set_option maxHeartbeats 4000000 in
set_option maxRecDepth 100000 in
theorem c_X8_sayTears_X6 (l : Launch) (D : va_G) (c : Nat → ClassId) (q_this q_p2 q_p2_bodies : Nat) (a_1 : Int32) (v_p2_n : Int32) (v_p2_m : Int32) (v_p2_length : Int32) (v_p2_bodies : Nat → Int32) (o_r : Int32) (o_v_p2_length : Int32) (o_v_p2_bodies : Nat → Int32) (h : f_X8_sayTears_X6 a_1 v_p2_n v_p2_m v_p2_length v_p2_bodies = some (o_r, o_v_p2_length, o_v_p2_bodies)) : gMI l yX8_sayTears wsX8_sayTears rm_X8_sayTears_X6 D c [.ref q_this, .int a_1, .ref q_p2] [(q_this, .inr (6, [])), (q_p2, .inr (9, [.int v_p2_n, .int v_p2_m, .ref q_p2_bodies, .int v_p2_length])), (q_p2_bodies, .inl (c 0, 40, .inl v_p2_bodies))] [(q_this, .inr (6, [])), (q_p2, .inr (9, [.int v_p2_n, .int v_p2_m, .ref q_p2_bodies, .int o_v_p2_length])), (q_p2_bodies, .inl (c 0, 40, .inl o_v_p2_bodies))] o_r := by
  refine gMI_of (cc := cX8_sayTears) (maxL := 3) (rt := (some .int)) (by decide +kernel) rfl (Nat.le_of_ble_eq_true rfl) ?_
  intro p e s m below meth co A hF hK hX hP hD hA hS ls hl
  obtain ⟨hx, hb, hr, hts, hown, hlocks, hml⟩ := id hF
  have hl : lv_has ls 3 [(0, .ref q_this), (1, .int a_1), (2, .ref q_p2)] := hl
  unfold f_X8_sayTears_X6 at h
  refine lv_aload_n hx hb dX8_sayTears_0 rfl (lv_at hl 2 rfl) ?_
  refine lv_bipush (v := 12) hx hb dX8_sayTears_1 (by decide) ?_
  obtain ⟨w_2, w_3, hc_1, h⟩ := kb2_ok h
  refine gCallV (isC := [1, 2]) (wc := [(q_p2, .inr (9, [.int v_p2_n, .int v_p2_m, .ref q_p2_bodies, .int v_p2_length])), (q_p2_bodies, .inl (c 0, 40, .inl v_p2_bodies))]) (w1 := [(q_p2, .inr (9, [.int v_p2_n, .int v_p2_m, .ref q_p2_bodies, .int w_2])), (q_p2_bodies, .inl (c 0, 40, .inl w_3))]) (ws2 := [(q_this, .inr (6, [])), (q_p2, .inr (9, [.int v_p2_n, .int v_p2_m, .ref q_p2_bodies, .int w_2])), (q_p2_bodies, .inl (c 0, 40, .inl w_3))]) (ms := [none, (some 0), (some 1)]) hP hD hS hA ⟨rfl, rfl, trivial⟩ (by decide +kernel) ⟨rfl, rfl, rfl, trivial⟩ (va_runV (rm := rm_X9_begin) (ws := wsX9_begin) (As := [.int 12]) (rest := []) (gFix hF) (c_X9_begin l D c q_p2 q_p2_bodies 12 v_p2_n v_p2_m v_p2_length v_p2_bodies w_2 w_3 hc_1 s.heap.size) (cwV 1 hts gX8_sayTears_X9_begin rfl rfl rfl (by decide +kernel) ⟨Nat.le_of_ble_eq_true rfl, Nat.le_of_ble_eq_true rfl⟩) (gPreV (wc := [(q_p2, .inr (9, [.int v_p2_n, .int v_p2_m, .ref q_p2_bodies, .int v_p2_length])), (q_p2_bodies, .inl (c 0, 40, .inl v_p2_bodies))]) (q := (RX9, TX9, 4)) (ci := 9) (q0 := 1) (isC := [1, 2]) hK hX hS hA hP hD ⟨rfl, rfl, trivial⟩ (by decide +kernel) rfl rfl) rfl rfl hl.1 rfl (lv_room (Nat.le_of_ble_eq_true rfl)) dX8_sayTears_3 ⟨Nat.le_of_ble_eq_true rfl, Nat.le_of_ble_eq_true rfl⟩) (fun H locs hP hD hS => ?_)
  refine lv_iload_n hx hb dX8_sayTears_6 rfl (lv_at hl 1 rfl) ?_
  refine lv_aload_n hx hb dX8_sayTears_7 rfl (lv_at hl 2 rfl) ?_
  refine va_getN (D := D) (ci := 9) (v := .int v_p2_m) (C := RX9) (T := TX9) (N := 4) hx hb hts in_X8_sayTears_X9 hown hK.1 hP 1 rfl rfl 1 (by decide) (va_Nw.use rfl (hK.2 (.fieldLinkNest "PaperBubbles$Tool" 23 "PaperBubbles$Voice" "m" "I" "PaperBubbles") (List.mem_of_getElem? (i := 21) rfl))) (fun _ h9 => h9) rfl dX8_sayTears_8 ?_
  refine lv_isub hx hb dX8_sayTears_11 ?_
  obtain ⟨z0, z1, z2⟩ := so3 h
  subst z0 z1 z2
  exact gIret hF hP hD hS rfl dX8_sayTears_12
