set_option maxRecDepth 20000 in
theorem in_X11_error_X11 : ∀ w ∈ u_ws RX11 TX11 11, w ∈ wsX11_error := by decide +kernel
def f_X11_error (a_1 : Int32) (v_errors : Nat → Int32) : Option (Int32 × (Nat → Int32)) :=
  kb (f_X11_within a_1 1 5) fun r_2 =>
  if r_2 = 0 then
    some ((-1000000000) - a_1, v_errors)
  else
    chi a_1 6 <|
    nm (v_errors a_1.toNatClampNeg : Int32) fun t_5 =>
    nm (t_5 + 1 : Int32) fun t_6 =>
    chi a_1 6 <|
    nm (upd v_errors a_1.toNatClampNeg t_6) fun w_8 =>
    some ((-1000000000) - a_1, w_8)

abbrev rm_X11_error : Room := { frames := 1, cells := 0, slots := 0, locals := 22 }
set_option maxHeartbeats 4000000 in
set_option maxRecDepth 100000 in
theorem c_X11_error (l : Launch) (D : va_G) (c : Nat → ClassId) (q_this q_now q_kept q_kinds q_voice q_thought q_further q_errors q_sheetBits q_sheetLength q_numbers : Nat) (a_1 : Int32) (v_images : Int32) (v_errors : Nat → Int32) (o_r : Int32) (o_v_errors : Nat → Int32) (h : f_X11_error a_1 v_errors = some (o_r, o_v_errors)) : gMI l yX11_error wsX11_error rm_X11_error D c [.ref q_this, .int a_1] [(q_this, .inr (11, [.ref q_now, .ref q_kept, .int v_images, .ref q_kinds, .ref q_voice, .ref q_thought, .ref q_further, .ref q_errors, .ref q_sheetBits, .ref q_sheetLength, .ref q_numbers])), (q_errors, .inl (c 0, 6, .inl v_errors))] [(q_this, .inr (11, [.ref q_now, .ref q_kept, .int v_images, .ref q_kinds, .ref q_voice, .ref q_thought, .ref q_further, .ref q_errors, .ref q_sheetBits, .ref q_sheetLength, .ref q_numbers])), (q_errors, .inl (c 0, 6, .inl o_v_errors))] o_r := by
  refine gMI_of (cc := cX11_error) (maxL := 2) (rt := (some .int)) (by decide +kernel) rfl (Nat.le_of_ble_eq_true rfl) ?_
  intro p e s m below meth co A hF hK hX hP hD hA hS ls hl
  obtain ⟨hx, hb, hr, hts, hown, hlocks, hml⟩ := id hF
  have hl : lv_has ls 2 [(0, .ref q_this), (1, .int a_1)] := hl
  unfold f_X11_error at h
  refine lv_iload_n hx hb dX11_error_0 rfl (lv_at hl 1 rfl) ?_
  refine lv_iconst (v := 1) hx hb dX11_error_1 (by decide) ?_
  refine lv_iconst (v := 5) hx hb dX11_error_2 (by decide) ?_
  obtain ⟨r_2, hc_1, h⟩ := kb_ok h
  refine gCallIr (isC := []) (wc := []) hP hD hS hA trivial (va_runS (rm := rm_X11_within) (ws := wsX11_within) (As := [.int a_1, .int 1, .int 5]) (rest := []) (gFix hF) (c_X11_within l D c a_1 1 5 r_2 hc_1 s.heap.size) (va_cwS 3 hts gX11_error_X11_within rfl rfl rfl (by decide +kernel) ⟨Nat.le_of_ble_eq_true rfl, Nat.le_of_ble_eq_true rfl⟩) (gPreS (wc := []) (isC := []) hK hX hS hA hP hD trivial (by decide +kernel)) rfl rfl hl.1 rfl (lv_room (Nat.le_of_ble_eq_true rfl)) dX11_error_3 ⟨Nat.le_of_ble_eq_true rfl, Nat.le_of_ble_eq_true rfl⟩) (fun H locs hP hS => ?_)
  refine lv_if_eq (tgt := 19) hx hb dX11_error_6 (by decide) (fun c_3 => ?_) (fun c_3 => ?_)
  · have h := it_t c_3 h
    refine lv_ldcw (v := (-1000000000)) hx hb hown (hts (.constant RX11 324 (-1000000000)) (List.mem_of_getElem? (i := 2) rfl)) dX11_error_19 ?_
    refine lv_iload_n hx hb dX11_error_22 rfl (lv_at hl 1 rfl) ?_
    refine lv_isub hx hb dX11_error_23 ?_
    obtain ⟨z0, z1⟩ := so2 h
    subst z0 z1
    exact gIret hF hP hD hS rfl dX11_error_24
  · have h := it_f c_3 h
    refine lv_aload_n hx hb dX11_error_9 rfl (lv_at hl 0 rfl) ?_
    refine va_get (D := D) (ci := 11) (v := .ref q_errors) (C := RX11) (T := TX11) (N := 11) hx hb hts in_X11_error_X11 hown hK.1 hP 0 rfl rfl 7 (by decide) (hts (.fieldLink RX11 63 "PaperBubbles" "errors" "[I") (List.mem_of_getElem? (i := 1) rfl)) (fun _ h9 => h9) rfl dX11_error_10 ?_
    refine lv_iload_n hx hb dX11_error_13 rfl (lv_at hl 1 rfl) ?_
    refine lv_dup2_11 hx hb dX11_error_14 rfl rfl ?_
    obtain ⟨hi_4, h⟩ := chi_ok h
    refine va_iald hx hb hK.1 hP 1 0 rfl rfl hi_4 dX11_error_15 ?_
    obtain ⟨t_5, et_5, h⟩ := nm_ok h
    refine gTop et_5 ?_
    refine lv_iconst (v := 1) hx hb dX11_error_16 (by decide) ?_
    refine lv_iadd hx hb dX11_error_17 ?_
    obtain ⟨t_6, et_6, h⟩ := nm_ok h
    refine gTop et_6 ?_
    obtain ⟨hi_7, h⟩ := chi_ok h
    obtain ⟨w_8, ew_8, h⟩ := nm_ok h
    refine va_iast hx hb hK.1 hP hD hS 1 0 rfl rfl hi_7 dX11_error_18 (fun H locs hP hD hS => ?_)
    have hP : va_P D gcl [(q_this, .inr (11, [.ref q_now, .ref q_kept, .int v_images, .ref q_kinds, .ref q_voice, .ref q_thought, .ref q_further, .ref q_errors, .ref q_sheetBits, .ref q_sheetLength, .ref q_numbers])), (q_errors, .inl (c 0, 6, .inl w_8))] H := by subst ew_8; exact hP
    have hD : va_D A [(q_this, .inr (11, [.ref q_now, .ref q_kept, .int v_images, .ref q_kinds, .ref q_voice, .ref q_thought, .ref q_further, .ref q_errors, .ref q_sheetBits, .ref q_sheetLength, .ref q_numbers])), (q_errors, .inl (c 0, 6, .inl w_8))] := by subst ew_8; exact hD
    refine lv_ldcw (v := (-1000000000)) hx hb hown (hts (.constant RX11 324 (-1000000000)) (List.mem_of_getElem? (i := 2) rfl)) dX11_error_19 ?_
    refine lv_iload_n hx hb dX11_error_22 rfl (lv_at hl 1 rfl) ?_
    refine lv_isub hx hb dX11_error_23 ?_
    obtain ⟨z0, z1⟩ := so2 h
    subst z0 z1
    exact gIret hF hP hD hS rfl dX11_error_24
set_option maxRecDepth 20000 in
theorem in_X11_isMissing_X11 : ∀ w ∈ u_ws RX11 TX11 11, w ∈ wsX11_isMissing := by decide +kernel
def f_X11_isMissing (a_1 : Int32) (v_sheetBits : Nat → Int32) : Option (Int32) :=
  chi a_1 4 <|
  if (v_sheetBits a_1.toNatClampNeg) = 0 then
    some 1
  else
    some 0

abbrev rm_X11_isMissing : Room := { frames := 0, cells := 0, slots := 0, locals := 0 }
set_option maxHeartbeats 4000000 in
set_option maxRecDepth 100000 in
theorem c_X11_isMissing (l : Launch) (D : va_G) (c : Nat → ClassId) (q_this q_now q_kept q_kinds q_voice q_thought q_further q_errors q_sheetBits q_sheetLength q_numbers : Nat) (a_1 : Int32) (v_images : Int32) (v_sheetBits : Nat → Int32) (o_r : Int32) (h : f_X11_isMissing a_1 v_sheetBits = some o_r) : gMI l yX11_isMissing wsX11_isMissing rm_X11_isMissing D c [.ref q_this, .int a_1] [(q_this, .inr (11, [.ref q_now, .ref q_kept, .int v_images, .ref q_kinds, .ref q_voice, .ref q_thought, .ref q_further, .ref q_errors, .ref q_sheetBits, .ref q_sheetLength, .ref q_numbers])), (q_sheetBits, .inl (c 0, 4, .inl v_sheetBits))] [(q_this, .inr (11, [.ref q_now, .ref q_kept, .int v_images, .ref q_kinds, .ref q_voice, .ref q_thought, .ref q_further, .ref q_errors, .ref q_sheetBits, .ref q_sheetLength, .ref q_numbers])), (q_sheetBits, .inl (c 0, 4, .inl v_sheetBits))] o_r := by
  refine gMI_of (cc := cX11_isMissing) (maxL := 2) (rt := (some .boolean)) (by decide +kernel) rfl (Nat.le_of_ble_eq_true rfl) ?_
  intro p e s m below meth co A hF hK hX hP hD hA hS ls hl
  obtain ⟨hx, hb, hr, hts, hown, hlocks, hml⟩ := id hF
  have hl : lv_has ls 2 [(0, .ref q_this), (1, .int a_1)] := hl
  unfold f_X11_isMissing at h
  refine lv_aload_n hx hb dX11_isMissing_0 rfl (lv_at hl 0 rfl) ?_
  refine va_get (D := D) (ci := 11) (v := .ref q_sheetBits) (C := RX11) (T := TX11) (N := 11) hx hb hts in_X11_isMissing_X11 hown hK.1 hP 0 rfl rfl 8 (by decide) (hts (.fieldLink RX11 67 "PaperBubbles" "sheetBits" "[I") (List.mem_of_getElem? (i := 1) rfl)) (fun _ h9 => h9) rfl dX11_isMissing_1 ?_
  refine lv_iload_n hx hb dX11_isMissing_4 rfl (lv_at hl 1 rfl) ?_
  obtain ⟨hi_1, h⟩ := chi_ok h
  refine va_iald hx hb hK.1 hP 1 0 rfl rfl hi_1 dX11_isMissing_5 ?_
  refine lv_if_ne (tgt := 13) hx hb dX11_isMissing_6 (by decide) (fun c_2 => ?_) (fun c_2 => ?_)
  · have h := it_f c_2 h
    refine lv_iconst (v := 0) hx hb dX11_isMissing_13 (by decide) ?_
    replace h := so1 h
    subst h
    exact gIret hF hP hD hS rfl dX11_isMissing_14
  · have h := it_t c_2 h
    refine lv_iconst (v := 1) hx hb dX11_isMissing_9 (by decide) ?_
    refine lv_goto (tgt := 14) hx hb dX11_isMissing_10 (by decide) ?_
    replace h := so1 h
    subst h
    exact gIret hF hP hD hS rfl dX11_isMissing_14
def f_X11_isSheet (a_0 : Int32) : Option (Int32) :=
  kb (f_X11_within a_0 0 3) fun r_2 =>
  chb r_2 <|
  some r_2

abbrev rm_X11_isSheet : Room := { frames := 1, cells := 0, slots := 0, locals := 22 }
set_option maxHeartbeats 4000000 in
set_option maxRecDepth 100000 in
theorem c_X11_isSheet (l : Launch) (D : va_G) (c : Nat → ClassId) (a_0 : Int32) (o_r : Int32) (h : f_X11_isSheet a_0 = some o_r) : gMI l yX11_isSheet wsX11_isSheet rm_X11_isSheet D c [.int a_0] [] [] o_r := by
  refine gMI_of (cc := cX11_isSheet) (maxL := 1) (rt := (some .boolean)) (by decide +kernel) rfl (Nat.le_of_ble_eq_true rfl) ?_
  intro p e s m below meth co A hF hK hX hP hD hA hS ls hl
  obtain ⟨hx, hb, hr, hts, hown, hlocks, hml⟩ := id hF
  have hl : lv_has ls 1 [(0, .int a_0)] := hl
  unfold f_X11_isSheet at h
  refine lv_iload_n hx hb dX11_isSheet_0 rfl (lv_at hl 0 rfl) ?_
  refine lv_iconst (v := 0) hx hb dX11_isSheet_1 (by decide) ?_
  refine lv_iconst (v := 3) hx hb dX11_isSheet_2 (by decide) ?_
  obtain ⟨r_2, hc_1, h⟩ := kb_ok h
  refine gCallIr (isC := []) (wc := []) hP hD hS hA trivial (va_runS (rm := rm_X11_within) (ws := wsX11_within) (As := [.int a_0, .int 0, .int 3]) (rest := []) (gFix hF) (c_X11_within l D c a_0 0 3 r_2 hc_1 s.heap.size) (va_cwS 3 hts gX11_isSheet_X11_within rfl rfl rfl (by decide +kernel) ⟨Nat.le_of_ble_eq_true rfl, Nat.le_of_ble_eq_true rfl⟩) (gPreS (wc := []) (isC := []) hK hX hS hA hP hD trivial (by decide +kernel)) rfl rfl hl.1 rfl (lv_room (Nat.le_of_ble_eq_true rfl)) dX11_isSheet_3 ⟨Nat.le_of_ble_eq_true rfl, Nat.le_of_ble_eq_true rfl⟩) (fun H locs hP hS => ?_)
  obtain ⟨hz_3, h⟩ := chb_ok h
  replace h := so1 h
  subst h
  exact gIret hF hP hD hS (chb_n hz_3) dX11_isSheet_6
set_option maxRecDepth 20000 in
theorem in_X11_airs_X10 : ∀ w ∈ u_ws RX10 TX10 11, w ∈ wsX11_airs := by decide +kernel
set_option maxRecDepth 20000 in
theorem in_X11_airs_X11 : ∀ w ∈ u_ws RX11 TX11 11, w ∈ wsX11_airs := by decide +kernel
set_option maxRecDepth 20000 in
theorem in_X11_airs_X7 : ∀ w ∈ u_ws RX7 TX7 11, w ∈ wsX11_airs := by decide +kernel
def f_X11_airs_L49 (a_1 : Int32) (v_numbers_el : Nat → Nat → Int32) : Nat → Int32 → Int32 → (Nat → Int32) → (Nat → Int32) → Option (Int32 × (Nat → Int32) × (Nat → Int32))
  | 0, _, _, _, _ => none
  | n + 1, x2, x3, v_errors, v_now_wall_air =>
    if x2 ≤ x3 then
      some (x3, v_errors, v_now_wall_air)
    else
      chi a_1 4 <|
      chi x3 40 <|
      nm ((v_numbers_el a_1.toNatClampNeg) x3.toNatClampNeg : Int32) fun t_21 =>
      kb (f_X11_within t_21 0 99) fun r_23 =>
      if r_23 = 0 then
        some (x3, v_errors, v_now_wall_air)
      else
        chi a_1 4 <|
        chi x3 40 <|
        nm ((v_numbers_el a_1.toNatClampNeg) x3.toNatClampNeg : Int32) fun t_27 =>
        chi x3 25 <|
        nm (upd v_now_wall_air x3.toNatClampNeg t_27) fun w_29 =>
        nm (x3 + 1 : Int32) fun t_30 =>
        f_X11_airs_L49 a_1 v_numbers_el n x2 t_30 v_errors w_29

def f_X11_airs (a_1 : Int32) (v_errors : Nat → Int32) (v_now_wall_rows : Int32) (v_now_wall_columns : Int32) (v_now_wall_air : Nat → Int32) (v_sheetBits : Nat → Int32) (v_sheetLength : Nat → Int32) (v_numbers_el : Nat → Nat → Int32) : Option (Int32 × (Nat → Int32) × (Nat → Int32)) :=
  kb (f_X11_isSheet a_1) fun r_2 =>
  if r_2 = 0 then
    kb2 (f_X11_error 1 v_errors) fun r_16 w_17 =>
    some (r_16, w_17, v_now_wall_air)
  else
    kb (f_X11_isMissing a_1 v_sheetBits) fun r_5 =>
    if r_5 = 0 then
      chi a_1 4 <|
      nm (v_sheetLength a_1.toNatClampNeg : Int32) fun t_8 =>
      kb (f_X10_cells v_now_wall_rows v_now_wall_columns) fun r_10 =>
      nm (if r_10 < t_8 then r_10 else t_8 : Int32) fun t_11 =>
      f_X11_airs_L49 a_1 v_numbers_el gFuel t_11 0 v_errors v_now_wall_air
    else
      kb2 (f_X11_error 2 v_errors) fun r_13 w_14 =>
      some (r_13, w_14, v_now_wall_air)

abbrev rm_X11_airs : Room := { frames := 2, cells := 0, slots := 0, locals := 43 }
set_option maxHeartbeats 4000000 in
set_option maxRecDepth 100000 in
theorem c_X11_airs (l : Launch) (D : va_G) (c : Nat → ClassId) (q_this q_now q_kept q_kinds q_voice q_thought q_further q_errors q_sheetBits q_sheetLength q_numbers q_now_wall q_now_kind q_now_m q_now_tape q_now_moved q_now_seen q_now_told q_now_wall_air q_now_wall_paste q_now_wall_open q_now_wall_met q_now_wall_line : Nat) (na : Nat → Nat) (a_1 : Int32) (v_images : Int32) (v_errors : Nat → Int32) (v_now_tools : Int32) (v_now_tapeLength : Int32) (v_now_z : Int32) (v_now_waiting : Int32) (v_now_wall_rows : Int32) (v_now_wall_columns : Int32) (v_now_wall_holes : Int32) (v_now_wall_out : Int32) (v_now_wall_night : Int32) (v_now_wall_inLine : Int32) (v_now_wall_air : Nat → Int32) (v_sheetBits : Nat → Int32) (v_sheetLength : Nat → Int32) (v_numbers_el : Nat → Nat → Int32) (o_r : Int32) (o_v_errors : Nat → Int32) (o_v_now_wall_air : Nat → Int32) (h : f_X11_airs a_1 v_errors v_now_wall_rows v_now_wall_columns v_now_wall_air v_sheetBits v_sheetLength v_numbers_el = some (o_r, o_v_errors, o_v_now_wall_air)) : gMI l yX11_airs wsX11_airs rm_X11_airs D c [.ref q_this, .int a_1] [(q_this, .inr (11, [.ref q_now, .ref q_kept, .int v_images, .ref q_kinds, .ref q_voice, .ref q_thought, .ref q_further, .ref q_errors, .ref q_sheetBits, .ref q_sheetLength, .ref q_numbers])), (q_errors, .inl (c 0, 6, .inl v_errors)), (q_now, .inr (7, [.ref q_now_wall, .int v_now_tools, .ref q_now_kind, .ref q_now_m, .ref q_now_tape, .int v_now_tapeLength, .ref q_now_moved, .ref q_now_seen, .int v_now_z, .ref q_now_told, .int v_now_waiting])), (q_now_wall, .inr (10, [.int v_now_wall_rows, .int v_now_wall_columns, .ref q_now_wall_air, .ref q_now_wall_paste, .ref q_now_wall_open, .int v_now_wall_holes, .int v_now_wall_out, .int v_now_wall_night, .ref q_now_wall_met, .ref q_now_wall_line, .int v_now_wall_inLine])), (q_now_wall_air, .inl (c 0, 25, .inl v_now_wall_air)), (q_numbers, .inl (c 2, 4, .inr (.inr (.inr (.inr (fun j => some (na j))))))), (q_sheetBits, .inl (c 0, 4, .inl v_sheetBits)), (q_sheetLength, .inl (c 0, 4, .inl v_sheetLength)), (na 0, .inl (c 0, 40, .inl (v_numbers_el 0))), (na 1, .inl (c 0, 40, .inl (v_numbers_el 1))), (na 2, .inl (c 0, 40, .inl (v_numbers_el 2))), (na 3, .inl (c 0, 40, .inl (v_numbers_el 3)))] [(q_this, .inr (11, [.ref q_now, .ref q_kept, .int v_images, .ref q_kinds, .ref q_voice, .ref q_thought, .ref q_further, .ref q_errors, .ref q_sheetBits, .ref q_sheetLength, .ref q_numbers])), (q_errors, .inl (c 0, 6, .inl o_v_errors)), (q_now, .inr (7, [.ref q_now_wall, .int v_now_tools, .ref q_now_kind, .ref q_now_m, .ref q_now_tape, .int v_now_tapeLength, .ref q_now_moved, .ref q_now_seen, .int v_now_z, .ref q_now_told, .int v_now_waiting])), (q_now_wall, .inr (10, [.int v_now_wall_rows, .int v_now_wall_columns, .ref q_now_wall_air, .ref q_now_wall_paste, .ref q_now_wall_open, .int v_now_wall_holes, .int v_now_wall_out, .int v_now_wall_night, .ref q_now_wall_met, .ref q_now_wall_line, .int v_now_wall_inLine])), (q_now_wall_air, .inl (c 0, 25, .inl o_v_now_wall_air)), (q_numbers, .inl (c 2, 4, .inr (.inr (.inr (.inr (fun j => some (na j))))))), (q_sheetBits, .inl (c 0, 4, .inl v_sheetBits)), (q_sheetLength, .inl (c 0, 4, .inl v_sheetLength)), (na 0, .inl (c 0, 40, .inl (v_numbers_el 0))), (na 1, .inl (c 0, 40, .inl (v_numbers_el 1))), (na 2, .inl (c 0, 40, .inl (v_numbers_el 2))), (na 3, .inl (c 0, 40, .inl (v_numbers_el 3)))] o_r := by
  refine gMI_of (cc := cX11_airs) (maxL := 4) (rt := (some .int)) (by decide +kernel) rfl (Nat.le_of_ble_eq_true rfl) ?_
  intro p e s m below meth co A hF hK hX hP hD hA hS ls hl
  obtain ⟨hx, hb, hr, hts, hown, hlocks, hml⟩ := id hF
  have hl : lv_has ls 4 [(0, .ref q_this), (1, .int a_1)] := hl
  have t_L49 : ∀ (n : Nat), ∀ (x2 : Int32) (x3 : Int32) (v_errors : Nat → Int32) (v_now_wall_air : Nat → Int32) (H : Heap) (locs : List Loc), va_P D gcl [(q_this, .inr (11, [.ref q_now, .ref q_kept, .int v_images, .ref q_kinds, .ref q_voice, .ref q_thought, .ref q_further, .ref q_errors, .ref q_sheetBits, .ref q_sheetLength, .ref q_numbers])), (q_errors, .inl (c 0, 6, .inl v_errors)), (q_now, .inr (7, [.ref q_now_wall, .int v_now_tools, .ref q_now_kind, .ref q_now_m, .ref q_now_tape, .int v_now_tapeLength, .ref q_now_moved, .ref q_now_seen, .int v_now_z, .ref q_now_told, .int v_now_waiting])), (q_now_wall, .inr (10, [.int v_now_wall_rows, .int v_now_wall_columns, .ref q_now_wall_air, .ref q_now_wall_paste, .ref q_now_wall_open, .int v_now_wall_holes, .int v_now_wall_out, .int v_now_wall_night, .ref q_now_wall_met, .ref q_now_wall_line, .int v_now_wall_inLine])), (q_now_wall_air, .inl (c 0, 25, .inl v_now_wall_air)), (q_numbers, .inl (c 2, 4, .inr (.inr (.inr (.inr (fun j => some (na j))))))), (q_sheetBits, .inl (c 0, 4, .inl v_sheetBits)), (q_sheetLength, .inl (c 0, 4, .inl v_sheetLength)), (na 0, .inl (c 0, 40, .inl (v_numbers_el 0))), (na 1, .inl (c 0, 40, .inl (v_numbers_el 1))), (na 2, .inl (c 0, 40, .inl (v_numbers_el 2))), (na 3, .inl (c 0, 40, .inl (v_numbers_el 3)))] H → va_D A [(q_this, .inr (11, [.ref q_now, .ref q_kept, .int v_images, .ref q_kinds, .ref q_voice, .ref q_thought, .ref q_further, .ref q_errors, .ref q_sheetBits, .ref q_sheetLength, .ref q_numbers])), (q_errors, .inl (c 0, 6, .inl v_errors)), (q_now, .inr (7, [.ref q_now_wall, .int v_now_tools, .ref q_now_kind, .ref q_now_m, .ref q_now_tape, .int v_now_tapeLength, .ref q_now_moved, .ref q_now_seen, .int v_now_z, .ref q_now_told, .int v_now_waiting])), (q_now_wall, .inr (10, [.int v_now_wall_rows, .int v_now_wall_columns, .ref q_now_wall_air, .ref q_now_wall_paste, .ref q_now_wall_open, .int v_now_wall_holes, .int v_now_wall_out, .int v_now_wall_night, .ref q_now_wall_met, .ref q_now_wall_line, .int v_now_wall_inLine])), (q_now_wall_air, .inl (c 0, 25, .inl v_now_wall_air)), (q_numbers, .inl (c 2, 4, .inr (.inr (.inr (.inr (fun j => some (na j))))))), (q_sheetBits, .inl (c 0, 4, .inl v_sheetBits)), (q_sheetLength, .inl (c 0, 4, .inl v_sheetLength)), (na 0, .inl (c 0, 40, .inl (v_numbers_el 0))), (na 1, .inl (c 0, 40, .inl (v_numbers_el 1))), (na 2, .inl (c 0, 40, .inl (v_numbers_el 2))), (na 3, .inl (c 0, 40, .inl (v_numbers_el 3)))] → va_S A s.heap H locs → ∀ ls, lv_has ls 4 [(0, .ref q_this), (1, .int a_1), (2, .int x2), (3, .int x3)] → f_X11_airs_L49 a_1 v_numbers_el n x2 x3 v_errors v_now_wall_air = some (o_r, o_v_errors, o_v_now_wall_air) → W p l e (headSpec wsX11_airs rm_X11_airs).room s m [.ref q_this, .int a_1].toArray below meth co H locs 0 0 (gQI D [(q_this, .inr (11, [.ref q_now, .ref q_kept, .int v_images, .ref q_kinds, .ref q_voice, .ref q_thought, .ref q_further, .ref q_errors, .ref q_sheetBits, .ref q_sheetLength, .ref q_numbers])), (q_errors, .inl (c 0, 6, .inl o_v_errors)), (q_now, .inr (7, [.ref q_now_wall, .int v_now_tools, .ref q_now_kind, .ref q_now_m, .ref q_now_tape, .int v_now_tapeLength, .ref q_now_moved, .ref q_now_seen, .int v_now_z, .ref q_now_told, .int v_now_waiting])), (q_now_wall, .inr (10, [.int v_now_wall_rows, .int v_now_wall_columns, .ref q_now_wall_air, .ref q_now_wall_paste, .ref q_now_wall_open, .int v_now_wall_holes, .int v_now_wall_out, .int v_now_wall_night, .ref q_now_wall_met, .ref q_now_wall_line, .int v_now_wall_inLine])), (q_now_wall_air, .inl (c 0, 25, .inl o_v_now_wall_air)), (q_numbers, .inl (c 2, 4, .inr (.inr (.inr (.inr (fun j => some (na j))))))), (q_sheetBits, .inl (c 0, 4, .inl v_sheetBits)), (q_sheetLength, .inl (c 0, 4, .inl v_sheetLength)), (na 0, .inl (c 0, 40, .inl (v_numbers_el 0))), (na 1, .inl (c 0, 40, .inl (v_numbers_el 1))), (na 2, .inl (c 0, 40, .inl (v_numbers_el 2))), (na 3, .inl (c 0, 40, .inl (v_numbers_el 3)))] o_r A below [.ref q_this, .int a_1] s) (F0 m 49 ls []) := by
    intro n
    induction n with
    | zero => intro x2 x3 v_errors v_now_wall_air H locs hP hD hS ls hl h; exact no_ok h
    | succ n ih =>
      intro x2 x3 v_errors v_now_wall_air H locs hP hD hS ls hl h
      rw [f_X11_airs_L49] at h
      refine lv_iload_n hx hb dX11_airs_49 rfl (lv_at hl 3 rfl) ?_
      refine lv_iload_n hx hb dX11_airs_50 rfl (lv_at hl 2 rfl) ?_
      refine lv_icmp_ge (tgt := 97) hx hb dX11_airs_51 (by decide) (fun c_18 => ?_) (fun c_18 => ?_)
      · have h := it_t c_18 h
        refine lv_iload_n hx hb dX11_airs_97 rfl (lv_at hl 3 rfl) ?_
        obtain ⟨z0, z1, z2⟩ := so3 h
        subst z0 z1 z2
        exact gIret hF hP hD hS rfl dX11_airs_98
      · have h := it_f c_18 h
        refine lv_aload_n hx hb dX11_airs_54 rfl (lv_at hl 0 rfl) ?_
        refine va_get (D := D) (ci := 11) (v := .ref q_numbers) (C := RX11) (T := TX11) (N := 11) hx hb hts in_X11_airs_X11 hown hK.1 hP 0 rfl rfl 10 (by decide) (hts (.fieldLink RX11 75 "PaperBubbles" "numbers" "[[I") (List.mem_of_getElem? (i := 7) rfl)) (fun _ h9 => h9) rfl dX11_airs_55 ?_
        refine lv_iload_n hx hb dX11_airs_58 rfl (lv_at hl 1 rfl) ?_
        obtain ⟨hi_19, h⟩ := chi_ok h
        refine gAldA hx hb hK.1 hP 5 2 rfl rfl hi_19 dX11_airs_59 ?_
        rcases gIn4 hi_19 with rfl | rfl | rfl | rfl
        · refine lv_iload_n hx hb dX11_airs_60 rfl (lv_at hl 3 rfl) ?_
          obtain ⟨hi_51, h⟩ := chi_ok h
          refine va_iald hx hb hK.1 hP 8 0 rfl rfl hi_51 dX11_airs_61 ?_
          obtain ⟨t_52, et_52, h⟩ := nm_ok h
          refine gTop et_52 ?_
          refine lv_iconst (v := 0) hx hb dX11_airs_62 (by decide) ?_
          refine lv_bipush (v := 99) hx hb dX11_airs_63 (by decide) ?_
          obtain ⟨r_54, hc_53, h⟩ := kb_ok h
          refine gCallIr (isC := []) (wc := []) hP hD hS hA trivial (va_runS (rm := rm_X11_within) (ws := wsX11_within) (As := [.int t_52, .int 0, .int 99]) (rest := []) (gFix hF) (c_X11_within l D c t_52 0 99 r_54 hc_53 H.size) (va_cwS 3 hts gX11_airs_X11_within rfl rfl rfl (by decide +kernel) ⟨Nat.le_of_ble_eq_true rfl, Nat.le_of_ble_eq_true rfl⟩) (gPreS (wc := []) (isC := []) hK hX hS hA hP hD trivial (by decide +kernel)) rfl rfl hl.1 rfl (lv_room (Nat.le_of_ble_eq_true rfl)) dX11_airs_65 ⟨Nat.le_of_ble_eq_true rfl, Nat.le_of_ble_eq_true rfl⟩) (fun H locs hP hS => ?_)
          refine lv_if_eq (tgt := 97) hx hb dX11_airs_68 (by decide) (fun c_55 => ?_) (fun c_55 => ?_)
          · have h := it_t c_55 h
            refine lv_iload_n hx hb dX11_airs_97 rfl (lv_at hl 3 rfl) ?_
            obtain ⟨z0, z1, z2⟩ := so3 h
            subst z0 z1 z2
            exact gIret hF hP hD hS rfl dX11_airs_98
          · have h := it_f c_55 h
            refine lv_aload_n hx hb dX11_airs_71 rfl (lv_at hl 0 rfl) ?_
            refine va_get (D := D) (ci := 11) (v := .ref q_now) (C := RX11) (T := TX11) (N := 11) hx hb hts in_X11_airs_X11 hown hK.1 hP 0 rfl rfl 0 (by decide) (hts (.fieldLink RX11 14 "PaperBubbles" "now" "LPaperBubbles$State;") (List.mem_of_getElem? (i := 2) rfl)) (fun _ h9 => h9) rfl dX11_airs_72 ?_
            refine va_getN (D := D) (ci := 7) (v := .ref q_now_wall) (C := RX7) (T := TX7) (N := 11) hx hb hts in_X11_airs_X7 hown hK.1 hP 2 rfl rfl 0 (by decide) (va_Nw.use rfl (hK.2 (.fieldLinkNest "PaperBubbles" 86 "PaperBubbles$State" "wall" "LPaperBubbles$Wall;" "PaperBubbles") (List.mem_of_getElem? (i := 18) rfl))) (fun _ h9 => h9) rfl dX11_airs_75 ?_
            refine va_getN (D := D) (ci := 10) (v := .ref q_now_wall_air) (C := RX10) (T := TX10) (N := 11) hx hb hts in_X11_airs_X10 hown hK.1 hP 3 rfl rfl 2 (by decide) (va_Nw.use rfl (hK.2 (.fieldLinkNest "PaperBubbles" 101 "PaperBubbles$Wall" "air" "[I" "PaperBubbles") (List.mem_of_getElem? (i := 0) rfl))) (fun _ h9 => h9) rfl dX11_airs_78 ?_
            refine lv_iload_n hx hb dX11_airs_81 rfl (lv_at hl 3 rfl) ?_
            refine lv_aload_n hx hb dX11_airs_82 rfl (lv_at hl 0 rfl) ?_
            refine va_get (D := D) (ci := 11) (v := .ref q_numbers) (C := RX11) (T := TX11) (N := 11) hx hb hts in_X11_airs_X11 hown hK.1 hP 0 rfl rfl 10 (by decide) (hts (.fieldLink RX11 75 "PaperBubbles" "numbers" "[[I") (List.mem_of_getElem? (i := 7) rfl)) (fun _ h9 => h9) rfl dX11_airs_83 ?_
            refine lv_iload_n hx hb dX11_airs_86 rfl (lv_at hl 1 rfl) ?_
            obtain ⟨hi_56, h⟩ := chi_ok h
            refine gAldA hx hb hK.1 hP 5 2 rfl rfl hi_56 dX11_airs_87 ?_
            refine lv_iload_n hx hb dX11_airs_88 rfl (lv_at hl 3 rfl) ?_
            obtain ⟨hi_57, h⟩ := chi_ok h
            refine va_iald hx hb hK.1 hP 8 0 rfl rfl hi_57 dX11_airs_89 ?_
            obtain ⟨t_58, et_58, h⟩ := nm_ok h
            refine gTop et_58 ?_
            obtain ⟨hi_59, h⟩ := chi_ok h
            obtain ⟨w_60, ew_60, h⟩ := nm_ok h
            refine va_iast hx hb hK.1 hP hD hS 4 0 rfl rfl hi_59 dX11_airs_90 (fun H locs hP hD hS => ?_)
            have hP : va_P D gcl [(q_this, .inr (11, [.ref q_now, .ref q_kept, .int v_images, .ref q_kinds, .ref q_voice, .ref q_thought, .ref q_further, .ref q_errors, .ref q_sheetBits, .ref q_sheetLength, .ref q_numbers])), (q_errors, .inl (c 0, 6, .inl v_errors)), (q_now, .inr (7, [.ref q_now_wall, .int v_now_tools, .ref q_now_kind, .ref q_now_m, .ref q_now_tape, .int v_now_tapeLength, .ref q_now_moved, .ref q_now_seen, .int v_now_z, .ref q_now_told, .int v_now_waiting])), (q_now_wall, .inr (10, [.int v_now_wall_rows, .int v_now_wall_columns, .ref q_now_wall_air, .ref q_now_wall_paste, .ref q_now_wall_open, .int v_now_wall_holes, .int v_now_wall_out, .int v_now_wall_night, .ref q_now_wall_met, .ref q_now_wall_line, .int v_now_wall_inLine])), (q_now_wall_air, .inl (c 0, 25, .inl w_60)), (q_numbers, .inl (c 2, 4, .inr (.inr (.inr (.inr (fun j => some (na j))))))), (q_sheetBits, .inl (c 0, 4, .inl v_sheetBits)), (q_sheetLength, .inl (c 0, 4, .inl v_sheetLength)), (na 0, .inl (c 0, 40, .inl (v_numbers_el 0))), (na 1, .inl (c 0, 40, .inl (v_numbers_el 1))), (na 2, .inl (c 0, 40, .inl (v_numbers_el 2))), (na 3, .inl (c 0, 40, .inl (v_numbers_el 3)))] H := by subst ew_60; exact hP
            have hD : va_D A [(q_this, .inr (11, [.ref q_now, .ref q_kept, .int v_images, .ref q_kinds, .ref q_voice, .ref q_thought, .ref q_further, .ref q_errors, .ref q_sheetBits, .ref q_sheetLength, .ref q_numbers])), (q_errors, .inl (c 0, 6, .inl v_errors)), (q_now, .inr (7, [.ref q_now_wall, .int v_now_tools, .ref q_now_kind, .ref q_now_m, .ref q_now_tape, .int v_now_tapeLength, .ref q_now_moved, .ref q_now_seen, .int v_now_z, .ref q_now_told, .int v_now_waiting])), (q_now_wall, .inr (10, [.int v_now_wall_rows, .int v_now_wall_columns, .ref q_now_wall_air, .ref q_now_wall_paste, .ref q_now_wall_open, .int v_now_wall_holes, .int v_now_wall_out, .int v_now_wall_night, .ref q_now_wall_met, .ref q_now_wall_line, .int v_now_wall_inLine])), (q_now_wall_air, .inl (c 0, 25, .inl w_60)), (q_numbers, .inl (c 2, 4, .inr (.inr (.inr (.inr (fun j => some (na j))))))), (q_sheetBits, .inl (c 0, 4, .inl v_sheetBits)), (q_sheetLength, .inl (c 0, 4, .inl v_sheetLength)), (na 0, .inl (c 0, 40, .inl (v_numbers_el 0))), (na 1, .inl (c 0, 40, .inl (v_numbers_el 1))), (na 2, .inl (c 0, 40, .inl (v_numbers_el 2))), (na 3, .inl (c 0, 40, .inl (v_numbers_el 3)))] := by subst ew_60; exact hD
            obtain ⟨t_61, et_61, h⟩ := nm_ok h
            refine lv_iinc (v := t_61) (lv' := [(3, .int t_61), (0, .ref q_this), (1, .int 0), (2, .int x2)]) hx hb dX11_airs_91 hl (k := 3) rfl (by rw [et_61]; rfl) (by decide) rfl (fun ls hl => ?_)
            refine lv_goto (tgt := 49) hx hb dX11_airs_94 (by decide) ?_
            exact ih x2 t_61 v_errors w_60 H locs hP hD hS ls (lv_sub hl [1, 2, 3, 0] rfl) h
        · refine lv_iload_n hx hb dX11_airs_60 rfl (lv_at hl 3 rfl) ?_
          obtain ⟨hi_62, h⟩ := chi_ok h
          refine va_iald hx hb hK.1 hP 9 0 rfl rfl hi_62 dX11_airs_61 ?_
          obtain ⟨t_63, et_63, h⟩ := nm_ok h
          refine gTop et_63 ?_
          refine lv_iconst (v := 0) hx hb dX11_airs_62 (by decide) ?_
          refine lv_bipush (v := 99) hx hb dX11_airs_63 (by decide) ?_
          obtain ⟨r_65, hc_64, h⟩ := kb_ok h
          refine gCallIr (isC := []) (wc := []) hP hD hS hA trivial (va_runS (rm := rm_X11_within) (ws := wsX11_within) (As := [.int t_63, .int 0, .int 99]) (rest := []) (gFix hF) (c_X11_within l D c t_63 0 99 r_65 hc_64 H.size) (va_cwS 3 hts gX11_airs_X11_within rfl rfl rfl (by decide +kernel) ⟨Nat.le_of_ble_eq_true rfl, Nat.le_of_ble_eq_true rfl⟩) (gPreS (wc := []) (isC := []) hK hX hS hA hP hD trivial (by decide +kernel)) rfl rfl hl.1 rfl (lv_room (Nat.le_of_ble_eq_true rfl)) dX11_airs_65 ⟨Nat.le_of_ble_eq_true rfl, Nat.le_of_ble_eq_true rfl⟩) (fun H locs hP hS => ?_)
          refine lv_if_eq (tgt := 97) hx hb dX11_airs_68 (by decide) (fun c_66 => ?_) (fun c_66 => ?_)
          · have h := it_t c_66 h
            refine lv_iload_n hx hb dX11_airs_97 rfl (lv_at hl 3 rfl) ?_
            obtain ⟨z0, z1, z2⟩ := so3 h
            subst z0 z1 z2
            exact gIret hF hP hD hS rfl dX11_airs_98
          · have h := it_f c_66 h
            refine lv_aload_n hx hb dX11_airs_71 rfl (lv_at hl 0 rfl) ?_
            refine va_get (D := D) (ci := 11) (v := .ref q_now) (C := RX11) (T := TX11) (N := 11) hx hb hts in_X11_airs_X11 hown hK.1 hP 0 rfl rfl 0 (by decide) (hts (.fieldLink RX11 14 "PaperBubbles" "now" "LPaperBubbles$State;") (List.mem_of_getElem? (i := 2) rfl)) (fun _ h9 => h9) rfl dX11_airs_72 ?_
            refine va_getN (D := D) (ci := 7) (v := .ref q_now_wall) (C := RX7) (T := TX7) (N := 11) hx hb hts in_X11_airs_X7 hown hK.1 hP 2 rfl rfl 0 (by decide) (va_Nw.use rfl (hK.2 (.fieldLinkNest "PaperBubbles" 86 "PaperBubbles$State" "wall" "LPaperBubbles$Wall;" "PaperBubbles") (List.mem_of_getElem? (i := 18) rfl))) (fun _ h9 => h9) rfl dX11_airs_75 ?_
            refine va_getN (D := D) (ci := 10) (v := .ref q_now_wall_air) (C := RX10) (T := TX10) (N := 11) hx hb hts in_X11_airs_X10 hown hK.1 hP 3 rfl rfl 2 (by decide) (va_Nw.use rfl (hK.2 (.fieldLinkNest "PaperBubbles" 101 "PaperBubbles$Wall" "air" "[I" "PaperBubbles") (List.mem_of_getElem? (i := 0) rfl))) (fun _ h9 => h9) rfl dX11_airs_78 ?_
            refine lv_iload_n hx hb dX11_airs_81 rfl (lv_at hl 3 rfl) ?_
            refine lv_aload_n hx hb dX11_airs_82 rfl (lv_at hl 0 rfl) ?_
            refine va_get (D := D) (ci := 11) (v := .ref q_numbers) (C := RX11) (T := TX11) (N := 11) hx hb hts in_X11_airs_X11 hown hK.1 hP 0 rfl rfl 10 (by decide) (hts (.fieldLink RX11 75 "PaperBubbles" "numbers" "[[I") (List.mem_of_getElem? (i := 7) rfl)) (fun _ h9 => h9) rfl dX11_airs_83 ?_
            refine lv_iload_n hx hb dX11_airs_86 rfl (lv_at hl 1 rfl) ?_
            obtain ⟨hi_67, h⟩ := chi_ok h
            refine gAldA hx hb hK.1 hP 5 2 rfl rfl hi_67 dX11_airs_87 ?_
            refine lv_iload_n hx hb dX11_airs_88 rfl (lv_at hl 3 rfl) ?_
            obtain ⟨hi_68, h⟩ := chi_ok h
            refine va_iald hx hb hK.1 hP 9 0 rfl rfl hi_68 dX11_airs_89 ?_
            obtain ⟨t_69, et_69, h⟩ := nm_ok h
            refine gTop et_69 ?_
            obtain ⟨hi_70, h⟩ := chi_ok h
            obtain ⟨w_71, ew_71, h⟩ := nm_ok h
            refine va_iast hx hb hK.1 hP hD hS 4 0 rfl rfl hi_70 dX11_airs_90 (fun H locs hP hD hS => ?_)
            have hP : va_P D gcl [(q_this, .inr (11, [.ref q_now, .ref q_kept, .int v_images, .ref q_kinds, .ref q_voice, .ref q_thought, .ref q_further, .ref q_errors, .ref q_sheetBits, .ref q_sheetLength, .ref q_numbers])), (q_errors, .inl (c 0, 6, .inl v_errors)), (q_now, .inr (7, [.ref q_now_wall, .int v_now_tools, .ref q_now_kind, .ref q_now_m, .ref q_now_tape, .int v_now_tapeLength, .ref q_now_moved, .ref q_now_seen, .int v_now_z, .ref q_now_told, .int v_now_waiting])), (q_now_wall, .inr (10, [.int v_now_wall_rows, .int v_now_wall_columns, .ref q_now_wall_air, .ref q_now_wall_paste, .ref q_now_wall_open, .int v_now_wall_holes, .int v_now_wall_out, .int v_now_wall_night, .ref q_now_wall_met, .ref q_now_wall_line, .int v_now_wall_inLine])), (q_now_wall_air, .inl (c 0, 25, .inl w_71)), (q_numbers, .inl (c 2, 4, .inr (.inr (.inr (.inr (fun j => some (na j))))))), (q_sheetBits, .inl (c 0, 4, .inl v_sheetBits)), (q_sheetLength, .inl (c 0, 4, .inl v_sheetLength)), (na 0, .inl (c 0, 40, .inl (v_numbers_el 0))), (na 1, .inl (c 0, 40, .inl (v_numbers_el 1))), (na 2, .inl (c 0, 40, .inl (v_numbers_el 2))), (na 3, .inl (c 0, 40, .inl (v_numbers_el 3)))] H := by subst ew_71; exact hP
            have hD : va_D A [(q_this, .inr (11, [.ref q_now, .ref q_kept, .int v_images, .ref q_kinds, .ref q_voice, .ref q_thought, .ref q_further, .ref q_errors, .ref q_sheetBits, .ref q_sheetLength, .ref q_numbers])), (q_errors, .inl (c 0, 6, .inl v_errors)), (q_now, .inr (7, [.ref q_now_wall, .int v_now_tools, .ref q_now_kind, .ref q_now_m, .ref q_now_tape, .int v_now_tapeLength, .ref q_now_moved, .ref q_now_seen, .int v_now_z, .ref q_now_told, .int v_now_waiting])), (q_now_wall, .inr (10, [.int v_now_wall_rows, .int v_now_wall_columns, .ref q_now_wall_air, .ref q_now_wall_paste, .ref q_now_wall_open, .int v_now_wall_holes, .int v_now_wall_out, .int v_now_wall_night, .ref q_now_wall_met, .ref q_now_wall_line, .int v_now_wall_inLine])), (q_now_wall_air, .inl (c 0, 25, .inl w_71)), (q_numbers, .inl (c 2, 4, .inr (.inr (.inr (.inr (fun j => some (na j))))))), (q_sheetBits, .inl (c 0, 4, .inl v_sheetBits)), (q_sheetLength, .inl (c 0, 4, .inl v_sheetLength)), (na 0, .inl (c 0, 40, .inl (v_numbers_el 0))), (na 1, .inl (c 0, 40, .inl (v_numbers_el 1))), (na 2, .inl (c 0, 40, .inl (v_numbers_el 2))), (na 3, .inl (c 0, 40, .inl (v_numbers_el 3)))] := by subst ew_71; exact hD
            obtain ⟨t_72, et_72, h⟩ := nm_ok h
            refine lv_iinc (v := t_72) (lv' := [(3, .int t_72), (0, .ref q_this), (1, .int 1), (2, .int x2)]) hx hb dX11_airs_91 hl (k := 3) rfl (by rw [et_72]; rfl) (by decide) rfl (fun ls hl => ?_)
            refine lv_goto (tgt := 49) hx hb dX11_airs_94 (by decide) ?_
            exact ih x2 t_72 v_errors w_71 H locs hP hD hS ls (lv_sub hl [1, 2, 3, 0] rfl) h
        · refine lv_iload_n hx hb dX11_airs_60 rfl (lv_at hl 3 rfl) ?_
          obtain ⟨hi_73, h⟩ := chi_ok h
          refine va_iald hx hb hK.1 hP 10 0 rfl rfl hi_73 dX11_airs_61 ?_
          obtain ⟨t_74, et_74, h⟩ := nm_ok h
          refine gTop et_74 ?_
          refine lv_iconst (v := 0) hx hb dX11_airs_62 (by decide) ?_
          refine lv_bipush (v := 99) hx hb dX11_airs_63 (by decide) ?_
          obtain ⟨r_76, hc_75, h⟩ := kb_ok h
          refine gCallIr (isC := []) (wc := []) hP hD hS hA trivial (va_runS (rm := rm_X11_within) (ws := wsX11_within) (As := [.int t_74, .int 0, .int 99]) (rest := []) (gFix hF) (c_X11_within l D c t_74 0 99 r_76 hc_75 H.size) (va_cwS 3 hts gX11_airs_X11_within rfl rfl rfl (by decide +kernel) ⟨Nat.le_of_ble_eq_true rfl, Nat.le_of_ble_eq_true rfl⟩) (gPreS (wc := []) (isC := []) hK hX hS hA hP hD trivial (by decide +kernel)) rfl rfl hl.1 rfl (lv_room (Nat.le_of_ble_eq_true rfl)) dX11_airs_65 ⟨Nat.le_of_ble_eq_true rfl, Nat.le_of_ble_eq_true rfl⟩) (fun H locs hP hS => ?_)
          refine lv_if_eq (tgt := 97) hx hb dX11_airs_68 (by decide) (fun c_77 => ?_) (fun c_77 => ?_)
          · have h := it_t c_77 h
            refine lv_iload_n hx hb dX11_airs_97 rfl (lv_at hl 3 rfl) ?_
            obtain ⟨z0, z1, z2⟩ := so3 h
            subst z0 z1 z2
            exact gIret hF hP hD hS rfl dX11_airs_98
          · have h := it_f c_77 h
            refine lv_aload_n hx hb dX11_airs_71 rfl (lv_at hl 0 rfl) ?_
            refine va_get (D := D) (ci := 11) (v := .ref q_now) (C := RX11) (T := TX11) (N := 11) hx hb hts in_X11_airs_X11 hown hK.1 hP 0 rfl rfl 0 (by decide) (hts (.fieldLink RX11 14 "PaperBubbles" "now" "LPaperBubbles$State;") (List.mem_of_getElem? (i := 2) rfl)) (fun _ h9 => h9) rfl dX11_airs_72 ?_
            refine va_getN (D := D) (ci := 7) (v := .ref q_now_wall) (C := RX7) (T := TX7) (N := 11) hx hb hts in_X11_airs_X7 hown hK.1 hP 2 rfl rfl 0 (by decide) (va_Nw.use rfl (hK.2 (.fieldLinkNest "PaperBubbles" 86 "PaperBubbles$State" "wall" "LPaperBubbles$Wall;" "PaperBubbles") (List.mem_of_getElem? (i := 18) rfl))) (fun _ h9 => h9) rfl dX11_airs_75 ?_
            refine va_getN (D := D) (ci := 10) (v := .ref q_now_wall_air) (C := RX10) (T := TX10) (N := 11) hx hb hts in_X11_airs_X10 hown hK.1 hP 3 rfl rfl 2 (by decide) (va_Nw.use rfl (hK.2 (.fieldLinkNest "PaperBubbles" 101 "PaperBubbles$Wall" "air" "[I" "PaperBubbles") (List.mem_of_getElem? (i := 0) rfl))) (fun _ h9 => h9) rfl dX11_airs_78 ?_
            refine lv_iload_n hx hb dX11_airs_81 rfl (lv_at hl 3 rfl) ?_
            refine lv_aload_n hx hb dX11_airs_82 rfl (lv_at hl 0 rfl) ?_
            refine va_get (D := D) (ci := 11) (v := .ref q_numbers) (C := RX11) (T := TX11) (N := 11) hx hb hts in_X11_airs_X11 hown hK.1 hP 0 rfl rfl 10 (by decide) (hts (.fieldLink RX11 75 "PaperBubbles" "numbers" "[[I") (List.mem_of_getElem? (i := 7) rfl)) (fun _ h9 => h9) rfl dX11_airs_83 ?_
            refine lv_iload_n hx hb dX11_airs_86 rfl (lv_at hl 1 rfl) ?_
            obtain ⟨hi_78, h⟩ := chi_ok h
            refine gAldA hx hb hK.1 hP 5 2 rfl rfl hi_78 dX11_airs_87 ?_
            refine lv_iload_n hx hb dX11_airs_88 rfl (lv_at hl 3 rfl) ?_
            obtain ⟨hi_79, h⟩ := chi_ok h
            refine va_iald hx hb hK.1 hP 10 0 rfl rfl hi_79 dX11_airs_89 ?_
            obtain ⟨t_80, et_80, h⟩ := nm_ok h
            refine gTop et_80 ?_
            obtain ⟨hi_81, h⟩ := chi_ok h
            obtain ⟨w_82, ew_82, h⟩ := nm_ok h
            refine va_iast hx hb hK.1 hP hD hS 4 0 rfl rfl hi_81 dX11_airs_90 (fun H locs hP hD hS => ?_)
            have hP : va_P D gcl [(q_this, .inr (11, [.ref q_now, .ref q_kept, .int v_images, .ref q_kinds, .ref q_voice, .ref q_thought, .ref q_further, .ref q_errors, .ref q_sheetBits, .ref q_sheetLength, .ref q_numbers])), (q_errors, .inl (c 0, 6, .inl v_errors)), (q_now, .inr (7, [.ref q_now_wall, .int v_now_tools, .ref q_now_kind, .ref q_now_m, .ref q_now_tape, .int v_now_tapeLength, .ref q_now_moved, .ref q_now_seen, .int v_now_z, .ref q_now_told, .int v_now_waiting])), (q_now_wall, .inr (10, [.int v_now_wall_rows, .int v_now_wall_columns, .ref q_now_wall_air, .ref q_now_wall_paste, .ref q_now_wall_open, .int v_now_wall_holes, .int v_now_wall_out, .int v_now_wall_night, .ref q_now_wall_met, .ref q_now_wall_line, .int v_now_wall_inLine])), (q_now_wall_air, .inl (c 0, 25, .inl w_82)), (q_numbers, .inl (c 2, 4, .inr (.inr (.inr (.inr (fun j => some (na j))))))), (q_sheetBits, .inl (c 0, 4, .inl v_sheetBits)), (q_sheetLength, .inl (c 0, 4, .inl v_sheetLength)), (na 0, .inl (c 0, 40, .inl (v_numbers_el 0))), (na 1, .inl (c 0, 40, .inl (v_numbers_el 1))), (na 2, .inl (c 0, 40, .inl (v_numbers_el 2))), (na 3, .inl (c 0, 40, .inl (v_numbers_el 3)))] H := by subst ew_82; exact hP
            have hD : va_D A [(q_this, .inr (11, [.ref q_now, .ref q_kept, .int v_images, .ref q_kinds, .ref q_voice, .ref q_thought, .ref q_further, .ref q_errors, .ref q_sheetBits, .ref q_sheetLength, .ref q_numbers])), (q_errors, .inl (c 0, 6, .inl v_errors)), (q_now, .inr (7, [.ref q_now_wall, .int v_now_tools, .ref q_now_kind, .ref q_now_m, .ref q_now_tape, .int v_now_tapeLength, .ref q_now_moved, .ref q_now_seen, .int v_now_z, .ref q_now_told, .int v_now_waiting])), (q_now_wall, .inr (10, [.int v_now_wall_rows, .int v_now_wall_columns, .ref q_now_wall_air, .ref q_now_wall_paste, .ref q_now_wall_open, .int v_now_wall_holes, .int v_now_wall_out, .int v_now_wall_night, .ref q_now_wall_met, .ref q_now_wall_line, .int v_now_wall_inLine])), (q_now_wall_air, .inl (c 0, 25, .inl w_82)), (q_numbers, .inl (c 2, 4, .inr (.inr (.inr (.inr (fun j => some (na j))))))), (q_sheetBits, .inl (c 0, 4, .inl v_sheetBits)), (q_sheetLength, .inl (c 0, 4, .inl v_sheetLength)), (na 0, .inl (c 0, 40, .inl (v_numbers_el 0))), (na 1, .inl (c 0, 40, .inl (v_numbers_el 1))), (na 2, .inl (c 0, 40, .inl (v_numbers_el 2))), (na 3, .inl (c 0, 40, .inl (v_numbers_el 3)))] := by subst ew_82; exact hD
            obtain ⟨t_83, et_83, h⟩ := nm_ok h
            refine lv_iinc (v := t_83) (lv' := [(3, .int t_83), (0, .ref q_this), (1, .int 2), (2, .int x2)]) hx hb dX11_airs_91 hl (k := 3) rfl (by rw [et_83]; rfl) (by decide) rfl (fun ls hl => ?_)
            refine lv_goto (tgt := 49) hx hb dX11_airs_94 (by decide) ?_
            exact ih x2 t_83 v_errors w_82 H locs hP hD hS ls (lv_sub hl [1, 2, 3, 0] rfl) h
        · refine lv_iload_n hx hb dX11_airs_60 rfl (lv_at hl 3 rfl) ?_
          obtain ⟨hi_84, h⟩ := chi_ok h
          refine va_iald hx hb hK.1 hP 11 0 rfl rfl hi_84 dX11_airs_61 ?_
          obtain ⟨t_85, et_85, h⟩ := nm_ok h
          refine gTop et_85 ?_
          refine lv_iconst (v := 0) hx hb dX11_airs_62 (by decide) ?_
          refine lv_bipush (v := 99) hx hb dX11_airs_63 (by decide) ?_
          obtain ⟨r_87, hc_86, h⟩ := kb_ok h
          refine gCallIr (isC := []) (wc := []) hP hD hS hA trivial (va_runS (rm := rm_X11_within) (ws := wsX11_within) (As := [.int t_85, .int 0, .int 99]) (rest := []) (gFix hF) (c_X11_within l D c t_85 0 99 r_87 hc_86 H.size) (va_cwS 3 hts gX11_airs_X11_within rfl rfl rfl (by decide +kernel) ⟨Nat.le_of_ble_eq_true rfl, Nat.le_of_ble_eq_true rfl⟩) (gPreS (wc := []) (isC := []) hK hX hS hA hP hD trivial (by decide +kernel)) rfl rfl hl.1 rfl (lv_room (Nat.le_of_ble_eq_true rfl)) dX11_airs_65 ⟨Nat.le_of_ble_eq_true rfl, Nat.le_of_ble_eq_true rfl⟩) (fun H locs hP hS => ?_)
          refine lv_if_eq (tgt := 97) hx hb dX11_airs_68 (by decide) (fun c_88 => ?_) (fun c_88 => ?_)
          · have h := it_t c_88 h
            refine lv_iload_n hx hb dX11_airs_97 rfl (lv_at hl 3 rfl) ?_
            obtain ⟨z0, z1, z2⟩ := so3 h
            subst z0 z1 z2
            exact gIret hF hP hD hS rfl dX11_airs_98
          · have h := it_f c_88 h
            refine lv_aload_n hx hb dX11_airs_71 rfl (lv_at hl 0 rfl) ?_
            refine va_get (D := D) (ci := 11) (v := .ref q_now) (C := RX11) (T := TX11) (N := 11) hx hb hts in_X11_airs_X11 hown hK.1 hP 0 rfl rfl 0 (by decide) (hts (.fieldLink RX11 14 "PaperBubbles" "now" "LPaperBubbles$State;") (List.mem_of_getElem? (i := 2) rfl)) (fun _ h9 => h9) rfl dX11_airs_72 ?_
            refine va_getN (D := D) (ci := 7) (v := .ref q_now_wall) (C := RX7) (T := TX7) (N := 11) hx hb hts in_X11_airs_X7 hown hK.1 hP 2 rfl rfl 0 (by decide) (va_Nw.use rfl (hK.2 (.fieldLinkNest "PaperBubbles" 86 "PaperBubbles$State" "wall" "LPaperBubbles$Wall;" "PaperBubbles") (List.mem_of_getElem? (i := 18) rfl))) (fun _ h9 => h9) rfl dX11_airs_75 ?_
            refine va_getN (D := D) (ci := 10) (v := .ref q_now_wall_air) (C := RX10) (T := TX10) (N := 11) hx hb hts in_X11_airs_X10 hown hK.1 hP 3 rfl rfl 2 (by decide) (va_Nw.use rfl (hK.2 (.fieldLinkNest "PaperBubbles" 101 "PaperBubbles$Wall" "air" "[I" "PaperBubbles") (List.mem_of_getElem? (i := 0) rfl))) (fun _ h9 => h9) rfl dX11_airs_78 ?_
            refine lv_iload_n hx hb dX11_airs_81 rfl (lv_at hl 3 rfl) ?_
            refine lv_aload_n hx hb dX11_airs_82 rfl (lv_at hl 0 rfl) ?_
            refine va_get (D := D) (ci := 11) (v := .ref q_numbers) (C := RX11) (T := TX11) (N := 11) hx hb hts in_X11_airs_X11 hown hK.1 hP 0 rfl rfl 10 (by decide) (hts (.fieldLink RX11 75 "PaperBubbles" "numbers" "[[I") (List.mem_of_getElem? (i := 7) rfl)) (fun _ h9 => h9) rfl dX11_airs_83 ?_
            refine lv_iload_n hx hb dX11_airs_86 rfl (lv_at hl 1 rfl) ?_
            obtain ⟨hi_89, h⟩ := chi_ok h
            refine gAldA hx hb hK.1 hP 5 2 rfl rfl hi_89 dX11_airs_87 ?_
            refine lv_iload_n hx hb dX11_airs_88 rfl (lv_at hl 3 rfl) ?_
            obtain ⟨hi_90, h⟩ := chi_ok h
            refine va_iald hx hb hK.1 hP 11 0 rfl rfl hi_90 dX11_airs_89 ?_
            obtain ⟨t_91, et_91, h⟩ := nm_ok h
            refine gTop et_91 ?_
            obtain ⟨hi_92, h⟩ := chi_ok h
            obtain ⟨w_93, ew_93, h⟩ := nm_ok h
            refine va_iast hx hb hK.1 hP hD hS 4 0 rfl rfl hi_92 dX11_airs_90 (fun H locs hP hD hS => ?_)
            have hP : va_P D gcl [(q_this, .inr (11, [.ref q_now, .ref q_kept, .int v_images, .ref q_kinds, .ref q_voice, .ref q_thought, .ref q_further, .ref q_errors, .ref q_sheetBits, .ref q_sheetLength, .ref q_numbers])), (q_errors, .inl (c 0, 6, .inl v_errors)), (q_now, .inr (7, [.ref q_now_wall, .int v_now_tools, .ref q_now_kind, .ref q_now_m, .ref q_now_tape, .int v_now_tapeLength, .ref q_now_moved, .ref q_now_seen, .int v_now_z, .ref q_now_told, .int v_now_waiting])), (q_now_wall, .inr (10, [.int v_now_wall_rows, .int v_now_wall_columns, .ref q_now_wall_air, .ref q_now_wall_paste, .ref q_now_wall_open, .int v_now_wall_holes, .int v_now_wall_out, .int v_now_wall_night, .ref q_now_wall_met, .ref q_now_wall_line, .int v_now_wall_inLine])), (q_now_wall_air, .inl (c 0, 25, .inl w_93)), (q_numbers, .inl (c 2, 4, .inr (.inr (.inr (.inr (fun j => some (na j))))))), (q_sheetBits, .inl (c 0, 4, .inl v_sheetBits)), (q_sheetLength, .inl (c 0, 4, .inl v_sheetLength)), (na 0, .inl (c 0, 40, .inl (v_numbers_el 0))), (na 1, .inl (c 0, 40, .inl (v_numbers_el 1))), (na 2, .inl (c 0, 40, .inl (v_numbers_el 2))), (na 3, .inl (c 0, 40, .inl (v_numbers_el 3)))] H := by subst ew_93; exact hP
            have hD : va_D A [(q_this, .inr (11, [.ref q_now, .ref q_kept, .int v_images, .ref q_kinds, .ref q_voice, .ref q_thought, .ref q_further, .ref q_errors, .ref q_sheetBits, .ref q_sheetLength, .ref q_numbers])), (q_errors, .inl (c 0, 6, .inl v_errors)), (q_now, .inr (7, [.ref q_now_wall, .int v_now_tools, .ref q_now_kind, .ref q_now_m, .ref q_now_tape, .int v_now_tapeLength, .ref q_now_moved, .ref q_now_seen, .int v_now_z, .ref q_now_told, .int v_now_waiting])), (q_now_wall, .inr (10, [.int v_now_wall_rows, .int v_now_wall_columns, .ref q_now_wall_air, .ref q_now_wall_paste, .ref q_now_wall_open, .int v_now_wall_holes, .int v_now_wall_out, .int v_now_wall_night, .ref q_now_wall_met, .ref q_now_wall_line, .int v_now_wall_inLine])), (q_now_wall_air, .inl (c 0, 25, .inl w_93)), (q_numbers, .inl (c 2, 4, .inr (.inr (.inr (.inr (fun j => some (na j))))))), (q_sheetBits, .inl (c 0, 4, .inl v_sheetBits)), (q_sheetLength, .inl (c 0, 4, .inl v_sheetLength)), (na 0, .inl (c 0, 40, .inl (v_numbers_el 0))), (na 1, .inl (c 0, 40, .inl (v_numbers_el 1))), (na 2, .inl (c 0, 40, .inl (v_numbers_el 2))), (na 3, .inl (c 0, 40, .inl (v_numbers_el 3)))] := by subst ew_93; exact hD
            obtain ⟨t_94, et_94, h⟩ := nm_ok h
            refine lv_iinc (v := t_94) (lv' := [(3, .int t_94), (0, .ref q_this), (1, .int 3), (2, .int x2)]) hx hb dX11_airs_91 hl (k := 3) rfl (by rw [et_94]; rfl) (by decide) rfl (fun ls hl => ?_)
            refine lv_goto (tgt := 49) hx hb dX11_airs_94 (by decide) ?_
            exact ih x2 t_94 v_errors w_93 H locs hP hD hS ls (lv_sub hl [1, 2, 3, 0] rfl) h
  unfold f_X11_airs at h
  refine lv_iload_n hx hb dX11_airs_0 rfl (lv_at hl 1 rfl) ?_
  obtain ⟨r_2, hc_1, h⟩ := kb_ok h
  refine gCallIr (isC := []) (wc := []) hP hD hS hA trivial (va_runS (rm := rm_X11_isSheet) (ws := wsX11_isSheet) (As := [.int a_1]) (rest := []) (gFix hF) (c_X11_isSheet l D c a_1 r_2 hc_1 s.heap.size) (va_cwS 1 hts gX11_airs_X11_isSheet rfl rfl rfl (by decide +kernel) ⟨Nat.le_of_ble_eq_true rfl, Nat.le_of_ble_eq_true rfl⟩) (gPreS (wc := []) (isC := []) hK hX hS hA hP hD trivial (by decide +kernel)) rfl rfl hl.1 rfl (lv_room (Nat.le_of_ble_eq_true rfl)) dX11_airs_1 ⟨Nat.le_of_ble_eq_true rfl, Nat.le_of_ble_eq_true rfl⟩) (fun H locs hP hS => ?_)
  refine lv_if_ne (tgt := 13) hx hb dX11_airs_4 (by decide) (fun c_3 => ?_) (fun c_3 => ?_)
  · have h := it_f c_3 h
    refine lv_aload_n hx hb dX11_airs_13 rfl (lv_at hl 0 rfl) ?_
    refine lv_iload_n hx hb dX11_airs_14 rfl (lv_at hl 1 rfl) ?_
    obtain ⟨r_5, hc_4, h⟩ := kb_ok h
    refine gCallIr (isC := [0, 6]) (wc := [(q_this, .inr (11, [.ref q_now, .ref q_kept, .int v_images, .ref q_kinds, .ref q_voice, .ref q_thought, .ref q_further, .ref q_errors, .ref q_sheetBits, .ref q_sheetLength, .ref q_numbers])), (q_sheetBits, .inl (c 0, 4, .inl v_sheetBits))]) hP hD hS hA ⟨rfl, rfl, trivial⟩ (va_runV (rm := rm_X11_isMissing) (ws := wsX11_isMissing) (As := [.int a_1]) (rest := []) (gFix hF) (c_X11_isMissing l D c q_this q_now q_kept q_kinds q_voice q_thought q_further q_errors q_sheetBits q_sheetLength q_numbers a_1 v_images v_sheetBits r_5 hc_4 H.size) (cwV 1 hts gX11_airs_X11_isMissing rfl rfl rfl (by decide +kernel) ⟨Nat.le_of_ble_eq_true rfl, Nat.le_of_ble_eq_true rfl⟩) (gPreV (wc := [(q_this, .inr (11, [.ref q_now, .ref q_kept, .int v_images, .ref q_kinds, .ref q_voice, .ref q_thought, .ref q_further, .ref q_errors, .ref q_sheetBits, .ref q_sheetLength, .ref q_numbers])), (q_sheetBits, .inl (c 0, 4, .inl v_sheetBits))]) (q := (RX11, TX11, 11)) (ci := 11) (q0 := 0) (isC := [0, 6]) hK hX hS hA hP hD ⟨rfl, rfl, trivial⟩ (by decide +kernel) rfl rfl) rfl rfl hl.1 rfl (lv_room (Nat.le_of_ble_eq_true rfl)) dX11_airs_15 ⟨Nat.le_of_ble_eq_true rfl, Nat.le_of_ble_eq_true rfl⟩) (fun H locs hP hS => ?_)
    refine lv_if_eq (tgt := 27) hx hb dX11_airs_18 (by decide) (fun c_6 => ?_) (fun c_6 => ?_)
    · have h := it_t c_6 h
      refine lv_aload_n hx hb dX11_airs_27 rfl (lv_at hl 0 rfl) ?_
      refine va_get (D := D) (ci := 11) (v := .ref q_sheetLength) (C := RX11) (T := TX11) (N := 11) hx hb hts in_X11_airs_X11 hown hK.1 hP 0 rfl rfl 9 (by decide) (hts (.fieldLink RX11 70 "PaperBubbles" "sheetLength" "[I") (List.mem_of_getElem? (i := 1) rfl)) (fun _ h9 => h9) rfl dX11_airs_28 ?_
      refine lv_iload_n hx hb dX11_airs_31 rfl (lv_at hl 1 rfl) ?_
      obtain ⟨hi_7, h⟩ := chi_ok h
      refine va_iald hx hb hK.1 hP 7 0 rfl rfl hi_7 dX11_airs_32 ?_
      obtain ⟨t_8, et_8, h⟩ := nm_ok h
      refine gTop et_8 ?_
      refine lv_aload_n hx hb dX11_airs_33 rfl (lv_at hl 0 rfl) ?_
      refine va_get (D := D) (ci := 11) (v := .ref q_now) (C := RX11) (T := TX11) (N := 11) hx hb hts in_X11_airs_X11 hown hK.1 hP 0 rfl rfl 0 (by decide) (hts (.fieldLink RX11 14 "PaperBubbles" "now" "LPaperBubbles$State;") (List.mem_of_getElem? (i := 2) rfl)) (fun _ h9 => h9) rfl dX11_airs_34 ?_
      refine va_getN (D := D) (ci := 7) (v := .ref q_now_wall) (C := RX7) (T := TX7) (N := 11) hx hb hts in_X11_airs_X7 hown hK.1 hP 2 rfl rfl 0 (by decide) (va_Nw.use rfl (hK.2 (.fieldLinkNest "PaperBubbles" 86 "PaperBubbles$State" "wall" "LPaperBubbles$Wall;" "PaperBubbles") (List.mem_of_getElem? (i := 18) rfl))) (fun _ h9 => h9) rfl dX11_airs_37 ?_
      obtain ⟨r_10, hc_9, h⟩ := kb_ok h
      refine gCallIr (isC := [3]) (wc := [(q_now_wall, .inr (10, [.int v_now_wall_rows, .int v_now_wall_columns, .ref q_now_wall_air, .ref q_now_wall_paste, .ref q_now_wall_open, .int v_now_wall_holes, .int v_now_wall_out, .int v_now_wall_night, .ref q_now_wall_met, .ref q_now_wall_line, .int v_now_wall_inLine]))]) hP hD hS hA ⟨rfl, trivial⟩ (va_runV (rm := rm_X10_cells) (ws := wsX10_cells) (As := []) (rest := [.int t_8]) (gFix hF) (c_X10_cells l D c q_now_wall q_now_wall_air q_now_wall_paste q_now_wall_open q_now_wall_met q_now_wall_line v_now_wall_rows v_now_wall_columns v_now_wall_holes v_now_wall_out v_now_wall_night v_now_wall_inLine r_10 hc_9 H.size) (cwV 0 hts gX11_airs_X10_cells rfl rfl rfl (by decide +kernel) ⟨Nat.le_of_ble_eq_true rfl, Nat.le_of_ble_eq_true rfl⟩) (gPreV (wc := [(q_now_wall, .inr (10, [.int v_now_wall_rows, .int v_now_wall_columns, .ref q_now_wall_air, .ref q_now_wall_paste, .ref q_now_wall_open, .int v_now_wall_holes, .int v_now_wall_out, .int v_now_wall_night, .ref q_now_wall_met, .ref q_now_wall_line, .int v_now_wall_inLine]))]) (q := (RX10, TX10, 11)) (ci := 10) (q0 := 3) (isC := [3]) hK hX hS hA hP hD ⟨rfl, trivial⟩ (by decide +kernel) rfl rfl) rfl rfl hl.1 rfl (lv_room (Nat.le_of_ble_eq_true rfl)) dX11_airs_40 ⟨Nat.le_of_ble_eq_true rfl, Nat.le_of_ble_eq_true rfl⟩) (fun H locs hP hS => ?_)
      refine va_mmin hx hb (by rw [hml]; exact hl.1.symm) hown (hts (.methodLink RX11 158 Lib.Math.min.name) (List.mem_of_getElem? (i := 3) rfl)) (hts (.static Lib.Math.min.name) (List.mem_of_getElem? (i := 4) rfl)) (hts (.initialized "java/lang/Math") (List.mem_of_getElem? (i := 5) rfl)) (hts (.code Lib.Math.min.name Lib.Math.min.code 2 (some .int)) (List.mem_of_getElem? (i := 6) rfl)) (Nat.le_of_ble_eq_true rfl) (by first | exact Nat.le_of_ble_eq_true rfl | decide) (Nat.le_of_ble_eq_true rfl) (Nat.le_of_ble_eq_true rfl) dX11_airs_43 ?_
      obtain ⟨t_11, et_11, h⟩ := nm_ok h
      refine gTop et_11 ?_
      refine lv_istore_n (lv' := [(2, .int t_11), (0, .ref q_this), (1, .int a_1)]) hx hb dX11_airs_46 rfl hl (by decide) rfl (fun ls hl => ?_)
      refine lv_iconst (v := 0) hx hb dX11_airs_47 (by decide) ?_
      refine lv_istore_n (lv' := [(3, .int 0), (2, .int t_11), (0, .ref q_this), (1, .int a_1)]) hx hb dX11_airs_48 rfl hl (by decide) rfl (fun ls hl => ?_)
      exact t_L49 gFuel t_11 0 v_errors v_now_wall_air H locs hP hD hS ls (lv_sub hl [2, 3, 1, 0] rfl) h
    · have h := it_f c_6 h
      refine lv_aload_n hx hb dX11_airs_21 rfl (lv_at hl 0 rfl) ?_
      refine lv_iconst (v := 2) hx hb dX11_airs_22 (by decide) ?_
      obtain ⟨r_13, w_14, hc_12, h⟩ := kb2_ok h
      refine gCallI (isC := [0, 1]) (wc := [(q_this, .inr (11, [.ref q_now, .ref q_kept, .int v_images, .ref q_kinds, .ref q_voice, .ref q_thought, .ref q_further, .ref q_errors, .ref q_sheetBits, .ref q_sheetLength, .ref q_numbers])), (q_errors, .inl (c 0, 6, .inl v_errors))]) (w1 := [(q_this, .inr (11, [.ref q_now, .ref q_kept, .int v_images, .ref q_kinds, .ref q_voice, .ref q_thought, .ref q_further, .ref q_errors, .ref q_sheetBits, .ref q_sheetLength, .ref q_numbers])), (q_errors, .inl (c 0, 6, .inl w_14))]) (ws2 := [(q_this, .inr (11, [.ref q_now, .ref q_kept, .int v_images, .ref q_kinds, .ref q_voice, .ref q_thought, .ref q_further, .ref q_errors, .ref q_sheetBits, .ref q_sheetLength, .ref q_numbers])), (q_errors, .inl (c 0, 6, .inl w_14)), (q_now, .inr (7, [.ref q_now_wall, .int v_now_tools, .ref q_now_kind, .ref q_now_m, .ref q_now_tape, .int v_now_tapeLength, .ref q_now_moved, .ref q_now_seen, .int v_now_z, .ref q_now_told, .int v_now_waiting])), (q_now_wall, .inr (10, [.int v_now_wall_rows, .int v_now_wall_columns, .ref q_now_wall_air, .ref q_now_wall_paste, .ref q_now_wall_open, .int v_now_wall_holes, .int v_now_wall_out, .int v_now_wall_night, .ref q_now_wall_met, .ref q_now_wall_line, .int v_now_wall_inLine])), (q_now_wall_air, .inl (c 0, 25, .inl v_now_wall_air)), (q_numbers, .inl (c 2, 4, .inr (.inr (.inr (.inr (fun j => some (na j))))))), (q_sheetBits, .inl (c 0, 4, .inl v_sheetBits)), (q_sheetLength, .inl (c 0, 4, .inl v_sheetLength)), (na 0, .inl (c 0, 40, .inl (v_numbers_el 0))), (na 1, .inl (c 0, 40, .inl (v_numbers_el 1))), (na 2, .inl (c 0, 40, .inl (v_numbers_el 2))), (na 3, .inl (c 0, 40, .inl (v_numbers_el 3)))]) (ms := [(some 0), (some 1), none, none, none, none, none, none, none, none, none, none]) hP hD hS hA ⟨rfl, rfl, trivial⟩ (by decide +kernel) ⟨rfl, rfl, rfl, rfl, rfl, rfl, rfl, rfl, rfl, rfl, rfl, rfl, trivial⟩ (va_runV (rm := rm_X11_error) (ws := wsX11_error) (As := [.int 2]) (rest := []) (gFix hF) (c_X11_error l D c q_this q_now q_kept q_kinds q_voice q_thought q_further q_errors q_sheetBits q_sheetLength q_numbers 2 v_images v_errors r_13 w_14 hc_12 H.size) (cwV 1 hts gX11_airs_X11_error rfl rfl rfl (by decide +kernel) ⟨Nat.le_of_ble_eq_true rfl, Nat.le_of_ble_eq_true rfl⟩) (gPreV (wc := [(q_this, .inr (11, [.ref q_now, .ref q_kept, .int v_images, .ref q_kinds, .ref q_voice, .ref q_thought, .ref q_further, .ref q_errors, .ref q_sheetBits, .ref q_sheetLength, .ref q_numbers])), (q_errors, .inl (c 0, 6, .inl v_errors))]) (q := (RX11, TX11, 11)) (ci := 11) (q0 := 0) (isC := [0, 1]) hK hX hS hA hP hD ⟨rfl, rfl, trivial⟩ (by decide +kernel) rfl rfl) rfl rfl hl.1 rfl (lv_room (Nat.le_of_ble_eq_true rfl)) dX11_airs_23 ⟨Nat.le_of_ble_eq_true rfl, Nat.le_of_ble_eq_true rfl⟩) (fun H locs hP hD hS => ?_)
      obtain ⟨z0, z1, z2⟩ := so3 h
      subst z0 z1 z2
      exact gIret hF hP hD hS rfl dX11_airs_26
  · have h := it_t c_3 h
    refine lv_aload_n hx hb dX11_airs_7 rfl (lv_at hl 0 rfl) ?_
    refine lv_iconst (v := 1) hx hb dX11_airs_8 (by decide) ?_
    obtain ⟨r_16, w_17, hc_15, h⟩ := kb2_ok h
    refine gCallI (isC := [0, 1]) (wc := [(q_this, .inr (11, [.ref q_now, .ref q_kept, .int v_images, .ref q_kinds, .ref q_voice, .ref q_thought, .ref q_further, .ref q_errors, .ref q_sheetBits, .ref q_sheetLength, .ref q_numbers])), (q_errors, .inl (c 0, 6, .inl v_errors))]) (w1 := [(q_this, .inr (11, [.ref q_now, .ref q_kept, .int v_images, .ref q_kinds, .ref q_voice, .ref q_thought, .ref q_further, .ref q_errors, .ref q_sheetBits, .ref q_sheetLength, .ref q_numbers])), (q_errors, .inl (c 0, 6, .inl w_17))]) (ws2 := [(q_this, .inr (11, [.ref q_now, .ref q_kept, .int v_images, .ref q_kinds, .ref q_voice, .ref q_thought, .ref q_further, .ref q_errors, .ref q_sheetBits, .ref q_sheetLength, .ref q_numbers])), (q_errors, .inl (c 0, 6, .inl w_17)), (q_now, .inr (7, [.ref q_now_wall, .int v_now_tools, .ref q_now_kind, .ref q_now_m, .ref q_now_tape, .int v_now_tapeLength, .ref q_now_moved, .ref q_now_seen, .int v_now_z, .ref q_now_told, .int v_now_waiting])), (q_now_wall, .inr (10, [.int v_now_wall_rows, .int v_now_wall_columns, .ref q_now_wall_air, .ref q_now_wall_paste, .ref q_now_wall_open, .int v_now_wall_holes, .int v_now_wall_out, .int v_now_wall_night, .ref q_now_wall_met, .ref q_now_wall_line, .int v_now_wall_inLine])), (q_now_wall_air, .inl (c 0, 25, .inl v_now_wall_air)), (q_numbers, .inl (c 2, 4, .inr (.inr (.inr (.inr (fun j => some (na j))))))), (q_sheetBits, .inl (c 0, 4, .inl v_sheetBits)), (q_sheetLength, .inl (c 0, 4, .inl v_sheetLength)), (na 0, .inl (c 0, 40, .inl (v_numbers_el 0))), (na 1, .inl (c 0, 40, .inl (v_numbers_el 1))), (na 2, .inl (c 0, 40, .inl (v_numbers_el 2))), (na 3, .inl (c 0, 40, .inl (v_numbers_el 3)))]) (ms := [(some 0), (some 1), none, none, none, none, none, none, none, none, none, none]) hP hD hS hA ⟨rfl, rfl, trivial⟩ (by decide +kernel) ⟨rfl, rfl, rfl, rfl, rfl, rfl, rfl, rfl, rfl, rfl, rfl, rfl, trivial⟩ (va_runV (rm := rm_X11_error) (ws := wsX11_error) (As := [.int 1]) (rest := []) (gFix hF) (c_X11_error l D c q_this q_now q_kept q_kinds q_voice q_thought q_further q_errors q_sheetBits q_sheetLength q_numbers 1 v_images v_errors r_16 w_17 hc_15 H.size) (cwV 1 hts gX11_airs_X11_error rfl rfl rfl (by decide +kernel) ⟨Nat.le_of_ble_eq_true rfl, Nat.le_of_ble_eq_true rfl⟩) (gPreV (wc := [(q_this, .inr (11, [.ref q_now, .ref q_kept, .int v_images, .ref q_kinds, .ref q_voice, .ref q_thought, .ref q_further, .ref q_errors, .ref q_sheetBits, .ref q_sheetLength, .ref q_numbers])), (q_errors, .inl (c 0, 6, .inl v_errors))]) (q := (RX11, TX11, 11)) (ci := 11) (q0 := 0) (isC := [0, 1]) hK hX hS hA hP hD ⟨rfl, rfl, trivial⟩ (by decide +kernel) rfl rfl) rfl rfl hl.1 rfl (lv_room (Nat.le_of_ble_eq_true rfl)) dX11_airs_9 ⟨Nat.le_of_ble_eq_true rfl, Nat.le_of_ble_eq_true rfl⟩) (fun H locs hP hD hS => ?_)
    obtain ⟨z0, z1, z2⟩ := so3 h
    subst z0 z1 z2
    exact gIret hF hP hD hS rfl dX11_airs_12
set_option maxRecDepth 20000 in
theorem in_X11_isTool_X11 : ∀ w ∈ u_ws RX11 TX11 11, w ∈ wsX11_isTool := by decide +kernel
set_option maxRecDepth 20000 in
theorem in_X11_isTool_X7 : ∀ w ∈ u_ws RX7 TX7 11, w ∈ wsX11_isTool := by decide +kernel
def f_X11_isTool (a_1 : Int32) (v_now_tools : Int32) : Option (Int32) :=
  nm (v_now_tools - 1 : Int32) fun t_1 =>
  kb (f_X11_within a_1 0 t_1) fun r_3 =>
  if r_3 = 0 then
    some 0
  else
    if 6 ≤ a_1 then
      some 0
    else
      some 1

abbrev rm_X11_isTool : Room := { frames := 1, cells := 0, slots := 0, locals := 22 }
set_option maxHeartbeats 4000000 in
set_option maxRecDepth 100000 in
theorem c_X11_isTool (l : Launch) (D : va_G) (c : Nat → ClassId) (q_this q_now q_kept q_kinds q_voice q_thought q_further q_errors q_sheetBits q_sheetLength q_numbers q_now_wall q_now_kind q_now_m q_now_tape q_now_moved q_now_seen q_now_told : Nat) (a_1 : Int32) (v_images : Int32) (v_now_tools : Int32) (v_now_tapeLength : Int32) (v_now_z : Int32) (v_now_waiting : Int32) (o_r : Int32) (h : f_X11_isTool a_1 v_now_tools = some o_r) : gMI l yX11_isTool wsX11_isTool rm_X11_isTool D c [.ref q_this, .int a_1] [(q_this, .inr (11, [.ref q_now, .ref q_kept, .int v_images, .ref q_kinds, .ref q_voice, .ref q_thought, .ref q_further, .ref q_errors, .ref q_sheetBits, .ref q_sheetLength, .ref q_numbers])), (q_now, .inr (7, [.ref q_now_wall, .int v_now_tools, .ref q_now_kind, .ref q_now_m, .ref q_now_tape, .int v_now_tapeLength, .ref q_now_moved, .ref q_now_seen, .int v_now_z, .ref q_now_told, .int v_now_waiting]))] [(q_this, .inr (11, [.ref q_now, .ref q_kept, .int v_images, .ref q_kinds, .ref q_voice, .ref q_thought, .ref q_further, .ref q_errors, .ref q_sheetBits, .ref q_sheetLength, .ref q_numbers])), (q_now, .inr (7, [.ref q_now_wall, .int v_now_tools, .ref q_now_kind, .ref q_now_m, .ref q_now_tape, .int v_now_tapeLength, .ref q_now_moved, .ref q_now_seen, .int v_now_z, .ref q_now_told, .int v_now_waiting]))] o_r := by
  refine gMI_of (cc := cX11_isTool) (maxL := 2) (rt := (some .boolean)) (by decide +kernel) rfl (Nat.le_of_ble_eq_true rfl) ?_
  intro p e s m below meth co A hF hK hX hP hD hA hS ls hl
  obtain ⟨hx, hb, hr, hts, hown, hlocks, hml⟩ := id hF
  have hl : lv_has ls 2 [(0, .ref q_this), (1, .int a_1)] := hl
  unfold f_X11_isTool at h
  refine lv_iload_n hx hb dX11_isTool_0 rfl (lv_at hl 1 rfl) ?_
  refine lv_iconst (v := 0) hx hb dX11_isTool_1 (by decide) ?_
  refine lv_aload_n hx hb dX11_isTool_2 rfl (lv_at hl 0 rfl) ?_
  refine va_get (D := D) (ci := 11) (v := .ref q_now) (C := RX11) (T := TX11) (N := 11) hx hb hts in_X11_isTool_X11 hown hK.1 hP 0 rfl rfl 0 (by decide) (hts (.fieldLink RX11 14 "PaperBubbles" "now" "LPaperBubbles$State;") (List.mem_of_getElem? (i := 1) rfl)) (fun _ h9 => h9) rfl dX11_isTool_3 ?_
  refine va_getN (D := D) (ci := 7) (v := .int v_now_tools) (C := RX7) (T := TX7) (N := 11) hx hb hts in_X11_isTool_X7 hown hK.1 hP 1 rfl rfl 1 (by decide) (va_Nw.use rfl (hK.2 (.fieldLinkNest "PaperBubbles" 132 "PaperBubbles$State" "tools" "I" "PaperBubbles") (List.mem_of_getElem? (i := 4) rfl))) (fun _ h9 => h9) rfl dX11_isTool_6 ?_
  refine lv_iconst (v := 1) hx hb dX11_isTool_9 (by decide) ?_
  refine lv_isub hx hb dX11_isTool_10 ?_
  obtain ⟨t_1, et_1, h⟩ := nm_ok h
  refine gTop et_1 ?_
  obtain ⟨r_3, hc_2, h⟩ := kb_ok h
  refine gCallIr (isC := []) (wc := []) hP hD hS hA trivial (va_runS (rm := rm_X11_within) (ws := wsX11_within) (As := [.int a_1, .int 0, .int t_1]) (rest := []) (gFix hF) (c_X11_within l D c a_1 0 t_1 r_3 hc_2 s.heap.size) (va_cwS 3 hts gX11_isTool_X11_within rfl rfl rfl (by decide +kernel) ⟨Nat.le_of_ble_eq_true rfl, Nat.le_of_ble_eq_true rfl⟩) (gPreS (wc := []) (isC := []) hK hX hS hA hP hD trivial (by decide +kernel)) rfl rfl hl.1 rfl (lv_room (Nat.le_of_ble_eq_true rfl)) dX11_isTool_11 ⟨Nat.le_of_ble_eq_true rfl, Nat.le_of_ble_eq_true rfl⟩) (fun H locs hP hS => ?_)
  refine lv_if_eq (tgt := 27) hx hb dX11_isTool_14 (by decide) (fun c_4 => ?_) (fun c_4 => ?_)
  · have h := it_t c_4 h
    refine lv_iconst (v := 0) hx hb dX11_isTool_27 (by decide) ?_
    replace h := so1 h
    subst h
    exact gIret hF hP hD hS rfl dX11_isTool_28
  · have h := it_f c_4 h
    refine lv_iload_n hx hb dX11_isTool_17 rfl (lv_at hl 1 rfl) ?_
    refine lv_bipush (v := 6) hx hb dX11_isTool_18 (by decide) ?_
    refine lv_icmp_ge (tgt := 27) hx hb dX11_isTool_20 (by decide) (fun c_5 => ?_) (fun c_5 => ?_)
    · have h := it_t c_5 h
      refine lv_iconst (v := 0) hx hb dX11_isTool_27 (by decide) ?_
      replace h := so1 h
      subst h
      exact gIret hF hP hD hS rfl dX11_isTool_28
    · have h := it_f c_5 h
      refine lv_iconst (v := 1) hx hb dX11_isTool_23 (by decide) ?_
      refine lv_goto (tgt := 28) hx hb dX11_isTool_24 (by decide) ?_
      replace h := so1 h
      subst h
      exact gIret hF hP hD hS rfl dX11_isTool_28
set_option maxRecDepth 20000 in
theorem in_X11_kindAt_X11 : ∀ w ∈ u_ws RX11 TX11 11, w ∈ wsX11_kindAt := by decide +kernel
def f_X11_kindAt (a_1 : Int32) : Option (Int32) :=
  kb (f_X11_within a_1 0 6) fun r_2 =>
  if r_2 = 0 then
    chi 0 7 <|
    some 0
  else
    chi a_1 7 <|
    some a_1

abbrev rm_X11_kindAt : Room := { frames := 1, cells := 0, slots := 0, locals := 22 }
set_option maxHeartbeats 4000000 in
set_option maxRecDepth 100000 in
theorem c_X11_kindAt (l : Launch) (D : va_G) (c : Nat → ClassId) (q_this q_now q_kept q_kinds q_voice q_thought q_further q_errors q_sheetBits q_sheetLength q_numbers : Nat) (ta : Nat → Nat) (a_1 : Int32) (v_images : Int32) (o_r : Int32) (h : f_X11_kindAt a_1 = some o_r) : gMR l yX11_kindAt wsX11_kindAt rm_X11_kindAt D c [.ref q_this, .int a_1] [(q_this, .inr (11, [.ref q_now, .ref q_kept, .int v_images, .ref q_kinds, .ref q_voice, .ref q_thought, .ref q_further, .ref q_errors, .ref q_sheetBits, .ref q_sheetLength, .ref q_numbers])), (q_kinds, .inl (c 1, 7, .inr (.inr (.inr (.inr (fun j => some (ta j))))))), (ta 0, .inr (8, [])), (ta 1, .inr (0, [])), (ta 2, .inr (4, [])), (ta 3, .inr (5, [])), (ta 4, .inr (6, [])), (ta 5, .inr (2, [])), (ta 6, .inr (1, []))] [(q_this, .inr (11, [.ref q_now, .ref q_kept, .int v_images, .ref q_kinds, .ref q_voice, .ref q_thought, .ref q_further, .ref q_errors, .ref q_sheetBits, .ref q_sheetLength, .ref q_numbers])), (q_kinds, .inl (c 1, 7, .inr (.inr (.inr (.inr (fun j => some (ta j))))))), (ta 0, .inr (8, [])), (ta 1, .inr (0, [])), (ta 2, .inr (4, [])), (ta 3, .inr (5, [])), (ta 4, .inr (6, [])), (ta 5, .inr (2, [])), (ta 6, .inr (1, []))] (some (ta o_r.toNatClampNeg)) := by
  refine gMR_of (cc := cX11_kindAt) (maxL := 2) (rt := (some (.object "PaperBubbles$Tool"))) (by decide +kernel) rfl (Nat.le_of_ble_eq_true rfl) ?_
  intro p e s m below meth co A hF hK hX hP hD hA hS ls hl
  obtain ⟨hx, hb, hr, hts, hown, hlocks, hml⟩ := id hF
  have hl : lv_has ls 2 [(0, .ref q_this), (1, .int a_1)] := hl
  unfold f_X11_kindAt at h
  refine lv_iload_n hx hb dX11_kindAt_0 rfl (lv_at hl 1 rfl) ?_
  refine lv_iconst (v := 0) hx hb dX11_kindAt_1 (by decide) ?_
  refine lv_bipush (v := 6) hx hb dX11_kindAt_2 (by decide) ?_
  obtain ⟨r_2, hc_1, h⟩ := kb_ok h
  refine gCallIr (isC := []) (wc := []) hP hD hS hA trivial (va_runS (rm := rm_X11_within) (ws := wsX11_within) (As := [.int a_1, .int 0, .int 6]) (rest := []) (gFix hF) (c_X11_within l D c a_1 0 6 r_2 hc_1 s.heap.size) (va_cwS 3 hts gX11_kindAt_X11_within rfl rfl rfl (by decide +kernel) ⟨Nat.le_of_ble_eq_true rfl, Nat.le_of_ble_eq_true rfl⟩) (gPreS (wc := []) (isC := []) hK hX hS hA hP hD trivial (by decide +kernel)) rfl rfl hl.1 rfl (lv_room (Nat.le_of_ble_eq_true rfl)) dX11_kindAt_4 ⟨Nat.le_of_ble_eq_true rfl, Nat.le_of_ble_eq_true rfl⟩) (fun H locs hP hS => ?_)
  refine lv_if_eq (tgt := 19) hx hb dX11_kindAt_7 (by decide) (fun c_3 => ?_) (fun c_3 => ?_)
  · have h := it_t c_3 h
    refine lv_aload_n hx hb dX11_kindAt_19 rfl (lv_at hl 0 rfl) ?_
    refine va_get (D := D) (ci := 11) (v := .ref q_kinds) (C := RX11) (T := TX11) (N := 11) hx hb hts in_X11_kindAt_X11 hown hK.1 hP 0 rfl rfl 3 (by decide) (hts (.fieldLink RX11 42 "PaperBubbles" "kinds" "[LPaperBubbles$Tool;") (List.mem_of_getElem? (i := 1) rfl)) (fun _ h9 => h9) rfl dX11_kindAt_20 ?_
    refine lv_iconst (v := 0) hx hb dX11_kindAt_23 (by decide) ?_
    obtain ⟨hi_4, h⟩ := chi_ok h
    refine gAldT hx hb hK.1 hP 1 1 rfl rfl hi_4 dX11_kindAt_24 ?_
    replace h := so1 h
    subst h
    exact gAret hF hP hD hS dX11_kindAt_25
  · have h := it_f c_3 h
    refine lv_aload_n hx hb dX11_kindAt_10 rfl (lv_at hl 0 rfl) ?_
    refine va_get (D := D) (ci := 11) (v := .ref q_kinds) (C := RX11) (T := TX11) (N := 11) hx hb hts in_X11_kindAt_X11 hown hK.1 hP 0 rfl rfl 3 (by decide) (hts (.fieldLink RX11 42 "PaperBubbles" "kinds" "[LPaperBubbles$Tool;") (List.mem_of_getElem? (i := 1) rfl)) (fun _ h9 => h9) rfl dX11_kindAt_11 ?_
    refine lv_iload_n hx hb dX11_kindAt_14 rfl (lv_at hl 1 rfl) ?_
    obtain ⟨hi_5, h⟩ := chi_ok h
    refine gAldT hx hb hK.1 hP 1 1 rfl rfl hi_5 dX11_kindAt_15 ?_
    refine lv_goto (tgt := 25) hx hb dX11_kindAt_16 (by decide) ?_
    replace h := so1 h
    subst h
    exact gAret hF hP hD hS dX11_kindAt_25
set_option maxRecDepth 20000 in
theorem in_X11_kindOf_X11 : ∀ w ∈ u_ws RX11 TX11 11, w ∈ wsX11_kindOf := by decide +kernel
set_option maxRecDepth 20000 in
theorem in_X11_kindOf_X7 : ∀ w ∈ u_ws RX7 TX7 11, w ∈ wsX11_kindOf := by decide +kernel
def f_X11_kindOf_L22 (y1 : Int32) : Option (Int32) :=
  kb (f_X11_kindAt y1) fun r_7 =>
  some r_7

def f_X11_kindOf (a_1 : Int32) (v_now_tools : Int32) (v_now_kind : Nat → Int32) : Option (Int32) :=
  kb (f_X11_isTool a_1 v_now_tools) fun r_2 =>
  if r_2 = 0 then
    f_X11_kindOf_L22 0
  else
    chi a_1 6 <|
    nm (v_now_kind a_1.toNatClampNeg : Int32) fun t_5 =>
    f_X11_kindOf_L22 t_5

abbrev rm_X11_kindOf : Room := { frames := 2, cells := 0, slots := 0, locals := 43 }
set_option maxHeartbeats 4000000 in
set_option maxRecDepth 100000 in
theorem c_X11_kindOf (l : Launch) (D : va_G) (c : Nat → ClassId) (q_this q_now q_kept q_kinds q_voice q_thought q_further q_errors q_sheetBits q_sheetLength q_numbers q_now_wall q_now_kind q_now_m q_now_tape q_now_moved q_now_seen q_now_told : Nat) (ta : Nat → Nat) (a_1 : Int32) (v_images : Int32) (v_now_tools : Int32) (v_now_tapeLength : Int32) (v_now_z : Int32) (v_now_waiting : Int32) (v_now_kind : Nat → Int32) (o_r : Int32) (h : f_X11_kindOf a_1 v_now_tools v_now_kind = some o_r) : gMR l yX11_kindOf wsX11_kindOf rm_X11_kindOf D c [.ref q_this, .int a_1] [(q_this, .inr (11, [.ref q_now, .ref q_kept, .int v_images, .ref q_kinds, .ref q_voice, .ref q_thought, .ref q_further, .ref q_errors, .ref q_sheetBits, .ref q_sheetLength, .ref q_numbers])), (q_kinds, .inl (c 1, 7, .inr (.inr (.inr (.inr (fun j => some (ta j))))))), (q_now, .inr (7, [.ref q_now_wall, .int v_now_tools, .ref q_now_kind, .ref q_now_m, .ref q_now_tape, .int v_now_tapeLength, .ref q_now_moved, .ref q_now_seen, .int v_now_z, .ref q_now_told, .int v_now_waiting])), (q_now_kind, .inl (c 0, 6, .inl v_now_kind)), (ta 0, .inr (8, [])), (ta 1, .inr (0, [])), (ta 2, .inr (4, [])), (ta 3, .inr (5, [])), (ta 4, .inr (6, [])), (ta 5, .inr (2, [])), (ta 6, .inr (1, []))] [(q_this, .inr (11, [.ref q_now, .ref q_kept, .int v_images, .ref q_kinds, .ref q_voice, .ref q_thought, .ref q_further, .ref q_errors, .ref q_sheetBits, .ref q_sheetLength, .ref q_numbers])), (q_kinds, .inl (c 1, 7, .inr (.inr (.inr (.inr (fun j => some (ta j))))))), (q_now, .inr (7, [.ref q_now_wall, .int v_now_tools, .ref q_now_kind, .ref q_now_m, .ref q_now_tape, .int v_now_tapeLength, .ref q_now_moved, .ref q_now_seen, .int v_now_z, .ref q_now_told, .int v_now_waiting])), (q_now_kind, .inl (c 0, 6, .inl v_now_kind)), (ta 0, .inr (8, [])), (ta 1, .inr (0, [])), (ta 2, .inr (4, [])), (ta 3, .inr (5, [])), (ta 4, .inr (6, [])), (ta 5, .inr (2, [])), (ta 6, .inr (1, []))] (some (ta o_r.toNatClampNeg)) := by
  refine gMR_of (cc := cX11_kindOf) (maxL := 2) (rt := (some (.object "PaperBubbles$Tool"))) (by decide +kernel) rfl (Nat.le_of_ble_eq_true rfl) ?_
  intro p e s m below meth co A hF hK hX hP hD hA hS ls hl
  obtain ⟨hx, hb, hr, hts, hown, hlocks, hml⟩ := id hF
  have hl : lv_has ls 2 [(0, .ref q_this), (1, .int a_1)] := hl
  have t_L22 : ∀ (y1 : Int32) (H : Heap) (locs : List Loc), va_P D gcl [(q_this, .inr (11, [.ref q_now, .ref q_kept, .int v_images, .ref q_kinds, .ref q_voice, .ref q_thought, .ref q_further, .ref q_errors, .ref q_sheetBits, .ref q_sheetLength, .ref q_numbers])), (q_kinds, .inl (c 1, 7, .inr (.inr (.inr (.inr (fun j => some (ta j))))))), (q_now, .inr (7, [.ref q_now_wall, .int v_now_tools, .ref q_now_kind, .ref q_now_m, .ref q_now_tape, .int v_now_tapeLength, .ref q_now_moved, .ref q_now_seen, .int v_now_z, .ref q_now_told, .int v_now_waiting])), (q_now_kind, .inl (c 0, 6, .inl v_now_kind)), (ta 0, .inr (8, [])), (ta 1, .inr (0, [])), (ta 2, .inr (4, [])), (ta 3, .inr (5, [])), (ta 4, .inr (6, [])), (ta 5, .inr (2, [])), (ta 6, .inr (1, []))] H → va_D A [(q_this, .inr (11, [.ref q_now, .ref q_kept, .int v_images, .ref q_kinds, .ref q_voice, .ref q_thought, .ref q_further, .ref q_errors, .ref q_sheetBits, .ref q_sheetLength, .ref q_numbers])), (q_kinds, .inl (c 1, 7, .inr (.inr (.inr (.inr (fun j => some (ta j))))))), (q_now, .inr (7, [.ref q_now_wall, .int v_now_tools, .ref q_now_kind, .ref q_now_m, .ref q_now_tape, .int v_now_tapeLength, .ref q_now_moved, .ref q_now_seen, .int v_now_z, .ref q_now_told, .int v_now_waiting])), (q_now_kind, .inl (c 0, 6, .inl v_now_kind)), (ta 0, .inr (8, [])), (ta 1, .inr (0, [])), (ta 2, .inr (4, [])), (ta 3, .inr (5, [])), (ta 4, .inr (6, [])), (ta 5, .inr (2, [])), (ta 6, .inr (1, []))] → va_S A s.heap H locs → ∀ ls, lv_has ls 2 [] → f_X11_kindOf_L22 y1 = some o_r → W p l e (headSpec wsX11_kindOf rm_X11_kindOf).room s m [.ref q_this, .int a_1].toArray below meth co H locs 0 0 (gQR D [(q_this, .inr (11, [.ref q_now, .ref q_kept, .int v_images, .ref q_kinds, .ref q_voice, .ref q_thought, .ref q_further, .ref q_errors, .ref q_sheetBits, .ref q_sheetLength, .ref q_numbers])), (q_kinds, .inl (c 1, 7, .inr (.inr (.inr (.inr (fun j => some (ta j))))))), (q_now, .inr (7, [.ref q_now_wall, .int v_now_tools, .ref q_now_kind, .ref q_now_m, .ref q_now_tape, .int v_now_tapeLength, .ref q_now_moved, .ref q_now_seen, .int v_now_z, .ref q_now_told, .int v_now_waiting])), (q_now_kind, .inl (c 0, 6, .inl v_now_kind)), (ta 0, .inr (8, [])), (ta 1, .inr (0, [])), (ta 2, .inr (4, [])), (ta 3, .inr (5, [])), (ta 4, .inr (6, [])), (ta 5, .inr (2, [])), (ta 6, .inr (1, []))] (some (ta o_r.toNatClampNeg)) A below [.ref q_this, .int a_1] s) (F0 m 22 ls [.int y1, .ref q_this]) := by
    intro  y1 H locs hP hD hS ls hl h
    unfold f_X11_kindOf_L22 at h
    obtain ⟨r_7, hc_6, h⟩ := kb_ok h
    refine gCallRr (isC := [0, 1, 4, 5, 6, 7, 8, 9, 10]) (wc := [(q_this, .inr (11, [.ref q_now, .ref q_kept, .int v_images, .ref q_kinds, .ref q_voice, .ref q_thought, .ref q_further, .ref q_errors, .ref q_sheetBits, .ref q_sheetLength, .ref q_numbers])), (q_kinds, .inl (c 1, 7, .inr (.inr (.inr (.inr (fun j => some (ta j))))))), (ta 0, .inr (8, [])), (ta 1, .inr (0, [])), (ta 2, .inr (4, [])), (ta 3, .inr (5, [])), (ta 4, .inr (6, [])), (ta 5, .inr (2, [])), (ta 6, .inr (1, []))]) hP hD hS hA ⟨rfl, rfl, rfl, rfl, rfl, rfl, rfl, rfl, rfl, trivial⟩ (va_runV (rm := rm_X11_kindAt) (ws := wsX11_kindAt) (As := [.int y1]) (rest := []) (gFix hF) (c_X11_kindAt l D c q_this q_now q_kept q_kinds q_voice q_thought q_further q_errors q_sheetBits q_sheetLength q_numbers ta y1 v_images r_7 hc_6 H.size) (cwV 1 hts gX11_kindOf_X11_kindAt rfl rfl rfl (by decide +kernel) ⟨Nat.le_of_ble_eq_true rfl, Nat.le_of_ble_eq_true rfl⟩) (gPreV (wc := [(q_this, .inr (11, [.ref q_now, .ref q_kept, .int v_images, .ref q_kinds, .ref q_voice, .ref q_thought, .ref q_further, .ref q_errors, .ref q_sheetBits, .ref q_sheetLength, .ref q_numbers])), (q_kinds, .inl (c 1, 7, .inr (.inr (.inr (.inr (fun j => some (ta j))))))), (ta 0, .inr (8, [])), (ta 1, .inr (0, [])), (ta 2, .inr (4, [])), (ta 3, .inr (5, [])), (ta 4, .inr (6, [])), (ta 5, .inr (2, [])), (ta 6, .inr (1, []))]) (q := (RX11, TX11, 11)) (ci := 11) (q0 := 0) (isC := [0, 1, 4, 5, 6, 7, 8, 9, 10]) hK hX hS hA hP hD ⟨rfl, rfl, rfl, rfl, rfl, rfl, rfl, rfl, rfl, trivial⟩ (by decide +kernel) rfl rfl) rfl rfl hl.1 rfl (lv_room (Nat.le_of_ble_eq_true rfl)) dX11_kindOf_22 ⟨Nat.le_of_ble_eq_true rfl, Nat.le_of_ble_eq_true rfl⟩) (fun H locs hP hS => ?_)
    replace h := so1 h
    subst h
    exact gAret hF hP hD hS dX11_kindOf_25
  unfold f_X11_kindOf at h
  refine lv_aload_n hx hb dX11_kindOf_0 rfl (lv_at hl 0 rfl) ?_
  refine lv_aload_n hx hb dX11_kindOf_1 rfl (lv_at hl 0 rfl) ?_
  refine lv_iload_n hx hb dX11_kindOf_2 rfl (lv_at hl 1 rfl) ?_
  obtain ⟨r_2, hc_1, h⟩ := kb_ok h
  refine gCallIr (isC := [0, 2]) (wc := [(q_this, .inr (11, [.ref q_now, .ref q_kept, .int v_images, .ref q_kinds, .ref q_voice, .ref q_thought, .ref q_further, .ref q_errors, .ref q_sheetBits, .ref q_sheetLength, .ref q_numbers])), (q_now, .inr (7, [.ref q_now_wall, .int v_now_tools, .ref q_now_kind, .ref q_now_m, .ref q_now_tape, .int v_now_tapeLength, .ref q_now_moved, .ref q_now_seen, .int v_now_z, .ref q_now_told, .int v_now_waiting]))]) hP hD hS hA ⟨rfl, rfl, trivial⟩ (va_runV (rm := rm_X11_isTool) (ws := wsX11_isTool) (As := [.int a_1]) (rest := [.ref q_this]) (gFix hF) (c_X11_isTool l D c q_this q_now q_kept q_kinds q_voice q_thought q_further q_errors q_sheetBits q_sheetLength q_numbers q_now_wall q_now_kind q_now_m q_now_tape q_now_moved q_now_seen q_now_told a_1 v_images v_now_tools v_now_tapeLength v_now_z v_now_waiting r_2 hc_1 s.heap.size) (cwV 1 hts gX11_kindOf_X11_isTool rfl rfl rfl (by decide +kernel) ⟨Nat.le_of_ble_eq_true rfl, Nat.le_of_ble_eq_true rfl⟩) (gPreV (wc := [(q_this, .inr (11, [.ref q_now, .ref q_kept, .int v_images, .ref q_kinds, .ref q_voice, .ref q_thought, .ref q_further, .ref q_errors, .ref q_sheetBits, .ref q_sheetLength, .ref q_numbers])), (q_now, .inr (7, [.ref q_now_wall, .int v_now_tools, .ref q_now_kind, .ref q_now_m, .ref q_now_tape, .int v_now_tapeLength, .ref q_now_moved, .ref q_now_seen, .int v_now_z, .ref q_now_told, .int v_now_waiting]))]) (q := (RX11, TX11, 11)) (ci := 11) (q0 := 0) (isC := [0, 2]) hK hX hS hA hP hD ⟨rfl, rfl, trivial⟩ (by decide +kernel) rfl rfl) rfl rfl hl.1 rfl (lv_room (Nat.le_of_ble_eq_true rfl)) dX11_kindOf_3 ⟨Nat.le_of_ble_eq_true rfl, Nat.le_of_ble_eq_true rfl⟩) (fun H locs hP hS => ?_)
  refine lv_if_eq (tgt := 21) hx hb dX11_kindOf_6 (by decide) (fun c_3 => ?_) (fun c_3 => ?_)
  · have h := it_t c_3 h
    refine lv_iconst (v := 0) hx hb dX11_kindOf_21 (by decide) ?_
    exact t_L22 0 H locs hP hD hS ls (lv_sub hl [] rfl) h
  · have h := it_f c_3 h
    refine lv_aload_n hx hb dX11_kindOf_9 rfl (lv_at hl 0 rfl) ?_
    refine va_get (D := D) (ci := 11) (v := .ref q_now) (C := RX11) (T := TX11) (N := 11) hx hb hts in_X11_kindOf_X11 hown hK.1 hP 0 rfl rfl 0 (by decide) (hts (.fieldLink RX11 14 "PaperBubbles" "now" "LPaperBubbles$State;") (List.mem_of_getElem? (i := 1) rfl)) (fun _ h9 => h9) rfl dX11_kindOf_10 ?_
    refine va_getN (D := D) (ci := 7) (v := .ref q_now_kind) (C := RX7) (T := TX7) (N := 11) hx hb hts in_X11_kindOf_X7 hown hK.1 hP 2 rfl rfl 2 (by decide) (va_Nw.use rfl (hK.2 (.fieldLinkNest "PaperBubbles" 136 "PaperBubbles$State" "kind" "[I" "PaperBubbles") (List.mem_of_getElem? (i := 5) rfl))) (fun _ h9 => h9) rfl dX11_kindOf_13 ?_
    refine lv_iload_n hx hb dX11_kindOf_16 rfl (lv_at hl 1 rfl) ?_
    obtain ⟨hi_4, h⟩ := chi_ok h
    refine va_iald hx hb hK.1 hP 3 0 rfl rfl hi_4 dX11_kindOf_17 ?_
    obtain ⟨t_5, et_5, h⟩ := nm_ok h
    refine gTop et_5 ?_
    refine lv_goto (tgt := 22) hx hb dX11_kindOf_18 (by decide) ?_
    exact t_L22 t_5 H locs hP hD hS ls (lv_sub hl [] rfl) h
def f_X8_isA_X8 (a_1 : Int32) : Option (Int32) :=
  if a_1 = 0 then
    some 1
  else
    some 0

abbrev rm_X8_isA_X8 : Room := { frames := 0, cells := 0, slots := 0, locals := 0 }
set_option maxHeartbeats 4000000 in
set_option maxRecDepth 100000 in
theorem c_X8_isA_X8 (l : Launch) (D : va_G) (c : Nat → ClassId) (q_this : Nat) (a_1 : Int32) (o_r : Int32) (h : f_X8_isA_X8 a_1 = some o_r) : gMI l yX8_isA wsX8_isA rm_X8_isA_X8 D c [.ref q_this, .int a_1] [] [] o_r := by
  refine gMI_of (cc := cX8_isA) (maxL := 2) (rt := (some .boolean)) (by decide +kernel) rfl (Nat.le_of_ble_eq_true rfl) ?_
  intro p e s m below meth co A hF hK hX hP hD hA hS ls hl
  obtain ⟨hx, hb, hr, hts, hown, hlocks, hml⟩ := id hF
  have hl : lv_has ls 2 [(0, .ref q_this), (1, .int a_1)] := hl
  unfold f_X8_isA_X8 at h
  refine lv_iload_n hx hb dX8_isA_0 rfl (lv_at hl 1 rfl) ?_
  refine lv_if_ne (tgt := 8) hx hb dX8_isA_1 (by decide) (fun c_1 => ?_) (fun c_1 => ?_)
  · have h := it_f c_1 h
    refine lv_iconst (v := 0) hx hb dX8_isA_8 (by decide) ?_
    replace h := so1 h
    subst h
    exact gIret hF hP hD hS rfl dX8_isA_9
  · have h := it_t c_1 h
    refine lv_iconst (v := 1) hx hb dX8_isA_4 (by decide) ?_
    refine lv_goto (tgt := 9) hx hb dX8_isA_5 (by decide) ?_
    replace h := so1 h
    subst h
    exact gIret hF hP hD hS rfl dX8_isA_9
def f_X8_isA_X4 (a_1 : Int32) : Option (Int32) :=
  if a_1 = 0 then
    some 1
  else
    some 0

abbrev rm_X8_isA_X4 : Room := { frames := 0, cells := 0, slots := 0, locals := 0 }
set_option maxHeartbeats 4000000 in
set_option maxRecDepth 100000 in
theorem c_X8_isA_X4 (l : Launch) (D : va_G) (c : Nat → ClassId) (q_this : Nat) (a_1 : Int32) (o_r : Int32) (h : f_X8_isA_X4 a_1 = some o_r) : gMI l yX8_isA wsX8_isA rm_X8_isA_X4 D c [.ref q_this, .int a_1] [] [] o_r := by
  refine gMI_of (cc := cX8_isA) (maxL := 2) (rt := (some .boolean)) (by decide +kernel) rfl (Nat.le_of_ble_eq_true rfl) ?_
  intro p e s m below meth co A hF hK hX hP hD hA hS ls hl
  obtain ⟨hx, hb, hr, hts, hown, hlocks, hml⟩ := id hF
  have hl : lv_has ls 2 [(0, .ref q_this), (1, .int a_1)] := hl
  unfold f_X8_isA_X4 at h
  refine lv_iload_n hx hb dX8_isA_0 rfl (lv_at hl 1 rfl) ?_
  refine lv_if_ne (tgt := 8) hx hb dX8_isA_1 (by decide) (fun c_1 => ?_) (fun c_1 => ?_)
  · have h := it_f c_1 h
    refine lv_iconst (v := 0) hx hb dX8_isA_8 (by decide) ?_
    replace h := so1 h
    subst h
    exact gIret hF hP hD hS rfl dX8_isA_9
  · have h := it_t c_1 h
    refine lv_iconst (v := 1) hx hb dX8_isA_4 (by decide) ?_
    refine lv_goto (tgt := 9) hx hb dX8_isA_5 (by decide) ?_
    replace h := so1 h
    subst h
    exact gIret hF hP hD hS rfl dX8_isA_9
def f_X4_isA_X4 (a_1 : Int32) : Option (Int32) :=
  if a_1 = 2 then
    some 1
  else
    kb (f_X8_isA_X4 a_1) fun r_3 =>
    if r_3 = 0 then
      some 0
    else
      some 1

abbrev rm_X4_isA_X4 : Room := { frames := 1, cells := 0, slots := 0, locals := 21 }
set_option maxHeartbeats 4000000 in
set_option maxRecDepth 100000 in
theorem c_X4_isA_X4 (l : Launch) (D : va_G) (c : Nat → ClassId) (q_this : Nat) (a_1 : Int32) (o_r : Int32) (h : f_X4_isA_X4 a_1 = some o_r) : gMI l yX4_isA wsX4_isA rm_X4_isA_X4 D c [.ref q_this, .int a_1] [(q_this, .inr (4, []))] [(q_this, .inr (4, []))] o_r := by
  refine gMI_of (cc := cX4_isA) (maxL := 2) (rt := (some .boolean)) (by decide +kernel) rfl (Nat.le_of_ble_eq_true rfl) ?_
  intro p e s m below meth co A hF hK hX hP hD hA hS ls hl
  obtain ⟨hx, hb, hr, hts, hown, hlocks, hml⟩ := id hF
  have hl : lv_has ls 2 [(0, .ref q_this), (1, .int a_1)] := hl
  unfold f_X4_isA_X4 at h
  refine lv_iload_n hx hb dX4_isA_0 rfl (lv_at hl 1 rfl) ?_
  refine lv_iconst (v := 2) hx hb dX4_isA_1 (by decide) ?_
  refine lv_icmp_eq (tgt := 13) hx hb dX4_isA_2 (by decide) (fun c_1 => ?_) (fun c_1 => ?_)
  · have h := it_t c_1 h
    refine lv_iconst (v := 1) hx hb dX4_isA_13 (by decide) ?_
    refine lv_goto (tgt := 18) hx hb dX4_isA_14 (by decide) ?_
    replace h := so1 h
    subst h
    exact gIret hF hP hD hS rfl dX4_isA_18
  · have h := it_f c_1 h
    refine lv_aload_n hx hb dX4_isA_5 rfl (lv_at hl 0 rfl) ?_
    refine lv_iload_n hx hb dX4_isA_6 rfl (lv_at hl 1 rfl) ?_
    obtain ⟨r_3, hc_2, h⟩ := kb_ok h
    refine gCallIr (isC := []) (wc := []) hP hD hS hA trivial (va_runSU (rm := rm_X8_isA_X4) (ws := wsX8_isA) (As := [.int a_1]) (rest := []) (hK.1.1 4 _ rfl).2 (gFix hF) (c_X8_isA_X4 l D c q_this a_1 r_3 hc_2 s.heap.size) (va_cwSU 1 hts gX4_isA_X8_isA_s7 rfl rfl rfl (by decide +kernel) ⟨Nat.le_of_ble_eq_true rfl, Nat.le_of_ble_eq_true rfl⟩) (gPreV (wc := []) (q := (RX4, TX4, 0)) (ci := 4) (q0 := 0) (isC := []) hK hX hS hA hP hD trivial (by decide +kernel) rfl rfl) rfl rfl hl.1 rfl (lv_room (Nat.le_of_ble_eq_true rfl)) dX4_isA_7 ⟨Nat.le_of_ble_eq_true rfl, Nat.le_of_ble_eq_true rfl⟩) (fun H locs hP hS => ?_)
    refine lv_if_eq (tgt := 17) hx hb dX4_isA_10 (by decide) (fun c_4 => ?_) (fun c_4 => ?_)
    · have h := it_t c_4 h
      refine lv_iconst (v := 0) hx hb dX4_isA_17 (by decide) ?_
      replace h := so1 h
      subst h
      exact gIret hF hP hD hS rfl dX4_isA_18
    · have h := it_f c_4 h
      refine lv_iconst (v := 1) hx hb dX4_isA_13 (by decide) ?_
      refine lv_goto (tgt := 18) hx hb dX4_isA_14 (by decide) ?_
      replace h := so1 h
      subst h
      exact gIret hF hP hD hS rfl dX4_isA_18
def f_X8_isA_X5 (a_1 : Int32) : Option (Int32) :=
  if a_1 = 0 then
    some 1
  else
    some 0

abbrev rm_X8_isA_X5 : Room := { frames := 0, cells := 0, slots := 0, locals := 0 }
set_option maxHeartbeats 4000000 in
set_option maxRecDepth 100000 in
theorem c_X8_isA_X5 (l : Launch) (D : va_G) (c : Nat → ClassId) (q_this : Nat) (a_1 : Int32) (o_r : Int32) (h : f_X8_isA_X5 a_1 = some o_r) : gMI l yX8_isA wsX8_isA rm_X8_isA_X5 D c [.ref q_this, .int a_1] [] [] o_r := by
  refine gMI_of (cc := cX8_isA) (maxL := 2) (rt := (some .boolean)) (by decide +kernel) rfl (Nat.le_of_ble_eq_true rfl) ?_
  intro p e s m below meth co A hF hK hX hP hD hA hS ls hl
  obtain ⟨hx, hb, hr, hts, hown, hlocks, hml⟩ := id hF
  have hl : lv_has ls 2 [(0, .ref q_this), (1, .int a_1)] := hl
  unfold f_X8_isA_X5 at h
  refine lv_iload_n hx hb dX8_isA_0 rfl (lv_at hl 1 rfl) ?_
  refine lv_if_ne (tgt := 8) hx hb dX8_isA_1 (by decide) (fun c_1 => ?_) (fun c_1 => ?_)
  · have h := it_f c_1 h
    refine lv_iconst (v := 0) hx hb dX8_isA_8 (by decide) ?_
    replace h := so1 h
    subst h
    exact gIret hF hP hD hS rfl dX8_isA_9
  · have h := it_t c_1 h
    refine lv_iconst (v := 1) hx hb dX8_isA_4 (by decide) ?_
    refine lv_goto (tgt := 9) hx hb dX8_isA_5 (by decide) ?_
    replace h := so1 h
    subst h
    exact gIret hF hP hD hS rfl dX8_isA_9
def f_X5_isA_X5 (a_1 : Int32) : Option (Int32) :=
  if a_1 = 3 then
    some 1
  else
    kb (f_X8_isA_X5 a_1) fun r_3 =>
    if r_3 = 0 then
      some 0
    else
      some 1

abbrev rm_X5_isA_X5 : Room := { frames := 1, cells := 0, slots := 0, locals := 21 }
set_option maxHeartbeats 4000000 in
set_option maxRecDepth 100000 in
theorem c_X5_isA_X5 (l : Launch) (D : va_G) (c : Nat → ClassId) (q_this : Nat) (a_1 : Int32) (o_r : Int32) (h : f_X5_isA_X5 a_1 = some o_r) : gMI l yX5_isA wsX5_isA rm_X5_isA_X5 D c [.ref q_this, .int a_1] [(q_this, .inr (5, []))] [(q_this, .inr (5, []))] o_r := by
  refine gMI_of (cc := cX5_isA) (maxL := 2) (rt := (some .boolean)) (by decide +kernel) rfl (Nat.le_of_ble_eq_true rfl) ?_
  intro p e s m below meth co A hF hK hX hP hD hA hS ls hl
  obtain ⟨hx, hb, hr, hts, hown, hlocks, hml⟩ := id hF
  have hl : lv_has ls 2 [(0, .ref q_this), (1, .int a_1)] := hl
  unfold f_X5_isA_X5 at h
  refine lv_iload_n hx hb dX5_isA_0 rfl (lv_at hl 1 rfl) ?_
  refine lv_iconst (v := 3) hx hb dX5_isA_1 (by decide) ?_
  refine lv_icmp_eq (tgt := 13) hx hb dX5_isA_2 (by decide) (fun c_1 => ?_) (fun c_1 => ?_)
  · have h := it_t c_1 h
    refine lv_iconst (v := 1) hx hb dX5_isA_13 (by decide) ?_
    refine lv_goto (tgt := 18) hx hb dX5_isA_14 (by decide) ?_
    replace h := so1 h
    subst h
    exact gIret hF hP hD hS rfl dX5_isA_18
  · have h := it_f c_1 h
    refine lv_aload_n hx hb dX5_isA_5 rfl (lv_at hl 0 rfl) ?_
    refine lv_iload_n hx hb dX5_isA_6 rfl (lv_at hl 1 rfl) ?_
    obtain ⟨r_3, hc_2, h⟩ := kb_ok h
    refine gCallIr (isC := []) (wc := []) hP hD hS hA trivial (va_runSU (rm := rm_X8_isA_X5) (ws := wsX8_isA) (As := [.int a_1]) (rest := []) (hK.1.1 5 _ rfl).2 (gFix hF) (c_X8_isA_X5 l D c q_this a_1 r_3 hc_2 s.heap.size) (va_cwSU 1 hts gX5_isA_X8_isA_s7 rfl rfl rfl (by decide +kernel) ⟨Nat.le_of_ble_eq_true rfl, Nat.le_of_ble_eq_true rfl⟩) (gPreV (wc := []) (q := (RX5, TX5, 0)) (ci := 5) (q0 := 0) (isC := []) hK hX hS hA hP hD trivial (by decide +kernel) rfl rfl) rfl rfl hl.1 rfl (lv_room (Nat.le_of_ble_eq_true rfl)) dX5_isA_7 ⟨Nat.le_of_ble_eq_true rfl, Nat.le_of_ble_eq_true rfl⟩) (fun H locs hP hS => ?_)
    refine lv_if_eq (tgt := 17) hx hb dX5_isA_10 (by decide) (fun c_4 => ?_) (fun c_4 => ?_)
    · have h := it_t c_4 h
      refine lv_iconst (v := 0) hx hb dX5_isA_17 (by decide) ?_
      replace h := so1 h
      subst h
      exact gIret hF hP hD hS rfl dX5_isA_18
    · have h := it_f c_4 h
      refine lv_iconst (v := 1) hx hb dX5_isA_13 (by decide) ?_
      refine lv_goto (tgt := 18) hx hb dX5_isA_14 (by decide) ?_
      replace h := so1 h
      subst h
      exact gIret hF hP hD hS rfl dX5_isA_18
def f_X6_isA_X6 (a_1 : Int32) : Option (Int32) :=
  if a_1 = 4 then
    some 1
  else
    kb (f_X0_isA_X6 a_1) fun r_3 =>
    if r_3 = 0 then
      some 0
    else
      some 1

abbrev rm_X6_isA_X6 : Room := { frames := 2, cells := 0, slots := 0, locals := 42 }
set_option maxHeartbeats 4000000 in
set_option maxRecDepth 100000 in
theorem c_X6_isA_X6 (l : Launch) (D : va_G) (c : Nat → ClassId) (q_this : Nat) (a_1 : Int32) (o_r : Int32) (h : f_X6_isA_X6 a_1 = some o_r) : gMI l yX6_isA wsX6_isA rm_X6_isA_X6 D c [.ref q_this, .int a_1] [(q_this, .inr (6, []))] [(q_this, .inr (6, []))] o_r := by
  refine gMI_of (cc := cX6_isA) (maxL := 2) (rt := (some .boolean)) (by decide +kernel) rfl (Nat.le_of_ble_eq_true rfl) ?_
  intro p e s m below meth co A hF hK hX hP hD hA hS ls hl
  obtain ⟨hx, hb, hr, hts, hown, hlocks, hml⟩ := id hF
  have hl : lv_has ls 2 [(0, .ref q_this), (1, .int a_1)] := hl
  unfold f_X6_isA_X6 at h
  refine lv_iload_n hx hb dX6_isA_0 rfl (lv_at hl 1 rfl) ?_
  refine lv_iconst (v := 4) hx hb dX6_isA_1 (by decide) ?_
  refine lv_icmp_eq (tgt := 13) hx hb dX6_isA_2 (by decide) (fun c_1 => ?_) (fun c_1 => ?_)
  · have h := it_t c_1 h
    refine lv_iconst (v := 1) hx hb dX6_isA_13 (by decide) ?_
    refine lv_goto (tgt := 18) hx hb dX6_isA_14 (by decide) ?_
    replace h := so1 h
    subst h
    exact gIret hF hP hD hS rfl dX6_isA_18
  · have h := it_f c_1 h
    refine lv_aload_n hx hb dX6_isA_5 rfl (lv_at hl 0 rfl) ?_
    refine lv_iload_n hx hb dX6_isA_6 rfl (lv_at hl 1 rfl) ?_
    obtain ⟨r_3, hc_2, h⟩ := kb_ok h
    refine gCallIr (isC := [0]) (wc := [(q_this, .inr (6, []))]) hP hD hS hA ⟨rfl, trivial⟩ (va_runSU (rm := rm_X0_isA_X6) (ws := wsX0_isA) (As := [.int a_1]) (rest := []) (hK.1.1 6 _ rfl).2 (gFix hF) (c_X0_isA_X6 l D c q_this a_1 r_3 hc_2 s.heap.size) (va_cwSU 1 hts gX6_isA_X0_isA_s7 rfl rfl rfl (by decide +kernel) ⟨Nat.le_of_ble_eq_true rfl, Nat.le_of_ble_eq_true rfl⟩) (gPreV (wc := [(q_this, .inr (6, []))]) (q := (RX6, TX6, 0)) (ci := 6) (q0 := 0) (isC := [0]) hK hX hS hA hP hD ⟨rfl, trivial⟩ (by decide +kernel) rfl rfl) rfl rfl hl.1 rfl (lv_room (Nat.le_of_ble_eq_true rfl)) dX6_isA_7 ⟨Nat.le_of_ble_eq_true rfl, Nat.le_of_ble_eq_true rfl⟩) (fun H locs hP hS => ?_)
    refine lv_if_eq (tgt := 17) hx hb dX6_isA_10 (by decide) (fun c_4 => ?_) (fun c_4 => ?_)
    · have h := it_t c_4 h
      refine lv_iconst (v := 0) hx hb dX6_isA_17 (by decide) ?_
      replace h := so1 h
      subst h
      exact gIret hF hP hD hS rfl dX6_isA_18
    · have h := it_f c_4 h
      refine lv_iconst (v := 1) hx hb dX6_isA_13 (by decide) ?_
      refine lv_goto (tgt := 18) hx hb dX6_isA_14 (by decide) ?_
      replace h := so1 h
      subst h
      exact gIret hF hP hD hS rfl dX6_isA_18
def f_X8_isA_X2 (a_1 : Int32) : Option (Int32) :=
  if a_1 = 0 then
    some 1
  else
    some 0

abbrev rm_X8_isA_X2 : Room := { frames := 0, cells := 0, slots := 0, locals := 0 }
set_option maxHeartbeats 4000000 in
set_option maxRecDepth 100000 in
theorem c_X8_isA_X2 (l : Launch) (D : va_G) (c : Nat → ClassId) (q_this : Nat) (a_1 : Int32) (o_r : Int32) (h : f_X8_isA_X2 a_1 = some o_r) : gMI l yX8_isA wsX8_isA rm_X8_isA_X2 D c [.ref q_this, .int a_1] [] [] o_r := by
  refine gMI_of (cc := cX8_isA) (maxL := 2) (rt := (some .boolean)) (by decide +kernel) rfl (Nat.le_of_ble_eq_true rfl) ?_
  intro p e s m below meth co A hF hK hX hP hD hA hS ls hl
  obtain ⟨hx, hb, hr, hts, hown, hlocks, hml⟩ := id hF
  have hl : lv_has ls 2 [(0, .ref q_this), (1, .int a_1)] := hl
  unfold f_X8_isA_X2 at h
  refine lv_iload_n hx hb dX8_isA_0 rfl (lv_at hl 1 rfl) ?_
  refine lv_if_ne (tgt := 8) hx hb dX8_isA_1 (by decide) (fun c_1 => ?_) (fun c_1 => ?_)
  · have h := it_f c_1 h
    refine lv_iconst (v := 0) hx hb dX8_isA_8 (by decide) ?_
    replace h := so1 h
    subst h
    exact gIret hF hP hD hS rfl dX8_isA_9
  · have h := it_t c_1 h
    refine lv_iconst (v := 1) hx hb dX8_isA_4 (by decide) ?_
    refine lv_goto (tgt := 9) hx hb dX8_isA_5 (by decide) ?_
    replace h := so1 h
    subst h
    exact gIret hF hP hD hS rfl dX8_isA_9
def f_X4_isA_X2 (a_1 : Int32) : Option (Int32) :=
  if a_1 = 2 then
    some 1
  else
    kb (f_X8_isA_X2 a_1) fun r_3 =>
    if r_3 = 0 then
      some 0
    else
      some 1

abbrev rm_X4_isA_X2 : Room := { frames := 1, cells := 0, slots := 0, locals := 21 }
set_option maxHeartbeats 4000000 in
set_option maxRecDepth 100000 in
theorem c_X4_isA_X2 (l : Launch) (D : va_G) (c : Nat → ClassId) (q_this : Nat) (a_1 : Int32) (o_r : Int32) (h : f_X4_isA_X2 a_1 = some o_r) : gMI l yX4_isA wsX4_isA rm_X4_isA_X2 D c [.ref q_this, .int a_1] [(q_this, .inr (2, []))] [(q_this, .inr (2, []))] o_r := by
  refine gMI_of (cc := cX4_isA) (maxL := 2) (rt := (some .boolean)) (by decide +kernel) rfl (Nat.le_of_ble_eq_true rfl) ?_
  intro p e s m below meth co A hF hK hX hP hD hA hS ls hl
  obtain ⟨hx, hb, hr, hts, hown, hlocks, hml⟩ := id hF
  have hl : lv_has ls 2 [(0, .ref q_this), (1, .int a_1)] := hl
  unfold f_X4_isA_X2 at h
  refine lv_iload_n hx hb dX4_isA_0 rfl (lv_at hl 1 rfl) ?_
  refine lv_iconst (v := 2) hx hb dX4_isA_1 (by decide) ?_
  refine lv_icmp_eq (tgt := 13) hx hb dX4_isA_2 (by decide) (fun c_1 => ?_) (fun c_1 => ?_)
  · have h := it_t c_1 h
    refine lv_iconst (v := 1) hx hb dX4_isA_13 (by decide) ?_
    refine lv_goto (tgt := 18) hx hb dX4_isA_14 (by decide) ?_
    replace h := so1 h
    subst h
    exact gIret hF hP hD hS rfl dX4_isA_18
  · have h := it_f c_1 h
    refine lv_aload_n hx hb dX4_isA_5 rfl (lv_at hl 0 rfl) ?_
    refine lv_iload_n hx hb dX4_isA_6 rfl (lv_at hl 1 rfl) ?_
    obtain ⟨r_3, hc_2, h⟩ := kb_ok h
    refine gCallIr (isC := []) (wc := []) hP hD hS hA trivial (va_runSU (rm := rm_X8_isA_X2) (ws := wsX8_isA) (As := [.int a_1]) (rest := []) (hK.1.1 2 _ rfl).2 (gFix hF) (c_X8_isA_X2 l D c q_this a_1 r_3 hc_2 s.heap.size) (va_cwSU 1 hts gX4_isA_X8_isA_s7 rfl rfl rfl (by decide +kernel) ⟨Nat.le_of_ble_eq_true rfl, Nat.le_of_ble_eq_true rfl⟩) (gPreV (wc := []) (q := (RX2, TX2, 0)) (ci := 2) (q0 := 0) (isC := []) hK hX hS hA hP hD trivial (by decide +kernel) rfl rfl) rfl rfl hl.1 rfl (lv_room (Nat.le_of_ble_eq_true rfl)) dX4_isA_7 ⟨Nat.le_of_ble_eq_true rfl, Nat.le_of_ble_eq_true rfl⟩) (fun H locs hP hS => ?_)
    refine lv_if_eq (tgt := 17) hx hb dX4_isA_10 (by decide) (fun c_4 => ?_) (fun c_4 => ?_)
    · have h := it_t c_4 h
      refine lv_iconst (v := 0) hx hb dX4_isA_17 (by decide) ?_
      replace h := so1 h
      subst h
      exact gIret hF hP hD hS rfl dX4_isA_18
    · have h := it_f c_4 h
      refine lv_iconst (v := 1) hx hb dX4_isA_13 (by decide) ?_
      refine lv_goto (tgt := 18) hx hb dX4_isA_14 (by decide) ?_
      replace h := so1 h
      subst h
      exact gIret hF hP hD hS rfl dX4_isA_18
def f_X2_isA_X2 (a_1 : Int32) : Option (Int32) :=
  if a_1 = 5 then
    some 1
  else
    kb (f_X4_isA_X2 a_1) fun r_3 =>
    if r_3 = 0 then
      some 0
    else
      some 1

abbrev rm_X2_isA_X2 : Room := { frames := 2, cells := 0, slots := 0, locals := 42 }
set_option maxHeartbeats 4000000 in
set_option maxRecDepth 100000 in
theorem c_X2_isA_X2 (l : Launch) (D : va_G) (c : Nat → ClassId) (q_this : Nat) (a_1 : Int32) (o_r : Int32) (h : f_X2_isA_X2 a_1 = some o_r) : gMI l yX2_isA wsX2_isA rm_X2_isA_X2 D c [.ref q_this, .int a_1] [(q_this, .inr (2, []))] [(q_this, .inr (2, []))] o_r := by
  refine gMI_of (cc := cX2_isA) (maxL := 2) (rt := (some .boolean)) (by decide +kernel) rfl (Nat.le_of_ble_eq_true rfl) ?_
  intro p e s m below meth co A hF hK hX hP hD hA hS ls hl
  obtain ⟨hx, hb, hr, hts, hown, hlocks, hml⟩ := id hF
  have hl : lv_has ls 2 [(0, .ref q_this), (1, .int a_1)] := hl
  unfold f_X2_isA_X2 at h
  refine lv_iload_n hx hb dX2_isA_0 rfl (lv_at hl 1 rfl) ?_
  refine lv_iconst (v := 5) hx hb dX2_isA_1 (by decide) ?_
  refine lv_icmp_eq (tgt := 13) hx hb dX2_isA_2 (by decide) (fun c_1 => ?_) (fun c_1 => ?_)
  · have h := it_t c_1 h
    refine lv_iconst (v := 1) hx hb dX2_isA_13 (by decide) ?_
    refine lv_goto (tgt := 18) hx hb dX2_isA_14 (by decide) ?_
    replace h := so1 h
    subst h
    exact gIret hF hP hD hS rfl dX2_isA_18
  · have h := it_f c_1 h
    refine lv_aload_n hx hb dX2_isA_5 rfl (lv_at hl 0 rfl) ?_
    refine lv_iload_n hx hb dX2_isA_6 rfl (lv_at hl 1 rfl) ?_
    obtain ⟨r_3, hc_2, h⟩ := kb_ok h
    refine gCallIr (isC := [0]) (wc := [(q_this, .inr (2, []))]) hP hD hS hA ⟨rfl, trivial⟩ (va_runSU (rm := rm_X4_isA_X2) (ws := wsX4_isA) (As := [.int a_1]) (rest := []) (hK.1.1 2 _ rfl).2 (gFix hF) (c_X4_isA_X2 l D c q_this a_1 r_3 hc_2 s.heap.size) (va_cwSU 1 hts gX2_isA_X4_isA_s7 rfl rfl rfl (by decide +kernel) ⟨Nat.le_of_ble_eq_true rfl, Nat.le_of_ble_eq_true rfl⟩) (gPreV (wc := [(q_this, .inr (2, []))]) (q := (RX2, TX2, 0)) (ci := 2) (q0 := 0) (isC := [0]) hK hX hS hA hP hD ⟨rfl, trivial⟩ (by decide +kernel) rfl rfl) rfl rfl hl.1 rfl (lv_room (Nat.le_of_ble_eq_true rfl)) dX2_isA_7 ⟨Nat.le_of_ble_eq_true rfl, Nat.le_of_ble_eq_true rfl⟩) (fun H locs hP hS => ?_)
    refine lv_if_eq (tgt := 17) hx hb dX2_isA_10 (by decide) (fun c_4 => ?_) (fun c_4 => ?_)
    · have h := it_t c_4 h
      refine lv_iconst (v := 0) hx hb dX2_isA_17 (by decide) ?_
      replace h := so1 h
      subst h
      exact gIret hF hP hD hS rfl dX2_isA_18
    · have h := it_f c_4 h
      refine lv_iconst (v := 1) hx hb dX2_isA_13 (by decide) ?_
      refine lv_goto (tgt := 18) hx hb dX2_isA_14 (by decide) ?_
      replace h := so1 h
      subst h
      exact gIret hF hP hD hS rfl dX2_isA_18
def f_X8_isA_X1 (a_1 : Int32) : Option (Int32) :=
  if a_1 = 0 then
    some 1
  else
    some 0

abbrev rm_X8_isA_X1 : Room := { frames := 0, cells := 0, slots := 0, locals := 0 }
set_option maxHeartbeats 4000000 in
set_option maxRecDepth 100000 in
theorem c_X8_isA_X1 (l : Launch) (D : va_G) (c : Nat → ClassId) (q_this : Nat) (a_1 : Int32) (o_r : Int32) (h : f_X8_isA_X1 a_1 = some o_r) : gMI l yX8_isA wsX8_isA rm_X8_isA_X1 D c [.ref q_this, .int a_1] [] [] o_r := by
  refine gMI_of (cc := cX8_isA) (maxL := 2) (rt := (some .boolean)) (by decide +kernel) rfl (Nat.le_of_ble_eq_true rfl) ?_
  intro p e s m below meth co A hF hK hX hP hD hA hS ls hl
  obtain ⟨hx, hb, hr, hts, hown, hlocks, hml⟩ := id hF
  have hl : lv_has ls 2 [(0, .ref q_this), (1, .int a_1)] := hl
  unfold f_X8_isA_X1 at h
  refine lv_iload_n hx hb dX8_isA_0 rfl (lv_at hl 1 rfl) ?_
  refine lv_if_ne (tgt := 8) hx hb dX8_isA_1 (by decide) (fun c_1 => ?_) (fun c_1 => ?_)
  · have h := it_f c_1 h
    refine lv_iconst (v := 0) hx hb dX8_isA_8 (by decide) ?_
    replace h := so1 h
    subst h
    exact gIret hF hP hD hS rfl dX8_isA_9
  · have h := it_t c_1 h
    refine lv_iconst (v := 1) hx hb dX8_isA_4 (by decide) ?_
    refine lv_goto (tgt := 9) hx hb dX8_isA_5 (by decide) ?_
    replace h := so1 h
    subst h
    exact gIret hF hP hD hS rfl dX8_isA_9
