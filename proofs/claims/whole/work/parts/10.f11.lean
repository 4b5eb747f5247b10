def f_X8_sayTears_X5 (a_1 : Int32) (v_p2_n : Int32) (v_p2_m : Int32) (v_p2_length : Int32) (v_p2_bodies : Nat → Int32) : Option (Int32 × Int32 × (Nat → Int32)) :=
  kb2 (f_X9_begin 12 v_p2_length v_p2_bodies) fun w_2 w_3 =>
  some (a_1 - v_p2_m, w_2, w_3)

abbrev rm_X8_sayTears_X5 : Room := { frames := 1, cells := 0, slots := 0, locals := 21 }
set_option maxHeartbeats 4000000 in
set_option maxRecDepth 100000 in
theorem c_X8_sayTears_X5 (l : Launch) (D : va_G) (c : Nat → ClassId) (q_this q_p2 q_p2_bodies : Nat) (a_1 : Int32) (v_p2_n : Int32) (v_p2_m : Int32) (v_p2_length : Int32) (v_p2_bodies : Nat → Int32) (o_r : Int32) (o_v_p2_length : Int32) (o_v_p2_bodies : Nat → Int32) (h : f_X8_sayTears_X5 a_1 v_p2_n v_p2_m v_p2_length v_p2_bodies = some (o_r, o_v_p2_length, o_v_p2_bodies)) : gMI l yX8_sayTears wsX8_sayTears rm_X8_sayTears_X5 D c [.ref q_this, .int a_1, .ref q_p2] [(q_this, .inr (5, [])), (q_p2, .inr (9, [.int v_p2_n, .int v_p2_m, .ref q_p2_bodies, .int v_p2_length])), (q_p2_bodies, .inl (c 0, 40, .inl v_p2_bodies))] [(q_this, .inr (5, [])), (q_p2, .inr (9, [.int v_p2_n, .int v_p2_m, .ref q_p2_bodies, .int o_v_p2_length])), (q_p2_bodies, .inl (c 0, 40, .inl o_v_p2_bodies))] o_r := by
  refine gMI_of (cc := cX8_sayTears) (maxL := 3) (rt := (some .int)) (by decide +kernel) rfl (Nat.le_of_ble_eq_true rfl) ?_
  intro p e s m below meth co A hF hK hX hP hD hA hS ls hl
  obtain ⟨hx, hb, hr, hts, hown, hlocks, hml⟩ := id hF
  have hl : lv_has ls 3 [(0, .ref q_this), (1, .int a_1), (2, .ref q_p2)] := hl
  unfold f_X8_sayTears_X5 at h
  refine lv_aload_n hx hb dX8_sayTears_0 rfl (lv_at hl 2 rfl) ?_
  refine lv_bipush (v := 12) hx hb dX8_sayTears_1 (by decide) ?_
  obtain ⟨w_2, w_3, hc_1, h⟩ := kb2_ok h
  refine gCallV (isC := [1, 2]) (wc := [(q_p2, .inr (9, [.int v_p2_n, .int v_p2_m, .ref q_p2_bodies, .int v_p2_length])), (q_p2_bodies, .inl (c 0, 40, .inl v_p2_bodies))]) (w1 := [(q_p2, .inr (9, [.int v_p2_n, .int v_p2_m, .ref q_p2_bodies, .int w_2])), (q_p2_bodies, .inl (c 0, 40, .inl w_3))]) hP hD hS hA rfl rfl (va_runV (rm := rm_X9_begin) (ws := wsX9_begin) (As := [.int 12]) (rest := []) (gFix hF) (c_X9_begin l D c q_p2 q_p2_bodies 12 v_p2_n v_p2_m v_p2_length v_p2_bodies w_2 w_3 hc_1 s.heap.size) (cwV 1 hts gX8_sayTears_X9_begin rfl rfl rfl (by decide +kernel) ⟨Nat.le_of_ble_eq_true rfl, Nat.le_of_ble_eq_true rfl⟩) (gPreV (wc := [(q_p2, .inr (9, [.int v_p2_n, .int v_p2_m, .ref q_p2_bodies, .int v_p2_length])), (q_p2_bodies, .inl (c 0, 40, .inl v_p2_bodies))]) (q := (RX9, TX9, 4)) (ci := 9) (q0 := 1) (isC := [1, 2]) hK hX hS hA hP hD rfl (by decide) rfl rfl) rfl rfl hl.1 rfl (lv_room (Nat.le_of_ble_eq_true rfl)) dX8_sayTears_3 ⟨Nat.le_of_ble_eq_true rfl, Nat.le_of_ble_eq_true rfl⟩) (fun H locs hP hD hS => ?_)
  have hP : va_P D gcl [(q_this, .inr (5, [])), (q_p2, .inr (9, [.int v_p2_n, .int v_p2_m, .ref q_p2_bodies, .int w_2])), (q_p2_bodies, .inl (c 0, 40, .inl w_3))] H := hP
  have hD : va_D A [(q_this, .inr (5, [])), (q_p2, .inr (9, [.int v_p2_n, .int v_p2_m, .ref q_p2_bodies, .int w_2])), (q_p2_bodies, .inl (c 0, 40, .inl w_3))] := hD
  refine lv_iload_n hx hb dX8_sayTears_6 rfl (lv_at hl 1 rfl) ?_
  refine lv_aload_n hx hb dX8_sayTears_7 rfl (lv_at hl 2 rfl) ?_
  refine va_getN (D := D) (ci := 9) (v := .int v_p2_m) (C := RX9) (T := TX9) (N := 4) hx hb hts in_X8_sayTears_X9 hown hK.1 hP 1 rfl rfl 1 (by decide) (va_Nw.use rfl (hK.2 (.fieldLinkNest "PaperBubbles$Tool" 23 "PaperBubbles$Voice" "m" "I" "PaperBubbles") (List.mem_of_getElem? (i := 21) rfl))) (fun _ h9 => h9) rfl dX8_sayTears_8 ?_
  refine lv_isub hx hb dX8_sayTears_11 ?_
  cases h
  exact gIret hF hP hD hS rfl dX8_sayTears_12
def f_X5_sayTears_X5 (a_1 : Int32) (v_p2_n : Int32) (v_p2_m : Int32) (v_p2_length : Int32) (v_p2_bodies : Nat → Int32) : Option (Int32 × Int32 × (Nat → Int32)) :=
  kb2 (f_X9_begin 40 v_p2_length v_p2_bodies) fun w_2 w_3 =>
  kb3 (f_X8_sayTears_X5 a_1 v_p2_n v_p2_m w_2 w_3) fun r_5 w_6 w_7 =>
  some (-r_5, w_6, w_7)

abbrev rm_X5_sayTears_X5 : Room := { frames := 2, cells := 0, slots := 0, locals := 43 }
set_option maxHeartbeats 4000000 in
set_option maxRecDepth 100000 in
theorem c_X5_sayTears_X5 (l : Launch) (D : va_G) (c : Nat → ClassId) (q_this q_p2 q_p2_bodies : Nat) (a_1 : Int32) (v_p2_n : Int32) (v_p2_m : Int32) (v_p2_length : Int32) (v_p2_bodies : Nat → Int32) (o_r : Int32) (o_v_p2_length : Int32) (o_v_p2_bodies : Nat → Int32) (h : f_X5_sayTears_X5 a_1 v_p2_n v_p2_m v_p2_length v_p2_bodies = some (o_r, o_v_p2_length, o_v_p2_bodies)) : gMI l yX5_sayTears wsX5_sayTears rm_X5_sayTears_X5 D c [.ref q_this, .int a_1, .ref q_p2] [(q_this, .inr (5, [])), (q_p2, .inr (9, [.int v_p2_n, .int v_p2_m, .ref q_p2_bodies, .int v_p2_length])), (q_p2_bodies, .inl (c 0, 40, .inl v_p2_bodies))] [(q_this, .inr (5, [])), (q_p2, .inr (9, [.int v_p2_n, .int v_p2_m, .ref q_p2_bodies, .int o_v_p2_length])), (q_p2_bodies, .inl (c 0, 40, .inl o_v_p2_bodies))] o_r := by
  refine gMI_of (cc := cX5_sayTears) (maxL := 3) (rt := (some .int)) (by decide +kernel) rfl (Nat.le_of_ble_eq_true rfl) ?_
  intro p e s m below meth co A hF hK hX hP hD hA hS ls hl
  obtain ⟨hx, hb, hr, hts, hown, hlocks, hml⟩ := id hF
  have hl : lv_has ls 3 [(0, .ref q_this), (1, .int a_1), (2, .ref q_p2)] := hl
  unfold f_X5_sayTears_X5 at h
  refine lv_aload_n hx hb dX5_sayTears_0 rfl (lv_at hl 2 rfl) ?_
  refine lv_bipush (v := 40) hx hb dX5_sayTears_1 (by decide) ?_
  obtain ⟨w_2, w_3, hc_1, h⟩ := kb2_ok h
  refine gCallV (isC := [1, 2]) (wc := [(q_p2, .inr (9, [.int v_p2_n, .int v_p2_m, .ref q_p2_bodies, .int v_p2_length])), (q_p2_bodies, .inl (c 0, 40, .inl v_p2_bodies))]) (w1 := [(q_p2, .inr (9, [.int v_p2_n, .int v_p2_m, .ref q_p2_bodies, .int w_2])), (q_p2_bodies, .inl (c 0, 40, .inl w_3))]) hP hD hS hA rfl rfl (va_runV (rm := rm_X9_begin) (ws := wsX9_begin) (As := [.int 40]) (rest := []) (gFix hF) (c_X9_begin l D c q_p2 q_p2_bodies 40 v_p2_n v_p2_m v_p2_length v_p2_bodies w_2 w_3 hc_1 s.heap.size) (cwV 1 hts gX5_sayTears_X9_begin rfl rfl rfl (by decide +kernel) ⟨Nat.le_of_ble_eq_true rfl, Nat.le_of_ble_eq_true rfl⟩) (gPreV (wc := [(q_p2, .inr (9, [.int v_p2_n, .int v_p2_m, .ref q_p2_bodies, .int v_p2_length])), (q_p2_bodies, .inl (c 0, 40, .inl v_p2_bodies))]) (q := (RX9, TX9, 4)) (ci := 9) (q0 := 1) (isC := [1, 2]) hK hX hS hA hP hD rfl (by decide) rfl rfl) rfl rfl hl.1 rfl (lv_room (Nat.le_of_ble_eq_true rfl)) dX5_sayTears_3 ⟨Nat.le_of_ble_eq_true rfl, Nat.le_of_ble_eq_true rfl⟩) (fun H locs hP hD hS => ?_)
  have hP : va_P D gcl [(q_this, .inr (5, [])), (q_p2, .inr (9, [.int v_p2_n, .int v_p2_m, .ref q_p2_bodies, .int w_2])), (q_p2_bodies, .inl (c 0, 40, .inl w_3))] H := hP
  have hD : va_D A [(q_this, .inr (5, [])), (q_p2, .inr (9, [.int v_p2_n, .int v_p2_m, .ref q_p2_bodies, .int w_2])), (q_p2_bodies, .inl (c 0, 40, .inl w_3))] := hD
  refine lv_aload_n hx hb dX5_sayTears_6 rfl (lv_at hl 0 rfl) ?_
  refine lv_iload_n hx hb dX5_sayTears_7 rfl (lv_at hl 1 rfl) ?_
  refine lv_aload_n hx hb dX5_sayTears_8 rfl (lv_at hl 2 rfl) ?_
  obtain ⟨r_5, w_6, w_7, hc_4, h⟩ := kb3_ok h
  refine gCallI (isC := [0, 1, 2]) (wc := [(q_this, .inr (5, [])), (q_p2, .inr (9, [.int v_p2_n, .int v_p2_m, .ref q_p2_bodies, .int w_2])), (q_p2_bodies, .inl (c 0, 40, .inl w_3))]) (w1 := [(q_this, .inr (5, [])), (q_p2, .inr (9, [.int v_p2_n, .int v_p2_m, .ref q_p2_bodies, .int w_6])), (q_p2_bodies, .inl (c 0, 40, .inl w_7))]) hP hD hS hA rfl rfl (va_runSU (rm := rm_X8_sayTears_X5) (ws := wsX8_sayTears) (As := [.int a_1, .ref q_p2]) (rest := []) (hK.1.1 5 _ rfl).2 (gFix hF) (c_X8_sayTears_X5 l D c q_this q_p2 q_p2_bodies a_1 v_p2_n v_p2_m w_2 w_3 r_5 w_6 w_7 hc_4 H.size) (va_cwSU 2 hts gX5_sayTears_X8_sayTears_s17 rfl rfl rfl (by decide +kernel) ⟨Nat.le_of_ble_eq_true rfl, Nat.le_of_ble_eq_true rfl⟩) (gPreV (wc := [(q_this, .inr (5, [])), (q_p2, .inr (9, [.int v_p2_n, .int v_p2_m, .ref q_p2_bodies, .int w_2])), (q_p2_bodies, .inl (c 0, 40, .inl w_3))]) (q := (RX5, TX5, 0)) (ci := 5) (q0 := 0) (isC := [0, 1, 2]) hK hX hS hA hP hD rfl (by decide) rfl rfl) rfl rfl hl.1 rfl (lv_room (Nat.le_of_ble_eq_true rfl)) dX5_sayTears_9 ⟨Nat.le_of_ble_eq_true rfl, Nat.le_of_ble_eq_true rfl⟩) (fun H locs hP hD hS => ?_)
  have hP : va_P D gcl [(q_this, .inr (5, [])), (q_p2, .inr (9, [.int v_p2_n, .int v_p2_m, .ref q_p2_bodies, .int w_6])), (q_p2_bodies, .inl (c 0, 40, .inl w_7))] H := hP
  have hD : va_D A [(q_this, .inr (5, [])), (q_p2, .inr (9, [.int v_p2_n, .int v_p2_m, .ref q_p2_bodies, .int w_6])), (q_p2_bodies, .inl (c 0, 40, .inl w_7))] := hD
  refine lv_ineg hx hb dX5_sayTears_12 ?_
  cases h
  exact gIret hF hP hD hS rfl dX5_sayTears_13
def f_X8_sayTears_X6 (a_1 : Int32) (v_p2_n : Int32) (v_p2_m : Int32) (v_p2_length : Int32) (v_p2_bodies : Nat → Int32) : Option (Int32 × Int32 × (Nat → Int32)) :=
  kb2 (f_X9_begin 12 v_p2_length v_p2_bodies) fun w_2 w_3 =>
  some (a_1 - v_p2_m, w_2, w_3)

abbrev rm_X8_sayTears_X6 : Room := { frames := 1, cells := 0, slots := 0, locals := 21 }
set_option maxHeartbeats 4000000 in
set_option maxRecDepth 100000 in
theorem c_X8_sayTears_X6 (l : Launch) (D : va_G) (c : Nat → ClassId) (q_this q_p2 q_p2_bodies : Nat) (a_1 : Int32) (v_p2_n : Int32) (v_p2_m : Int32) (v_p2_length : Int32) (v_p2_bodies : Nat → Int32) (o_r : Int32) (o_v_p2_length : Int32) (o_v_p2_bodies : Nat → Int32) (h : f_X8_sayTears_X6 a_1 v_p2_n v_p2_m v_p2_length v_p2_bodies = some (o_r, o_v_p2_length, o_v_p2_bodies)) : gMI l yX8_sayTears wsX8_sayTears rm_X8_sayTears_X6 D c [.ref q_this, .int a_1, .ref q_p2] [(q_this, .inr (6, [])), (q_p2, .inr (9, [.int v_p2_n, .int v_p2_m, .ref q_p2_bodies, .int v_p2_length])), (q_p2_bodies, .inl (c 0, 40, .inl v_p2_bodies))] [(q_this, .inr (6, [])), (q_p2, .inr (9, [.int v_p2_n, .int v_p2_m, .ref q_p2_bodies, .int o_v_p2_length])), (q_p2_bodies, .inl (c 0, 40, .inl o_v_p2_bodies))] o_r := by
  refine gMI_of (cc := cX8_sayTears) (maxL := 3) (rt := (some .int)) (by decide +kernel) rfl (Nat.le_of_ble_eq_true rfl) ?_
  intro p e s m below meth co A hF hK hX hP hD hA hS ls hl
  obtain ⟨hx, hb, hr, hts, hown, hlocks, hml⟩ := id hF
  have hl : lv_has ls 3 [(0, .ref q_this), (1, .int a_1), (2, .ref q_p2)] := hl
  unfold f_X8_sayTears_X6 at h
  refine lv_aload_n hx hb dX8_sayTears_0 rfl (lv_at hl 2 rfl) ?_
  refine lv_bipush (v := 12) hx hb dX8_sayTears_1 (by decide) ?_
  obtain ⟨w_2, w_3, hc_1, h⟩ := kb2_ok h
  refine gCallV (isC := [1, 2]) (wc := [(q_p2, .inr (9, [.int v_p2_n, .int v_p2_m, .ref q_p2_bodies, .int v_p2_length])), (q_p2_bodies, .inl (c 0, 40, .inl v_p2_bodies))]) (w1 := [(q_p2, .inr (9, [.int v_p2_n, .int v_p2_m, .ref q_p2_bodies, .int w_2])), (q_p2_bodies, .inl (c 0, 40, .inl w_3))]) hP hD hS hA rfl rfl (va_runV (rm := rm_X9_begin) (ws := wsX9_begin) (As := [.int 12]) (rest := []) (gFix hF) (c_X9_begin l D c q_p2 q_p2_bodies 12 v_p2_n v_p2_m v_p2_length v_p2_bodies w_2 w_3 hc_1 s.heap.size) (cwV 1 hts gX8_sayTears_X9_begin rfl rfl rfl (by decide +kernel) ⟨Nat.le_of_ble_eq_true rfl, Nat.le_of_ble_eq_true rfl⟩) (gPreV (wc := [(q_p2, .inr (9, [.int v_p2_n, .int v_p2_m, .ref q_p2_bodies, .int v_p2_length])), (q_p2_bodies, .inl (c 0, 40, .inl v_p2_bodies))]) (q := (RX9, TX9, 4)) (ci := 9) (q0 := 1) (isC := [1, 2]) hK hX hS hA hP hD rfl (by decide) rfl rfl) rfl rfl hl.1 rfl (lv_room (Nat.le_of_ble_eq_true rfl)) dX8_sayTears_3 ⟨Nat.le_of_ble_eq_true rfl, Nat.le_of_ble_eq_true rfl⟩) (fun H locs hP hD hS => ?_)
  have hP : va_P D gcl [(q_this, .inr (6, [])), (q_p2, .inr (9, [.int v_p2_n, .int v_p2_m, .ref q_p2_bodies, .int w_2])), (q_p2_bodies, .inl (c 0, 40, .inl w_3))] H := hP
  have hD : va_D A [(q_this, .inr (6, [])), (q_p2, .inr (9, [.int v_p2_n, .int v_p2_m, .ref q_p2_bodies, .int w_2])), (q_p2_bodies, .inl (c 0, 40, .inl w_3))] := hD
  refine lv_iload_n hx hb dX8_sayTears_6 rfl (lv_at hl 1 rfl) ?_
  refine lv_aload_n hx hb dX8_sayTears_7 rfl (lv_at hl 2 rfl) ?_
  refine va_getN (D := D) (ci := 9) (v := .int v_p2_m) (C := RX9) (T := TX9) (N := 4) hx hb hts in_X8_sayTears_X9 hown hK.1 hP 1 rfl rfl 1 (by decide) (va_Nw.use rfl (hK.2 (.fieldLinkNest "PaperBubbles$Tool" 23 "PaperBubbles$Voice" "m" "I" "PaperBubbles") (List.mem_of_getElem? (i := 21) rfl))) (fun _ h9 => h9) rfl dX8_sayTears_8 ?_
  refine lv_isub hx hb dX8_sayTears_11 ?_
  cases h
  exact gIret hF hP hD hS rfl dX8_sayTears_12
def f_X8_sayTears_X1 (a_1 : Int32) (v_p2_n : Int32) (v_p2_m : Int32) (v_p2_length : Int32) (v_p2_bodies : Nat → Int32) : Option (Int32 × Int32 × (Nat → Int32)) :=
  kb2 (f_X9_begin 12 v_p2_length v_p2_bodies) fun w_2 w_3 =>
  some (a_1 - v_p2_m, w_2, w_3)

abbrev rm_X8_sayTears_X1 : Room := { frames := 1, cells := 0, slots := 0, locals := 21 }
set_option maxHeartbeats 4000000 in
set_option maxRecDepth 100000 in
theorem c_X8_sayTears_X1 (l : Launch) (D : va_G) (c : Nat → ClassId) (q_this q_p2 q_p2_bodies : Nat) (a_1 : Int32) (v_p2_n : Int32) (v_p2_m : Int32) (v_p2_length : Int32) (v_p2_bodies : Nat → Int32) (o_r : Int32) (o_v_p2_length : Int32) (o_v_p2_bodies : Nat → Int32) (h : f_X8_sayTears_X1 a_1 v_p2_n v_p2_m v_p2_length v_p2_bodies = some (o_r, o_v_p2_length, o_v_p2_bodies)) : gMI l yX8_sayTears wsX8_sayTears rm_X8_sayTears_X1 D c [.ref q_this, .int a_1, .ref q_p2] [(q_this, .inr (1, [])), (q_p2, .inr (9, [.int v_p2_n, .int v_p2_m, .ref q_p2_bodies, .int v_p2_length])), (q_p2_bodies, .inl (c 0, 40, .inl v_p2_bodies))] [(q_this, .inr (1, [])), (q_p2, .inr (9, [.int v_p2_n, .int v_p2_m, .ref q_p2_bodies, .int o_v_p2_length])), (q_p2_bodies, .inl (c 0, 40, .inl o_v_p2_bodies))] o_r := by
  refine gMI_of (cc := cX8_sayTears) (maxL := 3) (rt := (some .int)) (by decide +kernel) rfl (Nat.le_of_ble_eq_true rfl) ?_
  intro p e s m below meth co A hF hK hX hP hD hA hS ls hl
  obtain ⟨hx, hb, hr, hts, hown, hlocks, hml⟩ := id hF
  have hl : lv_has ls 3 [(0, .ref q_this), (1, .int a_1), (2, .ref q_p2)] := hl
  unfold f_X8_sayTears_X1 at h
  refine lv_aload_n hx hb dX8_sayTears_0 rfl (lv_at hl 2 rfl) ?_
  refine lv_bipush (v := 12) hx hb dX8_sayTears_1 (by decide) ?_
  obtain ⟨w_2, w_3, hc_1, h⟩ := kb2_ok h
  refine gCallV (isC := [1, 2]) (wc := [(q_p2, .inr (9, [.int v_p2_n, .int v_p2_m, .ref q_p2_bodies, .int v_p2_length])), (q_p2_bodies, .inl (c 0, 40, .inl v_p2_bodies))]) (w1 := [(q_p2, .inr (9, [.int v_p2_n, .int v_p2_m, .ref q_p2_bodies, .int w_2])), (q_p2_bodies, .inl (c 0, 40, .inl w_3))]) hP hD hS hA rfl rfl (va_runV (rm := rm_X9_begin) (ws := wsX9_begin) (As := [.int 12]) (rest := []) (gFix hF) (c_X9_begin l D c q_p2 q_p2_bodies 12 v_p2_n v_p2_m v_p2_length v_p2_bodies w_2 w_3 hc_1 s.heap.size) (cwV 1 hts gX8_sayTears_X9_begin rfl rfl rfl (by decide +kernel) ⟨Nat.le_of_ble_eq_true rfl, Nat.le_of_ble_eq_true rfl⟩) (gPreV (wc := [(q_p2, .inr (9, [.int v_p2_n, .int v_p2_m, .ref q_p2_bodies, .int v_p2_length])), (q_p2_bodies, .inl (c 0, 40, .inl v_p2_bodies))]) (q := (RX9, TX9, 4)) (ci := 9) (q0 := 1) (isC := [1, 2]) hK hX hS hA hP hD rfl (by decide) rfl rfl) rfl rfl hl.1 rfl (lv_room (Nat.le_of_ble_eq_true rfl)) dX8_sayTears_3 ⟨Nat.le_of_ble_eq_true rfl, Nat.le_of_ble_eq_true rfl⟩) (fun H locs hP hD hS => ?_)
  have hP : va_P D gcl [(q_this, .inr (1, [])), (q_p2, .inr (9, [.int v_p2_n, .int v_p2_m, .ref q_p2_bodies, .int w_2])), (q_p2_bodies, .inl (c 0, 40, .inl w_3))] H := hP
  have hD : va_D A [(q_this, .inr (1, [])), (q_p2, .inr (9, [.int v_p2_n, .int v_p2_m, .ref q_p2_bodies, .int w_2])), (q_p2_bodies, .inl (c 0, 40, .inl w_3))] := hD
  refine lv_iload_n hx hb dX8_sayTears_6 rfl (lv_at hl 1 rfl) ?_
  refine lv_aload_n hx hb dX8_sayTears_7 rfl (lv_at hl 2 rfl) ?_
  refine va_getN (D := D) (ci := 9) (v := .int v_p2_m) (C := RX9) (T := TX9) (N := 4) hx hb hts in_X8_sayTears_X9 hown hK.1 hP 1 rfl rfl 1 (by decide) (va_Nw.use rfl (hK.2 (.fieldLinkNest "PaperBubbles$Tool" 23 "PaperBubbles$Voice" "m" "I" "PaperBubbles") (List.mem_of_getElem? (i := 21) rfl))) (fun _ h9 => h9) rfl dX8_sayTears_8 ?_
  refine lv_isub hx hb dX8_sayTears_11 ?_
  cases h
  exact gIret hF hP hD hS rfl dX8_sayTears_12
def f_X5_sayTears_X1 (a_1 : Int32) (v_p2_n : Int32) (v_p2_m : Int32) (v_p2_length : Int32) (v_p2_bodies : Nat → Int32) : Option (Int32 × Int32 × (Nat → Int32)) :=
  kb2 (f_X9_begin 40 v_p2_length v_p2_bodies) fun w_2 w_3 =>
  kb3 (f_X8_sayTears_X1 a_1 v_p2_n v_p2_m w_2 w_3) fun r_5 w_6 w_7 =>
  some (-r_5, w_6, w_7)

abbrev rm_X5_sayTears_X1 : Room := { frames := 2, cells := 0, slots := 0, locals := 43 }
set_option maxHeartbeats 4000000 in
set_option maxRecDepth 100000 in
theorem c_X5_sayTears_X1 (l : Launch) (D : va_G) (c : Nat → ClassId) (q_this q_p2 q_p2_bodies : Nat) (a_1 : Int32) (v_p2_n : Int32) (v_p2_m : Int32) (v_p2_length : Int32) (v_p2_bodies : Nat → Int32) (o_r : Int32) (o_v_p2_length : Int32) (o_v_p2_bodies : Nat → Int32) (h : f_X5_sayTears_X1 a_1 v_p2_n v_p2_m v_p2_length v_p2_bodies = some (o_r, o_v_p2_length, o_v_p2_bodies)) : gMI l yX5_sayTears wsX5_sayTears rm_X5_sayTears_X1 D c [.ref q_this, .int a_1, .ref q_p2] [(q_this, .inr (1, [])), (q_p2, .inr (9, [.int v_p2_n, .int v_p2_m, .ref q_p2_bodies, .int v_p2_length])), (q_p2_bodies, .inl (c 0, 40, .inl v_p2_bodies))] [(q_this, .inr (1, [])), (q_p2, .inr (9, [.int v_p2_n, .int v_p2_m, .ref q_p2_bodies, .int o_v_p2_length])), (q_p2_bodies, .inl (c 0, 40, .inl o_v_p2_bodies))] o_r := by
  refine gMI_of (cc := cX5_sayTears) (maxL := 3) (rt := (some .int)) (by decide +kernel) rfl (Nat.le_of_ble_eq_true rfl) ?_
  intro p e s m below meth co A hF hK hX hP hD hA hS ls hl
  obtain ⟨hx, hb, hr, hts, hown, hlocks, hml⟩ := id hF
  have hl : lv_has ls 3 [(0, .ref q_this), (1, .int a_1), (2, .ref q_p2)] := hl
  unfold f_X5_sayTears_X1 at h
  refine lv_aload_n hx hb dX5_sayTears_0 rfl (lv_at hl 2 rfl) ?_
  refine lv_bipush (v := 40) hx hb dX5_sayTears_1 (by decide) ?_
  obtain ⟨w_2, w_3, hc_1, h⟩ := kb2_ok h
  refine gCallV (isC := [1, 2]) (wc := [(q_p2, .inr (9, [.int v_p2_n, .int v_p2_m, .ref q_p2_bodies, .int v_p2_length])), (q_p2_bodies, .inl (c 0, 40, .inl v_p2_bodies))]) (w1 := [(q_p2, .inr (9, [.int v_p2_n, .int v_p2_m, .ref q_p2_bodies, .int w_2])), (q_p2_bodies, .inl (c 0, 40, .inl w_3))]) hP hD hS hA rfl rfl (va_runV (rm := rm_X9_begin) (ws := wsX9_begin) (As := [.int 40]) (rest := []) (gFix hF) (c_X9_begin l D c q_p2 q_p2_bodies 40 v_p2_n v_p2_m v_p2_length v_p2_bodies w_2 w_3 hc_1 s.heap.size) (cwV 1 hts gX5_sayTears_X9_begin rfl rfl rfl (by decide +kernel) ⟨Nat.le_of_ble_eq_true rfl, Nat.le_of_ble_eq_true rfl⟩) (gPreV (wc := [(q_p2, .inr (9, [.int v_p2_n, .int v_p2_m, .ref q_p2_bodies, .int v_p2_length])), (q_p2_bodies, .inl (c 0, 40, .inl v_p2_bodies))]) (q := (RX9, TX9, 4)) (ci := 9) (q0 := 1) (isC := [1, 2]) hK hX hS hA hP hD rfl (by decide) rfl rfl) rfl rfl hl.1 rfl (lv_room (Nat.le_of_ble_eq_true rfl)) dX5_sayTears_3 ⟨Nat.le_of_ble_eq_true rfl, Nat.le_of_ble_eq_true rfl⟩) (fun H locs hP hD hS => ?_)
  have hP : va_P D gcl [(q_this, .inr (1, [])), (q_p2, .inr (9, [.int v_p2_n, .int v_p2_m, .ref q_p2_bodies, .int w_2])), (q_p2_bodies, .inl (c 0, 40, .inl w_3))] H := hP
  have hD : va_D A [(q_this, .inr (1, [])), (q_p2, .inr (9, [.int v_p2_n, .int v_p2_m, .ref q_p2_bodies, .int w_2])), (q_p2_bodies, .inl (c 0, 40, .inl w_3))] := hD
  refine lv_aload_n hx hb dX5_sayTears_6 rfl (lv_at hl 0 rfl) ?_
  refine lv_iload_n hx hb dX5_sayTears_7 rfl (lv_at hl 1 rfl) ?_
  refine lv_aload_n hx hb dX5_sayTears_8 rfl (lv_at hl 2 rfl) ?_
  obtain ⟨r_5, w_6, w_7, hc_4, h⟩ := kb3_ok h
  refine gCallI (isC := [0, 1, 2]) (wc := [(q_this, .inr (1, [])), (q_p2, .inr (9, [.int v_p2_n, .int v_p2_m, .ref q_p2_bodies, .int w_2])), (q_p2_bodies, .inl (c 0, 40, .inl w_3))]) (w1 := [(q_this, .inr (1, [])), (q_p2, .inr (9, [.int v_p2_n, .int v_p2_m, .ref q_p2_bodies, .int w_6])), (q_p2_bodies, .inl (c 0, 40, .inl w_7))]) hP hD hS hA rfl rfl (va_runSU (rm := rm_X8_sayTears_X1) (ws := wsX8_sayTears) (As := [.int a_1, .ref q_p2]) (rest := []) (hK.1.1 1 _ rfl).2 (gFix hF) (c_X8_sayTears_X1 l D c q_this q_p2 q_p2_bodies a_1 v_p2_n v_p2_m w_2 w_3 r_5 w_6 w_7 hc_4 H.size) (va_cwSU 2 hts gX5_sayTears_X8_sayTears_s17 rfl rfl rfl (by decide +kernel) ⟨Nat.le_of_ble_eq_true rfl, Nat.le_of_ble_eq_true rfl⟩) (gPreV (wc := [(q_this, .inr (1, [])), (q_p2, .inr (9, [.int v_p2_n, .int v_p2_m, .ref q_p2_bodies, .int w_2])), (q_p2_bodies, .inl (c 0, 40, .inl w_3))]) (q := (RX1, TX1, 0)) (ci := 1) (q0 := 0) (isC := [0, 1, 2]) hK hX hS hA hP hD rfl (by decide) rfl rfl) rfl rfl hl.1 rfl (lv_room (Nat.le_of_ble_eq_true rfl)) dX5_sayTears_9 ⟨Nat.le_of_ble_eq_true rfl, Nat.le_of_ble_eq_true rfl⟩) (fun H locs hP hD hS => ?_)
  have hP : va_P D gcl [(q_this, .inr (1, [])), (q_p2, .inr (9, [.int v_p2_n, .int v_p2_m, .ref q_p2_bodies, .int w_6])), (q_p2_bodies, .inl (c 0, 40, .inl w_7))] H := hP
  have hD : va_D A [(q_this, .inr (1, [])), (q_p2, .inr (9, [.int v_p2_n, .int v_p2_m, .ref q_p2_bodies, .int w_6])), (q_p2_bodies, .inl (c 0, 40, .inl w_7))] := hD
  refine lv_ineg hx hb dX5_sayTears_12 ?_
  cases h
  exact gIret hF hP hD hS rfl dX5_sayTears_13
set_option maxRecDepth 20000 in
theorem in_X1_sayTears_X9 : ∀ w ∈ u_ws RX9 TX9 4, w ∈ wsX1_sayTears := by decide +kernel
def f_X1_sayTears_X1 (a_1 : Int32) (v_p2_n : Int32) (v_p2_m : Int32) (v_p2_length : Int32) (v_p2_bodies : Nat → Int32) : Option (Int32 × Int32 × (Nat → Int32)) :=
  kb2 (f_X9_begin 70 v_p2_length v_p2_bodies) fun w_2 w_3 =>
  kb3 (f_X5_sayTears_X1 a_1 v_p2_n v_p2_m w_2 w_3) fun r_5 w_6 w_7 =>
  some (r_5 ^^^ v_p2_n, w_6, w_7)

abbrev rm_X1_sayTears_X1 : Room := { frames := 3, cells := 0, slots := 0, locals := 65 }
set_option maxHeartbeats 4000000 in
set_option maxRecDepth 100000 in
theorem c_X1_sayTears_X1 (l : Launch) (D : va_G) (c : Nat → ClassId) (q_this q_p2 q_p2_bodies : Nat) (a_1 : Int32) (v_p2_n : Int32) (v_p2_m : Int32) (v_p2_length : Int32) (v_p2_bodies : Nat → Int32) (o_r : Int32) (o_v_p2_length : Int32) (o_v_p2_bodies : Nat → Int32) (h : f_X1_sayTears_X1 a_1 v_p2_n v_p2_m v_p2_length v_p2_bodies = some (o_r, o_v_p2_length, o_v_p2_bodies)) : gMI l yX1_sayTears wsX1_sayTears rm_X1_sayTears_X1 D c [.ref q_this, .int a_1, .ref q_p2] [(q_this, .inr (1, [])), (q_p2, .inr (9, [.int v_p2_n, .int v_p2_m, .ref q_p2_bodies, .int v_p2_length])), (q_p2_bodies, .inl (c 0, 40, .inl v_p2_bodies))] [(q_this, .inr (1, [])), (q_p2, .inr (9, [.int v_p2_n, .int v_p2_m, .ref q_p2_bodies, .int o_v_p2_length])), (q_p2_bodies, .inl (c 0, 40, .inl o_v_p2_bodies))] o_r := by
  refine gMI_of (cc := cX1_sayTears) (maxL := 3) (rt := (some .int)) (by decide +kernel) rfl (Nat.le_of_ble_eq_true rfl) ?_
  intro p e s m below meth co A hF hK hX hP hD hA hS ls hl
  obtain ⟨hx, hb, hr, hts, hown, hlocks, hml⟩ := id hF
  have hl : lv_has ls 3 [(0, .ref q_this), (1, .int a_1), (2, .ref q_p2)] := hl
  unfold f_X1_sayTears_X1 at h
  refine lv_aload_n hx hb dX1_sayTears_0 rfl (lv_at hl 2 rfl) ?_
  refine lv_bipush (v := 70) hx hb dX1_sayTears_1 (by decide) ?_
  obtain ⟨w_2, w_3, hc_1, h⟩ := kb2_ok h
  refine gCallV (isC := [1, 2]) (wc := [(q_p2, .inr (9, [.int v_p2_n, .int v_p2_m, .ref q_p2_bodies, .int v_p2_length])), (q_p2_bodies, .inl (c 0, 40, .inl v_p2_bodies))]) (w1 := [(q_p2, .inr (9, [.int v_p2_n, .int v_p2_m, .ref q_p2_bodies, .int w_2])), (q_p2_bodies, .inl (c 0, 40, .inl w_3))]) hP hD hS hA rfl rfl (va_runV (rm := rm_X9_begin) (ws := wsX9_begin) (As := [.int 70]) (rest := []) (gFix hF) (c_X9_begin l D c q_p2 q_p2_bodies 70 v_p2_n v_p2_m v_p2_length v_p2_bodies w_2 w_3 hc_1 s.heap.size) (cwV 1 hts gX1_sayTears_X9_begin rfl rfl rfl (by decide +kernel) ⟨Nat.le_of_ble_eq_true rfl, Nat.le_of_ble_eq_true rfl⟩) (gPreV (wc := [(q_p2, .inr (9, [.int v_p2_n, .int v_p2_m, .ref q_p2_bodies, .int v_p2_length])), (q_p2_bodies, .inl (c 0, 40, .inl v_p2_bodies))]) (q := (RX9, TX9, 4)) (ci := 9) (q0 := 1) (isC := [1, 2]) hK hX hS hA hP hD rfl (by decide) rfl rfl) rfl rfl hl.1 rfl (lv_room (Nat.le_of_ble_eq_true rfl)) dX1_sayTears_3 ⟨Nat.le_of_ble_eq_true rfl, Nat.le_of_ble_eq_true rfl⟩) (fun H locs hP hD hS => ?_)
  have hP : va_P D gcl [(q_this, .inr (1, [])), (q_p2, .inr (9, [.int v_p2_n, .int v_p2_m, .ref q_p2_bodies, .int w_2])), (q_p2_bodies, .inl (c 0, 40, .inl w_3))] H := hP
  have hD : va_D A [(q_this, .inr (1, [])), (q_p2, .inr (9, [.int v_p2_n, .int v_p2_m, .ref q_p2_bodies, .int w_2])), (q_p2_bodies, .inl (c 0, 40, .inl w_3))] := hD
  refine lv_aload_n hx hb dX1_sayTears_6 rfl (lv_at hl 0 rfl) ?_
  refine lv_iload_n hx hb dX1_sayTears_7 rfl (lv_at hl 1 rfl) ?_
  refine lv_aload_n hx hb dX1_sayTears_8 rfl (lv_at hl 2 rfl) ?_
  obtain ⟨r_5, w_6, w_7, hc_4, h⟩ := kb3_ok h
  refine gCallI (isC := [0, 1, 2]) (wc := [(q_this, .inr (1, [])), (q_p2, .inr (9, [.int v_p2_n, .int v_p2_m, .ref q_p2_bodies, .int w_2])), (q_p2_bodies, .inl (c 0, 40, .inl w_3))]) (w1 := [(q_this, .inr (1, [])), (q_p2, .inr (9, [.int v_p2_n, .int v_p2_m, .ref q_p2_bodies, .int w_6])), (q_p2_bodies, .inl (c 0, 40, .inl w_7))]) hP hD hS hA rfl rfl (va_runSU (rm := rm_X5_sayTears_X1) (ws := wsX5_sayTears) (As := [.int a_1, .ref q_p2]) (rest := []) (hK.1.1 1 _ rfl).2 (gFix hF) (c_X5_sayTears_X1 l D c q_this q_p2 q_p2_bodies a_1 v_p2_n v_p2_m w_2 w_3 r_5 w_6 w_7 hc_4 H.size) (va_cwSU 2 hts gX1_sayTears_X5_sayTears_s31 rfl rfl rfl (by decide +kernel) ⟨Nat.le_of_ble_eq_true rfl, Nat.le_of_ble_eq_true rfl⟩) (gPreV (wc := [(q_this, .inr (1, [])), (q_p2, .inr (9, [.int v_p2_n, .int v_p2_m, .ref q_p2_bodies, .int w_2])), (q_p2_bodies, .inl (c 0, 40, .inl w_3))]) (q := (RX1, TX1, 0)) (ci := 1) (q0 := 0) (isC := [0, 1, 2]) hK hX hS hA hP hD rfl (by decide) rfl rfl) rfl rfl hl.1 rfl (lv_room (Nat.le_of_ble_eq_true rfl)) dX1_sayTears_9 ⟨Nat.le_of_ble_eq_true rfl, Nat.le_of_ble_eq_true rfl⟩) (fun H locs hP hD hS => ?_)
  have hP : va_P D gcl [(q_this, .inr (1, [])), (q_p2, .inr (9, [.int v_p2_n, .int v_p2_m, .ref q_p2_bodies, .int w_6])), (q_p2_bodies, .inl (c 0, 40, .inl w_7))] H := hP
  have hD : va_D A [(q_this, .inr (1, [])), (q_p2, .inr (9, [.int v_p2_n, .int v_p2_m, .ref q_p2_bodies, .int w_6])), (q_p2_bodies, .inl (c 0, 40, .inl w_7))] := hD
  refine lv_aload_n hx hb dX1_sayTears_12 rfl (lv_at hl 2 rfl) ?_
  refine va_getN (D := D) (ci := 9) (v := .int v_p2_n) (C := RX9) (T := TX9) (N := 4) hx hb hts in_X1_sayTears_X9 hown hK.1 hP 1 rfl rfl 0 (by decide) (va_Nw.use rfl (hK.2 (.fieldLinkNest "PaperBubbles$Hard" 35 "PaperBubbles$Voice" "n" "I" "PaperBubbles") (List.mem_of_getElem? (i := 19) rfl))) (fun _ h9 => h9) rfl dX1_sayTears_13 ?_
  refine lv_ixor hx hb dX1_sayTears_16 ?_
  cases h
  exact gIret hF hP hD hS rfl dX1_sayTears_17
def f_TD_sayTears (k : Int32) (a_1 : Int32) (v_p2_n : Int32) (v_p2_m : Int32) (v_p2_length : Int32) (v_p2_bodies : Nat → Int32) : Option (Int32 × Int32 × (Nat → Int32)) :=
  if k = 0 then f_X8_sayTears_X8 a_1 v_p2_n v_p2_m v_p2_length v_p2_bodies else
  if k = 1 then f_X8_sayTears_X0 a_1 v_p2_n v_p2_m v_p2_length v_p2_bodies else
  if k = 2 then f_X8_sayTears_X4 a_1 v_p2_n v_p2_m v_p2_length v_p2_bodies else
  if k = 3 then f_X5_sayTears_X5 a_1 v_p2_n v_p2_m v_p2_length v_p2_bodies else
  if k = 4 then f_X8_sayTears_X6 a_1 v_p2_n v_p2_m v_p2_length v_p2_bodies else
  if k = 5 then f_X8_sayTears_X2 a_1 v_p2_n v_p2_m v_p2_length v_p2_bodies else
  if k = 6 then f_X1_sayTears_X1 a_1 v_p2_n v_p2_m v_p2_length v_p2_bodies else
  none
theorem td_sayTears {k : Int32} {a_1 : Int32} {v_p2_n : Int32} {v_p2_m : Int32} {v_p2_length : Int32} {v_p2_bodies : Nat → Int32} {o : Int32 × Int32 × (Nat → Int32)} (h : f_TD_sayTears k a_1 v_p2_n v_p2_m v_p2_length v_p2_bodies = some o) : (k = 0 ∧ f_X8_sayTears_X8 a_1 v_p2_n v_p2_m v_p2_length v_p2_bodies = some o) ∨ (k = 1 ∧ f_X8_sayTears_X0 a_1 v_p2_n v_p2_m v_p2_length v_p2_bodies = some o) ∨ (k = 2 ∧ f_X8_sayTears_X4 a_1 v_p2_n v_p2_m v_p2_length v_p2_bodies = some o) ∨ (k = 3 ∧ f_X5_sayTears_X5 a_1 v_p2_n v_p2_m v_p2_length v_p2_bodies = some o) ∨ (k = 4 ∧ f_X8_sayTears_X6 a_1 v_p2_n v_p2_m v_p2_length v_p2_bodies = some o) ∨ (k = 5 ∧ f_X8_sayTears_X2 a_1 v_p2_n v_p2_m v_p2_length v_p2_bodies = some o) ∨ (k = 6 ∧ f_X1_sayTears_X1 a_1 v_p2_n v_p2_m v_p2_length v_p2_bodies = some o) := by
  unfold f_TD_sayTears at h
  by_cases c0 : k = 0
  · exact Or.inl ⟨c0, it_t c0 h⟩
  replace h := it_f c0 h
  by_cases c1 : k = 1
  · exact Or.inr (Or.inl ⟨c1, it_t c1 h⟩)
  replace h := it_f c1 h
  by_cases c2 : k = 2
  · exact Or.inr (Or.inr (Or.inl ⟨c2, it_t c2 h⟩))
  replace h := it_f c2 h
  by_cases c3 : k = 3
  · exact Or.inr (Or.inr (Or.inr (Or.inl ⟨c3, it_t c3 h⟩)))
  replace h := it_f c3 h
  by_cases c4 : k = 4
  · exact Or.inr (Or.inr (Or.inr (Or.inr (Or.inl ⟨c4, it_t c4 h⟩))))
  replace h := it_f c4 h
  by_cases c5 : k = 5
  · exact Or.inr (Or.inr (Or.inr (Or.inr (Or.inr (Or.inl ⟨c5, it_t c5 h⟩)))))
  replace h := it_f c5 h
  by_cases c6 : k = 6
  · exact Or.inr (Or.inr (Or.inr (Or.inr (Or.inr (Or.inr (⟨c6, it_t c6 h⟩))))))
  replace h := it_f c6 h
  exact no_ok h

def f_X8_sayTells_X8 (a_1 : Int32) (v_p2_n : Int32) (v_p2_m : Int32) (v_p2_length : Int32) (v_p2_bodies : Nat → Int32) : Option (Int32 × Int32 × (Nat → Int32)) :=
  kb2 (f_X9_begin 13 v_p2_length v_p2_bodies) fun w_2 w_3 =>
  kb3 (f_X8_sayLets_X8 a_1 v_p2_n v_p2_m w_2 w_3) fun r_5 w_6 w_7 =>
  kb3 (f_X8_sayTears_X8 a_1 v_p2_n v_p2_m w_6 w_7) fun r_9 w_10 w_11 =>
  some (r_5 ^^^ r_9, w_10, w_11)

abbrev rm_X8_sayTells_X8 : Room := { frames := 3, cells := 0, slots := 0, locals := 65 }
set_option maxHeartbeats 4000000 in
set_option maxRecDepth 100000 in
theorem c_X8_sayTells_X8 (l : Launch) (D : va_G) (c : Nat → ClassId) (q_this q_p2 q_p2_bodies : Nat) (a_1 : Int32) (v_p2_n : Int32) (v_p2_m : Int32) (v_p2_length : Int32) (v_p2_bodies : Nat → Int32) (o_r : Int32) (o_v_p2_length : Int32) (o_v_p2_bodies : Nat → Int32) (h : f_X8_sayTells_X8 a_1 v_p2_n v_p2_m v_p2_length v_p2_bodies = some (o_r, o_v_p2_length, o_v_p2_bodies)) : gMI l yX8_sayTells wsX8_sayTells rm_X8_sayTells_X8 D c [.ref q_this, .int a_1, .ref q_p2] [(q_this, .inr (8, [])), (q_p2, .inr (9, [.int v_p2_n, .int v_p2_m, .ref q_p2_bodies, .int v_p2_length])), (q_p2_bodies, .inl (c 0, 40, .inl v_p2_bodies))] [(q_this, .inr (8, [])), (q_p2, .inr (9, [.int v_p2_n, .int v_p2_m, .ref q_p2_bodies, .int o_v_p2_length])), (q_p2_bodies, .inl (c 0, 40, .inl o_v_p2_bodies))] o_r := by
  refine gMI_of (cc := cX8_sayTells) (maxL := 3) (rt := (some .int)) (by decide +kernel) rfl (Nat.le_of_ble_eq_true rfl) ?_
  intro p e s m below meth co A hF hK hX hP hD hA hS ls hl
  obtain ⟨hx, hb, hr, hts, hown, hlocks, hml⟩ := id hF
  have hl : lv_has ls 3 [(0, .ref q_this), (1, .int a_1), (2, .ref q_p2)] := hl
  unfold f_X8_sayTells_X8 at h
  refine lv_aload_n hx hb dX8_sayTells_0 rfl (lv_at hl 2 rfl) ?_
  refine lv_bipush (v := 13) hx hb dX8_sayTells_1 (by decide) ?_
  obtain ⟨w_2, w_3, hc_1, h⟩ := kb2_ok h
  refine gCallV (isC := [1, 2]) (wc := [(q_p2, .inr (9, [.int v_p2_n, .int v_p2_m, .ref q_p2_bodies, .int v_p2_length])), (q_p2_bodies, .inl (c 0, 40, .inl v_p2_bodies))]) (w1 := [(q_p2, .inr (9, [.int v_p2_n, .int v_p2_m, .ref q_p2_bodies, .int w_2])), (q_p2_bodies, .inl (c 0, 40, .inl w_3))]) hP hD hS hA rfl rfl (va_runV (rm := rm_X9_begin) (ws := wsX9_begin) (As := [.int 13]) (rest := []) (gFix hF) (c_X9_begin l D c q_p2 q_p2_bodies 13 v_p2_n v_p2_m v_p2_length v_p2_bodies w_2 w_3 hc_1 s.heap.size) (cwV 1 hts gX8_sayTells_X9_begin rfl rfl rfl (by decide +kernel) ⟨Nat.le_of_ble_eq_true rfl, Nat.le_of_ble_eq_true rfl⟩) (gPreV (wc := [(q_p2, .inr (9, [.int v_p2_n, .int v_p2_m, .ref q_p2_bodies, .int v_p2_length])), (q_p2_bodies, .inl (c 0, 40, .inl v_p2_bodies))]) (q := (RX9, TX9, 4)) (ci := 9) (q0 := 1) (isC := [1, 2]) hK hX hS hA hP hD rfl (by decide) rfl rfl) rfl rfl hl.1 rfl (lv_room (Nat.le_of_ble_eq_true rfl)) dX8_sayTells_3 ⟨Nat.le_of_ble_eq_true rfl, Nat.le_of_ble_eq_true rfl⟩) (fun H locs hP hD hS => ?_)
  have hP : va_P D gcl [(q_this, .inr (8, [])), (q_p2, .inr (9, [.int v_p2_n, .int v_p2_m, .ref q_p2_bodies, .int w_2])), (q_p2_bodies, .inl (c 0, 40, .inl w_3))] H := hP
  have hD : va_D A [(q_this, .inr (8, [])), (q_p2, .inr (9, [.int v_p2_n, .int v_p2_m, .ref q_p2_bodies, .int w_2])), (q_p2_bodies, .inl (c 0, 40, .inl w_3))] := hD
  refine lv_aload_n hx hb dX8_sayTells_6 rfl (lv_at hl 0 rfl) ?_
  refine lv_iload_n hx hb dX8_sayTells_7 rfl (lv_at hl 1 rfl) ?_
  refine lv_aload_n hx hb dX8_sayTells_8 rfl (lv_at hl 2 rfl) ?_
  obtain ⟨r_5, w_6, w_7, hc_4, h⟩ := kb3_ok h
  refine gCallI (isC := [0, 1, 2]) (wc := [(q_this, .inr (8, [])), (q_p2, .inr (9, [.int v_p2_n, .int v_p2_m, .ref q_p2_bodies, .int w_2])), (q_p2_bodies, .inl (c 0, 40, .inl w_3))]) (w1 := [(q_this, .inr (8, [])), (q_p2, .inr (9, [.int v_p2_n, .int v_p2_m, .ref q_p2_bodies, .int w_6])), (q_p2_bodies, .inl (c 0, 40, .inl w_7))]) hP hD hS hA rfl rfl (va_runV (rm := rm_X8_sayLets_X8) (ws := wsX8_sayLets) (As := [.int a_1, .ref q_p2]) (rest := []) (gFix hF) (c_X8_sayLets_X8 l D c q_this q_p2 q_p2_bodies a_1 v_p2_n v_p2_m w_2 w_3 r_5 w_6 w_7 hc_4 H.size) (cwV 2 hts gX8_sayTells_X8_sayLets rfl rfl rfl (by decide +kernel) ⟨Nat.le_of_ble_eq_true rfl, Nat.le_of_ble_eq_true rfl⟩) (gPreV (wc := [(q_this, .inr (8, [])), (q_p2, .inr (9, [.int v_p2_n, .int v_p2_m, .ref q_p2_bodies, .int w_2])), (q_p2_bodies, .inl (c 0, 40, .inl w_3))]) (q := (RX8, TX8, 0)) (ci := 8) (q0 := 0) (isC := [0, 1, 2]) hK hX hS hA hP hD rfl (by decide) rfl rfl) rfl rfl hl.1 rfl (lv_room (Nat.le_of_ble_eq_true rfl)) dX8_sayTells_9 ⟨Nat.le_of_ble_eq_true rfl, Nat.le_of_ble_eq_true rfl⟩) (fun H locs hP hD hS => ?_)
  have hP : va_P D gcl [(q_this, .inr (8, [])), (q_p2, .inr (9, [.int v_p2_n, .int v_p2_m, .ref q_p2_bodies, .int w_6])), (q_p2_bodies, .inl (c 0, 40, .inl w_7))] H := hP
  have hD : va_D A [(q_this, .inr (8, [])), (q_p2, .inr (9, [.int v_p2_n, .int v_p2_m, .ref q_p2_bodies, .int w_6])), (q_p2_bodies, .inl (c 0, 40, .inl w_7))] := hD
  refine lv_aload_n hx hb dX8_sayTells_12 rfl (lv_at hl 0 rfl) ?_
  refine lv_iload_n hx hb dX8_sayTells_13 rfl (lv_at hl 1 rfl) ?_
  refine lv_aload_n hx hb dX8_sayTells_14 rfl (lv_at hl 2 rfl) ?_
  obtain ⟨r_9, w_10, w_11, hc_8, h⟩ := kb3_ok h
  refine gCallI (isC := [0, 1, 2]) (wc := [(q_this, .inr (8, [])), (q_p2, .inr (9, [.int v_p2_n, .int v_p2_m, .ref q_p2_bodies, .int w_6])), (q_p2_bodies, .inl (c 0, 40, .inl w_7))]) (w1 := [(q_this, .inr (8, [])), (q_p2, .inr (9, [.int v_p2_n, .int v_p2_m, .ref q_p2_bodies, .int w_10])), (q_p2_bodies, .inl (c 0, 40, .inl w_11))]) hP hD hS hA rfl rfl (va_runV (rm := rm_X8_sayTears_X8) (ws := wsX8_sayTears) (As := [.int a_1, .ref q_p2]) (rest := [.int r_5]) (gFix hF) (c_X8_sayTears_X8 l D c q_this q_p2 q_p2_bodies a_1 v_p2_n v_p2_m w_6 w_7 r_9 w_10 w_11 hc_8 H.size) (cwV 2 hts gX8_sayTells_X8_sayTears rfl rfl rfl (by decide +kernel) ⟨Nat.le_of_ble_eq_true rfl, Nat.le_of_ble_eq_true rfl⟩) (gPreV (wc := [(q_this, .inr (8, [])), (q_p2, .inr (9, [.int v_p2_n, .int v_p2_m, .ref q_p2_bodies, .int w_6])), (q_p2_bodies, .inl (c 0, 40, .inl w_7))]) (q := (RX8, TX8, 0)) (ci := 8) (q0 := 0) (isC := [0, 1, 2]) hK hX hS hA hP hD rfl (by decide) rfl rfl) rfl rfl hl.1 rfl (lv_room (Nat.le_of_ble_eq_true rfl)) dX8_sayTells_15 ⟨Nat.le_of_ble_eq_true rfl, Nat.le_of_ble_eq_true rfl⟩) (fun H locs hP hD hS => ?_)
  have hP : va_P D gcl [(q_this, .inr (8, [])), (q_p2, .inr (9, [.int v_p2_n, .int v_p2_m, .ref q_p2_bodies, .int w_10])), (q_p2_bodies, .inl (c 0, 40, .inl w_11))] H := hP
  have hD : va_D A [(q_this, .inr (8, [])), (q_p2, .inr (9, [.int v_p2_n, .int v_p2_m, .ref q_p2_bodies, .int w_10])), (q_p2_bodies, .inl (c 0, 40, .inl w_11))] := hD
  refine lv_ixor hx hb dX8_sayTells_18 ?_
  cases h
  exact gIret hF hP hD hS rfl dX8_sayTells_19
def f_X8_sayTells_X0 (a_1 : Int32) (v_p2_n : Int32) (v_p2_m : Int32) (v_p2_length : Int32) (v_p2_bodies : Nat → Int32) : Option (Int32 × Int32 × (Nat → Int32)) :=
  kb2 (f_X9_begin 13 v_p2_length v_p2_bodies) fun w_2 w_3 =>
  kb3 (f_X8_sayLets_X0 a_1 v_p2_n v_p2_m w_2 w_3) fun r_5 w_6 w_7 =>
  kb3 (f_X8_sayTears_X0 a_1 v_p2_n v_p2_m w_6 w_7) fun r_9 w_10 w_11 =>
  some (r_5 ^^^ r_9, w_10, w_11)

abbrev rm_X8_sayTells_X0 : Room := { frames := 4, cells := 0, slots := 0, locals := 87 }
set_option maxHeartbeats 4000000 in
set_option maxRecDepth 100000 in
theorem c_X8_sayTells_X0 (l : Launch) (D : va_G) (c : Nat → ClassId) (q_this q_p2 q_p2_bodies : Nat) (a_1 : Int32) (v_p2_n : Int32) (v_p2_m : Int32) (v_p2_length : Int32) (v_p2_bodies : Nat → Int32) (o_r : Int32) (o_v_p2_length : Int32) (o_v_p2_bodies : Nat → Int32) (h : f_X8_sayTells_X0 a_1 v_p2_n v_p2_m v_p2_length v_p2_bodies = some (o_r, o_v_p2_length, o_v_p2_bodies)) : gMI l yX8_sayTells wsX8_sayTells rm_X8_sayTells_X0 D c [.ref q_this, .int a_1, .ref q_p2] [(q_this, .inr (0, [])), (q_p2, .inr (9, [.int v_p2_n, .int v_p2_m, .ref q_p2_bodies, .int v_p2_length])), (q_p2_bodies, .inl (c 0, 40, .inl v_p2_bodies))] [(q_this, .inr (0, [])), (q_p2, .inr (9, [.int v_p2_n, .int v_p2_m, .ref q_p2_bodies, .int o_v_p2_length])), (q_p2_bodies, .inl (c 0, 40, .inl o_v_p2_bodies))] o_r := by
  refine gMI_of (cc := cX8_sayTells) (maxL := 3) (rt := (some .int)) (by decide +kernel) rfl (Nat.le_of_ble_eq_true rfl) ?_
  intro p e s m below meth co A hF hK hX hP hD hA hS ls hl
  obtain ⟨hx, hb, hr, hts, hown, hlocks, hml⟩ := id hF
  have hl : lv_has ls 3 [(0, .ref q_this), (1, .int a_1), (2, .ref q_p2)] := hl
  unfold f_X8_sayTells_X0 at h
  refine lv_aload_n hx hb dX8_sayTells_0 rfl (lv_at hl 2 rfl) ?_
  refine lv_bipush (v := 13) hx hb dX8_sayTells_1 (by decide) ?_
  obtain ⟨w_2, w_3, hc_1, h⟩ := kb2_ok h
  refine gCallV (isC := [1, 2]) (wc := [(q_p2, .inr (9, [.int v_p2_n, .int v_p2_m, .ref q_p2_bodies, .int v_p2_length])), (q_p2_bodies, .inl (c 0, 40, .inl v_p2_bodies))]) (w1 := [(q_p2, .inr (9, [.int v_p2_n, .int v_p2_m, .ref q_p2_bodies, .int w_2])), (q_p2_bodies, .inl (c 0, 40, .inl w_3))]) hP hD hS hA rfl rfl (va_runV (rm := rm_X9_begin) (ws := wsX9_begin) (As := [.int 13]) (rest := []) (gFix hF) (c_X9_begin l D c q_p2 q_p2_bodies 13 v_p2_n v_p2_m v_p2_length v_p2_bodies w_2 w_3 hc_1 s.heap.size) (cwV 1 hts gX8_sayTells_X9_begin rfl rfl rfl (by decide +kernel) ⟨Nat.le_of_ble_eq_true rfl, Nat.le_of_ble_eq_true rfl⟩) (gPreV (wc := [(q_p2, .inr (9, [.int v_p2_n, .int v_p2_m, .ref q_p2_bodies, .int v_p2_length])), (q_p2_bodies, .inl (c 0, 40, .inl v_p2_bodies))]) (q := (RX9, TX9, 4)) (ci := 9) (q0 := 1) (isC := [1, 2]) hK hX hS hA hP hD rfl (by decide) rfl rfl) rfl rfl hl.1 rfl (lv_room (Nat.le_of_ble_eq_true rfl)) dX8_sayTells_3 ⟨Nat.le_of_ble_eq_true rfl, Nat.le_of_ble_eq_true rfl⟩) (fun H locs hP hD hS => ?_)
  have hP : va_P D gcl [(q_this, .inr (0, [])), (q_p2, .inr (9, [.int v_p2_n, .int v_p2_m, .ref q_p2_bodies, .int w_2])), (q_p2_bodies, .inl (c 0, 40, .inl w_3))] H := hP
  have hD : va_D A [(q_this, .inr (0, [])), (q_p2, .inr (9, [.int v_p2_n, .int v_p2_m, .ref q_p2_bodies, .int w_2])), (q_p2_bodies, .inl (c 0, 40, .inl w_3))] := hD
  refine lv_aload_n hx hb dX8_sayTells_6 rfl (lv_at hl 0 rfl) ?_
  refine lv_iload_n hx hb dX8_sayTells_7 rfl (lv_at hl 1 rfl) ?_
  refine lv_aload_n hx hb dX8_sayTells_8 rfl (lv_at hl 2 rfl) ?_
  obtain ⟨r_5, w_6, w_7, hc_4, h⟩ := kb3_ok h
  refine gCallI (isC := [0, 1, 2]) (wc := [(q_this, .inr (0, [])), (q_p2, .inr (9, [.int v_p2_n, .int v_p2_m, .ref q_p2_bodies, .int w_2])), (q_p2_bodies, .inl (c 0, 40, .inl w_3))]) (w1 := [(q_this, .inr (0, [])), (q_p2, .inr (9, [.int v_p2_n, .int v_p2_m, .ref q_p2_bodies, .int w_6])), (q_p2_bodies, .inl (c 0, 40, .inl w_7))]) hP hD hS hA rfl rfl (va_runU (rm := rm_X8_sayLets_X0) (ws := wsX8_sayLets) (As := [.int a_1, .ref q_p2]) (rest := []) (gFix hF) (c_X8_sayLets_X0 l D c q_this q_p2 q_p2_bodies a_1 v_p2_n v_p2_m w_2 w_3 r_5 w_6 w_7 hc_4 H.size) (va_cwU 2 hts gX8_sayTells_X8_sayLets_u26X0 rfl rfl rfl rfl (by decide +kernel) ⟨Nat.le_of_ble_eq_true rfl, Nat.le_of_ble_eq_true rfl⟩) (gPreV (wc := [(q_this, .inr (0, [])), (q_p2, .inr (9, [.int v_p2_n, .int v_p2_m, .ref q_p2_bodies, .int w_2])), (q_p2_bodies, .inl (c 0, 40, .inl w_3))]) (q := (RX0, TX0, 0)) (ci := 0) (q0 := 0) (isC := [0, 1, 2]) hK hX hS hA hP hD rfl (by decide) rfl rfl) rfl rfl hl.1 rfl (lv_room (Nat.le_of_ble_eq_true rfl)) dX8_sayTells_9 ⟨Nat.le_of_ble_eq_true rfl, Nat.le_of_ble_eq_true rfl⟩) (fun H locs hP hD hS => ?_)
  have hP : va_P D gcl [(q_this, .inr (0, [])), (q_p2, .inr (9, [.int v_p2_n, .int v_p2_m, .ref q_p2_bodies, .int w_6])), (q_p2_bodies, .inl (c 0, 40, .inl w_7))] H := hP
  have hD : va_D A [(q_this, .inr (0, [])), (q_p2, .inr (9, [.int v_p2_n, .int v_p2_m, .ref q_p2_bodies, .int w_6])), (q_p2_bodies, .inl (c 0, 40, .inl w_7))] := hD
  refine lv_aload_n hx hb dX8_sayTells_12 rfl (lv_at hl 0 rfl) ?_
  refine lv_iload_n hx hb dX8_sayTells_13 rfl (lv_at hl 1 rfl) ?_
  refine lv_aload_n hx hb dX8_sayTells_14 rfl (lv_at hl 2 rfl) ?_
  obtain ⟨r_9, w_10, w_11, hc_8, h⟩ := kb3_ok h
  refine gCallI (isC := [0, 1, 2]) (wc := [(q_this, .inr (0, [])), (q_p2, .inr (9, [.int v_p2_n, .int v_p2_m, .ref q_p2_bodies, .int w_6])), (q_p2_bodies, .inl (c 0, 40, .inl w_7))]) (w1 := [(q_this, .inr (0, [])), (q_p2, .inr (9, [.int v_p2_n, .int v_p2_m, .ref q_p2_bodies, .int w_10])), (q_p2_bodies, .inl (c 0, 40, .inl w_11))]) hP hD hS hA rfl rfl (va_runU (rm := rm_X8_sayTears_X0) (ws := wsX8_sayTears) (As := [.int a_1, .ref q_p2]) (rest := [.int r_5]) (gFix hF) (c_X8_sayTears_X0 l D c q_this q_p2 q_p2_bodies a_1 v_p2_n v_p2_m w_6 w_7 r_9 w_10 w_11 hc_8 H.size) (va_cwU 2 hts gX8_sayTells_X8_sayTears_u29X0 rfl rfl rfl rfl (by decide +kernel) ⟨Nat.le_of_ble_eq_true rfl, Nat.le_of_ble_eq_true rfl⟩) (gPreV (wc := [(q_this, .inr (0, [])), (q_p2, .inr (9, [.int v_p2_n, .int v_p2_m, .ref q_p2_bodies, .int w_6])), (q_p2_bodies, .inl (c 0, 40, .inl w_7))]) (q := (RX0, TX0, 0)) (ci := 0) (q0 := 0) (isC := [0, 1, 2]) hK hX hS hA hP hD rfl (by decide) rfl rfl) rfl rfl hl.1 rfl (lv_room (Nat.le_of_ble_eq_true rfl)) dX8_sayTells_15 ⟨Nat.le_of_ble_eq_true rfl, Nat.le_of_ble_eq_true rfl⟩) (fun H locs hP hD hS => ?_)
  have hP : va_P D gcl [(q_this, .inr (0, [])), (q_p2, .inr (9, [.int v_p2_n, .int v_p2_m, .ref q_p2_bodies, .int w_10])), (q_p2_bodies, .inl (c 0, 40, .inl w_11))] H := hP
  have hD : va_D A [(q_this, .inr (0, [])), (q_p2, .inr (9, [.int v_p2_n, .int v_p2_m, .ref q_p2_bodies, .int w_10])), (q_p2_bodies, .inl (c 0, 40, .inl w_11))] := hD
  refine lv_ixor hx hb dX8_sayTells_18 ?_
  cases h
  exact gIret hF hP hD hS rfl dX8_sayTells_19
def f_X8_sayTells_X4 (a_1 : Int32) (v_p2_n : Int32) (v_p2_m : Int32) (v_p2_length : Int32) (v_p2_bodies : Nat → Int32) : Option (Int32 × Int32 × (Nat → Int32)) :=
  kb2 (f_X9_begin 13 v_p2_length v_p2_bodies) fun w_2 w_3 =>
  kb3 (f_X4_sayLets_X4 a_1 v_p2_n v_p2_m w_2 w_3) fun r_5 w_6 w_7 =>
  kb3 (f_X8_sayTears_X4 a_1 v_p2_n v_p2_m w_6 w_7) fun r_9 w_10 w_11 =>
  some (r_5 ^^^ r_9, w_10, w_11)

abbrev rm_X8_sayTells_X4 : Room := { frames := 4, cells := 0, slots := 0, locals := 87 }
set_option maxHeartbeats 4000000 in
set_option maxRecDepth 100000 in
theorem c_X8_sayTells_X4 (l : Launch) (D : va_G) (c : Nat → ClassId) (q_this q_p2 q_p2_bodies : Nat) (a_1 : Int32) (v_p2_n : Int32) (v_p2_m : Int32) (v_p2_length : Int32) (v_p2_bodies : Nat → Int32) (o_r : Int32) (o_v_p2_length : Int32) (o_v_p2_bodies : Nat → Int32) (h : f_X8_sayTells_X4 a_1 v_p2_n v_p2_m v_p2_length v_p2_bodies = some (o_r, o_v_p2_length, o_v_p2_bodies)) : gMI l yX8_sayTells wsX8_sayTells rm_X8_sayTells_X4 D c [.ref q_this, .int a_1, .ref q_p2] [(q_this, .inr (4, [])), (q_p2, .inr (9, [.int v_p2_n, .int v_p2_m, .ref q_p2_bodies, .int v_p2_length])), (q_p2_bodies, .inl (c 0, 40, .inl v_p2_bodies))] [(q_this, .inr (4, [])), (q_p2, .inr (9, [.int v_p2_n, .int v_p2_m, .ref q_p2_bodies, .int o_v_p2_length])), (q_p2_bodies, .inl (c 0, 40, .inl o_v_p2_bodies))] o_r := by
  refine gMI_of (cc := cX8_sayTells) (maxL := 3) (rt := (some .int)) (by decide +kernel) rfl (Nat.le_of_ble_eq_true rfl) ?_
  intro p e s m below meth co A hF hK hX hP hD hA hS ls hl
  obtain ⟨hx, hb, hr, hts, hown, hlocks, hml⟩ := id hF
  have hl : lv_has ls 3 [(0, .ref q_this), (1, .int a_1), (2, .ref q_p2)] := hl
  unfold f_X8_sayTells_X4 at h
  refine lv_aload_n hx hb dX8_sayTells_0 rfl (lv_at hl 2 rfl) ?_
  refine lv_bipush (v := 13) hx hb dX8_sayTells_1 (by decide) ?_
  obtain ⟨w_2, w_3, hc_1, h⟩ := kb2_ok h
  refine gCallV (isC := [1, 2]) (wc := [(q_p2, .inr (9, [.int v_p2_n, .int v_p2_m, .ref q_p2_bodies, .int v_p2_length])), (q_p2_bodies, .inl (c 0, 40, .inl v_p2_bodies))]) (w1 := [(q_p2, .inr (9, [.int v_p2_n, .int v_p2_m, .ref q_p2_bodies, .int w_2])), (q_p2_bodies, .inl (c 0, 40, .inl w_3))]) hP hD hS hA rfl rfl (va_runV (rm := rm_X9_begin) (ws := wsX9_begin) (As := [.int 13]) (rest := []) (gFix hF) (c_X9_begin l D c q_p2 q_p2_bodies 13 v_p2_n v_p2_m v_p2_length v_p2_bodies w_2 w_3 hc_1 s.heap.size) (cwV 1 hts gX8_sayTells_X9_begin rfl rfl rfl (by decide +kernel) ⟨Nat.le_of_ble_eq_true rfl, Nat.le_of_ble_eq_true rfl⟩) (gPreV (wc := [(q_p2, .inr (9, [.int v_p2_n, .int v_p2_m, .ref q_p2_bodies, .int v_p2_length])), (q_p2_bodies, .inl (c 0, 40, .inl v_p2_bodies))]) (q := (RX9, TX9, 4)) (ci := 9) (q0 := 1) (isC := [1, 2]) hK hX hS hA hP hD rfl (by decide) rfl rfl) rfl rfl hl.1 rfl (lv_room (Nat.le_of_ble_eq_true rfl)) dX8_sayTells_3 ⟨Nat.le_of_ble_eq_true rfl, Nat.le_of_ble_eq_true rfl⟩) (fun H locs hP hD hS => ?_)
  have hP : va_P D gcl [(q_this, .inr (4, [])), (q_p2, .inr (9, [.int v_p2_n, .int v_p2_m, .ref q_p2_bodies, .int w_2])), (q_p2_bodies, .inl (c 0, 40, .inl w_3))] H := hP
  have hD : va_D A [(q_this, .inr (4, [])), (q_p2, .inr (9, [.int v_p2_n, .int v_p2_m, .ref q_p2_bodies, .int w_2])), (q_p2_bodies, .inl (c 0, 40, .inl w_3))] := hD
  refine lv_aload_n hx hb dX8_sayTells_6 rfl (lv_at hl 0 rfl) ?_
  refine lv_iload_n hx hb dX8_sayTells_7 rfl (lv_at hl 1 rfl) ?_
  refine lv_aload_n hx hb dX8_sayTells_8 rfl (lv_at hl 2 rfl) ?_
  obtain ⟨r_5, w_6, w_7, hc_4, h⟩ := kb3_ok h
  refine gCallI (isC := [0, 1, 2]) (wc := [(q_this, .inr (4, [])), (q_p2, .inr (9, [.int v_p2_n, .int v_p2_m, .ref q_p2_bodies, .int w_2])), (q_p2_bodies, .inl (c 0, 40, .inl w_3))]) (w1 := [(q_this, .inr (4, [])), (q_p2, .inr (9, [.int v_p2_n, .int v_p2_m, .ref q_p2_bodies, .int w_6])), (q_p2_bodies, .inl (c 0, 40, .inl w_7))]) hP hD hS hA rfl rfl (va_runU (rm := rm_X4_sayLets_X4) (ws := wsX4_sayLets) (As := [.int a_1, .ref q_p2]) (rest := []) (gFix hF) (c_X4_sayLets_X4 l D c q_this q_p2 q_p2_bodies a_1 v_p2_n v_p2_m w_2 w_3 r_5 w_6 w_7 hc_4 H.size) (va_cwO 2 hts gX8_sayTells_X4_sayLets_u26X4 rfl rfl rfl (List.mem_of_getElem? (i := 13) (rfl : wsX8_sayTells[13]? = some (.code yX8_sayLets cX8_sayLets 3 (some .int)))) (by decide +kernel) ⟨Nat.le_of_ble_eq_true rfl, Nat.le_of_ble_eq_true rfl⟩) (gPreV (wc := [(q_this, .inr (4, [])), (q_p2, .inr (9, [.int v_p2_n, .int v_p2_m, .ref q_p2_bodies, .int w_2])), (q_p2_bodies, .inl (c 0, 40, .inl w_3))]) (q := (RX4, TX4, 0)) (ci := 4) (q0 := 0) (isC := [0, 1, 2]) hK hX hS hA hP hD rfl (by decide) rfl rfl) rfl rfl hl.1 rfl (lv_room (Nat.le_of_ble_eq_true rfl)) dX8_sayTells_9 ⟨Nat.le_of_ble_eq_true rfl, Nat.le_of_ble_eq_true rfl⟩) (fun H locs hP hD hS => ?_)
  have hP : va_P D gcl [(q_this, .inr (4, [])), (q_p2, .inr (9, [.int v_p2_n, .int v_p2_m, .ref q_p2_bodies, .int w_6])), (q_p2_bodies, .inl (c 0, 40, .inl w_7))] H := hP
  have hD : va_D A [(q_this, .inr (4, [])), (q_p2, .inr (9, [.int v_p2_n, .int v_p2_m, .ref q_p2_bodies, .int w_6])), (q_p2_bodies, .inl (c 0, 40, .inl w_7))] := hD
  refine lv_aload_n hx hb dX8_sayTells_12 rfl (lv_at hl 0 rfl) ?_
  refine lv_iload_n hx hb dX8_sayTells_13 rfl (lv_at hl 1 rfl) ?_
  refine lv_aload_n hx hb dX8_sayTells_14 rfl (lv_at hl 2 rfl) ?_
  obtain ⟨r_9, w_10, w_11, hc_8, h⟩ := kb3_ok h
  refine gCallI (isC := [0, 1, 2]) (wc := [(q_this, .inr (4, [])), (q_p2, .inr (9, [.int v_p2_n, .int v_p2_m, .ref q_p2_bodies, .int w_6])), (q_p2_bodies, .inl (c 0, 40, .inl w_7))]) (w1 := [(q_this, .inr (4, [])), (q_p2, .inr (9, [.int v_p2_n, .int v_p2_m, .ref q_p2_bodies, .int w_10])), (q_p2_bodies, .inl (c 0, 40, .inl w_11))]) hP hD hS hA rfl rfl (va_runU (rm := rm_X8_sayTears_X4) (ws := wsX8_sayTears) (As := [.int a_1, .ref q_p2]) (rest := [.int r_5]) (gFix hF) (c_X8_sayTears_X4 l D c q_this q_p2 q_p2_bodies a_1 v_p2_n v_p2_m w_6 w_7 r_9 w_10 w_11 hc_8 H.size) (va_cwU 2 hts gX8_sayTells_X8_sayTears_u29X4 rfl rfl rfl rfl (by decide +kernel) ⟨Nat.le_of_ble_eq_true rfl, Nat.le_of_ble_eq_true rfl⟩) (gPreV (wc := [(q_this, .inr (4, [])), (q_p2, .inr (9, [.int v_p2_n, .int v_p2_m, .ref q_p2_bodies, .int w_6])), (q_p2_bodies, .inl (c 0, 40, .inl w_7))]) (q := (RX4, TX4, 0)) (ci := 4) (q0 := 0) (isC := [0, 1, 2]) hK hX hS hA hP hD rfl (by decide) rfl rfl) rfl rfl hl.1 rfl (lv_room (Nat.le_of_ble_eq_true rfl)) dX8_sayTells_15 ⟨Nat.le_of_ble_eq_true rfl, Nat.le_of_ble_eq_true rfl⟩) (fun H locs hP hD hS => ?_)
  have hP : va_P D gcl [(q_this, .inr (4, [])), (q_p2, .inr (9, [.int v_p2_n, .int v_p2_m, .ref q_p2_bodies, .int w_10])), (q_p2_bodies, .inl (c 0, 40, .inl w_11))] H := hP
  have hD : va_D A [(q_this, .inr (4, [])), (q_p2, .inr (9, [.int v_p2_n, .int v_p2_m, .ref q_p2_bodies, .int w_10])), (q_p2_bodies, .inl (c 0, 40, .inl w_11))] := hD
  refine lv_ixor hx hb dX8_sayTells_18 ?_
  cases h
  exact gIret hF hP hD hS rfl dX8_sayTells_19
def f_X8_sayTells_X5 (a_1 : Int32) (v_p2_n : Int32) (v_p2_m : Int32) (v_p2_length : Int32) (v_p2_bodies : Nat → Int32) : Option (Int32 × Int32 × (Nat → Int32)) :=
  kb2 (f_X9_begin 13 v_p2_length v_p2_bodies) fun w_2 w_3 =>
  kb3 (f_X8_sayLets_X5 a_1 v_p2_n v_p2_m w_2 w_3) fun r_5 w_6 w_7 =>
  kb3 (f_X5_sayTears_X5 a_1 v_p2_n v_p2_m w_6 w_7) fun r_9 w_10 w_11 =>
  some (r_5 ^^^ r_9, w_10, w_11)

abbrev rm_X8_sayTells_X5 : Room := { frames := 3, cells := 0, slots := 0, locals := 65 }
set_option maxHeartbeats 4000000 in
set_option maxRecDepth 100000 in
theorem c_X8_sayTells_X5 (l : Launch) (D : va_G) (c : Nat → ClassId) (q_this q_p2 q_p2_bodies : Nat) (a_1 : Int32) (v_p2_n : Int32) (v_p2_m : Int32) (v_p2_length : Int32) (v_p2_bodies : Nat → Int32) (o_r : Int32) (o_v_p2_length : Int32) (o_v_p2_bodies : Nat → Int32) (h : f_X8_sayTells_X5 a_1 v_p2_n v_p2_m v_p2_length v_p2_bodies = some (o_r, o_v_p2_length, o_v_p2_bodies)) : gMI l yX8_sayTells wsX8_sayTells rm_X8_sayTells_X5 D c [.ref q_this, .int a_1, .ref q_p2] [(q_this, .inr (5, [])), (q_p2, .inr (9, [.int v_p2_n, .int v_p2_m, .ref q_p2_bodies, .int v_p2_length])), (q_p2_bodies, .inl (c 0, 40, .inl v_p2_bodies))] [(q_this, .inr (5, [])), (q_p2, .inr (9, [.int v_p2_n, .int v_p2_m, .ref q_p2_bodies, .int o_v_p2_length])), (q_p2_bodies, .inl (c 0, 40, .inl o_v_p2_bodies))] o_r := by
  refine gMI_of (cc := cX8_sayTells) (maxL := 3) (rt := (some .int)) (by decide +kernel) rfl (Nat.le_of_ble_eq_true rfl) ?_
  intro p e s m below meth co A hF hK hX hP hD hA hS ls hl
  obtain ⟨hx, hb, hr, hts, hown, hlocks, hml⟩ := id hF
  have hl : lv_has ls 3 [(0, .ref q_this), (1, .int a_1), (2, .ref q_p2)] := hl
  unfold f_X8_sayTells_X5 at h
  refine lv_aload_n hx hb dX8_sayTells_0 rfl (lv_at hl 2 rfl) ?_
  refine lv_bipush (v := 13) hx hb dX8_sayTells_1 (by decide) ?_
  obtain ⟨w_2, w_3, hc_1, h⟩ := kb2_ok h
  refine gCallV (isC := [1, 2]) (wc := [(q_p2, .inr (9, [.int v_p2_n, .int v_p2_m, .ref q_p2_bodies, .int v_p2_length])), (q_p2_bodies, .inl (c 0, 40, .inl v_p2_bodies))]) (w1 := [(q_p2, .inr (9, [.int v_p2_n, .int v_p2_m, .ref q_p2_bodies, .int w_2])), (q_p2_bodies, .inl (c 0, 40, .inl w_3))]) hP hD hS hA rfl rfl (va_runV (rm := rm_X9_begin) (ws := wsX9_begin) (As := [.int 13]) (rest := []) (gFix hF) (c_X9_begin l D c q_p2 q_p2_bodies 13 v_p2_n v_p2_m v_p2_length v_p2_bodies w_2 w_3 hc_1 s.heap.size) (cwV 1 hts gX8_sayTells_X9_begin rfl rfl rfl (by decide +kernel) ⟨Nat.le_of_ble_eq_true rfl, Nat.le_of_ble_eq_true rfl⟩) (gPreV (wc := [(q_p2, .inr (9, [.int v_p2_n, .int v_p2_m, .ref q_p2_bodies, .int v_p2_length])), (q_p2_bodies, .inl (c 0, 40, .inl v_p2_bodies))]) (q := (RX9, TX9, 4)) (ci := 9) (q0 := 1) (isC := [1, 2]) hK hX hS hA hP hD rfl (by decide) rfl rfl) rfl rfl hl.1 rfl (lv_room (Nat.le_of_ble_eq_true rfl)) dX8_sayTells_3 ⟨Nat.le_of_ble_eq_true rfl, Nat.le_of_ble_eq_true rfl⟩) (fun H locs hP hD hS => ?_)
  have hP : va_P D gcl [(q_this, .inr (5, [])), (q_p2, .inr (9, [.int v_p2_n, .int v_p2_m, .ref q_p2_bodies, .int w_2])), (q_p2_bodies, .inl (c 0, 40, .inl w_3))] H := hP
  have hD : va_D A [(q_this, .inr (5, [])), (q_p2, .inr (9, [.int v_p2_n, .int v_p2_m, .ref q_p2_bodies, .int w_2])), (q_p2_bodies, .inl (c 0, 40, .inl w_3))] := hD
  refine lv_aload_n hx hb dX8_sayTells_6 rfl (lv_at hl 0 rfl) ?_
  refine lv_iload_n hx hb dX8_sayTells_7 rfl (lv_at hl 1 rfl) ?_
  refine lv_aload_n hx hb dX8_sayTells_8 rfl (lv_at hl 2 rfl) ?_
  obtain ⟨r_5, w_6, w_7, hc_4, h⟩ := kb3_ok h
  refine gCallI (isC := [0, 1, 2]) (wc := [(q_this, .inr (5, [])), (q_p2, .inr (9, [.int v_p2_n, .int v_p2_m, .ref q_p2_bodies, .int w_2])), (q_p2_bodies, .inl (c 0, 40, .inl w_3))]) (w1 := [(q_this, .inr (5, [])), (q_p2, .inr (9, [.int v_p2_n, .int v_p2_m, .ref q_p2_bodies, .int w_6])), (q_p2_bodies, .inl (c 0, 40, .inl w_7))]) hP hD hS hA rfl rfl (va_runU (rm := rm_X8_sayLets_X5) (ws := wsX8_sayLets) (As := [.int a_1, .ref q_p2]) (rest := []) (gFix hF) (c_X8_sayLets_X5 l D c q_this q_p2 q_p2_bodies a_1 v_p2_n v_p2_m w_2 w_3 r_5 w_6 w_7 hc_4 H.size) (va_cwU 2 hts gX8_sayTells_X8_sayLets_u26X5 rfl rfl rfl rfl (by decide +kernel) ⟨Nat.le_of_ble_eq_true rfl, Nat.le_of_ble_eq_true rfl⟩) (gPreV (wc := [(q_this, .inr (5, [])), (q_p2, .inr (9, [.int v_p2_n, .int v_p2_m, .ref q_p2_bodies, .int w_2])), (q_p2_bodies, .inl (c 0, 40, .inl w_3))]) (q := (RX5, TX5, 0)) (ci := 5) (q0 := 0) (isC := [0, 1, 2]) hK hX hS hA hP hD rfl (by decide) rfl rfl) rfl rfl hl.1 rfl (lv_room (Nat.le_of_ble_eq_true rfl)) dX8_sayTells_9 ⟨Nat.le_of_ble_eq_true rfl, Nat.le_of_ble_eq_true rfl⟩) (fun H locs hP hD hS => ?_)
  have hP : va_P D gcl [(q_this, .inr (5, [])), (q_p2, .inr (9, [.int v_p2_n, .int v_p2_m, .ref q_p2_bodies, .int w_6])), (q_p2_bodies, .inl (c 0, 40, .inl w_7))] H := hP
  have hD : va_D A [(q_this, .inr (5, [])), (q_p2, .inr (9, [.int v_p2_n, .int v_p2_m, .ref q_p2_bodies, .int w_6])), (q_p2_bodies, .inl (c 0, 40, .inl w_7))] := hD
  refine lv_aload_n hx hb dX8_sayTells_12 rfl (lv_at hl 0 rfl) ?_
  refine lv_iload_n hx hb dX8_sayTells_13 rfl (lv_at hl 1 rfl) ?_
  refine lv_aload_n hx hb dX8_sayTells_14 rfl (lv_at hl 2 rfl) ?_
  obtain ⟨r_9, w_10, w_11, hc_8, h⟩ := kb3_ok h
  refine gCallI (isC := [0, 1, 2]) (wc := [(q_this, .inr (5, [])), (q_p2, .inr (9, [.int v_p2_n, .int v_p2_m, .ref q_p2_bodies, .int w_6])), (q_p2_bodies, .inl (c 0, 40, .inl w_7))]) (w1 := [(q_this, .inr (5, [])), (q_p2, .inr (9, [.int v_p2_n, .int v_p2_m, .ref q_p2_bodies, .int w_10])), (q_p2_bodies, .inl (c 0, 40, .inl w_11))]) hP hD hS hA rfl rfl (va_runU (rm := rm_X5_sayTears_X5) (ws := wsX5_sayTears) (As := [.int a_1, .ref q_p2]) (rest := [.int r_5]) (gFix hF) (c_X5_sayTears_X5 l D c q_this q_p2 q_p2_bodies a_1 v_p2_n v_p2_m w_6 w_7 r_9 w_10 w_11 hc_8 H.size) (va_cwO 2 hts gX8_sayTells_X5_sayTears_u29X5 rfl rfl rfl (List.mem_of_getElem? (i := 53) (rfl : wsX8_sayTells[53]? = some (.code yX8_sayTears cX8_sayTears 3 (some .int)))) (by decide +kernel) ⟨Nat.le_of_ble_eq_true rfl, Nat.le_of_ble_eq_true rfl⟩) (gPreV (wc := [(q_this, .inr (5, [])), (q_p2, .inr (9, [.int v_p2_n, .int v_p2_m, .ref q_p2_bodies, .int w_6])), (q_p2_bodies, .inl (c 0, 40, .inl w_7))]) (q := (RX5, TX5, 0)) (ci := 5) (q0 := 0) (isC := [0, 1, 2]) hK hX hS hA hP hD rfl (by decide) rfl rfl) rfl rfl hl.1 rfl (lv_room (Nat.le_of_ble_eq_true rfl)) dX8_sayTells_15 ⟨Nat.le_of_ble_eq_true rfl, Nat.le_of_ble_eq_true rfl⟩) (fun H locs hP hD hS => ?_)
  have hP : va_P D gcl [(q_this, .inr (5, [])), (q_p2, .inr (9, [.int v_p2_n, .int v_p2_m, .ref q_p2_bodies, .int w_10])), (q_p2_bodies, .inl (c 0, 40, .inl w_11))] H := hP
  have hD : va_D A [(q_this, .inr (5, [])), (q_p2, .inr (9, [.int v_p2_n, .int v_p2_m, .ref q_p2_bodies, .int w_10])), (q_p2_bodies, .inl (c 0, 40, .inl w_11))] := hD
  refine lv_ixor hx hb dX8_sayTells_18 ?_
  cases h
  exact gIret hF hP hD hS rfl dX8_sayTells_19
def f_X8_sayTells_X6 (a_1 : Int32) (v_p2_n : Int32) (v_p2_m : Int32) (v_p2_length : Int32) (v_p2_bodies : Nat → Int32) : Option (Int32 × Int32 × (Nat → Int32)) :=
  kb2 (f_X9_begin 13 v_p2_length v_p2_bodies) fun w_2 w_3 =>
  kb3 (f_X8_sayLets_X6 a_1 v_p2_n v_p2_m w_2 w_3) fun r_5 w_6 w_7 =>
  kb3 (f_X8_sayTears_X6 a_1 v_p2_n v_p2_m w_6 w_7) fun r_9 w_10 w_11 =>
  some (r_5 ^^^ r_9, w_10, w_11)

abbrev rm_X8_sayTells_X6 : Room := { frames := 4, cells := 0, slots := 0, locals := 87 }
set_option maxHeartbeats 4000000 in
set_option maxRecDepth 100000 in
theorem c_X8_sayTells_X6 (l : Launch) (D : va_G) (c : Nat → ClassId) (q_this q_p2 q_p2_bodies : Nat) (a_1 : Int32) (v_p2_n : Int32) (v_p2_m : Int32) (v_p2_length : Int32) (v_p2_bodies : Nat → Int32) (o_r : Int32) (o_v_p2_length : Int32) (o_v_p2_bodies : Nat → Int32) (h : f_X8_sayTells_X6 a_1 v_p2_n v_p2_m v_p2_length v_p2_bodies = some (o_r, o_v_p2_length, o_v_p2_bodies)) : gMI l yX8_sayTells wsX8_sayTells rm_X8_sayTells_X6 D c [.ref q_this, .int a_1, .ref q_p2] [(q_this, .inr (6, [])), (q_p2, .inr (9, [.int v_p2_n, .int v_p2_m, .ref q_p2_bodies, .int v_p2_length])), (q_p2_bodies, .inl (c 0, 40, .inl v_p2_bodies))] [(q_this, .inr (6, [])), (q_p2, .inr (9, [.int v_p2_n, .int v_p2_m, .ref q_p2_bodies, .int o_v_p2_length])), (q_p2_bodies, .inl (c 0, 40, .inl o_v_p2_bodies))] o_r := by
  refine gMI_of (cc := cX8_sayTells) (maxL := 3) (rt := (some .int)) (by decide +kernel) rfl (Nat.le_of_ble_eq_true rfl) ?_
  intro p e s m below meth co A hF hK hX hP hD hA hS ls hl
  obtain ⟨hx, hb, hr, hts, hown, hlocks, hml⟩ := id hF
  have hl : lv_has ls 3 [(0, .ref q_this), (1, .int a_1), (2, .ref q_p2)] := hl
  unfold f_X8_sayTells_X6 at h
  refine lv_aload_n hx hb dX8_sayTells_0 rfl (lv_at hl 2 rfl) ?_
  refine lv_bipush (v := 13) hx hb dX8_sayTells_1 (by decide) ?_
  obtain ⟨w_2, w_3, hc_1, h⟩ := kb2_ok h
  refine gCallV (isC := [1, 2]) (wc := [(q_p2, .inr (9, [.int v_p2_n, .int v_p2_m, .ref q_p2_bodies, .int v_p2_length])), (q_p2_bodies, .inl (c 0, 40, .inl v_p2_bodies))]) (w1 := [(q_p2, .inr (9, [.int v_p2_n, .int v_p2_m, .ref q_p2_bodies, .int w_2])), (q_p2_bodies, .inl (c 0, 40, .inl w_3))]) hP hD hS hA rfl rfl (va_runV (rm := rm_X9_begin) (ws := wsX9_begin) (As := [.int 13]) (rest := []) (gFix hF) (c_X9_begin l D c q_p2 q_p2_bodies 13 v_p2_n v_p2_m v_p2_length v_p2_bodies w_2 w_3 hc_1 s.heap.size) (cwV 1 hts gX8_sayTells_X9_begin rfl rfl rfl (by decide +kernel) ⟨Nat.le_of_ble_eq_true rfl, Nat.le_of_ble_eq_true rfl⟩) (gPreV (wc := [(q_p2, .inr (9, [.int v_p2_n, .int v_p2_m, .ref q_p2_bodies, .int v_p2_length])), (q_p2_bodies, .inl (c 0, 40, .inl v_p2_bodies))]) (q := (RX9, TX9, 4)) (ci := 9) (q0 := 1) (isC := [1, 2]) hK hX hS hA hP hD rfl (by decide) rfl rfl) rfl rfl hl.1 rfl (lv_room (Nat.le_of_ble_eq_true rfl)) dX8_sayTells_3 ⟨Nat.le_of_ble_eq_true rfl, Nat.le_of_ble_eq_true rfl⟩) (fun H locs hP hD hS => ?_)
  have hP : va_P D gcl [(q_this, .inr (6, [])), (q_p2, .inr (9, [.int v_p2_n, .int v_p2_m, .ref q_p2_bodies, .int w_2])), (q_p2_bodies, .inl (c 0, 40, .inl w_3))] H := hP
  have hD : va_D A [(q_this, .inr (6, [])), (q_p2, .inr (9, [.int v_p2_n, .int v_p2_m, .ref q_p2_bodies, .int w_2])), (q_p2_bodies, .inl (c 0, 40, .inl w_3))] := hD
  refine lv_aload_n hx hb dX8_sayTells_6 rfl (lv_at hl 0 rfl) ?_
  refine lv_iload_n hx hb dX8_sayTells_7 rfl (lv_at hl 1 rfl) ?_
  refine lv_aload_n hx hb dX8_sayTells_8 rfl (lv_at hl 2 rfl) ?_
  obtain ⟨r_5, w_6, w_7, hc_4, h⟩ := kb3_ok h
  refine gCallI (isC := [0, 1, 2]) (wc := [(q_this, .inr (6, [])), (q_p2, .inr (9, [.int v_p2_n, .int v_p2_m, .ref q_p2_bodies, .int w_2])), (q_p2_bodies, .inl (c 0, 40, .inl w_3))]) (w1 := [(q_this, .inr (6, [])), (q_p2, .inr (9, [.int v_p2_n, .int v_p2_m, .ref q_p2_bodies, .int w_6])), (q_p2_bodies, .inl (c 0, 40, .inl w_7))]) hP hD hS hA rfl rfl (va_runU (rm := rm_X8_sayLets_X6) (ws := wsX8_sayLets) (As := [.int a_1, .ref q_p2]) (rest := []) (gFix hF) (c_X8_sayLets_X6 l D c q_this q_p2 q_p2_bodies a_1 v_p2_n v_p2_m w_2 w_3 r_5 w_6 w_7 hc_4 H.size) (va_cwU 2 hts gX8_sayTells_X8_sayLets_u26X6 rfl rfl rfl rfl (by decide +kernel) ⟨Nat.le_of_ble_eq_true rfl, Nat.le_of_ble_eq_true rfl⟩) (gPreV (wc := [(q_this, .inr (6, [])), (q_p2, .inr (9, [.int v_p2_n, .int v_p2_m, .ref q_p2_bodies, .int w_2])), (q_p2_bodies, .inl (c 0, 40, .inl w_3))]) (q := (RX6, TX6, 0)) (ci := 6) (q0 := 0) (isC := [0, 1, 2]) hK hX hS hA hP hD rfl (by decide) rfl rfl) rfl rfl hl.1 rfl (lv_room (Nat.le_of_ble_eq_true rfl)) dX8_sayTells_9 ⟨Nat.le_of_ble_eq_true rfl, Nat.le_of_ble_eq_true rfl⟩) (fun H locs hP hD hS => ?_)
  have hP : va_P D gcl [(q_this, .inr (6, [])), (q_p2, .inr (9, [.int v_p2_n, .int v_p2_m, .ref q_p2_bodies, .int w_6])), (q_p2_bodies, .inl (c 0, 40, .inl w_7))] H := hP
  have hD : va_D A [(q_this, .inr (6, [])), (q_p2, .inr (9, [.int v_p2_n, .int v_p2_m, .ref q_p2_bodies, .int w_6])), (q_p2_bodies, .inl (c 0, 40, .inl w_7))] := hD
  refine lv_aload_n hx hb dX8_sayTells_12 rfl (lv_at hl 0 rfl) ?_
  refine lv_iload_n hx hb dX8_sayTells_13 rfl (lv_at hl 1 rfl) ?_
  refine lv_aload_n hx hb dX8_sayTells_14 rfl (lv_at hl 2 rfl) ?_
  obtain ⟨r_9, w_10, w_11, hc_8, h⟩ := kb3_ok h
  refine gCallI (isC := [0, 1, 2]) (wc := [(q_this, .inr (6, [])), (q_p2, .inr (9, [.int v_p2_n, .int v_p2_m, .ref q_p2_bodies, .int w_6])), (q_p2_bodies, .inl (c 0, 40, .inl w_7))]) (w1 := [(q_this, .inr (6, [])), (q_p2, .inr (9, [.int v_p2_n, .int v_p2_m, .ref q_p2_bodies, .int w_10])), (q_p2_bodies, .inl (c 0, 40, .inl w_11))]) hP hD hS hA rfl rfl (va_runU (rm := rm_X8_sayTears_X6) (ws := wsX8_sayTears) (As := [.int a_1, .ref q_p2]) (rest := [.int r_5]) (gFix hF) (c_X8_sayTears_X6 l D c q_this q_p2 q_p2_bodies a_1 v_p2_n v_p2_m w_6 w_7 r_9 w_10 w_11 hc_8 H.size) (va_cwU 2 hts gX8_sayTells_X8_sayTears_u29X6 rfl rfl rfl rfl (by decide +kernel) ⟨Nat.le_of_ble_eq_true rfl, Nat.le_of_ble_eq_true rfl⟩) (gPreV (wc := [(q_this, .inr (6, [])), (q_p2, .inr (9, [.int v_p2_n, .int v_p2_m, .ref q_p2_bodies, .int w_6])), (q_p2_bodies, .inl (c 0, 40, .inl w_7))]) (q := (RX6, TX6, 0)) (ci := 6) (q0 := 0) (isC := [0, 1, 2]) hK hX hS hA hP hD rfl (by decide) rfl rfl) rfl rfl hl.1 rfl (lv_room (Nat.le_of_ble_eq_true rfl)) dX8_sayTells_15 ⟨Nat.le_of_ble_eq_true rfl, Nat.le_of_ble_eq_true rfl⟩) (fun H locs hP hD hS => ?_)
  have hP : va_P D gcl [(q_this, .inr (6, [])), (q_p2, .inr (9, [.int v_p2_n, .int v_p2_m, .ref q_p2_bodies, .int w_10])), (q_p2_bodies, .inl (c 0, 40, .inl w_11))] H := hP
  have hD : va_D A [(q_this, .inr (6, [])), (q_p2, .inr (9, [.int v_p2_n, .int v_p2_m, .ref q_p2_bodies, .int w_10])), (q_p2_bodies, .inl (c 0, 40, .inl w_11))] := hD
  refine lv_ixor hx hb dX8_sayTells_18 ?_
  cases h
  exact gIret hF hP hD hS rfl dX8_sayTells_19
def f_X8_sayTells_X2 (a_1 : Int32) (v_p2_n : Int32) (v_p2_m : Int32) (v_p2_length : Int32) (v_p2_bodies : Nat → Int32) : Option (Int32 × Int32 × (Nat → Int32)) :=
  kb2 (f_X9_begin 13 v_p2_length v_p2_bodies) fun w_2 w_3 =>
  kb3 (f_X2_sayLets_X2 a_1 v_p2_n v_p2_m w_2 w_3) fun r_5 w_6 w_7 =>
  kb3 (f_X8_sayTears_X2 a_1 v_p2_n v_p2_m w_6 w_7) fun r_9 w_10 w_11 =>
  some (r_5 ^^^ r_9, w_10, w_11)

abbrev rm_X8_sayTells_X2 : Room := { frames := 5, cells := 0, slots := 0, locals := 109 }
set_option maxHeartbeats 4000000 in
set_option maxRecDepth 100000 in
theorem c_X8_sayTells_X2 (l : Launch) (D : va_G) (c : Nat → ClassId) (q_this q_p2 q_p2_bodies : Nat) (a_1 : Int32) (v_p2_n : Int32) (v_p2_m : Int32) (v_p2_length : Int32) (v_p2_bodies : Nat → Int32) (o_r : Int32) (o_v_p2_length : Int32) (o_v_p2_bodies : Nat → Int32) (h : f_X8_sayTells_X2 a_1 v_p2_n v_p2_m v_p2_length v_p2_bodies = some (o_r, o_v_p2_length, o_v_p2_bodies)) : gMI l yX8_sayTells wsX8_sayTells rm_X8_sayTells_X2 D c [.ref q_this, .int a_1, .ref q_p2] [(q_this, .inr (2, [])), (q_p2, .inr (9, [.int v_p2_n, .int v_p2_m, .ref q_p2_bodies, .int v_p2_length])), (q_p2_bodies, .inl (c 0, 40, .inl v_p2_bodies))] [(q_this, .inr (2, [])), (q_p2, .inr (9, [.int v_p2_n, .int v_p2_m, .ref q_p2_bodies, .int o_v_p2_length])), (q_p2_bodies, .inl (c 0, 40, .inl o_v_p2_bodies))] o_r := by
  refine gMI_of (cc := cX8_sayTells) (maxL := 3) (rt := (some .int)) (by decide +kernel) rfl (Nat.le_of_ble_eq_true rfl) ?_
  intro p e s m below meth co A hF hK hX hP hD hA hS ls hl
  obtain ⟨hx, hb, hr, hts, hown, hlocks, hml⟩ := id hF
  have hl : lv_has ls 3 [(0, .ref q_this), (1, .int a_1), (2, .ref q_p2)] := hl
  unfold f_X8_sayTells_X2 at h
  refine lv_aload_n hx hb dX8_sayTells_0 rfl (lv_at hl 2 rfl) ?_
  refine lv_bipush (v := 13) hx hb dX8_sayTells_1 (by decide) ?_
  obtain ⟨w_2, w_3, hc_1, h⟩ := kb2_ok h
  refine gCallV (isC := [1, 2]) (wc := [(q_p2, .inr (9, [.int v_p2_n, .int v_p2_m, .ref q_p2_bodies, .int v_p2_length])), (q_p2_bodies, .inl (c 0, 40, .inl v_p2_bodies))]) (w1 := [(q_p2, .inr (9, [.int v_p2_n, .int v_p2_m, .ref q_p2_bodies, .int w_2])), (q_p2_bodies, .inl (c 0, 40, .inl w_3))]) hP hD hS hA rfl rfl (va_runV (rm := rm_X9_begin) (ws := wsX9_begin) (As := [.int 13]) (rest := []) (gFix hF) (c_X9_begin l D c q_p2 q_p2_bodies 13 v_p2_n v_p2_m v_p2_length v_p2_bodies w_2 w_3 hc_1 s.heap.size) (cwV 1 hts gX8_sayTells_X9_begin rfl rfl rfl (by decide +kernel) ⟨Nat.le_of_ble_eq_true rfl, Nat.le_of_ble_eq_true rfl⟩) (gPreV (wc := [(q_p2, .inr (9, [.int v_p2_n, .int v_p2_m, .ref q_p2_bodies, .int v_p2_length])), (q_p2_bodies, .inl (c 0, 40, .inl v_p2_bodies))]) (q := (RX9, TX9, 4)) (ci := 9) (q0 := 1) (isC := [1, 2]) hK hX hS hA hP hD rfl (by decide) rfl rfl) rfl rfl hl.1 rfl (lv_room (Nat.le_of_ble_eq_true rfl)) dX8_sayTells_3 ⟨Nat.le_of_ble_eq_true rfl, Nat.le_of_ble_eq_true rfl⟩) (fun H locs hP hD hS => ?_)
  have hP : va_P D gcl [(q_this, .inr (2, [])), (q_p2, .inr (9, [.int v_p2_n, .int v_p2_m, .ref q_p2_bodies, .int w_2])), (q_p2_bodies, .inl (c 0, 40, .inl w_3))] H := hP
  have hD : va_D A [(q_this, .inr (2, [])), (q_p2, .inr (9, [.int v_p2_n, .int v_p2_m, .ref q_p2_bodies, .int w_2])), (q_p2_bodies, .inl (c 0, 40, .inl w_3))] := hD
  refine lv_aload_n hx hb dX8_sayTells_6 rfl (lv_at hl 0 rfl) ?_
  refine lv_iload_n hx hb dX8_sayTells_7 rfl (lv_at hl 1 rfl) ?_
  refine lv_aload_n hx hb dX8_sayTells_8 rfl (lv_at hl 2 rfl) ?_
  obtain ⟨r_5, w_6, w_7, hc_4, h⟩ := kb3_ok h
  refine gCallI (isC := [0, 1, 2]) (wc := [(q_this, .inr (2, [])), (q_p2, .inr (9, [.int v_p2_n, .int v_p2_m, .ref q_p2_bodies, .int w_2])), (q_p2_bodies, .inl (c 0, 40, .inl w_3))]) (w1 := [(q_this, .inr (2, [])), (q_p2, .inr (9, [.int v_p2_n, .int v_p2_m, .ref q_p2_bodies, .int w_6])), (q_p2_bodies, .inl (c 0, 40, .inl w_7))]) hP hD hS hA rfl rfl (va_runU (rm := rm_X2_sayLets_X2) (ws := wsX2_sayLets) (As := [.int a_1, .ref q_p2]) (rest := []) (gFix hF) (c_X2_sayLets_X2 l D c q_this q_p2 q_p2_bodies a_1 v_p2_n v_p2_m w_2 w_3 r_5 w_6 w_7 hc_4 H.size) (va_cwO 2 hts gX8_sayTells_X2_sayLets_u26X2 rfl rfl rfl (List.mem_of_getElem? (i := 13) (rfl : wsX8_sayTells[13]? = some (.code yX8_sayLets cX8_sayLets 3 (some .int)))) (by decide +kernel) ⟨Nat.le_of_ble_eq_true rfl, Nat.le_of_ble_eq_true rfl⟩) (gPreV (wc := [(q_this, .inr (2, [])), (q_p2, .inr (9, [.int v_p2_n, .int v_p2_m, .ref q_p2_bodies, .int w_2])), (q_p2_bodies, .inl (c 0, 40, .inl w_3))]) (q := (RX2, TX2, 0)) (ci := 2) (q0 := 0) (isC := [0, 1, 2]) hK hX hS hA hP hD rfl (by decide) rfl rfl) rfl rfl hl.1 rfl (lv_room (Nat.le_of_ble_eq_true rfl)) dX8_sayTells_9 ⟨Nat.le_of_ble_eq_true rfl, Nat.le_of_ble_eq_true rfl⟩) (fun H locs hP hD hS => ?_)
  have hP : va_P D gcl [(q_this, .inr (2, [])), (q_p2, .inr (9, [.int v_p2_n, .int v_p2_m, .ref q_p2_bodies, .int w_6])), (q_p2_bodies, .inl (c 0, 40, .inl w_7))] H := hP
  have hD : va_D A [(q_this, .inr (2, [])), (q_p2, .inr (9, [.int v_p2_n, .int v_p2_m, .ref q_p2_bodies, .int w_6])), (q_p2_bodies, .inl (c 0, 40, .inl w_7))] := hD
  refine lv_aload_n hx hb dX8_sayTells_12 rfl (lv_at hl 0 rfl) ?_
  refine lv_iload_n hx hb dX8_sayTells_13 rfl (lv_at hl 1 rfl) ?_
  refine lv_aload_n hx hb dX8_sayTells_14 rfl (lv_at hl 2 rfl) ?_
  obtain ⟨r_9, w_10, w_11, hc_8, h⟩ := kb3_ok h
  refine gCallI (isC := [0, 1, 2]) (wc := [(q_this, .inr (2, [])), (q_p2, .inr (9, [.int v_p2_n, .int v_p2_m, .ref q_p2_bodies, .int w_6])), (q_p2_bodies, .inl (c 0, 40, .inl w_7))]) (w1 := [(q_this, .inr (2, [])), (q_p2, .inr (9, [.int v_p2_n, .int v_p2_m, .ref q_p2_bodies, .int w_10])), (q_p2_bodies, .inl (c 0, 40, .inl w_11))]) hP hD hS hA rfl rfl (va_runU (rm := rm_X8_sayTears_X2) (ws := wsX8_sayTears) (As := [.int a_1, .ref q_p2]) (rest := [.int r_5]) (gFix hF) (c_X8_sayTears_X2 l D c q_this q_p2 q_p2_bodies a_1 v_p2_n v_p2_m w_6 w_7 r_9 w_10 w_11 hc_8 H.size) (va_cwU 2 hts gX8_sayTells_X8_sayTears_u29X2 rfl rfl rfl rfl (by decide +kernel) ⟨Nat.le_of_ble_eq_true rfl, Nat.le_of_ble_eq_true rfl⟩) (gPreV (wc := [(q_this, .inr (2, [])), (q_p2, .inr (9, [.int v_p2_n, .int v_p2_m, .ref q_p2_bodies, .int w_6])), (q_p2_bodies, .inl (c 0, 40, .inl w_7))]) (q := (RX2, TX2, 0)) (ci := 2) (q0 := 0) (isC := [0, 1, 2]) hK hX hS hA hP hD rfl (by decide) rfl rfl) rfl rfl hl.1 rfl (lv_room (Nat.le_of_ble_eq_true rfl)) dX8_sayTells_15 ⟨Nat.le_of_ble_eq_true rfl, Nat.le_of_ble_eq_true rfl⟩) (fun H locs hP hD hS => ?_)
  have hP : va_P D gcl [(q_this, .inr (2, [])), (q_p2, .inr (9, [.int v_p2_n, .int v_p2_m, .ref q_p2_bodies, .int w_10])), (q_p2_bodies, .inl (c 0, 40, .inl w_11))] H := hP
  have hD : va_D A [(q_this, .inr (2, [])), (q_p2, .inr (9, [.int v_p2_n, .int v_p2_m, .ref q_p2_bodies, .int w_10])), (q_p2_bodies, .inl (c 0, 40, .inl w_11))] := hD
  refine lv_ixor hx hb dX8_sayTells_18 ?_
  cases h
  exact gIret hF hP hD hS rfl dX8_sayTells_19
def f_X8_sayTells_X1 (a_1 : Int32) (v_p2_n : Int32) (v_p2_m : Int32) (v_p2_length : Int32) (v_p2_bodies : Nat → Int32) : Option (Int32 × Int32 × (Nat → Int32)) :=
  kb2 (f_X9_begin 13 v_p2_length v_p2_bodies) fun w_2 w_3 =>
  kb3 (f_X8_sayLets_X1 a_1 v_p2_n v_p2_m w_2 w_3) fun r_5 w_6 w_7 =>
  kb3 (f_X1_sayTears_X1 a_1 v_p2_n v_p2_m w_6 w_7) fun r_9 w_10 w_11 =>
  some (r_5 ^^^ r_9, w_10, w_11)

abbrev rm_X8_sayTells_X1 : Room := { frames := 4, cells := 0, slots := 0, locals := 87 }
set_option maxHeartbeats 4000000 in
set_option maxRecDepth 100000 in
theorem c_X8_sayTells_X1 (l : Launch) (D : va_G) (c : Nat → ClassId) (q_this q_p2 q_p2_bodies : Nat) (a_1 : Int32) (v_p2_n : Int32) (v_p2_m : Int32) (v_p2_length : Int32) (v_p2_bodies : Nat → Int32) (o_r : Int32) (o_v_p2_length : Int32) (o_v_p2_bodies : Nat → Int32) (h : f_X8_sayTells_X1 a_1 v_p2_n v_p2_m v_p2_length v_p2_bodies = some (o_r, o_v_p2_length, o_v_p2_bodies)) : gMI l yX8_sayTells wsX8_sayTells rm_X8_sayTells_X1 D c [.ref q_this, .int a_1, .ref q_p2] [(q_this, .inr (1, [])), (q_p2, .inr (9, [.int v_p2_n, .int v_p2_m, .ref q_p2_bodies, .int v_p2_length])), (q_p2_bodies, .inl (c 0, 40, .inl v_p2_bodies))] [(q_this, .inr (1, [])), (q_p2, .inr (9, [.int v_p2_n, .int v_p2_m, .ref q_p2_bodies, .int o_v_p2_length])), (q_p2_bodies, .inl (c 0, 40, .inl o_v_p2_bodies))] o_r := by
  refine gMI_of (cc := cX8_sayTells) (maxL := 3) (rt := (some .int)) (by decide +kernel) rfl (Nat.le_of_ble_eq_true rfl) ?_
  intro p e s m below meth co A hF hK hX hP hD hA hS ls hl
  obtain ⟨hx, hb, hr, hts, hown, hlocks, hml⟩ := id hF
  have hl : lv_has ls 3 [(0, .ref q_this), (1, .int a_1), (2, .ref q_p2)] := hl
  unfold f_X8_sayTells_X1 at h
  refine lv_aload_n hx hb dX8_sayTells_0 rfl (lv_at hl 2 rfl) ?_
  refine lv_bipush (v := 13) hx hb dX8_sayTells_1 (by decide) ?_
  obtain ⟨w_2, w_3, hc_1, h⟩ := kb2_ok h
  refine gCallV (isC := [1, 2]) (wc := [(q_p2, .inr (9, [.int v_p2_n, .int v_p2_m, .ref q_p2_bodies, .int v_p2_length])), (q_p2_bodies, .inl (c 0, 40, .inl v_p2_bodies))]) (w1 := [(q_p2, .inr (9, [.int v_p2_n, .int v_p2_m, .ref q_p2_bodies, .int w_2])), (q_p2_bodies, .inl (c 0, 40, .inl w_3))]) hP hD hS hA rfl rfl (va_runV (rm := rm_X9_begin) (ws := wsX9_begin) (As := [.int 13]) (rest := []) (gFix hF) (c_X9_begin l D c q_p2 q_p2_bodies 13 v_p2_n v_p2_m v_p2_length v_p2_bodies w_2 w_3 hc_1 s.heap.size) (cwV 1 hts gX8_sayTells_X9_begin rfl rfl rfl (by decide +kernel) ⟨Nat.le_of_ble_eq_true rfl, Nat.le_of_ble_eq_true rfl⟩) (gPreV (wc := [(q_p2, .inr (9, [.int v_p2_n, .int v_p2_m, .ref q_p2_bodies, .int v_p2_length])), (q_p2_bodies, .inl (c 0, 40, .inl v_p2_bodies))]) (q := (RX9, TX9, 4)) (ci := 9) (q0 := 1) (isC := [1, 2]) hK hX hS hA hP hD rfl (by decide) rfl rfl) rfl rfl hl.1 rfl (lv_room (Nat.le_of_ble_eq_true rfl)) dX8_sayTells_3 ⟨Nat.le_of_ble_eq_true rfl, Nat.le_of_ble_eq_true rfl⟩) (fun H locs hP hD hS => ?_)
  have hP : va_P D gcl [(q_this, .inr (1, [])), (q_p2, .inr (9, [.int v_p2_n, .int v_p2_m, .ref q_p2_bodies, .int w_2])), (q_p2_bodies, .inl (c 0, 40, .inl w_3))] H := hP
  have hD : va_D A [(q_this, .inr (1, [])), (q_p2, .inr (9, [.int v_p2_n, .int v_p2_m, .ref q_p2_bodies, .int w_2])), (q_p2_bodies, .inl (c 0, 40, .inl w_3))] := hD
  refine lv_aload_n hx hb dX8_sayTells_6 rfl (lv_at hl 0 rfl) ?_
  refine lv_iload_n hx hb dX8_sayTells_7 rfl (lv_at hl 1 rfl) ?_
  refine lv_aload_n hx hb dX8_sayTells_8 rfl (lv_at hl 2 rfl) ?_
  obtain ⟨r_5, w_6, w_7, hc_4, h⟩ := kb3_ok h
  refine gCallI (isC := [0, 1, 2]) (wc := [(q_this, .inr (1, [])), (q_p2, .inr (9, [.int v_p2_n, .int v_p2_m, .ref q_p2_bodies, .int w_2])), (q_p2_bodies, .inl (c 0, 40, .inl w_3))]) (w1 := [(q_this, .inr (1, [])), (q_p2, .inr (9, [.int v_p2_n, .int v_p2_m, .ref q_p2_bodies, .int w_6])), (q_p2_bodies, .inl (c 0, 40, .inl w_7))]) hP hD hS hA rfl rfl (va_runU (rm := rm_X8_sayLets_X1) (ws := wsX8_sayLets) (As := [.int a_1, .ref q_p2]) (rest := []) (gFix hF) (c_X8_sayLets_X1 l D c q_this q_p2 q_p2_bodies a_1 v_p2_n v_p2_m w_2 w_3 r_5 w_6 w_7 hc_4 H.size) (va_cwU 2 hts gX8_sayTells_X8_sayLets_u26X1 rfl rfl rfl rfl (by decide +kernel) ⟨Nat.le_of_ble_eq_true rfl, Nat.le_of_ble_eq_true rfl⟩) (gPreV (wc := [(q_this, .inr (1, [])), (q_p2, .inr (9, [.int v_p2_n, .int v_p2_m, .ref q_p2_bodies, .int w_2])), (q_p2_bodies, .inl (c 0, 40, .inl w_3))]) (q := (RX1, TX1, 0)) (ci := 1) (q0 := 0) (isC := [0, 1, 2]) hK hX hS hA hP hD rfl (by decide) rfl rfl) rfl rfl hl.1 rfl (lv_room (Nat.le_of_ble_eq_true rfl)) dX8_sayTells_9 ⟨Nat.le_of_ble_eq_true rfl, Nat.le_of_ble_eq_true rfl⟩) (fun H locs hP hD hS => ?_)
  have hP : va_P D gcl [(q_this, .inr (1, [])), (q_p2, .inr (9, [.int v_p2_n, .int v_p2_m, .ref q_p2_bodies, .int w_6])), (q_p2_bodies, .inl (c 0, 40, .inl w_7))] H := hP
  have hD : va_D A [(q_this, .inr (1, [])), (q_p2, .inr (9, [.int v_p2_n, .int v_p2_m, .ref q_p2_bodies, .int w_6])), (q_p2_bodies, .inl (c 0, 40, .inl w_7))] := hD
  refine lv_aload_n hx hb dX8_sayTells_12 rfl (lv_at hl 0 rfl) ?_
  refine lv_iload_n hx hb dX8_sayTells_13 rfl (lv_at hl 1 rfl) ?_
  refine lv_aload_n hx hb dX8_sayTells_14 rfl (lv_at hl 2 rfl) ?_
  obtain ⟨r_9, w_10, w_11, hc_8, h⟩ := kb3_ok h
  refine gCallI (isC := [0, 1, 2]) (wc := [(q_this, .inr (1, [])), (q_p2, .inr (9, [.int v_p2_n, .int v_p2_m, .ref q_p2_bodies, .int w_6])), (q_p2_bodies, .inl (c 0, 40, .inl w_7))]) (w1 := [(q_this, .inr (1, [])), (q_p2, .inr (9, [.int v_p2_n, .int v_p2_m, .ref q_p2_bodies, .int w_10])), (q_p2_bodies, .inl (c 0, 40, .inl w_11))]) hP hD hS hA rfl rfl (va_runU (rm := rm_X1_sayTears_X1) (ws := wsX1_sayTears) (As := [.int a_1, .ref q_p2]) (rest := [.int r_5]) (gFix hF) (c_X1_sayTears_X1 l D c q_this q_p2 q_p2_bodies a_1 v_p2_n v_p2_m w_6 w_7 r_9 w_10 w_11 hc_8 H.size) (va_cwO 2 hts gX8_sayTells_X1_sayTears_u29X1 rfl rfl rfl (List.mem_of_getElem? (i := 53) (rfl : wsX8_sayTells[53]? = some (.code yX8_sayTears cX8_sayTears 3 (some .int)))) (by decide +kernel) ⟨Nat.le_of_ble_eq_true rfl, Nat.le_of_ble_eq_true rfl⟩) (gPreV (wc := [(q_this, .inr (1, [])), (q_p2, .inr (9, [.int v_p2_n, .int v_p2_m, .ref q_p2_bodies, .int w_6])), (q_p2_bodies, .inl (c 0, 40, .inl w_7))]) (q := (RX1, TX1, 0)) (ci := 1) (q0 := 0) (isC := [0, 1, 2]) hK hX hS hA hP hD rfl (by decide) rfl rfl) rfl rfl hl.1 rfl (lv_room (Nat.le_of_ble_eq_true rfl)) dX8_sayTells_15 ⟨Nat.le_of_ble_eq_true rfl, Nat.le_of_ble_eq_true rfl⟩) (fun H locs hP hD hS => ?_)
  have hP : va_P D gcl [(q_this, .inr (1, [])), (q_p2, .inr (9, [.int v_p2_n, .int v_p2_m, .ref q_p2_bodies, .int w_10])), (q_p2_bodies, .inl (c 0, 40, .inl w_11))] H := hP
  have hD : va_D A [(q_this, .inr (1, [])), (q_p2, .inr (9, [.int v_p2_n, .int v_p2_m, .ref q_p2_bodies, .int w_10])), (q_p2_bodies, .inl (c 0, 40, .inl w_11))] := hD
  refine lv_ixor hx hb dX8_sayTells_18 ?_
  cases h
  exact gIret hF hP hD hS rfl dX8_sayTells_19
set_option maxRecDepth 20000 in
theorem in_X11_wall_X11 : ∀ w ∈ u_ws RX11 TX11 11, w ∈ wsX11_wall := by decide +kernel
set_option maxRecDepth 20000 in
theorem in_X11_wall_X7 : ∀ w ∈ u_ws RX7 TX7 11, w ∈ wsX11_wall := by decide +kernel
def f_X11_wall_L18 (v_errors : Nat → Int32) (v_now_wall_rows : Int32) (v_now_wall_columns : Int32) (v_now_wall_air : Nat → Int32) (v_now_wall_paste : Nat → Int32) : Option (Int32 × (Nat → Int32) × Int32 × Int32 × (Nat → Int32) × (Nat → Int32)) :=
  kb2 (f_X11_error 1 v_errors) fun r_15 w_16 =>
  some (r_15, w_16, v_now_wall_rows, v_now_wall_columns, v_now_wall_air, v_now_wall_paste)

def f_X11_wall (a_1 : Int32) (a_2 : Int32) (v_errors : Nat → Int32) (v_now_wall_rows : Int32) (v_now_wall_columns : Int32) (v_now_wall_air : Nat → Int32) (v_now_wall_paste : Nat → Int32) : Option (Int32 × (Nat → Int32) × Int32 × Int32 × (Nat → Int32) × (Nat → Int32)) :=
  kb (f_X11_within a_1 1 5) fun r_2 =>
  if r_2 = 0 then
    f_X11_wall_L18 v_errors v_now_wall_rows v_now_wall_columns v_now_wall_air v_now_wall_paste
  else
    kb (f_X11_within a_2 1 5) fun r_5 =>
    if r_5 = 0 then
      f_X11_wall_L18 v_errors v_now_wall_rows v_now_wall_columns v_now_wall_air v_now_wall_paste
    else
      kb4 (f_X10_lay a_1 a_2 v_now_wall_rows v_now_wall_columns v_now_wall_air v_now_wall_paste) fun w_8 w_9 w_10 w_11 =>
      kb (f_X10_cells w_8 w_9) fun r_13 =>
      some (r_13, v_errors, w_8, w_9, w_10, w_11)

abbrev rm_X11_wall : Room := { frames := 2, cells := 0, slots := 0, locals := 45 }
set_option maxHeartbeats 4000000 in
set_option maxRecDepth 100000 in
theorem c_X11_wall (l : Launch) (D : va_G) (c : Nat → ClassId) (q_this q_now q_kept q_kinds q_voice q_thought q_further q_errors q_sheetBits q_sheetLength q_numbers q_now_wall q_now_kind q_now_m q_now_tape q_now_moved q_now_seen q_now_told q_now_wall_air q_now_wall_paste q_now_wall_open q_now_wall_met q_now_wall_line : Nat) (a_1 : Int32) (a_2 : Int32) (v_images : Int32) (v_errors : Nat → Int32) (v_now_tools : Int32) (v_now_tapeLength : Int32) (v_now_z : Int32) (v_now_waiting : Int32) (v_now_wall_rows : Int32) (v_now_wall_columns : Int32) (v_now_wall_holes : Int32) (v_now_wall_out : Int32) (v_now_wall_night : Int32) (v_now_wall_inLine : Int32) (v_now_wall_air : Nat → Int32) (v_now_wall_paste : Nat → Int32) (o_r : Int32) (o_v_errors : Nat → Int32) (o_v_now_wall_rows : Int32) (o_v_now_wall_columns : Int32) (o_v_now_wall_air : Nat → Int32) (o_v_now_wall_paste : Nat → Int32) (h : f_X11_wall a_1 a_2 v_errors v_now_wall_rows v_now_wall_columns v_now_wall_air v_now_wall_paste = some (o_r, o_v_errors, o_v_now_wall_rows, o_v_now_wall_columns, o_v_now_wall_air, o_v_now_wall_paste)) : gMI l yX11_wall wsX11_wall rm_X11_wall D c [.ref q_this, .int a_1, .int a_2] [(q_this, .inr (11, [.ref q_now, .ref q_kept, .int v_images, .ref q_kinds, .ref q_voice, .ref q_thought, .ref q_further, .ref q_errors, .ref q_sheetBits, .ref q_sheetLength, .ref q_numbers])), (q_errors, .inl (c 0, 6, .inl v_errors)), (q_now, .inr (7, [.ref q_now_wall, .int v_now_tools, .ref q_now_kind, .ref q_now_m, .ref q_now_tape, .int v_now_tapeLength, .ref q_now_moved, .ref q_now_seen, .int v_now_z, .ref q_now_told, .int v_now_waiting])), (q_now_wall, .inr (10, [.int v_now_wall_rows, .int v_now_wall_columns, .ref q_now_wall_air, .ref q_now_wall_paste, .ref q_now_wall_open, .int v_now_wall_holes, .int v_now_wall_out, .int v_now_wall_night, .ref q_now_wall_met, .ref q_now_wall_line, .int v_now_wall_inLine])), (q_now_wall_air, .inl (c 0, 25, .inl v_now_wall_air)), (q_now_wall_paste, .inl (c 0, 25, .inl v_now_wall_paste))] [(q_this, .inr (11, [.ref q_now, .ref q_kept, .int v_images, .ref q_kinds, .ref q_voice, .ref q_thought, .ref q_further, .ref q_errors, .ref q_sheetBits, .ref q_sheetLength, .ref q_numbers])), (q_errors, .inl (c 0, 6, .inl o_v_errors)), (q_now, .inr (7, [.ref q_now_wall, .int v_now_tools, .ref q_now_kind, .ref q_now_m, .ref q_now_tape, .int v_now_tapeLength, .ref q_now_moved, .ref q_now_seen, .int v_now_z, .ref q_now_told, .int v_now_waiting])), (q_now_wall, .inr (10, [.int o_v_now_wall_rows, .int o_v_now_wall_columns, .ref q_now_wall_air, .ref q_now_wall_paste, .ref q_now_wall_open, .int v_now_wall_holes, .int v_now_wall_out, .int v_now_wall_night, .ref q_now_wall_met, .ref q_now_wall_line, .int v_now_wall_inLine])), (q_now_wall_air, .inl (c 0, 25, .inl o_v_now_wall_air)), (q_now_wall_paste, .inl (c 0, 25, .inl o_v_now_wall_paste))] o_r := by
  refine gMI_of (cc := cX11_wall) (maxL := 3) (rt := (some .int)) (by decide +kernel) rfl (Nat.le_of_ble_eq_true rfl) ?_
  intro p e s m below meth co A hF hK hX hP hD hA hS ls hl
  obtain ⟨hx, hb, hr, hts, hown, hlocks, hml⟩ := id hF
  have hl : lv_has ls 3 [(0, .ref q_this), (1, .int a_1), (2, .int a_2)] := hl
  have t_L18 : ∀ (v_errors : Nat → Int32) (v_now_wall_rows : Int32) (v_now_wall_columns : Int32) (v_now_wall_air : Nat → Int32) (v_now_wall_paste : Nat → Int32) (H : Heap) (locs : List Loc), va_P D gcl [(q_this, .inr (11, [.ref q_now, .ref q_kept, .int v_images, .ref q_kinds, .ref q_voice, .ref q_thought, .ref q_further, .ref q_errors, .ref q_sheetBits, .ref q_sheetLength, .ref q_numbers])), (q_errors, .inl (c 0, 6, .inl v_errors)), (q_now, .inr (7, [.ref q_now_wall, .int v_now_tools, .ref q_now_kind, .ref q_now_m, .ref q_now_tape, .int v_now_tapeLength, .ref q_now_moved, .ref q_now_seen, .int v_now_z, .ref q_now_told, .int v_now_waiting])), (q_now_wall, .inr (10, [.int v_now_wall_rows, .int v_now_wall_columns, .ref q_now_wall_air, .ref q_now_wall_paste, .ref q_now_wall_open, .int v_now_wall_holes, .int v_now_wall_out, .int v_now_wall_night, .ref q_now_wall_met, .ref q_now_wall_line, .int v_now_wall_inLine])), (q_now_wall_air, .inl (c 0, 25, .inl v_now_wall_air)), (q_now_wall_paste, .inl (c 0, 25, .inl v_now_wall_paste))] H → va_D A [(q_this, .inr (11, [.ref q_now, .ref q_kept, .int v_images, .ref q_kinds, .ref q_voice, .ref q_thought, .ref q_further, .ref q_errors, .ref q_sheetBits, .ref q_sheetLength, .ref q_numbers])), (q_errors, .inl (c 0, 6, .inl v_errors)), (q_now, .inr (7, [.ref q_now_wall, .int v_now_tools, .ref q_now_kind, .ref q_now_m, .ref q_now_tape, .int v_now_tapeLength, .ref q_now_moved, .ref q_now_seen, .int v_now_z, .ref q_now_told, .int v_now_waiting])), (q_now_wall, .inr (10, [.int v_now_wall_rows, .int v_now_wall_columns, .ref q_now_wall_air, .ref q_now_wall_paste, .ref q_now_wall_open, .int v_now_wall_holes, .int v_now_wall_out, .int v_now_wall_night, .ref q_now_wall_met, .ref q_now_wall_line, .int v_now_wall_inLine])), (q_now_wall_air, .inl (c 0, 25, .inl v_now_wall_air)), (q_now_wall_paste, .inl (c 0, 25, .inl v_now_wall_paste))] → va_S A s.heap H locs → ∀ ls, lv_has ls 3 [(0, .ref q_this)] → f_X11_wall_L18 v_errors v_now_wall_rows v_now_wall_columns v_now_wall_air v_now_wall_paste = some (o_r, o_v_errors, o_v_now_wall_rows, o_v_now_wall_columns, o_v_now_wall_air, o_v_now_wall_paste) → W p l e (headSpec wsX11_wall rm_X11_wall).room s m [.ref q_this, .int a_1, .int a_2].toArray below meth co H locs 0 0 (gQI D [(q_this, .inr (11, [.ref q_now, .ref q_kept, .int v_images, .ref q_kinds, .ref q_voice, .ref q_thought, .ref q_further, .ref q_errors, .ref q_sheetBits, .ref q_sheetLength, .ref q_numbers])), (q_errors, .inl (c 0, 6, .inl o_v_errors)), (q_now, .inr (7, [.ref q_now_wall, .int v_now_tools, .ref q_now_kind, .ref q_now_m, .ref q_now_tape, .int v_now_tapeLength, .ref q_now_moved, .ref q_now_seen, .int v_now_z, .ref q_now_told, .int v_now_waiting])), (q_now_wall, .inr (10, [.int o_v_now_wall_rows, .int o_v_now_wall_columns, .ref q_now_wall_air, .ref q_now_wall_paste, .ref q_now_wall_open, .int v_now_wall_holes, .int v_now_wall_out, .int v_now_wall_night, .ref q_now_wall_met, .ref q_now_wall_line, .int v_now_wall_inLine])), (q_now_wall_air, .inl (c 0, 25, .inl o_v_now_wall_air)), (q_now_wall_paste, .inl (c 0, 25, .inl o_v_now_wall_paste))] o_r A below [.ref q_this, .int a_1, .int a_2] s) (F0 m 18 ls []) := by
    intro  v_errors v_now_wall_rows v_now_wall_columns v_now_wall_air v_now_wall_paste H locs hP hD hS ls hl h
    unfold f_X11_wall_L18 at h
    refine lv_aload_n hx hb dX11_wall_18 rfl (lv_at hl 0 rfl) ?_
    refine lv_iconst (v := 1) hx hb dX11_wall_19 (by decide) ?_
    obtain ⟨r_15, w_16, hc_14, h⟩ := kb2_ok h
    refine gCallI (isC := [0, 1]) (wc := [(q_this, .inr (11, [.ref q_now, .ref q_kept, .int v_images, .ref q_kinds, .ref q_voice, .ref q_thought, .ref q_further, .ref q_errors, .ref q_sheetBits, .ref q_sheetLength, .ref q_numbers])), (q_errors, .inl (c 0, 6, .inl v_errors))]) (w1 := [(q_this, .inr (11, [.ref q_now, .ref q_kept, .int v_images, .ref q_kinds, .ref q_voice, .ref q_thought, .ref q_further, .ref q_errors, .ref q_sheetBits, .ref q_sheetLength, .ref q_numbers])), (q_errors, .inl (c 0, 6, .inl w_16))]) hP hD hS hA rfl rfl (va_runV (rm := rm_X11_error) (ws := wsX11_error) (As := [.int 1]) (rest := []) (gFix hF) (c_X11_error l D c q_this q_now q_kept q_kinds q_voice q_thought q_further q_errors q_sheetBits q_sheetLength q_numbers 1 v_images v_errors r_15 w_16 hc_14 H.size) (cwV 1 hts gX11_wall_X11_error rfl rfl rfl (by decide +kernel) ⟨Nat.le_of_ble_eq_true rfl, Nat.le_of_ble_eq_true rfl⟩) (gPreV (wc := [(q_this, .inr (11, [.ref q_now, .ref q_kept, .int v_images, .ref q_kinds, .ref q_voice, .ref q_thought, .ref q_further, .ref q_errors, .ref q_sheetBits, .ref q_sheetLength, .ref q_numbers])), (q_errors, .inl (c 0, 6, .inl v_errors))]) (q := (RX11, TX11, 11)) (ci := 11) (q0 := 0) (isC := [0, 1]) hK hX hS hA hP hD rfl (by decide) rfl rfl) rfl rfl hl.1 rfl (lv_room (Nat.le_of_ble_eq_true rfl)) dX11_wall_20 ⟨Nat.le_of_ble_eq_true rfl, Nat.le_of_ble_eq_true rfl⟩) (fun H locs hP hD hS => ?_)
    have hP : va_P D gcl [(q_this, .inr (11, [.ref q_now, .ref q_kept, .int v_images, .ref q_kinds, .ref q_voice, .ref q_thought, .ref q_further, .ref q_errors, .ref q_sheetBits, .ref q_sheetLength, .ref q_numbers])), (q_errors, .inl (c 0, 6, .inl w_16)), (q_now, .inr (7, [.ref q_now_wall, .int v_now_tools, .ref q_now_kind, .ref q_now_m, .ref q_now_tape, .int v_now_tapeLength, .ref q_now_moved, .ref q_now_seen, .int v_now_z, .ref q_now_told, .int v_now_waiting])), (q_now_wall, .inr (10, [.int v_now_wall_rows, .int v_now_wall_columns, .ref q_now_wall_air, .ref q_now_wall_paste, .ref q_now_wall_open, .int v_now_wall_holes, .int v_now_wall_out, .int v_now_wall_night, .ref q_now_wall_met, .ref q_now_wall_line, .int v_now_wall_inLine])), (q_now_wall_air, .inl (c 0, 25, .inl v_now_wall_air)), (q_now_wall_paste, .inl (c 0, 25, .inl v_now_wall_paste))] H := hP
    have hD : va_D A [(q_this, .inr (11, [.ref q_now, .ref q_kept, .int v_images, .ref q_kinds, .ref q_voice, .ref q_thought, .ref q_further, .ref q_errors, .ref q_sheetBits, .ref q_sheetLength, .ref q_numbers])), (q_errors, .inl (c 0, 6, .inl w_16)), (q_now, .inr (7, [.ref q_now_wall, .int v_now_tools, .ref q_now_kind, .ref q_now_m, .ref q_now_tape, .int v_now_tapeLength, .ref q_now_moved, .ref q_now_seen, .int v_now_z, .ref q_now_told, .int v_now_waiting])), (q_now_wall, .inr (10, [.int v_now_wall_rows, .int v_now_wall_columns, .ref q_now_wall_air, .ref q_now_wall_paste, .ref q_now_wall_open, .int v_now_wall_holes, .int v_now_wall_out, .int v_now_wall_night, .ref q_now_wall_met, .ref q_now_wall_line, .int v_now_wall_inLine])), (q_now_wall_air, .inl (c 0, 25, .inl v_now_wall_air)), (q_now_wall_paste, .inl (c 0, 25, .inl v_now_wall_paste))] := hD
    cases h
    exact gIret hF hP hD hS rfl dX11_wall_23
  unfold f_X11_wall at h
  refine lv_iload_n hx hb dX11_wall_0 rfl (lv_at hl 1 rfl) ?_
  refine lv_iconst (v := 1) hx hb dX11_wall_1 (by decide) ?_
  refine lv_iconst (v := 5) hx hb dX11_wall_2 (by decide) ?_
  obtain ⟨r_2, hc_1, h⟩ := kb_ok h
  refine gCallI (isC := []) (wc := []) (w1 := []) hP hD hS hA rfl rfl (va_runS (rm := rm_X11_within) (ws := wsX11_within) (As := [.int a_1, .int 1, .int 5]) (rest := []) (gFix hF) (c_X11_within l D c a_1 1 5 r_2 hc_1 s.heap.size) (va_cwS 3 hts gX11_wall_X11_within rfl rfl rfl (by decide +kernel) ⟨Nat.le_of_ble_eq_true rfl, Nat.le_of_ble_eq_true rfl⟩) (gPreS (wc := []) (isC := []) hK hX hS hA hP hD rfl (by decide)) rfl rfl hl.1 rfl (lv_room (Nat.le_of_ble_eq_true rfl)) dX11_wall_3 ⟨Nat.le_of_ble_eq_true rfl, Nat.le_of_ble_eq_true rfl⟩) (fun H locs hP hD hS => ?_)
  have hP : va_P D gcl [(q_this, .inr (11, [.ref q_now, .ref q_kept, .int v_images, .ref q_kinds, .ref q_voice, .ref q_thought, .ref q_further, .ref q_errors, .ref q_sheetBits, .ref q_sheetLength, .ref q_numbers])), (q_errors, .inl (c 0, 6, .inl v_errors)), (q_now, .inr (7, [.ref q_now_wall, .int v_now_tools, .ref q_now_kind, .ref q_now_m, .ref q_now_tape, .int v_now_tapeLength, .ref q_now_moved, .ref q_now_seen, .int v_now_z, .ref q_now_told, .int v_now_waiting])), (q_now_wall, .inr (10, [.int v_now_wall_rows, .int v_now_wall_columns, .ref q_now_wall_air, .ref q_now_wall_paste, .ref q_now_wall_open, .int v_now_wall_holes, .int v_now_wall_out, .int v_now_wall_night, .ref q_now_wall_met, .ref q_now_wall_line, .int v_now_wall_inLine])), (q_now_wall_air, .inl (c 0, 25, .inl v_now_wall_air)), (q_now_wall_paste, .inl (c 0, 25, .inl v_now_wall_paste))] H := hP
  have hD : va_D A [(q_this, .inr (11, [.ref q_now, .ref q_kept, .int v_images, .ref q_kinds, .ref q_voice, .ref q_thought, .ref q_further, .ref q_errors, .ref q_sheetBits, .ref q_sheetLength, .ref q_numbers])), (q_errors, .inl (c 0, 6, .inl v_errors)), (q_now, .inr (7, [.ref q_now_wall, .int v_now_tools, .ref q_now_kind, .ref q_now_m, .ref q_now_tape, .int v_now_tapeLength, .ref q_now_moved, .ref q_now_seen, .int v_now_z, .ref q_now_told, .int v_now_waiting])), (q_now_wall, .inr (10, [.int v_now_wall_rows, .int v_now_wall_columns, .ref q_now_wall_air, .ref q_now_wall_paste, .ref q_now_wall_open, .int v_now_wall_holes, .int v_now_wall_out, .int v_now_wall_night, .ref q_now_wall_met, .ref q_now_wall_line, .int v_now_wall_inLine])), (q_now_wall_air, .inl (c 0, 25, .inl v_now_wall_air)), (q_now_wall_paste, .inl (c 0, 25, .inl v_now_wall_paste))] := hD
  refine lv_if_eq (tgt := 18) hx hb dX11_wall_6 (by decide) (fun c_3 => ?_) (fun c_3 => ?_)
  · have h := it_t c_3 h
    exact t_L18 v_errors v_now_wall_rows v_now_wall_columns v_now_wall_air v_now_wall_paste H locs hP hD hS ls (lv_sub hl [0] rfl) h
  · have h := it_f c_3 h
    refine lv_iload_n hx hb dX11_wall_9 rfl (lv_at hl 2 rfl) ?_
    refine lv_iconst (v := 1) hx hb dX11_wall_10 (by decide) ?_
    refine lv_iconst (v := 5) hx hb dX11_wall_11 (by decide) ?_
    obtain ⟨r_5, hc_4, h⟩ := kb_ok h
    refine gCallI (isC := []) (wc := []) (w1 := []) hP hD hS hA rfl rfl (va_runS (rm := rm_X11_within) (ws := wsX11_within) (As := [.int a_2, .int 1, .int 5]) (rest := []) (gFix hF) (c_X11_within l D c a_2 1 5 r_5 hc_4 H.size) (va_cwS 3 hts gX11_wall_X11_within rfl rfl rfl (by decide +kernel) ⟨Nat.le_of_ble_eq_true rfl, Nat.le_of_ble_eq_true rfl⟩) (gPreS (wc := []) (isC := []) hK hX hS hA hP hD rfl (by decide)) rfl rfl hl.1 rfl (lv_room (Nat.le_of_ble_eq_true rfl)) dX11_wall_12 ⟨Nat.le_of_ble_eq_true rfl, Nat.le_of_ble_eq_true rfl⟩) (fun H locs hP hD hS => ?_)
    have hP : va_P D gcl [(q_this, .inr (11, [.ref q_now, .ref q_kept, .int v_images, .ref q_kinds, .ref q_voice, .ref q_thought, .ref q_further, .ref q_errors, .ref q_sheetBits, .ref q_sheetLength, .ref q_numbers])), (q_errors, .inl (c 0, 6, .inl v_errors)), (q_now, .inr (7, [.ref q_now_wall, .int v_now_tools, .ref q_now_kind, .ref q_now_m, .ref q_now_tape, .int v_now_tapeLength, .ref q_now_moved, .ref q_now_seen, .int v_now_z, .ref q_now_told, .int v_now_waiting])), (q_now_wall, .inr (10, [.int v_now_wall_rows, .int v_now_wall_columns, .ref q_now_wall_air, .ref q_now_wall_paste, .ref q_now_wall_open, .int v_now_wall_holes, .int v_now_wall_out, .int v_now_wall_night, .ref q_now_wall_met, .ref q_now_wall_line, .int v_now_wall_inLine])), (q_now_wall_air, .inl (c 0, 25, .inl v_now_wall_air)), (q_now_wall_paste, .inl (c 0, 25, .inl v_now_wall_paste))] H := hP
    have hD : va_D A [(q_this, .inr (11, [.ref q_now, .ref q_kept, .int v_images, .ref q_kinds, .ref q_voice, .ref q_thought, .ref q_further, .ref q_errors, .ref q_sheetBits, .ref q_sheetLength, .ref q_numbers])), (q_errors, .inl (c 0, 6, .inl v_errors)), (q_now, .inr (7, [.ref q_now_wall, .int v_now_tools, .ref q_now_kind, .ref q_now_m, .ref q_now_tape, .int v_now_tapeLength, .ref q_now_moved, .ref q_now_seen, .int v_now_z, .ref q_now_told, .int v_now_waiting])), (q_now_wall, .inr (10, [.int v_now_wall_rows, .int v_now_wall_columns, .ref q_now_wall_air, .ref q_now_wall_paste, .ref q_now_wall_open, .int v_now_wall_holes, .int v_now_wall_out, .int v_now_wall_night, .ref q_now_wall_met, .ref q_now_wall_line, .int v_now_wall_inLine])), (q_now_wall_air, .inl (c 0, 25, .inl v_now_wall_air)), (q_now_wall_paste, .inl (c 0, 25, .inl v_now_wall_paste))] := hD
    refine lv_if_ne (tgt := 24) hx hb dX11_wall_15 (by decide) (fun c_6 => ?_) (fun c_6 => ?_)
    · have h := it_f c_6 h
      refine lv_aload_n hx hb dX11_wall_24 rfl (lv_at hl 0 rfl) ?_
      refine va_get (D := D) (ci := 11) (v := .ref q_now) (C := RX11) (T := TX11) (N := 11) hx hb hts in_X11_wall_X11 hown hK.1 hP 0 rfl rfl 0 (by decide) (hts (.fieldLink RX11 14 "PaperBubbles" "now" "LPaperBubbles$State;") (List.mem_of_getElem? (i := 1) rfl)) (fun _ h9 => h9) rfl dX11_wall_25 ?_
      refine va_getN (D := D) (ci := 7) (v := .ref q_now_wall) (C := RX7) (T := TX7) (N := 11) hx hb hts in_X11_wall_X7 hown hK.1 hP 2 rfl rfl 0 (by decide) (va_Nw.use rfl (hK.2 (.fieldLinkNest "PaperBubbles" 86 "PaperBubbles$State" "wall" "LPaperBubbles$Wall;" "PaperBubbles") (List.mem_of_getElem? (i := 18) rfl))) (fun _ h9 => h9) rfl dX11_wall_28 ?_
      refine lv_iload_n hx hb dX11_wall_31 rfl (lv_at hl 1 rfl) ?_
      refine lv_iload_n hx hb dX11_wall_32 rfl (lv_at hl 2 rfl) ?_
      obtain ⟨w_8, w_9, w_10, w_11, hc_7, h⟩ := kb4_ok h
      refine gCallV (isC := [3, 4, 5]) (wc := [(q_now_wall, .inr (10, [.int v_now_wall_rows, .int v_now_wall_columns, .ref q_now_wall_air, .ref q_now_wall_paste, .ref q_now_wall_open, .int v_now_wall_holes, .int v_now_wall_out, .int v_now_wall_night, .ref q_now_wall_met, .ref q_now_wall_line, .int v_now_wall_inLine])), (q_now_wall_air, .inl (c 0, 25, .inl v_now_wall_air)), (q_now_wall_paste, .inl (c 0, 25, .inl v_now_wall_paste))]) (w1 := [(q_now_wall, .inr (10, [.int w_8, .int w_9, .ref q_now_wall_air, .ref q_now_wall_paste, .ref q_now_wall_open, .int v_now_wall_holes, .int v_now_wall_out, .int v_now_wall_night, .ref q_now_wall_met, .ref q_now_wall_line, .int v_now_wall_inLine])), (q_now_wall_air, .inl (c 0, 25, .inl w_10)), (q_now_wall_paste, .inl (c 0, 25, .inl w_11))]) hP hD hS hA rfl rfl (va_runV (rm := rm_X10_lay) (ws := wsX10_lay) (As := [.int a_1, .int a_2]) (rest := []) (gFix hF) (c_X10_lay l D c q_now_wall q_now_wall_air q_now_wall_paste q_now_wall_open q_now_wall_met q_now_wall_line a_1 a_2 v_now_wall_rows v_now_wall_columns v_now_wall_holes v_now_wall_out v_now_wall_night v_now_wall_inLine v_now_wall_air v_now_wall_paste w_8 w_9 w_10 w_11 hc_7 H.size) (cwV 2 hts gX11_wall_X10_lay rfl rfl rfl (by decide +kernel) ⟨Nat.le_of_ble_eq_true rfl, Nat.le_of_ble_eq_true rfl⟩) (gPreV (wc := [(q_now_wall, .inr (10, [.int v_now_wall_rows, .int v_now_wall_columns, .ref q_now_wall_air, .ref q_now_wall_paste, .ref q_now_wall_open, .int v_now_wall_holes, .int v_now_wall_out, .int v_now_wall_night, .ref q_now_wall_met, .ref q_now_wall_line, .int v_now_wall_inLine])), (q_now_wall_air, .inl (c 0, 25, .inl v_now_wall_air)), (q_now_wall_paste, .inl (c 0, 25, .inl v_now_wall_paste))]) (q := (RX10, TX10, 11)) (ci := 10) (q0 := 3) (isC := [3, 4, 5]) hK hX hS hA hP hD rfl (by decide) rfl rfl) rfl rfl hl.1 rfl (lv_room (Nat.le_of_ble_eq_true rfl)) dX11_wall_33 ⟨Nat.le_of_ble_eq_true rfl, Nat.le_of_ble_eq_true rfl⟩) (fun H locs hP hD hS => ?_)
      have hP : va_P D gcl [(q_this, .inr (11, [.ref q_now, .ref q_kept, .int v_images, .ref q_kinds, .ref q_voice, .ref q_thought, .ref q_further, .ref q_errors, .ref q_sheetBits, .ref q_sheetLength, .ref q_numbers])), (q_errors, .inl (c 0, 6, .inl v_errors)), (q_now, .inr (7, [.ref q_now_wall, .int v_now_tools, .ref q_now_kind, .ref q_now_m, .ref q_now_tape, .int v_now_tapeLength, .ref q_now_moved, .ref q_now_seen, .int v_now_z, .ref q_now_told, .int v_now_waiting])), (q_now_wall, .inr (10, [.int w_8, .int w_9, .ref q_now_wall_air, .ref q_now_wall_paste, .ref q_now_wall_open, .int v_now_wall_holes, .int v_now_wall_out, .int v_now_wall_night, .ref q_now_wall_met, .ref q_now_wall_line, .int v_now_wall_inLine])), (q_now_wall_air, .inl (c 0, 25, .inl w_10)), (q_now_wall_paste, .inl (c 0, 25, .inl w_11))] H := hP
      have hD : va_D A [(q_this, .inr (11, [.ref q_now, .ref q_kept, .int v_images, .ref q_kinds, .ref q_voice, .ref q_thought, .ref q_further, .ref q_errors, .ref q_sheetBits, .ref q_sheetLength, .ref q_numbers])), (q_errors, .inl (c 0, 6, .inl v_errors)), (q_now, .inr (7, [.ref q_now_wall, .int v_now_tools, .ref q_now_kind, .ref q_now_m, .ref q_now_tape, .int v_now_tapeLength, .ref q_now_moved, .ref q_now_seen, .int v_now_z, .ref q_now_told, .int v_now_waiting])), (q_now_wall, .inr (10, [.int w_8, .int w_9, .ref q_now_wall_air, .ref q_now_wall_paste, .ref q_now_wall_open, .int v_now_wall_holes, .int v_now_wall_out, .int v_now_wall_night, .ref q_now_wall_met, .ref q_now_wall_line, .int v_now_wall_inLine])), (q_now_wall_air, .inl (c 0, 25, .inl w_10)), (q_now_wall_paste, .inl (c 0, 25, .inl w_11))] := hD
      refine lv_aload_n hx hb dX11_wall_36 rfl (lv_at hl 0 rfl) ?_
      refine va_get (D := D) (ci := 11) (v := .ref q_now) (C := RX11) (T := TX11) (N := 11) hx hb hts in_X11_wall_X11 hown hK.1 hP 0 rfl rfl 0 (by decide) (hts (.fieldLink RX11 14 "PaperBubbles" "now" "LPaperBubbles$State;") (List.mem_of_getElem? (i := 1) rfl)) (fun _ h9 => h9) rfl dX11_wall_37 ?_
      refine va_getN (D := D) (ci := 7) (v := .ref q_now_wall) (C := RX7) (T := TX7) (N := 11) hx hb hts in_X11_wall_X7 hown hK.1 hP 2 rfl rfl 0 (by decide) (va_Nw.use rfl (hK.2 (.fieldLinkNest "PaperBubbles" 86 "PaperBubbles$State" "wall" "LPaperBubbles$Wall;" "PaperBubbles") (List.mem_of_getElem? (i := 18) rfl))) (fun _ h9 => h9) rfl dX11_wall_40 ?_
      obtain ⟨r_13, hc_12, h⟩ := kb_ok h
      refine gCallI (isC := [3]) (wc := [(q_now_wall, .inr (10, [.int w_8, .int w_9, .ref q_now_wall_air, .ref q_now_wall_paste, .ref q_now_wall_open, .int v_now_wall_holes, .int v_now_wall_out, .int v_now_wall_night, .ref q_now_wall_met, .ref q_now_wall_line, .int v_now_wall_inLine]))]) (w1 := [(q_now_wall, .inr (10, [.int w_8, .int w_9, .ref q_now_wall_air, .ref q_now_wall_paste, .ref q_now_wall_open, .int v_now_wall_holes, .int v_now_wall_out, .int v_now_wall_night, .ref q_now_wall_met, .ref q_now_wall_line, .int v_now_wall_inLine]))]) hP hD hS hA rfl rfl (va_runV (rm := rm_X10_cells) (ws := wsX10_cells) (As := []) (rest := []) (gFix hF) (c_X10_cells l D c q_now_wall q_now_wall_air q_now_wall_paste q_now_wall_open q_now_wall_met q_now_wall_line w_8 w_9 v_now_wall_holes v_now_wall_out v_now_wall_night v_now_wall_inLine r_13 hc_12 H.size) (cwV 0 hts gX11_wall_X10_cells rfl rfl rfl (by decide +kernel) ⟨Nat.le_of_ble_eq_true rfl, Nat.le_of_ble_eq_true rfl⟩) (gPreV (wc := [(q_now_wall, .inr (10, [.int w_8, .int w_9, .ref q_now_wall_air, .ref q_now_wall_paste, .ref q_now_wall_open, .int v_now_wall_holes, .int v_now_wall_out, .int v_now_wall_night, .ref q_now_wall_met, .ref q_now_wall_line, .int v_now_wall_inLine]))]) (q := (RX10, TX10, 11)) (ci := 10) (q0 := 3) (isC := [3]) hK hX hS hA hP hD rfl (by decide) rfl rfl) rfl rfl hl.1 rfl (lv_room (Nat.le_of_ble_eq_true rfl)) dX11_wall_43 ⟨Nat.le_of_ble_eq_true rfl, Nat.le_of_ble_eq_true rfl⟩) (fun H locs hP hD hS => ?_)
      have hP : va_P D gcl [(q_this, .inr (11, [.ref q_now, .ref q_kept, .int v_images, .ref q_kinds, .ref q_voice, .ref q_thought, .ref q_further, .ref q_errors, .ref q_sheetBits, .ref q_sheetLength, .ref q_numbers])), (q_errors, .inl (c 0, 6, .inl v_errors)), (q_now, .inr (7, [.ref q_now_wall, .int v_now_tools, .ref q_now_kind, .ref q_now_m, .ref q_now_tape, .int v_now_tapeLength, .ref q_now_moved, .ref q_now_seen, .int v_now_z, .ref q_now_told, .int v_now_waiting])), (q_now_wall, .inr (10, [.int w_8, .int w_9, .ref q_now_wall_air, .ref q_now_wall_paste, .ref q_now_wall_open, .int v_now_wall_holes, .int v_now_wall_out, .int v_now_wall_night, .ref q_now_wall_met, .ref q_now_wall_line, .int v_now_wall_inLine])), (q_now_wall_air, .inl (c 0, 25, .inl w_10)), (q_now_wall_paste, .inl (c 0, 25, .inl w_11))] H := hP
      have hD : va_D A [(q_this, .inr (11, [.ref q_now, .ref q_kept, .int v_images, .ref q_kinds, .ref q_voice, .ref q_thought, .ref q_further, .ref q_errors, .ref q_sheetBits, .ref q_sheetLength, .ref q_numbers])), (q_errors, .inl (c 0, 6, .inl v_errors)), (q_now, .inr (7, [.ref q_now_wall, .int v_now_tools, .ref q_now_kind, .ref q_now_m, .ref q_now_tape, .int v_now_tapeLength, .ref q_now_moved, .ref q_now_seen, .int v_now_z, .ref q_now_told, .int v_now_waiting])), (q_now_wall, .inr (10, [.int w_8, .int w_9, .ref q_now_wall_air, .ref q_now_wall_paste, .ref q_now_wall_open, .int v_now_wall_holes, .int v_now_wall_out, .int v_now_wall_night, .ref q_now_wall_met, .ref q_now_wall_line, .int v_now_wall_inLine])), (q_now_wall_air, .inl (c 0, 25, .inl w_10)), (q_now_wall_paste, .inl (c 0, 25, .inl w_11))] := hD
      cases h
      exact gIret hF hP hD hS rfl dX11_wall_46
    · have h := it_t c_6 h
      exact t_L18 v_errors v_now_wall_rows v_now_wall_columns v_now_wall_air v_now_wall_paste H locs hP hD hS ls (lv_sub hl [0] rfl) h
set_option maxRecDepth 20000 in
theorem in_X11_wayOut_X11 : ∀ w ∈ u_ws RX11 TX11 11, w ∈ wsX11_wayOut := by decide +kernel
set_option maxRecDepth 20000 in
theorem in_X11_wayOut_X7 : ∀ w ∈ u_ws RX7 TX7 11, w ∈ wsX11_wayOut := by decide +kernel
def f_X11_wayOut_L19 (a_1 : Int32) (v_now_wall_rows : Int32) (v_now_wall_columns : Int32) (v_now_wall_open : Nat → Int32) : Nat → Int32 → Int32 → (Nat → Int32) → Option (Int32 × (Nat → Int32))
  | 0, _, _, _ => none
  | n + 1, x2, x3, v_errors =>
    if 4 ≤ x3 then
      if 25 ≤ x2 then
        kb2 (f_X11_error 2 v_errors) fun r_10 w_11 =>
        some (r_10, w_11)
      else
        some (x2, v_errors)
    else
      kb (f_X10_isOpen x3 v_now_wall_open) fun r_13 =>
      if r_13 = 0 then
        nm (x3 + 1) fun t_15 =>
        f_X11_wayOut_L19 a_1 v_now_wall_rows v_now_wall_columns v_now_wall_open n x2 t_15 v_errors
      else
        kb (f_X10_cellsAhead a_1 x3 v_now_wall_rows v_now_wall_columns) fun r_17 =>
        nm (if r_17 < x2 then r_17 else x2) fun t_18 =>
        nm (x3 + 1) fun t_19 =>
        f_X11_wayOut_L19 a_1 v_now_wall_rows v_now_wall_columns v_now_wall_open n t_18 t_19 v_errors

def f_X11_wayOut (a_1 : Int32) (v_errors : Nat → Int32) (v_now_wall_rows : Int32) (v_now_wall_columns : Int32) (v_now_wall_open : Nat → Int32) : Option (Int32 × (Nat → Int32)) :=
  kb (f_X11_isCell a_1 v_now_wall_rows v_now_wall_columns) fun r_2 =>
  if r_2 = 0 then
    kb2 (f_X11_error 1 v_errors) fun r_5 w_6 =>
    some (r_5, w_6)
  else
    f_X11_wayOut_L19 a_1 v_now_wall_rows v_now_wall_columns v_now_wall_open gFuel 25 0 v_errors

abbrev rm_X11_wayOut : Room := { frames := 3, cells := 0, slots := 0, locals := 63 }
set_option maxHeartbeats 4000000 in
set_option maxRecDepth 100000 in
theorem c_X11_wayOut (l : Launch) (D : va_G) (c : Nat → ClassId) (q_this q_now q_kept q_kinds q_voice q_thought q_further q_errors q_sheetBits q_sheetLength q_numbers q_now_wall q_now_kind q_now_m q_now_tape q_now_moved q_now_seen q_now_told q_now_wall_air q_now_wall_paste q_now_wall_open q_now_wall_met q_now_wall_line : Nat) (a_1 : Int32) (v_images : Int32) (v_errors : Nat → Int32) (v_now_tools : Int32) (v_now_tapeLength : Int32) (v_now_z : Int32) (v_now_waiting : Int32) (v_now_wall_rows : Int32) (v_now_wall_columns : Int32) (v_now_wall_holes : Int32) (v_now_wall_out : Int32) (v_now_wall_night : Int32) (v_now_wall_inLine : Int32) (v_now_wall_open : Nat → Int32) (o_r : Int32) (o_v_errors : Nat → Int32) (h : f_X11_wayOut a_1 v_errors v_now_wall_rows v_now_wall_columns v_now_wall_open = some (o_r, o_v_errors)) : gMI l yX11_wayOut wsX11_wayOut rm_X11_wayOut D c [.ref q_this, .int a_1] [(q_this, .inr (11, [.ref q_now, .ref q_kept, .int v_images, .ref q_kinds, .ref q_voice, .ref q_thought, .ref q_further, .ref q_errors, .ref q_sheetBits, .ref q_sheetLength, .ref q_numbers])), (q_errors, .inl (c 0, 6, .inl v_errors)), (q_now, .inr (7, [.ref q_now_wall, .int v_now_tools, .ref q_now_kind, .ref q_now_m, .ref q_now_tape, .int v_now_tapeLength, .ref q_now_moved, .ref q_now_seen, .int v_now_z, .ref q_now_told, .int v_now_waiting])), (q_now_wall, .inr (10, [.int v_now_wall_rows, .int v_now_wall_columns, .ref q_now_wall_air, .ref q_now_wall_paste, .ref q_now_wall_open, .int v_now_wall_holes, .int v_now_wall_out, .int v_now_wall_night, .ref q_now_wall_met, .ref q_now_wall_line, .int v_now_wall_inLine])), (q_now_wall_open, .inl (c 0, 4, .inl v_now_wall_open))] [(q_this, .inr (11, [.ref q_now, .ref q_kept, .int v_images, .ref q_kinds, .ref q_voice, .ref q_thought, .ref q_further, .ref q_errors, .ref q_sheetBits, .ref q_sheetLength, .ref q_numbers])), (q_errors, .inl (c 0, 6, .inl o_v_errors)), (q_now, .inr (7, [.ref q_now_wall, .int v_now_tools, .ref q_now_kind, .ref q_now_m, .ref q_now_tape, .int v_now_tapeLength, .ref q_now_moved, .ref q_now_seen, .int v_now_z, .ref q_now_told, .int v_now_waiting])), (q_now_wall, .inr (10, [.int v_now_wall_rows, .int v_now_wall_columns, .ref q_now_wall_air, .ref q_now_wall_paste, .ref q_now_wall_open, .int v_now_wall_holes, .int v_now_wall_out, .int v_now_wall_night, .ref q_now_wall_met, .ref q_now_wall_line, .int v_now_wall_inLine])), (q_now_wall_open, .inl (c 0, 4, .inl v_now_wall_open))] o_r := by
  refine gMI_of (cc := cX11_wayOut) (maxL := 4) (rt := (some .int)) (by decide +kernel) rfl (Nat.le_of_ble_eq_true rfl) ?_
  intro p e s m below meth co A hF hK hX hP hD hA hS ls hl
  obtain ⟨hx, hb, hr, hts, hown, hlocks, hml⟩ := id hF
  have hl : lv_has ls 4 [(0, .ref q_this), (1, .int a_1)] := hl
  have t_L19 : ∀ (n : Nat), ∀ (x2 : Int32) (x3 : Int32) (v_errors : Nat → Int32) (H : Heap) (locs : List Loc), va_P D gcl [(q_this, .inr (11, [.ref q_now, .ref q_kept, .int v_images, .ref q_kinds, .ref q_voice, .ref q_thought, .ref q_further, .ref q_errors, .ref q_sheetBits, .ref q_sheetLength, .ref q_numbers])), (q_errors, .inl (c 0, 6, .inl v_errors)), (q_now, .inr (7, [.ref q_now_wall, .int v_now_tools, .ref q_now_kind, .ref q_now_m, .ref q_now_tape, .int v_now_tapeLength, .ref q_now_moved, .ref q_now_seen, .int v_now_z, .ref q_now_told, .int v_now_waiting])), (q_now_wall, .inr (10, [.int v_now_wall_rows, .int v_now_wall_columns, .ref q_now_wall_air, .ref q_now_wall_paste, .ref q_now_wall_open, .int v_now_wall_holes, .int v_now_wall_out, .int v_now_wall_night, .ref q_now_wall_met, .ref q_now_wall_line, .int v_now_wall_inLine])), (q_now_wall_open, .inl (c 0, 4, .inl v_now_wall_open))] H → va_D A [(q_this, .inr (11, [.ref q_now, .ref q_kept, .int v_images, .ref q_kinds, .ref q_voice, .ref q_thought, .ref q_further, .ref q_errors, .ref q_sheetBits, .ref q_sheetLength, .ref q_numbers])), (q_errors, .inl (c 0, 6, .inl v_errors)), (q_now, .inr (7, [.ref q_now_wall, .int v_now_tools, .ref q_now_kind, .ref q_now_m, .ref q_now_tape, .int v_now_tapeLength, .ref q_now_moved, .ref q_now_seen, .int v_now_z, .ref q_now_told, .int v_now_waiting])), (q_now_wall, .inr (10, [.int v_now_wall_rows, .int v_now_wall_columns, .ref q_now_wall_air, .ref q_now_wall_paste, .ref q_now_wall_open, .int v_now_wall_holes, .int v_now_wall_out, .int v_now_wall_night, .ref q_now_wall_met, .ref q_now_wall_line, .int v_now_wall_inLine])), (q_now_wall_open, .inl (c 0, 4, .inl v_now_wall_open))] → va_S A s.heap H locs → ∀ ls, lv_has ls 4 [(0, .ref q_this), (1, .int a_1), (2, .int x2), (3, .int x3)] → f_X11_wayOut_L19 a_1 v_now_wall_rows v_now_wall_columns v_now_wall_open n x2 x3 v_errors = some (o_r, o_v_errors) → W p l e (headSpec wsX11_wayOut rm_X11_wayOut).room s m [.ref q_this, .int a_1].toArray below meth co H locs 0 0 (gQI D [(q_this, .inr (11, [.ref q_now, .ref q_kept, .int v_images, .ref q_kinds, .ref q_voice, .ref q_thought, .ref q_further, .ref q_errors, .ref q_sheetBits, .ref q_sheetLength, .ref q_numbers])), (q_errors, .inl (c 0, 6, .inl o_v_errors)), (q_now, .inr (7, [.ref q_now_wall, .int v_now_tools, .ref q_now_kind, .ref q_now_m, .ref q_now_tape, .int v_now_tapeLength, .ref q_now_moved, .ref q_now_seen, .int v_now_z, .ref q_now_told, .int v_now_waiting])), (q_now_wall, .inr (10, [.int v_now_wall_rows, .int v_now_wall_columns, .ref q_now_wall_air, .ref q_now_wall_paste, .ref q_now_wall_open, .int v_now_wall_holes, .int v_now_wall_out, .int v_now_wall_night, .ref q_now_wall_met, .ref q_now_wall_line, .int v_now_wall_inLine])), (q_now_wall_open, .inl (c 0, 4, .inl v_now_wall_open))] o_r A below [.ref q_this, .int a_1] s) (F0 m 19 ls []) := by
    intro n
    induction n with
    | zero => intro x2 x3 v_errors H locs hP hD hS ls hl h; exact no_ok h
    | succ n ih =>
      intro x2 x3 v_errors H locs hP hD hS ls hl h
      rw [f_X11_wayOut_L19] at h
      refine lv_iload_n hx hb dX11_wayOut_19 rfl (lv_at hl 3 rfl) ?_
      refine lv_iconst (v := 4) hx hb dX11_wayOut_20 (by decide) ?_
      refine lv_icmp_ge (tgt := 61) hx hb dX11_wayOut_21 (by decide) (fun c_7 => ?_) (fun c_7 => ?_)
      · have h := it_t c_7 h
        refine lv_iload_n hx hb dX11_wayOut_61 rfl (lv_at hl 2 rfl) ?_
        refine lv_bipush (v := 25) hx hb dX11_wayOut_62 (by decide) ?_
        refine lv_icmp_ge (tgt := 71) hx hb dX11_wayOut_64 (by decide) (fun c_8 => ?_) (fun c_8 => ?_)
        · have h := it_t c_8 h
          refine lv_aload_n hx hb dX11_wayOut_71 rfl (lv_at hl 0 rfl) ?_
          refine lv_iconst (v := 2) hx hb dX11_wayOut_72 (by decide) ?_
          obtain ⟨r_10, w_11, hc_9, h⟩ := kb2_ok h
          refine gCallI (isC := [0, 1]) (wc := [(q_this, .inr (11, [.ref q_now, .ref q_kept, .int v_images, .ref q_kinds, .ref q_voice, .ref q_thought, .ref q_further, .ref q_errors, .ref q_sheetBits, .ref q_sheetLength, .ref q_numbers])), (q_errors, .inl (c 0, 6, .inl v_errors))]) (w1 := [(q_this, .inr (11, [.ref q_now, .ref q_kept, .int v_images, .ref q_kinds, .ref q_voice, .ref q_thought, .ref q_further, .ref q_errors, .ref q_sheetBits, .ref q_sheetLength, .ref q_numbers])), (q_errors, .inl (c 0, 6, .inl w_11))]) hP hD hS hA rfl rfl (va_runV (rm := rm_X11_error) (ws := wsX11_error) (As := [.int 2]) (rest := []) (gFix hF) (c_X11_error l D c q_this q_now q_kept q_kinds q_voice q_thought q_further q_errors q_sheetBits q_sheetLength q_numbers 2 v_images v_errors r_10 w_11 hc_9 H.size) (cwV 1 hts gX11_wayOut_X11_error rfl rfl rfl (by decide +kernel) ⟨Nat.le_of_ble_eq_true rfl, Nat.le_of_ble_eq_true rfl⟩) (gPreV (wc := [(q_this, .inr (11, [.ref q_now, .ref q_kept, .int v_images, .ref q_kinds, .ref q_voice, .ref q_thought, .ref q_further, .ref q_errors, .ref q_sheetBits, .ref q_sheetLength, .ref q_numbers])), (q_errors, .inl (c 0, 6, .inl v_errors))]) (q := (RX11, TX11, 11)) (ci := 11) (q0 := 0) (isC := [0, 1]) hK hX hS hA hP hD rfl (by decide) rfl rfl) rfl rfl hl.1 rfl (lv_room (Nat.le_of_ble_eq_true rfl)) dX11_wayOut_73 ⟨Nat.le_of_ble_eq_true rfl, Nat.le_of_ble_eq_true rfl⟩) (fun H locs hP hD hS => ?_)
          have hP : va_P D gcl [(q_this, .inr (11, [.ref q_now, .ref q_kept, .int v_images, .ref q_kinds, .ref q_voice, .ref q_thought, .ref q_further, .ref q_errors, .ref q_sheetBits, .ref q_sheetLength, .ref q_numbers])), (q_errors, .inl (c 0, 6, .inl w_11)), (q_now, .inr (7, [.ref q_now_wall, .int v_now_tools, .ref q_now_kind, .ref q_now_m, .ref q_now_tape, .int v_now_tapeLength, .ref q_now_moved, .ref q_now_seen, .int v_now_z, .ref q_now_told, .int v_now_waiting])), (q_now_wall, .inr (10, [.int v_now_wall_rows, .int v_now_wall_columns, .ref q_now_wall_air, .ref q_now_wall_paste, .ref q_now_wall_open, .int v_now_wall_holes, .int v_now_wall_out, .int v_now_wall_night, .ref q_now_wall_met, .ref q_now_wall_line, .int v_now_wall_inLine])), (q_now_wall_open, .inl (c 0, 4, .inl v_now_wall_open))] H := hP
          have hD : va_D A [(q_this, .inr (11, [.ref q_now, .ref q_kept, .int v_images, .ref q_kinds, .ref q_voice, .ref q_thought, .ref q_further, .ref q_errors, .ref q_sheetBits, .ref q_sheetLength, .ref q_numbers])), (q_errors, .inl (c 0, 6, .inl w_11)), (q_now, .inr (7, [.ref q_now_wall, .int v_now_tools, .ref q_now_kind, .ref q_now_m, .ref q_now_tape, .int v_now_tapeLength, .ref q_now_moved, .ref q_now_seen, .int v_now_z, .ref q_now_told, .int v_now_waiting])), (q_now_wall, .inr (10, [.int v_now_wall_rows, .int v_now_wall_columns, .ref q_now_wall_air, .ref q_now_wall_paste, .ref q_now_wall_open, .int v_now_wall_holes, .int v_now_wall_out, .int v_now_wall_night, .ref q_now_wall_met, .ref q_now_wall_line, .int v_now_wall_inLine])), (q_now_wall_open, .inl (c 0, 4, .inl v_now_wall_open))] := hD
          cases h
          exact gIret hF hP hD hS rfl dX11_wayOut_76
        · have h := it_f c_8 h
          refine lv_iload_n hx hb dX11_wayOut_67 rfl (lv_at hl 2 rfl) ?_
          refine lv_goto (tgt := 76) hx hb dX11_wayOut_68 (by decide) ?_
          cases h
          exact gIret hF hP hD hS rfl dX11_wayOut_76
      · have h := it_f c_7 h
        refine lv_aload_n hx hb dX11_wayOut_24 rfl (lv_at hl 0 rfl) ?_
        refine va_get (D := D) (ci := 11) (v := .ref q_now) (C := RX11) (T := TX11) (N := 11) hx hb hts in_X11_wayOut_X11 hown hK.1 hP 0 rfl rfl 0 (by decide) (hts (.fieldLink RX11 14 "PaperBubbles" "now" "LPaperBubbles$State;") (List.mem_of_getElem? (i := 1) rfl)) (fun _ h9 => h9) rfl dX11_wayOut_25 ?_
        refine va_getN (D := D) (ci := 7) (v := .ref q_now_wall) (C := RX7) (T := TX7) (N := 11) hx hb hts in_X11_wayOut_X7 hown hK.1 hP 2 rfl rfl 0 (by decide) (va_Nw.use rfl (hK.2 (.fieldLinkNest "PaperBubbles" 86 "PaperBubbles$State" "wall" "LPaperBubbles$Wall;" "PaperBubbles") (List.mem_of_getElem? (i := 18) rfl))) (fun _ h9 => h9) rfl dX11_wayOut_28 ?_
        refine lv_iload_n hx hb dX11_wayOut_31 rfl (lv_at hl 3 rfl) ?_
        obtain ⟨r_13, hc_12, h⟩ := kb_ok h
        refine gCallI (isC := [3, 4]) (wc := [(q_now_wall, .inr (10, [.int v_now_wall_rows, .int v_now_wall_columns, .ref q_now_wall_air, .ref q_now_wall_paste, .ref q_now_wall_open, .int v_now_wall_holes, .int v_now_wall_out, .int v_now_wall_night, .ref q_now_wall_met, .ref q_now_wall_line, .int v_now_wall_inLine])), (q_now_wall_open, .inl (c 0, 4, .inl v_now_wall_open))]) (w1 := [(q_now_wall, .inr (10, [.int v_now_wall_rows, .int v_now_wall_columns, .ref q_now_wall_air, .ref q_now_wall_paste, .ref q_now_wall_open, .int v_now_wall_holes, .int v_now_wall_out, .int v_now_wall_night, .ref q_now_wall_met, .ref q_now_wall_line, .int v_now_wall_inLine])), (q_now_wall_open, .inl (c 0, 4, .inl v_now_wall_open))]) hP hD hS hA rfl rfl (va_runV (rm := rm_X10_isOpen) (ws := wsX10_isOpen) (As := [.int x3]) (rest := []) (gFix hF) (c_X10_isOpen l D c q_now_wall q_now_wall_air q_now_wall_paste q_now_wall_open q_now_wall_met q_now_wall_line x3 v_now_wall_rows v_now_wall_columns v_now_wall_holes v_now_wall_out v_now_wall_night v_now_wall_inLine v_now_wall_open r_13 hc_12 H.size) (cwV 1 hts gX11_wayOut_X10_isOpen rfl rfl rfl (by decide +kernel) ⟨Nat.le_of_ble_eq_true rfl, Nat.le_of_ble_eq_true rfl⟩) (gPreV (wc := [(q_now_wall, .inr (10, [.int v_now_wall_rows, .int v_now_wall_columns, .ref q_now_wall_air, .ref q_now_wall_paste, .ref q_now_wall_open, .int v_now_wall_holes, .int v_now_wall_out, .int v_now_wall_night, .ref q_now_wall_met, .ref q_now_wall_line, .int v_now_wall_inLine])), (q_now_wall_open, .inl (c 0, 4, .inl v_now_wall_open))]) (q := (RX10, TX10, 11)) (ci := 10) (q0 := 3) (isC := [3, 4]) hK hX hS hA hP hD rfl (by decide) rfl rfl) rfl rfl hl.1 rfl (lv_room (Nat.le_of_ble_eq_true rfl)) dX11_wayOut_32 ⟨Nat.le_of_ble_eq_true rfl, Nat.le_of_ble_eq_true rfl⟩) (fun H locs hP hD hS => ?_)
        have hP : va_P D gcl [(q_this, .inr (11, [.ref q_now, .ref q_kept, .int v_images, .ref q_kinds, .ref q_voice, .ref q_thought, .ref q_further, .ref q_errors, .ref q_sheetBits, .ref q_sheetLength, .ref q_numbers])), (q_errors, .inl (c 0, 6, .inl v_errors)), (q_now, .inr (7, [.ref q_now_wall, .int v_now_tools, .ref q_now_kind, .ref q_now_m, .ref q_now_tape, .int v_now_tapeLength, .ref q_now_moved, .ref q_now_seen, .int v_now_z, .ref q_now_told, .int v_now_waiting])), (q_now_wall, .inr (10, [.int v_now_wall_rows, .int v_now_wall_columns, .ref q_now_wall_air, .ref q_now_wall_paste, .ref q_now_wall_open, .int v_now_wall_holes, .int v_now_wall_out, .int v_now_wall_night, .ref q_now_wall_met, .ref q_now_wall_line, .int v_now_wall_inLine])), (q_now_wall_open, .inl (c 0, 4, .inl v_now_wall_open))] H := hP
        have hD : va_D A [(q_this, .inr (11, [.ref q_now, .ref q_kept, .int v_images, .ref q_kinds, .ref q_voice, .ref q_thought, .ref q_further, .ref q_errors, .ref q_sheetBits, .ref q_sheetLength, .ref q_numbers])), (q_errors, .inl (c 0, 6, .inl v_errors)), (q_now, .inr (7, [.ref q_now_wall, .int v_now_tools, .ref q_now_kind, .ref q_now_m, .ref q_now_tape, .int v_now_tapeLength, .ref q_now_moved, .ref q_now_seen, .int v_now_z, .ref q_now_told, .int v_now_waiting])), (q_now_wall, .inr (10, [.int v_now_wall_rows, .int v_now_wall_columns, .ref q_now_wall_air, .ref q_now_wall_paste, .ref q_now_wall_open, .int v_now_wall_holes, .int v_now_wall_out, .int v_now_wall_night, .ref q_now_wall_met, .ref q_now_wall_line, .int v_now_wall_inLine])), (q_now_wall_open, .inl (c 0, 4, .inl v_now_wall_open))] := hD
        refine lv_if_eq (tgt := 55) hx hb dX11_wayOut_35 (by decide) (fun c_14 => ?_) (fun c_14 => ?_)
        · have h := it_t c_14 h
          obtain ⟨t_15, et_15, h⟩ := nm_ok h
          refine lv_iinc (v := t_15) (lv' := [(3, .int t_15), (0, .ref q_this), (1, .int a_1), (2, .int x2)]) hx hb dX11_wayOut_55 hl (k := 3) rfl (by rw [et_15]; rfl) (by decide) rfl (fun ls hl => ?_)
          refine lv_goto (tgt := 19) hx hb dX11_wayOut_58 (by decide) ?_
          exact ih x2 t_15 v_errors H locs hP hD hS ls (lv_sub hl [1, 2, 3, 0] rfl) h
        · have h := it_f c_14 h
          refine lv_iload_n hx hb dX11_wayOut_38 rfl (lv_at hl 2 rfl) ?_
          refine lv_aload_n hx hb dX11_wayOut_39 rfl (lv_at hl 0 rfl) ?_
          refine va_get (D := D) (ci := 11) (v := .ref q_now) (C := RX11) (T := TX11) (N := 11) hx hb hts in_X11_wayOut_X11 hown hK.1 hP 0 rfl rfl 0 (by decide) (hts (.fieldLink RX11 14 "PaperBubbles" "now" "LPaperBubbles$State;") (List.mem_of_getElem? (i := 1) rfl)) (fun _ h9 => h9) rfl dX11_wayOut_40 ?_
          refine va_getN (D := D) (ci := 7) (v := .ref q_now_wall) (C := RX7) (T := TX7) (N := 11) hx hb hts in_X11_wayOut_X7 hown hK.1 hP 2 rfl rfl 0 (by decide) (va_Nw.use rfl (hK.2 (.fieldLinkNest "PaperBubbles" 86 "PaperBubbles$State" "wall" "LPaperBubbles$Wall;" "PaperBubbles") (List.mem_of_getElem? (i := 18) rfl))) (fun _ h9 => h9) rfl dX11_wayOut_43 ?_
          refine lv_iload_n hx hb dX11_wayOut_46 rfl (lv_at hl 1 rfl) ?_
          refine lv_iload_n hx hb dX11_wayOut_47 rfl (lv_at hl 3 rfl) ?_
          obtain ⟨r_17, hc_16, h⟩ := kb_ok h
          refine gCallI (isC := [3]) (wc := [(q_now_wall, .inr (10, [.int v_now_wall_rows, .int v_now_wall_columns, .ref q_now_wall_air, .ref q_now_wall_paste, .ref q_now_wall_open, .int v_now_wall_holes, .int v_now_wall_out, .int v_now_wall_night, .ref q_now_wall_met, .ref q_now_wall_line, .int v_now_wall_inLine]))]) (w1 := [(q_now_wall, .inr (10, [.int v_now_wall_rows, .int v_now_wall_columns, .ref q_now_wall_air, .ref q_now_wall_paste, .ref q_now_wall_open, .int v_now_wall_holes, .int v_now_wall_out, .int v_now_wall_night, .ref q_now_wall_met, .ref q_now_wall_line, .int v_now_wall_inLine]))]) hP hD hS hA rfl rfl (va_runV (rm := rm_X10_cellsAhead) (ws := wsX10_cellsAhead) (As := [.int a_1, .int x3]) (rest := [.int x2]) (gFix hF) (c_X10_cellsAhead l D c q_now_wall q_now_wall_air q_now_wall_paste q_now_wall_open q_now_wall_met q_now_wall_line a_1 x3 v_now_wall_rows v_now_wall_columns v_now_wall_holes v_now_wall_out v_now_wall_night v_now_wall_inLine r_17 hc_16 H.size) (cwV 2 hts gX11_wayOut_X10_cellsAhead rfl rfl rfl (by decide +kernel) ⟨Nat.le_of_ble_eq_true rfl, Nat.le_of_ble_eq_true rfl⟩) (gPreV (wc := [(q_now_wall, .inr (10, [.int v_now_wall_rows, .int v_now_wall_columns, .ref q_now_wall_air, .ref q_now_wall_paste, .ref q_now_wall_open, .int v_now_wall_holes, .int v_now_wall_out, .int v_now_wall_night, .ref q_now_wall_met, .ref q_now_wall_line, .int v_now_wall_inLine]))]) (q := (RX10, TX10, 11)) (ci := 10) (q0 := 3) (isC := [3]) hK hX hS hA hP hD rfl (by decide) rfl rfl) rfl rfl hl.1 rfl (lv_room (Nat.le_of_ble_eq_true rfl)) dX11_wayOut_48 ⟨Nat.le_of_ble_eq_true rfl, Nat.le_of_ble_eq_true rfl⟩) (fun H locs hP hD hS => ?_)
          have hP : va_P D gcl [(q_this, .inr (11, [.ref q_now, .ref q_kept, .int v_images, .ref q_kinds, .ref q_voice, .ref q_thought, .ref q_further, .ref q_errors, .ref q_sheetBits, .ref q_sheetLength, .ref q_numbers])), (q_errors, .inl (c 0, 6, .inl v_errors)), (q_now, .inr (7, [.ref q_now_wall, .int v_now_tools, .ref q_now_kind, .ref q_now_m, .ref q_now_tape, .int v_now_tapeLength, .ref q_now_moved, .ref q_now_seen, .int v_now_z, .ref q_now_told, .int v_now_waiting])), (q_now_wall, .inr (10, [.int v_now_wall_rows, .int v_now_wall_columns, .ref q_now_wall_air, .ref q_now_wall_paste, .ref q_now_wall_open, .int v_now_wall_holes, .int v_now_wall_out, .int v_now_wall_night, .ref q_now_wall_met, .ref q_now_wall_line, .int v_now_wall_inLine])), (q_now_wall_open, .inl (c 0, 4, .inl v_now_wall_open))] H := hP
          have hD : va_D A [(q_this, .inr (11, [.ref q_now, .ref q_kept, .int v_images, .ref q_kinds, .ref q_voice, .ref q_thought, .ref q_further, .ref q_errors, .ref q_sheetBits, .ref q_sheetLength, .ref q_numbers])), (q_errors, .inl (c 0, 6, .inl v_errors)), (q_now, .inr (7, [.ref q_now_wall, .int v_now_tools, .ref q_now_kind, .ref q_now_m, .ref q_now_tape, .int v_now_tapeLength, .ref q_now_moved, .ref q_now_seen, .int v_now_z, .ref q_now_told, .int v_now_waiting])), (q_now_wall, .inr (10, [.int v_now_wall_rows, .int v_now_wall_columns, .ref q_now_wall_air, .ref q_now_wall_paste, .ref q_now_wall_open, .int v_now_wall_holes, .int v_now_wall_out, .int v_now_wall_night, .ref q_now_wall_met, .ref q_now_wall_line, .int v_now_wall_inLine])), (q_now_wall_open, .inl (c 0, 4, .inl v_now_wall_open))] := hD
          refine va_mmin hx hb (by rw [hml]; exact hl.1.symm) hown (hts (.methodLink RX11 158 Lib.Math.min.name) (List.mem_of_getElem? (i := 2) rfl)) (hts (.static Lib.Math.min.name) (List.mem_of_getElem? (i := 3) rfl)) (hts (.initialized "java/lang/Math") (List.mem_of_getElem? (i := 4) rfl)) (hts (.code Lib.Math.min.name Lib.Math.min.code 2 (some .int)) (List.mem_of_getElem? (i := 5) rfl)) (Nat.le_of_ble_eq_true rfl) (by first | exact Nat.le_of_ble_eq_true rfl | decide) (Nat.le_of_ble_eq_true rfl) (Nat.le_of_ble_eq_true rfl) dX11_wayOut_51 ?_
          obtain ⟨t_18, et_18, h⟩ := nm_ok h
          refine gTop et_18 ?_
          refine lv_istore_n (lv' := [(2, .int t_18), (0, .ref q_this), (1, .int a_1), (3, .int x3)]) hx hb dX11_wayOut_54 rfl hl (by decide) rfl (fun ls hl => ?_)
          obtain ⟨t_19, et_19, h⟩ := nm_ok h
          refine lv_iinc (v := t_19) (lv' := [(3, .int t_19), (2, .int t_18), (0, .ref q_this), (1, .int a_1)]) hx hb dX11_wayOut_55 hl (k := 3) rfl (by rw [et_19]; rfl) (by decide) rfl (fun ls hl => ?_)
          refine lv_goto (tgt := 19) hx hb dX11_wayOut_58 (by decide) ?_
          exact ih t_18 t_19 v_errors H locs hP hD hS ls (lv_sub hl [2, 3, 1, 0] rfl) h
  unfold f_X11_wayOut at h
  refine lv_aload_n hx hb dX11_wayOut_0 rfl (lv_at hl 0 rfl) ?_
  refine lv_iload_n hx hb dX11_wayOut_1 rfl (lv_at hl 1 rfl) ?_
  obtain ⟨r_2, hc_1, h⟩ := kb_ok h
  refine gCallI (isC := [0, 2, 3]) (wc := [(q_this, .inr (11, [.ref q_now, .ref q_kept, .int v_images, .ref q_kinds, .ref q_voice, .ref q_thought, .ref q_further, .ref q_errors, .ref q_sheetBits, .ref q_sheetLength, .ref q_numbers])), (q_now, .inr (7, [.ref q_now_wall, .int v_now_tools, .ref q_now_kind, .ref q_now_m, .ref q_now_tape, .int v_now_tapeLength, .ref q_now_moved, .ref q_now_seen, .int v_now_z, .ref q_now_told, .int v_now_waiting])), (q_now_wall, .inr (10, [.int v_now_wall_rows, .int v_now_wall_columns, .ref q_now_wall_air, .ref q_now_wall_paste, .ref q_now_wall_open, .int v_now_wall_holes, .int v_now_wall_out, .int v_now_wall_night, .ref q_now_wall_met, .ref q_now_wall_line, .int v_now_wall_inLine]))]) (w1 := [(q_this, .inr (11, [.ref q_now, .ref q_kept, .int v_images, .ref q_kinds, .ref q_voice, .ref q_thought, .ref q_further, .ref q_errors, .ref q_sheetBits, .ref q_sheetLength, .ref q_numbers])), (q_now, .inr (7, [.ref q_now_wall, .int v_now_tools, .ref q_now_kind, .ref q_now_m, .ref q_now_tape, .int v_now_tapeLength, .ref q_now_moved, .ref q_now_seen, .int v_now_z, .ref q_now_told, .int v_now_waiting])), (q_now_wall, .inr (10, [.int v_now_wall_rows, .int v_now_wall_columns, .ref q_now_wall_air, .ref q_now_wall_paste, .ref q_now_wall_open, .int v_now_wall_holes, .int v_now_wall_out, .int v_now_wall_night, .ref q_now_wall_met, .ref q_now_wall_line, .int v_now_wall_inLine]))]) hP hD hS hA rfl rfl (va_runV (rm := rm_X11_isCell) (ws := wsX11_isCell) (As := [.int a_1]) (rest := []) (gFix hF) (c_X11_isCell l D c q_this q_now q_kept q_kinds q_voice q_thought q_further q_errors q_sheetBits q_sheetLength q_numbers q_now_wall q_now_kind q_now_m q_now_tape q_now_moved q_now_seen q_now_told q_now_wall_air q_now_wall_paste q_now_wall_open q_now_wall_met q_now_wall_line a_1 v_images v_now_tools v_now_tapeLength v_now_z v_now_waiting v_now_wall_rows v_now_wall_columns v_now_wall_holes v_now_wall_out v_now_wall_night v_now_wall_inLine r_2 hc_1 s.heap.size) (cwV 1 hts gX11_wayOut_X11_isCell rfl rfl rfl (by decide +kernel) ⟨Nat.le_of_ble_eq_true rfl, Nat.le_of_ble_eq_true rfl⟩) (gPreV (wc := [(q_this, .inr (11, [.ref q_now, .ref q_kept, .int v_images, .ref q_kinds, .ref q_voice, .ref q_thought, .ref q_further, .ref q_errors, .ref q_sheetBits, .ref q_sheetLength, .ref q_numbers])), (q_now, .inr (7, [.ref q_now_wall, .int v_now_tools, .ref q_now_kind, .ref q_now_m, .ref q_now_tape, .int v_now_tapeLength, .ref q_now_moved, .ref q_now_seen, .int v_now_z, .ref q_now_told, .int v_now_waiting])), (q_now_wall, .inr (10, [.int v_now_wall_rows, .int v_now_wall_columns, .ref q_now_wall_air, .ref q_now_wall_paste, .ref q_now_wall_open, .int v_now_wall_holes, .int v_now_wall_out, .int v_now_wall_night, .ref q_now_wall_met, .ref q_now_wall_line, .int v_now_wall_inLine]))]) (q := (RX11, TX11, 11)) (ci := 11) (q0 := 0) (isC := [0, 2, 3]) hK hX hS hA hP hD rfl (by decide) rfl rfl) rfl rfl hl.1 rfl (lv_room (Nat.le_of_ble_eq_true rfl)) dX11_wayOut_2 ⟨Nat.le_of_ble_eq_true rfl, Nat.le_of_ble_eq_true rfl⟩) (fun H locs hP hD hS => ?_)
  have hP : va_P D gcl [(q_this, .inr (11, [.ref q_now, .ref q_kept, .int v_images, .ref q_kinds, .ref q_voice, .ref q_thought, .ref q_further, .ref q_errors, .ref q_sheetBits, .ref q_sheetLength, .ref q_numbers])), (q_errors, .inl (c 0, 6, .inl v_errors)), (q_now, .inr (7, [.ref q_now_wall, .int v_now_tools, .ref q_now_kind, .ref q_now_m, .ref q_now_tape, .int v_now_tapeLength, .ref q_now_moved, .ref q_now_seen, .int v_now_z, .ref q_now_told, .int v_now_waiting])), (q_now_wall, .inr (10, [.int v_now_wall_rows, .int v_now_wall_columns, .ref q_now_wall_air, .ref q_now_wall_paste, .ref q_now_wall_open, .int v_now_wall_holes, .int v_now_wall_out, .int v_now_wall_night, .ref q_now_wall_met, .ref q_now_wall_line, .int v_now_wall_inLine])), (q_now_wall_open, .inl (c 0, 4, .inl v_now_wall_open))] H := hP
  have hD : va_D A [(q_this, .inr (11, [.ref q_now, .ref q_kept, .int v_images, .ref q_kinds, .ref q_voice, .ref q_thought, .ref q_further, .ref q_errors, .ref q_sheetBits, .ref q_sheetLength, .ref q_numbers])), (q_errors, .inl (c 0, 6, .inl v_errors)), (q_now, .inr (7, [.ref q_now_wall, .int v_now_tools, .ref q_now_kind, .ref q_now_m, .ref q_now_tape, .int v_now_tapeLength, .ref q_now_moved, .ref q_now_seen, .int v_now_z, .ref q_now_told, .int v_now_waiting])), (q_now_wall, .inr (10, [.int v_now_wall_rows, .int v_now_wall_columns, .ref q_now_wall_air, .ref q_now_wall_paste, .ref q_now_wall_open, .int v_now_wall_holes, .int v_now_wall_out, .int v_now_wall_night, .ref q_now_wall_met, .ref q_now_wall_line, .int v_now_wall_inLine])), (q_now_wall_open, .inl (c 0, 4, .inl v_now_wall_open))] := hD
  refine lv_if_ne (tgt := 14) hx hb dX11_wayOut_5 (by decide) (fun c_3 => ?_) (fun c_3 => ?_)
  · have h := it_f c_3 h
    refine lv_bipush (v := 25) hx hb dX11_wayOut_14 (by decide) ?_
    refine lv_istore_n (lv' := [(2, .int 25), (0, .ref q_this), (1, .int a_1)]) hx hb dX11_wayOut_16 rfl hl (by decide) rfl (fun ls hl => ?_)
    refine lv_iconst (v := 0) hx hb dX11_wayOut_17 (by decide) ?_
    refine lv_istore_n (lv' := [(3, .int 0), (2, .int 25), (0, .ref q_this), (1, .int a_1)]) hx hb dX11_wayOut_18 rfl hl (by decide) rfl (fun ls hl => ?_)
    exact t_L19 gFuel 25 0 v_errors H locs hP hD hS ls (lv_sub hl [2, 3, 1, 0] rfl) h
  · have h := it_t c_3 h
    refine lv_aload_n hx hb dX11_wayOut_8 rfl (lv_at hl 0 rfl) ?_
    refine lv_iconst (v := 1) hx hb dX11_wayOut_9 (by decide) ?_
    obtain ⟨r_5, w_6, hc_4, h⟩ := kb2_ok h
    refine gCallI (isC := [0, 1]) (wc := [(q_this, .inr (11, [.ref q_now, .ref q_kept, .int v_images, .ref q_kinds, .ref q_voice, .ref q_thought, .ref q_further, .ref q_errors, .ref q_sheetBits, .ref q_sheetLength, .ref q_numbers])), (q_errors, .inl (c 0, 6, .inl v_errors))]) (w1 := [(q_this, .inr (11, [.ref q_now, .ref q_kept, .int v_images, .ref q_kinds, .ref q_voice, .ref q_thought, .ref q_further, .ref q_errors, .ref q_sheetBits, .ref q_sheetLength, .ref q_numbers])), (q_errors, .inl (c 0, 6, .inl w_6))]) hP hD hS hA rfl rfl (va_runV (rm := rm_X11_error) (ws := wsX11_error) (As := [.int 1]) (rest := []) (gFix hF) (c_X11_error l D c q_this q_now q_kept q_kinds q_voice q_thought q_further q_errors q_sheetBits q_sheetLength q_numbers 1 v_images v_errors r_5 w_6 hc_4 H.size) (cwV 1 hts gX11_wayOut_X11_error rfl rfl rfl (by decide +kernel) ⟨Nat.le_of_ble_eq_true rfl, Nat.le_of_ble_eq_true rfl⟩) (gPreV (wc := [(q_this, .inr (11, [.ref q_now, .ref q_kept, .int v_images, .ref q_kinds, .ref q_voice, .ref q_thought, .ref q_further, .ref q_errors, .ref q_sheetBits, .ref q_sheetLength, .ref q_numbers])), (q_errors, .inl (c 0, 6, .inl v_errors))]) (q := (RX11, TX11, 11)) (ci := 11) (q0 := 0) (isC := [0, 1]) hK hX hS hA hP hD rfl (by decide) rfl rfl) rfl rfl hl.1 rfl (lv_room (Nat.le_of_ble_eq_true rfl)) dX11_wayOut_10 ⟨Nat.le_of_ble_eq_true rfl, Nat.le_of_ble_eq_true rfl⟩) (fun H locs hP hD hS => ?_)
    have hP : va_P D gcl [(q_this, .inr (11, [.ref q_now, .ref q_kept, .int v_images, .ref q_kinds, .ref q_voice, .ref q_thought, .ref q_further, .ref q_errors, .ref q_sheetBits, .ref q_sheetLength, .ref q_numbers])), (q_errors, .inl (c 0, 6, .inl w_6)), (q_now, .inr (7, [.ref q_now_wall, .int v_now_tools, .ref q_now_kind, .ref q_now_m, .ref q_now_tape, .int v_now_tapeLength, .ref q_now_moved, .ref q_now_seen, .int v_now_z, .ref q_now_told, .int v_now_waiting])), (q_now_wall, .inr (10, [.int v_now_wall_rows, .int v_now_wall_columns, .ref q_now_wall_air, .ref q_now_wall_paste, .ref q_now_wall_open, .int v_now_wall_holes, .int v_now_wall_out, .int v_now_wall_night, .ref q_now_wall_met, .ref q_now_wall_line, .int v_now_wall_inLine])), (q_now_wall_open, .inl (c 0, 4, .inl v_now_wall_open))] H := hP
    have hD : va_D A [(q_this, .inr (11, [.ref q_now, .ref q_kept, .int v_images, .ref q_kinds, .ref q_voice, .ref q_thought, .ref q_further, .ref q_errors, .ref q_sheetBits, .ref q_sheetLength, .ref q_numbers])), (q_errors, .inl (c 0, 6, .inl w_6)), (q_now, .inr (7, [.ref q_now_wall, .int v_now_tools, .ref q_now_kind, .ref q_now_m, .ref q_now_tape, .int v_now_tapeLength, .ref q_now_moved, .ref q_now_seen, .int v_now_z, .ref q_now_told, .int v_now_waiting])), (q_now_wall, .inr (10, [.int v_now_wall_rows, .int v_now_wall_columns, .ref q_now_wall_air, .ref q_now_wall_paste, .ref q_now_wall_open, .int v_now_wall_holes, .int v_now_wall_out, .int v_now_wall_night, .ref q_now_wall_met, .ref q_now_wall_line, .int v_now_wall_inLine])), (q_now_wall_open, .inl (c 0, 4, .inl v_now_wall_open))] := hD
    cases h
    exact gIret hF hP hD hS rfl dX11_wayOut_13
def f_X12_above (a_0 : Int32) : Option (Int32) :=
  if 4 ≤ a_0 then
    some (a_0 - 3)
  else
    some 0

abbrev rm_X12_above : Room := { frames := 0, cells := 0, slots := 0, locals := 0 }
set_option maxHeartbeats 4000000 in
set_option maxRecDepth 100000 in
theorem c_X12_above (l : Launch) (D : va_G) (c : Nat → ClassId) (a_0 : Int32) (o_r : Int32) (h : f_X12_above a_0 = some o_r) : gMI l yX12_above wsX12_above rm_X12_above D c [.int a_0] [] [] o_r := by
  refine gMI_of (cc := cX12_above) (maxL := 1) (rt := (some .int)) (by decide +kernel) rfl (Nat.le_of_ble_eq_true rfl) ?_
  intro p e s m below meth co A hF hK hX hP hD hA hS ls hl
  obtain ⟨hx, hb, hr, hts, hown, hlocks, hml⟩ := id hF
  have hl : lv_has ls 1 [(0, .int a_0)] := hl
  unfold f_X12_above at h
  refine lv_iload_n hx hb dX12_above_0 rfl (lv_at hl 0 rfl) ?_
  refine lv_iconst (v := 4) hx hb dX12_above_1 (by decide) ?_
  refine lv_icmp_ge (tgt := 9) hx hb dX12_above_2 (by decide) (fun c_1 => ?_) (fun c_1 => ?_)
  · have h := it_t c_1 h
    refine lv_iload_n hx hb dX12_above_9 rfl (lv_at hl 0 rfl) ?_
    refine lv_iconst (v := 3) hx hb dX12_above_10 (by decide) ?_
    refine lv_isub hx hb dX12_above_11 ?_
    cases h
    exact gIret hF hP hD hS rfl dX12_above_12
  · have h := it_f c_1 h
    refine lv_iconst (v := 0) hx hb dX12_above_5 (by decide) ?_
    refine lv_goto (tgt := 12) hx hb dX12_above_6 (by decide) ?_
    cases h
    exact gIret hF hP hD hS rfl dX12_above_12
set_option maxRecDepth 20000 in
theorem in_X12_cells_X12 : ∀ w ∈ u_ws RX12 TX12 26, w ∈ wsX12_cells := by decide +kernel
def f_X12_cells (v_d : Nat → Int32) : Option (Int32) :=
  chi 0 244 <|
  nm (v_d 0.toNatClampNeg) fun t_2 =>
  chi 1 244 <|
  some (t_2 * (v_d 1.toNatClampNeg))

abbrev rm_X12_cells : Room := { frames := 0, cells := 0, slots := 0, locals := 0 }
set_option maxHeartbeats 4000000 in
set_option maxRecDepth 100000 in
theorem c_X12_cells (l : Launch) (D : va_G) (c : Nat → ClassId) (q_this q_d q_kept q_found q_aside q_names q_seenKept q_movedKept q_traced q_bitsOf q_sizeOf q_number q_lifted : Nat) (v_images : Int32) (v_base : Int32) (v_at : Int32) (v_size : Int32) (v_fault : Int32) (v_opened : Int32) (v_isSeen : Int32) (v_isKeeping : Int32) (v_bubbleMany : Int32) (v_bubbleMost : Int32) (v_bubbleCell : Int32) (v_bestShown : Int32) (v_traceMany : Int32) (v_who : Int32) (v_d : Nat → Int32) (o_r : Int32) (h : f_X12_cells v_d = some o_r) : gMI l yX12_cells wsX12_cells rm_X12_cells D c [.ref q_this] [(q_this, .inr (12, [.ref q_d, .ref q_kept, .int v_images, .ref q_found, .ref q_aside, .int v_base, .int v_at, .int v_size, .int v_fault, .int v_opened, .int v_isSeen, .ref q_names, .ref q_seenKept, .ref q_movedKept, .int v_isKeeping, .int v_bubbleMany, .int v_bubbleMost, .int v_bubbleCell, .int v_bestShown, .ref q_traced, .int v_traceMany, .int v_who, .ref q_bitsOf, .ref q_sizeOf, .ref q_number, .ref q_lifted])), (q_d, .inl (c 0, 244, .inl v_d))] [(q_this, .inr (12, [.ref q_d, .ref q_kept, .int v_images, .ref q_found, .ref q_aside, .int v_base, .int v_at, .int v_size, .int v_fault, .int v_opened, .int v_isSeen, .ref q_names, .ref q_seenKept, .ref q_movedKept, .int v_isKeeping, .int v_bubbleMany, .int v_bubbleMost, .int v_bubbleCell, .int v_bestShown, .ref q_traced, .int v_traceMany, .int v_who, .ref q_bitsOf, .ref q_sizeOf, .ref q_number, .ref q_lifted])), (q_d, .inl (c 0, 244, .inl v_d))] o_r := by
  refine gMI_of (cc := cX12_cells) (maxL := 1) (rt := (some .int)) (by decide +kernel) rfl (Nat.le_of_ble_eq_true rfl) ?_
  intro p e s m below meth co A hF hK hX hP hD hA hS ls hl
  obtain ⟨hx, hb, hr, hts, hown, hlocks, hml⟩ := id hF
  have hl : lv_has ls 1 [(0, .ref q_this)] := hl
  unfold f_X12_cells at h
  refine lv_aload_n hx hb dX12_cells_0 rfl (lv_at hl 0 rfl) ?_
  refine va_get (D := D) (ci := 12) (v := .ref q_d) (C := RX12) (T := TX12) (N := 26) hx hb hts in_X12_cells_X12 hown hK.1 hP 0 rfl rfl 0 (by decide) (hts (.fieldLink RX12 7 "PaperBubblesModel" "d" "[I") (List.mem_of_getElem? (i := 1) rfl)) (fun _ h9 => h9) rfl dX12_cells_1 ?_
  refine lv_iconst (v := 0) hx hb dX12_cells_4 (by decide) ?_
  obtain ⟨hi_1, h⟩ := chi_ok h
  refine va_iald hx hb hK.1 hP 1 0 rfl rfl hi_1 dX12_cells_5 ?_
  obtain ⟨t_2, et_2, h⟩ := nm_ok h
  refine gTop et_2 ?_
  refine lv_aload_n hx hb dX12_cells_6 rfl (lv_at hl 0 rfl) ?_
  refine va_get (D := D) (ci := 12) (v := .ref q_d) (C := RX12) (T := TX12) (N := 26) hx hb hts in_X12_cells_X12 hown hK.1 hP 0 rfl rfl 0 (by decide) (hts (.fieldLink RX12 7 "PaperBubblesModel" "d" "[I") (List.mem_of_getElem? (i := 1) rfl)) (fun _ h9 => h9) rfl dX12_cells_7 ?_
  refine lv_iconst (v := 1) hx hb dX12_cells_10 (by decide) ?_
  obtain ⟨hi_3, h⟩ := chi_ok h
  refine va_iald hx hb hK.1 hP 1 0 rfl rfl hi_3 dX12_cells_11 ?_
  refine lv_imul hx hb dX12_cells_12 ?_
  cases h
  exact gIret hF hP hD hS rfl dX12_cells_13
set_option maxRecDepth 20000 in
theorem in_X12_finds_X12 : ∀ w ∈ u_ws RX12 TX12 26, w ∈ wsX12_finds := by decide +kernel
def f_X12_finds (a_1 : Int32) (v_found : Nat → Int32) : Option (Int32 × (Nat → Int32)) :=
  chi a_1 6 <|
  nm (v_found a_1.toNatClampNeg) fun t_2 =>
  nm (t_2 + 1) fun t_3 =>
  chi a_1 6 <|
  nm (upd v_found a_1.toNatClampNeg t_3) fun w_5 =>
  some ((-1000000000) - a_1, w_5)

abbrev rm_X12_finds : Room := { frames := 0, cells := 0, slots := 0, locals := 0 }
set_option maxHeartbeats 4000000 in
set_option maxRecDepth 100000 in
theorem c_X12_finds (l : Launch) (D : va_G) (c : Nat → ClassId) (q_this q_d q_kept q_found q_aside q_names q_seenKept q_movedKept q_traced q_bitsOf q_sizeOf q_number q_lifted : Nat) (a_1 : Int32) (v_images : Int32) (v_base : Int32) (v_at : Int32) (v_size : Int32) (v_fault : Int32) (v_opened : Int32) (v_isSeen : Int32) (v_isKeeping : Int32) (v_bubbleMany : Int32) (v_bubbleMost : Int32) (v_bubbleCell : Int32) (v_bestShown : Int32) (v_traceMany : Int32) (v_who : Int32) (v_found : Nat → Int32) (o_r : Int32) (o_v_found : Nat → Int32) (h : f_X12_finds a_1 v_found = some (o_r, o_v_found)) : gMI l yX12_finds wsX12_finds rm_X12_finds D c [.ref q_this, .int a_1] [(q_this, .inr (12, [.ref q_d, .ref q_kept, .int v_images, .ref q_found, .ref q_aside, .int v_base, .int v_at, .int v_size, .int v_fault, .int v_opened, .int v_isSeen, .ref q_names, .ref q_seenKept, .ref q_movedKept, .int v_isKeeping, .int v_bubbleMany, .int v_bubbleMost, .int v_bubbleCell, .int v_bestShown, .ref q_traced, .int v_traceMany, .int v_who, .ref q_bitsOf, .ref q_sizeOf, .ref q_number, .ref q_lifted])), (q_found, .inl (c 0, 6, .inl v_found))] [(q_this, .inr (12, [.ref q_d, .ref q_kept, .int v_images, .ref q_found, .ref q_aside, .int v_base, .int v_at, .int v_size, .int v_fault, .int v_opened, .int v_isSeen, .ref q_names, .ref q_seenKept, .ref q_movedKept, .int v_isKeeping, .int v_bubbleMany, .int v_bubbleMost, .int v_bubbleCell, .int v_bestShown, .ref q_traced, .int v_traceMany, .int v_who, .ref q_bitsOf, .ref q_sizeOf, .ref q_number, .ref q_lifted])), (q_found, .inl (c 0, 6, .inl o_v_found))] o_r := by
  refine gMI_of (cc := cX12_finds) (maxL := 2) (rt := (some .int)) (by decide +kernel) rfl (Nat.le_of_ble_eq_true rfl) ?_
  intro p e s m below meth co A hF hK hX hP hD hA hS ls hl
  obtain ⟨hx, hb, hr, hts, hown, hlocks, hml⟩ := id hF
  have hl : lv_has ls 2 [(0, .ref q_this), (1, .int a_1)] := hl
  unfold f_X12_finds at h
  refine lv_aload_n hx hb dX12_finds_0 rfl (lv_at hl 0 rfl) ?_
  refine va_get (D := D) (ci := 12) (v := .ref q_found) (C := RX12) (T := TX12) (N := 26) hx hb hts in_X12_finds_X12 hown hK.1 hP 0 rfl rfl 3 (by decide) (hts (.fieldLink RX12 16 "PaperBubblesModel" "found" "[I") (List.mem_of_getElem? (i := 1) rfl)) (fun _ h9 => h9) rfl dX12_finds_1 ?_
  refine lv_iload_n hx hb dX12_finds_4 rfl (lv_at hl 1 rfl) ?_
  refine lv_dup2_11 hx hb dX12_finds_5 rfl rfl ?_
  obtain ⟨hi_1, h⟩ := chi_ok h
  refine va_iald hx hb hK.1 hP 1 0 rfl rfl hi_1 dX12_finds_6 ?_
  obtain ⟨t_2, et_2, h⟩ := nm_ok h
  refine gTop et_2 ?_
  refine lv_iconst (v := 1) hx hb dX12_finds_7 (by decide) ?_
  refine lv_iadd hx hb dX12_finds_8 ?_
  obtain ⟨t_3, et_3, h⟩ := nm_ok h
  refine gTop et_3 ?_
  obtain ⟨hi_4, h⟩ := chi_ok h
  obtain ⟨w_5, ew_5, h⟩ := nm_ok h
  refine va_iast hx hb hK.1 hP hD hS 1 0 rfl rfl hi_4 dX12_finds_9 (fun H locs hP hD hS => ?_)
  have hP : va_P D gcl [(q_this, .inr (12, [.ref q_d, .ref q_kept, .int v_images, .ref q_found, .ref q_aside, .int v_base, .int v_at, .int v_size, .int v_fault, .int v_opened, .int v_isSeen, .ref q_names, .ref q_seenKept, .ref q_movedKept, .int v_isKeeping, .int v_bubbleMany, .int v_bubbleMost, .int v_bubbleCell, .int v_bestShown, .ref q_traced, .int v_traceMany, .int v_who, .ref q_bitsOf, .ref q_sizeOf, .ref q_number, .ref q_lifted])), (q_found, .inl (c 0, 6, .inl w_5))] H := by subst ew_5; exact hP
  have hD : va_D A [(q_this, .inr (12, [.ref q_d, .ref q_kept, .int v_images, .ref q_found, .ref q_aside, .int v_base, .int v_at, .int v_size, .int v_fault, .int v_opened, .int v_isSeen, .ref q_names, .ref q_seenKept, .ref q_movedKept, .int v_isKeeping, .int v_bubbleMany, .int v_bubbleMost, .int v_bubbleCell, .int v_bestShown, .ref q_traced, .int v_traceMany, .int v_who, .ref q_bitsOf, .ref q_sizeOf, .ref q_number, .ref q_lifted])), (q_found, .inl (c 0, 6, .inl w_5))] := by subst ew_5; exact hD
  refine lv_ldc (v := (-1000000000)) hx hb hown (hts (.constant RX12 50 (-1000000000)) (List.mem_of_getElem? (i := 2) rfl)) dX12_finds_10 ?_
  refine lv_iload_n hx hb dX12_finds_12 rfl (lv_at hl 1 rfl) ?_
  refine lv_isub hx hb dX12_finds_13 ?_
  cases h
  exact gIret hF hP hD hS rfl dX12_finds_14
def f_X12_in (a_0 : Int64) (a_2 : Int64) (a_4 : Int64) : Option (Int32) :=
  if (lg_cmp a_0 a_2) < 0 then
    some 0
  else
    if 0 < (lg_cmp a_0 a_4) then
      some 0
    else
      some 1

abbrev rm_X12_in : Room := { frames := 0, cells := 0, slots := 0, locals := 0 }
set_option maxHeartbeats 4000000 in
set_option maxRecDepth 100000 in
theorem c_X12_in (l : Launch) (D : va_G) (c : Nat → ClassId) (a_0 : Int64) (a_2 : Int64) (a_4 : Int64) (o_r : Int32) (h : f_X12_in a_0 a_2 a_4 = some o_r) : gMI l yX12_in wsX12_in rm_X12_in D c [.long a_0, .long a_2, .long a_4] [] [] o_r := by
  refine gMI_of (cc := cX12_in) (maxL := 6) (rt := (some .boolean)) (by decide +kernel) rfl (Nat.le_of_ble_eq_true rfl) ?_
  intro p e s m below meth co A hF hK hX hP hD hA hS ls hl
  obtain ⟨hx, hb, hr, hts, hown, hlocks, hml⟩ := id hF
  have hl : lv_has ls 6 [(0, .long a_0), (2, .long a_2), (4, .long a_4)] := hl
  unfold f_X12_in at h
  refine lv_lload_n hx hb dX12_in_0 rfl (lv_at hl 0 rfl) ?_
  refine lv_lload_n hx hb dX12_in_1 rfl (lv_at hl 1 rfl) ?_
  refine W.lcmp hx hb dX12_in_2 ?_
  refine lv_if_lt (tgt := 17) hx hb dX12_in_3 (by decide) (fun c_1 => ?_) (fun c_1 => ?_)
  · have h := it_t c_1 h
    refine lv_iconst (v := 0) hx hb dX12_in_17 (by decide) ?_
    cases h
    exact gIret hF hP hD hS rfl dX12_in_18
  · have h := it_f c_1 h
    refine lv_lload_n hx hb dX12_in_6 rfl (lv_at hl 0 rfl) ?_
    refine lv_lload hx hb dX12_in_7 (lv_at hl 2 rfl) ?_
    refine W.lcmp hx hb dX12_in_9 ?_
    refine lv_if_gt (tgt := 17) hx hb dX12_in_10 (by decide) (fun c_2 => ?_) (fun c_2 => ?_)
    · have h := it_t c_2 h
      refine lv_iconst (v := 0) hx hb dX12_in_17 (by decide) ?_
      cases h
      exact gIret hF hP hD hS rfl dX12_in_18
    · have h := it_f c_2 h
      refine lv_iconst (v := 1) hx hb dX12_in_13 (by decide) ?_
      refine lv_goto (tgt := 18) hx hb dX12_in_14 (by decide) ?_
      cases h
      exact gIret hF hP hD hS rfl dX12_in_18
def f_X12_isSheet (a_0 : Int32) : Option (Int32) :=
  kb (f_X12_in ((a_0 : Int32).toInt64) 0 3) fun r_2 =>
  chb r_2 <|
  some r_2

abbrev rm_X12_isSheet : Room := { frames := 1, cells := 0, slots := 0, locals := 25 }
set_option maxHeartbeats 4000000 in
set_option maxRecDepth 100000 in
theorem c_X12_isSheet (l : Launch) (D : va_G) (c : Nat → ClassId) (a_0 : Int32) (o_r : Int32) (h : f_X12_isSheet a_0 = some o_r) : gMI l yX12_isSheet wsX12_isSheet rm_X12_isSheet D c [.int a_0] [] [] o_r := by
  refine gMI_of (cc := cX12_isSheet) (maxL := 1) (rt := (some .boolean)) (by decide +kernel) rfl (Nat.le_of_ble_eq_true rfl) ?_
  intro p e s m below meth co A hF hK hX hP hD hA hS ls hl
  obtain ⟨hx, hb, hr, hts, hown, hlocks, hml⟩ := id hF
  have hl : lv_has ls 1 [(0, .int a_0)] := hl
  unfold f_X12_isSheet at h
  refine lv_iload_n hx hb dX12_isSheet_0 rfl (lv_at hl 0 rfl) ?_
  refine lv_i2l hx hb dX12_isSheet_1 rfl ?_
  refine lv_lconst (v := 0) hx hb dX12_isSheet_2 (by decide) ?_
  refine lv_ldc2 (v := 3) hx hb hown (hts (.constantLong RX12 59 (3)) (List.mem_of_getElem? (i := 1) rfl)) dX12_isSheet_3 ?_
  obtain ⟨r_2, hc_1, h⟩ := kb_ok h
  refine gCallI (isC := []) (wc := []) (w1 := []) hP hD hS hA rfl rfl (va_runS (rm := rm_X12_in) (ws := wsX12_in) (As := [.long ((a_0 : Int32).toInt64), .long 0, .long 3]) (rest := []) (gFix hF) (c_X12_in l D c ((a_0 : Int32).toInt64) 0 3 r_2 hc_1 s.heap.size) (va_cwS 3 hts gX12_isSheet_X12_in rfl rfl rfl (by decide +kernel) ⟨Nat.le_of_ble_eq_true rfl, Nat.le_of_ble_eq_true rfl⟩) (gPreS (wc := []) (isC := []) hK hX hS hA hP hD rfl (by decide)) rfl rfl hl.1 rfl (lv_room (Nat.le_of_ble_eq_true rfl)) dX12_isSheet_6 ⟨Nat.le_of_ble_eq_true rfl, Nat.le_of_ble_eq_true rfl⟩) (fun H locs hP hD hS => ?_)
  have hP : va_P D gcl [] H := hP
  have hD : va_D A [] := hD
  obtain ⟨hz_3, h⟩ := chb_ok h
  cases h
  exact gIret hF hP hD hS (chb_n hz_3) dX12_isSheet_9
set_option maxRecDepth 20000 in
theorem in_X12_airs_X12 : ∀ w ∈ u_ws RX12 TX12 26, w ∈ wsX12_airs := by decide +kernel
def f_X12_airs_L30 (a_1 : Int32) (v_number : Nat → Int32) (v_sizeOf : Nat → Int32) : Nat → Int32 → (Nat → Int32) → (Nat → Int32) → Option (Int32 × (Nat → Int32) × (Nat → Int32))
  | 0, _, _, _ => none
  | n + 1, x2, v_d, v_found =>
    chi a_1 4 <|
    if (v_sizeOf a_1.toNatClampNeg) ≤ x2 then
      some (x2, v_d, v_found)
    else
      kb (f_X12_cells v_d) fun r_15 =>
      if r_15 ≤ x2 then
        some (x2, v_d, v_found)
      else
        nm (40 * a_1) fun t_17 =>
        nm (t_17 + x2) fun t_18 =>
        chi t_18 160 <|
        kb (f_X12_in (((v_number t_18.toNatClampNeg) : Int32).toInt64) 0 99) fun r_21 =>
        if r_21 = 0 then
          some (x2, v_d, v_found)
        else
          nm (10 + x2) fun t_23 =>
          nm (40 * a_1) fun t_24 =>
          nm (t_24 + x2) fun t_25 =>
          chi t_25 160 <|
          nm (v_number t_25.toNatClampNeg) fun t_27 =>
          chi t_23 244 <|
          nm (upd v_d t_23.toNatClampNeg t_27) fun w_29 =>
          nm (x2 + 1) fun t_30 =>
          f_X12_airs_L30 a_1 v_number v_sizeOf n t_30 w_29 v_found

def f_X12_airs (a_1 : Int32) (v_bitsOf : Nat → Int32) (v_d : Nat → Int32) (v_found : Nat → Int32) (v_number : Nat → Int32) (v_sizeOf : Nat → Int32) : Option (Int32 × (Nat → Int32) × (Nat → Int32)) :=
  kb (f_X12_isSheet a_1) fun r_2 =>
  if r_2 = 0 then
    kb2 (f_X12_finds 1 v_found) fun r_10 w_11 =>
    some (r_10, v_d, w_11)
  else
    chi a_1 4 <|
    if (v_bitsOf a_1.toNatClampNeg) = 0 then
      kb2 (f_X12_finds 2 v_found) fun r_7 w_8 =>
      some (r_7, v_d, w_8)
    else
      f_X12_airs_L30 a_1 v_number v_sizeOf gFuel 0 v_d v_found

abbrev rm_X12_airs : Room := { frames := 2, cells := 0, slots := 0, locals := 45 }
set_option maxHeartbeats 4000000 in
set_option maxRecDepth 100000 in
theorem c_X12_airs (l : Launch) (D : va_G) (c : Nat → ClassId) (q_this q_d q_kept q_found q_aside q_names q_seenKept q_movedKept q_traced q_bitsOf q_sizeOf q_number q_lifted : Nat) (a_1 : Int32) (v_images : Int32) (v_base : Int32) (v_at : Int32) (v_size : Int32) (v_fault : Int32) (v_opened : Int32) (v_isSeen : Int32) (v_isKeeping : Int32) (v_bubbleMany : Int32) (v_bubbleMost : Int32) (v_bubbleCell : Int32) (v_bestShown : Int32) (v_traceMany : Int32) (v_who : Int32) (v_bitsOf : Nat → Int32) (v_d : Nat → Int32) (v_found : Nat → Int32) (v_number : Nat → Int32) (v_sizeOf : Nat → Int32) (o_r : Int32) (o_v_d : Nat → Int32) (o_v_found : Nat → Int32) (h : f_X12_airs a_1 v_bitsOf v_d v_found v_number v_sizeOf = some (o_r, o_v_d, o_v_found)) : gMI l yX12_airs wsX12_airs rm_X12_airs D c [.ref q_this, .int a_1] [(q_this, .inr (12, [.ref q_d, .ref q_kept, .int v_images, .ref q_found, .ref q_aside, .int v_base, .int v_at, .int v_size, .int v_fault, .int v_opened, .int v_isSeen, .ref q_names, .ref q_seenKept, .ref q_movedKept, .int v_isKeeping, .int v_bubbleMany, .int v_bubbleMost, .int v_bubbleCell, .int v_bestShown, .ref q_traced, .int v_traceMany, .int v_who, .ref q_bitsOf, .ref q_sizeOf, .ref q_number, .ref q_lifted])), (q_bitsOf, .inl (c 0, 4, .inl v_bitsOf)), (q_d, .inl (c 0, 244, .inl v_d)), (q_found, .inl (c 0, 6, .inl v_found)), (q_number, .inl (c 0, 160, .inl v_number)), (q_sizeOf, .inl (c 0, 4, .inl v_sizeOf))] [(q_this, .inr (12, [.ref q_d, .ref q_kept, .int v_images, .ref q_found, .ref q_aside, .int v_base, .int v_at, .int v_size, .int v_fault, .int v_opened, .int v_isSeen, .ref q_names, .ref q_seenKept, .ref q_movedKept, .int v_isKeeping, .int v_bubbleMany, .int v_bubbleMost, .int v_bubbleCell, .int v_bestShown, .ref q_traced, .int v_traceMany, .int v_who, .ref q_bitsOf, .ref q_sizeOf, .ref q_number, .ref q_lifted])), (q_bitsOf, .inl (c 0, 4, .inl v_bitsOf)), (q_d, .inl (c 0, 244, .inl o_v_d)), (q_found, .inl (c 0, 6, .inl o_v_found)), (q_number, .inl (c 0, 160, .inl v_number)), (q_sizeOf, .inl (c 0, 4, .inl v_sizeOf))] o_r := by
  refine gMI_of (cc := cX12_airs) (maxL := 3) (rt := (some .int)) (by decide +kernel) rfl (Nat.le_of_ble_eq_true rfl) ?_
  intro p e s m below meth co A hF hK hX hP hD hA hS ls hl
  obtain ⟨hx, hb, hr, hts, hown, hlocks, hml⟩ := id hF
  have hl : lv_has ls 3 [(0, .ref q_this), (1, .int a_1)] := hl
  have t_L30 : ∀ (n : Nat), ∀ (x2 : Int32) (v_d : Nat → Int32) (v_found : Nat → Int32) (H : Heap) (locs : List Loc), va_P D gcl [(q_this, .inr (12, [.ref q_d, .ref q_kept, .int v_images, .ref q_found, .ref q_aside, .int v_base, .int v_at, .int v_size, .int v_fault, .int v_opened, .int v_isSeen, .ref q_names, .ref q_seenKept, .ref q_movedKept, .int v_isKeeping, .int v_bubbleMany, .int v_bubbleMost, .int v_bubbleCell, .int v_bestShown, .ref q_traced, .int v_traceMany, .int v_who, .ref q_bitsOf, .ref q_sizeOf, .ref q_number, .ref q_lifted])), (q_bitsOf, .inl (c 0, 4, .inl v_bitsOf)), (q_d, .inl (c 0, 244, .inl v_d)), (q_found, .inl (c 0, 6, .inl v_found)), (q_number, .inl (c 0, 160, .inl v_number)), (q_sizeOf, .inl (c 0, 4, .inl v_sizeOf))] H → va_D A [(q_this, .inr (12, [.ref q_d, .ref q_kept, .int v_images, .ref q_found, .ref q_aside, .int v_base, .int v_at, .int v_size, .int v_fault, .int v_opened, .int v_isSeen, .ref q_names, .ref q_seenKept, .ref q_movedKept, .int v_isKeeping, .int v_bubbleMany, .int v_bubbleMost, .int v_bubbleCell, .int v_bestShown, .ref q_traced, .int v_traceMany, .int v_who, .ref q_bitsOf, .ref q_sizeOf, .ref q_number, .ref q_lifted])), (q_bitsOf, .inl (c 0, 4, .inl v_bitsOf)), (q_d, .inl (c 0, 244, .inl v_d)), (q_found, .inl (c 0, 6, .inl v_found)), (q_number, .inl (c 0, 160, .inl v_number)), (q_sizeOf, .inl (c 0, 4, .inl v_sizeOf))] → va_S A s.heap H locs → ∀ ls, lv_has ls 3 [(0, .ref q_this), (1, .int a_1), (2, .int x2)] → f_X12_airs_L30 a_1 v_number v_sizeOf n x2 v_d v_found = some (o_r, o_v_d, o_v_found) → W p l e (headSpec wsX12_airs rm_X12_airs).room s m [.ref q_this, .int a_1].toArray below meth co H locs 0 0 (gQI D [(q_this, .inr (12, [.ref q_d, .ref q_kept, .int v_images, .ref q_found, .ref q_aside, .int v_base, .int v_at, .int v_size, .int v_fault, .int v_opened, .int v_isSeen, .ref q_names, .ref q_seenKept, .ref q_movedKept, .int v_isKeeping, .int v_bubbleMany, .int v_bubbleMost, .int v_bubbleCell, .int v_bestShown, .ref q_traced, .int v_traceMany, .int v_who, .ref q_bitsOf, .ref q_sizeOf, .ref q_number, .ref q_lifted])), (q_bitsOf, .inl (c 0, 4, .inl v_bitsOf)), (q_d, .inl (c 0, 244, .inl o_v_d)), (q_found, .inl (c 0, 6, .inl o_v_found)), (q_number, .inl (c 0, 160, .inl v_number)), (q_sizeOf, .inl (c 0, 4, .inl v_sizeOf))] o_r A below [.ref q_this, .int a_1] s) (F0 m 30 ls []) := by
    intro n
    induction n with
    | zero => intro x2 v_d v_found H locs hP hD hS ls hl h; exact no_ok h
    | succ n ih =>
      intro x2 v_d v_found H locs hP hD hS ls hl h
      rw [f_X12_airs_L30] at h
      refine lv_iload_n hx hb dX12_airs_30 rfl (lv_at hl 2 rfl) ?_
      refine lv_aload_n hx hb dX12_airs_31 rfl (lv_at hl 0 rfl) ?_
      refine va_get (D := D) (ci := 12) (v := .ref q_sizeOf) (C := RX12) (T := TX12) (N := 26) hx hb hts in_X12_airs_X12 hown hK.1 hP 0 rfl rfl 23 (by decide) (hts (.fieldLink RX12 37 "PaperBubblesModel" "sizeOf" "[I") (List.mem_of_getElem? (i := 2) rfl)) (fun _ h9 => h9) rfl dX12_airs_32 ?_
      refine lv_iload_n hx hb dX12_airs_35 rfl (lv_at hl 1 rfl) ?_
      obtain ⟨hi_12, h⟩ := chi_ok h
      refine va_iald hx hb hK.1 hP 5 0 rfl rfl hi_12 dX12_airs_36 ?_
      refine lv_icmp_ge (tgt := 96) hx hb dX12_airs_37 (by decide) (fun c_13 => ?_) (fun c_13 => ?_)
      · have h := it_t c_13 h
        refine lv_iload_n hx hb dX12_airs_96 rfl (lv_at hl 2 rfl) ?_
        cases h
        exact gIret hF hP hD hS rfl dX12_airs_97
      · have h := it_f c_13 h
        refine lv_iload_n hx hb dX12_airs_40 rfl (lv_at hl 2 rfl) ?_
        refine lv_aload_n hx hb dX12_airs_41 rfl (lv_at hl 0 rfl) ?_
        obtain ⟨r_15, hc_14, h⟩ := kb_ok h
        refine gCallI (isC := [0, 2]) (wc := [(q_this, .inr (12, [.ref q_d, .ref q_kept, .int v_images, .ref q_found, .ref q_aside, .int v_base, .int v_at, .int v_size, .int v_fault, .int v_opened, .int v_isSeen, .ref q_names, .ref q_seenKept, .ref q_movedKept, .int v_isKeeping, .int v_bubbleMany, .int v_bubbleMost, .int v_bubbleCell, .int v_bestShown, .ref q_traced, .int v_traceMany, .int v_who, .ref q_bitsOf, .ref q_sizeOf, .ref q_number, .ref q_lifted])), (q_d, .inl (c 0, 244, .inl v_d))]) (w1 := [(q_this, .inr (12, [.ref q_d, .ref q_kept, .int v_images, .ref q_found, .ref q_aside, .int v_base, .int v_at, .int v_size, .int v_fault, .int v_opened, .int v_isSeen, .ref q_names, .ref q_seenKept, .ref q_movedKept, .int v_isKeeping, .int v_bubbleMany, .int v_bubbleMost, .int v_bubbleCell, .int v_bestShown, .ref q_traced, .int v_traceMany, .int v_who, .ref q_bitsOf, .ref q_sizeOf, .ref q_number, .ref q_lifted])), (q_d, .inl (c 0, 244, .inl v_d))]) hP hD hS hA rfl rfl (va_runV (rm := rm_X12_cells) (ws := wsX12_cells) (As := []) (rest := [.int x2]) (gFix hF) (c_X12_cells l D c q_this q_d q_kept q_found q_aside q_names q_seenKept q_movedKept q_traced q_bitsOf q_sizeOf q_number q_lifted v_images v_base v_at v_size v_fault v_opened v_isSeen v_isKeeping v_bubbleMany v_bubbleMost v_bubbleCell v_bestShown v_traceMany v_who v_d r_15 hc_14 H.size) (cwV 0 hts gX12_airs_X12_cells rfl rfl rfl (by decide +kernel) ⟨Nat.le_of_ble_eq_true rfl, Nat.le_of_ble_eq_true rfl⟩) (gPreV (wc := [(q_this, .inr (12, [.ref q_d, .ref q_kept, .int v_images, .ref q_found, .ref q_aside, .int v_base, .int v_at, .int v_size, .int v_fault, .int v_opened, .int v_isSeen, .ref q_names, .ref q_seenKept, .ref q_movedKept, .int v_isKeeping, .int v_bubbleMany, .int v_bubbleMost, .int v_bubbleCell, .int v_bestShown, .ref q_traced, .int v_traceMany, .int v_who, .ref q_bitsOf, .ref q_sizeOf, .ref q_number, .ref q_lifted])), (q_d, .inl (c 0, 244, .inl v_d))]) (q := (RX12, TX12, 26)) (ci := 12) (q0 := 0) (isC := [0, 2]) hK hX hS hA hP hD rfl (by decide) rfl rfl) rfl rfl hl.1 rfl (lv_room (Nat.le_of_ble_eq_true rfl)) dX12_airs_42 ⟨Nat.le_of_ble_eq_true rfl, Nat.le_of_ble_eq_true rfl⟩) (fun H locs hP hD hS => ?_)
        have hP : va_P D gcl [(q_this, .inr (12, [.ref q_d, .ref q_kept, .int v_images, .ref q_found, .ref q_aside, .int v_base, .int v_at, .int v_size, .int v_fault, .int v_opened, .int v_isSeen, .ref q_names, .ref q_seenKept, .ref q_movedKept, .int v_isKeeping, .int v_bubbleMany, .int v_bubbleMost, .int v_bubbleCell, .int v_bestShown, .ref q_traced, .int v_traceMany, .int v_who, .ref q_bitsOf, .ref q_sizeOf, .ref q_number, .ref q_lifted])), (q_bitsOf, .inl (c 0, 4, .inl v_bitsOf)), (q_d, .inl (c 0, 244, .inl v_d)), (q_found, .inl (c 0, 6, .inl v_found)), (q_number, .inl (c 0, 160, .inl v_number)), (q_sizeOf, .inl (c 0, 4, .inl v_sizeOf))] H := hP
        have hD : va_D A [(q_this, .inr (12, [.ref q_d, .ref q_kept, .int v_images, .ref q_found, .ref q_aside, .int v_base, .int v_at, .int v_size, .int v_fault, .int v_opened, .int v_isSeen, .ref q_names, .ref q_seenKept, .ref q_movedKept, .int v_isKeeping, .int v_bubbleMany, .int v_bubbleMost, .int v_bubbleCell, .int v_bestShown, .ref q_traced, .int v_traceMany, .int v_who, .ref q_bitsOf, .ref q_sizeOf, .ref q_number, .ref q_lifted])), (q_bitsOf, .inl (c 0, 4, .inl v_bitsOf)), (q_d, .inl (c 0, 244, .inl v_d)), (q_found, .inl (c 0, 6, .inl v_found)), (q_number, .inl (c 0, 160, .inl v_number)), (q_sizeOf, .inl (c 0, 4, .inl v_sizeOf))] := hD
        refine lv_icmp_ge (tgt := 96) hx hb dX12_airs_45 (by decide) (fun c_16 => ?_) (fun c_16 => ?_)
        · have h := it_t c_16 h
          refine lv_iload_n hx hb dX12_airs_96 rfl (lv_at hl 2 rfl) ?_
          cases h
          exact gIret hF hP hD hS rfl dX12_airs_97
        · have h := it_f c_16 h
          refine lv_aload_n hx hb dX12_airs_48 rfl (lv_at hl 0 rfl) ?_
          refine va_get (D := D) (ci := 12) (v := .ref q_number) (C := RX12) (T := TX12) (N := 26) hx hb hts in_X12_airs_X12 hown hK.1 hP 0 rfl rfl 24 (by decide) (hts (.fieldLink RX12 40 "PaperBubblesModel" "number" "[I") (List.mem_of_getElem? (i := 3) rfl)) (fun _ h9 => h9) rfl dX12_airs_49 ?_
          refine lv_bipush (v := 40) hx hb dX12_airs_52 (by decide) ?_
          refine lv_iload_n hx hb dX12_airs_54 rfl (lv_at hl 1 rfl) ?_
          refine lv_imul hx hb dX12_airs_55 ?_
          obtain ⟨t_17, et_17, h⟩ := nm_ok h
          refine gTop et_17 ?_
          refine lv_iload_n hx hb dX12_airs_56 rfl (lv_at hl 2 rfl) ?_
          refine lv_iadd hx hb dX12_airs_57 ?_
          obtain ⟨t_18, et_18, h⟩ := nm_ok h
          refine gTop et_18 ?_
          obtain ⟨hi_19, h⟩ := chi_ok h
          refine va_iald hx hb hK.1 hP 4 0 rfl rfl hi_19 dX12_airs_58 ?_
          refine lv_i2l hx hb dX12_airs_59 rfl ?_
          refine lv_lconst (v := 0) hx hb dX12_airs_60 (by decide) ?_
          refine lv_ldc2 (v := 99) hx hb hown (hts (.constantLong RX12 140 (99)) (List.mem_of_getElem? (i := 4) rfl)) dX12_airs_61 ?_
          obtain ⟨r_21, hc_20, h⟩ := kb_ok h
          refine gCallI (isC := []) (wc := []) (w1 := []) hP hD hS hA rfl rfl (va_runS (rm := rm_X12_in) (ws := wsX12_in) (As := [.long (((v_number t_18.toNatClampNeg) : Int32).toInt64), .long 0, .long 99]) (rest := []) (gFix hF) (c_X12_in l D c (((v_number t_18.toNatClampNeg) : Int32).toInt64) 0 99 r_21 hc_20 H.size) (va_cwS 3 hts gX12_airs_X12_in rfl rfl rfl (by decide +kernel) ⟨Nat.le_of_ble_eq_true rfl, Nat.le_of_ble_eq_true rfl⟩) (gPreS (wc := []) (isC := []) hK hX hS hA hP hD rfl (by decide)) rfl rfl hl.1 rfl (lv_room (Nat.le_of_ble_eq_true rfl)) dX12_airs_64 ⟨Nat.le_of_ble_eq_true rfl, Nat.le_of_ble_eq_true rfl⟩) (fun H locs hP hD hS => ?_)
          have hP : va_P D gcl [(q_this, .inr (12, [.ref q_d, .ref q_kept, .int v_images, .ref q_found, .ref q_aside, .int v_base, .int v_at, .int v_size, .int v_fault, .int v_opened, .int v_isSeen, .ref q_names, .ref q_seenKept, .ref q_movedKept, .int v_isKeeping, .int v_bubbleMany, .int v_bubbleMost, .int v_bubbleCell, .int v_bestShown, .ref q_traced, .int v_traceMany, .int v_who, .ref q_bitsOf, .ref q_sizeOf, .ref q_number, .ref q_lifted])), (q_bitsOf, .inl (c 0, 4, .inl v_bitsOf)), (q_d, .inl (c 0, 244, .inl v_d)), (q_found, .inl (c 0, 6, .inl v_found)), (q_number, .inl (c 0, 160, .inl v_number)), (q_sizeOf, .inl (c 0, 4, .inl v_sizeOf))] H := hP
          have hD : va_D A [(q_this, .inr (12, [.ref q_d, .ref q_kept, .int v_images, .ref q_found, .ref q_aside, .int v_base, .int v_at, .int v_size, .int v_fault, .int v_opened, .int v_isSeen, .ref q_names, .ref q_seenKept, .ref q_movedKept, .int v_isKeeping, .int v_bubbleMany, .int v_bubbleMost, .int v_bubbleCell, .int v_bestShown, .ref q_traced, .int v_traceMany, .int v_who, .ref q_bitsOf, .ref q_sizeOf, .ref q_number, .ref q_lifted])), (q_bitsOf, .inl (c 0, 4, .inl v_bitsOf)), (q_d, .inl (c 0, 244, .inl v_d)), (q_found, .inl (c 0, 6, .inl v_found)), (q_number, .inl (c 0, 160, .inl v_number)), (q_sizeOf, .inl (c 0, 4, .inl v_sizeOf))] := hD
          refine lv_if_eq (tgt := 96) hx hb dX12_airs_67 (by decide) (fun c_22 => ?_) (fun c_22 => ?_)
          · have h := it_t c_22 h
            refine lv_iload_n hx hb dX12_airs_96 rfl (lv_at hl 2 rfl) ?_
            cases h
            exact gIret hF hP hD hS rfl dX12_airs_97
          · have h := it_f c_22 h
            refine lv_aload_n hx hb dX12_airs_70 rfl (lv_at hl 0 rfl) ?_
            refine va_get (D := D) (ci := 12) (v := .ref q_d) (C := RX12) (T := TX12) (N := 26) hx hb hts in_X12_airs_X12 hown hK.1 hP 0 rfl rfl 0 (by decide) (hts (.fieldLink RX12 7 "PaperBubblesModel" "d" "[I") (List.mem_of_getElem? (i := 5) rfl)) (fun _ h9 => h9) rfl dX12_airs_71 ?_
            refine lv_bipush (v := 10) hx hb dX12_airs_74 (by decide) ?_
            refine lv_iload_n hx hb dX12_airs_76 rfl (lv_at hl 2 rfl) ?_
            refine lv_iadd hx hb dX12_airs_77 ?_
            obtain ⟨t_23, et_23, h⟩ := nm_ok h
            refine gTop et_23 ?_
            refine lv_aload_n hx hb dX12_airs_78 rfl (lv_at hl 0 rfl) ?_
            refine va_get (D := D) (ci := 12) (v := .ref q_number) (C := RX12) (T := TX12) (N := 26) hx hb hts in_X12_airs_X12 hown hK.1 hP 0 rfl rfl 24 (by decide) (hts (.fieldLink RX12 40 "PaperBubblesModel" "number" "[I") (List.mem_of_getElem? (i := 3) rfl)) (fun _ h9 => h9) rfl dX12_airs_79 ?_
            refine lv_bipush (v := 40) hx hb dX12_airs_82 (by decide) ?_
            refine lv_iload_n hx hb dX12_airs_84 rfl (lv_at hl 1 rfl) ?_
            refine lv_imul hx hb dX12_airs_85 ?_
            obtain ⟨t_24, et_24, h⟩ := nm_ok h
            refine gTop et_24 ?_
            refine lv_iload_n hx hb dX12_airs_86 rfl (lv_at hl 2 rfl) ?_
            refine lv_iadd hx hb dX12_airs_87 ?_
            obtain ⟨t_25, et_25, h⟩ := nm_ok h
            refine gTop et_25 ?_
            obtain ⟨hi_26, h⟩ := chi_ok h
            refine va_iald hx hb hK.1 hP 4 0 rfl rfl hi_26 dX12_airs_88 ?_
            obtain ⟨t_27, et_27, h⟩ := nm_ok h
            refine gTop et_27 ?_
            obtain ⟨hi_28, h⟩ := chi_ok h
            obtain ⟨w_29, ew_29, h⟩ := nm_ok h
            refine va_iast hx hb hK.1 hP hD hS 2 0 rfl rfl hi_28 dX12_airs_89 (fun H locs hP hD hS => ?_)
            have hP : va_P D gcl [(q_this, .inr (12, [.ref q_d, .ref q_kept, .int v_images, .ref q_found, .ref q_aside, .int v_base, .int v_at, .int v_size, .int v_fault, .int v_opened, .int v_isSeen, .ref q_names, .ref q_seenKept, .ref q_movedKept, .int v_isKeeping, .int v_bubbleMany, .int v_bubbleMost, .int v_bubbleCell, .int v_bestShown, .ref q_traced, .int v_traceMany, .int v_who, .ref q_bitsOf, .ref q_sizeOf, .ref q_number, .ref q_lifted])), (q_bitsOf, .inl (c 0, 4, .inl v_bitsOf)), (q_d, .inl (c 0, 244, .inl w_29)), (q_found, .inl (c 0, 6, .inl v_found)), (q_number, .inl (c 0, 160, .inl v_number)), (q_sizeOf, .inl (c 0, 4, .inl v_sizeOf))] H := by subst ew_29; exact hP
            have hD : va_D A [(q_this, .inr (12, [.ref q_d, .ref q_kept, .int v_images, .ref q_found, .ref q_aside, .int v_base, .int v_at, .int v_size, .int v_fault, .int v_opened, .int v_isSeen, .ref q_names, .ref q_seenKept, .ref q_movedKept, .int v_isKeeping, .int v_bubbleMany, .int v_bubbleMost, .int v_bubbleCell, .int v_bestShown, .ref q_traced, .int v_traceMany, .int v_who, .ref q_bitsOf, .ref q_sizeOf, .ref q_number, .ref q_lifted])), (q_bitsOf, .inl (c 0, 4, .inl v_bitsOf)), (q_d, .inl (c 0, 244, .inl w_29)), (q_found, .inl (c 0, 6, .inl v_found)), (q_number, .inl (c 0, 160, .inl v_number)), (q_sizeOf, .inl (c 0, 4, .inl v_sizeOf))] := by subst ew_29; exact hD
            obtain ⟨t_30, et_30, h⟩ := nm_ok h
            refine lv_iinc (v := t_30) (lv' := [(2, .int t_30), (0, .ref q_this), (1, .int a_1)]) hx hb dX12_airs_90 hl (k := 2) rfl (by rw [et_30]; rfl) (by decide) rfl (fun ls hl => ?_)
            refine lv_goto (tgt := 30) hx hb dX12_airs_93 (by decide) ?_
            exact ih t_30 w_29 v_found H locs hP hD hS ls (lv_sub hl [1, 2, 0] rfl) h
  unfold f_X12_airs at h
  refine lv_iload_n hx hb dX12_airs_0 rfl (lv_at hl 1 rfl) ?_
  obtain ⟨r_2, hc_1, h⟩ := kb_ok h
  refine gCallI (isC := []) (wc := []) (w1 := []) hP hD hS hA rfl rfl (va_runS (rm := rm_X12_isSheet) (ws := wsX12_isSheet) (As := [.int a_1]) (rest := []) (gFix hF) (c_X12_isSheet l D c a_1 r_2 hc_1 s.heap.size) (va_cwS 1 hts gX12_airs_X12_isSheet rfl rfl rfl (by decide +kernel) ⟨Nat.le_of_ble_eq_true rfl, Nat.le_of_ble_eq_true rfl⟩) (gPreS (wc := []) (isC := []) hK hX hS hA hP hD rfl (by decide)) rfl rfl hl.1 rfl (lv_room (Nat.le_of_ble_eq_true rfl)) dX12_airs_1 ⟨Nat.le_of_ble_eq_true rfl, Nat.le_of_ble_eq_true rfl⟩) (fun H locs hP hD hS => ?_)
  have hP : va_P D gcl [(q_this, .inr (12, [.ref q_d, .ref q_kept, .int v_images, .ref q_found, .ref q_aside, .int v_base, .int v_at, .int v_size, .int v_fault, .int v_opened, .int v_isSeen, .ref q_names, .ref q_seenKept, .ref q_movedKept, .int v_isKeeping, .int v_bubbleMany, .int v_bubbleMost, .int v_bubbleCell, .int v_bestShown, .ref q_traced, .int v_traceMany, .int v_who, .ref q_bitsOf, .ref q_sizeOf, .ref q_number, .ref q_lifted])), (q_bitsOf, .inl (c 0, 4, .inl v_bitsOf)), (q_d, .inl (c 0, 244, .inl v_d)), (q_found, .inl (c 0, 6, .inl v_found)), (q_number, .inl (c 0, 160, .inl v_number)), (q_sizeOf, .inl (c 0, 4, .inl v_sizeOf))] H := hP
  have hD : va_D A [(q_this, .inr (12, [.ref q_d, .ref q_kept, .int v_images, .ref q_found, .ref q_aside, .int v_base, .int v_at, .int v_size, .int v_fault, .int v_opened, .int v_isSeen, .ref q_names, .ref q_seenKept, .ref q_movedKept, .int v_isKeeping, .int v_bubbleMany, .int v_bubbleMost, .int v_bubbleCell, .int v_bestShown, .ref q_traced, .int v_traceMany, .int v_who, .ref q_bitsOf, .ref q_sizeOf, .ref q_number, .ref q_lifted])), (q_bitsOf, .inl (c 0, 4, .inl v_bitsOf)), (q_d, .inl (c 0, 244, .inl v_d)), (q_found, .inl (c 0, 6, .inl v_found)), (q_number, .inl (c 0, 160, .inl v_number)), (q_sizeOf, .inl (c 0, 4, .inl v_sizeOf))] := hD
  refine lv_if_ne (tgt := 13) hx hb dX12_airs_4 (by decide) (fun c_3 => ?_) (fun c_3 => ?_)
  · have h := it_f c_3 h
    refine lv_aload_n hx hb dX12_airs_13 rfl (lv_at hl 0 rfl) ?_
    refine va_get (D := D) (ci := 12) (v := .ref q_bitsOf) (C := RX12) (T := TX12) (N := 26) hx hb hts in_X12_airs_X12 hown hK.1 hP 0 rfl rfl 22 (by decide) (hts (.fieldLink RX12 34 "PaperBubblesModel" "bitsOf" "[I") (List.mem_of_getElem? (i := 1) rfl)) (fun _ h9 => h9) rfl dX12_airs_14 ?_
    refine lv_iload_n hx hb dX12_airs_17 rfl (lv_at hl 1 rfl) ?_
    obtain ⟨hi_4, h⟩ := chi_ok h
    refine va_iald hx hb hK.1 hP 1 0 rfl rfl hi_4 dX12_airs_18 ?_
    refine lv_if_ne (tgt := 28) hx hb dX12_airs_19 (by decide) (fun c_5 => ?_) (fun c_5 => ?_)
    · have h := it_f c_5 h
      refine lv_iconst (v := 0) hx hb dX12_airs_28 (by decide) ?_
      refine lv_istore_n (lv' := [(2, .int 0), (0, .ref q_this), (1, .int a_1)]) hx hb dX12_airs_29 rfl hl (by decide) rfl (fun ls hl => ?_)
      exact t_L30 gFuel 0 v_d v_found H locs hP hD hS ls (lv_sub hl [1, 2, 0] rfl) h
    · have h := it_t c_5 h
      refine lv_aload_n hx hb dX12_airs_22 rfl (lv_at hl 0 rfl) ?_
      refine lv_iconst (v := 2) hx hb dX12_airs_23 (by decide) ?_
      obtain ⟨r_7, w_8, hc_6, h⟩ := kb2_ok h
      refine gCallI (isC := [0, 3]) (wc := [(q_this, .inr (12, [.ref q_d, .ref q_kept, .int v_images, .ref q_found, .ref q_aside, .int v_base, .int v_at, .int v_size, .int v_fault, .int v_opened, .int v_isSeen, .ref q_names, .ref q_seenKept, .ref q_movedKept, .int v_isKeeping, .int v_bubbleMany, .int v_bubbleMost, .int v_bubbleCell, .int v_bestShown, .ref q_traced, .int v_traceMany, .int v_who, .ref q_bitsOf, .ref q_sizeOf, .ref q_number, .ref q_lifted])), (q_found, .inl (c 0, 6, .inl v_found))]) (w1 := [(q_this, .inr (12, [.ref q_d, .ref q_kept, .int v_images, .ref q_found, .ref q_aside, .int v_base, .int v_at, .int v_size, .int v_fault, .int v_opened, .int v_isSeen, .ref q_names, .ref q_seenKept, .ref q_movedKept, .int v_isKeeping, .int v_bubbleMany, .int v_bubbleMost, .int v_bubbleCell, .int v_bestShown, .ref q_traced, .int v_traceMany, .int v_who, .ref q_bitsOf, .ref q_sizeOf, .ref q_number, .ref q_lifted])), (q_found, .inl (c 0, 6, .inl w_8))]) hP hD hS hA rfl rfl (va_runV (rm := rm_X12_finds) (ws := wsX12_finds) (As := [.int 2]) (rest := []) (gFix hF) (c_X12_finds l D c q_this q_d q_kept q_found q_aside q_names q_seenKept q_movedKept q_traced q_bitsOf q_sizeOf q_number q_lifted 2 v_images v_base v_at v_size v_fault v_opened v_isSeen v_isKeeping v_bubbleMany v_bubbleMost v_bubbleCell v_bestShown v_traceMany v_who v_found r_7 w_8 hc_6 H.size) (cwV 1 hts gX12_airs_X12_finds rfl rfl rfl (by decide +kernel) ⟨Nat.le_of_ble_eq_true rfl, Nat.le_of_ble_eq_true rfl⟩) (gPreV (wc := [(q_this, .inr (12, [.ref q_d, .ref q_kept, .int v_images, .ref q_found, .ref q_aside, .int v_base, .int v_at, .int v_size, .int v_fault, .int v_opened, .int v_isSeen, .ref q_names, .ref q_seenKept, .ref q_movedKept, .int v_isKeeping, .int v_bubbleMany, .int v_bubbleMost, .int v_bubbleCell, .int v_bestShown, .ref q_traced, .int v_traceMany, .int v_who, .ref q_bitsOf, .ref q_sizeOf, .ref q_number, .ref q_lifted])), (q_found, .inl (c 0, 6, .inl v_found))]) (q := (RX12, TX12, 26)) (ci := 12) (q0 := 0) (isC := [0, 3]) hK hX hS hA hP hD rfl (by decide) rfl rfl) rfl rfl hl.1 rfl (lv_room (Nat.le_of_ble_eq_true rfl)) dX12_airs_24 ⟨Nat.le_of_ble_eq_true rfl, Nat.le_of_ble_eq_true rfl⟩) (fun H locs hP hD hS => ?_)
      have hP : va_P D gcl [(q_this, .inr (12, [.ref q_d, .ref q_kept, .int v_images, .ref q_found, .ref q_aside, .int v_base, .int v_at, .int v_size, .int v_fault, .int v_opened, .int v_isSeen, .ref q_names, .ref q_seenKept, .ref q_movedKept, .int v_isKeeping, .int v_bubbleMany, .int v_bubbleMost, .int v_bubbleCell, .int v_bestShown, .ref q_traced, .int v_traceMany, .int v_who, .ref q_bitsOf, .ref q_sizeOf, .ref q_number, .ref q_lifted])), (q_bitsOf, .inl (c 0, 4, .inl v_bitsOf)), (q_d, .inl (c 0, 244, .inl v_d)), (q_found, .inl (c 0, 6, .inl w_8)), (q_number, .inl (c 0, 160, .inl v_number)), (q_sizeOf, .inl (c 0, 4, .inl v_sizeOf))] H := hP
      have hD : va_D A [(q_this, .inr (12, [.ref q_d, .ref q_kept, .int v_images, .ref q_found, .ref q_aside, .int v_base, .int v_at, .int v_size, .int v_fault, .int v_opened, .int v_isSeen, .ref q_names, .ref q_seenKept, .ref q_movedKept, .int v_isKeeping, .int v_bubbleMany, .int v_bubbleMost, .int v_bubbleCell, .int v_bestShown, .ref q_traced, .int v_traceMany, .int v_who, .ref q_bitsOf, .ref q_sizeOf, .ref q_number, .ref q_lifted])), (q_bitsOf, .inl (c 0, 4, .inl v_bitsOf)), (q_d, .inl (c 0, 244, .inl v_d)), (q_found, .inl (c 0, 6, .inl w_8)), (q_number, .inl (c 0, 160, .inl v_number)), (q_sizeOf, .inl (c 0, 4, .inl v_sizeOf))] := hD
      cases h
      exact gIret hF hP hD hS rfl dX12_airs_27
  · have h := it_t c_3 h
    refine lv_aload_n hx hb dX12_airs_7 rfl (lv_at hl 0 rfl) ?_
    refine lv_iconst (v := 1) hx hb dX12_airs_8 (by decide) ?_
    obtain ⟨r_10, w_11, hc_9, h⟩ := kb2_ok h
    refine gCallI (isC := [0, 3]) (wc := [(q_this, .inr (12, [.ref q_d, .ref q_kept, .int v_images, .ref q_found, .ref q_aside, .int v_base, .int v_at, .int v_size, .int v_fault, .int v_opened, .int v_isSeen, .ref q_names, .ref q_seenKept, .ref q_movedKept, .int v_isKeeping, .int v_bubbleMany, .int v_bubbleMost, .int v_bubbleCell, .int v_bestShown, .ref q_traced, .int v_traceMany, .int v_who, .ref q_bitsOf, .ref q_sizeOf, .ref q_number, .ref q_lifted])), (q_found, .inl (c 0, 6, .inl v_found))]) (w1 := [(q_this, .inr (12, [.ref q_d, .ref q_kept, .int v_images, .ref q_found, .ref q_aside, .int v_base, .int v_at, .int v_size, .int v_fault, .int v_opened, .int v_isSeen, .ref q_names, .ref q_seenKept, .ref q_movedKept, .int v_isKeeping, .int v_bubbleMany, .int v_bubbleMost, .int v_bubbleCell, .int v_bestShown, .ref q_traced, .int v_traceMany, .int v_who, .ref q_bitsOf, .ref q_sizeOf, .ref q_number, .ref q_lifted])), (q_found, .inl (c 0, 6, .inl w_11))]) hP hD hS hA rfl rfl (va_runV (rm := rm_X12_finds) (ws := wsX12_finds) (As := [.int 1]) (rest := []) (gFix hF) (c_X12_finds l D c q_this q_d q_kept q_found q_aside q_names q_seenKept q_movedKept q_traced q_bitsOf q_sizeOf q_number q_lifted 1 v_images v_base v_at v_size v_fault v_opened v_isSeen v_isKeeping v_bubbleMany v_bubbleMost v_bubbleCell v_bestShown v_traceMany v_who v_found r_10 w_11 hc_9 H.size) (cwV 1 hts gX12_airs_X12_finds rfl rfl rfl (by decide +kernel) ⟨Nat.le_of_ble_eq_true rfl, Nat.le_of_ble_eq_true rfl⟩) (gPreV (wc := [(q_this, .inr (12, [.ref q_d, .ref q_kept, .int v_images, .ref q_found, .ref q_aside, .int v_base, .int v_at, .int v_size, .int v_fault, .int v_opened, .int v_isSeen, .ref q_names, .ref q_seenKept, .ref q_movedKept, .int v_isKeeping, .int v_bubbleMany, .int v_bubbleMost, .int v_bubbleCell, .int v_bestShown, .ref q_traced, .int v_traceMany, .int v_who, .ref q_bitsOf, .ref q_sizeOf, .ref q_number, .ref q_lifted])), (q_found, .inl (c 0, 6, .inl v_found))]) (q := (RX12, TX12, 26)) (ci := 12) (q0 := 0) (isC := [0, 3]) hK hX hS hA hP hD rfl (by decide) rfl rfl) rfl rfl hl.1 rfl (lv_room (Nat.le_of_ble_eq_true rfl)) dX12_airs_9 ⟨Nat.le_of_ble_eq_true rfl, Nat.le_of_ble_eq_true rfl⟩) (fun H locs hP hD hS => ?_)
    have hP : va_P D gcl [(q_this, .inr (12, [.ref q_d, .ref q_kept, .int v_images, .ref q_found, .ref q_aside, .int v_base, .int v_at, .int v_size, .int v_fault, .int v_opened, .int v_isSeen, .ref q_names, .ref q_seenKept, .ref q_movedKept, .int v_isKeeping, .int v_bubbleMany, .int v_bubbleMost, .int v_bubbleCell, .int v_bestShown, .ref q_traced, .int v_traceMany, .int v_who, .ref q_bitsOf, .ref q_sizeOf, .ref q_number, .ref q_lifted])), (q_bitsOf, .inl (c 0, 4, .inl v_bitsOf)), (q_d, .inl (c 0, 244, .inl v_d)), (q_found, .inl (c 0, 6, .inl w_11)), (q_number, .inl (c 0, 160, .inl v_number)), (q_sizeOf, .inl (c 0, 4, .inl v_sizeOf))] H := hP
    have hD : va_D A [(q_this, .inr (12, [.ref q_d, .ref q_kept, .int v_images, .ref q_found, .ref q_aside, .int v_base, .int v_at, .int v_size, .int v_fault, .int v_opened, .int v_isSeen, .ref q_names, .ref q_seenKept, .ref q_movedKept, .int v_isKeeping, .int v_bubbleMany, .int v_bubbleMost, .int v_bubbleCell, .int v_bestShown, .ref q_traced, .int v_traceMany, .int v_who, .ref q_bitsOf, .ref q_sizeOf, .ref q_number, .ref q_lifted])), (q_bitsOf, .inl (c 0, 4, .inl v_bitsOf)), (q_d, .inl (c 0, 244, .inl v_d)), (q_found, .inl (c 0, 6, .inl w_11)), (q_number, .inl (c 0, 160, .inl v_number)), (q_sizeOf, .inl (c 0, 4, .inl v_sizeOf))] := hD
    cases h
    exact gIret hF hP hD hS rfl dX12_airs_12
