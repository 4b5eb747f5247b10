def f_J7_fill_53178_L5 (a_1 : Int32) (n_this : Nat) : Nat → Int32 → Int32 → (Nat → Int32) → Option ((Nat → Int32))
  | 0, _, _, _ => none
  | n + 1, x2, x3, v_this =>
    if x3 ≤ x2 then
      some v_this
    else
      chi x2 n_this <|
      nm (upd v_this x2.toNatClampNeg a_1) fun w_4 =>
      nm (x2 + 1) fun t_5 =>
      f_J7_fill_53178_L5 a_1 n_this n t_5 x3 w_4

def f_J7_fill_53178 (a_1 : Int32) (n_this : Nat) (v_this : Nat → Int32) : Option ((Nat → Int32)) :=
  nm (nI n_this) fun t_1 =>
  f_J7_fill_53178_L5 a_1 n_this gFuel 0 t_1 v_this

abbrev rm_J7_fill_53178 : Room := { frames := 0, cells := 0, slots := 0, locals := 0 }
set_option maxHeartbeats 4000000 in
set_option maxRecDepth 100000 in
theorem c_J7_fill_53178 (l : Launch) (D : va_G) (c : Nat → ClassId) (q_this : Nat) (n_this : Nat) (a_1 : Int32) (v_this : Nat → Int32) (o_v_this : Nat → Int32) (h : f_J7_fill_53178 a_1 n_this v_this = some o_v_this) : gMV l yJ7_fill_53178 wsJ7_fill_53178 rm_J7_fill_53178 D c [.ref q_this, .int a_1] [(q_this, .inl (c 0, n_this, .inl v_this))] [(q_this, .inl (c 0, n_this, .inl o_v_this))] := by
  refine gMV_of (cc := cJ7_fill_53178) (maxL := 4) (rt := none) (by decide +kernel) rfl (Nat.le_of_ble_eq_true rfl) ?_
  intro p e s m below meth co A hF hK hX hP hD hA hS ls hl
  obtain ⟨hx, hb, hr, hts, hown, hlocks, hml⟩ := id hF
  have hl : lv_has ls 4 [(0, .ref q_this), (1, .int a_1)] := hl
  have t_L5 : ∀ (n : Nat), ∀ (x2 : Int32) (x3 : Int32) (v_this : Nat → Int32) (H : Heap) (locs : List Loc), va_P D gcl [(q_this, .inl (c 0, n_this, .inl v_this))] H → va_D A [(q_this, .inl (c 0, n_this, .inl v_this))] → va_S A s.heap H locs → ∀ ls, lv_has ls 4 [(0, .ref q_this), (1, .int a_1), (2, .int x2), (3, .int x3)] → f_J7_fill_53178_L5 a_1 n_this n x2 x3 v_this = some o_v_this → W p l e (headSpec wsJ7_fill_53178 rm_J7_fill_53178).room s m [.ref q_this, .int a_1].toArray below meth co H locs 0 0 (gQV D [(q_this, .inl (c 0, n_this, .inl o_v_this))] A below [.ref q_this, .int a_1] s) (F0 m 5 ls []) := by
    intro n
    induction n with
    | zero => intro x2 x3 v_this H locs hP hD hS ls hl h; exact no_ok h
    | succ n ih =>
      intro x2 x3 v_this H locs hP hD hS ls hl h
      rw [f_J7_fill_53178_L5] at h
      refine lv_iload_n hx hb dJ7_fill_53178_5 rfl (lv_at hl 2 rfl) ?_
      refine lv_iload_n hx hb dJ7_fill_53178_6 rfl (lv_at hl 3 rfl) ?_
      refine lv_icmp_ge (tgt := 20) hx hb dJ7_fill_53178_7 (by decide) (fun c_2 => ?_) (fun c_2 => ?_)
      · have h := it_t c_2 h
        cases h
        exact gVret hF hP hD hS dJ7_fill_53178_20
      · have h := it_f c_2 h
        refine lv_aload_n hx hb dJ7_fill_53178_10 rfl (lv_at hl 0 rfl) ?_
        refine lv_iload_n hx hb dJ7_fill_53178_11 rfl (lv_at hl 2 rfl) ?_
        refine lv_iload_n hx hb dJ7_fill_53178_12 rfl (lv_at hl 1 rfl) ?_
        obtain ⟨hi_3, h⟩ := chi_ok h
        obtain ⟨w_4, ew_4, h⟩ := nm_ok h
        refine va_iast hx hb hK.1 hP hD hS 0 0 rfl rfl hi_3 dJ7_fill_53178_13 (fun H locs hP hD hS => ?_)
        have hP : va_P D gcl [(q_this, .inl (c 0, n_this, .inl w_4))] H := by subst ew_4; exact hP
        have hD : va_D A [(q_this, .inl (c 0, n_this, .inl w_4))] := by subst ew_4; exact hD
        obtain ⟨t_5, et_5, h⟩ := nm_ok h
        refine lv_iinc (v := t_5) (lv' := [(2, .int t_5), (0, .ref q_this), (1, .int a_1), (3, .int x3)]) hx hb dJ7_fill_53178_14 hl (k := 2) rfl (by rw [et_5]; rfl) (by decide) rfl (fun ls hl => ?_)
        refine lv_goto (tgt := 5) hx hb dJ7_fill_53178_17 (by decide) ?_
        exact ih t_5 x3 w_4 H locs hP hD hS ls (lv_sub hl [1, 2, 0, 3] rfl) h
  unfold f_J7_fill_53178 at h
  refine lv_iconst (v := 0) hx hb dJ7_fill_53178_0 (by decide) ?_
  refine lv_istore_n (lv' := [(2, .int 0), (0, .ref q_this), (1, .int a_1)]) hx hb dJ7_fill_53178_1 rfl hl (by decide) rfl (fun ls hl => ?_)
  refine lv_aload_n hx hb dJ7_fill_53178_2 rfl (lv_at hl 1 rfl) ?_
  refine va_alen (v := nI n_this) hx hb hK.1 hP 0 0 rfl rfl rfl dJ7_fill_53178_3 ?_
  obtain ⟨t_1, et_1, h⟩ := nm_ok h
  refine gTop et_1 ?_
  refine lv_istore_n (lv' := [(3, .int t_1), (2, .int 0), (0, .ref q_this), (1, .int a_1)]) hx hb dJ7_fill_53178_4 rfl hl (by decide) rfl (fun ls hl => ?_)
  exact t_L5 gFuel 0 t_1 v_this s.heap [] hP hD hS ls (lv_sub hl [2, 3, 1, 0] rfl) h
def f_X8_isA (a_1 : Int32) : Option (Int32) :=
  if a_1 = 0 then
    some 1
  else
    some 0

abbrev rm_X8_isA : Room := { frames := 0, cells := 0, slots := 0, locals := 0 }
set_option maxHeartbeats 4000000 in
set_option maxRecDepth 100000 in
theorem c_X8_isA (l : Launch) (D : va_G) (c : Nat → ClassId) (q_this : Nat) (a_1 : Int32) (o_r : Int32) (h : f_X8_isA a_1 = some o_r) : gMI l yX8_isA wsX8_isA rm_X8_isA D c [.ref q_this, .int a_1] [] [] o_r := by
  refine gMI_of (cc := cX8_isA) (maxL := 2) (rt := (some .boolean)) (by decide +kernel) rfl (Nat.le_of_ble_eq_true rfl) ?_
  intro p e s m below meth co A hF hK hX hP hD hA hS ls hl
  obtain ⟨hx, hb, hr, hts, hown, hlocks, hml⟩ := id hF
  have hl : lv_has ls 2 [(0, .ref q_this), (1, .int a_1)] := hl
  unfold f_X8_isA at h
  refine lv_iload_n hx hb dX8_isA_0 rfl (lv_at hl 1 rfl) ?_
  refine lv_if_ne (tgt := 8) hx hb dX8_isA_1 (by decide) (fun c_1 => ?_) (fun c_1 => ?_)
  · have h := it_f c_1 h
    refine lv_iconst (v := 0) hx hb dX8_isA_8 (by decide) ?_
    cases h
    exact gIret hF hP hD hS rfl dX8_isA_9
  · have h := it_t c_1 h
    refine lv_iconst (v := 1) hx hb dX8_isA_4 (by decide) ?_
    refine lv_goto (tgt := 9) hx hb dX8_isA_5 (by decide) ?_
    cases h
    exact gIret hF hP hD hS rfl dX8_isA_9
def f_X0_isA (a_1 : Int32) : Option (Int32) :=
  if a_1 = 1 then
    some 1
  else
    kb (f_X8_isA a_1) fun r_3 =>
    if r_3 = 0 then
      some 0
    else
      some 1

abbrev rm_X0_isA : Room := { frames := 1, cells := 0, slots := 0, locals := 21 }
set_option maxHeartbeats 4000000 in
set_option maxRecDepth 100000 in
theorem c_X0_isA (l : Launch) (D : va_G) (c : Nat → ClassId) (q_this : Nat) (a_1 : Int32) (o_r : Int32) (h : f_X0_isA a_1 = some o_r) : gMI l yX0_isA wsX0_isA rm_X0_isA D c [.ref q_this, .int a_1] [(q_this, .inr (0, []))] [(q_this, .inr (0, []))] o_r := by
  refine gMI_of (cc := cX0_isA) (maxL := 2) (rt := (some .boolean)) (by decide +kernel) rfl (Nat.le_of_ble_eq_true rfl) ?_
  intro p e s m below meth co A hF hK hX hP hD hA hS ls hl
  obtain ⟨hx, hb, hr, hts, hown, hlocks, hml⟩ := id hF
  have hl : lv_has ls 2 [(0, .ref q_this), (1, .int a_1)] := hl
  unfold f_X0_isA at h
  refine lv_iload_n hx hb dX0_isA_0 rfl (lv_at hl 1 rfl) ?_
  refine lv_iconst (v := 1) hx hb dX0_isA_1 (by decide) ?_
  refine lv_icmp_eq (tgt := 13) hx hb dX0_isA_2 (by decide) (fun c_1 => ?_) (fun c_1 => ?_)
  · have h := it_t c_1 h
    refine lv_iconst (v := 1) hx hb dX0_isA_13 (by decide) ?_
    refine lv_goto (tgt := 18) hx hb dX0_isA_14 (by decide) ?_
    cases h
    exact gIret hF hP hD hS rfl dX0_isA_18
  · have h := it_f c_1 h
    refine lv_aload_n hx hb dX0_isA_5 rfl (lv_at hl 0 rfl) ?_
    refine lv_iload_n hx hb dX0_isA_6 rfl (lv_at hl 1 rfl) ?_
    obtain ⟨r_3, hc_2, h⟩ := kb_ok h
    refine gCallI (isC := []) (wc := []) (w1 := []) hP hD hS hA rfl rfl (va_runSU (rm := rm_X8_isA) (ws := wsX8_isA) (As := [.int a_1]) (rest := []) (hK.1.1 0 _ rfl).2 (gFix hF) (c_X8_isA l D c q_this a_1 r_3 hc_2 s.heap.size) (va_cwSU 1 hts gX0_isA_X8_isA_s7 rfl rfl rfl (by decide +kernel) ⟨Nat.le_of_ble_eq_true rfl, Nat.le_of_ble_eq_true rfl⟩) (gPreV (wc := []) (q := (RX0, TX0, 0)) (ci := 0) (q0 := 0) (isC := []) hK hX hS hA hP hD rfl (by decide) rfl rfl) rfl rfl hl.1 rfl (lv_room (Nat.le_of_ble_eq_true rfl)) dX0_isA_7 ⟨Nat.le_of_ble_eq_true rfl, Nat.le_of_ble_eq_true rfl⟩) (fun H locs hP hD hS => ?_)
    have hP : va_P D gcl [(q_this, .inr (0, []))] H := hP
    have hD : va_D A [(q_this, .inr (0, []))] := hD
    refine lv_if_eq (tgt := 17) hx hb dX0_isA_10 (by decide) (fun c_4 => ?_) (fun c_4 => ?_)
    · have h := it_t c_4 h
      refine lv_iconst (v := 0) hx hb dX0_isA_17 (by decide) ?_
      cases h
      exact gIret hF hP hD hS rfl dX0_isA_18
    · have h := it_f c_4 h
      refine lv_iconst (v := 1) hx hb dX0_isA_13 (by decide) ?_
      refine lv_goto (tgt := 18) hx hb dX0_isA_14 (by decide) ?_
      cases h
      exact gIret hF hP hD hS rfl dX0_isA_18
def f_X0_moves (a_1 : Int32) (a_2 : Int32) (a_3 : Int32) : Option (Int32) :=
  some (a_2 + 1)

abbrev rm_X0_moves : Room := { frames := 0, cells := 0, slots := 0, locals := 0 }
set_option maxHeartbeats 4000000 in
set_option maxRecDepth 100000 in
theorem c_X0_moves (l : Launch) (D : va_G) (c : Nat → ClassId) (q_this : Nat) (a_1 : Int32) (a_2 : Int32) (a_3 : Int32) (o_r : Int32) (h : f_X0_moves a_1 a_2 a_3 = some o_r) : gMI l yX0_moves wsX0_moves rm_X0_moves D c [.ref q_this, .int a_1, .int a_2, .int a_3] [] [] o_r := by
  refine gMI_of (cc := cX0_moves) (maxL := 4) (rt := (some .int)) (by decide +kernel) rfl (Nat.le_of_ble_eq_true rfl) ?_
  intro p e s m below meth co A hF hK hX hP hD hA hS ls hl
  obtain ⟨hx, hb, hr, hts, hown, hlocks, hml⟩ := id hF
  have hl : lv_has ls 4 [(0, .ref q_this), (1, .int a_1), (2, .int a_2), (3, .int a_3)] := hl
  unfold f_X0_moves at h
  refine lv_iload_n hx hb dX0_moves_0 rfl (lv_at hl 2 rfl) ?_
  refine lv_iconst (v := 1) hx hb dX0_moves_1 (by decide) ?_
  refine lv_iadd hx hb dX0_moves_2 ?_
  cases h
  exact gIret hF hP hD hS rfl dX0_moves_3
set_option maxRecDepth 20000 in
theorem in_X9_begin_X9 : ∀ w ∈ u_ws RX9 TX9 4, w ∈ wsX9_begin := by decide +kernel
def f_X9_begin (a_1 : Int32) (v_length : Int32) (v_bodies : Nat → Int32) : Option (Int32 × (Nat → Int32)) :=
  if v_length < 0 then
    some (v_length, v_bodies)
  else
    if 40 ≤ v_length then
      some (v_length, v_bodies)
    else
      chi v_length 40 <|
      nm (upd v_bodies v_length.toNatClampNeg a_1) fun w_4 =>
      nm (v_length + 1) fun t_5 =>
      some (t_5, w_4)

abbrev rm_X9_begin : Room := { frames := 0, cells := 0, slots := 0, locals := 0 }
set_option maxHeartbeats 4000000 in
set_option maxRecDepth 100000 in
theorem c_X9_begin (l : Launch) (D : va_G) (c : Nat → ClassId) (q_this q_bodies : Nat) (a_1 : Int32) (v_n : Int32) (v_m : Int32) (v_length : Int32) (v_bodies : Nat → Int32) (o_v_length : Int32) (o_v_bodies : Nat → Int32) (h : f_X9_begin a_1 v_length v_bodies = some (o_v_length, o_v_bodies)) : gMV l yX9_begin wsX9_begin rm_X9_begin D c [.ref q_this, .int a_1] [(q_this, .inr (9, [.int v_n, .int v_m, .ref q_bodies, .int v_length])), (q_bodies, .inl (c 0, 40, .inl v_bodies))] [(q_this, .inr (9, [.int v_n, .int v_m, .ref q_bodies, .int o_v_length])), (q_bodies, .inl (c 0, 40, .inl o_v_bodies))] := by
  refine gMV_of (cc := cX9_begin) (maxL := 2) (rt := none) (by decide +kernel) rfl (Nat.le_of_ble_eq_true rfl) ?_
  intro p e s m below meth co A hF hK hX hP hD hA hS ls hl
  obtain ⟨hx, hb, hr, hts, hown, hlocks, hml⟩ := id hF
  have hl : lv_has ls 2 [(0, .ref q_this), (1, .int a_1)] := hl
  unfold f_X9_begin at h
  refine lv_aload_n hx hb dX9_begin_0 rfl (lv_at hl 0 rfl) ?_
  refine va_get (D := D) (ci := 9) (v := .int v_length) (C := RX9) (T := TX9) (N := 4) hx hb hts in_X9_begin_X9 hown hK.1 hP 0 rfl rfl 3 (by decide) (hts (.fieldLink RX9 22 "PaperBubbles$Voice" "length" "I") (List.mem_of_getElem? (i := 1) rfl)) (fun _ h9 => h9) rfl dX9_begin_1 ?_
  refine lv_if_lt (tgt := 36) hx hb dX9_begin_4 (by decide) (fun c_1 => ?_) (fun c_1 => ?_)
  · have h := it_t c_1 h
    cases h
    exact gVret hF hP hD hS dX9_begin_36
  · have h := it_f c_1 h
    refine lv_aload_n hx hb dX9_begin_7 rfl (lv_at hl 0 rfl) ?_
    refine va_get (D := D) (ci := 9) (v := .int v_length) (C := RX9) (T := TX9) (N := 4) hx hb hts in_X9_begin_X9 hown hK.1 hP 0 rfl rfl 3 (by decide) (hts (.fieldLink RX9 22 "PaperBubbles$Voice" "length" "I") (List.mem_of_getElem? (i := 1) rfl)) (fun _ h9 => h9) rfl dX9_begin_8 ?_
    refine lv_bipush (v := 40) hx hb dX9_begin_11 (by decide) ?_
    refine lv_icmp_ge (tgt := 36) hx hb dX9_begin_13 (by decide) (fun c_2 => ?_) (fun c_2 => ?_)
    · have h := it_t c_2 h
      cases h
      exact gVret hF hP hD hS dX9_begin_36
    · have h := it_f c_2 h
      refine lv_aload_n hx hb dX9_begin_16 rfl (lv_at hl 0 rfl) ?_
      refine va_get (D := D) (ci := 9) (v := .ref q_bodies) (C := RX9) (T := TX9) (N := 4) hx hb hts in_X9_begin_X9 hown hK.1 hP 0 rfl rfl 2 (by decide) (hts (.fieldLink RX9 9 "PaperBubbles$Voice" "bodies" "[I") (List.mem_of_getElem? (i := 2) rfl)) (fun _ h9 => h9) rfl dX9_begin_17 ?_
      refine lv_aload_n hx hb dX9_begin_20 rfl (lv_at hl 0 rfl) ?_
      refine va_get (D := D) (ci := 9) (v := .int v_length) (C := RX9) (T := TX9) (N := 4) hx hb hts in_X9_begin_X9 hown hK.1 hP 0 rfl rfl 3 (by decide) (hts (.fieldLink RX9 22 "PaperBubbles$Voice" "length" "I") (List.mem_of_getElem? (i := 1) rfl)) (fun _ h9 => h9) rfl dX9_begin_21 ?_
      refine lv_iload_n hx hb dX9_begin_24 rfl (lv_at hl 1 rfl) ?_
      obtain ⟨hi_3, h⟩ := chi_ok h
      obtain ⟨w_4, ew_4, h⟩ := nm_ok h
      refine va_iast hx hb hK.1 hP hD hS 1 0 rfl rfl hi_3 dX9_begin_25 (fun H locs hP hD hS => ?_)
      have hP : va_P D gcl [(q_this, .inr (9, [.int v_n, .int v_m, .ref q_bodies, .int v_length])), (q_bodies, .inl (c 0, 40, .inl w_4))] H := by subst ew_4; exact hP
      have hD : va_D A [(q_this, .inr (9, [.int v_n, .int v_m, .ref q_bodies, .int v_length])), (q_bodies, .inl (c 0, 40, .inl w_4))] := by subst ew_4; exact hD
      refine lv_aload_n hx hb dX9_begin_26 rfl (lv_at hl 0 rfl) ?_
      refine lv_dup hx hb dX9_begin_27 rfl ?_
      refine va_get (D := D) (ci := 9) (v := .int v_length) (C := RX9) (T := TX9) (N := 4) hx hb hts in_X9_begin_X9 hown hK.1 hP 0 rfl rfl 3 (by decide) (hts (.fieldLink RX9 22 "PaperBubbles$Voice" "length" "I") (List.mem_of_getElem? (i := 1) rfl)) (fun _ h9 => h9) rfl dX9_begin_28 ?_
      refine lv_iconst (v := 1) hx hb dX9_begin_31 (by decide) ?_
      refine lv_iadd hx hb dX9_begin_32 ?_
      obtain ⟨t_5, et_5, h⟩ := nm_ok h
      refine gTop et_5 ?_
      refine va_put (D := D) (ci := 9) (v := .int t_5) (ty := .int) (C := RX9) (T := TX9) (N := 4) hx hb hts in_X9_begin_X9 tyX9 tyX9_ok nmX9 hown hK.1 hP hD hS 0 rfl rfl 3 (by decide) (hts (.fieldLink RX9 22 "PaperBubbles$Voice" "length" "I") (List.mem_of_getElem? (i := 1) rfl)) (fun _ h9 => h9) rfl (by decide +kernel) rfl rfl (Nat.le_of_ble_eq_true rfl) dX9_begin_33 (fun H locs hP hD hS => ?_)
      have hP : va_P D gcl [(q_this, .inr (9, [.int v_n, .int v_m, .ref q_bodies, .int t_5])), (q_bodies, .inl (c 0, 40, .inl w_4))] H := hP
      have hD : va_D A [(q_this, .inr (9, [.int v_n, .int v_m, .ref q_bodies, .int t_5])), (q_bodies, .inl (c 0, 40, .inl w_4))] := hD
      cases h
      exact gVret hF hP hD hS dX9_begin_36
set_option maxRecDepth 20000 in
theorem in_X8_sayMoves_X9 : ∀ w ∈ u_ws RX9 TX9 4, w ∈ wsX8_sayMoves := by decide +kernel
def f_X8_sayMoves_X0 (a_1 : Int32) (v_p2_n : Int32) (v_p2_m : Int32) (v_p2_length : Int32) (v_p2_bodies : Nat → Int32) : Option (Int32 × Int32 × (Nat → Int32)) :=
  kb2 (f_X9_begin 10 v_p2_length v_p2_bodies) fun w_2 w_3 =>
  some (a_1 + v_p2_n, w_2, w_3)

abbrev rm_X8_sayMoves_X0 : Room := { frames := 1, cells := 0, slots := 0, locals := 21 }
set_option maxHeartbeats 4000000 in
set_option maxRecDepth 100000 in
theorem c_X8_sayMoves_X0 (l : Launch) (D : va_G) (c : Nat → ClassId) (q_this q_p2 q_p2_bodies : Nat) (a_1 : Int32) (v_p2_n : Int32) (v_p2_m : Int32) (v_p2_length : Int32) (v_p2_bodies : Nat → Int32) (o_r : Int32) (o_v_p2_length : Int32) (o_v_p2_bodies : Nat → Int32) (h : f_X8_sayMoves_X0 a_1 v_p2_n v_p2_m v_p2_length v_p2_bodies = some (o_r, o_v_p2_length, o_v_p2_bodies)) : gMI l yX8_sayMoves wsX8_sayMoves rm_X8_sayMoves_X0 D c [.ref q_this, .int a_1, .ref q_p2] [(q_this, .inr (0, [])), (q_p2, .inr (9, [.int v_p2_n, .int v_p2_m, .ref q_p2_bodies, .int v_p2_length])), (q_p2_bodies, .inl (c 0, 40, .inl v_p2_bodies))] [(q_this, .inr (0, [])), (q_p2, .inr (9, [.int v_p2_n, .int v_p2_m, .ref q_p2_bodies, .int o_v_p2_length])), (q_p2_bodies, .inl (c 0, 40, .inl o_v_p2_bodies))] o_r := by
  refine gMI_of (cc := cX8_sayMoves) (maxL := 3) (rt := (some .int)) (by decide +kernel) rfl (Nat.le_of_ble_eq_true rfl) ?_
  intro p e s m below meth co A hF hK hX hP hD hA hS ls hl
  obtain ⟨hx, hb, hr, hts, hown, hlocks, hml⟩ := id hF
  have hl : lv_has ls 3 [(0, .ref q_this), (1, .int a_1), (2, .ref q_p2)] := hl
  unfold f_X8_sayMoves_X0 at h
  refine lv_aload_n hx hb dX8_sayMoves_0 rfl (lv_at hl 2 rfl) ?_
  refine lv_bipush (v := 10) hx hb dX8_sayMoves_1 (by decide) ?_
  obtain ⟨w_2, w_3, hc_1, h⟩ := kb2_ok h
  refine gCallV (isC := [1, 2]) (wc := [(q_p2, .inr (9, [.int v_p2_n, .int v_p2_m, .ref q_p2_bodies, .int v_p2_length])), (q_p2_bodies, .inl (c 0, 40, .inl v_p2_bodies))]) (w1 := [(q_p2, .inr (9, [.int v_p2_n, .int v_p2_m, .ref q_p2_bodies, .int w_2])), (q_p2_bodies, .inl (c 0, 40, .inl w_3))]) hP hD hS hA rfl rfl (va_runV (rm := rm_X9_begin) (ws := wsX9_begin) (As := [.int 10]) (rest := []) (gFix hF) (c_X9_begin l D c q_p2 q_p2_bodies 10 v_p2_n v_p2_m v_p2_length v_p2_bodies w_2 w_3 hc_1 s.heap.size) (cwV 1 hts gX8_sayMoves_X9_begin rfl rfl rfl (by decide +kernel) ⟨Nat.le_of_ble_eq_true rfl, Nat.le_of_ble_eq_true rfl⟩) (gPreV (wc := [(q_p2, .inr (9, [.int v_p2_n, .int v_p2_m, .ref q_p2_bodies, .int v_p2_length])), (q_p2_bodies, .inl (c 0, 40, .inl v_p2_bodies))]) (q := (RX9, TX9, 4)) (ci := 9) (q0 := 1) (isC := [1, 2]) hK hX hS hA hP hD rfl (by decide) rfl rfl) rfl rfl hl.1 rfl (lv_room (Nat.le_of_ble_eq_true rfl)) dX8_sayMoves_3 ⟨Nat.le_of_ble_eq_true rfl, Nat.le_of_ble_eq_true rfl⟩) (fun H locs hP hD hS => ?_)
  have hP : va_P D gcl [(q_this, .inr (0, [])), (q_p2, .inr (9, [.int v_p2_n, .int v_p2_m, .ref q_p2_bodies, .int w_2])), (q_p2_bodies, .inl (c 0, 40, .inl w_3))] H := hP
  have hD : va_D A [(q_this, .inr (0, [])), (q_p2, .inr (9, [.int v_p2_n, .int v_p2_m, .ref q_p2_bodies, .int w_2])), (q_p2_bodies, .inl (c 0, 40, .inl w_3))] := hD
  refine lv_iload_n hx hb dX8_sayMoves_6 rfl (lv_at hl 1 rfl) ?_
  refine lv_aload_n hx hb dX8_sayMoves_7 rfl (lv_at hl 2 rfl) ?_
  refine va_getN (D := D) (ci := 9) (v := .int v_p2_n) (C := RX9) (T := TX9) (N := 4) hx hb hts in_X8_sayMoves_X9 hown hK.1 hP 1 rfl rfl 0 (by decide) (va_Nw.use rfl (hK.2 (.fieldLinkNest "PaperBubbles$Tool" 13 "PaperBubbles$Voice" "n" "I" "PaperBubbles") (List.mem_of_getElem? (i := 20) rfl))) (fun _ h9 => h9) rfl dX8_sayMoves_8 ?_
  refine lv_iadd hx hb dX8_sayMoves_11 ?_
  cases h
  exact gIret hF hP hD hS rfl dX8_sayMoves_12
def f_X0_sayMoves_X0 (a_1 : Int32) (v_p2_n : Int32) (v_p2_m : Int32) (v_p2_length : Int32) (v_p2_bodies : Nat → Int32) : Option (Int32 × Int32 × (Nat → Int32)) :=
  kb2 (f_X9_begin 20 v_p2_length v_p2_bodies) fun w_2 w_3 =>
  kb3 (f_X8_sayMoves_X0 a_1 v_p2_n v_p2_m w_2 w_3) fun r_5 w_6 w_7 =>
  some (r_5 * 3, w_6, w_7)

abbrev rm_X0_sayMoves_X0 : Room := { frames := 2, cells := 0, slots := 0, locals := 43 }
set_option maxHeartbeats 4000000 in
set_option maxRecDepth 100000 in
theorem c_X0_sayMoves_X0 (l : Launch) (D : va_G) (c : Nat → ClassId) (q_this q_p2 q_p2_bodies : Nat) (a_1 : Int32) (v_p2_n : Int32) (v_p2_m : Int32) (v_p2_length : Int32) (v_p2_bodies : Nat → Int32) (o_r : Int32) (o_v_p2_length : Int32) (o_v_p2_bodies : Nat → Int32) (h : f_X0_sayMoves_X0 a_1 v_p2_n v_p2_m v_p2_length v_p2_bodies = some (o_r, o_v_p2_length, o_v_p2_bodies)) : gMI l yX0_sayMoves wsX0_sayMoves rm_X0_sayMoves_X0 D c [.ref q_this, .int a_1, .ref q_p2] [(q_this, .inr (0, [])), (q_p2, .inr (9, [.int v_p2_n, .int v_p2_m, .ref q_p2_bodies, .int v_p2_length])), (q_p2_bodies, .inl (c 0, 40, .inl v_p2_bodies))] [(q_this, .inr (0, [])), (q_p2, .inr (9, [.int v_p2_n, .int v_p2_m, .ref q_p2_bodies, .int o_v_p2_length])), (q_p2_bodies, .inl (c 0, 40, .inl o_v_p2_bodies))] o_r := by
  refine gMI_of (cc := cX0_sayMoves) (maxL := 3) (rt := (some .int)) (by decide +kernel) rfl (Nat.le_of_ble_eq_true rfl) ?_
  intro p e s m below meth co A hF hK hX hP hD hA hS ls hl
  obtain ⟨hx, hb, hr, hts, hown, hlocks, hml⟩ := id hF
  have hl : lv_has ls 3 [(0, .ref q_this), (1, .int a_1), (2, .ref q_p2)] := hl
  unfold f_X0_sayMoves_X0 at h
  refine lv_aload_n hx hb dX0_sayMoves_0 rfl (lv_at hl 2 rfl) ?_
  refine lv_bipush (v := 20) hx hb dX0_sayMoves_1 (by decide) ?_
  obtain ⟨w_2, w_3, hc_1, h⟩ := kb2_ok h
  refine gCallV (isC := [1, 2]) (wc := [(q_p2, .inr (9, [.int v_p2_n, .int v_p2_m, .ref q_p2_bodies, .int v_p2_length])), (q_p2_bodies, .inl (c 0, 40, .inl v_p2_bodies))]) (w1 := [(q_p2, .inr (9, [.int v_p2_n, .int v_p2_m, .ref q_p2_bodies, .int w_2])), (q_p2_bodies, .inl (c 0, 40, .inl w_3))]) hP hD hS hA rfl rfl (va_runV (rm := rm_X9_begin) (ws := wsX9_begin) (As := [.int 20]) (rest := []) (gFix hF) (c_X9_begin l D c q_p2 q_p2_bodies 20 v_p2_n v_p2_m v_p2_length v_p2_bodies w_2 w_3 hc_1 s.heap.size) (cwV 1 hts gX0_sayMoves_X9_begin rfl rfl rfl (by decide +kernel) ⟨Nat.le_of_ble_eq_true rfl, Nat.le_of_ble_eq_true rfl⟩) (gPreV (wc := [(q_p2, .inr (9, [.int v_p2_n, .int v_p2_m, .ref q_p2_bodies, .int v_p2_length])), (q_p2_bodies, .inl (c 0, 40, .inl v_p2_bodies))]) (q := (RX9, TX9, 4)) (ci := 9) (q0 := 1) (isC := [1, 2]) hK hX hS hA hP hD rfl (by decide) rfl rfl) rfl rfl hl.1 rfl (lv_room (Nat.le_of_ble_eq_true rfl)) dX0_sayMoves_3 ⟨Nat.le_of_ble_eq_true rfl, Nat.le_of_ble_eq_true rfl⟩) (fun H locs hP hD hS => ?_)
  have hP : va_P D gcl [(q_this, .inr (0, [])), (q_p2, .inr (9, [.int v_p2_n, .int v_p2_m, .ref q_p2_bodies, .int w_2])), (q_p2_bodies, .inl (c 0, 40, .inl w_3))] H := hP
  have hD : va_D A [(q_this, .inr (0, [])), (q_p2, .inr (9, [.int v_p2_n, .int v_p2_m, .ref q_p2_bodies, .int w_2])), (q_p2_bodies, .inl (c 0, 40, .inl w_3))] := hD
  refine lv_aload_n hx hb dX0_sayMoves_6 rfl (lv_at hl 0 rfl) ?_
  refine lv_iload_n hx hb dX0_sayMoves_7 rfl (lv_at hl 1 rfl) ?_
  refine lv_aload_n hx hb dX0_sayMoves_8 rfl (lv_at hl 2 rfl) ?_
  obtain ⟨r_5, w_6, w_7, hc_4, h⟩ := kb3_ok h
  refine gCallI (isC := [0, 1, 2]) (wc := [(q_this, .inr (0, [])), (q_p2, .inr (9, [.int v_p2_n, .int v_p2_m, .ref q_p2_bodies, .int w_2])), (q_p2_bodies, .inl (c 0, 40, .inl w_3))]) (w1 := [(q_this, .inr (0, [])), (q_p2, .inr (9, [.int v_p2_n, .int v_p2_m, .ref q_p2_bodies, .int w_6])), (q_p2_bodies, .inl (c 0, 40, .inl w_7))]) hP hD hS hA rfl rfl (va_runSU (rm := rm_X8_sayMoves_X0) (ws := wsX8_sayMoves) (As := [.int a_1, .ref q_p2]) (rest := []) (hK.1.1 0 _ rfl).2 (gFix hF) (c_X8_sayMoves_X0 l D c q_this q_p2 q_p2_bodies a_1 v_p2_n v_p2_m w_2 w_3 r_5 w_6 w_7 hc_4 H.size) (va_cwSU 2 hts gX0_sayMoves_X8_sayMoves_s17 rfl rfl rfl (by decide +kernel) ⟨Nat.le_of_ble_eq_true rfl, Nat.le_of_ble_eq_true rfl⟩) (gPreV (wc := [(q_this, .inr (0, [])), (q_p2, .inr (9, [.int v_p2_n, .int v_p2_m, .ref q_p2_bodies, .int w_2])), (q_p2_bodies, .inl (c 0, 40, .inl w_3))]) (q := (RX0, TX0, 0)) (ci := 0) (q0 := 0) (isC := [0, 1, 2]) hK hX hS hA hP hD rfl (by decide) rfl rfl) rfl rfl hl.1 rfl (lv_room (Nat.le_of_ble_eq_true rfl)) dX0_sayMoves_9 ⟨Nat.le_of_ble_eq_true rfl, Nat.le_of_ble_eq_true rfl⟩) (fun H locs hP hD hS => ?_)
  have hP : va_P D gcl [(q_this, .inr (0, [])), (q_p2, .inr (9, [.int v_p2_n, .int v_p2_m, .ref q_p2_bodies, .int w_6])), (q_p2_bodies, .inl (c 0, 40, .inl w_7))] H := hP
  have hD : va_D A [(q_this, .inr (0, [])), (q_p2, .inr (9, [.int v_p2_n, .int v_p2_m, .ref q_p2_bodies, .int w_6])), (q_p2_bodies, .inl (c 0, 40, .inl w_7))] := hD
  refine lv_iconst (v := 3) hx hb dX0_sayMoves_12 (by decide) ?_
  refine lv_imul hx hb dX0_sayMoves_13 ?_
  cases h
  exact gIret hF hP hD hS rfl dX0_sayMoves_14
def f_X8_sayMoves_X6 (a_1 : Int32) (v_p2_n : Int32) (v_p2_m : Int32) (v_p2_length : Int32) (v_p2_bodies : Nat → Int32) : Option (Int32 × Int32 × (Nat → Int32)) :=
  kb2 (f_X9_begin 10 v_p2_length v_p2_bodies) fun w_2 w_3 =>
  some (a_1 + v_p2_n, w_2, w_3)

abbrev rm_X8_sayMoves_X6 : Room := { frames := 1, cells := 0, slots := 0, locals := 21 }
set_option maxHeartbeats 4000000 in
set_option maxRecDepth 100000 in
theorem c_X8_sayMoves_X6 (l : Launch) (D : va_G) (c : Nat → ClassId) (q_this q_p2 q_p2_bodies : Nat) (a_1 : Int32) (v_p2_n : Int32) (v_p2_m : Int32) (v_p2_length : Int32) (v_p2_bodies : Nat → Int32) (o_r : Int32) (o_v_p2_length : Int32) (o_v_p2_bodies : Nat → Int32) (h : f_X8_sayMoves_X6 a_1 v_p2_n v_p2_m v_p2_length v_p2_bodies = some (o_r, o_v_p2_length, o_v_p2_bodies)) : gMI l yX8_sayMoves wsX8_sayMoves rm_X8_sayMoves_X6 D c [.ref q_this, .int a_1, .ref q_p2] [(q_this, .inr (6, [])), (q_p2, .inr (9, [.int v_p2_n, .int v_p2_m, .ref q_p2_bodies, .int v_p2_length])), (q_p2_bodies, .inl (c 0, 40, .inl v_p2_bodies))] [(q_this, .inr (6, [])), (q_p2, .inr (9, [.int v_p2_n, .int v_p2_m, .ref q_p2_bodies, .int o_v_p2_length])), (q_p2_bodies, .inl (c 0, 40, .inl o_v_p2_bodies))] o_r := by
  refine gMI_of (cc := cX8_sayMoves) (maxL := 3) (rt := (some .int)) (by decide +kernel) rfl (Nat.le_of_ble_eq_true rfl) ?_
  intro p e s m below meth co A hF hK hX hP hD hA hS ls hl
  obtain ⟨hx, hb, hr, hts, hown, hlocks, hml⟩ := id hF
  have hl : lv_has ls 3 [(0, .ref q_this), (1, .int a_1), (2, .ref q_p2)] := hl
  unfold f_X8_sayMoves_X6 at h
  refine lv_aload_n hx hb dX8_sayMoves_0 rfl (lv_at hl 2 rfl) ?_
  refine lv_bipush (v := 10) hx hb dX8_sayMoves_1 (by decide) ?_
  obtain ⟨w_2, w_3, hc_1, h⟩ := kb2_ok h
  refine gCallV (isC := [1, 2]) (wc := [(q_p2, .inr (9, [.int v_p2_n, .int v_p2_m, .ref q_p2_bodies, .int v_p2_length])), (q_p2_bodies, .inl (c 0, 40, .inl v_p2_bodies))]) (w1 := [(q_p2, .inr (9, [.int v_p2_n, .int v_p2_m, .ref q_p2_bodies, .int w_2])), (q_p2_bodies, .inl (c 0, 40, .inl w_3))]) hP hD hS hA rfl rfl (va_runV (rm := rm_X9_begin) (ws := wsX9_begin) (As := [.int 10]) (rest := []) (gFix hF) (c_X9_begin l D c q_p2 q_p2_bodies 10 v_p2_n v_p2_m v_p2_length v_p2_bodies w_2 w_3 hc_1 s.heap.size) (cwV 1 hts gX8_sayMoves_X9_begin rfl rfl rfl (by decide +kernel) ⟨Nat.le_of_ble_eq_true rfl, Nat.le_of_ble_eq_true rfl⟩) (gPreV (wc := [(q_p2, .inr (9, [.int v_p2_n, .int v_p2_m, .ref q_p2_bodies, .int v_p2_length])), (q_p2_bodies, .inl (c 0, 40, .inl v_p2_bodies))]) (q := (RX9, TX9, 4)) (ci := 9) (q0 := 1) (isC := [1, 2]) hK hX hS hA hP hD rfl (by decide) rfl rfl) rfl rfl hl.1 rfl (lv_room (Nat.le_of_ble_eq_true rfl)) dX8_sayMoves_3 ⟨Nat.le_of_ble_eq_true rfl, Nat.le_of_ble_eq_true rfl⟩) (fun H locs hP hD hS => ?_)
  have hP : va_P D gcl [(q_this, .inr (6, [])), (q_p2, .inr (9, [.int v_p2_n, .int v_p2_m, .ref q_p2_bodies, .int w_2])), (q_p2_bodies, .inl (c 0, 40, .inl w_3))] H := hP
  have hD : va_D A [(q_this, .inr (6, [])), (q_p2, .inr (9, [.int v_p2_n, .int v_p2_m, .ref q_p2_bodies, .int w_2])), (q_p2_bodies, .inl (c 0, 40, .inl w_3))] := hD
  refine lv_iload_n hx hb dX8_sayMoves_6 rfl (lv_at hl 1 rfl) ?_
  refine lv_aload_n hx hb dX8_sayMoves_7 rfl (lv_at hl 2 rfl) ?_
  refine va_getN (D := D) (ci := 9) (v := .int v_p2_n) (C := RX9) (T := TX9) (N := 4) hx hb hts in_X8_sayMoves_X9 hown hK.1 hP 1 rfl rfl 0 (by decide) (va_Nw.use rfl (hK.2 (.fieldLinkNest "PaperBubbles$Tool" 13 "PaperBubbles$Voice" "n" "I" "PaperBubbles") (List.mem_of_getElem? (i := 20) rfl))) (fun _ h9 => h9) rfl dX8_sayMoves_8 ?_
  refine lv_iadd hx hb dX8_sayMoves_11 ?_
  cases h
  exact gIret hF hP hD hS rfl dX8_sayMoves_12
def f_X0_sayMoves_X6 (a_1 : Int32) (v_p2_n : Int32) (v_p2_m : Int32) (v_p2_length : Int32) (v_p2_bodies : Nat → Int32) : Option (Int32 × Int32 × (Nat → Int32)) :=
  kb2 (f_X9_begin 20 v_p2_length v_p2_bodies) fun w_2 w_3 =>
  kb3 (f_X8_sayMoves_X6 a_1 v_p2_n v_p2_m w_2 w_3) fun r_5 w_6 w_7 =>
  some (r_5 * 3, w_6, w_7)

abbrev rm_X0_sayMoves_X6 : Room := { frames := 2, cells := 0, slots := 0, locals := 43 }
set_option maxHeartbeats 4000000 in
set_option maxRecDepth 100000 in
theorem c_X0_sayMoves_X6 (l : Launch) (D : va_G) (c : Nat → ClassId) (q_this q_p2 q_p2_bodies : Nat) (a_1 : Int32) (v_p2_n : Int32) (v_p2_m : Int32) (v_p2_length : Int32) (v_p2_bodies : Nat → Int32) (o_r : Int32) (o_v_p2_length : Int32) (o_v_p2_bodies : Nat → Int32) (h : f_X0_sayMoves_X6 a_1 v_p2_n v_p2_m v_p2_length v_p2_bodies = some (o_r, o_v_p2_length, o_v_p2_bodies)) : gMI l yX0_sayMoves wsX0_sayMoves rm_X0_sayMoves_X6 D c [.ref q_this, .int a_1, .ref q_p2] [(q_this, .inr (6, [])), (q_p2, .inr (9, [.int v_p2_n, .int v_p2_m, .ref q_p2_bodies, .int v_p2_length])), (q_p2_bodies, .inl (c 0, 40, .inl v_p2_bodies))] [(q_this, .inr (6, [])), (q_p2, .inr (9, [.int v_p2_n, .int v_p2_m, .ref q_p2_bodies, .int o_v_p2_length])), (q_p2_bodies, .inl (c 0, 40, .inl o_v_p2_bodies))] o_r := by
  refine gMI_of (cc := cX0_sayMoves) (maxL := 3) (rt := (some .int)) (by decide +kernel) rfl (Nat.le_of_ble_eq_true rfl) ?_
  intro p e s m below meth co A hF hK hX hP hD hA hS ls hl
  obtain ⟨hx, hb, hr, hts, hown, hlocks, hml⟩ := id hF
  have hl : lv_has ls 3 [(0, .ref q_this), (1, .int a_1), (2, .ref q_p2)] := hl
  unfold f_X0_sayMoves_X6 at h
  refine lv_aload_n hx hb dX0_sayMoves_0 rfl (lv_at hl 2 rfl) ?_
  refine lv_bipush (v := 20) hx hb dX0_sayMoves_1 (by decide) ?_
  obtain ⟨w_2, w_3, hc_1, h⟩ := kb2_ok h
  refine gCallV (isC := [1, 2]) (wc := [(q_p2, .inr (9, [.int v_p2_n, .int v_p2_m, .ref q_p2_bodies, .int v_p2_length])), (q_p2_bodies, .inl (c 0, 40, .inl v_p2_bodies))]) (w1 := [(q_p2, .inr (9, [.int v_p2_n, .int v_p2_m, .ref q_p2_bodies, .int w_2])), (q_p2_bodies, .inl (c 0, 40, .inl w_3))]) hP hD hS hA rfl rfl (va_runV (rm := rm_X9_begin) (ws := wsX9_begin) (As := [.int 20]) (rest := []) (gFix hF) (c_X9_begin l D c q_p2 q_p2_bodies 20 v_p2_n v_p2_m v_p2_length v_p2_bodies w_2 w_3 hc_1 s.heap.size) (cwV 1 hts gX0_sayMoves_X9_begin rfl rfl rfl (by decide +kernel) ⟨Nat.le_of_ble_eq_true rfl, Nat.le_of_ble_eq_true rfl⟩) (gPreV (wc := [(q_p2, .inr (9, [.int v_p2_n, .int v_p2_m, .ref q_p2_bodies, .int v_p2_length])), (q_p2_bodies, .inl (c 0, 40, .inl v_p2_bodies))]) (q := (RX9, TX9, 4)) (ci := 9) (q0 := 1) (isC := [1, 2]) hK hX hS hA hP hD rfl (by decide) rfl rfl) rfl rfl hl.1 rfl (lv_room (Nat.le_of_ble_eq_true rfl)) dX0_sayMoves_3 ⟨Nat.le_of_ble_eq_true rfl, Nat.le_of_ble_eq_true rfl⟩) (fun H locs hP hD hS => ?_)
  have hP : va_P D gcl [(q_this, .inr (6, [])), (q_p2, .inr (9, [.int v_p2_n, .int v_p2_m, .ref q_p2_bodies, .int w_2])), (q_p2_bodies, .inl (c 0, 40, .inl w_3))] H := hP
  have hD : va_D A [(q_this, .inr (6, [])), (q_p2, .inr (9, [.int v_p2_n, .int v_p2_m, .ref q_p2_bodies, .int w_2])), (q_p2_bodies, .inl (c 0, 40, .inl w_3))] := hD
  refine lv_aload_n hx hb dX0_sayMoves_6 rfl (lv_at hl 0 rfl) ?_
  refine lv_iload_n hx hb dX0_sayMoves_7 rfl (lv_at hl 1 rfl) ?_
  refine lv_aload_n hx hb dX0_sayMoves_8 rfl (lv_at hl 2 rfl) ?_
  obtain ⟨r_5, w_6, w_7, hc_4, h⟩ := kb3_ok h
  refine gCallI (isC := [0, 1, 2]) (wc := [(q_this, .inr (6, [])), (q_p2, .inr (9, [.int v_p2_n, .int v_p2_m, .ref q_p2_bodies, .int w_2])), (q_p2_bodies, .inl (c 0, 40, .inl w_3))]) (w1 := [(q_this, .inr (6, [])), (q_p2, .inr (9, [.int v_p2_n, .int v_p2_m, .ref q_p2_bodies, .int w_6])), (q_p2_bodies, .inl (c 0, 40, .inl w_7))]) hP hD hS hA rfl rfl (va_runSU (rm := rm_X8_sayMoves_X6) (ws := wsX8_sayMoves) (As := [.int a_1, .ref q_p2]) (rest := []) (hK.1.1 6 _ rfl).2 (gFix hF) (c_X8_sayMoves_X6 l D c q_this q_p2 q_p2_bodies a_1 v_p2_n v_p2_m w_2 w_3 r_5 w_6 w_7 hc_4 H.size) (va_cwSU 2 hts gX0_sayMoves_X8_sayMoves_s17 rfl rfl rfl (by decide +kernel) ⟨Nat.le_of_ble_eq_true rfl, Nat.le_of_ble_eq_true rfl⟩) (gPreV (wc := [(q_this, .inr (6, [])), (q_p2, .inr (9, [.int v_p2_n, .int v_p2_m, .ref q_p2_bodies, .int w_2])), (q_p2_bodies, .inl (c 0, 40, .inl w_3))]) (q := (RX6, TX6, 0)) (ci := 6) (q0 := 0) (isC := [0, 1, 2]) hK hX hS hA hP hD rfl (by decide) rfl rfl) rfl rfl hl.1 rfl (lv_room (Nat.le_of_ble_eq_true rfl)) dX0_sayMoves_9 ⟨Nat.le_of_ble_eq_true rfl, Nat.le_of_ble_eq_true rfl⟩) (fun H locs hP hD hS => ?_)
  have hP : va_P D gcl [(q_this, .inr (6, [])), (q_p2, .inr (9, [.int v_p2_n, .int v_p2_m, .ref q_p2_bodies, .int w_6])), (q_p2_bodies, .inl (c 0, 40, .inl w_7))] H := hP
  have hD : va_D A [(q_this, .inr (6, [])), (q_p2, .inr (9, [.int v_p2_n, .int v_p2_m, .ref q_p2_bodies, .int w_6])), (q_p2_bodies, .inl (c 0, 40, .inl w_7))] := hD
  refine lv_iconst (v := 3) hx hb dX0_sayMoves_12 (by decide) ?_
  refine lv_imul hx hb dX0_sayMoves_13 ?_
  cases h
  exact gIret hF hP hD hS rfl dX0_sayMoves_14
set_option maxRecDepth 20000 in
theorem in_X10_airAs_X10 : ∀ w ∈ u_ws RX10 TX10 11, w ∈ wsX10_airAs := by decide +kernel
def f_X10_airAs (v_air : Nat → Int32) (v_p1_air : Nat → Int32) : Option ((Nat → Int32)) :=
  chc 0 0 25 25 25 <|
  nm (va_cpy v_p1_air v_air (0 : Int32).toNatClampNeg (0 : Int32).toNatClampNeg (25 : Int32).toNatClampNeg) fun w_6 =>
  some w_6

abbrev rm_X10_airAs : Room := { frames := 1, cells := 0, slots := 0, locals := 60 }
set_option maxHeartbeats 4000000 in
set_option maxRecDepth 100000 in
theorem c_X10_airAs (l : Launch) (D : va_G) (c : Nat → ClassId) (q_this q_p1 q_air q_paste q_open q_met q_line q_p1_air q_p1_paste q_p1_open q_p1_met q_p1_line : Nat) (v_rows : Int32) (v_columns : Int32) (v_holes : Int32) (v_out : Int32) (v_night : Int32) (v_inLine : Int32) (v_air : Nat → Int32) (v_p1_rows : Int32) (v_p1_columns : Int32) (v_p1_holes : Int32) (v_p1_out : Int32) (v_p1_night : Int32) (v_p1_inLine : Int32) (v_p1_air : Nat → Int32) (o_v_air : Nat → Int32) (h : f_X10_airAs v_air v_p1_air = some o_v_air) : gMV l yX10_airAs wsX10_airAs rm_X10_airAs D c [.ref q_this, .ref q_p1] [(q_this, .inr (10, [.int v_rows, .int v_columns, .ref q_air, .ref q_paste, .ref q_open, .int v_holes, .int v_out, .int v_night, .ref q_met, .ref q_line, .int v_inLine])), (q_air, .inl (c 0, 25, .inl v_air)), (q_p1, .inr (10, [.int v_p1_rows, .int v_p1_columns, .ref q_p1_air, .ref q_p1_paste, .ref q_p1_open, .int v_p1_holes, .int v_p1_out, .int v_p1_night, .ref q_p1_met, .ref q_p1_line, .int v_p1_inLine])), (q_p1_air, .inl (c 0, 25, .inl v_p1_air))] [(q_this, .inr (10, [.int v_rows, .int v_columns, .ref q_air, .ref q_paste, .ref q_open, .int v_holes, .int v_out, .int v_night, .ref q_met, .ref q_line, .int v_inLine])), (q_air, .inl (c 0, 25, .inl o_v_air)), (q_p1, .inr (10, [.int v_p1_rows, .int v_p1_columns, .ref q_p1_air, .ref q_p1_paste, .ref q_p1_open, .int v_p1_holes, .int v_p1_out, .int v_p1_night, .ref q_p1_met, .ref q_p1_line, .int v_p1_inLine])), (q_p1_air, .inl (c 0, 25, .inl v_p1_air))] := by
  refine gMV_of (cc := cX10_airAs) (maxL := 2) (rt := none) (by decide +kernel) rfl (Nat.le_of_ble_eq_true rfl) ?_
  intro p e s m below meth co A hF hK hX hP hD hA hS ls hl
  obtain ⟨hx, hb, hr, hts, hown, hlocks, hml⟩ := id hF
  have hl : lv_has ls 2 [(0, .ref q_this), (1, .ref q_p1)] := hl
  unfold f_X10_airAs at h
  refine lv_aload_n hx hb dX10_airAs_0 rfl (lv_at hl 1 rfl) ?_
  refine va_get (D := D) (ci := 10) (v := .ref q_p1_air) (C := RX10) (T := TX10) (N := 11) hx hb hts in_X10_airAs_X10 hown hK.1 hP 2 rfl rfl 2 (by decide) (hts (.fieldLink RX10 18 "PaperBubbles$Wall" "air" "[I") (List.mem_of_getElem? (i := 1) rfl)) (fun _ h9 => h9) rfl dX10_airAs_1 ?_
  refine lv_iconst (v := 0) hx hb dX10_airAs_4 (by decide) ?_
  refine lv_aload_n hx hb dX10_airAs_5 rfl (lv_at hl 0 rfl) ?_
  refine va_get (D := D) (ci := 10) (v := .ref q_air) (C := RX10) (T := TX10) (N := 11) hx hb hts in_X10_airAs_X10 hown hK.1 hP 0 rfl rfl 2 (by decide) (hts (.fieldLink RX10 18 "PaperBubbles$Wall" "air" "[I") (List.mem_of_getElem? (i := 1) rfl)) (fun _ h9 => h9) rfl dX10_airAs_6 ?_
  refine lv_iconst (v := 0) hx hb dX10_airAs_9 (by decide) ?_
  refine lv_bipush (v := 25) hx hb dX10_airAs_10 (by decide) ?_
  obtain ⟨hz_1, hz_2, hz_3, hz_4, hz_5, h⟩ := chc_ok h
  obtain ⟨w_6, ew_6, h⟩ := nm_ok h
  refine va_copyi hx hb (by rw [hml]; exact hl.1.symm) hown (hts (.methodLink RX10 44 arraycopyName) (List.mem_of_getElem? (i := 2) rfl)) (hts (.native arraycopyName) (List.mem_of_getElem? (i := 3) rfl)) (hts (.static arraycopyName) (List.mem_of_getElem? (i := 4) rfl)) (hts (.initialized "java/lang/System") (List.mem_of_getElem? (i := 5) rfl)) hK.1 hP hD hS 3 1 0 0 rfl rfl rfl rfl rfl hz_1 hz_2 hz_3 hz_4 hz_5 (fun _ _ => rfl) (Nat.le_of_ble_eq_true rfl) (by decide +kernel) dX10_airAs_12 (fun H locs hP hD hS => ?_)
  have hP : va_P D gcl [(q_this, .inr (10, [.int v_rows, .int v_columns, .ref q_air, .ref q_paste, .ref q_open, .int v_holes, .int v_out, .int v_night, .ref q_met, .ref q_line, .int v_inLine])), (q_air, .inl (c 0, 25, .inl w_6)), (q_p1, .inr (10, [.int v_p1_rows, .int v_p1_columns, .ref q_p1_air, .ref q_p1_paste, .ref q_p1_open, .int v_p1_holes, .int v_p1_out, .int v_p1_night, .ref q_p1_met, .ref q_p1_line, .int v_p1_inLine])), (q_p1_air, .inl (c 0, 25, .inl v_p1_air))] H := by subst ew_6; exact hP
  have hD : va_D A [(q_this, .inr (10, [.int v_rows, .int v_columns, .ref q_air, .ref q_paste, .ref q_open, .int v_holes, .int v_out, .int v_night, .ref q_met, .ref q_line, .int v_inLine])), (q_air, .inl (c 0, 25, .inl w_6)), (q_p1, .inr (10, [.int v_p1_rows, .int v_p1_columns, .ref q_p1_air, .ref q_p1_paste, .ref q_p1_open, .int v_p1_holes, .int v_p1_out, .int v_p1_night, .ref q_p1_met, .ref q_p1_line, .int v_p1_inLine])), (q_p1_air, .inl (c 0, 25, .inl v_p1_air))] := by subst ew_6; exact hD
  cases h
  exact gVret hF hP hD hS dX10_airAs_15
set_option maxRecDepth 20000 in
theorem in_X10_has_X10 : ∀ w ∈ u_ws RX10 TX10 11, w ∈ wsX10_has := by decide +kernel
def f_X10_has (a_1 : Int32) (v_rows : Int32) (v_columns : Int32) : Option (Int32) :=
  if a_1 < 0 then
    some 0
  else
    if (v_rows * v_columns) ≤ a_1 then
      some 0
    else
      if 25 ≤ a_1 then
        some 0
      else
        some 1

abbrev rm_X10_has : Room := { frames := 0, cells := 0, slots := 0, locals := 0 }
set_option maxHeartbeats 4000000 in
set_option maxRecDepth 100000 in
theorem c_X10_has (l : Launch) (D : va_G) (c : Nat → ClassId) (q_this q_air q_paste q_open q_met q_line : Nat) (a_1 : Int32) (v_rows : Int32) (v_columns : Int32) (v_holes : Int32) (v_out : Int32) (v_night : Int32) (v_inLine : Int32) (o_r : Int32) (h : f_X10_has a_1 v_rows v_columns = some o_r) : gMI l yX10_has wsX10_has rm_X10_has D c [.ref q_this, .int a_1] [(q_this, .inr (10, [.int v_rows, .int v_columns, .ref q_air, .ref q_paste, .ref q_open, .int v_holes, .int v_out, .int v_night, .ref q_met, .ref q_line, .int v_inLine]))] [(q_this, .inr (10, [.int v_rows, .int v_columns, .ref q_air, .ref q_paste, .ref q_open, .int v_holes, .int v_out, .int v_night, .ref q_met, .ref q_line, .int v_inLine]))] o_r := by
  refine gMI_of (cc := cX10_has) (maxL := 2) (rt := (some .boolean)) (by decide +kernel) rfl (Nat.le_of_ble_eq_true rfl) ?_
  intro p e s m below meth co A hF hK hX hP hD hA hS ls hl
  obtain ⟨hx, hb, hr, hts, hown, hlocks, hml⟩ := id hF
  have hl : lv_has ls 2 [(0, .ref q_this), (1, .int a_1)] := hl
  unfold f_X10_has at h
  refine lv_iload_n hx hb dX10_has_0 rfl (lv_at hl 1 rfl) ?_
  refine lv_if_lt (tgt := 27) hx hb dX10_has_1 (by decide) (fun c_1 => ?_) (fun c_1 => ?_)
  · have h := it_t c_1 h
    refine lv_iconst (v := 0) hx hb dX10_has_27 (by decide) ?_
    cases h
    exact gIret hF hP hD hS rfl dX10_has_28
  · have h := it_f c_1 h
    refine lv_iload_n hx hb dX10_has_4 rfl (lv_at hl 1 rfl) ?_
    refine lv_aload_n hx hb dX10_has_5 rfl (lv_at hl 0 rfl) ?_
    refine va_get (D := D) (ci := 10) (v := .int v_rows) (C := RX10) (T := TX10) (N := 11) hx hb hts in_X10_has_X10 hown hK.1 hP 0 rfl rfl 0 (by decide) (hts (.fieldLink RX10 9 "PaperBubbles$Wall" "rows" "I") (List.mem_of_getElem? (i := 1) rfl)) (fun _ h9 => h9) rfl dX10_has_6 ?_
    refine lv_aload_n hx hb dX10_has_9 rfl (lv_at hl 0 rfl) ?_
    refine va_get (D := D) (ci := 10) (v := .int v_columns) (C := RX10) (T := TX10) (N := 11) hx hb hts in_X10_has_X10 hown hK.1 hP 0 rfl rfl 1 (by decide) (hts (.fieldLink RX10 15 "PaperBubbles$Wall" "columns" "I") (List.mem_of_getElem? (i := 2) rfl)) (fun _ h9 => h9) rfl dX10_has_10 ?_
    refine lv_imul hx hb dX10_has_13 ?_
    refine lv_icmp_ge (tgt := 27) hx hb dX10_has_14 (by decide) (fun c_2 => ?_) (fun c_2 => ?_)
    · have h := it_t c_2 h
      refine lv_iconst (v := 0) hx hb dX10_has_27 (by decide) ?_
      cases h
      exact gIret hF hP hD hS rfl dX10_has_28
    · have h := it_f c_2 h
      refine lv_iload_n hx hb dX10_has_17 rfl (lv_at hl 1 rfl) ?_
      refine lv_bipush (v := 25) hx hb dX10_has_18 (by decide) ?_
      refine lv_icmp_ge (tgt := 27) hx hb dX10_has_20 (by decide) (fun c_3 => ?_) (fun c_3 => ?_)
      · have h := it_t c_3 h
        refine lv_iconst (v := 0) hx hb dX10_has_27 (by decide) ?_
        cases h
        exact gIret hF hP hD hS rfl dX10_has_28
      · have h := it_f c_3 h
        refine lv_iconst (v := 1) hx hb dX10_has_23 (by decide) ?_
        refine lv_goto (tgt := 28) hx hb dX10_has_24 (by decide) ?_
        cases h
        exact gIret hF hP hD hS rfl dX10_has_28
set_option maxRecDepth 20000 in
theorem in_X10_allAir_X10 : ∀ w ∈ u_ws RX10 TX10 11, w ∈ wsX10_allAir := by decide +kernel
def f_X10_allAir_L4 (v_rows : Int32) (v_columns : Int32) (v_air : Nat → Int32) : Nat → Int32 → Int32 → Option (Int32)
  | 0, _, _ => none
  | n + 1, x1, x2 =>
    if 25 ≤ x2 then
      some x1
    else
      kb (f_X10_has x2 v_rows v_columns) fun r_3 =>
      if r_3 = 0 then
        some x1
      else
        chi x2 25 <|
        nm (x1 + (v_air x2.toNatClampNeg)) fun t_6 =>
        nm (x2 + 1) fun t_7 =>
        f_X10_allAir_L4 v_rows v_columns v_air n t_6 t_7

def f_X10_allAir (v_rows : Int32) (v_columns : Int32) (v_air : Nat → Int32) : Option (Int32) :=
  f_X10_allAir_L4 v_rows v_columns v_air gFuel 0 0

abbrev rm_X10_allAir : Room := { frames := 1, cells := 0, slots := 0, locals := 21 }
set_option maxHeartbeats 4000000 in
set_option maxRecDepth 100000 in
theorem c_X10_allAir (l : Launch) (D : va_G) (c : Nat → ClassId) (q_this q_air q_paste q_open q_met q_line : Nat) (v_rows : Int32) (v_columns : Int32) (v_holes : Int32) (v_out : Int32) (v_night : Int32) (v_inLine : Int32) (v_air : Nat → Int32) (o_r : Int32) (h : f_X10_allAir v_rows v_columns v_air = some o_r) : gMI l yX10_allAir wsX10_allAir rm_X10_allAir D c [.ref q_this] [(q_this, .inr (10, [.int v_rows, .int v_columns, .ref q_air, .ref q_paste, .ref q_open, .int v_holes, .int v_out, .int v_night, .ref q_met, .ref q_line, .int v_inLine])), (q_air, .inl (c 0, 25, .inl v_air))] [(q_this, .inr (10, [.int v_rows, .int v_columns, .ref q_air, .ref q_paste, .ref q_open, .int v_holes, .int v_out, .int v_night, .ref q_met, .ref q_line, .int v_inLine])), (q_air, .inl (c 0, 25, .inl v_air))] o_r := by
  refine gMI_of (cc := cX10_allAir) (maxL := 3) (rt := (some .int)) (by decide +kernel) rfl (Nat.le_of_ble_eq_true rfl) ?_
  intro p e s m below meth co A hF hK hX hP hD hA hS ls hl
  obtain ⟨hx, hb, hr, hts, hown, hlocks, hml⟩ := id hF
  have hl : lv_has ls 3 [(0, .ref q_this)] := hl
  have t_L4 : ∀ (n : Nat), ∀ (x1 : Int32) (x2 : Int32) (H : Heap) (locs : List Loc), va_P D gcl [(q_this, .inr (10, [.int v_rows, .int v_columns, .ref q_air, .ref q_paste, .ref q_open, .int v_holes, .int v_out, .int v_night, .ref q_met, .ref q_line, .int v_inLine])), (q_air, .inl (c 0, 25, .inl v_air))] H → va_D A [(q_this, .inr (10, [.int v_rows, .int v_columns, .ref q_air, .ref q_paste, .ref q_open, .int v_holes, .int v_out, .int v_night, .ref q_met, .ref q_line, .int v_inLine])), (q_air, .inl (c 0, 25, .inl v_air))] → va_S A s.heap H locs → ∀ ls, lv_has ls 3 [(0, .ref q_this), (1, .int x1), (2, .int x2)] → f_X10_allAir_L4 v_rows v_columns v_air n x1 x2 = some o_r → W p l e (headSpec wsX10_allAir rm_X10_allAir).room s m [.ref q_this].toArray below meth co H locs 0 0 (gQI D [(q_this, .inr (10, [.int v_rows, .int v_columns, .ref q_air, .ref q_paste, .ref q_open, .int v_holes, .int v_out, .int v_night, .ref q_met, .ref q_line, .int v_inLine])), (q_air, .inl (c 0, 25, .inl v_air))] o_r A below [.ref q_this] s) (F0 m 4 ls []) := by
    intro n
    induction n with
    | zero => intro x1 x2 H locs hP hD hS ls hl h; exact no_ok h
    | succ n ih =>
      intro x1 x2 H locs hP hD hS ls hl h
      rw [f_X10_allAir_L4] at h
      refine lv_iload_n hx hb dX10_allAir_4 rfl (lv_at hl 2 rfl) ?_
      refine lv_bipush (v := 25) hx hb dX10_allAir_5 (by decide) ?_
      refine lv_icmp_ge (tgt := 33) hx hb dX10_allAir_7 (by decide) (fun c_1 => ?_) (fun c_1 => ?_)
      · have h := it_t c_1 h
        refine lv_iload_n hx hb dX10_allAir_33 rfl (lv_at hl 1 rfl) ?_
        cases h
        exact gIret hF hP hD hS rfl dX10_allAir_34
      · have h := it_f c_1 h
        refine lv_aload_n hx hb dX10_allAir_10 rfl (lv_at hl 0 rfl) ?_
        refine lv_iload_n hx hb dX10_allAir_11 rfl (lv_at hl 2 rfl) ?_
        obtain ⟨r_3, hc_2, h⟩ := kb_ok h
        refine gCallI (isC := [0]) (wc := [(q_this, .inr (10, [.int v_rows, .int v_columns, .ref q_air, .ref q_paste, .ref q_open, .int v_holes, .int v_out, .int v_night, .ref q_met, .ref q_line, .int v_inLine]))]) (w1 := [(q_this, .inr (10, [.int v_rows, .int v_columns, .ref q_air, .ref q_paste, .ref q_open, .int v_holes, .int v_out, .int v_night, .ref q_met, .ref q_line, .int v_inLine]))]) hP hD hS hA rfl rfl (va_runV (rm := rm_X10_has) (ws := wsX10_has) (As := [.int x2]) (rest := []) (gFix hF) (c_X10_has l D c q_this q_air q_paste q_open q_met q_line x2 v_rows v_columns v_holes v_out v_night v_inLine r_3 hc_2 H.size) (cwV 1 hts gX10_allAir_X10_has rfl rfl rfl (by decide +kernel) ⟨Nat.le_of_ble_eq_true rfl, Nat.le_of_ble_eq_true rfl⟩) (gPreV (wc := [(q_this, .inr (10, [.int v_rows, .int v_columns, .ref q_air, .ref q_paste, .ref q_open, .int v_holes, .int v_out, .int v_night, .ref q_met, .ref q_line, .int v_inLine]))]) (q := (RX10, TX10, 11)) (ci := 10) (q0 := 0) (isC := [0]) hK hX hS hA hP hD rfl (by decide) rfl rfl) rfl rfl hl.1 rfl (lv_room (Nat.le_of_ble_eq_true rfl)) dX10_allAir_12 ⟨Nat.le_of_ble_eq_true rfl, Nat.le_of_ble_eq_true rfl⟩) (fun H locs hP hD hS => ?_)
        have hP : va_P D gcl [(q_this, .inr (10, [.int v_rows, .int v_columns, .ref q_air, .ref q_paste, .ref q_open, .int v_holes, .int v_out, .int v_night, .ref q_met, .ref q_line, .int v_inLine])), (q_air, .inl (c 0, 25, .inl v_air))] H := hP
        have hD : va_D A [(q_this, .inr (10, [.int v_rows, .int v_columns, .ref q_air, .ref q_paste, .ref q_open, .int v_holes, .int v_out, .int v_night, .ref q_met, .ref q_line, .int v_inLine])), (q_air, .inl (c 0, 25, .inl v_air))] := hD
        refine lv_if_eq (tgt := 33) hx hb dX10_allAir_15 (by decide) (fun c_4 => ?_) (fun c_4 => ?_)
        · have h := it_t c_4 h
          refine lv_iload_n hx hb dX10_allAir_33 rfl (lv_at hl 1 rfl) ?_
          cases h
          exact gIret hF hP hD hS rfl dX10_allAir_34
        · have h := it_f c_4 h
          refine lv_iload_n hx hb dX10_allAir_18 rfl (lv_at hl 1 rfl) ?_
          refine lv_aload_n hx hb dX10_allAir_19 rfl (lv_at hl 0 rfl) ?_
          refine va_get (D := D) (ci := 10) (v := .ref q_air) (C := RX10) (T := TX10) (N := 11) hx hb hts in_X10_allAir_X10 hown hK.1 hP 0 rfl rfl 2 (by decide) (hts (.fieldLink RX10 18 "PaperBubbles$Wall" "air" "[I") (List.mem_of_getElem? (i := 1) rfl)) (fun _ h9 => h9) rfl dX10_allAir_20 ?_
          refine lv_iload_n hx hb dX10_allAir_23 rfl (lv_at hl 2 rfl) ?_
          obtain ⟨hi_5, h⟩ := chi_ok h
          refine va_iald hx hb hK.1 hP 1 0 rfl rfl hi_5 dX10_allAir_24 ?_
          refine lv_iadd hx hb dX10_allAir_25 ?_
          obtain ⟨t_6, et_6, h⟩ := nm_ok h
          refine gTop et_6 ?_
          refine lv_istore_n (lv' := [(1, .int t_6), (0, .ref q_this), (2, .int x2)]) hx hb dX10_allAir_26 rfl hl (by decide) rfl (fun ls hl => ?_)
          obtain ⟨t_7, et_7, h⟩ := nm_ok h
          refine lv_iinc (v := t_7) (lv' := [(2, .int t_7), (1, .int t_6), (0, .ref q_this)]) hx hb dX10_allAir_27 hl (k := 2) rfl (by rw [et_7]; rfl) (by decide) rfl (fun ls hl => ?_)
          refine lv_goto (tgt := 4) hx hb dX10_allAir_30 (by decide) ?_
          exact ih t_6 t_7 H locs hP hD hS ls (lv_sub hl [2, 1, 0] rfl) h
  unfold f_X10_allAir at h
  refine lv_iconst (v := 0) hx hb dX10_allAir_0 (by decide) ?_
  refine lv_istore_n (lv' := [(1, .int 0), (0, .ref q_this)]) hx hb dX10_allAir_1 rfl hl (by decide) rfl (fun ls hl => ?_)
  refine lv_iconst (v := 0) hx hb dX10_allAir_2 (by decide) ?_
  refine lv_istore_n (lv' := [(2, .int 0), (1, .int 0), (0, .ref q_this)]) hx hb dX10_allAir_3 rfl hl (by decide) rfl (fun ls hl => ?_)
  exact t_L4 gFuel 0 0 s.heap [] hP hD hS ls (lv_sub hl [2, 1, 0] rfl) h
set_option maxRecDepth 20000 in
theorem in_X10_columnOf_X10 : ∀ w ∈ u_ws RX10 TX10 11, w ∈ wsX10_columnOf := by decide +kernel
def f_X10_columnOf (a_1 : Int32) (v_columns : Int32) : Option (Int32) :=
  if v_columns ≤ 0 then
    some 0
  else
    chz v_columns <|
    nm (a_1 - a_1 / v_columns * v_columns) fun t_3 =>
    some t_3

abbrev rm_X10_columnOf : Room := { frames := 0, cells := 0, slots := 0, locals := 0 }
set_option maxHeartbeats 4000000 in
set_option maxRecDepth 100000 in
theorem c_X10_columnOf (l : Launch) (D : va_G) (c : Nat → ClassId) (q_this q_air q_paste q_open q_met q_line : Nat) (a_1 : Int32) (v_rows : Int32) (v_columns : Int32) (v_holes : Int32) (v_out : Int32) (v_night : Int32) (v_inLine : Int32) (o_r : Int32) (h : f_X10_columnOf a_1 v_columns = some o_r) : gMI l yX10_columnOf wsX10_columnOf rm_X10_columnOf D c [.ref q_this, .int a_1] [(q_this, .inr (10, [.int v_rows, .int v_columns, .ref q_air, .ref q_paste, .ref q_open, .int v_holes, .int v_out, .int v_night, .ref q_met, .ref q_line, .int v_inLine]))] [(q_this, .inr (10, [.int v_rows, .int v_columns, .ref q_air, .ref q_paste, .ref q_open, .int v_holes, .int v_out, .int v_night, .ref q_met, .ref q_line, .int v_inLine]))] o_r := by
  refine gMI_of (cc := cX10_columnOf) (maxL := 2) (rt := (some .int)) (by decide +kernel) rfl (Nat.le_of_ble_eq_true rfl) ?_
  intro p e s m below meth co A hF hK hX hP hD hA hS ls hl
  obtain ⟨hx, hb, hr, hts, hown, hlocks, hml⟩ := id hF
  have hl : lv_has ls 2 [(0, .ref q_this), (1, .int a_1)] := hl
  unfold f_X10_columnOf at h
  refine lv_aload_n hx hb dX10_columnOf_0 rfl (lv_at hl 0 rfl) ?_
  refine va_get (D := D) (ci := 10) (v := .int v_columns) (C := RX10) (T := TX10) (N := 11) hx hb hts in_X10_columnOf_X10 hown hK.1 hP 0 rfl rfl 1 (by decide) (hts (.fieldLink RX10 15 "PaperBubbles$Wall" "columns" "I") (List.mem_of_getElem? (i := 1) rfl)) (fun _ h9 => h9) rfl dX10_columnOf_1 ?_
  refine lv_if_le (tgt := 16) hx hb dX10_columnOf_4 (by decide) (fun c_1 => ?_) (fun c_1 => ?_)
  · have h := it_t c_1 h
    refine lv_iconst (v := 0) hx hb dX10_columnOf_16 (by decide) ?_
    cases h
    exact gIret hF hP hD hS rfl dX10_columnOf_17
  · have h := it_f c_1 h
    refine lv_iload_n hx hb dX10_columnOf_7 rfl (lv_at hl 1 rfl) ?_
    refine lv_aload_n hx hb dX10_columnOf_8 rfl (lv_at hl 0 rfl) ?_
    refine va_get (D := D) (ci := 10) (v := .int v_columns) (C := RX10) (T := TX10) (N := 11) hx hb hts in_X10_columnOf_X10 hown hK.1 hP 0 rfl rfl 1 (by decide) (hts (.fieldLink RX10 15 "PaperBubbles$Wall" "columns" "I") (List.mem_of_getElem? (i := 1) rfl)) (fun _ h9 => h9) rfl dX10_columnOf_9 ?_
    obtain ⟨hz_2, h⟩ := chz_ok h
    refine lv_irem hx hb dX10_columnOf_12 hz_2 ?_
    obtain ⟨t_3, et_3, h⟩ := nm_ok h
    refine gTop et_3 ?_
    refine lv_goto (tgt := 17) hx hb dX10_columnOf_13 (by decide) ?_
    cases h
    exact gIret hF hP hD hS rfl dX10_columnOf_17
set_option maxRecDepth 20000 in
theorem in_X10_rowOf_X10 : ∀ w ∈ u_ws RX10 TX10 11, w ∈ wsX10_rowOf := by decide +kernel
def f_X10_rowOf (a_1 : Int32) (v_columns : Int32) : Option (Int32) :=
  if v_columns ≤ 0 then
    some 0
  else
    chz v_columns <|
    nm (a_1 / v_columns) fun t_3 =>
    some t_3

abbrev rm_X10_rowOf : Room := { frames := 0, cells := 0, slots := 0, locals := 0 }
set_option maxHeartbeats 4000000 in
set_option maxRecDepth 100000 in
theorem c_X10_rowOf (l : Launch) (D : va_G) (c : Nat → ClassId) (q_this q_air q_paste q_open q_met q_line : Nat) (a_1 : Int32) (v_rows : Int32) (v_columns : Int32) (v_holes : Int32) (v_out : Int32) (v_night : Int32) (v_inLine : Int32) (o_r : Int32) (h : f_X10_rowOf a_1 v_columns = some o_r) : gMI l yX10_rowOf wsX10_rowOf rm_X10_rowOf D c [.ref q_this, .int a_1] [(q_this, .inr (10, [.int v_rows, .int v_columns, .ref q_air, .ref q_paste, .ref q_open, .int v_holes, .int v_out, .int v_night, .ref q_met, .ref q_line, .int v_inLine]))] [(q_this, .inr (10, [.int v_rows, .int v_columns, .ref q_air, .ref q_paste, .ref q_open, .int v_holes, .int v_out, .int v_night, .ref q_met, .ref q_line, .int v_inLine]))] o_r := by
  refine gMI_of (cc := cX10_rowOf) (maxL := 2) (rt := (some .int)) (by decide +kernel) rfl (Nat.le_of_ble_eq_true rfl) ?_
  intro p e s m below meth co A hF hK hX hP hD hA hS ls hl
  obtain ⟨hx, hb, hr, hts, hown, hlocks, hml⟩ := id hF
  have hl : lv_has ls 2 [(0, .ref q_this), (1, .int a_1)] := hl
  unfold f_X10_rowOf at h
  refine lv_aload_n hx hb dX10_rowOf_0 rfl (lv_at hl 0 rfl) ?_
  refine va_get (D := D) (ci := 10) (v := .int v_columns) (C := RX10) (T := TX10) (N := 11) hx hb hts in_X10_rowOf_X10 hown hK.1 hP 0 rfl rfl 1 (by decide) (hts (.fieldLink RX10 15 "PaperBubbles$Wall" "columns" "I") (List.mem_of_getElem? (i := 1) rfl)) (fun _ h9 => h9) rfl dX10_rowOf_1 ?_
  refine lv_if_le (tgt := 16) hx hb dX10_rowOf_4 (by decide) (fun c_1 => ?_) (fun c_1 => ?_)
  · have h := it_t c_1 h
    refine lv_iconst (v := 0) hx hb dX10_rowOf_16 (by decide) ?_
    cases h
    exact gIret hF hP hD hS rfl dX10_rowOf_17
  · have h := it_f c_1 h
    refine lv_iload_n hx hb dX10_rowOf_7 rfl (lv_at hl 1 rfl) ?_
    refine lv_aload_n hx hb dX10_rowOf_8 rfl (lv_at hl 0 rfl) ?_
    refine va_get (D := D) (ci := 10) (v := .int v_columns) (C := RX10) (T := TX10) (N := 11) hx hb hts in_X10_rowOf_X10 hown hK.1 hP 0 rfl rfl 1 (by decide) (hts (.fieldLink RX10 15 "PaperBubbles$Wall" "columns" "I") (List.mem_of_getElem? (i := 1) rfl)) (fun _ h9 => h9) rfl dX10_rowOf_9 ?_
    obtain ⟨hz_2, h⟩ := chz_ok h
    refine lv_idiv hx hb dX10_rowOf_12 hz_2 ?_
    obtain ⟨t_3, et_3, h⟩ := nm_ok h
    refine gTop et_3 ?_
    refine lv_goto (tgt := 17) hx hb dX10_rowOf_13 (by decide) ?_
    cases h
    exact gIret hF hP hD hS rfl dX10_rowOf_17
set_option maxRecDepth 20000 in
theorem in_X10_cellsAhead_X10 : ∀ w ∈ u_ws RX10 TX10 11, w ∈ wsX10_cellsAhead := by decide +kernel
def f_X10_cellsAhead (a_1 : Int32) (a_2 : Int32) (v_rows : Int32) (v_columns : Int32) : Option (Int32) :=
  if a_2 = 0 then
    kb (f_X10_rowOf a_1 v_columns) fun r_3 =>
    some r_3
  else
    if a_2 = 1 then
      nm (v_columns - 1) fun t_5 =>
      kb (f_X10_columnOf a_1 v_columns) fun r_7 =>
      some (t_5 - r_7)
    else
      if a_2 = 2 then
        nm (v_rows - 1) fun t_9 =>
        kb (f_X10_rowOf a_1 v_columns) fun r_11 =>
        some (t_9 - r_11)
      else
        kb (f_X10_columnOf a_1 v_columns) fun r_13 =>
        some r_13

abbrev rm_X10_cellsAhead : Room := { frames := 1, cells := 0, slots := 0, locals := 21 }
set_option maxHeartbeats 4000000 in
set_option maxRecDepth 100000 in
theorem c_X10_cellsAhead (l : Launch) (D : va_G) (c : Nat → ClassId) (q_this q_air q_paste q_open q_met q_line : Nat) (a_1 : Int32) (a_2 : Int32) (v_rows : Int32) (v_columns : Int32) (v_holes : Int32) (v_out : Int32) (v_night : Int32) (v_inLine : Int32) (o_r : Int32) (h : f_X10_cellsAhead a_1 a_2 v_rows v_columns = some o_r) : gMI l yX10_cellsAhead wsX10_cellsAhead rm_X10_cellsAhead D c [.ref q_this, .int a_1, .int a_2] [(q_this, .inr (10, [.int v_rows, .int v_columns, .ref q_air, .ref q_paste, .ref q_open, .int v_holes, .int v_out, .int v_night, .ref q_met, .ref q_line, .int v_inLine]))] [(q_this, .inr (10, [.int v_rows, .int v_columns, .ref q_air, .ref q_paste, .ref q_open, .int v_holes, .int v_out, .int v_night, .ref q_met, .ref q_line, .int v_inLine]))] o_r := by
  refine gMI_of (cc := cX10_cellsAhead) (maxL := 3) (rt := (some .int)) (by decide +kernel) rfl (Nat.le_of_ble_eq_true rfl) ?_
  intro p e s m below meth co A hF hK hX hP hD hA hS ls hl
  obtain ⟨hx, hb, hr, hts, hown, hlocks, hml⟩ := id hF
  have hl : lv_has ls 3 [(0, .ref q_this), (1, .int a_1), (2, .int a_2)] := hl
  unfold f_X10_cellsAhead at h
  refine lv_iload_n hx hb dX10_cellsAhead_0 rfl (lv_at hl 2 rfl) ?_
  by_cases c_1 : a_2 = 0
  · have h := it_t c_1 h
    refine lv_tableIn (x := a_2) (off := 27) (tgt := 28) hx hb dX10_cellsAhead_1 (by rw [c_1]; decide) (by rw [c_1]; decide) (by rw [c_1]; rfl) (by decide) ?_
    refine lv_aload_n hx hb dX10_cellsAhead_28 rfl (lv_at hl 0 rfl) ?_
    refine lv_iload_n hx hb dX10_cellsAhead_29 rfl (lv_at hl 1 rfl) ?_
    obtain ⟨r_3, hc_2, h⟩ := kb_ok h
    refine gCallI (isC := [0]) (wc := [(q_this, .inr (10, [.int v_rows, .int v_columns, .ref q_air, .ref q_paste, .ref q_open, .int v_holes, .int v_out, .int v_night, .ref q_met, .ref q_line, .int v_inLine]))]) (w1 := [(q_this, .inr (10, [.int v_rows, .int v_columns, .ref q_air, .ref q_paste, .ref q_open, .int v_holes, .int v_out, .int v_night, .ref q_met, .ref q_line, .int v_inLine]))]) hP hD hS hA rfl rfl (va_runV (rm := rm_X10_rowOf) (ws := wsX10_rowOf) (As := [.int a_1]) (rest := []) (gFix hF) (c_X10_rowOf l D c q_this q_air q_paste q_open q_met q_line a_1 v_rows v_columns v_holes v_out v_night v_inLine r_3 hc_2 s.heap.size) (cwV 1 hts gX10_cellsAhead_X10_rowOf rfl rfl rfl (by decide +kernel) ⟨Nat.le_of_ble_eq_true rfl, Nat.le_of_ble_eq_true rfl⟩) (gPreV (wc := [(q_this, .inr (10, [.int v_rows, .int v_columns, .ref q_air, .ref q_paste, .ref q_open, .int v_holes, .int v_out, .int v_night, .ref q_met, .ref q_line, .int v_inLine]))]) (q := (RX10, TX10, 11)) (ci := 10) (q0 := 0) (isC := [0]) hK hX hS hA hP hD rfl (by decide) rfl rfl) rfl rfl hl.1 rfl (lv_room (Nat.le_of_ble_eq_true rfl)) dX10_cellsAhead_30 ⟨Nat.le_of_ble_eq_true rfl, Nat.le_of_ble_eq_true rfl⟩) (fun H locs hP hD hS => ?_)
    have hP : va_P D gcl [(q_this, .inr (10, [.int v_rows, .int v_columns, .ref q_air, .ref q_paste, .ref q_open, .int v_holes, .int v_out, .int v_night, .ref q_met, .ref q_line, .int v_inLine]))] H := hP
    have hD : va_D A [(q_this, .inr (10, [.int v_rows, .int v_columns, .ref q_air, .ref q_paste, .ref q_open, .int v_holes, .int v_out, .int v_night, .ref q_met, .ref q_line, .int v_inLine]))] := hD
    cases h
    exact gIret hF hP hD hS rfl dX10_cellsAhead_33
  · have h := it_f c_1 h
    by_cases c_4 : a_2 = 1
    · have h := it_t c_4 h
      refine lv_tableIn (x := a_2) (off := 33) (tgt := 34) hx hb dX10_cellsAhead_1 (by rw [c_4]; decide) (by rw [c_4]; decide) (by rw [c_4]; rfl) (by decide) ?_
      refine lv_aload_n hx hb dX10_cellsAhead_34 rfl (lv_at hl 0 rfl) ?_
      refine va_get (D := D) (ci := 10) (v := .int v_columns) (C := RX10) (T := TX10) (N := 11) hx hb hts in_X10_cellsAhead_X10 hown hK.1 hP 0 rfl rfl 1 (by decide) (hts (.fieldLink RX10 15 "PaperBubbles$Wall" "columns" "I") (List.mem_of_getElem? (i := 1) rfl)) (fun _ h9 => h9) rfl dX10_cellsAhead_35 ?_
      refine lv_iconst (v := 1) hx hb dX10_cellsAhead_38 (by decide) ?_
      refine lv_isub hx hb dX10_cellsAhead_39 ?_
      obtain ⟨t_5, et_5, h⟩ := nm_ok h
      refine gTop et_5 ?_
      refine lv_aload_n hx hb dX10_cellsAhead_40 rfl (lv_at hl 0 rfl) ?_
      refine lv_iload_n hx hb dX10_cellsAhead_41 rfl (lv_at hl 1 rfl) ?_
      obtain ⟨r_7, hc_6, h⟩ := kb_ok h
      refine gCallI (isC := [0]) (wc := [(q_this, .inr (10, [.int v_rows, .int v_columns, .ref q_air, .ref q_paste, .ref q_open, .int v_holes, .int v_out, .int v_night, .ref q_met, .ref q_line, .int v_inLine]))]) (w1 := [(q_this, .inr (10, [.int v_rows, .int v_columns, .ref q_air, .ref q_paste, .ref q_open, .int v_holes, .int v_out, .int v_night, .ref q_met, .ref q_line, .int v_inLine]))]) hP hD hS hA rfl rfl (va_runV (rm := rm_X10_columnOf) (ws := wsX10_columnOf) (As := [.int a_1]) (rest := [.int t_5]) (gFix hF) (c_X10_columnOf l D c q_this q_air q_paste q_open q_met q_line a_1 v_rows v_columns v_holes v_out v_night v_inLine r_7 hc_6 s.heap.size) (cwV 1 hts gX10_cellsAhead_X10_columnOf rfl rfl rfl (by decide +kernel) ⟨Nat.le_of_ble_eq_true rfl, Nat.le_of_ble_eq_true rfl⟩) (gPreV (wc := [(q_this, .inr (10, [.int v_rows, .int v_columns, .ref q_air, .ref q_paste, .ref q_open, .int v_holes, .int v_out, .int v_night, .ref q_met, .ref q_line, .int v_inLine]))]) (q := (RX10, TX10, 11)) (ci := 10) (q0 := 0) (isC := [0]) hK hX hS hA hP hD rfl (by decide) rfl rfl) rfl rfl hl.1 rfl (lv_room (Nat.le_of_ble_eq_true rfl)) dX10_cellsAhead_42 ⟨Nat.le_of_ble_eq_true rfl, Nat.le_of_ble_eq_true rfl⟩) (fun H locs hP hD hS => ?_)
      have hP : va_P D gcl [(q_this, .inr (10, [.int v_rows, .int v_columns, .ref q_air, .ref q_paste, .ref q_open, .int v_holes, .int v_out, .int v_night, .ref q_met, .ref q_line, .int v_inLine]))] H := hP
      have hD : va_D A [(q_this, .inr (10, [.int v_rows, .int v_columns, .ref q_air, .ref q_paste, .ref q_open, .int v_holes, .int v_out, .int v_night, .ref q_met, .ref q_line, .int v_inLine]))] := hD
      refine lv_isub hx hb dX10_cellsAhead_45 ?_
      cases h
      exact gIret hF hP hD hS rfl dX10_cellsAhead_46
    · have h := it_f c_4 h
      by_cases c_8 : a_2 = 2
      · have h := it_t c_8 h
        refine lv_tableIn (x := a_2) (off := 46) (tgt := 47) hx hb dX10_cellsAhead_1 (by rw [c_8]; decide) (by rw [c_8]; decide) (by rw [c_8]; rfl) (by decide) ?_
        refine lv_aload_n hx hb dX10_cellsAhead_47 rfl (lv_at hl 0 rfl) ?_
        refine va_get (D := D) (ci := 10) (v := .int v_rows) (C := RX10) (T := TX10) (N := 11) hx hb hts in_X10_cellsAhead_X10 hown hK.1 hP 0 rfl rfl 0 (by decide) (hts (.fieldLink RX10 9 "PaperBubbles$Wall" "rows" "I") (List.mem_of_getElem? (i := 2) rfl)) (fun _ h9 => h9) rfl dX10_cellsAhead_48 ?_
        refine lv_iconst (v := 1) hx hb dX10_cellsAhead_51 (by decide) ?_
        refine lv_isub hx hb dX10_cellsAhead_52 ?_
        obtain ⟨t_9, et_9, h⟩ := nm_ok h
        refine gTop et_9 ?_
        refine lv_aload_n hx hb dX10_cellsAhead_53 rfl (lv_at hl 0 rfl) ?_
        refine lv_iload_n hx hb dX10_cellsAhead_54 rfl (lv_at hl 1 rfl) ?_
        obtain ⟨r_11, hc_10, h⟩ := kb_ok h
        refine gCallI (isC := [0]) (wc := [(q_this, .inr (10, [.int v_rows, .int v_columns, .ref q_air, .ref q_paste, .ref q_open, .int v_holes, .int v_out, .int v_night, .ref q_met, .ref q_line, .int v_inLine]))]) (w1 := [(q_this, .inr (10, [.int v_rows, .int v_columns, .ref q_air, .ref q_paste, .ref q_open, .int v_holes, .int v_out, .int v_night, .ref q_met, .ref q_line, .int v_inLine]))]) hP hD hS hA rfl rfl (va_runV (rm := rm_X10_rowOf) (ws := wsX10_rowOf) (As := [.int a_1]) (rest := [.int t_9]) (gFix hF) (c_X10_rowOf l D c q_this q_air q_paste q_open q_met q_line a_1 v_rows v_columns v_holes v_out v_night v_inLine r_11 hc_10 s.heap.size) (cwV 1 hts gX10_cellsAhead_X10_rowOf rfl rfl rfl (by decide +kernel) ⟨Nat.le_of_ble_eq_true rfl, Nat.le_of_ble_eq_true rfl⟩) (gPreV (wc := [(q_this, .inr (10, [.int v_rows, .int v_columns, .ref q_air, .ref q_paste, .ref q_open, .int v_holes, .int v_out, .int v_night, .ref q_met, .ref q_line, .int v_inLine]))]) (q := (RX10, TX10, 11)) (ci := 10) (q0 := 0) (isC := [0]) hK hX hS hA hP hD rfl (by decide) rfl rfl) rfl rfl hl.1 rfl (lv_room (Nat.le_of_ble_eq_true rfl)) dX10_cellsAhead_55 ⟨Nat.le_of_ble_eq_true rfl, Nat.le_of_ble_eq_true rfl⟩) (fun H locs hP hD hS => ?_)
        have hP : va_P D gcl [(q_this, .inr (10, [.int v_rows, .int v_columns, .ref q_air, .ref q_paste, .ref q_open, .int v_holes, .int v_out, .int v_night, .ref q_met, .ref q_line, .int v_inLine]))] H := hP
        have hD : va_D A [(q_this, .inr (10, [.int v_rows, .int v_columns, .ref q_air, .ref q_paste, .ref q_open, .int v_holes, .int v_out, .int v_night, .ref q_met, .ref q_line, .int v_inLine]))] := hD
        refine lv_isub hx hb dX10_cellsAhead_58 ?_
        cases h
        exact gIret hF hP hD hS rfl dX10_cellsAhead_59
      · have h := it_f c_8 h
        refine lv_tableOut (x := a_2) (tgt := 60) hx hb dX10_cellsAhead_1 (by have q0 := gNe (z := 0) (by decide) c_1; have q1 := gNe (z := 1) (by decide) c_4; have q2 := gNe (z := 2) (by decide) c_8; omega) (by decide) ?_
        refine lv_aload_n hx hb dX10_cellsAhead_60 rfl (lv_at hl 0 rfl) ?_
        refine lv_iload_n hx hb dX10_cellsAhead_61 rfl (lv_at hl 1 rfl) ?_
        obtain ⟨r_13, hc_12, h⟩ := kb_ok h
        refine gCallI (isC := [0]) (wc := [(q_this, .inr (10, [.int v_rows, .int v_columns, .ref q_air, .ref q_paste, .ref q_open, .int v_holes, .int v_out, .int v_night, .ref q_met, .ref q_line, .int v_inLine]))]) (w1 := [(q_this, .inr (10, [.int v_rows, .int v_columns, .ref q_air, .ref q_paste, .ref q_open, .int v_holes, .int v_out, .int v_night, .ref q_met, .ref q_line, .int v_inLine]))]) hP hD hS hA rfl rfl (va_runV (rm := rm_X10_columnOf) (ws := wsX10_columnOf) (As := [.int a_1]) (rest := []) (gFix hF) (c_X10_columnOf l D c q_this q_air q_paste q_open q_met q_line a_1 v_rows v_columns v_holes v_out v_night v_inLine r_13 hc_12 s.heap.size) (cwV 1 hts gX10_cellsAhead_X10_columnOf rfl rfl rfl (by decide +kernel) ⟨Nat.le_of_ble_eq_true rfl, Nat.le_of_ble_eq_true rfl⟩) (gPreV (wc := [(q_this, .inr (10, [.int v_rows, .int v_columns, .ref q_air, .ref q_paste, .ref q_open, .int v_holes, .int v_out, .int v_night, .ref q_met, .ref q_line, .int v_inLine]))]) (q := (RX10, TX10, 11)) (ci := 10) (q0 := 0) (isC := [0]) hK hX hS hA hP hD rfl (by decide) rfl rfl) rfl rfl hl.1 rfl (lv_room (Nat.le_of_ble_eq_true rfl)) dX10_cellsAhead_62 ⟨Nat.le_of_ble_eq_true rfl, Nat.le_of_ble_eq_true rfl⟩) (fun H locs hP hD hS => ?_)
        have hP : va_P D gcl [(q_this, .inr (10, [.int v_rows, .int v_columns, .ref q_air, .ref q_paste, .ref q_open, .int v_holes, .int v_out, .int v_night, .ref q_met, .ref q_line, .int v_inLine]))] H := hP
        have hD : va_D A [(q_this, .inr (10, [.int v_rows, .int v_columns, .ref q_air, .ref q_paste, .ref q_open, .int v_holes, .int v_out, .int v_night, .ref q_met, .ref q_line, .int v_inLine]))] := hD
        cases h
        exact gIret hF hP hD hS rfl dX10_cellsAhead_65
set_option maxRecDepth 20000 in
theorem in_X10_beside_X10 : ∀ w ∈ u_ws RX10 TX10 11, w ∈ wsX10_beside := by decide +kernel
def f_X10_beside (a_1 : Int32) (a_2 : Int32) (v_rows : Int32) (v_columns : Int32) : Option (Int32) :=
  kb (f_X10_cellsAhead a_1 a_2 v_rows v_columns) fun r_2 =>
  if 0 < r_2 then
    if a_2 = 0 then
      some (a_1 - v_columns)
    else
      if a_2 = 1 then
        some (a_1 + 1)
      else
        if a_2 = 2 then
          some (a_1 + v_columns)
        else
          some (a_1 - 1)
  else
    some (-1)

abbrev rm_X10_beside : Room := { frames := 2, cells := 0, slots := 0, locals := 43 }
set_option maxHeartbeats 4000000 in
set_option maxRecDepth 100000 in
theorem c_X10_beside (l : Launch) (D : va_G) (c : Nat → ClassId) (q_this q_air q_paste q_open q_met q_line : Nat) (a_1 : Int32) (a_2 : Int32) (v_rows : Int32) (v_columns : Int32) (v_holes : Int32) (v_out : Int32) (v_night : Int32) (v_inLine : Int32) (o_r : Int32) (h : f_X10_beside a_1 a_2 v_rows v_columns = some o_r) : gMI l yX10_beside wsX10_beside rm_X10_beside D c [.ref q_this, .int a_1, .int a_2] [(q_this, .inr (10, [.int v_rows, .int v_columns, .ref q_air, .ref q_paste, .ref q_open, .int v_holes, .int v_out, .int v_night, .ref q_met, .ref q_line, .int v_inLine]))] [(q_this, .inr (10, [.int v_rows, .int v_columns, .ref q_air, .ref q_paste, .ref q_open, .int v_holes, .int v_out, .int v_night, .ref q_met, .ref q_line, .int v_inLine]))] o_r := by
  refine gMI_of (cc := cX10_beside) (maxL := 3) (rt := (some .int)) (by decide +kernel) rfl (Nat.le_of_ble_eq_true rfl) ?_
  intro p e s m below meth co A hF hK hX hP hD hA hS ls hl
  obtain ⟨hx, hb, hr, hts, hown, hlocks, hml⟩ := id hF
  have hl : lv_has ls 3 [(0, .ref q_this), (1, .int a_1), (2, .int a_2)] := hl
  unfold f_X10_beside at h
  refine lv_aload_n hx hb dX10_beside_0 rfl (lv_at hl 0 rfl) ?_
  refine lv_iload_n hx hb dX10_beside_1 rfl (lv_at hl 1 rfl) ?_
  refine lv_iload_n hx hb dX10_beside_2 rfl (lv_at hl 2 rfl) ?_
  obtain ⟨r_2, hc_1, h⟩ := kb_ok h
  refine gCallI (isC := [0]) (wc := [(q_this, .inr (10, [.int v_rows, .int v_columns, .ref q_air, .ref q_paste, .ref q_open, .int v_holes, .int v_out, .int v_night, .ref q_met, .ref q_line, .int v_inLine]))]) (w1 := [(q_this, .inr (10, [.int v_rows, .int v_columns, .ref q_air, .ref q_paste, .ref q_open, .int v_holes, .int v_out, .int v_night, .ref q_met, .ref q_line, .int v_inLine]))]) hP hD hS hA rfl rfl (va_runV (rm := rm_X10_cellsAhead) (ws := wsX10_cellsAhead) (As := [.int a_1, .int a_2]) (rest := []) (gFix hF) (c_X10_cellsAhead l D c q_this q_air q_paste q_open q_met q_line a_1 a_2 v_rows v_columns v_holes v_out v_night v_inLine r_2 hc_1 s.heap.size) (cwV 2 hts gX10_beside_X10_cellsAhead rfl rfl rfl (by decide +kernel) ⟨Nat.le_of_ble_eq_true rfl, Nat.le_of_ble_eq_true rfl⟩) (gPreV (wc := [(q_this, .inr (10, [.int v_rows, .int v_columns, .ref q_air, .ref q_paste, .ref q_open, .int v_holes, .int v_out, .int v_night, .ref q_met, .ref q_line, .int v_inLine]))]) (q := (RX10, TX10, 11)) (ci := 10) (q0 := 0) (isC := [0]) hK hX hS hA hP hD rfl (by decide) rfl rfl) rfl rfl hl.1 rfl (lv_room (Nat.le_of_ble_eq_true rfl)) dX10_beside_3 ⟨Nat.le_of_ble_eq_true rfl, Nat.le_of_ble_eq_true rfl⟩) (fun H locs hP hD hS => ?_)
  have hP : va_P D gcl [(q_this, .inr (10, [.int v_rows, .int v_columns, .ref q_air, .ref q_paste, .ref q_open, .int v_holes, .int v_out, .int v_night, .ref q_met, .ref q_line, .int v_inLine]))] H := hP
  have hD : va_D A [(q_this, .inr (10, [.int v_rows, .int v_columns, .ref q_air, .ref q_paste, .ref q_open, .int v_holes, .int v_out, .int v_night, .ref q_met, .ref q_line, .int v_inLine]))] := hD
  refine lv_if_gt (tgt := 11) hx hb dX10_beside_6 (by decide) (fun c_3 => ?_) (fun c_3 => ?_)
  · have h := it_t c_3 h
    refine lv_iload_n hx hb dX10_beside_11 rfl (lv_at hl 2 rfl) ?_
    by_cases c_4 : a_2 = 0
    · have h := it_t c_4 h
      refine lv_tableIn (x := a_2) (off := 28) (tgt := 40) hx hb dX10_beside_12 (by rw [c_4]; decide) (by rw [c_4]; decide) (by rw [c_4]; rfl) (by decide) ?_
      refine lv_iload_n hx hb dX10_beside_40 rfl (lv_at hl 1 rfl) ?_
      refine lv_aload_n hx hb dX10_beside_41 rfl (lv_at hl 0 rfl) ?_
      refine va_get (D := D) (ci := 10) (v := .int v_columns) (C := RX10) (T := TX10) (N := 11) hx hb hts in_X10_beside_X10 hown hK.1 hP 0 rfl rfl 1 (by decide) (hts (.fieldLink RX10 15 "PaperBubbles$Wall" "columns" "I") (List.mem_of_getElem? (i := 1) rfl)) (fun _ h9 => h9) rfl dX10_beside_42 ?_
      refine lv_isub hx hb dX10_beside_45 ?_
      cases h
      exact gIret hF hP hD hS rfl dX10_beside_46
    · have h := it_f c_4 h
      by_cases c_5 : a_2 = 1
      · have h := it_t c_5 h
        refine lv_tableIn (x := a_2) (off := 35) (tgt := 47) hx hb dX10_beside_12 (by rw [c_5]; decide) (by rw [c_5]; decide) (by rw [c_5]; rfl) (by decide) ?_
        refine lv_iload_n hx hb dX10_beside_47 rfl (lv_at hl 1 rfl) ?_
        refine lv_iconst (v := 1) hx hb dX10_beside_48 (by decide) ?_
        refine lv_iadd hx hb dX10_beside_49 ?_
        cases h
        exact gIret hF hP hD hS rfl dX10_beside_50
      · have h := it_f c_5 h
        by_cases c_6 : a_2 = 2
        · have h := it_t c_6 h
          refine lv_tableIn (x := a_2) (off := 39) (tgt := 51) hx hb dX10_beside_12 (by rw [c_6]; decide) (by rw [c_6]; decide) (by rw [c_6]; rfl) (by decide) ?_
          refine lv_iload_n hx hb dX10_beside_51 rfl (lv_at hl 1 rfl) ?_
          refine lv_aload_n hx hb dX10_beside_52 rfl (lv_at hl 0 rfl) ?_
          refine va_get (D := D) (ci := 10) (v := .int v_columns) (C := RX10) (T := TX10) (N := 11) hx hb hts in_X10_beside_X10 hown hK.1 hP 0 rfl rfl 1 (by decide) (hts (.fieldLink RX10 15 "PaperBubbles$Wall" "columns" "I") (List.mem_of_getElem? (i := 1) rfl)) (fun _ h9 => h9) rfl dX10_beside_53 ?_
          refine lv_iadd hx hb dX10_beside_56 ?_
          cases h
          exact gIret hF hP hD hS rfl dX10_beside_57
        · have h := it_f c_6 h
          refine lv_tableOut (x := a_2) (tgt := 58) hx hb dX10_beside_12 (by have q0 := gNe (z := 0) (by decide) c_4; have q1 := gNe (z := 1) (by decide) c_5; have q2 := gNe (z := 2) (by decide) c_6; omega) (by decide) ?_
          refine lv_iload_n hx hb dX10_beside_58 rfl (lv_at hl 1 rfl) ?_
          refine lv_iconst (v := 1) hx hb dX10_beside_59 (by decide) ?_
          refine lv_isub hx hb dX10_beside_60 ?_
          cases h
          exact gIret hF hP hD hS rfl dX10_beside_61
  · have h := it_f c_3 h
    refine lv_iconst (v := (-1)) hx hb dX10_beside_9 (by decide) ?_
    cases h
    exact gIret hF hP hD hS rfl dX10_beside_10
set_option maxRecDepth 20000 in
theorem in_X10_meet_X10 : ∀ w ∈ u_ws RX10 TX10 11, w ∈ wsX10_meet := by decide +kernel
def f_X10_meet (a_1 : Int32) (v_rows : Int32) (v_columns : Int32) (v_inLine : Int32) (v_air : Nat → Int32) (v_line : Nat → Int32) (v_met : Nat → Int32) : Option (Int32 × (Nat → Int32) × (Nat → Int32)) :=
  kb (f_X10_has a_1 v_rows v_columns) fun r_2 =>
  if r_2 = 0 then
    some (v_inLine, v_line, v_met)
  else
    chi a_1 25 <|
    if (v_air a_1.toNatClampNeg) ≤ 0 then
      some (v_inLine, v_line, v_met)
    else
      chi a_1 25 <|
      if (v_met a_1.toNatClampNeg) = 0 then
        if 25 ≤ v_inLine then
          some (v_inLine, v_line, v_met)
        else
          chi a_1 25 <|
          nm (upd v_met a_1.toNatClampNeg 1) fun w_10 =>
          chi v_inLine 25 <|
          nm (upd v_line v_inLine.toNatClampNeg a_1) fun w_12 =>
          nm (v_inLine + 1) fun t_13 =>
          some (t_13, w_12, w_10)
      else
        some (v_inLine, v_line, v_met)

abbrev rm_X10_meet : Room := { frames := 1, cells := 0, slots := 0, locals := 21 }
set_option maxHeartbeats 4000000 in
set_option maxRecDepth 100000 in
theorem c_X10_meet (l : Launch) (D : va_G) (c : Nat → ClassId) (q_this q_air q_paste q_open q_met q_line : Nat) (a_1 : Int32) (v_rows : Int32) (v_columns : Int32) (v_holes : Int32) (v_out : Int32) (v_night : Int32) (v_inLine : Int32) (v_air : Nat → Int32) (v_line : Nat → Int32) (v_met : Nat → Int32) (o_v_inLine : Int32) (o_v_line : Nat → Int32) (o_v_met : Nat → Int32) (h : f_X10_meet a_1 v_rows v_columns v_inLine v_air v_line v_met = some (o_v_inLine, o_v_line, o_v_met)) : gMV l yX10_meet wsX10_meet rm_X10_meet D c [.ref q_this, .int a_1] [(q_this, .inr (10, [.int v_rows, .int v_columns, .ref q_air, .ref q_paste, .ref q_open, .int v_holes, .int v_out, .int v_night, .ref q_met, .ref q_line, .int v_inLine])), (q_air, .inl (c 0, 25, .inl v_air)), (q_line, .inl (c 0, 25, .inl v_line)), (q_met, .inl (c 0, 25, .inl v_met))] [(q_this, .inr (10, [.int v_rows, .int v_columns, .ref q_air, .ref q_paste, .ref q_open, .int v_holes, .int v_out, .int v_night, .ref q_met, .ref q_line, .int o_v_inLine])), (q_air, .inl (c 0, 25, .inl v_air)), (q_line, .inl (c 0, 25, .inl o_v_line)), (q_met, .inl (c 0, 25, .inl o_v_met))] := by
  refine gMV_of (cc := cX10_meet) (maxL := 2) (rt := none) (by decide +kernel) rfl (Nat.le_of_ble_eq_true rfl) ?_
  intro p e s m below meth co A hF hK hX hP hD hA hS ls hl
  obtain ⟨hx, hb, hr, hts, hown, hlocks, hml⟩ := id hF
  have hl : lv_has ls 2 [(0, .ref q_this), (1, .int a_1)] := hl
  unfold f_X10_meet at h
  refine lv_aload_n hx hb dX10_meet_0 rfl (lv_at hl 0 rfl) ?_
  refine lv_iload_n hx hb dX10_meet_1 rfl (lv_at hl 1 rfl) ?_
  obtain ⟨r_2, hc_1, h⟩ := kb_ok h
  refine gCallI (isC := [0]) (wc := [(q_this, .inr (10, [.int v_rows, .int v_columns, .ref q_air, .ref q_paste, .ref q_open, .int v_holes, .int v_out, .int v_night, .ref q_met, .ref q_line, .int v_inLine]))]) (w1 := [(q_this, .inr (10, [.int v_rows, .int v_columns, .ref q_air, .ref q_paste, .ref q_open, .int v_holes, .int v_out, .int v_night, .ref q_met, .ref q_line, .int v_inLine]))]) hP hD hS hA rfl rfl (va_runV (rm := rm_X10_has) (ws := wsX10_has) (As := [.int a_1]) (rest := []) (gFix hF) (c_X10_has l D c q_this q_air q_paste q_open q_met q_line a_1 v_rows v_columns v_holes v_out v_night v_inLine r_2 hc_1 s.heap.size) (cwV 1 hts gX10_meet_X10_has rfl rfl rfl (by decide +kernel) ⟨Nat.le_of_ble_eq_true rfl, Nat.le_of_ble_eq_true rfl⟩) (gPreV (wc := [(q_this, .inr (10, [.int v_rows, .int v_columns, .ref q_air, .ref q_paste, .ref q_open, .int v_holes, .int v_out, .int v_night, .ref q_met, .ref q_line, .int v_inLine]))]) (q := (RX10, TX10, 11)) (ci := 10) (q0 := 0) (isC := [0]) hK hX hS hA hP hD rfl (by decide) rfl rfl) rfl rfl hl.1 rfl (lv_room (Nat.le_of_ble_eq_true rfl)) dX10_meet_2 ⟨Nat.le_of_ble_eq_true rfl, Nat.le_of_ble_eq_true rfl⟩) (fun H locs hP hD hS => ?_)
  have hP : va_P D gcl [(q_this, .inr (10, [.int v_rows, .int v_columns, .ref q_air, .ref q_paste, .ref q_open, .int v_holes, .int v_out, .int v_night, .ref q_met, .ref q_line, .int v_inLine])), (q_air, .inl (c 0, 25, .inl v_air)), (q_line, .inl (c 0, 25, .inl v_line)), (q_met, .inl (c 0, 25, .inl v_met))] H := hP
  have hD : va_D A [(q_this, .inr (10, [.int v_rows, .int v_columns, .ref q_air, .ref q_paste, .ref q_open, .int v_holes, .int v_out, .int v_night, .ref q_met, .ref q_line, .int v_inLine])), (q_air, .inl (c 0, 25, .inl v_air)), (q_line, .inl (c 0, 25, .inl v_line)), (q_met, .inl (c 0, 25, .inl v_met))] := hD
  refine lv_if_eq (tgt := 62) hx hb dX10_meet_5 (by decide) (fun c_3 => ?_) (fun c_3 => ?_)
  · have h := it_t c_3 h
    cases h
    exact gVret hF hP hD hS dX10_meet_62
  · have h := it_f c_3 h
    refine lv_aload_n hx hb dX10_meet_8 rfl (lv_at hl 0 rfl) ?_
    refine va_get (D := D) (ci := 10) (v := .ref q_air) (C := RX10) (T := TX10) (N := 11) hx hb hts in_X10_meet_X10 hown hK.1 hP 0 rfl rfl 2 (by decide) (hts (.fieldLink RX10 18 "PaperBubbles$Wall" "air" "[I") (List.mem_of_getElem? (i := 1) rfl)) (fun _ h9 => h9) rfl dX10_meet_9 ?_
    refine lv_iload_n hx hb dX10_meet_12 rfl (lv_at hl 1 rfl) ?_
    obtain ⟨hi_4, h⟩ := chi_ok h
    refine va_iald hx hb hK.1 hP 1 0 rfl rfl hi_4 dX10_meet_13 ?_
    refine lv_if_le (tgt := 62) hx hb dX10_meet_14 (by decide) (fun c_5 => ?_) (fun c_5 => ?_)
    · have h := it_t c_5 h
      cases h
      exact gVret hF hP hD hS dX10_meet_62
    · have h := it_f c_5 h
      refine lv_aload_n hx hb dX10_meet_17 rfl (lv_at hl 0 rfl) ?_
      refine va_get (D := D) (ci := 10) (v := .ref q_met) (C := RX10) (T := TX10) (N := 11) hx hb hts in_X10_meet_X10 hown hK.1 hP 0 rfl rfl 8 (by decide) (hts (.fieldLink RX10 28 "PaperBubbles$Wall" "met" "[I") (List.mem_of_getElem? (i := 2) rfl)) (fun _ h9 => h9) rfl dX10_meet_18 ?_
      refine lv_iload_n hx hb dX10_meet_21 rfl (lv_at hl 1 rfl) ?_
      obtain ⟨hi_6, h⟩ := chi_ok h
      refine va_iald hx hb hK.1 hP 3 0 rfl rfl hi_6 dX10_meet_22 ?_
      refine lv_if_ne (tgt := 62) hx hb dX10_meet_23 (by decide) (fun c_7 => ?_) (fun c_7 => ?_)
      · have h := it_f c_7 h
        cases h
        exact gVret hF hP hD hS dX10_meet_62
      · have h := it_t c_7 h
        refine lv_aload_n hx hb dX10_meet_26 rfl (lv_at hl 0 rfl) ?_
        refine va_get (D := D) (ci := 10) (v := .int v_inLine) (C := RX10) (T := TX10) (N := 11) hx hb hts in_X10_meet_X10 hown hK.1 hP 0 rfl rfl 10 (by decide) (hts (.fieldLink RX10 123 "PaperBubbles$Wall" "inLine" "I") (List.mem_of_getElem? (i := 3) rfl)) (fun _ h9 => h9) rfl dX10_meet_27 ?_
        refine lv_bipush (v := 25) hx hb dX10_meet_30 (by decide) ?_
        refine lv_icmp_ge (tgt := 62) hx hb dX10_meet_32 (by decide) (fun c_8 => ?_) (fun c_8 => ?_)
        · have h := it_t c_8 h
          cases h
          exact gVret hF hP hD hS dX10_meet_62
        · have h := it_f c_8 h
          refine lv_aload_n hx hb dX10_meet_35 rfl (lv_at hl 0 rfl) ?_
          refine va_get (D := D) (ci := 10) (v := .ref q_met) (C := RX10) (T := TX10) (N := 11) hx hb hts in_X10_meet_X10 hown hK.1 hP 0 rfl rfl 8 (by decide) (hts (.fieldLink RX10 28 "PaperBubbles$Wall" "met" "[I") (List.mem_of_getElem? (i := 2) rfl)) (fun _ h9 => h9) rfl dX10_meet_36 ?_
          refine lv_iload_n hx hb dX10_meet_39 rfl (lv_at hl 1 rfl) ?_
          refine lv_iconst (v := 1) hx hb dX10_meet_40 (by decide) ?_
          obtain ⟨hi_9, h⟩ := chi_ok h
          obtain ⟨w_10, ew_10, h⟩ := nm_ok h
          refine va_iast hx hb hK.1 hP hD hS 3 0 rfl rfl hi_9 dX10_meet_41 (fun H locs hP hD hS => ?_)
          have hP : va_P D gcl [(q_this, .inr (10, [.int v_rows, .int v_columns, .ref q_air, .ref q_paste, .ref q_open, .int v_holes, .int v_out, .int v_night, .ref q_met, .ref q_line, .int v_inLine])), (q_air, .inl (c 0, 25, .inl v_air)), (q_line, .inl (c 0, 25, .inl v_line)), (q_met, .inl (c 0, 25, .inl w_10))] H := by subst ew_10; exact hP
          have hD : va_D A [(q_this, .inr (10, [.int v_rows, .int v_columns, .ref q_air, .ref q_paste, .ref q_open, .int v_holes, .int v_out, .int v_night, .ref q_met, .ref q_line, .int v_inLine])), (q_air, .inl (c 0, 25, .inl v_air)), (q_line, .inl (c 0, 25, .inl v_line)), (q_met, .inl (c 0, 25, .inl w_10))] := by subst ew_10; exact hD
          refine lv_aload_n hx hb dX10_meet_42 rfl (lv_at hl 0 rfl) ?_
          refine va_get (D := D) (ci := 10) (v := .ref q_line) (C := RX10) (T := TX10) (N := 11) hx hb hts in_X10_meet_X10 hown hK.1 hP 0 rfl rfl 9 (by decide) (hts (.fieldLink RX10 31 "PaperBubbles$Wall" "line" "[I") (List.mem_of_getElem? (i := 4) rfl)) (fun _ h9 => h9) rfl dX10_meet_43 ?_
          refine lv_aload_n hx hb dX10_meet_46 rfl (lv_at hl 0 rfl) ?_
          refine va_get (D := D) (ci := 10) (v := .int v_inLine) (C := RX10) (T := TX10) (N := 11) hx hb hts in_X10_meet_X10 hown hK.1 hP 0 rfl rfl 10 (by decide) (hts (.fieldLink RX10 123 "PaperBubbles$Wall" "inLine" "I") (List.mem_of_getElem? (i := 3) rfl)) (fun _ h9 => h9) rfl dX10_meet_47 ?_
          refine lv_iload_n hx hb dX10_meet_50 rfl (lv_at hl 1 rfl) ?_
          obtain ⟨hi_11, h⟩ := chi_ok h
          obtain ⟨w_12, ew_12, h⟩ := nm_ok h
          refine va_iast hx hb hK.1 hP hD hS 2 0 rfl rfl hi_11 dX10_meet_51 (fun H locs hP hD hS => ?_)
          have hP : va_P D gcl [(q_this, .inr (10, [.int v_rows, .int v_columns, .ref q_air, .ref q_paste, .ref q_open, .int v_holes, .int v_out, .int v_night, .ref q_met, .ref q_line, .int v_inLine])), (q_air, .inl (c 0, 25, .inl v_air)), (q_line, .inl (c 0, 25, .inl w_12)), (q_met, .inl (c 0, 25, .inl w_10))] H := by subst ew_12; exact hP
          have hD : va_D A [(q_this, .inr (10, [.int v_rows, .int v_columns, .ref q_air, .ref q_paste, .ref q_open, .int v_holes, .int v_out, .int v_night, .ref q_met, .ref q_line, .int v_inLine])), (q_air, .inl (c 0, 25, .inl v_air)), (q_line, .inl (c 0, 25, .inl w_12)), (q_met, .inl (c 0, 25, .inl w_10))] := by subst ew_12; exact hD
          refine lv_aload_n hx hb dX10_meet_52 rfl (lv_at hl 0 rfl) ?_
          refine lv_dup hx hb dX10_meet_53 rfl ?_
          refine va_get (D := D) (ci := 10) (v := .int v_inLine) (C := RX10) (T := TX10) (N := 11) hx hb hts in_X10_meet_X10 hown hK.1 hP 0 rfl rfl 10 (by decide) (hts (.fieldLink RX10 123 "PaperBubbles$Wall" "inLine" "I") (List.mem_of_getElem? (i := 3) rfl)) (fun _ h9 => h9) rfl dX10_meet_54 ?_
          refine lv_iconst (v := 1) hx hb dX10_meet_57 (by decide) ?_
          refine lv_iadd hx hb dX10_meet_58 ?_
          obtain ⟨t_13, et_13, h⟩ := nm_ok h
          refine gTop et_13 ?_
          refine va_put (D := D) (ci := 10) (v := .int t_13) (ty := .int) (C := RX10) (T := TX10) (N := 11) hx hb hts in_X10_meet_X10 tyX10 tyX10_ok nmX10 hown hK.1 hP hD hS 0 rfl rfl 10 (by decide) (hts (.fieldLink RX10 123 "PaperBubbles$Wall" "inLine" "I") (List.mem_of_getElem? (i := 3) rfl)) (fun _ h9 => h9) rfl (by decide +kernel) rfl rfl (Nat.le_of_ble_eq_true rfl) dX10_meet_59 (fun H locs hP hD hS => ?_)
          have hP : va_P D gcl [(q_this, .inr (10, [.int v_rows, .int v_columns, .ref q_air, .ref q_paste, .ref q_open, .int v_holes, .int v_out, .int v_night, .ref q_met, .ref q_line, .int t_13])), (q_air, .inl (c 0, 25, .inl v_air)), (q_line, .inl (c 0, 25, .inl w_12)), (q_met, .inl (c 0, 25, .inl w_10))] H := hP
          have hD : va_D A [(q_this, .inr (10, [.int v_rows, .int v_columns, .ref q_air, .ref q_paste, .ref q_open, .int v_holes, .int v_out, .int v_night, .ref q_met, .ref q_line, .int t_13])), (q_air, .inl (c 0, 25, .inl v_air)), (q_line, .inl (c 0, 25, .inl w_12)), (q_met, .inl (c 0, 25, .inl w_10))] := hD
          cases h
          exact gVret hF hP hD hS dX10_meet_62
set_option maxRecDepth 20000 in
theorem in_X10_meetBubble_X10 : ∀ w ∈ u_ws RX10 TX10 11, w ∈ wsX10_meetBubble := by decide +kernel
def f_X10_meetBubble_L45 (kk_L14 : Int32 → Int32 → Int32 → (Nat → Int32) → (Nat → Int32) → Option (Int32 × Int32 × (Nat → Int32) × (Nat → Int32))) (v_rows : Int32) (v_columns : Int32) (v_air : Nat → Int32) : Nat → Int32 → Int32 → Int32 → Int32 → (Nat → Int32) → (Nat → Int32) → Option (Int32 × Int32 × (Nat → Int32) × (Nat → Int32))
  | 0, _, _, _, _, _, _ => none
  | n + 1, x2, x3, x4, v_inLine, v_line, v_met =>
    if 4 ≤ x4 then
      nm (x3 + 1) fun t_12 =>
      kk_L14 x2 t_12 v_inLine v_line v_met
    else
      chi x3 25 <|
      nm (v_line x3.toNatClampNeg) fun t_14 =>
      kb (f_X10_beside t_14 x4 v_rows v_columns) fun r_16 =>
      kb3 (f_X10_meet r_16 v_rows v_columns v_inLine v_air v_line v_met) fun w_18 w_19 w_20 =>
      nm (x4 + 1) fun t_21 =>
      f_X10_meetBubble_L45 kk_L14 v_rows v_columns v_air n x2 x3 t_21 w_18 w_19 w_20

def f_X10_meetBubble_L14 (v_rows : Int32) (v_columns : Int32) (v_air : Nat → Int32) : Nat → Int32 → Int32 → Int32 → (Nat → Int32) → (Nat → Int32) → Option (Int32 × Int32 × (Nat → Int32) × (Nat → Int32))
  | 0, _, _, _, _, _ => none
  | n + 1, x2, x3, v_inLine, v_line, v_met =>
    if v_inLine ≤ x3 then
      some (x2, v_inLine, v_line, v_met)
    else
      if 25 ≤ x3 then
        some (x2, v_inLine, v_line, v_met)
      else
        chi x3 25 <|
        nm (v_line x3.toNatClampNeg) fun t_8 =>
        chi t_8 25 <|
        nm (x2 + (v_air t_8.toNatClampNeg)) fun t_10 =>
        f_X10_meetBubble_L45 (f_X10_meetBubble_L14 v_rows v_columns v_air n) v_rows v_columns v_air gFuel t_10 x3 0 v_inLine v_line v_met

def f_X10_meetBubble (a_1 : Int32) (v_rows : Int32) (v_columns : Int32) (v_inLine : Int32) (v_air : Nat → Int32) (v_line : Nat → Int32) (v_met : Nat → Int32) : Option (Int32 × Int32 × (Nat → Int32) × (Nat → Int32)) :=
  kb3 (f_X10_meet a_1 v_rows v_columns 0 v_air v_line v_met) fun w_2 w_3 w_4 =>
  f_X10_meetBubble_L14 v_rows v_columns v_air gFuel 0 0 w_2 w_3 w_4

abbrev rm_X10_meetBubble : Room := { frames := 3, cells := 0, slots := 0, locals := 65 }
set_option maxHeartbeats 4000000 in
set_option maxRecDepth 100000 in
theorem c_X10_meetBubble (l : Launch) (D : va_G) (c : Nat → ClassId) (q_this q_air q_paste q_open q_met q_line : Nat) (a_1 : Int32) (v_rows : Int32) (v_columns : Int32) (v_holes : Int32) (v_out : Int32) (v_night : Int32) (v_inLine : Int32) (v_air : Nat → Int32) (v_line : Nat → Int32) (v_met : Nat → Int32) (o_r : Int32) (o_v_inLine : Int32) (o_v_line : Nat → Int32) (o_v_met : Nat → Int32) (h : f_X10_meetBubble a_1 v_rows v_columns v_inLine v_air v_line v_met = some (o_r, o_v_inLine, o_v_line, o_v_met)) : gMI l yX10_meetBubble wsX10_meetBubble rm_X10_meetBubble D c [.ref q_this, .int a_1] [(q_this, .inr (10, [.int v_rows, .int v_columns, .ref q_air, .ref q_paste, .ref q_open, .int v_holes, .int v_out, .int v_night, .ref q_met, .ref q_line, .int v_inLine])), (q_air, .inl (c 0, 25, .inl v_air)), (q_line, .inl (c 0, 25, .inl v_line)), (q_met, .inl (c 0, 25, .inl v_met))] [(q_this, .inr (10, [.int v_rows, .int v_columns, .ref q_air, .ref q_paste, .ref q_open, .int v_holes, .int v_out, .int v_night, .ref q_met, .ref q_line, .int o_v_inLine])), (q_air, .inl (c 0, 25, .inl v_air)), (q_line, .inl (c 0, 25, .inl o_v_line)), (q_met, .inl (c 0, 25, .inl o_v_met))] o_r := by
  refine gMI_of (cc := cX10_meetBubble) (maxL := 5) (rt := (some .int)) (by decide +kernel) rfl (Nat.le_of_ble_eq_true rfl) ?_
  intro p e s m below meth co A hF hK hX hP hD hA hS ls hl
  obtain ⟨hx, hb, hr, hts, hown, hlocks, hml⟩ := id hF
  have hl : lv_has ls 5 [(0, .ref q_this), (1, .int a_1)] := hl
  have t_L45 : ∀ (kk_L14 : Int32 → Int32 → Int32 → (Nat → Int32) → (Nat → Int32) → Option (Int32 × Int32 × (Nat → Int32) × (Nat → Int32))), (∀ (x2 : Int32) (x3 : Int32) (v_inLine : Int32) (v_line : Nat → Int32) (v_met : Nat → Int32) (H : Heap) (locs : List Loc), va_P D gcl [(q_this, .inr (10, [.int v_rows, .int v_columns, .ref q_air, .ref q_paste, .ref q_open, .int v_holes, .int v_out, .int v_night, .ref q_met, .ref q_line, .int v_inLine])), (q_air, .inl (c 0, 25, .inl v_air)), (q_line, .inl (c 0, 25, .inl v_line)), (q_met, .inl (c 0, 25, .inl v_met))] H → va_D A [(q_this, .inr (10, [.int v_rows, .int v_columns, .ref q_air, .ref q_paste, .ref q_open, .int v_holes, .int v_out, .int v_night, .ref q_met, .ref q_line, .int v_inLine])), (q_air, .inl (c 0, 25, .inl v_air)), (q_line, .inl (c 0, 25, .inl v_line)), (q_met, .inl (c 0, 25, .inl v_met))] → va_S A s.heap H locs → ∀ ls, lv_has ls 5 [(0, .ref q_this), (2, .int x2), (3, .int x3)] → kk_L14 x2 x3 v_inLine v_line v_met = some (o_r, o_v_inLine, o_v_line, o_v_met) → W p l e (headSpec wsX10_meetBubble rm_X10_meetBubble).room s m [.ref q_this, .int a_1].toArray below meth co H locs 0 0 (gQI D [(q_this, .inr (10, [.int v_rows, .int v_columns, .ref q_air, .ref q_paste, .ref q_open, .int v_holes, .int v_out, .int v_night, .ref q_met, .ref q_line, .int o_v_inLine])), (q_air, .inl (c 0, 25, .inl v_air)), (q_line, .inl (c 0, 25, .inl o_v_line)), (q_met, .inl (c 0, 25, .inl o_v_met))] o_r A below [.ref q_this, .int a_1] s) (F0 m 14 ls [])) → ∀ (n : Nat), ∀ (x2 : Int32) (x3 : Int32) (x4 : Int32) (v_inLine : Int32) (v_line : Nat → Int32) (v_met : Nat → Int32) (H : Heap) (locs : List Loc), va_P D gcl [(q_this, .inr (10, [.int v_rows, .int v_columns, .ref q_air, .ref q_paste, .ref q_open, .int v_holes, .int v_out, .int v_night, .ref q_met, .ref q_line, .int v_inLine])), (q_air, .inl (c 0, 25, .inl v_air)), (q_line, .inl (c 0, 25, .inl v_line)), (q_met, .inl (c 0, 25, .inl v_met))] H → va_D A [(q_this, .inr (10, [.int v_rows, .int v_columns, .ref q_air, .ref q_paste, .ref q_open, .int v_holes, .int v_out, .int v_night, .ref q_met, .ref q_line, .int v_inLine])), (q_air, .inl (c 0, 25, .inl v_air)), (q_line, .inl (c 0, 25, .inl v_line)), (q_met, .inl (c 0, 25, .inl v_met))] → va_S A s.heap H locs → ∀ ls, lv_has ls 5 [(0, .ref q_this), (2, .int x2), (3, .int x3), (4, .int x4)] → f_X10_meetBubble_L45 kk_L14 v_rows v_columns v_air n x2 x3 x4 v_inLine v_line v_met = some (o_r, o_v_inLine, o_v_line, o_v_met) → W p l e (headSpec wsX10_meetBubble rm_X10_meetBubble).room s m [.ref q_this, .int a_1].toArray below meth co H locs 0 0 (gQI D [(q_this, .inr (10, [.int v_rows, .int v_columns, .ref q_air, .ref q_paste, .ref q_open, .int v_holes, .int v_out, .int v_night, .ref q_met, .ref q_line, .int o_v_inLine])), (q_air, .inl (c 0, 25, .inl v_air)), (q_line, .inl (c 0, 25, .inl o_v_line)), (q_met, .inl (c 0, 25, .inl o_v_met))] o_r A below [.ref q_this, .int a_1] s) (F0 m 45 ls []) := by
    intro kk_L14 hkk_L14
    intro n
    induction n with
    | zero => intro x2 x3 x4 v_inLine v_line v_met H locs hP hD hS ls hl h; exact no_ok h
    | succ n ih =>
      intro x2 x3 x4 v_inLine v_line v_met H locs hP hD hS ls hl h
      rw [f_X10_meetBubble_L45] at h
      refine lv_iload hx hb dX10_meetBubble_45 (lv_at hl 3 rfl) ?_
      refine lv_iconst (v := 4) hx hb dX10_meetBubble_47 (by decide) ?_
      refine lv_icmp_ge (tgt := 73) hx hb dX10_meetBubble_48 (by decide) (fun c_11 => ?_) (fun c_11 => ?_)
      · have h := it_t c_11 h
        obtain ⟨t_12, et_12, h⟩ := nm_ok h
        refine lv_iinc (v := t_12) (lv' := [(3, .int t_12), (0, .ref q_this), (2, .int x2), (4, .int x4)]) hx hb dX10_meetBubble_73 hl (k := 2) rfl (by rw [et_12]; rfl) (by decide) rfl (fun ls hl => ?_)
        refine lv_goto (tgt := 14) hx hb dX10_meetBubble_76 (by decide) ?_
        exact hkk_L14 x2 t_12 v_inLine v_line v_met H locs hP hD hS ls (lv_sub hl [1, 2, 0] rfl) h
      · have h := it_f c_11 h
        refine lv_aload_n hx hb dX10_meetBubble_51 rfl (lv_at hl 0 rfl) ?_
        refine lv_aload_n hx hb dX10_meetBubble_52 rfl (lv_at hl 0 rfl) ?_
        refine lv_aload_n hx hb dX10_meetBubble_53 rfl (lv_at hl 0 rfl) ?_
        refine va_get (D := D) (ci := 10) (v := .ref q_line) (C := RX10) (T := TX10) (N := 11) hx hb hts in_X10_meetBubble_X10 hown hK.1 hP 0 rfl rfl 9 (by decide) (hts (.fieldLink RX10 31 "PaperBubbles$Wall" "line" "[I") (List.mem_of_getElem? (i := 3) rfl)) (fun _ h9 => h9) rfl dX10_meetBubble_54 ?_
        refine lv_iload_n hx hb dX10_meetBubble_57 rfl (lv_at hl 2 rfl) ?_
        obtain ⟨hi_13, h⟩ := chi_ok h
        refine va_iald hx hb hK.1 hP 2 0 rfl rfl hi_13 dX10_meetBubble_58 ?_
        obtain ⟨t_14, et_14, h⟩ := nm_ok h
        refine gTop et_14 ?_
        refine lv_iload hx hb dX10_meetBubble_59 (lv_at hl 3 rfl) ?_
        obtain ⟨r_16, hc_15, h⟩ := kb_ok h
        refine gCallI (isC := [0]) (wc := [(q_this, .inr (10, [.int v_rows, .int v_columns, .ref q_air, .ref q_paste, .ref q_open, .int v_holes, .int v_out, .int v_night, .ref q_met, .ref q_line, .int v_inLine]))]) (w1 := [(q_this, .inr (10, [.int v_rows, .int v_columns, .ref q_air, .ref q_paste, .ref q_open, .int v_holes, .int v_out, .int v_night, .ref q_met, .ref q_line, .int v_inLine]))]) hP hD hS hA rfl rfl (va_runV (rm := rm_X10_beside) (ws := wsX10_beside) (As := [.int t_14, .int x4]) (rest := [.ref q_this]) (gFix hF) (c_X10_beside l D c q_this q_air q_paste q_open q_met q_line t_14 x4 v_rows v_columns v_holes v_out v_night v_inLine r_16 hc_15 H.size) (cwV 2 hts gX10_meetBubble_X10_beside rfl rfl rfl (by decide +kernel) ⟨Nat.le_of_ble_eq_true rfl, Nat.le_of_ble_eq_true rfl⟩) (gPreV (wc := [(q_this, .inr (10, [.int v_rows, .int v_columns, .ref q_air, .ref q_paste, .ref q_open, .int v_holes, .int v_out, .int v_night, .ref q_met, .ref q_line, .int v_inLine]))]) (q := (RX10, TX10, 11)) (ci := 10) (q0 := 0) (isC := [0]) hK hX hS hA hP hD rfl (by decide) rfl rfl) rfl rfl hl.1 rfl (lv_room (Nat.le_of_ble_eq_true rfl)) dX10_meetBubble_61 ⟨Nat.le_of_ble_eq_true rfl, Nat.le_of_ble_eq_true rfl⟩) (fun H locs hP hD hS => ?_)
        have hP : va_P D gcl [(q_this, .inr (10, [.int v_rows, .int v_columns, .ref q_air, .ref q_paste, .ref q_open, .int v_holes, .int v_out, .int v_night, .ref q_met, .ref q_line, .int v_inLine])), (q_air, .inl (c 0, 25, .inl v_air)), (q_line, .inl (c 0, 25, .inl v_line)), (q_met, .inl (c 0, 25, .inl v_met))] H := hP
        have hD : va_D A [(q_this, .inr (10, [.int v_rows, .int v_columns, .ref q_air, .ref q_paste, .ref q_open, .int v_holes, .int v_out, .int v_night, .ref q_met, .ref q_line, .int v_inLine])), (q_air, .inl (c 0, 25, .inl v_air)), (q_line, .inl (c 0, 25, .inl v_line)), (q_met, .inl (c 0, 25, .inl v_met))] := hD
        obtain ⟨w_18, w_19, w_20, hc_17, h⟩ := kb3_ok h
        refine gCallV (isC := [0, 1, 2, 3]) (wc := [(q_this, .inr (10, [.int v_rows, .int v_columns, .ref q_air, .ref q_paste, .ref q_open, .int v_holes, .int v_out, .int v_night, .ref q_met, .ref q_line, .int v_inLine])), (q_air, .inl (c 0, 25, .inl v_air)), (q_line, .inl (c 0, 25, .inl v_line)), (q_met, .inl (c 0, 25, .inl v_met))]) (w1 := [(q_this, .inr (10, [.int v_rows, .int v_columns, .ref q_air, .ref q_paste, .ref q_open, .int v_holes, .int v_out, .int v_night, .ref q_met, .ref q_line, .int w_18])), (q_air, .inl (c 0, 25, .inl v_air)), (q_line, .inl (c 0, 25, .inl w_19)), (q_met, .inl (c 0, 25, .inl w_20))]) hP hD hS hA rfl rfl (va_runV (rm := rm_X10_meet) (ws := wsX10_meet) (As := [.int r_16]) (rest := []) (gFix hF) (c_X10_meet l D c q_this q_air q_paste q_open q_met q_line r_16 v_rows v_columns v_holes v_out v_night v_inLine v_air v_line v_met w_18 w_19 w_20 hc_17 H.size) (cwV 1 hts gX10_meetBubble_X10_meet rfl rfl rfl (by decide +kernel) ⟨Nat.le_of_ble_eq_true rfl, Nat.le_of_ble_eq_true rfl⟩) (gPreV (wc := [(q_this, .inr (10, [.int v_rows, .int v_columns, .ref q_air, .ref q_paste, .ref q_open, .int v_holes, .int v_out, .int v_night, .ref q_met, .ref q_line, .int v_inLine])), (q_air, .inl (c 0, 25, .inl v_air)), (q_line, .inl (c 0, 25, .inl v_line)), (q_met, .inl (c 0, 25, .inl v_met))]) (q := (RX10, TX10, 11)) (ci := 10) (q0 := 0) (isC := [0, 1, 2, 3]) hK hX hS hA hP hD rfl (by decide) rfl rfl) rfl rfl hl.1 rfl (lv_room (Nat.le_of_ble_eq_true rfl)) dX10_meetBubble_64 ⟨Nat.le_of_ble_eq_true rfl, Nat.le_of_ble_eq_true rfl⟩) (fun H locs hP hD hS => ?_)
        have hP : va_P D gcl [(q_this, .inr (10, [.int v_rows, .int v_columns, .ref q_air, .ref q_paste, .ref q_open, .int v_holes, .int v_out, .int v_night, .ref q_met, .ref q_line, .int w_18])), (q_air, .inl (c 0, 25, .inl v_air)), (q_line, .inl (c 0, 25, .inl w_19)), (q_met, .inl (c 0, 25, .inl w_20))] H := hP
        have hD : va_D A [(q_this, .inr (10, [.int v_rows, .int v_columns, .ref q_air, .ref q_paste, .ref q_open, .int v_holes, .int v_out, .int v_night, .ref q_met, .ref q_line, .int w_18])), (q_air, .inl (c 0, 25, .inl v_air)), (q_line, .inl (c 0, 25, .inl w_19)), (q_met, .inl (c 0, 25, .inl w_20))] := hD
        obtain ⟨t_21, et_21, h⟩ := nm_ok h
        refine lv_iinc (v := t_21) (lv' := [(4, .int t_21), (0, .ref q_this), (2, .int x2), (3, .int x3)]) hx hb dX10_meetBubble_67 hl (k := 3) rfl (by rw [et_21]; rfl) (by decide) rfl (fun ls hl => ?_)
        refine lv_goto (tgt := 45) hx hb dX10_meetBubble_70 (by decide) ?_
        exact ih x2 x3 t_21 w_18 w_19 w_20 H locs hP hD hS ls (lv_sub hl [1, 2, 3, 0] rfl) h
  have t_L14 : ∀ (n : Nat), ∀ (x2 : Int32) (x3 : Int32) (v_inLine : Int32) (v_line : Nat → Int32) (v_met : Nat → Int32) (H : Heap) (locs : List Loc), va_P D gcl [(q_this, .inr (10, [.int v_rows, .int v_columns, .ref q_air, .ref q_paste, .ref q_open, .int v_holes, .int v_out, .int v_night, .ref q_met, .ref q_line, .int v_inLine])), (q_air, .inl (c 0, 25, .inl v_air)), (q_line, .inl (c 0, 25, .inl v_line)), (q_met, .inl (c 0, 25, .inl v_met))] H → va_D A [(q_this, .inr (10, [.int v_rows, .int v_columns, .ref q_air, .ref q_paste, .ref q_open, .int v_holes, .int v_out, .int v_night, .ref q_met, .ref q_line, .int v_inLine])), (q_air, .inl (c 0, 25, .inl v_air)), (q_line, .inl (c 0, 25, .inl v_line)), (q_met, .inl (c 0, 25, .inl v_met))] → va_S A s.heap H locs → ∀ ls, lv_has ls 5 [(0, .ref q_this), (2, .int x2), (3, .int x3)] → f_X10_meetBubble_L14 v_rows v_columns v_air n x2 x3 v_inLine v_line v_met = some (o_r, o_v_inLine, o_v_line, o_v_met) → W p l e (headSpec wsX10_meetBubble rm_X10_meetBubble).room s m [.ref q_this, .int a_1].toArray below meth co H locs 0 0 (gQI D [(q_this, .inr (10, [.int v_rows, .int v_columns, .ref q_air, .ref q_paste, .ref q_open, .int v_holes, .int v_out, .int v_night, .ref q_met, .ref q_line, .int o_v_inLine])), (q_air, .inl (c 0, 25, .inl v_air)), (q_line, .inl (c 0, 25, .inl o_v_line)), (q_met, .inl (c 0, 25, .inl o_v_met))] o_r A below [.ref q_this, .int a_1] s) (F0 m 14 ls []) := by
    intro n
    induction n with
    | zero => intro x2 x3 v_inLine v_line v_met H locs hP hD hS ls hl h; exact no_ok h
    | succ n ih =>
      intro x2 x3 v_inLine v_line v_met H locs hP hD hS ls hl h
      rw [f_X10_meetBubble_L14] at h
      refine lv_iload_n hx hb dX10_meetBubble_14 rfl (lv_at hl 2 rfl) ?_
      refine lv_aload_n hx hb dX10_meetBubble_15 rfl (lv_at hl 0 rfl) ?_
      refine va_get (D := D) (ci := 10) (v := .int v_inLine) (C := RX10) (T := TX10) (N := 11) hx hb hts in_X10_meetBubble_X10 hown hK.1 hP 0 rfl rfl 10 (by decide) (hts (.fieldLink RX10 123 "PaperBubbles$Wall" "inLine" "I") (List.mem_of_getElem? (i := 1) rfl)) (fun _ h9 => h9) rfl dX10_meetBubble_16 ?_
      refine lv_icmp_ge (tgt := 79) hx hb dX10_meetBubble_19 (by decide) (fun c_5 => ?_) (fun c_5 => ?_)
      · have h := it_t c_5 h
        refine lv_iload_n hx hb dX10_meetBubble_79 rfl (lv_at hl 1 rfl) ?_
        cases h
        exact gIret hF hP hD hS rfl dX10_meetBubble_80
      · have h := it_f c_5 h
        refine lv_iload_n hx hb dX10_meetBubble_22 rfl (lv_at hl 2 rfl) ?_
        refine lv_bipush (v := 25) hx hb dX10_meetBubble_23 (by decide) ?_
        refine lv_icmp_ge (tgt := 79) hx hb dX10_meetBubble_25 (by decide) (fun c_6 => ?_) (fun c_6 => ?_)
        · have h := it_t c_6 h
          refine lv_iload_n hx hb dX10_meetBubble_79 rfl (lv_at hl 1 rfl) ?_
          cases h
          exact gIret hF hP hD hS rfl dX10_meetBubble_80
        · have h := it_f c_6 h
          refine lv_iload_n hx hb dX10_meetBubble_28 rfl (lv_at hl 1 rfl) ?_
          refine lv_aload_n hx hb dX10_meetBubble_29 rfl (lv_at hl 0 rfl) ?_
          refine va_get (D := D) (ci := 10) (v := .ref q_air) (C := RX10) (T := TX10) (N := 11) hx hb hts in_X10_meetBubble_X10 hown hK.1 hP 0 rfl rfl 2 (by decide) (hts (.fieldLink RX10 18 "PaperBubbles$Wall" "air" "[I") (List.mem_of_getElem? (i := 2) rfl)) (fun _ h9 => h9) rfl dX10_meetBubble_30 ?_
          refine lv_aload_n hx hb dX10_meetBubble_33 rfl (lv_at hl 0 rfl) ?_
          refine va_get (D := D) (ci := 10) (v := .ref q_line) (C := RX10) (T := TX10) (N := 11) hx hb hts in_X10_meetBubble_X10 hown hK.1 hP 0 rfl rfl 9 (by decide) (hts (.fieldLink RX10 31 "PaperBubbles$Wall" "line" "[I") (List.mem_of_getElem? (i := 3) rfl)) (fun _ h9 => h9) rfl dX10_meetBubble_34 ?_
          refine lv_iload_n hx hb dX10_meetBubble_37 rfl (lv_at hl 2 rfl) ?_
          obtain ⟨hi_7, h⟩ := chi_ok h
          refine va_iald hx hb hK.1 hP 2 0 rfl rfl hi_7 dX10_meetBubble_38 ?_
          obtain ⟨t_8, et_8, h⟩ := nm_ok h
          refine gTop et_8 ?_
          obtain ⟨hi_9, h⟩ := chi_ok h
          refine va_iald hx hb hK.1 hP 1 0 rfl rfl hi_9 dX10_meetBubble_39 ?_
          refine lv_iadd hx hb dX10_meetBubble_40 ?_
          obtain ⟨t_10, et_10, h⟩ := nm_ok h
          refine gTop et_10 ?_
          refine lv_istore_n (lv' := [(2, .int t_10), (0, .ref q_this), (3, .int x3)]) hx hb dX10_meetBubble_41 rfl hl (by decide) rfl (fun ls hl => ?_)
          refine lv_iconst (v := 0) hx hb dX10_meetBubble_42 (by decide) ?_
          refine lv_istore (lv' := [(4, .int 0), (2, .int t_10), (0, .ref q_this), (3, .int x3)]) hx hb dX10_meetBubble_43 hl (by decide) rfl (fun ls hl => ?_)
          exact t_L45 _ ih gFuel t_10 x3 0 v_inLine v_line v_met H locs hP hD hS ls (lv_sub hl [2, 1, 3, 0] rfl) h
  unfold f_X10_meetBubble at h
  refine lv_aload_n hx hb dX10_meetBubble_0 rfl (lv_at hl 0 rfl) ?_
  refine lv_iconst (v := 0) hx hb dX10_meetBubble_1 (by decide) ?_
  refine va_put (D := D) (ci := 10) (v := .int 0) (ty := .int) (C := RX10) (T := TX10) (N := 11) hx hb hts in_X10_meetBubble_X10 tyX10 tyX10_ok nmX10 hown hK.1 hP hD hS 0 rfl rfl 10 (by decide) (hts (.fieldLink RX10 123 "PaperBubbles$Wall" "inLine" "I") (List.mem_of_getElem? (i := 1) rfl)) (fun _ h9 => h9) rfl (by decide +kernel) rfl rfl (Nat.le_of_ble_eq_true rfl) dX10_meetBubble_2 (fun H locs hP hD hS => ?_)
  have hP : va_P D gcl [(q_this, .inr (10, [.int v_rows, .int v_columns, .ref q_air, .ref q_paste, .ref q_open, .int v_holes, .int v_out, .int v_night, .ref q_met, .ref q_line, .int 0])), (q_air, .inl (c 0, 25, .inl v_air)), (q_line, .inl (c 0, 25, .inl v_line)), (q_met, .inl (c 0, 25, .inl v_met))] H := hP
  have hD : va_D A [(q_this, .inr (10, [.int v_rows, .int v_columns, .ref q_air, .ref q_paste, .ref q_open, .int v_holes, .int v_out, .int v_night, .ref q_met, .ref q_line, .int 0])), (q_air, .inl (c 0, 25, .inl v_air)), (q_line, .inl (c 0, 25, .inl v_line)), (q_met, .inl (c 0, 25, .inl v_met))] := hD
  refine lv_aload_n hx hb dX10_meetBubble_5 rfl (lv_at hl 0 rfl) ?_
  refine lv_iload_n hx hb dX10_meetBubble_6 rfl (lv_at hl 1 rfl) ?_
  obtain ⟨w_2, w_3, w_4, hc_1, h⟩ := kb3_ok h
  refine gCallV (isC := [0, 1, 2, 3]) (wc := [(q_this, .inr (10, [.int v_rows, .int v_columns, .ref q_air, .ref q_paste, .ref q_open, .int v_holes, .int v_out, .int v_night, .ref q_met, .ref q_line, .int 0])), (q_air, .inl (c 0, 25, .inl v_air)), (q_line, .inl (c 0, 25, .inl v_line)), (q_met, .inl (c 0, 25, .inl v_met))]) (w1 := [(q_this, .inr (10, [.int v_rows, .int v_columns, .ref q_air, .ref q_paste, .ref q_open, .int v_holes, .int v_out, .int v_night, .ref q_met, .ref q_line, .int w_2])), (q_air, .inl (c 0, 25, .inl v_air)), (q_line, .inl (c 0, 25, .inl w_3)), (q_met, .inl (c 0, 25, .inl w_4))]) hP hD hS hA rfl rfl (va_runV (rm := rm_X10_meet) (ws := wsX10_meet) (As := [.int a_1]) (rest := []) (gFix hF) (c_X10_meet l D c q_this q_air q_paste q_open q_met q_line a_1 v_rows v_columns v_holes v_out v_night 0 v_air v_line v_met w_2 w_3 w_4 hc_1 H.size) (cwV 1 hts gX10_meetBubble_X10_meet rfl rfl rfl (by decide +kernel) ⟨Nat.le_of_ble_eq_true rfl, Nat.le_of_ble_eq_true rfl⟩) (gPreV (wc := [(q_this, .inr (10, [.int v_rows, .int v_columns, .ref q_air, .ref q_paste, .ref q_open, .int v_holes, .int v_out, .int v_night, .ref q_met, .ref q_line, .int 0])), (q_air, .inl (c 0, 25, .inl v_air)), (q_line, .inl (c 0, 25, .inl v_line)), (q_met, .inl (c 0, 25, .inl v_met))]) (q := (RX10, TX10, 11)) (ci := 10) (q0 := 0) (isC := [0, 1, 2, 3]) hK hX hS hA hP hD rfl (by decide) rfl rfl) rfl rfl hl.1 rfl (lv_room (Nat.le_of_ble_eq_true rfl)) dX10_meetBubble_7 ⟨Nat.le_of_ble_eq_true rfl, Nat.le_of_ble_eq_true rfl⟩) (fun H locs hP hD hS => ?_)
  have hP : va_P D gcl [(q_this, .inr (10, [.int v_rows, .int v_columns, .ref q_air, .ref q_paste, .ref q_open, .int v_holes, .int v_out, .int v_night, .ref q_met, .ref q_line, .int w_2])), (q_air, .inl (c 0, 25, .inl v_air)), (q_line, .inl (c 0, 25, .inl w_3)), (q_met, .inl (c 0, 25, .inl w_4))] H := hP
  have hD : va_D A [(q_this, .inr (10, [.int v_rows, .int v_columns, .ref q_air, .ref q_paste, .ref q_open, .int v_holes, .int v_out, .int v_night, .ref q_met, .ref q_line, .int w_2])), (q_air, .inl (c 0, 25, .inl v_air)), (q_line, .inl (c 0, 25, .inl w_3)), (q_met, .inl (c 0, 25, .inl w_4))] := hD
  refine lv_iconst (v := 0) hx hb dX10_meetBubble_10 (by decide) ?_
  refine lv_istore_n (lv' := [(2, .int 0), (0, .ref q_this), (1, .int a_1)]) hx hb dX10_meetBubble_11 rfl hl (by decide) rfl (fun ls hl => ?_)
  refine lv_iconst (v := 0) hx hb dX10_meetBubble_12 (by decide) ?_
  refine lv_istore_n (lv' := [(3, .int 0), (2, .int 0), (0, .ref q_this), (1, .int a_1)]) hx hb dX10_meetBubble_13 rfl hl (by decide) rfl (fun ls hl => ?_)
  exact t_L14 gFuel 0 0 w_2 w_3 w_4 H locs hP hD hS ls (lv_sub hl [2, 1, 0] rfl) h
