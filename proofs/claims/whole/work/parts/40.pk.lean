/-! texts: what a law gives, and what is remembered of it -/
section PK
variable {sn n base : Nat} {b d : Nat → Int32}
theorem worked_eq (h : TP b n base d) (hs : sn < 2) (names : Nat → Int32) (vb va vs vf vo vi : Int32) :
    (∃ (code : List Int32) (v at' op : Int32), po sn b n 0 [] [] 0 0 true = (0, some code) ∧ f_X12_worked (nI base) (nI n) (nI sn) vb va vs vf vo vi d names = some (v, nI base, at', nI n, -1, op, nI sn) ∧ ∀ stk, ev (names 0) (names 1) (names 2) code stk = v :: stk) ∨
    (∃ (q : Nat) (v at' op : Int32), q ≤ n ∧ po sn b n 0 [] [] 0 0 true = (q, none) ∧ f_X12_worked (nI base) (nI n) (nI sn) vb va vs vf vo vi d names = some (v, nI base, at', nI n, nI q, op, nI sn)) := by
  have hn := h.1
  have e0 : f_X12_worked (nI base) (nI n) (nI sn) vb va vs vf vo vi d names = f_X12_worked_L36 d names (nI sn) (nI base) 0 (nI n) (-1) 0 := by
    match sn, hs with
    | 0, _ => rfl
    | 1, _ => rfl
  have e1 : ∀ {β : Type} (k : Option β), chb (nI sn) k = k := by
    intro β k
    match sn, hs with
    | 0, _ => rfl
    | 1, _ => rfl
  rw [e0]
  unfold f_X12_worked_L36
  rw [e1]
  rcases text_ok (names := names) h hs trivial with ⟨v, p', op, code, h1, h2, h3, h4⟩ | ⟨v, a, flt, op, q, h1, h2, h3, h4⟩
  · subst h2
    rw [h1, px_kb4, if_neg (by decide), if_pos (show nI n ≤ nI n from Int32.le_refl _)]
    exact Or.inl ⟨code, v, _, op, h3, rfl, h4⟩
  · rw [h1, px_kb4]
    rcases h4 with rfl | ⟨rfl, rfl, h5⟩
    · rw [if_pos (nI_pos' (by omega))]
      exact Or.inr ⟨q, v, a, op, h2, h3, rfl⟩
    · rw [if_neg (by decide), if_neg (show ¬ nI n ≤ nI q from nI_ge h5 (by omega)), wrong_at (p := q), px_kb2]
      exact Or.inr ⟨q, 0, _, op, h2, h3, rfl⟩
end PK
/-- the code of a use without a text -/
def dflt (u : Nat) : List Int32 := if u = 0 then [-1, 2, -47] else [-1]
/-- the code is that of the model's text -/
def LM (u : Nat) (L : List Int32) (d : Nat → Int32) : Prop :=
  (d (72 + u) = 0 ∧ L = dflt u) ∨ ∃ (n : Nat) (b : Nat → Int32), 0 < n ∧ d (72 + u) = nI n ∧ TP b n (94 + 50 * u) d ∧ po u b n 0 [] [] 0 0 true = (0, some L)
theorem dflt_ev (u : Nat) (hu : u < 2) (a c e : Int32) : ∀ stk, ev a c e (dflt u) stk = (if u = 0 then a / 2 else a) :: stk := by
  intro stk
  match u, hu with
  | 0, _ =>
    have h1 : jn 47 a 2 = a / 2 := by rw [jn_div, if_neg (by decide)]
    show jn 47 a 2 :: stk = _
    rw [h1]; rfl
  | 1, _ => rfl
/-- the three names -/
def nm3 (names : Nat → Int32) (a c e : Int32) : Nat → Int32 := upd (upd (upd names 0 a) 1 c) 2 e
theorem LM_val {u : Nat} (hu : u < 2) {L : List Int32} {d : Nat → Int32} (h : LM u L d) (a c e : Int32) : ∃ v, ev a c e L [] = [v] := by
  rcases h with ⟨-, rfl⟩ | ⟨n, b, h0, h1, h2, h3⟩
  · exact ⟨_, dflt_ev u hu a c e []⟩
  · rcases worked_eq h2 hu (nm3 (fun _ => 0) a c e) 0 0 0 0 0 0 with ⟨code, v, at', op, h4, h5, h6⟩ | ⟨q, v, at', op, h4, h5, h6⟩
    · rw [h3] at h4
      cases h4
      exact ⟨v, h6 []⟩
    · rw [h3] at h5; cases h5
theorem tg_eq {u : Nat} (hu : u < 2) {L : List Int32} {d : Nat → Int32} (h : LM u L d) (a c e : Int32) (vb va vs vf vo vi : Int32) (names : Nat → Int32) :
    ∃ (x1 x2 x3 x4 x5 x6 : Int32) (y : Nat → Int32), f_X12_textGives (nI u) a c e vb va vs vf vo vi d names = some (gv L a c e, x1, x2, x3, x4, x5, x6, y) := by
  have e0 : f_X12_textGives (nI u) a c e vb va vs vf vo vi d names = f_X12_textGives_L11 (nI u) a c e d (if u = 0 then a / 2 else a) vb va vs vf vo vi names := by
    match u, hu with
    | 0, _ => rfl
    | 1, _ => rfl
  rw [e0]
  unfold f_X12_textGives_L11
  rw [show (72 : Int32) + nI u = nI (72 + u) from nI_add 72 u, px_nm, px_in (by omega) (by decide), nI_clamp (by omega)]
  rcases h with ⟨h1, rfl⟩ | ⟨n, b, h0, h1, h2, h3⟩
  · rw [h1, if_pos (by decide)]
    unfold f_X12_textGives_L70
    rw [held_eq, px_kb]
    refine ⟨vb, va, vs, vf, vo, vi, names, ?_⟩
    unfold gv
    rw [dflt_ev u hu]
    rfl
  · have hn := h2.1
    rw [h1, if_neg (nI_nle h0 (by omega)), show (50 : Int32) * nI u = nI (50 * u) from pk_mul 50 u, show (94 : Int32) + nI (50 * u) = nI (94 + 50 * u) from nI_add 94 _]
    show ∃ (x1 x2 x3 x4 x5 x6 : Int32) (y : Nat → Int32), (chi (nI (72 + u)) 244 <| nm (d (nI (72 + u)).toNatClampNeg) fun t_16 => kb7 (f_X12_worked (nI (94 + 50 * u)) t_16 (nI u) vb va vs vf vo vi d (nm3 names a c e)) fun r_18 w_19 w_20 w_21 w_22 w_23 w_24 => f_X12_textGives_L70 r_18 w_19 w_20 w_21 w_22 w_23 w_24 (nm3 names a c e)) = _
    rw [px_in (by omega) (by decide), px_nm, nI_clamp (by omega), h1]
    rcases worked_eq h2 hu (nm3 names a c e) vb va vs vf vo vi with ⟨code, v, at', op, h4, h5, h6⟩ | ⟨q, v, at', op, h4, h5, h6⟩
    · rw [h3] at h4
      cases h4
      rw [h5, px_kb7]
      unfold f_X12_textGives_L70
      rw [held_eq, px_kb]
      have h7 : ev a c e L [] = [v] := h6 []
      have h8 : clv v = gv L a c e := by unfold gv; rw [h7]; rfl
      rw [h8]
      exact ⟨_, _, _, _, _, _, _, rfl⟩
    · rw [h3] at h5; cases h5
/-- what is remembered -/
def CO (L : List Int32) (side rnd : Nat) (ans : Nat → Int32) : Prop :=
  ∀ p, p < 100 * side * side → ∃ q v, ans p = nI (q * 128 + v) ∧ v < 128 ∧ q ≤ rnd ∧ (q = rnd → nI v = gv L (nI (p / side / side)) (nI (p / side % side)) (nI (p % side)))
theorem CO_new {L : List Int32} {side rnd : Nat} {ans : Nat → Int32} (h : CO L side rnd ans) (M : List Int32) : CO M side (rnd + 1) ans := by
  intro p hp
  obtain ⟨q, v, h1, h2, h3, -⟩ := h p hp
  exact ⟨q, v, h1, h2, by omega, fun e => absurd e (by omega)⟩
theorem gv_nI (L : List Int32) (a c e : Int32) : ∃ k, k ≤ 99 ∧ gv L a c e = nI k := clv_nI _
theorem placeOf_eq (a c e : Int32) {side : Nat} (hs : side = 10 ∨ side = 5) :
    f_X3_placeOf a c e (nI side) = some (-1) ∨ ∃ i j k, i < 100 ∧ j < side ∧ k < side ∧ a = nI i ∧ c = nI j ∧ e = nI k ∧ f_X3_placeOf a c e (nI side) = some (nI ((i * side + j) * side + k)) := by
  unfold f_X3_placeOf
  have hw : ∀ x : Int32, f_X11_within x 0 (nI side - 1) = some (bI x side) := by
    intro x
    rcases hs with rfl | rfl
    · exact within_n x 9 (by decide)
    · exact within_n x 4 (by decide)
  rw [show f_X11_within a 0 99 = some (bI a 100) from within_n a 99 (by decide), px_kb]
  by_cases h1 : vp_in a 100
  · obtain ⟨i, hi, rfl⟩ := vp_in_of h1 (by decide)
    rw [bI_in h1, if_neg (by decide), px_nm, hw, px_kb]
    by_cases h2 : vp_in c side
    · obtain ⟨j, hj, rfl⟩ := vp_in_of h2 (by omega)
      rw [bI_in h2, if_neg (by decide), px_nm, hw, px_kb]
      by_cases h3 : vp_in e side
      · obtain ⟨k, hk, rfl⟩ := vp_in_of h3 (by omega)
        rw [bI_in h3, if_neg (by decide), px_nm, px_nm, px_nm, pk_mul, nI_add, pk_mul, nI_add]
        exact Or.inr ⟨i, j, k, hi, hj, hk, rfl, rfl, rfl, rfl⟩
      · rw [bI_out h3, if_pos rfl]; exact Or.inl rfl
    · rw [bI_out h2, if_pos rfl]; exact Or.inl rfl
  · rw [bI_out h1, if_pos rfl]; exact Or.inl rfl
theorem gives_eq {u : Nat} (hu : u < 2) {L : List Int32} {d : Nat → Int32} (h : LM u L d) (hl : L.length ≤ 50) {steps : Nat → Int32} (hR : RP steps L) {side rnd : Nat} (hs : side = 10 ∨ side = 5) (hr : rnd < 10000) {ans : Nat → Int32} (hC : CO L side rnd ans) (a c e : Int32) (stack : Nat → Int32) :
    ∃ ans' stack', f_X3_gives a c e (100 * side * side) (nI L.length) (nI side) (nI rnd) ans stack steps = some (gv L a c e, ans', stack') ∧ CO L side rnd ans' := by
  unfold f_X3_gives
  obtain ⟨v, hv⟩ := LM_val hu h a c e
  obtain ⟨st, hw⟩ := work_eq (a := a) (c := c) (e := e) hl hR hv stack
  have h128 : ∀ {β : Type} (k : Option β), chz (128 : Int32) k = k := fun k => px_chz (by decide) k
  rcases placeOf_eq a c e hs with hp | ⟨i, j, k, hi, hj, hk, rfl, rfl, rfl, hp⟩
  · rw [hp, px_kb, if_pos (by decide)]
    unfold f_X3_gives_L24
    rw [hw, px_kb2]
    exact ⟨ans, st, rfl, hC⟩
  · have hlt : (i * side + j) * side + k < 100 * side * side := by
      rcases hs with rfl | rfl <;> omega
    have hd1 : ((i * side + j) * side + k) / side / side = i ∧ ((i * side + j) * side + k) / side % side = j ∧ ((i * side + j) * side + k) % side = k := by
      rcases hs with rfl | rfl <;> omega
    have hb : 100 * side * side ≤ 10000 := by rcases hs with rfl | rfl <;> decide
    generalize hP : (i * side + j) * side + k = P at hlt hd1 hp
    rw [hp, px_kb, if_neg (nI_pos (by omega)), if_pos (nI_lt hlt (by omega)), px_in hlt (by omega), px_nm, h128, px_nm, nI_clamp (by omega)]
    obtain ⟨q, w, h1, h2, h3, h4⟩ := hC P hlt
    have hq : q * 128 + w < 2 ^ 31 := by omega
    rw [h1, show (128 : Int32) = nI 128 from rfl, pk_div hq (by decide) (by decide), show (q * 128 + w) / 128 = q by omega]
    by_cases hqr : q = rnd
    · subst hqr
      rw [if_pos rfl]
      unfold f_X3_gives_L73
      rw [px_in hlt (by omega), px_nm, h128, nI_clamp (by omega), h1, show (128 : Int32) = nI 128 from rfl, pk_rem hq (by decide) (by decide), show (q * 128 + w) % 128 = w by omega, h4 rfl, hd1.1, hd1.2.1, hd1.2.2]
      exact ⟨ans, stack, rfl, hC⟩
    · rw [if_neg (nI_ne (by omega) (by omega) hqr), px_nm, hw, px_kb2, px_nm, px_in hlt (by omega), px_nm, pk_mul]
      obtain ⟨g, hg, eg⟩ := gv_nI L (nI i) (nI j) (nI k)
      rw [eg, nI_add]
      unfold f_X3_gives_L73
      have hu1 : upd ans P (nI (rnd * 128 + g)) P = nI (rnd * 128 + g) := if_pos rfl
      rw [px_in hlt (by omega), px_nm, h128, nI_clamp (by omega), hu1, show (128 : Int32) = nI 128 from rfl, pk_rem (by omega) (by decide) (by decide), show (rnd * 128 + g) % 128 = g by omega]
      refine ⟨_, st, rfl, fun p hp => ?_⟩
      by_cases hpP : p = P
      · subst hpP
        exact ⟨rnd, g, hu1, by omega, Nat.le_refl _, fun _ => by rw [hd1.1, hd1.2.1, hd1.2.2, eg]⟩
      · obtain ⟨q', w', g1, g2, g3, g4⟩ := hC p hp
        exact ⟨q', w', (if_neg hpP).trans g1, g2, g3, g4⟩
