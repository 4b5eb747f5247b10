/-! the wall: what is beside, kinds -/
def oI : Option Nat → Int32
  | none => -1
  | some k => nI k
def nb (R C c w : Nat) : Option Nat :=
  if w = 0 then (if c / C = 0 then none else some (c - C))
  else if w = 1 then (if c % C + 1 = C then none else some (c + 1))
  else if w = 2 then (if c / C + 1 = R then none else some (c + C))
  else (if c % C = 0 then none else some (c - 1))
theorem beside_all : ∀ R, R < 6 → ∀ C, C < 6 → ∀ c, c < R * C → ∀ w, w < 4 → f_X10_beside (nI c) (nI w) (nI R) (nI C) = some (oI (nb R C c w)) := by decide +kernel
theorem nb_all : ∀ R, R < 6 → ∀ C, C < 6 → ∀ c, c < R * C → ∀ w, w < 4 → ∀ k, nb R C c w = some k → k < R * C ∧ k ≠ c := by
  intro R hR C hC c hc w hw k hk
  have h : ∀ R, R < 6 → ∀ C, C < 6 → ∀ c, c < R * C → ∀ w, w < 4 → (match nb R C c w with | none => true | some k => decide (k < R * C ∧ k ≠ c)) = true := by decide +kernel
  have h1 := h R hR C hC c hc w hw
  rw [hk] at h1
  exact of_decide_eq_true h1
def d2 (r c : Int32) : Nat → Int32 := fun k => if k = 0 then r else c
theorem nextTo_d (a w : Int32) (d : Nat → Int32) : f_X12_nextTo a w d = f_X12_nextTo a w (d2 (d 0) (d 1)) := rfl
theorem nextTo_all : ∀ R, R < 6 → ∀ C, C < 6 → ∀ c, c < R * C → ∀ w, w < 4 → f_X12_nextTo (nI c) (nI w) (d2 (nI R) (nI C)) = some (oI (nb R C c w)) := by decide +kernel
theorem has_eq (x : Int32) {R C : Nat} (hR : R < 6) (hC : C < 6) : f_X10_has x (nI R) (nI C) = some (bI x (R * C)) := by
  have hRC : R * C ≤ 25 := Nat.le_trans (Nat.mul_le_mul (Nat.le_of_lt_succ hR) (Nat.le_of_lt_succ hC)) (by decide)
  unfold f_X10_has
  rw [pk_mul]
  by_cases h : vp_in x (R * C)
  · obtain ⟨j, hj, rfl⟩ := vp_in_of h (by omega)
    rw [if_neg (nI_pos (by omega)), if_neg (nI_ge hj (by omega)), if_neg (show ¬ (25 : Int32) ≤ nI j from nI_ge (b := 25) (by omega) (by decide)), bI_in h]
  · rw [bI_out h]
    by_cases h0 : x < 0
    · rw [if_pos h0]
    · obtain ⟨j, hj, rfl⟩ := nI_of h0
      rw [if_neg h0]
      by_cases h1 : nI (R * C) ≤ nI j
      · rw [if_pos h1]
      · exact absurd (vp_in_nI (n := j) (N := R * C) (Nat.lt_of_not_le fun q => h1 ((nI_leI (a := R * C) (b := j) (by omega) hj).mpr q)) (by omega)) h
theorem has_in {j R C : Nat} (hR : R < 6) (hC : C < 6) (hj : j < R * C) : f_X10_has (nI j) (nI R) (nI C) = some 1 := by
  have hRC : R * C ≤ 25 := Nat.le_trans (Nat.mul_le_mul (Nat.le_of_lt_succ hR) (Nat.le_of_lt_succ hC)) (by decide)
  rw [has_eq _ hR hC, bI_nI hj (by omega)]
theorem has_no {R C : Nat} (hR : R < 6) (hC : C < 6) : f_X10_has (-1) (nI R) (nI C) = some 0 := by
  rw [has_eq _ hR hC, bI_out (fun q => q (Or.inl (by decide)))]
theorem has_end {R C : Nat} (hR : R < 6) (hC : C < 6) : f_X10_has (nI (R * C)) (nI R) (nI C) = some 0 := by
  have hRC : R * C ≤ 25 := Nat.le_trans (Nat.mul_le_mul (Nat.le_of_lt_succ hR) (Nat.le_of_lt_succ hC)) (by decide)
  rw [has_eq _ hR hC, bI_out (fun q => q (Or.inr (by rw [nI_clamp (by omega)]; exact Nat.le_refl _)))]
/-- kinds -/
def letsN (k a m : Nat) : Nat := if k = 2 then (if m + 1 < a then m + 1 else a) else if k = 5 then a else 0
def tearsN (k p : Nat) : Nat := if k = 2 then (if p < 3 then 1 else 0) else if k = 5 then (if p < 3 then 2 else 1) else if k = 6 then (if 7 < p then 1 else 0) else 0
def reachN (k m : Nat) : Nat := if k = 3 then 2 else if k = 6 then 2 + m % 3 else 1
def movesN (k a g m : Nat) : Nat :=
  let v := if k = 0 then g else if k = 1 then g + 1 else if k = 2 then 0 else if k = 3 then a else if k = 4 then (g + 1) / 2 else if k = 5 then 0 else a - m
  if v < a then v else a
theorem lets_all : ∀ k, k < 7 → ∀ a, a < 100 → ∀ m, m < 10 → (∃ r, f_TD_lets (nI k) (nI a) (nI m) = some r ∧ (if r < nI a then r else nI a) = nI (letsN k a m)) := by
  intro k hk a ha m hm
  match k, hk with
  | 0, _ => exact ⟨_, rfl, by by_cases h : (0 : Int32) < nI a
                              · rw [if_pos h]; rfl
                              · rw [if_neg h]
                                have h1 : ¬ 0 < a := fun q => h ((nI_ltI (a := 0) (by decide) (by omega)).mpr q)
                                have : a = 0 := by omega
                                subst this; rfl⟩
  | 1, _ => exact ⟨_, rfl, by by_cases h : (0 : Int32) < nI a
                              · rw [if_pos h]; rfl
                              · rw [if_neg h]
                                have h1 : ¬ 0 < a := fun q => h ((nI_ltI (a := 0) (by decide) (by omega)).mpr q)
                                have : a = 0 := by omega
                                subst this; rfl⟩
  | 2, _ =>
    refine ⟨nI m + 1, rfl, ?_⟩
    rw [nI_1]
    show _ = nI (if m + 1 < a then m + 1 else a)
    by_cases h : m + 1 < a
    · rw [if_pos (nI_lt h (by omega)), if_pos h]
    · rw [if_neg (nI_nlt (by omega) (by omega)), if_neg h]
  | 3, _ => exact ⟨_, rfl, by by_cases h : (0 : Int32) < nI a
                              · rw [if_pos h]; rfl
                              · rw [if_neg h]
                                have h1 : ¬ 0 < a := fun q => h ((nI_ltI (a := 0) (by decide) (by omega)).mpr q)
                                have : a = 0 := by omega
                                subst this; rfl⟩
  | 4, _ => exact ⟨_, rfl, by by_cases h : (0 : Int32) < nI a
                              · rw [if_pos h]; rfl
                              · rw [if_neg h]
                                have h1 : ¬ 0 < a := fun q => h ((nI_ltI (a := 0) (by decide) (by omega)).mpr q)
                                have : a = 0 := by omega
                                subst this; rfl⟩
  | 5, _ => exact ⟨nI a, rfl, by rw [if_neg (show ¬ nI a < nI a from Int32.lt_irrefl)]; rfl⟩
  | 6, _ => exact ⟨_, rfl, by by_cases h : (0 : Int32) < nI a
                              · rw [if_pos h]; rfl
                              · rw [if_neg h]
                                have h1 : ¬ 0 < a := fun q => h ((nI_ltI (a := 0) (by decide) (by omega)).mpr q)
                                have : a = 0 := by omega
                                subst this; rfl⟩
theorem tears_all : ∀ k, k < 7 → ∀ p, p < 10 → f_TD_tears (nI k) (nI p) = some (nI (tearsN k p)) := by decide +kernel
theorem reach_all : ∀ k, k < 7 → ∀ m, m < 10 → f_TD_reach (nI k) (nI m) = some (nI (reachN k m)) := by decide +kernel
theorem half_all : ∀ g, g < 101 → nI g / 2 = nI (g / 2) := by decide +kernel
theorem moves_all {k a g m : Nat} (hk : k < 7) (ha : a < 100) (hg : g < 100) (hm : m < 10) : ∃ r, f_TD_moves (nI k) (nI a) (nI g) (nI m) = some r ∧ (if r < nI a then r else nI a) = nI (movesN k a g m) := by
  have fin : ∀ v : Nat, v < 2 ^ 31 → (if nI v < nI a then nI v else nI a) = nI (if v < a then v else a) := by
    intro v hv
    by_cases h : v < a
    · rw [if_pos (nI_lt h (by omega)), if_pos h]
    · rw [if_neg (nI_nlt (by omega) (by omega)), if_neg h]
  match k, hk with
  | 0, _ => exact ⟨nI g, rfl, fin g (by omega)⟩
  | 1, _ => exact ⟨nI g + 1, rfl, by rw [nI_1]; exact fin (g + 1) (by omega)⟩
  | 2, _ => exact ⟨nI 0, rfl, fin 0 (by omega)⟩
  | 3, _ => exact ⟨nI a, rfl, fin a (by omega)⟩
  | 4, _ =>
    have h : (nI g + 1) / 2 = nI ((g + 1) / 2) := by rw [nI_1]; exact half_all (g + 1) (by omega)
    exact ⟨(nI g + 1) / 2, rfl, by rw [h]; exact fin ((g + 1) / 2) (by omega)⟩
  | 5, _ => exact ⟨nI 0, rfl, fin 0 (by omega)⟩
  | 6, _ =>
    refine ⟨_, rfl, ?_⟩
    by_cases h : m < a
    · have e : nI a - nI m = nI (a - m) := pk_sub (by omega)
      have h0 : 0 < nI a - nI m := by rw [e]; exact nI_lt (a := 0) (by omega) (by omega)
      rw [if_pos h0, e]
      exact fin (a - m) (by omega)
    · have h0 : ¬ 0 < nI a - nI m := by
        by_cases h2 : a = m
        · subst h2
          rw [pk_sub (Nat.le_refl _), Nat.sub_self]
          decide
        · have := pk_sneg (a := a) (b := m) (by omega) (by omega)
          exact fun q => absurd (Int32.lt_trans q this) Int32.lt_irrefl
      rw [if_neg h0]
      have := fin 0 (by omega)
      show _ = nI (if a - m < a then a - m else a)
      rw [show a - m = 0 by omega]
      exact this
