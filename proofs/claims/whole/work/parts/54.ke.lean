/-! what is shown -/
def sumN (f : Nat → Nat) : Nat → Nat
  | 0 => 0
  | n + 1 => sumN f n + f n
theorem sumN_le {f : Nat → Nat} {b : Nat} (h : ∀ j, f j ≤ b) : ∀ n, sumN f n ≤ b * n
  | 0 => Nat.le_refl _
  | n + 1 => by
    have h1 := sumN_le h n
    have h2 := h n
    show sumN f n + f n ≤ b * (n + 1)
    rw [Nat.mul_succ]
    omega
theorem sumN_congr {f g : Nat → Nat} : ∀ {n : Nat}, (∀ j, j < n → f j = g j) → sumN f n = sumN g n
  | 0, _ => rfl
  | n + 1, h => by
    show sumN f n + f n = sumN g n + g n
    rw [sumN_congr (fun j hj => h j (by omega)), h n (by omega)]
/-- what a cell counts -/
def seenF (L : List Int32) (C : Nat) (air : Nat → Nat) (c : Nat) : Nat := gN L (air c) (c / C) (c % C)
def shownN (L : List Int32) (R C : Nat) (air : Nat → Nat) : Nat := sumN (seenF L C air) (R * C)
theorem shownN_le (L : List Int32) {R C : Nat} (hR : R < 6) (hC : C < 6) (air : Nat → Nat) : shownN L R C air ≤ 2475 := by
  have h25 := RC25 hR hC
  have := sumN_le (f := seenF L C air) (b := 99) (fun j => (gN_eq L _ _ _).2) (R * C)
  unfold shownN
  omega
theorem rc_div {row col C : Nat} (h : col < C) : (row * C + col) / C = row ∧ (row * C + col) % C = col := by
  have hC : 0 < C := by omega
  constructor
  · rw [Nat.mul_comm, Nat.mul_add_div hC, Nat.div_eq_of_lt h, Nat.add_zero]
  · rw [Nat.mul_comm, Nat.mul_add_mod, Nat.mod_eq_of_lt h]
section KE1
variable {L : List Int32} {R C rnd : Nat} {steps : Nat → Int32} {air : Nat → Nat}
theorem shown_in (hL : LC 1 rnd L steps) (hR : R < 6) (hC : C < 6) {row : Nat} (hrow : row < R) (kk : Int32 → Int32 → Int32 → (Nat → Int32) → (Nat → Int32) → Option (Int32 × (Nat → Int32) × (Nat → Int32))) :
    ∀ (q f col : Nat) (ans st : Nat → Int32), col + q = C → q < f → CO L 5 rnd ans →
    ∃ ans' st', f_X10_shownBy_L19 kk 2500 (nI R) (nI C) (lf air) (nI L.length) (nI 5) (nI rnd) steps f (nI (sumN (seenF L C air) (row * C + col))) (nI (row * C + col)) (nI row) (nI col) ans st = kk (nI (sumN (seenF L C air) (row * C + C))) (nI (row * C + C)) (nI (row + 1)) ans' st' ∧ CO L 5 rnd ans' := by
  have h25 := RC25 hR hC
  intro q
  induction q with
  | zero =>
    intro f col ans st hq hf hCO
    obtain ⟨f', rfl⟩ : ∃ f', f = f' + 1 := ⟨f - 1, by omega⟩
    have : col = C := by omega
    subst this
    unfold f_X10_shownBy_L19
    rw [if_pos (show nI col ≤ nI col from Int32.le_refl _), px_nm, nI_1]
    exact ⟨ans, st, rfl, hCO⟩
  | succ q ih =>
    intro f col ans st hq hf hCO
    obtain ⟨f', rfl⟩ : ∃ f', f = f' + 1 := ⟨f - 1, by omega⟩
    have hcol : col < C := by omega
    have hcell : row * C + col < R * C := by
      have : row * C + C ≤ R * C := by rw [← Nat.succ_mul]; exact Nat.mul_le_mul_right C hrow
      omega
    obtain ⟨e1, e2⟩ := rc_div (row := row) hcol
    obtain ⟨an, s1, hg, hco⟩ := gives_S hL hCO (air (row * C + col)) row col st
    unfold f_X10_shownBy_L19
    rw [if_neg (nI_ge hcol (by omega)), has_in hR hC hcell, px_kb, if_neg (by decide), px_in (by omega) (by decide), px_nm, nI_clamp (by omega), lf_at, hg, px_kb3, px_nm, px_nm, px_nm, nI_add, nI_1, nI_1]
    have := ih f' (col + 1) an s1 (by omega) (by omega) hco
    have e3 : sumN (seenF L C air) (row * C + (col + 1)) = sumN (seenF L C air) (row * C + col) + gN L (air (row * C + col)) row col := by
      show sumN (seenF L C air) (row * C + col) + seenF L C air (row * C + col) = _
      unfold seenF
      rw [e1, e2]
    rw [e3] at this
    exact this
theorem shown_out (hL : LC 1 rnd L steps) (hR : R < 6) (hC : C < 6) : ∀ (q f row : Nat) (ans st : Nat → Int32), row + q = R → q < f → CO L 5 rnd ans →
    ∃ ans' st', f_X10_shownBy_L7 2500 (nI R) (nI C) (lf air) (nI L.length) (nI 5) (nI rnd) steps f (nI (sumN (seenF L C air) (row * C))) (nI (row * C)) (nI row) ans st = some (nI (shownN L R C air), ans', st') ∧ CO L 5 rnd ans' := by
  intro q
  induction q with
  | zero =>
    intro f row ans st hq hf hCO
    obtain ⟨f', rfl⟩ : ∃ f', f = f' + 1 := ⟨f - 1, by omega⟩
    have : row = R := by omega
    subst this
    unfold f_X10_shownBy_L7
    rw [if_pos (show nI row ≤ nI row from Int32.le_refl _)]
    exact ⟨ans, st, rfl, hCO⟩
  | succ q ih =>
    intro f row ans st hq hf hCO
    obtain ⟨f', rfl⟩ : ∃ f', f = f' + 1 := ⟨f - 1, by omega⟩
    unfold f_X10_shownBy_L7
    rw [if_neg (nI_ge (a := row) (b := R) (by omega) (by omega))]
    obtain ⟨an, s1, h1, h2⟩ := shown_in (air := air) hL hR hC (row := row) (by omega) (f_X10_shownBy_L7 2500 (nI R) (nI C) (lf air) (nI L.length) (nI 5) (nI rnd) steps f') C gFuel 0 ans st (by omega) (by unfold gFuel; omega) hCO
    rw [Nat.add_zero, nI_0] at h1
    rw [h1]
    obtain ⟨a2, s2, h3, h4⟩ := ih f' (row + 1) an s1 (by omega) (by omega) h2
    rw [Nat.succ_mul] at h3
    exact ⟨a2, s2, h3, h4⟩
theorem shownBy_eq (hL : LC 1 rnd L steps) (hR : R < 6) (hC : C < 6) (ans st : Nat → Int32) (hCO : CO L 5 rnd ans) :
    ∃ ans' st', f_X10_shownBy 2500 (nI R) (nI C) (lf air) (nI L.length) (nI 5) (nI rnd) ans st steps = some (nI (shownN L R C air), ans', st') ∧ CO L 5 rnd ans' := by
  obtain ⟨a, s, h1, h2⟩ := shown_out (air := air) hL hR hC R gFuel 0 ans st (by omega) (by unfold gFuel; omega) hCO
  rw [Nat.zero_mul] at h1
  exact ⟨a, s, h1, h2⟩
end KE1
/-- what the model remembers of what is seen -/
def KS (L : List Int32) (C : Nat) (ik : Int32) (sk : Nat → Int32) : Prop := ik = 0 ∨ ∀ i, i < 2500 → sk i = -1 ∨ sk i = nI (gN L (i % 100) (i / 100 / C) (i / 100 % C))
section KE2
variable {L : List Int32} {R C holes out eb : Nat} {air paste : Nat → Nat} {d : Nat → Int32} {ik : Int32}
theorem cells_m (hW : MW d R C holes out eb air paste) : f_X12_cells d = some (nI (R * C)) := by
  have c0 : ∀ {β : Type} (k : Option β), chi (0 : Int32) 244 k = k := fun k => px_in (n := 0) (by decide) (by decide) k
  have c1 : ∀ {β : Type} (k : Option β), chi (1 : Int32) 244 k = k := fun k => px_in (n := 1) (by decide) (by decide) k
  have z0 : (0 : Int32).toNatClampNeg = 0 := by decide
  have z1 : (1 : Int32).toNatClampNeg = 1 := by decide
  unfold f_X12_cells
  simp only [c0, c1, z0, z1, px_nm, hW.1, hW.2.1, pk_mul]
theorem seenOf_m (hL : LM 1 L d) (hW : MW d R C holes out eb air paste) (hR : R < 6) (hC : C < 6) (hC0 : 0 < C) (ha : ∀ j, air j ≤ 99) {sk : Nat → Int32} (hK : KS L C ik sk) {c : Nat} (hc : c < R * C) (vb va vs vf vo vi : Int32) (names : Nat → Int32) :
    ∃ (x1 x2 x3 x4 x5 x6 : Int32) (y sk' : Nat → Int32), f_X12_seenOf (nI c) vb va vs vf vo vi ik d names sk = some (nI (seenF L C air c), x1, x2, x3, x4, x5, x6, y, sk') ∧ KS L C ik sk' := by
  have h25 := RC25 hR hC
  have hac := ha c
  have c1 : ∀ {β : Type} (k : Option β), chi (1 : Int32) 244 k = k := fun k => px_in (n := 1) (by decide) (by decide) k
  have z1 : (1 : Int32).toNatClampNeg = 1 := by decide
  have h10 : d (10 + c) = nI (air c) := hW.2.2.2.2.2.1 c (by omega)
  have e1 : (100 : Int32) * nI c = nI (100 * c) := pk_mul 100 c
  have hCn : ¬ nI C = 0 := nI_ne0 hC0 (by omega)
  have ed : nI c / nI C = nI (c / C) := pk_div (by omega) hC0 (by omega)
  have em : nI c - nI (c / C) * nI C = nI (c % C) := by rw [← ed]; exact pk_rem (by omega) hC0 (by omega)
  obtain ⟨x1, x2, x3, x4, x5, x6, y, hg⟩ := tg_eq (u := 1) (by decide) hL (nI (air c)) (nI (c / C)) (nI (c % C)) vb va vs vf vo vi names
  rw [(gN_eq L (air c) (c / C) (c % C)).1] at hg
  have miss : ∃ (x1 x2 x3 x4 x5 x6 : Int32) (y sk' : Nat → Int32), f_X12_seenOf_L38 (nI c) d (nI (100 * c + air c)) vb va vs vf vo vi names sk = some (nI (seenF L C air c), x1, x2, x3, x4, x5, x6, y, sk') ∧ KS L C ik sk' := by
    unfold f_X12_seenOf_L38
    simp only [n10, px_nm, px_in (show 10 + c < 244 by omega) (show 244 < 2 ^ 31 by decide), nI_clamp (show 10 + c < 2 ^ 31 by omega), h10, c1, z1, hW.2.1, px_chz hCn, ed, em]
    rw [show (1 : Int32) = nI 1 from rfl, hg, px_kb8, px_in (by omega) (by decide), nI_clamp (by omega)]
    refine ⟨_, _, _, _, _, _, _, _, rfl, ?_⟩
    rcases hK with h0 | hK
    · exact Or.inl h0
    · refine Or.inr fun i hi => ?_
      by_cases e : i = 100 * c + air c
      · subst e
        refine Or.inr ?_
        rw [show (100 * c + air c) / 100 = c by omega, show (100 * c + air c) % 100 = air c by omega]
        exact if_pos rfl
      · rw [show upd sk (100 * c + air c) _ i = sk i from if_neg e]
        exact hK i hi
  unfold f_X12_seenOf
  simp only [px_nm, n10, px_in (show 10 + c < 244 by omega) (show 244 < 2 ^ 31 by decide), nI_clamp (show 10 + c < 2 ^ 31 by omega), h10, e1, nI_add]
  by_cases h0 : ik = 0
  · rw [if_pos h0]; exact miss
  · have hK0 := hK
    rw [if_neg h0, px_in (by omega) (by decide), nI_clamp (by omega), px_in (by omega) (by decide)]
    rcases hK with h9 | hK'
    · exact absurd h9 h0
    · rcases hK' (100 * c + air c) (by omega) with h1 | h1
      · rw [if_pos (by rw [h1]; decide)]; exact miss
      · rw [show (100 * c + air c) / 100 = c by omega, show (100 * c + air c) % 100 = air c by omega] at h1
        have hle := (gN_eq L (air c) (c / C) (c % C)).2
        rw [if_neg (by rw [h1]; exact nI_pos (by omega)), h1]
        exact ⟨_, _, _, _, _, _, _, _, rfl, hK0⟩
theorem seen_run (hL : LM 1 L d) (hW : MW d R C holes out eb air paste) (hR : R < 6) (hC : C < 6) (hC0 : 0 < C) (ha : ∀ j, air j ≤ 99) : ∀ (q f c : Nat) (vb va vs vf vo vi : Int32) (names sk : Nat → Int32), c + q = R * C → q < f → KS L C ik sk →
    ∃ (x1 x2 x3 x4 x5 x6 : Int32) (y sk' : Nat → Int32), f_X12_seen_L4 ik d f (nI (sumN (seenF L C air) c)) (nI c) vb va vs vf vo vi names sk = some (nI (shownN L R C air), x1, x2, x3, x4, x5, x6, y, sk') ∧ KS L C ik sk' := by
  have h25 := RC25 hR hC
  intro q
  induction q with
  | zero =>
    intro f c vb va vs vf vo vi names sk hq hf hK
    obtain ⟨f', rfl⟩ : ∃ f', f = f' + 1 := ⟨f - 1, by omega⟩
    have : c = R * C := by omega
    subst this
    unfold f_X12_seen_L4
    rw [cells_m hW, px_kb, if_pos (show nI (R * C) ≤ nI (R * C) from Int32.le_refl _)]
    exact ⟨_, _, _, _, _, _, _, _, rfl, hK⟩
  | succ q ih =>
    intro f c vb va vs vf vo vi names sk hq hf hK
    obtain ⟨f', rfl⟩ : ∃ f', f = f' + 1 := ⟨f - 1, by omega⟩
    obtain ⟨x1, x2, x3, x4, x5, x6, y, sk', h1, h2⟩ := seenOf_m hL hW hR hC hC0 ha hK (c := c) (by omega) vb va vs vf vo vi names
    unfold f_X12_seen_L4
    rw [cells_m hW, px_kb, if_neg (nI_ge (a := c) (b := R * C) (by omega) (by omega)), h1, px_kb9, px_nm, px_nm, nI_add, nI_1]
    exact ih f' (c + 1) x1 x2 x3 x4 x5 x6 y sk' (by omega) (by omega) h2
theorem seen_m (hL : LM 1 L d) (hW : MW d R C holes out eb air paste) (hR : R < 6) (hC : C < 6) (hC0 : 0 < C) (ha : ∀ j, air j ≤ 99) {sk : Nat → Int32} (hK : KS L C ik sk) (vb va vs vf vo vi : Int32) (names : Nat → Int32) :
    ∃ (x1 x2 x3 x4 x5 x6 : Int32) (y sk' : Nat → Int32), f_X12_seen vb va vs vf vo vi ik d names sk = some (nI (shownN L R C air), x1, x2, x3, x4, x5, x6, y, sk') ∧ KS L C ik sk' := by
  have h25 := RC25 hR hC
  exact seen_run hL hW hR hC hC0 ha (R * C) gFuel 0 vb va vs vf vo vi names sk (by omega) (by unfold gFuel; omega) hK
end KE2
