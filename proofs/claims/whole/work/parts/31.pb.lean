/-! texts: what a nonterminal that was read leaves behind -/
section PB
variable (sn : Nat) (b : Nat → Int32) (n : Nat) (x y z : Int32)
def RS (ko ks p : Nat) (D H : List Int32) (o dg0 : Nat) (v : Int32) (p' : Nat) : Prop :=
  p < p' ∧ p' ≤ n ∧ ∃ (E opl : List Int32) (j dg : Nat),
    po sn b (n - p) p D H o dg0 true = po sn b (n - p') p' (D ++ E) (List.replicate j 33 ++ (opl ++ H)) (o + j) dg false ∧
    (∀ q ∈ opl, ko ≤ rk q) ∧
    (∀ stk, ev x y z (E ++ List.replicate j (-33) ++ ng opl) stk = v :: stk) ∧
    (p' < n → isD (b p') → dg = 0 ∨ 4 ≤ dg) ∧
    (p' < n → rk (b p') < ks ∨ (rk (b p') = 3 ∧ ∃ l4 c rest, opl = l4 ++ c :: rest ∧ (∀ q ∈ l4, 4 ≤ rk q) ∧ rk c = 3))
end PB
section PB2
variable {sn : Nat} {b : Nat → Int32} {n : Nat} {x y z : Int32}
theorem RS_mono {ko ko' ks p : Nat} {D H : List Int32} {o dg0 : Nat} {v : Int32} {p' : Nat} (h : RS sn b n x y z ko ks p D H o dg0 v p') (hk : ko' ≤ ko) : RS sn b n x y z ko' ks p D H o dg0 v p' := by
  obtain ⟨h1, h2, E, opl, j, dg, h3, h4, h5, h6, h7⟩ := h
  exact ⟨h1, h2, E, opl, j, dg, h3, fun q hq => Nat.le_trans hk (h4 q hq), h5, h6, h7⟩
theorem RS_stop {ko ks p : Nat} {D H : List Int32} {o dg0 : Nat} {v : Int32} {p' : Nat} (h : RS sn b n x y z ko (ks + 1) p D H o dg0 v p') (hk : p' < n → rk (b p') ≠ ks) : RS sn b n x y z ko ks p D H o dg0 v p' := by
  obtain ⟨h1, h2, E, opl, j, dg, h3, h4, h5, h6, h7⟩ := h
  refine ⟨h1, h2, E, opl, j, dg, h3, h4, h5, h6, fun hp => ?_⟩
  rcases h7 hp with h8 | h8
  · have := hk hp
    exact Or.inl (by omega)
  · exact Or.inr h8
theorem rk_sign {c : Int32} (h : 1 ≤ rk c) : ¬ (48 ≤ c ∧ c ≤ 57) ∧ ¬ c = 41 ∧ ¬ c = 33 ∧ ¬ c = 40 ∧ (-c) < (-3) ∧ ¬ (-c) = (-33) ∧ - -c = c := by
  rcases rk_pos h with rfl | rfl | rfl | rfl | rfl | rfl | rfl | rfl | rfl | rfl <;> decide
theorem hd_app {l H : List Int32} (h : l ≠ []) : hd (l ++ H) = hd l := by
  cases l with
  | nil => exact absurd rfl h
  | cons a t => rfl
/-- the state behind a nonterminal, its pending signs closed -/
theorem cl_all {opl H D : List Int32} {j o r : Nat} (hH : hd H ≠ 33) (ho : ∀ q ∈ opl, 1 ≤ rk q) (ha : ∀ q ∈ opl, r ≤ rk q) (hr : rk (hd H) < r) :
    cF r (cN (List.replicate j 33 ++ (opl ++ H)) (o + j) D).2.1 (cN (List.replicate j 33 ++ (opl ++ H)) (o + j) D).1 = (D ++ List.replicate j (-33) ++ ng opl, H) ∧ (cN (List.replicate j 33 ++ (opl ++ H)) (o + j) D).2.2 = o := by
  have h33 : hd (opl ++ H) ≠ 33 := by
    cases opl with
    | nil => exact hH
    | cons a t => exact (rk_sign (ho a List.mem_cons_self)).2.2.1
  rw [cN_rep j h33]
  exact ⟨cF_all ha hr, rfl⟩
theorem RS_next {ko ks p : Nat} {D H : List Int32} {o dg0 : Nat} {v : Int32} {p' : Nat} (h : RS sn b n x y z ko ks p D H o dg0 v p') (hp : p' < n) (hc : 1 ≤ rk (b p')) (hko : (if rk (b p') = 3 then 4 else rk (b p')) ≤ ko) (hH : hd H ≠ 33) (hr : rk (hd H) < rk (b p')) :
    ∃ E', po sn b (n - p) p D H o dg0 true = po sn b (n - (p' + 1)) (p' + 1) (D ++ E') (b p' :: H) o 0 true ∧ ∀ stk, ev x y z E' stk = v :: stk := by
  obtain ⟨h1, h2, E, opl, j, dg, h3, h4, h5, h6, h7⟩ := h
  refine ⟨E ++ List.replicate j (-33) ++ ng opl, ?_, h5⟩
  obtain ⟨hd1, h41, -⟩ := rk_sign hc
  have hr1 : rk (hd H) < (if rk (b p') = 3 then 4 else rk (b p')) := by
    split <;> omega
  have hk1 : 1 ≤ (if rk (b p') = 3 then 4 else rk (b p')) := by split <;> omega
  obtain ⟨hcl, ho⟩ := cl_all (D := D ++ E) (j := j) (o := o) hH (fun q hq => Nat.le_trans hk1 (Nat.le_trans hko (h4 q hq))) (fun q hq => Nat.le_trans hko (h4 q hq)) hr1
  rw [h3, po_F hp]
  have h0 : ¬ rk (b p') = 0 := by omega
  have hno : ¬ (rk (b p') = 3 ∧ rk (hd H) = 3) := by omega
  simp only [stF, if_neg hd1, if_neg h41, if_neg h0, hcl, ho, if_neg hno, List.append_assoc]
theorem RS_join {ko ks p : Nat} {D H : List Int32} {o dg0 : Nat} {v v2 : Int32} {p1 p2 k : Nat} {E' : List Int32} (hlt : p ≤ p1)
    (hE : po sn b (n - p) p D H o dg0 true = po sn b (n - (p1 + 1)) (p1 + 1) (D ++ E') (b p1 :: H) o 0 true) (hev : ∀ stk, ev x y z E' stk = v :: stk)
    (h : RS sn b n x y z ko ks (p1 + 1) (D ++ E') (b p1 :: H) o 0 v2 p2) (hk : k ≤ ko) (hc : 1 ≤ rk (b p1)) (hkc : k ≤ rk (b p1)) : RS sn b n x y z k ks p D H o dg0 (jn (b p1) v v2) p2 := by
  obtain ⟨h1, h2, E, opl, j, dg, h3, h4, h5, h6, h7⟩ := h
  refine ⟨by omega, h2, E' ++ E, opl ++ [b p1], j, dg, ?_, ?_, ?_, h6, ?_⟩
  · rw [hE, h3]
    simp
  · intro q hq
    rcases List.mem_append.mp hq with hq | hq
    · exact Nat.le_trans hk (h4 q hq)
    · rw [List.mem_singleton.mp hq]; exact hkc
  · intro stk
    obtain ⟨-, -, -, -, s1, s2, s3⟩ := rk_sign hc
    have e1 : E' ++ E ++ List.replicate j (-33) ++ ng (opl ++ [b p1]) = E' ++ ((E ++ List.replicate j (-33) ++ ng opl) ++ [-(b p1)]) := by simp [ng]
    rw [e1, ev_app, hev, ev_app, h5, ev_one]
    simp only [ev1, if_pos s1, if_neg s2, s3]
  · intro hp
    rcases h7 hp with h8 | ⟨h8, l4, c, rest, rfl, h9, h10⟩
    · exact Or.inl h8
    · exact Or.inr ⟨h8, l4, c, rest ++ [b p1], by simp, h9, h10⟩
theorem RS_joinC {p : Nat} {D H : List Int32} {o dg0 : Nat} {v v2 : Int32} {p1 p2 : Nat} {E' : List Int32} (hlt : p ≤ p1)
    (hE : po sn b (n - p) p D H o dg0 true = po sn b (n - (p1 + 1)) (p1 + 1) (D ++ E') (b p1 :: H) o 0 true) (hev : ∀ stk, ev x y z E' stk = v :: stk)
    (h : RS sn b n x y z 4 4 (p1 + 1) (D ++ E') (b p1 :: H) o 0 v2 p2) (hc : rk (b p1) = 3) : RS sn b n x y z 3 3 p D H o dg0 (jn (b p1) v v2) p2 := by
  obtain ⟨h1, h2, E, opl, j, dg, h3, h4, h5, h6, h7⟩ := h
  refine ⟨by omega, h2, E' ++ E, opl ++ [b p1], j, dg, ?_, ?_, ?_, h6, ?_⟩
  · rw [hE, h3]
    simp
  · intro q hq
    rcases List.mem_append.mp hq with hq | hq
    · exact Nat.le_trans (by decide) (h4 q hq)
    · rw [List.mem_singleton.mp hq, hc]; decide
  · intro stk
    obtain ⟨-, -, -, -, s1, s2, s3⟩ := rk_sign (c := b p1) (by omega)
    have e1 : E' ++ E ++ List.replicate j (-33) ++ ng (opl ++ [b p1]) = E' ++ ((E ++ List.replicate j (-33) ++ ng opl) ++ [-(b p1)]) := by simp [ng]
    rw [e1, ev_app, hev, ev_app, h5, ev_one]
    simp only [ev1, if_pos s1, if_neg s2, s3]
  · intro hp
    by_cases h3 : rk (b p2) = 3
    · exact Or.inr ⟨h3, opl, b p1, [], rfl, h4, hc⟩
    · refine Or.inl ?_
      rcases h7 hp with h8 | ⟨h8, -⟩ <;> omega
/-- what a reader may give -/
def Out (sn : Nat) (b : Nat → Int32) (n : Nat) (x y z : Int32) (k p : Nat) (D H : List Int32) (o dg0 : Nat) (r : Option (Int32 × Int32 × Int32 × Int32)) : Prop :=
    (∃ (v : Int32) (p' : Nat), r = some (v, nI p', -1, nI o) ∧ RS sn b n x y z k k p D H o dg0 v p') ∨
    (∃ (v at' op' : Int32) (q : Nat), r = some (v, at', nI q, op') ∧ q ≤ n ∧ po sn b (n - p) p D H o dg0 true = (q, none))
/-- a nonterminal's reader, as the model has it -/
def OkF (sn : Nat) (b : Nat → Int32) (n : Nat) (x y z : Int32) (k m : Nat) (f : Int32 → Int32 → Int32 → Option (Int32 × Int32 × Int32 × Int32)) : Prop :=
  ∀ (p o dg0 : Nat) (D H : List Int32), p ≤ n → o ≤ 5 → 5 - o < m → (k ≤ 5 → rk (hd H) < k ∧ hd H ≠ 33) → Out sn b n x y z k p D H o dg0 (f (nI p) (-1) (nI o))
end PB2
