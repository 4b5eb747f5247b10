/-! texts: the model's readers, level by level -/
section PC
variable {sn : Nat} {b : Nat → Int32} {n base : Nat} {d names : Nat → Int32} {m : Nat}
  {uu : Int32 → Int32 → Int32 → Int32 → Int32 → Int32 → (Nat → Int32) → (Nat → Int32) → Option (Int32 × Int32 × Int32 × Int32)}
/-- the tape that is read, and how deep a reader goes -/
def TP (b : Nat → Int32) (n base : Nat) (d : Nat → Int32) : Prop := n ≤ 50 ∧ base + n ≤ 244 ∧ (∀ i, i < n → d (base + i) = b i) ∧ ∀ i, i < n → ∃ k, k < 256 ∧ b i = nI k
theorem here_at (h : TP b n base d) {p : Nat} (hp : p < n) : f_X12_here (nI base) (nI p) (nI n) (-1) d = some (b p) := by
  obtain ⟨h1, h2, h3, -⟩ := h
  unfold f_X12_here
  rw [if_neg (nI_ge hp (by omega)), if_neg (by decide), px_nm, nI_add, px_in (by omega) (by decide), px_nm, nI_clamp (by omega), h3 p hp]
theorem here_end (h : TP b n base d) {p : Nat} (hp : n ≤ p) (hp2 : p < 2 ^ 31) (flt : Int32) : f_X12_here (nI base) (nI p) (nI n) flt d = some (-1) := by
  unfold f_X12_here
  rw [if_pos (nI_le hp hp2)]
theorem here_flt (q : Nat) (hq : q ≤ n) (hn : n ≤ 50) (at' : Int32) : f_X12_here (nI base) at' (nI n) (nI q) d = some (-1) := by
  unfold f_X12_here
  by_cases h : nI n ≤ at'
  · rw [if_pos h]
  · rw [if_neg h, if_pos (nI_pos' (by omega))]
theorem byte_ne (h : TP b n base d) {p : Nat} (hp : p < n) : ¬ b p = -1 := by
  obtain ⟨k, hk, e⟩ := h.2.2.2 p hp
  rw [e]
  intro q
  have h1 := congrArg Int32.toInt q
  rw [nI_toInt (by omega)] at h1
  have h2 : (-1 : Int32).toInt = -1 := by decide
  omega
theorem jn_mul (v w : Int32) : jn 42 v w = v * w := by
  simp [jn, f_X3_joined]
theorem jn_div (v w : Int32) : jn 47 v w = if w = 0 then 0 else v / w := by
  by_cases h : w = 0
  · simp [jn, f_X3_joined, h]
  · simp [jn, f_X3_joined, h, chz]
theorem jn_mod (v w : Int32) : jn 37 v w = if w = 0 then 0 else v - v / w * w := by
  by_cases h : w = 0
  · simp [jn, f_X3_joined, h]
  · simp [jn, f_X3_joined, h, chz]
theorem jn_add (v w : Int32) : jn 43 v w = v + w := by simp [jn, f_X3_joined]
theorem jn_sub (v w : Int32) : jn 45 v w = v - w := by simp [jn, f_X3_joined]
theorem jn_lt (v w : Int32) : jn 60 v w = if w ≤ v then 0 else 1 := by
  by_cases h : w ≤ v <;> simp [jn, f_X3_joined, h]
theorem jn_eq (v w : Int32) : jn 61 v w = if v = w then 1 else 0 := by
  by_cases h : v = w <;> simp [jn, f_X3_joined, h]
theorem jn_gt (v w : Int32) : jn 62 v w = if v ≤ w then 0 else 1 := by
  by_cases h : v ≤ w <;> simp [jn, f_X3_joined, h]
theorem jn_and (v w : Int32) : jn 38 v w = if v = 0 then 0 else if w = 0 then 0 else 1 := by
  by_cases h : v = 0 <;> by_cases h2 : w = 0 <;> simp [jn, f_X3_joined, h, h2]
theorem jn_or (v w : Int32) : jn 124 v w = if v = 0 then (if w = 0 then 0 else 1) else 1 := by
  by_cases h : v = 0 <;> by_cases h2 : w = 0 <;> simp [jn, f_X3_joined, f_X3_joined_L203, h, h2]
/-- a loop that finds the fault ends at once; a loop's round -/
theorem prod_flt (hn : n ≤ 50) {q : Nat} (hq : q ≤ n) (k : Nat) (v at' op : Int32) (is : Int32) : f_X12_product_L5 uu (nI base) (nI n) is d names (k + 1) v at' (nI q) op = some (v, at', nI q, op) := by
  have h1 : f_X12_here (nI base) at' (nI n) (nI q) d = some (-1) := here_flt q hq hn at'
  simp only [f_X12_product_L5, h1, px_kb, if_neg (show ¬ (-1 : Int32) = 42 by decide), if_neg (show ¬ (-1 : Int32) = 47 by decide), if_neg (show ¬ (-1 : Int32) = 37 by decide)]
theorem prod_32 (h : TP b n base d) {p : Nat} (hp : p < n) (hc : b p = 42 ∨ b p = 47 ∨ b p = 37) {kk : Int32 → Int32 → Int32 → Int32 → Option (Int32 × Int32 × Int32 × Int32)} {is v op r a f o : Int32}
    (hu : uu (nI base) (nI (p + 1)) (nI n) (-1) op is d names = some (r, a, f, o)) : f_X12_product_L32 uu kk (nI base) (nI n) is d names v (nI p) (-1) op = kk (jn (b p) v r) a f o := by
  unfold f_X12_product_L32
  rw [here_at h hp, px_kb, px_nm, ← nI_succ, hu]
  show (if b p = 42 then _ else _) = _
  rcases hc with e | e | e
  · rw [e, if_pos rfl, px_nm, jn_mul]
  · rw [e, if_neg (by decide), jn_div]
    by_cases h0 : r = 0
    · rw [if_pos h0, if_pos h0]
    · rw [if_neg h0, if_neg h0, if_pos rfl, px_chz h0, px_nm]
  · rw [e, if_neg (by decide), jn_mod]
    by_cases h0 : r = 0
    · rw [if_pos h0, if_pos h0]
    · rw [if_neg h0, if_neg h0, if_neg (by decide), px_chz h0, px_nm]
theorem rk_5 {c : Int32} (h : rk c = 5) : c = 42 ∨ c = 47 ∨ c = 37 := by
  rcases rk_pos (x := c) (by omega) with rfl | rfl | rfl | rfl | rfl | rfl | rfl | rfl | rfl | rfl <;> revert h <;> decide
theorem rk_4 {c : Int32} (h : rk c = 4) : c = 43 ∨ c = 45 := by
  rcases rk_pos (x := c) (by omega) with rfl | rfl | rfl | rfl | rfl | rfl | rfl | rfl | rfl | rfl <;> revert h <;> decide
theorem rk_3 {c : Int32} (h : rk c = 3) : c = 60 ∨ c = 61 ∨ c = 62 := by
  rcases rk_pos (x := c) (by omega) with rfl | rfl | rfl | rfl | rfl | rfl | rfl | rfl | rfl | rfl <;> revert h <;> decide
theorem prod_go (h : TP b n base d) {p : Nat} (hp : p < n) (hc : rk (b p) = 5) (k : Nat) (is v op : Int32) : f_X12_product_L5 uu (nI base) (nI n) is d names (k + 1) v (nI p) (-1) op = f_X12_product_L32 uu (f_X12_product_L5 uu (nI base) (nI n) is d names k) (nI base) (nI n) is d names v (nI p) (-1) op := by
  simp only [f_X12_product_L5, here_at h hp, px_kb]
  rcases rk_5 hc with e | e | e
  · rw [if_pos e]
  · rw [if_neg (by rw [e]; decide), if_pos e]
  · rw [if_neg (by rw [e]; decide), if_neg (by rw [e]; decide), if_pos e]
theorem prod_stop (h : TP b n base d) {p : Nat} (hp : p < n) (hc : rk (b p) ≠ 5) (k : Nat) (is v op : Int32) : f_X12_product_L5 uu (nI base) (nI n) is d names (k + 1) v (nI p) (-1) op = some (v, nI p, -1, op) := by
  simp only [f_X12_product_L5, here_at h hp, px_kb]
  rw [if_neg (fun e => hc (by rw [e]; decide)), if_neg (fun e => hc (by rw [e]; decide)), if_neg (fun e => hc (by rw [e]; decide))]
theorem prod_end (h : TP b n base d) (k : Nat) (is v op : Int32) : f_X12_product_L5 uu (nI base) (nI n) is d names (k + 1) v (nI n) (-1) op = some (v, nI n, -1, op) := by
  have h1 : f_X12_here (nI base) (nI n) (nI n) (-1) d = some (-1) := here_end h (Nat.le_refl n) (by have := h.1; omega) _
  simp only [f_X12_product_L5, h1, px_kb, if_neg (show ¬ (-1 : Int32) = 42 by decide), if_neg (show ¬ (-1 : Int32) = 47 by decide), if_neg (show ¬ (-1 : Int32) = 37 by decide)]
theorem sum_go (h : TP b n base d) {p : Nat} (hp : p < n) (hc : rk (b p) = 4) (k : Nat) (is v op : Int32) : f_X12_sum_L5 uu (nI base) (nI n) is d names (k + 1) v (nI p) (-1) op = f_X12_sum_L23 uu (f_X12_sum_L5 uu (nI base) (nI n) is d names k) (nI base) (nI n) is d names v (nI p) (-1) op := by
  simp only [f_X12_sum_L5, here_at h hp, px_kb]
  rcases rk_4 hc with e | e
  · rw [if_pos e]
  · rw [if_neg (by rw [e]; decide), if_pos e]
theorem sum_stop (h : TP b n base d) {p : Nat} (hp : p < n) (hc : rk (b p) ≠ 4) (k : Nat) (is v op : Int32) : f_X12_sum_L5 uu (nI base) (nI n) is d names (k + 1) v (nI p) (-1) op = some (v, nI p, -1, op) := by
  simp only [f_X12_sum_L5, here_at h hp, px_kb]
  rw [if_neg (fun e => hc (by rw [e]; decide)), if_neg (fun e => hc (by rw [e]; decide))]
theorem sum_end (h : TP b n base d) (k : Nat) (is v op : Int32) : f_X12_sum_L5 uu (nI base) (nI n) is d names (k + 1) v (nI n) (-1) op = some (v, nI n, -1, op) := by
  have h1 : f_X12_here (nI base) (nI n) (nI n) (-1) d = some (-1) := here_end h (Nat.le_refl n) (by have := h.1; omega) _
  simp only [f_X12_sum_L5, h1, px_kb, if_neg (show ¬ (-1 : Int32) = 43 by decide), if_neg (show ¬ (-1 : Int32) = 45 by decide)]
theorem sum_flt (hn : n ≤ 50) {q : Nat} (hq : q ≤ n) (k : Nat) (v at' op : Int32) (is : Int32) : f_X12_sum_L5 uu (nI base) (nI n) is d names (k + 1) v at' (nI q) op = some (v, at', nI q, op) := by
  have h1 : f_X12_here (nI base) at' (nI n) (nI q) d = some (-1) := here_flt q hq hn at'
  simp only [f_X12_sum_L5, h1, px_kb, if_neg (show ¬ (-1 : Int32) = 43 by decide), if_neg (show ¬ (-1 : Int32) = 45 by decide)]
theorem sum_23 (h : TP b n base d) {p : Nat} (hp : p < n) (hc : b p = 43 ∨ b p = 45) {kk : Int32 → Int32 → Int32 → Int32 → Option (Int32 × Int32 × Int32 × Int32)} {is v op r a f o : Int32}
    (hu : f_X12_product uu (nI base) (nI (p + 1)) (nI n) (-1) op is d names = some (r, a, f, o)) : f_X12_sum_L23 uu kk (nI base) (nI n) is d names v (nI p) (-1) op = kk (jn (b p) v r) a f o := by
  unfold f_X12_sum_L23
  rw [here_at h hp, px_kb, px_nm, ← nI_succ, hu]
  show (if b p = 43 then _ else _) = _
  rcases hc with e | e
  · rw [e, if_pos rfl, px_nm, jn_add]
  · rw [e, if_neg (by decide), px_nm, jn_sub]

theorem prod_loop (h : TP b n base d) (is : Int32) (hu : OkF sn b n (names 0) (names 1) (names 2) 6 m (fun a f o => uu (nI base) a (nI n) f o is d names)) {p o dg0 : Nat} {D H : List Int32} (ho : o ≤ 5) (hm : 5 - o < m) (hH : rk (hd H) < 5 ∧ hd H ≠ 33) :
    ∀ (k p' : Nat) (v : Int32), n - p' < k → RS sn b n (names 0) (names 1) (names 2) 5 6 p D H o dg0 v p' →
      Out sn b n (names 0) (names 1) (names 2) 5 p D H o dg0 (f_X12_product_L5 uu (nI base) (nI n) is d names k v (nI p') (-1) (nI o)) := by
  intro k
  induction k with
  | zero => intro p' v hlt; omega
  | succ k ih =>
    intro p' v hlt hR
    by_cases hp : p' < n
    · by_cases hc : rk (b p') = 5
      · obtain ⟨E', hE, hev⟩ := RS_next hR hp (by omega) (by rw [hc]; decide) hH.2 (by omega)
        have hpp : p ≤ p' := Nat.le_of_lt hR.1
        have hk1 : 1 ≤ k := by omega
        obtain ⟨k', rfl⟩ : ∃ k', k = k' + 1 := ⟨k - 1, by omega⟩
        rcases hu (p' + 1) o 0 (D ++ E') (b p' :: H) (by omega) ho hm (fun _ => ⟨by show rk (b p') < 6; omega, (rk_sign (c := b p') (by omega)).2.2.1⟩) with ⟨w, p2, hf, hR2⟩ | ⟨w, a, op, q, hf, hq, hpo⟩
        · have hR3 := RS_join hpp hE hev hR2 (k := 5) (by decide) (by omega) (by omega)
          have h9 := ih p2 _ (by have := hR2.1; omega) hR3
          rw [prod_go h hp hc, prod_32 h hp (rk_5 hc) hf]
          exact h9
        · refine Or.inr ⟨jn (b p') v w, a, op, q, ?_, hq, hE.trans hpo⟩
          rw [prod_go h hp hc, prod_32 h hp (rk_5 hc) hf, prod_flt h.1 hq]
      · refine Or.inl ⟨v, p', prod_stop h hp hc k is v (nI o), RS_stop hR (fun _ => hc)⟩
    · have he : p' = n := by have := hR.2.1; omega
      subst he
      exact Or.inl ⟨v, p', prod_end h k is v (nI o), RS_stop hR (fun q => absurd q hp)⟩

theorem sum_loop (h : TP b n base d) (is : Int32) (hu : OkF sn b n (names 0) (names 1) (names 2) 5 m (fun a f o => f_X12_product uu (nI base) a (nI n) f o is d names)) {p o dg0 : Nat} {D H : List Int32} (ho : o ≤ 5) (hm : 5 - o < m) (hH : rk (hd H) < 4 ∧ hd H ≠ 33) :
    ∀ (k p' : Nat) (v : Int32), n - p' < k → RS sn b n (names 0) (names 1) (names 2) 4 5 p D H o dg0 v p' →
      Out sn b n (names 0) (names 1) (names 2) 4 p D H o dg0 (f_X12_sum_L5 uu (nI base) (nI n) is d names k v (nI p') (-1) (nI o)) := by
  intro k
  induction k with
  | zero => intro p' v hlt; omega
  | succ k ih =>
    intro p' v hlt hR
    by_cases hp : p' < n
    · by_cases hc : rk (b p') = 4
      · obtain ⟨E', hE, hev⟩ := RS_next hR hp (by omega) (by rw [hc]; decide) hH.2 (by omega)
        have hpp : p ≤ p' := Nat.le_of_lt hR.1
        have hk1 : 1 ≤ k := by omega
        obtain ⟨k', rfl⟩ : ∃ k', k = k' + 1 := ⟨k - 1, by omega⟩
        rcases hu (p' + 1) o 0 (D ++ E') (b p' :: H) (by omega) ho hm (fun _ => ⟨by show rk (b p') < 5; omega, (rk_sign (c := b p') (by omega)).2.2.1⟩) with ⟨w, p2, hf, hR2⟩ | ⟨w, a, op, q, hf, hq, hpo⟩
        · have hR3 := RS_join hpp hE hev hR2 (k := 4) (by decide) (by omega) (by omega)
          have h9 := ih p2 _ (by have := hR2.1; omega) hR3
          rw [sum_go h hp hc, sum_23 h hp (rk_4 hc) hf]
          exact h9
        · refine Or.inr ⟨jn (b p') v w, a, op, q, ?_, hq, hE.trans hpo⟩
          rw [sum_go h hp hc, sum_23 h hp (rk_4 hc) hf, sum_flt h.1 hq]
      · refine Or.inl ⟨v, p', sum_stop h hp hc k is v (nI o), RS_stop hR (fun _ => hc)⟩
    · have he : p' = n := by have := hR.2.1; omega
      subst he
      exact Or.inl ⟨v, p', sum_end h k is v (nI o), RS_stop hR (fun q => absurd q hp)⟩

theorem gf_succ : gFuel = 19999 + 1 := rfl
theorem prod_ok (h : TP b n base d) (is : Int32) (hu : OkF sn b n (names 0) (names 1) (names 2) 6 m (fun a f o => uu (nI base) a (nI n) f o is d names)) :
    OkF sn b n (names 0) (names 1) (names 2) 5 m (fun a f o => f_X12_product uu (nI base) a (nI n) f o is d names) := by
  intro p o dg0 D H hp ho hm hH
  have hn := h.1
  show Out _ _ _ _ _ _ _ _ _ _ _ _ (f_X12_product uu (nI base) (nI p) (nI n) (-1) (nI o) is d names)
  unfold f_X12_product
  rcases hu p o dg0 D H hp ho hm (fun q => absurd q (by decide)) with ⟨w, p2, hf, hR⟩ | ⟨w, a, op, q, hf, hq, hpo⟩
  · have hf : uu (nI base) (nI p) (nI n) (-1) (nI o) is d names = some (w, nI p2, -1, nI o) := hf
    rw [hf]
    exact prod_loop h is hu ho hm (hH (by decide)) gFuel p2 w (by unfold gFuel; omega) (RS_mono hR (by decide))
  · have hf : uu (nI base) (nI p) (nI n) (-1) (nI o) is d names = some (w, a, nI q, op) := hf
    rw [hf]
    exact Or.inr ⟨w, a, op, q, prod_flt hn hq 19999 w a op is, hq, hpo⟩
theorem sum_ok (h : TP b n base d) (is : Int32) (hu : OkF sn b n (names 0) (names 1) (names 2) 5 m (fun a f o => f_X12_product uu (nI base) a (nI n) f o is d names)) :
    OkF sn b n (names 0) (names 1) (names 2) 4 m (fun a f o => f_X12_sum uu (nI base) a (nI n) f o is d names) := by
  intro p o dg0 D H hp ho hm hH
  have hn := h.1
  show Out _ _ _ _ _ _ _ _ _ _ _ _ (f_X12_sum uu (nI base) (nI p) (nI n) (-1) (nI o) is d names)
  unfold f_X12_sum
  rcases hu p o dg0 D H hp ho hm (fun q => ⟨by have := (hH (by decide)).1; omega, (hH (by decide)).2⟩) with ⟨w, p2, hf, hR⟩ | ⟨w, a, op, q, hf, hq, hpo⟩
  · have hf : f_X12_product uu (nI base) (nI p) (nI n) (-1) (nI o) is d names = some (w, nI p2, -1, nI o) := hf
    rw [hf]
    exact sum_loop h is hu ho hm (hH (by decide)) gFuel p2 w (by unfold gFuel; omega) (RS_mono hR (by decide))
  · have hf : f_X12_product uu (nI base) (nI p) (nI n) (-1) (nI o) is d names = some (w, a, nI q, op) := hf
    rw [hf]
    exact Or.inr ⟨w, a, op, q, sum_flt hn hq 19999 w a op is, hq, hpo⟩
end PC
