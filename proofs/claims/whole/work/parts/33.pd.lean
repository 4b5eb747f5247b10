/-! texts: compared, both, either -/
section PD
variable {sn : Nat} {b : Nat → Int32} {n base : Nat} {d names : Nat → Int32} {m : Nat}
  {uu : Int32 → Int32 → Int32 → Int32 → Int32 → Int32 → (Nat → Int32) → (Nat → Int32) → Option (Int32 × Int32 × Int32 × Int32)}
theorem cmp_30 (h : TP b n base d) {p : Nat} (hc : b p = 60 ∨ b p = 61 ∨ b p = 62) {is v op r a f o : Int32}
    (hu : f_X12_sum uu (nI base) (nI (p + 1)) (nI n) (-1) op is d names = some (r, a, f, o)) : f_X12_compared_L30 uu (nI base) (nI n) is d names v (b p) (nI p) (-1) op = some (jn (b p) v r, a, f, o) := by
  unfold f_X12_compared_L30
  rw [px_nm, ← nI_succ, hu]
  show (if b p = 60 then _ else _) = _
  rcases hc with e | e | e
  · rw [e, if_pos rfl, jn_lt]
    by_cases h0 : r ≤ v
    · rw [if_pos h0, if_pos h0]
    · rw [if_neg h0, if_neg h0]
  · rw [e, if_neg (by decide), if_pos rfl, jn_eq]
    by_cases h0 : v = r
    · rw [if_pos h0, if_pos h0]
    · rw [if_neg h0, if_neg h0]
  · rw [e, if_neg (by decide), if_neg (by decide), jn_gt]
    by_cases h0 : v ≤ r
    · rw [if_pos h0, if_pos h0]
    · rw [if_neg h0, if_neg h0]
theorem cmp_ok (h : TP b n base d) (is : Int32) (hu : OkF sn b n (names 0) (names 1) (names 2) 4 m (fun a f o => f_X12_sum uu (nI base) a (nI n) f o is d names)) :
    OkF sn b n (names 0) (names 1) (names 2) 3 m (fun a f o => f_X12_compared uu (nI base) a (nI n) f o is d names) := by
  intro p o dg0 D H hp ho hm hH
  have hn := h.1
  show Out _ _ _ _ _ _ _ _ _ _ _ _ (f_X12_compared uu (nI base) (nI p) (nI n) (-1) (nI o) is d names)
  unfold f_X12_compared
  have hH3 := hH (by decide)
  rcases hu p o dg0 D H hp ho hm (fun q => ⟨by omega, hH3.2⟩) with ⟨w, p2, hf, hR⟩ | ⟨w, a, op, q, hf, hq, hpo⟩
  · have hf : f_X12_sum uu (nI base) (nI p) (nI n) (-1) (nI o) is d names = some (w, nI p2, -1, nI o) := hf
    rw [hf]
    show Out _ _ _ _ _ _ _ _ _ _ _ _ (kb (f_X12_here (nI base) (nI p2) (nI n) (-1) d) _)
    by_cases hp2 : p2 < n
    · rw [here_at h hp2, px_kb]
      by_cases hc : rk (b p2) = 3
      · obtain ⟨E', hE, hev⟩ := RS_next hR hp2 (by omega) (by rw [hc]; decide) hH3.2 (by omega)
        have hgo : ∀ X Y : Option (Int32 × Int32 × Int32 × Int32), (if b p2 = 60 then X else if b p2 = 61 then X else if b p2 = 62 then X else Y) = X := by
          intro X Y
          rcases rk_3 hc with e | e | e
          · rw [if_pos e]
          · rw [if_neg (by rw [e]; decide), if_pos e]
          · rw [if_neg (by rw [e]; decide), if_neg (by rw [e]; decide), if_pos e]
        rw [hgo]
        rcases hu (p2 + 1) o 0 (D ++ E') (b p2 :: H) (by omega) ho hm (fun _ => ⟨by show rk (b p2) < 4; omega, (rk_sign (c := b p2) (by omega)).2.2.1⟩) with ⟨w2, p3, hf2, hR2⟩ | ⟨w2, a, op, q, hf2, hq, hpo⟩
        · rw [cmp_30 h (rk_3 hc) hf2]
          exact Or.inl ⟨_, p3, rfl, RS_joinC (Nat.le_of_lt hR.1) hE hev hR2 hc⟩
        · rw [cmp_30 h (rk_3 hc) hf2]
          exact Or.inr ⟨_, a, op, q, rfl, hq, hE.trans hpo⟩
      · rw [if_neg (fun e => hc (by rw [e]; decide)), if_neg (fun e => hc (by rw [e]; decide)), if_neg (fun e => hc (by rw [e]; decide))]
        exact Or.inl ⟨w, p2, rfl, RS_mono (RS_stop hR (fun _ => hc)) (by decide)⟩
    · have he : p2 = n := by have := hR.2.1; omega
      subst he
      rw [here_end h (Nat.le_refl p2) (by omega), px_kb, if_neg (by decide), if_neg (by decide), if_neg (by decide)]
      exact Or.inl ⟨w, p2, rfl, RS_mono (RS_stop hR (fun q => absurd q hp2)) (by decide)⟩
  · have hf : f_X12_sum uu (nI base) (nI p) (nI n) (-1) (nI o) is d names = some (w, a, nI q, op) := hf
    rw [hf]
    show Out _ _ _ _ _ _ _ _ _ _ _ _ (kb (f_X12_here (nI base) a (nI n) (nI q) d) _)
    rw [here_flt q hq hn, px_kb, if_neg (by decide), if_neg (by decide), if_neg (by decide)]
    exact Or.inr ⟨w, a, op, q, rfl, hq, hpo⟩
theorem takes_go (h : TP b n base d) {p : Nat} (hp : p < n) {c : Int32} (hc : b p = c) : f_X12_takes c (nI base) (nI p) (nI n) (-1) d = some (1, nI (p + 1)) := by
  unfold f_X12_takes
  rw [here_at h hp, px_kb, if_pos hc, px_nm, ← nI_succ]
theorem takes_stop (h : TP b n base d) {p : Nat} (hp : p < n) {c : Int32} (hc : ¬ b p = c) : f_X12_takes c (nI base) (nI p) (nI n) (-1) d = some (0, nI p) := by
  unfold f_X12_takes
  rw [here_at h hp, px_kb, if_neg hc]
theorem takes_end (h : TP b n base d) {c : Int32} (hc : ¬ (-1) = c) : f_X12_takes c (nI base) (nI n) (nI n) (-1) d = some (0, nI n) := by
  unfold f_X12_takes
  rw [here_end h (Nat.le_refl n) (by have := h.1; omega), px_kb, if_neg hc]
theorem takes_flt (hn : n ≤ 50) {q : Nat} (hq : q ≤ n) {c : Int32} (hc : ¬ (-1) = c) (at' : Int32) : f_X12_takes c (nI base) at' (nI n) (nI q) d = some (0, at') := by
  unfold f_X12_takes
  rw [here_flt q hq hn, px_kb, if_neg hc]
theorem rk_2 {c : Int32} (h : rk c = 2) : c = 38 := by
  rcases rk_pos (x := c) (by omega) with rfl | rfl | rfl | rfl | rfl | rfl | rfl | rfl | rfl | rfl <;> revert h <;> decide
theorem rk_1 {c : Int32} (h : rk c = 1) : c = 124 := by
  rcases rk_pos (x := c) (by omega) with rfl | rfl | rfl | rfl | rfl | rfl | rfl | rfl | rfl | rfl <;> revert h <;> decide

theorem both_go (h : TP b n base d) {p : Nat} (hp : p < n) (hc : rk (b p) = 2) (k : Nat) {is v op r a f o : Int32} (hu : f_X12_compared uu (nI base) (nI (p + 1)) (nI n) (-1) op is d names = some (r, a, f, o)) : f_X12_both_L5 uu (nI base) (nI n) is d names (k + 1) v (nI p) (-1) op = f_X12_both_L5 uu (nI base) (nI n) is d names k (jn (b p) v r) a f o := by
  have hb := rk_2 hc
  simp only [f_X12_both_L5, takes_go h hp hb, kb2, hu, kb4, if_neg (show ¬ (1 : Int32) = 0 by decide), hb, jn_and]
  by_cases h0 : v = 0
  · by_cases h1 : r = 0
    · simp [h0, h1]
    · simp [h0, h1]
  · by_cases h1 : r = 0
    · simp [h0, h1]
    · simp [h0, h1]
theorem both_stop (h : TP b n base d) {p : Nat} (hp : p < n) (hc : rk (b p) ≠ 2) (k : Nat) (is v op : Int32) : f_X12_both_L5 uu (nI base) (nI n) is d names (k + 1) v (nI p) (-1) op = some (v, nI p, -1, op) := by
  simp only [f_X12_both_L5, takes_stop h hp (show ¬ b p = 38 from fun e => hc (by rw [e]; decide)), kb2, if_true]
theorem both_end (h : TP b n base d) (k : Nat) (is v op : Int32) : f_X12_both_L5 uu (nI base) (nI n) is d names (k + 1) v (nI n) (-1) op = some (v, nI n, -1, op) := by
  simp only [f_X12_both_L5, takes_end h (show ¬ (-1 : Int32) = 38 by decide), kb2, if_true]
theorem both_flt (hn : n ≤ 50) {q : Nat} (hq : q ≤ n) (k : Nat) (v at' op : Int32) (is : Int32) : f_X12_both_L5 uu (nI base) (nI n) is d names (k + 1) v at' (nI q) op = some (v, at', nI q, op) := by
  simp only [f_X12_both_L5, takes_flt hn hq (show ¬ (-1 : Int32) = 38 by decide) at', kb2, if_true]
theorem both_loop (h : TP b n base d) (is : Int32) (hu : OkF sn b n (names 0) (names 1) (names 2) 3 m (fun a f o => f_X12_compared uu (nI base) a (nI n) f o is d names)) {p o dg0 : Nat} {D H : List Int32} (ho : o ≤ 5) (hm : 5 - o < m) (hH : rk (hd H) < 2 ∧ hd H ≠ 33) :
    ∀ (k p' : Nat) (v : Int32), n - p' < k → RS sn b n (names 0) (names 1) (names 2) 2 3 p D H o dg0 v p' →
      Out sn b n (names 0) (names 1) (names 2) 2 p D H o dg0 (f_X12_both_L5 uu (nI base) (nI n) is d names k v (nI p') (-1) (nI o)) := by
  intro k
  induction k with
  | zero => intro p' v hlt; omega
  | succ k ih =>
    intro p' v hlt hR
    by_cases hp : p' < n
    · by_cases hc : rk (b p') = 2
      · obtain ⟨E', hE, hev⟩ := RS_next hR hp (by omega) (by rw [hc]; decide) hH.2 (by omega)
        have hpp : p ≤ p' := Nat.le_of_lt hR.1
        have hk1 : 1 ≤ k := by omega
        obtain ⟨k', rfl⟩ : ∃ k', k = k' + 1 := ⟨k - 1, by omega⟩
        rcases hu (p' + 1) o 0 (D ++ E') (b p' :: H) (by omega) ho hm (fun _ => ⟨by show rk (b p') < 3; omega, (rk_sign (c := b p') (by omega)).2.2.1⟩) with ⟨w, p2, hf, hR2⟩ | ⟨w, a, op, q, hf, hq, hpo⟩
        · have hR3 := RS_join hpp hE hev hR2 (k := 2) (by decide) (by omega) (by omega)
          have h9 := ih p2 _ (by have := hR2.1; omega) hR3
          rw [both_go h hp hc _ hf]
          exact h9
        · refine Or.inr ⟨jn (b p') v w, a, op, q, ?_, hq, hE.trans hpo⟩
          rw [both_go h hp hc _ hf, both_flt h.1 hq]
      · refine Or.inl ⟨v, p', both_stop h hp hc k is v (nI o), RS_stop hR (fun _ => hc)⟩
    · have he : p' = n := by have := hR.2.1; omega
      subst he
      exact Or.inl ⟨v, p', both_end h k is v (nI o), RS_stop hR (fun q => absurd q hp)⟩
theorem both_ok (h : TP b n base d) (is : Int32) (hu : OkF sn b n (names 0) (names 1) (names 2) 3 m (fun a f o => f_X12_compared uu (nI base) a (nI n) f o is d names)) :
    OkF sn b n (names 0) (names 1) (names 2) 2 m (fun a f o => f_X12_both uu (nI base) a (nI n) f o is d names) := by
  intro p o dg0 D H hp ho hm hH
  have hn := h.1
  show Out _ _ _ _ _ _ _ _ _ _ _ _ (f_X12_both uu (nI base) (nI p) (nI n) (-1) (nI o) is d names)
  unfold f_X12_both
  rcases hu p o dg0 D H hp ho hm (fun q => ⟨by have := (hH (by decide)).1; omega, (hH (by decide)).2⟩) with ⟨w, p2, hf, hR⟩ | ⟨w, a, op, q, hf, hq, hpo⟩
  · have hf : f_X12_compared uu (nI base) (nI p) (nI n) (-1) (nI o) is d names = some (w, nI p2, -1, nI o) := hf
    rw [hf]
    exact both_loop h is hu ho hm (hH (by decide)) gFuel p2 w (by unfold gFuel; omega) (RS_mono hR (by decide))
  · have hf : f_X12_compared uu (nI base) (nI p) (nI n) (-1) (nI o) is d names = some (w, a, nI q, op) := hf
    rw [hf]
    exact Or.inr ⟨w, a, op, q, both_flt hn hq 19999 w a op is, hq, hpo⟩

theorem eith_go (h : TP b n base d) {p : Nat} (hp : p < n) (hc : rk (b p) = 1) (k : Nat) {is v op r a f o : Int32} (hu : f_X12_both uu (nI base) (nI (p + 1)) (nI n) (-1) op is d names = some (r, a, f, o)) : f_X12_either_L5 uu (nI base) (nI n) is d names (k + 1) v (nI p) (-1) op = f_X12_either_L5 uu (nI base) (nI n) is d names k (jn (b p) v r) a f o := by
  have hb := rk_1 hc
  simp only [f_X12_either_L5, takes_go h hp hb, kb2, hu, kb4, if_neg (show ¬ (1 : Int32) = 0 by decide), hb, jn_or]
  by_cases h0 : v = 0
  · by_cases h1 : r = 0
    · simp [h0, h1]
    · simp [h0, h1]
  · by_cases h1 : r = 0
    · simp [h0, h1]
    · simp [h0, h1]
theorem eith_stop (h : TP b n base d) {p : Nat} (hp : p < n) (hc : rk (b p) ≠ 1) (k : Nat) (is v op : Int32) : f_X12_either_L5 uu (nI base) (nI n) is d names (k + 1) v (nI p) (-1) op = some (v, nI p, -1, op) := by
  simp only [f_X12_either_L5, takes_stop h hp (show ¬ b p = 124 from fun e => hc (by rw [e]; decide)), kb2, if_true]
theorem eith_end (h : TP b n base d) (k : Nat) (is v op : Int32) : f_X12_either_L5 uu (nI base) (nI n) is d names (k + 1) v (nI n) (-1) op = some (v, nI n, -1, op) := by
  simp only [f_X12_either_L5, takes_end h (show ¬ (-1 : Int32) = 124 by decide), kb2, if_true]
theorem eith_flt (hn : n ≤ 50) {q : Nat} (hq : q ≤ n) (k : Nat) (v at' op : Int32) (is : Int32) : f_X12_either_L5 uu (nI base) (nI n) is d names (k + 1) v at' (nI q) op = some (v, at', nI q, op) := by
  simp only [f_X12_either_L5, takes_flt hn hq (show ¬ (-1 : Int32) = 124 by decide) at', kb2, if_true]
theorem eith_loop (h : TP b n base d) (is : Int32) (hu : OkF sn b n (names 0) (names 1) (names 2) 2 m (fun a f o => f_X12_both uu (nI base) a (nI n) f o is d names)) {p o dg0 : Nat} {D H : List Int32} (ho : o ≤ 5) (hm : 5 - o < m) (hH : rk (hd H) < 1 ∧ hd H ≠ 33) :
    ∀ (k p' : Nat) (v : Int32), n - p' < k → RS sn b n (names 0) (names 1) (names 2) 1 2 p D H o dg0 v p' →
      Out sn b n (names 0) (names 1) (names 2) 1 p D H o dg0 (f_X12_either_L5 uu (nI base) (nI n) is d names k v (nI p') (-1) (nI o)) := by
  intro k
  induction k with
  | zero => intro p' v hlt; omega
  | succ k ih =>
    intro p' v hlt hR
    by_cases hp : p' < n
    · by_cases hc : rk (b p') = 1
      · obtain ⟨E', hE, hev⟩ := RS_next hR hp (by omega) (by rw [hc]; decide) hH.2 (by omega)
        have hpp : p ≤ p' := Nat.le_of_lt hR.1
        have hk1 : 1 ≤ k := by omega
        obtain ⟨k', rfl⟩ : ∃ k', k = k' + 1 := ⟨k - 1, by omega⟩
        rcases hu (p' + 1) o 0 (D ++ E') (b p' :: H) (by omega) ho hm (fun _ => ⟨by show rk (b p') < 2; omega, (rk_sign (c := b p') (by omega)).2.2.1⟩) with ⟨w, p2, hf, hR2⟩ | ⟨w, a, op, q, hf, hq, hpo⟩
        · have hR3 := RS_join hpp hE hev hR2 (k := 1) (by decide) (by omega) (by omega)
          have h9 := ih p2 _ (by have := hR2.1; omega) hR3
          rw [eith_go h hp hc _ hf]
          exact h9
        · refine Or.inr ⟨jn (b p') v w, a, op, q, ?_, hq, hE.trans hpo⟩
          rw [eith_go h hp hc _ hf, eith_flt h.1 hq]
      · refine Or.inl ⟨v, p', eith_stop h hp hc k is v (nI o), RS_stop hR (fun _ => hc)⟩
    · have he : p' = n := by have := hR.2.1; omega
      subst he
      exact Or.inl ⟨v, p', eith_end h k is v (nI o), RS_stop hR (fun q => absurd q hp)⟩
theorem eith_ok (h : TP b n base d) (is : Int32) (hu : OkF sn b n (names 0) (names 1) (names 2) 2 m (fun a f o => f_X12_both uu (nI base) a (nI n) f o is d names)) :
    OkF sn b n (names 0) (names 1) (names 2) 1 m (fun a f o => f_X12_either uu (nI base) a (nI n) f o is d names) := by
  intro p o dg0 D H hp ho hm hH
  have hn := h.1
  show Out _ _ _ _ _ _ _ _ _ _ _ _ (f_X12_either uu (nI base) (nI p) (nI n) (-1) (nI o) is d names)
  unfold f_X12_either
  rcases hu p o dg0 D H hp ho hm (fun q => ⟨by have := (hH (by decide)).1; omega, (hH (by decide)).2⟩) with ⟨w, p2, hf, hR⟩ | ⟨w, a, op, q, hf, hq, hpo⟩
  · have hf : f_X12_both uu (nI base) (nI p) (nI n) (-1) (nI o) is d names = some (w, nI p2, -1, nI o) := hf
    rw [hf]
    exact eith_loop h is hu ho hm (hH (by decide)) gFuel p2 w (by unfold gFuel; omega) (RS_mono hR (by decide))
  · have hf : f_X12_both uu (nI base) (nI p) (nI n) (-1) (nI o) is d names = some (w, a, nI q, op) := hf
    rw [hf]
    exact Or.inr ⟨w, a, op, q, eith_flt hn hq 19999 w a op is, hq, hpo⟩
end PD
