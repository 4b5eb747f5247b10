/-! bubbles: the model's sets as bits -/
theorem bx_or (a b : Nat) : nI a ||| nI b = nI (a ||| b) := by
  apply Int32.toBitVec_inj.1
  show BitVec.ofNat 32 a ||| BitVec.ofNat 32 b = BitVec.ofNat 32 (a ||| b)
  apply BitVec.eq_of_getLsbD_eq
  intro i hi
  simp [hi]
theorem sh_k : ∀ n, n < 32 → ((nI n &&& 31).toBitVec.smod 32).toNat = n := by decide +kernel
theorem bx_bit {s c : Nat} (hs : s < 2 ^ 25) (hc : c < 25) : (nI s >>> (nI c &&& 31)) &&& 1 = nI (s / 2 ^ c % 2) := by
  rw [pk_shrN (by omega) (nI c &&& 31) c (sh_k c (by omega)), pk_andN (m := 1) (k := 1) (Nat.lt_of_le_of_lt (Nat.div_le_self _ _) (by omega)) (by decide)]
theorem bx_one {c : Nat} (hc : c < 25) : (1 : Int32) <<< (nI c &&& 31) = nI (2 ^ c) := by
  have h : 2 ^ c ≤ 2 ^ 24 := Nat.pow_le_pow_right (by decide) (by omega)
  have := pk_shlN (n := 1) (nI c &&& 31) c (sh_k c (by omega)) (by omega)
  rw [Nat.one_mul] at this
  exact this
/-- a bit as a number -/
def bt (s x : Nat) : Nat := if s.testBit x then 1 else 0
theorem bt_eq (s c : Nat) : s / 2 ^ c % 2 = bt s c := by
  unfold bt
  rw [Nat.testBit_eq_decide_div_mod_eq]
  by_cases h : s / 2 ^ c % 2 = 1
  · rw [if_pos (decide_eq_true h), h]
  · rw [if_neg (by simpa using h)]
    have := Nat.mod_lt (s / 2 ^ c) (show 2 > 0 by decide)
    omega
theorem bt_is {s x : Nat} : bt s x = 1 ↔ s.testBit x = true := by
  unfold bt
  split
  · exact ⟨fun _ => by assumption, fun _ => rfl⟩
  · rename_i h
    exact ⟨fun q => absurd q (by decide), fun q => absurd q h⟩
theorem bt_le (s x : Nat) : bt s x ≤ 1 := by unfold bt; split <;> decide
theorem or_lt {a b : Nat} (ha : a < 2 ^ 25) (hb : b < 2 ^ 25) : a ||| b < 2 ^ 25 := Nat.or_lt_two_pow ha hb
theorem or_bit (s z x : Nat) : (s ||| 2 ^ z).testBit x = true ↔ s.testBit x = true ∨ x = z := by
  rw [Nat.testBit_or, Nat.testBit_two_pow]
  simp only [Bool.or_eq_true, decide_eq_true_eq]
  constructor
  · rintro (h | h)
    · exact Or.inl h
    · exact Or.inr h.symm
  · rintro (h | h)
    · exact Or.inl h
    · exact Or.inr h.symm
theorem bit_big {s x : Nat} (h : s < 2 ^ 25) (hx : 25 ≤ x) : s.testBit x = false := Nat.testBit_lt_two_pow (Nat.lt_of_lt_of_le h (Nat.pow_le_pow_right (by decide) hx))
theorem bits_ne {a b : Nat} (hs : ∀ x, b.testBit x = true → a.testBit x = true) (hne : a ≠ b) : ∃ x, a.testBit x = true ∧ b.testBit x = false := by
  apply Classical.byContradiction
  intro h
  apply hne
  apply Nat.eq_of_testBit_eq
  intro x
  cases ha : a.testBit x with
  | true =>
    cases hb : b.testBit x with
    | true => rfl
    | false => exact absurd ⟨x, ha, hb⟩ h
  | false =>
    cases hb : b.testBit x with
    | true => rw [hs x hb] at ha; cases ha
    | false => rfl
theorem sumN_mono {f g : Nat → Nat} (h : ∀ x, f x ≤ g x) : ∀ n, sumN f n ≤ sumN g n
  | 0 => Nat.le_refl 0
  | n + 1 => Nat.add_le_add (sumN_mono h n) (h n)
theorem sumN_lt {f g : Nat → Nat} (h : ∀ x, f x ≤ g x) {z : Nat} (hz : f z < g z) : ∀ n, z < n → sumN f n < sumN g n
  | 0, h0 => absurd h0 (Nat.not_lt_zero z)
  | n + 1, h0 => by
    show sumN f n + f n < sumN g n + g n
    by_cases e : z = n
    · subst e
      have := sumN_mono h z
      omega
    · have := sumN_lt h hz n (by omega)
      have := h n
      omega
section LB
variable {R C holes out eb : Nat} {air paste : Nat → Nat} {d : Nat → Int32}
theorem bub_28 (hW : MW d R C holes out eb air paste) (hR : R < 6) (hC : C < 6) (hair : ∀ j, air j ≤ 99) (kk : Int32 → Int32 → Int32 → Option Int32) {s0 c : Nat} (hs0 : s0 < 2 ^ 25) (hc : c < R * C) :
    ∀ (q f w s : Nat), w + q = 4 → q < f → s < 2 ^ 25 →
    ∃ s', f_X12_bubbleOf_L28 kk d f (nI s) (nI s0) (nI c) (nI w) = kk (nI s') (nI s0) (nI (c + 1)) ∧ s' < 2 ^ 25 ∧ (∀ x, s.testBit x = true → s'.testBit x = true) ∧ (∀ x, s'.testBit x = true → s.testBit x = true ∨ (s0.testBit c = true ∧ Adj R C air c x)) ∧
      (s0.testBit c = true → ∀ w', w ≤ w' → w' < 4 → ∀ z, nb R C c w' = some z → 0 < air z → s'.testBit z = true) := by
  have h25 := RC25 hR hC
  intro q
  induction q with
  | zero =>
    intro f w s hq hf hs
    obtain ⟨f', rfl⟩ : ∃ f', f = f' + 1 := ⟨f - 1, by omega⟩
    have : w = 4 := by omega
    subst this
    unfold f_X12_bubbleOf_L28
    rw [if_pos (show (4 : Int32) ≤ nI 4 by decide), px_nm, nI_1]
    exact ⟨s, rfl, hs, fun _ h => h, fun _ h => Or.inl h, fun _ w' h1 h2 => absurd h2 (by omega)⟩
  | succ q ih =>
    intro f w s hq hf hs
    obtain ⟨f', rfl⟩ : ∃ f', f = f' + 1 := ⟨f - 1, by omega⟩
    have hw : w < 4 := by omega
    unfold f_X12_bubbleOf_L28
    rw [if_neg (show ¬ (4 : Int32) ≤ nI w from nI_ge (b := 4) hw (by decide)), px_nm, px_nm, bx_bit hs0 (by omega), bt_eq]
    by_cases hb : s0.testBit c = true
    · rw [bt_is.mpr hb, if_pos (show nI 1 = 1 from rfl), nextTo_m hW.1 hW.2.1 hR hC hc hw, px_kb]
      have e0 : ∀ x : Nat, nI x ||| 0 = nI x := fun x => by
        have := bx_or x 0
        rwa [Nat.or_zero] at this
      cases hn : nb R C c w with
      | none =>
        rw [show oI none = -1 from rfl, if_pos (by decide), px_nm, px_nm, e0, nI_1]
        obtain ⟨s', g1, g2, g3, g4, g5⟩ := ih f' (w + 1) s (by omega) (by omega) hs
        refine ⟨s', g1, g2, g3, g4, fun h w' h1 h2 z hz ha => ?_⟩
        by_cases e : w' = w
        · subst e; rw [hn] at hz; cases hz
        · exact g5 h w' (by omega) h2 z hz ha
      | some z =>
        obtain ⟨hz1, hz2⟩ := nb_all R hR C hC c hc w hw z hn
        have haz := hair z
        rw [show oI (some z) = nI z from rfl, if_neg (nI_pos (by omega)), if_pos (nI_pos' (by omega))]
        unfold f_X12_bubbleOf_L77
        rw [n10, px_nm, px_in (by omega) (by decide), nI_clamp (by omega), hW.2.2.2.2.2.1 z (by omega)]
        by_cases ha : 0 < air z
        · rw [if_neg (nI_nle ha (by omega)), px_nm, px_nm, px_nm, bx_one (by omega), bx_or, nI_1]
          have hlt := or_lt hs (Nat.pow_lt_pow_right (by decide : 1 < 2) (by omega : z < 25))
          obtain ⟨s', g1, g2, g3, g4, g5⟩ := ih f' (w + 1) (s ||| 2 ^ z) (by omega) (by omega) hlt
          refine ⟨s', g1, g2, fun x hx => g3 x ((or_bit s z x).mpr (Or.inl hx)), fun x hx => ?_, fun h w' h1 h2 y hy hay => ?_⟩
          · rcases g4 x hx with h | h
            · rcases (or_bit s z x).mp h with h | rfl
              · exact Or.inl h
              · exact Or.inr ⟨hb, w, hw, hn, ha⟩
            · exact Or.inr h
          · by_cases e : w' = w
            · subst e
              rw [hn] at hy
              cases hy
              exact g3 z ((or_bit s z z).mpr (Or.inr rfl))
            · exact g5 h w' (by omega) h2 y hy hay
        · have h0 : air z = 0 := by omega
          rw [h0, if_pos (show nI 0 ≤ 0 by decide), px_nm, px_nm, e0, nI_1]
          obtain ⟨s', g1, g2, g3, g4, g5⟩ := ih f' (w + 1) s (by omega) (by omega) hs
          refine ⟨s', g1, g2, g3, g4, fun h w' h1 h2 y hy hay => ?_⟩
          by_cases e : w' = w
          · subst e; rw [hn] at hy; cases hy; omega
          · exact g5 h w' (by omega) h2 y hy hay
    · have hz : bt s0 c = 0 := by unfold bt; rw [if_neg hb]
      rw [hz, if_neg (show ¬ nI 0 = 1 by decide), px_nm, nI_1]
      exact ⟨s, rfl, hs, fun _ h => h, fun _ h => Or.inl h, fun h => absurd h hb⟩
theorem bub_16 (hW : MW d R C holes out eb air paste) (hR : R < 6) (hC : C < 6) (hair : ∀ j, air j ≤ 99) (kk : Int32 → Int32 → Option Int32) {s0 : Nat} (hs0 : s0 < 2 ^ 25) :
    ∀ (q f c s : Nat), c + q = R * C → q < f → s < 2 ^ 25 →
    ∃ s', f_X12_bubbleOf_L16 kk d f (nI s) (nI s0) (nI c) = kk (nI s') (nI s0) ∧ s' < 2 ^ 25 ∧ (∀ x, s.testBit x = true → s'.testBit x = true) ∧ (∀ x, s'.testBit x = true → s.testBit x = true ∨ ∃ y, s0.testBit y = true ∧ Adj R C air y x) ∧
      (∀ y, c ≤ y → y < R * C → s0.testBit y = true → ∀ z, Adj R C air y z → s'.testBit z = true) := by
  have h25 := RC25 hR hC
  intro q
  induction q with
  | zero =>
    intro f c s hq hf hs
    obtain ⟨f', rfl⟩ : ∃ f', f = f' + 1 := ⟨f - 1, by omega⟩
    have : c = R * C := by omega
    subst this
    unfold f_X12_bubbleOf_L16
    rw [cells_m hW, px_kb, if_pos (show nI (R * C) ≤ nI (R * C) from Int32.le_refl _)]
    exact ⟨s, rfl, hs, fun _ h => h, fun _ h => Or.inl h, fun y h1 h2 => absurd h2 (by omega)⟩
  | succ q ih =>
    intro f c s hq hf hs
    obtain ⟨f', rfl⟩ : ∃ f', f = f' + 1 := ⟨f - 1, by omega⟩
    unfold f_X12_bubbleOf_L16
    rw [cells_m hW, px_kb, if_neg (nI_ge (a := c) (b := R * C) (by omega) (by omega))]
    obtain ⟨s1, e1, g1, g2, g3, g4⟩ := bub_28 hW hR hC hair (f_X12_bubbleOf_L16 kk d f') hs0 (c := c) (by omega) 4 gFuel 0 s (by omega) (by unfold gFuel; omega) hs
    rw [nI_0] at e1
    rw [e1]
    obtain ⟨s2, e2, k1, k2, k3, k4⟩ := ih f' (c + 1) s1 (by omega) (by omega) g1
    refine ⟨s2, e2, k1, fun x hx => k2 x (g2 x hx), fun x hx => ?_, fun y h1 h2 h3 z hz => ?_⟩
    · rcases k3 x hx with h | h
      · rcases g3 x h with h | h
        · exact Or.inl h
        · exact Or.inr ⟨c, h.1, h.2⟩
      · exact Or.inr h
    · by_cases e : y = c
      · subst e
        obtain ⟨w, hw, hn, hza⟩ := hz
        exact k2 z (g4 h3 w (Nat.zero_le _) hw z hn hza)
      · exact k4 y (by omega) h2 h3 z hz
theorem bub_6 (hW : MW d R C holes out eb air paste) (hR : R < 6) (hC : C < 6) (hair : ∀ j, air j ≤ 99) {c0 : Nat} (hc0 : c0 < R * C) (hac : 0 < air c0) :
    ∀ (q f s was : Nat), 26 ≤ sumN (bt was) 25 + q → q < f → s < 2 ^ 25 → was < 2 ^ 25 → s ≠ 0 → (∀ x, was.testBit x = true → s.testBit x = true) → s.testBit c0 = true → (∀ x, s.testBit x = true → Rch R C air c0 x) → (∀ y, y < R * C → was.testBit y = true → ∀ z, Adj R C air y z → s.testBit z = true) →
    ∃ s', f_X12_bubbleOf_L6 d f (nI s) (nI was) = some (nI s') ∧ s' < 2 ^ 25 ∧ ∀ x, s'.testBit x = true ↔ Rch R C air c0 x := by
  have h25 := RC25 hR hC
  intro q
  induction q with
  | zero =>
    intro f s was hq hf hs hwas hs0 hsub hc hr hcl
    have := sumN_le (bt_le was) 25
    omega
  | succ q ih =>
    intro f s was hq hf hs hwas hs0 hsub hc hr hcl
    obtain ⟨f', rfl⟩ : ∃ f', f = f' + 1 := ⟨f - 1, by omega⟩
    unfold f_X12_bubbleOf_L6
    by_cases e : s = was
    · subst e
      rw [if_pos rfl]
      refine ⟨s, rfl, hs, fun x => ⟨hr x, fun hx => ?_⟩⟩
      have := hx (fun x => s.testBit x = true ∧ x < R * C) ⟨hc, hc0⟩ (fun y z hy a => by
        obtain ⟨w, hw, hn, hza⟩ := id a
        exact ⟨hcl y hy.2 hy.1 z a, (nb_all R hR C hC y hy.2 w hw z hn).1⟩)
      exact this.1
    · rw [if_neg (nI_ne (by omega) (by omega) e)]
      obtain ⟨s1, e1, g1, g2, g3, g4⟩ := bub_16 hW hR hC hair (f_X12_bubbleOf_L6 d f') hs (R * C) gFuel 0 s (by omega) (by unfold gFuel; omega) hs
      rw [nI_0] at e1
      rw [e1]
      obtain ⟨x, hx1, hx2⟩ := bits_ne hsub e
      have hx25 : x < 25 := by
        apply Classical.byContradiction
        intro h
        rw [bit_big hs (by omega)] at hx1
        cases hx1
      have hlt : sumN (bt was) 25 < sumN (bt s) 25 := by
        refine sumN_lt (fun y => ?_) (z := x) ?_ 25 hx25
        · unfold bt
          by_cases h : was.testBit y = true
          · rw [if_pos h, if_pos (hsub y h)]; exact Nat.le_refl 1
          · rw [if_neg h]; exact Nat.zero_le _
        · rw [bt_is.mpr hx1]
          unfold bt
          rw [hx2]
          decide
      refine ih f' s1 s (by omega) (by omega) g1 hs (fun h => ?_) g2 (g2 c0 hc) (fun y hy => ?_) (fun y hy hys z hz => g4 y (Nat.zero_le _) hy hys z hz)
      · have := g2 c0 hc
        rw [h, Nat.zero_testBit] at this
        cases this
      · rcases g3 y hy with h | ⟨u, hu, ha⟩
        · exact hr y h
        · exact Rch_step (hr u hu) ha
theorem bubbleOf_m (hW : MW d R C holes out eb air paste) (hR : R < 6) (hC : C < 6) (hair : ∀ j, air j ≤ 99) {c0 : Nat} (hc0 : c0 < R * C) (hac : 0 < air c0) :
    ∃ s, f_X12_bubbleOf (nI c0) d = some (nI s) ∧ s < 2 ^ 25 ∧ ∀ x, s.testBit x = true ↔ Rch R C air c0 x := by
  have h25 := RC25 hR hC
  unfold f_X12_bubbleOf
  rw [bx_one (by omega), px_nm]
  have hp : 0 < 2 ^ c0 := Nat.pow_pos (by decide)
  exact bub_6 hW hR hC hair hc0 hac 26 gFuel (2 ^ c0) 0 (by omega) (by unfold gFuel; omega) (Nat.pow_lt_pow_right (by decide) (by omega)) (by decide) (by omega) (fun x h => by rw [Nat.zero_testBit] at h; cases h) (by rw [Nat.testBit_two_pow]; simp) (fun x h => by
    rw [Nat.testBit_two_pow] at h
    have : c0 = x := of_decide_eq_true h
    rw [← this]
    exact Rch_rfl R C air c0) (fun y hy h => by rw [Nat.zero_testBit] at h; cases h)
theorem size_m (hW : MW d R C holes out eb air paste) (hR : R < 6) (hC : C < 6) {s : Nat} (hs : s < 2 ^ 25) : ∀ (q f c : Nat), c + q = R * C → q < f →
    f_X12_sizeOf0_L4 (nI s) d f (nI (sumN (fun x => bt s x * air x) c)) (nI c) = some (nI (sumN (fun x => bt s x * air x) (R * C))) := by
  have h25 := RC25 hR hC
  intro q
  induction q with
  | zero =>
    intro f c hq hf
    obtain ⟨f', rfl⟩ : ∃ f', f = f' + 1 := ⟨f - 1, by omega⟩
    have : c = R * C := by omega
    subst this
    unfold f_X12_sizeOf0_L4
    rw [cells_m hW, px_kb, if_pos (show nI (R * C) ≤ nI (R * C) from Int32.le_refl _)]
  | succ q ih =>
    intro f c hq hf
    obtain ⟨f', rfl⟩ : ∃ f', f = f' + 1 := ⟨f - 1, by omega⟩
    unfold f_X12_sizeOf0_L4
    rw [cells_m hW, px_kb, if_neg (nI_ge (a := c) (b := R * C) (by omega) (by omega)), px_nm, px_nm, bx_bit hs (by omega), bt_eq]
    have hstep : sumN (fun x => bt s x * air x) (c + 1) = sumN (fun x => bt s x * air x) c + bt s c * air c := rfl
    have hih := ih f' (c + 1) (by omega) (by omega)
    rw [hstep] at hih
    by_cases hb : s.testBit c = true
    · rw [bt_is.mpr hb, Nat.one_mul] at hih
      rw [bt_is.mpr hb, if_pos (show nI 1 = 1 from rfl), n10, px_nm, px_in (by omega) (by decide), px_nm, nI_clamp (by omega), hW.2.2.2.2.2.1 c (by omega), px_nm, px_nm, nI_add, nI_1]
      exact hih
    · have hz : bt s c = 0 := by unfold bt; rw [if_neg hb]
      rw [hz, Nat.zero_mul, Nat.add_zero] at hih
      have e0 : nI (sumN (fun x => bt s x * air x) c) + 0 = nI (sumN (fun x => bt s x * air x) c) := nI_add _ 0
      rw [hz, if_neg (show ¬ nI 0 = 1 by decide), px_nm, px_nm, e0, nI_1]
      exact hih
theorem sumN_cut {f : Nat → Nat} {n : Nat} : ∀ m, n ≤ m → (∀ x, n ≤ x → f x = 0) → sumN f m = sumN f n
  | 0, h, _ => by rw [show n = 0 by omega]
  | m + 1, h, hz => by
    by_cases e : n = m + 1
    · rw [e]
    · show sumN f m + f m = sumN f n
      rw [hz m (by omega), sumN_cut m (by omega) hz, Nat.add_zero]
theorem sizeOf0_m (hW : MW d R C holes out eb air paste) (hR : R < 6) (hC : C < 6) {s : Nat} (hs : s < 2 ^ 25) (hin : ∀ x, s.testBit x = true → x < R * C) : f_X12_sizeOf0 (nI s) d = some (nI (sumN (fun x => bt s x * air x) 25)) := by
  have h25 := RC25 hR hC
  rw [sumN_cut (n := R * C) 25 h25 (fun x hx => by
    have : bt s x = 0 := by
      unfold bt
      rw [if_neg (fun h => by have := hin x h; omega)]
    show bt s x * air x = 0
    rw [this, Nat.zero_mul])]
  exact size_m hW hR hC hs (R * C) gFuel 0 (by omega) (by unfold gFuel; omega)
end LB
