/-! bubbles: what hangs together; the class -/
def Adj (R C : Nat) (air : Nat → Nat) (y z : Nat) : Prop := ∃ w, w < 4 ∧ nb R C y w = some z ∧ 0 < air z
def Rch (R C : Nat) (air : Nat → Nat) (c x : Nat) : Prop := ∀ S : Nat → Prop, S c → (∀ y z, S y → Adj R C air y z → S z) → S x
theorem Rch_rfl (R C : Nat) (air : Nat → Nat) (c : Nat) : Rch R C air c c := fun _ h _ => h
theorem Rch_step {R C : Nat} {air : Nat → Nat} {c y z : Nat} (h : Rch R C air c y) (a : Adj R C air y z) : Rch R C air c z := fun S h0 hs => hs y z (h S h0 hs) a
def ad (arr : Nat → Int32) (f : Nat → Nat) (n : Nat) : Prop := ∀ j, j < n → arr j = nI (f j)
theorem sumN_up (f : Nat → Nat) (z v : Nat) : ∀ n, z < n → sumN (va_up f z v) n + f z = sumN f n + v
  | 0, h => absurd h (Nat.not_lt_zero z)
  | n + 1, h => by
    show sumN (va_up f z v) n + va_up f z v n + f z = sumN f n + f n + v
    by_cases e : z = n
    · subst e
      have : sumN (va_up f z v) z = sumN f z := sumN_congr (fun j hj => vu_ne _ _ (by omega))
      rw [this, va_up_at]
      omega
    · rw [vu_ne _ _ (fun q => e q.symm)]
      have := sumN_up f z v n (by omega)
      omega
theorem sumN_one {f : Nat → Nat} (h : ∀ j, f j ≤ 1) {z : Nat} (hz : f z = 0) : ∀ {n : Nat}, z < n → sumN f n + 1 ≤ n
  | 0, h0 => absurd h0 (Nat.not_lt_zero z)
  | n + 1, h0 => by
    show sumN f n + f n + 1 ≤ n + 1
    by_cases e : z = n
    · subst e
      have := sumN_le h z
      omega
    · have := sumN_one h hz (n := n) (by omega)
      have := h n
      omega
def BF (R C : Nat) (air : Nat → Nat) (c0 : Nat) (met0 met l : Nat → Nat) (n : Nat) : Prop :=
  n ≤ 25 ∧ (∀ j, met j ≤ 1) ∧ (∀ j, j < n → l j < R * C ∧ 0 < air (l j) ∧ met (l j) = 1 ∧ Rch R C air c0 (l j)) ∧ (∀ x, met x = 1 → met0 x = 1 ∨ ∃ j, j < n ∧ l j = x) ∧ (∀ x, met0 x = 1 → met x = 1) ∧
  sumN (fun x => met x * air x) 25 = sumN (fun x => met0 x * air x) 25 + sumN (fun j => air (l j)) n ∧ sumN met 25 = sumN met0 25 + n
section LA
variable {R C c0 : Nat} {air met0 : Nat → Nat}
theorem mul_up (met air : Nat → Nat) (z v : Nat) : (fun x => va_up met z v x * air x) = va_up (fun x => met x * air x) z (v * air z) := by
  funext x
  by_cases e : x = z
  · subst e; rw [va_up_at, va_up_at]
  · rw [vu_ne _ _ e, vu_ne _ _ e]
theorem BF_add (hR : R < 6) (hC : C < 6) {met l : Nat → Nat} {n z : Nat} (h : BF R C air c0 met0 met l n) (hz : z < R * C) (ha : 0 < air z) (hm : met z = 0) (hr : Rch R C air c0 z) : BF R C air c0 met0 (va_up met z 1) (va_up l n z) (n + 1) ∧ n < 25 := by
  have h25 := RC25 hR hC
  obtain ⟨h1, h2, h3, h4, h5, h6, h7⟩ := h
  have hcnt := sumN_one h2 hm (n := 25) (by omega)
  have hup := sumN_up met z 1 25 (by omega)
  have hup2 := sumN_up (fun x => met x * air x) z (1 * air z) 25 (by omega)
  have hl : ∀ j, j < n → va_up l n z j = l j := fun j hj => vu_ne _ _ (by omega)
  refine ⟨⟨by omega, fun j => ?_, fun j hj => ?_, fun x hx => ?_, fun x hx => ?_, ?_, by omega⟩, by omega⟩
  · by_cases e : j = z
    · subst e; rw [va_up_at]; exact Nat.le_refl 1
    · rw [vu_ne _ _ e]; exact h2 j
  · by_cases e : j = n
    · subst e
      rw [va_up_at]
      exact ⟨hz, ha, va_up_at _ _ _, hr⟩
    · rw [hl j (by omega)]
      obtain ⟨a, b, c, d⟩ := h3 j (by omega)
      refine ⟨a, b, ?_, d⟩
      by_cases e2 : l j = z
      · rw [e2, va_up_at]
      · rw [vu_ne _ _ e2]; exact c
  · by_cases e : x = z
    · subst e
      exact Or.inr ⟨n, by omega, va_up_at _ _ _⟩
    · rw [vu_ne _ _ e] at hx
      rcases h4 x hx with q | ⟨j, hj, q⟩
      · exact Or.inl q
      · exact Or.inr ⟨j, by omega, by rw [hl j hj]; exact q⟩
  · by_cases e : x = z
    · subst e; exact va_up_at _ _ _
    · rw [vu_ne _ _ e]; exact h5 x hx
  · rw [mul_up]
    have e1 : sumN (fun j => air (va_up l n z j)) (n + 1) = sumN (fun j => air (l j)) n + air z := by
      show sumN (fun j => air (va_up l n z j)) n + air (va_up l n z n) = _
      rw [va_up_at, sumN_congr (fun j hj => by rw [hl j hj])]
    rw [e1]
    have e2 : met z * air z = 0 := by rw [hm, Nat.zero_mul]
    omega
theorem ad_up {arr : Nat → Int32} {f : Nat → Nat} {n : Nat} (h : ad arr f n) (k v : Nat) : ad (upd arr k (nI v)) (va_up f k v) n := by
  intro j hj
  by_cases e : j = k
  · subst e; rw [va_up_at]; exact if_pos rfl
  · rw [vu_ne _ _ e]; exact (if_neg e).trans (h j hj)
theorem ad_next {arr : Nat → Int32} {f : Nat → Nat} {n : Nat} (h : ad arr f n) (v : Nat) : ad (upd arr n (nI v)) (va_up f n v) (n + 1) := by
  intro j hj
  by_cases e : j = n
  · subst e; rw [va_up_at]; exact if_pos rfl
  · rw [vu_ne _ _ e]; exact (if_neg e).trans (h j (by omega))
/-- one cell is met, or isn't -/
theorem meet_eq (hR : R < 6) (hC : C < 6) {met l : Nat → Nat} {n : Nat} (h : BF R C air c0 met0 met l n) {line metA : Nat → Int32} (hl : ad line l n) (hm : ad metA met 25) (hair : ∀ j, air j ≤ 99) (x : Option Nat) (hx : ∀ z, x = some z → z < R * C ∧ (0 < air z → Rch R C air c0 z)) :
    ∃ (n' : Nat) (l' met' : Nat → Nat) (line' metA' : Nat → Int32), f_X10_meet (oI x) (nI R) (nI C) (nI n) (lf air) line metA = some (nI n', line', metA') ∧ BF R C air c0 met0 met' l' n' ∧ ad line' l' n' ∧ ad metA' met' 25 ∧ n ≤ n' ∧ (∀ j, j < n → l' j = l j) ∧ (∀ y, met y = 1 → met' y = 1) ∧ (∀ z, x = some z → 0 < air z → met' z = 1) ∧ (n' = n → met' = met) ∧ (∀ z, x = some z → (air z = 0 ∨ met z = 1) → n' = n) := by
  have h25 := RC25 hR hC
  cases x with
  | none =>
    refine ⟨n, l, met, line, metA, ?_, h, hl, hm, Nat.le_refl _, fun _ _ => rfl, fun _ q => q, (fun z hz => by cases hz), fun _ => rfl, fun _ _ _ => rfl⟩
    unfold f_X10_meet
    rw [show oI none = -1 from rfl, has_no hR hC, px_kb, if_pos rfl]
  | some z =>
    obtain ⟨hz, hr⟩ := hx z rfl
    have haz := hair z
    unfold f_X10_meet
    rw [show oI (some z) = nI z from rfl, has_in hR hC hz, px_kb, if_neg (by decide), px_in (by omega) (by decide), nI_clamp (by omega), lf_at]
    by_cases ha : 0 < air z
    · rw [if_neg (nI_nle ha (by omega)), px_in (by omega) (by decide), hm z (by omega)]
      by_cases hmz : met z = 0
      · obtain ⟨hb, hn⟩ := BF_add hR hC h hz ha hmz (hr ha)
        rw [hmz, if_pos (show nI 0 = 0 from rfl), if_neg (show ¬ (25 : Int32) ≤ nI n from nI_ge (b := 25) hn (by decide)), px_in (by omega) (by decide), px_nm, px_in hn (by decide), px_nm, px_nm, nI_1, nI_clamp (by omega)]
        refine ⟨n + 1, va_up l n z, va_up met z 1, _, _, rfl, hb, ad_next hl z, ad_up hm z 1, by omega, fun j hj => vu_ne _ _ (by omega), fun y hy => ?_, fun y hy _ => ?_, (fun q => by omega), fun y hy q => ?_⟩
        · by_cases e : y = z
          · subst e; exact va_up_at _ _ _
          · rw [vu_ne _ _ e]; exact hy
        · cases hy; exact va_up_at _ _ _
        · cases hy; omega
      · have h1 : met z = 1 := by have := h.2.1 z; omega
        rw [h1, if_neg (show ¬ nI 1 = 0 by decide)]
        exact ⟨n, l, met, line, metA, rfl, h, hl, hm, Nat.le_refl _, fun _ _ => rfl, fun _ q => q, (fun y hy _ => by cases hy; exact h1), fun _ => rfl, fun _ _ _ => rfl⟩
    · have h0 : air z = 0 := by omega
      rw [h0, if_pos (show nI 0 ≤ 0 by decide)]
      exact ⟨n, l, met, line, metA, rfl, h, hl, hm, Nat.le_refl _, fun _ _ => rfl, fun _ q => q, (fun y hy hp => by cases hy; omega), fun _ => rfl, fun _ _ _ => rfl⟩
/-- all beside these are met -/
def Dn (R C : Nat) (air met l : Nat → Nat) (i w : Nat) : Prop := ∀ w', w' < w → ∀ z, nb R C (l i) w' = some z → 0 < air z → met z = 1
theorem bub_in (hR : R < 6) (hC : C < 6) (hair : ∀ j, air j ≤ 99) {i s : Nat} (kk : Int32 → Int32 → Int32 → (Nat → Int32) → (Nat → Int32) → Option (Int32 × Int32 × (Nat → Int32) × (Nat → Int32))) :
    ∀ (q f w n : Nat) (met l : Nat → Nat) (line metA : Nat → Int32), w + q = 4 → q < f → i < n → BF R C air c0 met0 met l n → ad line l n → ad metA met 25 → Dn R C air met l i w →
    ∃ (n' : Nat) (l' met' : Nat → Nat) (line' metA' : Nat → Int32), f_X10_meetBubble_L45 kk (nI R) (nI C) (lf air) f (nI s) (nI i) (nI w) (nI n) line metA = kk (nI s) (nI (i + 1)) (nI n') line' metA' ∧ BF R C air c0 met0 met' l' n' ∧ ad line' l' n' ∧ ad metA' met' 25 ∧ n ≤ n' ∧ (∀ j, j < n → l' j = l j) ∧ (∀ y, met y = 1 → met' y = 1) ∧ Dn R C air met' l' i 4 := by
  have h25 := RC25 hR hC
  intro q
  induction q with
  | zero =>
    intro f w n met l line metA hq hf hi hB hl hm hD
    obtain ⟨f', rfl⟩ : ∃ f', f = f' + 1 := ⟨f - 1, by omega⟩
    have : w = 4 := by omega
    subst this
    have hn25 := hB.1
    unfold f_X10_meetBubble_L45
    rw [if_pos (show (4 : Int32) ≤ nI 4 by decide), px_nm, nI_1]
    exact ⟨n, l, met, line, metA, rfl, hB, hl, hm, Nat.le_refl _, fun _ _ => rfl, fun _ q => q, hD⟩
  | succ q ih =>
    intro f w n met l line metA hq hf hi hB hl hm hD
    obtain ⟨f', rfl⟩ : ∃ f', f = f' + 1 := ⟨f - 1, by omega⟩
    have hw : w < 4 := by omega
    have hn25 := hB.1
    obtain ⟨hli, hla, hlm, hlr⟩ := hB.2.2.1 i hi
    obtain ⟨n1, l1, met1, line1, metA1, e1, b1, b2, b3, b4, b5, b6, b7, -, -⟩ := meet_eq hR hC hB hl hm hair (nb R C (l i) w) (fun z hz => ⟨(nb_all R hR C hC (l i) hli w hw z hz).1, fun ha => Rch_step hlr ⟨w, hw, hz, ha⟩⟩)
    unfold f_X10_meetBubble_L45
    rw [if_neg (show ¬ (4 : Int32) ≤ nI w from nI_ge (b := 4) hw (by decide)), px_in (by omega) (by decide), px_nm, nI_clamp (by omega), hl i hi, beside_all R hR C hC (l i) hli w hw, px_kb, e1, px_kb3, px_nm, nI_1]
    have hD1 : Dn R C air met1 l1 i (w + 1) := by
      intro w' hw' z hz ha
      rw [b5 i hi] at hz
      by_cases e : w' = w
      · subst e; exact b7 z hz ha
      · exact b6 z (hD w' (by omega) z hz ha)
    obtain ⟨n2, l2, met2, line2, metA2, f1, g1, g2, g3, g4, g5, g6, g7⟩ := ih f' (w + 1) n1 met1 l1 line1 metA1 (by omega) (by omega) (by omega) b1 b2 b3 hD1
    exact ⟨n2, l2, met2, line2, metA2, f1, g1, g2, g3, by omega, fun j hj => (g5 j (by omega)).trans (b5 j hj), fun y hy => g6 y (b6 y hy), g7⟩
theorem bub_out (hR : R < 6) (hC : C < 6) (hair : ∀ j, air j ≤ 99) :
    ∀ (q f i n : Nat) (met l : Nat → Nat) (line metA : Nat → Int32), i + q = 25 → q < f → i ≤ n → BF R C air c0 met0 met l n → ad line l n → ad metA met 25 → (∀ j, j < i → Dn R C air met l j 4) →
    ∃ (n' : Nat) (l' met' : Nat → Nat) (line' metA' : Nat → Int32), f_X10_meetBubble_L14 (nI R) (nI C) (lf air) f (nI (sumN (fun j => air (l j)) i)) (nI i) (nI n) line metA = some (nI (sumN (fun j => air (l' j)) n'), nI n', line', metA') ∧ BF R C air c0 met0 met' l' n' ∧ ad metA' met' 25 ∧ (∀ y, met y = 1 → met' y = 1) ∧ (∀ j, j < n' → Dn R C air met' l' j 4) := by
  have h25 := RC25 hR hC
  intro q
  induction q with
  | zero =>
    intro f i n met l line metA hq hf hi hB hl hm hD
    obtain ⟨f', rfl⟩ : ∃ f', f = f' + 1 := ⟨f - 1, by omega⟩
    have hn := hB.1
    have : n = i := by omega
    subst this
    unfold f_X10_meetBubble_L14
    rw [if_pos (show nI n ≤ nI n from Int32.le_refl _)]
    exact ⟨n, l, met, line, metA, rfl, hB, hm, fun _ q => q, hD⟩
  | succ q ih =>
    intro f i n met l line metA hq hf hi hB hl hm hD
    obtain ⟨f', rfl⟩ : ∃ f', f = f' + 1 := ⟨f - 1, by omega⟩
    have hn := hB.1
    unfold f_X10_meetBubble_L14
    by_cases hin : i < n
    · obtain ⟨hli, hla, hlm, hlr⟩ := hB.2.2.1 i hin
      rw [if_neg (nI_ge hin (by omega)), if_neg (show ¬ (25 : Int32) ≤ nI i from nI_ge (b := 25) (by omega) (by decide)), px_in (by omega) (by decide), px_nm, nI_clamp (by omega), hl i hin, px_in (by omega) (by decide), px_nm, nI_clamp (by omega), lf_at, nI_add]
      obtain ⟨n1, l1, met1, line1, metA1, e1, b1, b2, b3, b4, b5, b6, b7⟩ := bub_in (s := sumN (fun j => air (l j)) i + air (l i)) hR hC hair (f_X10_meetBubble_L14 (nI R) (nI C) (lf air) f') 4 gFuel 0 n met l line metA (by omega) (by unfold gFuel; omega) hin hB hl hm (fun w' hw' => absurd hw' (by omega))
      rw [nI_0] at e1
      rw [e1]
      have es : sumN (fun j => air (l j)) i + air (l i) = sumN (fun j => air (l1 j)) (i + 1) := by
        show _ = sumN (fun j => air (l1 j)) i + air (l1 i)
        have e9 : sumN (fun j => air (l1 j)) i = sumN (fun j => air (l j)) i := sumN_congr (fun j hj => by rw [b5 j (by omega)])
        rw [b5 i hin, e9]
      rw [es]
      obtain ⟨n2, l2, met2, line2, metA2, f1, g1, g2, g3, g4⟩ := ih f' (i + 1) n1 met1 l1 line1 metA1 (by omega) (by omega) (by omega) b1 b2 b3 (fun j hj => by
        by_cases e : j = i
        · subst e; exact b7
        · intro w' hw' z hz ha
          rw [b5 j (by omega)] at hz
          exact b6 z (hD j (by omega) w' hw' z hz ha))
      exact ⟨n2, l2, met2, line2, metA2, f1, g1, g2, fun y hy => g3 y (b6 y hy), g4⟩
    · have : n = i := by omega
      subst this
      rw [if_pos (show nI n ≤ nI n from Int32.le_refl _)]
      exact ⟨n, l, met, line, metA, rfl, hB, hm, fun _ q => q, hD⟩
end LA

theorem nb_sym : ∀ R, R < 6 → ∀ C, C < 6 → ∀ y, y < R * C → ∀ w, w < 4 → (match nb R C y w with | none => true | some z => decide (nb R C z ((w + 2) % 4) = some y)) = true := by decide +kernel
/-- a set of cells that is closed -/
def Cl (R C : Nat) (air met : Nat → Nat) : Prop := ∀ y z, y < R * C → met y = 1 → Adj R C air y z → met z = 1
theorem Adj_sym {R C : Nat} (hR : R < 6) (hC : C < 6) {air : Nat → Nat} {y z : Nat} (hy : y < R * C) (ha : 0 < air y) (h : Adj R C air y z) : Adj R C air z y ∧ z < R * C := by
  obtain ⟨w, hw, hn, hz⟩ := h
  have h1 := nb_sym R hR C hC y hy w hw
  rw [hn] at h1
  exact ⟨⟨(w + 2) % 4, Nat.mod_lt _ (by decide), of_decide_eq_true h1, ha⟩, (nb_all R hR C hC y hy w hw z hn).1⟩
section LA2
variable {R C : Nat} {air : Nat → Nat}
theorem Rch_in (hR : R < 6) (hC : C < 6) {c x : Nat} (hc : c < R * C) (ha : 0 < air c) (h : Rch R C air c x) : x < R * C ∧ 0 < air x := by
  refine h (fun x => x < R * C ∧ 0 < air x) ⟨hc, ha⟩ (fun y z hy a => ?_)
  obtain ⟨w, hw, hn, hz⟩ := a
  exact ⟨(nb_all R hR C hC y hy.1 w hw z hn).1, hz⟩
theorem Rch_out (hR : R < 6) (hC : C < 6) {met : Nat → Nat} (hcl : Cl R C air met) {c x : Nat} (hc : c < R * C) (ha : 0 < air c) (hm : met c ≠ 1) (h : Rch R C air c x) : met x ≠ 1 := by
  have := h (fun x => met x ≠ 1 ∧ x < R * C ∧ 0 < air x) ⟨hm, hc, ha⟩ (fun y z hy a => by
    obtain ⟨b, hz⟩ := Adj_sym hR hC hy.2.1 hy.2.2 a
    obtain ⟨w, hw, hn, hza⟩ := a
    exact ⟨fun q => hy.1 (hcl z y hz q b), hz, hza⟩)
  exact this.1
/-- what meetBubble does -/
theorem bubble_eq (hR : R < 6) (hC : C < 6) (hair : ∀ j, air j ≤ 99) {met : Nat → Nat} (hm1 : ∀ j, met j ≤ 1) (hcl : Cl R C air met) {c : Nat} (hc : c < R * C) {metA : Nat → Int32} (hm : ad metA met 25) (il : Int32) (line : Nat → Int32) :
    ∃ (size n' : Nat) (met' : Nat → Nat) (line' metA' : Nat → Int32), f_X10_meetBubble (nI c) (nI R) (nI C) il (lf air) line metA = some (nI size, nI n', line', metA') ∧ ad metA' met' 25 ∧ (∀ j, met' j ≤ 1) ∧ Cl R C air met' ∧
      ((air c = 0 ∨ met c = 1) → size = 0 ∧ met' = met) ∧
      (¬ (air c = 0 ∨ met c = 1) → ∃ S : Nat → Nat, (∀ x, S x ≤ 1) ∧ (∀ x, S x = 1 ↔ Rch R C air c x) ∧ size = sumN (fun x => S x * air x) 25 ∧ ∀ x, met' x = met x + S x) := by
  have h25 := RC25 hR hC
  have hB : BF R C air c met met (fun _ => 0) 0 := ⟨by omega, hm1, fun j hj => absurd hj (Nat.not_lt_zero j), fun x hx => Or.inl hx, fun x hx => hx, rfl, rfl⟩
  obtain ⟨n1, l1, met1, line1, metA1, e1, b1, b2, b3, b4, b5, b6, b7, b8, b9⟩ := meet_eq hR hC hB (line := line) (fun j hj => absurd hj (Nat.not_lt_zero j)) hm hair (some c) (fun z hz => by cases hz; exact ⟨hc, fun _ => Rch_rfl R C air c⟩)
  have e1' : f_X10_meet (nI c) (nI R) (nI C) 0 (lf air) line metA = some (nI n1, line1, metA1) := e1
  unfold f_X10_meetBubble
  rw [e1', px_kb3]
  by_cases ht : air c = 0 ∨ met c = 1
  · have hn : n1 = 0 := b9 c rfl ht
    have hmm := b8 hn
    subst hn
    rw [gf_succ]
    unfold f_X10_meetBubble_L14
    rw [if_pos (show nI 0 ≤ 0 by decide)]
    rw [hmm] at b3
    exact ⟨0, 0, met, line1, metA1, rfl, b3, hm1, hcl, fun _ => ⟨rfl, rfl⟩, fun q => absurd ht q⟩
  · have hac : 0 < air c := Nat.pos_of_ne_zero (fun q => ht (Or.inl q))
    have hmc : met c ≠ 1 := fun q => ht (Or.inr q)
    obtain ⟨n2, l2, met2, line2, metA2, f1, g1, g2, g3, g4⟩ := bub_out hR hC hair 25 gFuel 0 n1 met1 l1 line1 metA1 (by omega) (by unfold gFuel; omega) (by omega) b1 b2 b3 (fun j hj => absurd hj (Nat.not_lt_zero j))
    have f1' : f_X10_meetBubble_L14 (nI R) (nI C) (lf air) gFuel 0 0 (nI n1) line1 metA1 = some (nI (sumN (fun j => air (l2 j)) n2), nI n2, line2, metA2) := f1
    rw [f1']
    obtain ⟨h1, h2, h3, h4, h5, h6, h7⟩ := g1
    have hcl2 : Cl R C air met2 := by
      intro y z hy hmy a
      rcases h4 y hmy with q | ⟨j, hj, rfl⟩
      · exact h5 z (hcl y z hy q a)
      · obtain ⟨w, hw, hn, hza⟩ := a
        exact g4 j hj w hw z hn hza
    have hin : ∀ x, Rch R C air c x → met2 x = 1 := by
      intro x hx
      have := hx (fun x => met2 x = 1 ∧ x < R * C) ⟨g3 c (b7 c rfl hac), hc⟩ (fun y z hy a => by
        obtain ⟨w, hw, hn, hza⟩ := id a
        exact ⟨hcl2 y z hy.2 hy.1 a, (nb_all R hR C hC y hy.2 w hw z hn).1⟩)
      exact this.1
    refine ⟨_, n2, met2, line2, metA2, rfl, g2, h2, hcl2, fun q => absurd q ht, fun _ => ⟨fun x => met2 x - met x, fun x => by have := h2 x; show met2 x - met x ≤ 1; omega, fun x => ⟨fun hx => ?_, fun hx => ?_⟩, ?_, fun x => ?_⟩⟩
    · have hx : met2 x - met x = 1 := hx
      have a := h2 x
      rcases h4 x (by omega) with q | ⟨j, hj, rfl⟩
      · omega
      · exact (h3 j hj).2.2.2
    · have a := hin x hx
      have b := Rch_out hR hC hcl hc hac hmc hx
      have c' := hm1 x
      show met2 x - met x = 1
      omega
    · have hs : ∀ n, sumN (fun x => met2 x * air x) n = sumN (fun x => met x * air x) n + sumN (fun x => (met2 x - met x) * air x) n := by
        intro n
        induction n with
        | zero => rfl
        | succ n ih =>
          show sumN (fun x => met2 x * air x) n + met2 n * air n = sumN (fun x => met x * air x) n + met n * air n + (sumN (fun x => (met2 x - met x) * air x) n + (met2 n - met n) * air n)
          have e : met2 n * air n = met n * air n + (met2 n - met n) * air n := by
            rw [← Nat.add_mul]
            congr 1
            have := h5 n
            have := hm1 n
            omega
          omega
      have := hs 25
      show sumN (fun j => air (l2 j)) n2 = sumN (fun x => (met2 x - met x) * air x) 25
      omega
    · have a := h5 x
      have b := hm1 x
      show met2 x = met x + (met2 x - met x)
      omega
end LA2
