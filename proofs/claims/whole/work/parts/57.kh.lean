/-! the best of two strokes, by the class -/
/-- the least that is shown behind the i-th stroke and another one -/
def V2 (Lm Ls : List Int32) (R C k m eb : Nat) (paste air : Nat → Nat) (i : Nat) : Nat :=
  (bestN (Vs Lm Ls R C k m eb paste (strkA R C k m (i % 4) eb (fun a p => gN Lm a p m) paste (i / 4) air)) (4 * (R * C))).2
section KH
variable {Lm Ls : List Int32} {R C k m eb rm rs holes out : Nat} {stM stS errs : Nat → Int32} {paste air : Nat → Nat} {night a2 : Int32}
theorem V2_le (hR : R < 6) (hC : C < 6) (i : Nat) : V2 Lm Ls R C k m eb paste air i ≤ 2475 := bestN_le (Vs_le hR hC) _
theorem two_in (hM : LC 0 rm Lm stM) (hS : LC 1 rs Ls stS) (hR0 : 0 < R) (hC0 : 0 < C) (hR : R < 6) (hC : C < 6) (hk : k < 7) (hm : m < 10) (hp : PasteOK paste) (ha : AirOK air) (he : eb < 16) (hh : holes ≤ 99999) (ho : out ≤ 99999) {c : Nat} (hc : c < R * C)
    (kk : Int32 → Int32 → Int32 → Int32 → Int32 → (Nat → Int32) → Int32 → Int32 → Int32 → Int32 → Int32 → (Nat → Int32) → (Nat → Int32) → (Nat → Int32) → (Nat → Int32) → (Nat → Int32) → (Nat → Int32) → (Nat → Int32) → Int32 → Int32 → Int32 → Int32 → Int32 → (Nat → Int32) → (Nat → Int32) → (Nat → Int32) → Option (Int32 × (Nat → Int32) × Int32 × Int32 × Int32 × Int32 × Int32 × (Nat → Int32) × (Nat → Int32) × (Nat → Int32) × (Nat → Int32) × (Nat → Int32) × (Nat → Int32) × (Nat → Int32) × Int32 × Int32 × Int32 × Int32 × Int32 × (Nat → Int32) × (Nat → Int32) × (Nat → Int32))) :
    ∀ (q f w : Nat) (fr fc fh fo fn : Int32) (fa fop fp aM sM aS sS : Nat → Int32) (tr tc th to tn : Int32) (ta top tp : Nat → Int32), w + q = 4 → q < f → SC fa fop fp → SC ta top tp → CO Lm 10 rm aM → CO Ls 5 rs aS →
    ∃ (fr' fc' fh' fo' fn' : Int32) (fa' fop' fp' aM' sM' aS' sS' : Nat → Int32) (tr' tc' th' to' tn' : Int32) (ta' top' tp' : Nat → Int32),
      f_X11_bestTwo_L69 kk a2 10000 2500 (nI Lm.length) (nI 10) (nI rm) stM (nI Ls.length) (nI 5) (nI rs) stS (nI R) (nI C) (nI holes) (nI out) night (lf air) (lf (opn eb)) (lf paste) f (nI k) (nI m) (nI (R * C)) (nI (least (V2 Lm Ls R C k m eb paste air) (4 * c + w))) (nI c) (nI w) errs fr fc fh fo fn fa fop fp aM sM aS sS tr tc th to tn ta top tp
        = kk (nI k) (nI m) (nI (R * C)) (nI (least (V2 Lm Ls R C k m eb paste air) (4 * c + 4))) (nI (c + 1)) errs fr' fc' fh' fo' fn' fa' fop' fp' aM' sM' aS' sS' tr' tc' th' to' tn' ta' top' tp' ∧ SC fa' fop' fp' ∧ SC ta' top' tp' ∧ CO Lm 10 rm aM' ∧ CO Ls 5 rs aS' := by
  have h25 := RC25 hR hC
  have h1c : 1 ≤ R * C := Nat.mul_pos hR0 hC0
  intro q
  induction q with
  | zero =>
    intro f w fr fc fh fo fn fa fop fp aM sM aS sS tr tc th to tn ta top tp hq hf hF hT h4 h5
    obtain ⟨f', rfl⟩ : ∃ f', f = f' + 1 := ⟨f - 1, by omega⟩
    have : w = 4 := by omega
    subst this
    unfold f_X11_bestTwo_L69
    rw [if_pos (show (4 : Int32) ≤ nI 4 by decide), px_nm, nI_1]
    exact ⟨fr, fc, fh, fo, fn, fa, fop, fp, aM, sM, aS, sS, tr, tc, th, to, tn, ta, top, tp, rfl, hF, hT, h4, h5⟩
  | succ q ih =>
    intro f w fr fc fh fo fn fa fop fp aM sM aS sS tr tc th to tn ta top tp hq hf hF hT h4 h5
    obtain ⟨f', rfl⟩ : ∃ f', f = f' + 1 := ⟨f - 1, by omega⟩
    have hw : w < 4 := by omega
    unfold f_X11_bestTwo_L69
    obtain ⟨a1, s1, e1, c1⟩ := strike_eq (k := k) (m := m) (w := w) (eb := eb) (paste := paste) (ans := aM) (stack := sM) hM h4 hR hC hk hm hw hc ha.1 hp.1 hh ho
    obtain ⟨l1, l2, l3⟩ := strk_le (R := R) (C := C) (k := k) (m := m) (w := w) (eb := eb) (g := fun a p => gN Lm a p m) (paste := paste) (c := c) (holes := holes) (out := out) hR hC ha.1
    have hok := strkA_ok (k := k) (m := m) (eb := eb) (g := fun a p => gN Lm a p m) (paste := paste) hR hC hw hc ha
    rw [strk_air] at e1
    obtain ⟨fh1, fo1, fa1, aM1, sM1, aS1, sS1, e2, g1, g2, g3, g4, g5⟩ := bestFrom_eq (eb := eb) hM hS hR hC hk hm hp hok he l1 l2 night hF c1 h5 fr fc fh fo fn s1 sS
    have hpart := (part_eq (V := Vs Lm Ls R C k m eb paste (strkA R C k m w eb (fun a p => gN Lm a p m) paste c air)) (n := 4 * (R * C)) (Vs_le hR hC) (by omega) (by omega)).2 1 (by decide)
    have hV : V2 Lm Ls R C k m eb paste air (4 * c + w) = (bestN (Vs Lm Ls R C k m eb paste (strkA R C k m w eb (fun a p => gN Lm a p m) paste c air)) (4 * (R * C))).2 := by
      unfold V2
      rw [show (4 * c + w) % 4 = w by omega, show (4 * c + w) / 4 = c by omega]
    have hmk : mk10 (4 * c + w) = 10 * c + w := by unfold mk10; rw [show (4 * c + w) % 4 = w by omega, show (4 * c + w) / 4 = c by omega]
    have hst := least_step (V := V2 Lm Ls R C k m eb paste air) (i := 4 * c + w) (V2_le hR hC) (by omega)
    rw [hV, hmk, ← Nat.add_assoc] at hst
    have e10 : (10 : Int32) * nI c = nI (10 * c) := pk_mul 10 c
    have e1000 : ∀ x, nI x * 1000 = nI (x * 1000) := fun x => pk_mul x 1000
    rw [if_neg (show ¬ (4 : Int32) ≤ nI w from nI_ge (b := 4) (by omega) (by decide)), copy_eq hT ha hp he, px_kb8, e1, px_kb5, e2, px_kb13, hpart, px_kb, px_nm, px_nm, px_nm, px_nm, px_nm, e1000, e10, nI_add, nI_add, nI_1, hst]
    exact ih f' (w + 1) (nI R) (nI C) (nI fh1) (nI fo1) night (lf fa1) (lf (opn eb)) (lf paste) aM1 sM1 aS1 sS1 (nI R) (nI C) _ _ night (lf (strkA R C k m w eb (fun a p => gN Lm a p m) paste c air)) (lf (opn eb)) (lf paste) (by omega) (by omega) ⟨fa1, paste, eb, rfl, rfl, rfl, he, g3, hp⟩ ⟨_, paste, eb, rfl, rfl, rfl, he, hok, hp⟩ g4 g5
theorem two_out (hM : LC 0 rm Lm stM) (hS : LC 1 rs Ls stS) (hR0 : 0 < R) (hC0 : 0 < C) (hR : R < 6) (hC : C < 6) (hk : k < 7) (hm : m < 10) (hp : PasteOK paste) (ha : AirOK air) (he : eb < 16) (hh : holes ≤ 99999) (ho : out ≤ 99999) :
    ∀ (q f c : Nat) (fr fc fh fo fn : Int32) (fa fop fp aM sM aS sS : Nat → Int32) (tr tc th to tn : Int32) (ta top tp : Nat → Int32), c + q = R * C → q < f → SC fa fop fp → SC ta top tp → CO Lm 10 rm aM → CO Ls 5 rs aS →
    ∃ (r : Int32) (fr' fc' fh' fo' fn' : Int32) (fa' fop' fp' aM' sM' aS' sS' : Nat → Int32) (tr' tc' th' to' tn' : Int32) (ta' top' tp' : Nat → Int32),
      f_X11_bestTwo_L59 a2 10000 2500 (nI Lm.length) (nI 10) (nI rm) stM (nI Ls.length) (nI 5) (nI rs) stS (nI R) (nI C) (nI holes) (nI out) night (lf air) (lf (opn eb)) (lf paste) f (nI k) (nI m) (nI (R * C)) (nI (least (V2 Lm Ls R C k m eb paste air) (4 * c))) (nI c) errs fr fc fh fo fn fa fop fp aM sM aS sS tr tc th to tn ta top tp
        = some (r, errs, fr', fc', fh', fo', fn', fa', fop', fp', aM', sM', aS', sS', tr', tc', th', to', tn', ta', top', tp') ∧ r = nI (if a2 = 0 then (bestN (V2 Lm Ls R C k m eb paste air) (4 * (R * C))).1 else (bestN (V2 Lm Ls R C k m eb paste air) (4 * (R * C))).2) ∧ SC fa' fop' fp' ∧ SC ta' top' tp' ∧ CO Lm 10 rm aM' ∧ CO Ls 5 rs aS' := by
  have h25 := RC25 hR hC
  have h1c : 1 ≤ R * C := Nat.mul_pos hR0 hC0
  intro q
  induction q with
  | zero =>
    intro f c fr fc fh fo fn fa fop fp aM sM aS sS tr tc th to tn ta top tp hq hf hF hT h4 h5
    obtain ⟨f', rfl⟩ : ∃ f', f = f' + 1 := ⟨f - 1, by omega⟩
    have : c = R * C := by omega
    subst this
    obtain ⟨p0, p1⟩ := part_eq (V := V2 Lm Ls R C k m eb paste air) (n := 4 * (R * C)) (V2_le hR hC) (by omega) (by omega)
    unfold f_X11_bestTwo_L59
    rw [if_pos (show nI (R * C) ≤ nI (R * C) from Int32.le_refl _)]
    by_cases hz : a2 = 0
    · subst hz
      rw [p0, px_kb]
      exact ⟨_, fr, fc, fh, fo, fn, fa, fop, fp, aM, sM, aS, sS, tr, tc, th, to, tn, ta, top, tp, rfl, rfl, hF, hT, h4, h5⟩
    · rw [p1 a2 hz, px_kb, if_neg hz]
      exact ⟨_, fr, fc, fh, fo, fn, fa, fop, fp, aM, sM, aS, sS, tr, tc, th, to, tn, ta, top, tp, rfl, rfl, hF, hT, h4, h5⟩
  | succ q ih =>
    intro f c fr fc fh fo fn fa fop fp aM sM aS sS tr tc th to tn ta top tp hq hf hF hT h4 h5
    obtain ⟨f', rfl⟩ : ∃ f', f = f' + 1 := ⟨f - 1, by omega⟩
    unfold f_X11_bestTwo_L59
    rw [if_neg (nI_ge (a := c) (b := R * C) (by omega) (by omega))]
    obtain ⟨fr', fc', fh', fo', fn', fa', fop', fp', aM', sM', aS', sS', tr', tc', th', to', tn', ta', top', tp', e1, g1, g2, g3, g4⟩ := two_in (eb := eb) (errs := errs) (night := night) (a2 := a2) hM hS hR0 hC0 hR hC hk hm hp ha he hh ho (c := c) (by omega) (f_X11_bestTwo_L59 a2 10000 2500 (nI Lm.length) (nI 10) (nI rm) stM (nI Ls.length) (nI 5) (nI rs) stS (nI R) (nI C) (nI holes) (nI out) night (lf air) (lf (opn eb)) (lf paste) f') 4 gFuel 0 fr fc fh fo fn fa fop fp aM sM aS sS tr tc th to tn ta top tp (by omega) (by unfold gFuel; omega) hF hT h4 h5
    rw [nI_0, Nat.add_zero] at e1
    rw [e1]
    exact ih f' (c + 1) fr' fc' fh' fo' fn' fa' fop' fp' aM' sM' aS' sS' tr' tc' th' to' tn' ta' top' tp' (by omega) (by omega) g1 g2 g3 g4
end KH
