/-! the best stroke, by the class -/
/-- what is shown behind the i-th stroke -/
def Vs (Lm Ls : List Int32) (R C k m eb : Nat) (paste air : Nat → Nat) (i : Nat) : Nat := shownN Ls R C (strkA R C k m (i % 4) eb (fun a p => gN Lm a p m) paste (i / 4) air)
section KG
variable {Lm Ls : List Int32} {R C k m eb rm rs : Nat} {stM stS : Nat → Int32} {paste air : Nat → Nat}
theorem Vs_le (hR : R < 6) (hC : C < 6) (i : Nat) : Vs Lm Ls R C k m eb paste air i ≤ 2475 := shownN_le Ls hR hC _
theorem best_in (hM : LC 0 rm Lm stM) (hS : LC 1 rs Ls stS) (hR : R < 6) (hC : C < 6) (hk : k < 7) (hm : m < 10) (hp : PasteOK paste) (ha : AirOK air) {c : Nat} (hc : c < R * C) (night : Int32)
    (kk : Int32 → Int32 → Int32 → Int32 → Int32 → Int32 → Int32 → Int32 → (Nat → Int32) → (Nat → Int32) → (Nat → Int32) → (Nat → Int32) → (Nat → Int32) → (Nat → Int32) → (Nat → Int32) → Option (Int32 × Int32 × Int32 × Int32 × Int32 × Int32 × (Nat → Int32) × (Nat → Int32) × (Nat → Int32) × (Nat → Int32) × (Nat → Int32) × (Nat → Int32) × (Nat → Int32))) :
    ∀ (q f w fh fo : Nat) (fa : Nat → Nat) (aM sM aS sS : Nat → Int32), w + q = 4 → q < f → fh ≤ 99999 → fo ≤ 99999 → AirOK fa → CO Lm 10 rm aM → CO Ls 5 rs aS →
    ∃ (fh' fo' : Nat) (fa' : Nat → Nat) (aM' sM' aS' sS' : Nat → Int32), f_X11_bestFrom_L31 kk (nI m) (nI k) 10000 2500 (nI Lm.length) (nI 10) (nI rm) stM (nI Ls.length) (nI 5) (nI rs) stS (lf air) f (nI (R * C)) (nI (least (Vs Lm Ls R C k m eb paste air) (4 * c + w))) (nI c) (nI w) (nI R) (nI C) (nI fh) (nI fo) night (lf fa) (lf (opn eb)) (lf paste) aM sM aS sS
      = kk (nI (R * C)) (nI (least (Vs Lm Ls R C k m eb paste air) (4 * c + 4))) (nI (c + 1)) (nI R) (nI C) (nI fh') (nI fo') night (lf fa') (lf (opn eb)) (lf paste) aM' sM' aS' sS' ∧ fh' ≤ 99999 ∧ fo' ≤ 99999 ∧ AirOK fa' ∧ CO Lm 10 rm aM' ∧ CO Ls 5 rs aS' := by
  have h25 := RC25 hR hC
  intro q
  induction q with
  | zero =>
    intro f w fh fo fa aM sM aS sS hq hf h1 h2 h3 h4 h5
    obtain ⟨f', rfl⟩ : ∃ f', f = f' + 1 := ⟨f - 1, by omega⟩
    have : w = 4 := by omega
    subst this
    unfold f_X11_bestFrom_L31
    rw [if_pos (show (4 : Int32) ≤ nI 4 by decide), px_nm, nI_1]
    exact ⟨fh, fo, fa, aM, sM, aS, sS, rfl, h1, h2, h3, h4, h5⟩
  | succ q ih =>
    intro f w fh fo fa aM sM aS sS hq hf h1 h2 h3 h4 h5
    obtain ⟨f', rfl⟩ : ∃ f', f = f' + 1 := ⟨f - 1, by omega⟩
    have hw : w < 4 := by omega
    unfold f_X11_bestFrom_L31
    obtain ⟨a1, s1, e1, c1⟩ := strike_eq (k := k) (m := m) (w := w) (eb := eb) (paste := paste) (ans := aM) (stack := sM) hM h4 hR hC hk hm hw hc ha.1 hp.1 h1 h2
    obtain ⟨l1, l2, l3⟩ := strk_le (R := R) (C := C) (k := k) (m := m) (w := w) (eb := eb) (g := fun a p => gN Lm a p m) (paste := paste) (c := c) (holes := fh) (out := fo) hR hC ha.1
    have hok := strkA_ok (k := k) (m := m) (eb := eb) (g := fun a p => gN Lm a p m) (paste := paste) hR hC hw hc ha
    obtain ⟨a2, s2, e2, c2⟩ := shownBy_eq (air := strkA R C k m w eb (fun a p => gN Lm a p m) paste c air) hS hR hC aS sS h5
    have hV : Vs Lm Ls R C k m eb paste air (4 * c + w) = shownN Ls R C (strkA R C k m w eb (fun a p => gN Lm a p m) paste c air) := by
      unfold Vs
      rw [show (4 * c + w) % 4 = w by omega, show (4 * c + w) / 4 = c by omega]
    have hmk : mk10 (4 * c + w) = 10 * c + w := by unfold mk10; rw [show (4 * c + w) % 4 = w by omega, show (4 * c + w) / 4 = c by omega]
    have hst := least_step (V := Vs Lm Ls R C k m eb paste air) (i := 4 * c + w) (Vs_le hR hC) (by omega)
    rw [hV, hmk] at hst
    have e10 : (10 : Int32) * nI c = nI (10 * c) := pk_mul 10 c
    have e1000 : ∀ x, nI x * 1000 = nI (x * 1000) := fun x => pk_mul x 1000
    rw [strk_air] at e1
    rw [if_neg (show ¬ (4 : Int32) ≤ nI w from nI_ge (b := 4) (by omega) (by decide)), airAs_eq h3 ha, px_kb, e1, px_kb5, e2, px_kb3, px_nm, px_nm, px_nm, px_nm, px_nm, e1000, e10, nI_add, nI_add, nI_1]
    rw [show shownN Ls R C (strkA R C k m w eb (fun a p => gN Lm a p m) paste c air) * 1000 + 10 * c + w = shownN Ls R C (strkA R C k m w eb (fun a p => gN Lm a p m) paste c air) * 1000 + (10 * c + w) from Nat.add_assoc _ _ _, hst]
    exact ih f' (w + 1) _ _ _ a1 s1 a2 s2 (by omega) (by omega) l1 l2 hok c1 c2
theorem best_out (hM : LC 0 rm Lm stM) (hS : LC 1 rs Ls stS) (hR : R < 6) (hC : C < 6) (hk : k < 7) (hm : m < 10) (hp : PasteOK paste) (ha : AirOK air) (night : Int32) :
    ∀ (q f c fh fo : Nat) (fa : Nat → Nat) (aM sM aS sS : Nat → Int32), c + q = R * C → q < f → fh ≤ 99999 → fo ≤ 99999 → AirOK fa → CO Lm 10 rm aM → CO Ls 5 rs aS →
    ∃ (fh' fo' : Nat) (fa' : Nat → Nat) (aM' sM' aS' sS' : Nat → Int32), f_X11_bestFrom_L21 (nI m) (nI k) 10000 2500 (nI Lm.length) (nI 10) (nI rm) stM (nI Ls.length) (nI 5) (nI rs) stS (lf air) f (nI (R * C)) (nI (least (Vs Lm Ls R C k m eb paste air) (4 * c))) (nI c) (nI R) (nI C) (nI fh) (nI fo) night (lf fa) (lf (opn eb)) (lf paste) aM sM aS sS
      = some (nI (least (Vs Lm Ls R C k m eb paste air) (4 * (R * C))), nI R, nI C, nI fh', nI fo', night, lf fa', lf (opn eb), lf paste, aM', sM', aS', sS') ∧ fh' ≤ 99999 ∧ fo' ≤ 99999 ∧ AirOK fa' ∧ CO Lm 10 rm aM' ∧ CO Ls 5 rs aS' := by
  have h25 := RC25 hR hC
  intro q
  induction q with
  | zero =>
    intro f c fh fo fa aM sM aS sS hq hf h1 h2 h3 h4 h5
    obtain ⟨f', rfl⟩ : ∃ f', f = f' + 1 := ⟨f - 1, by omega⟩
    have : c = R * C := by omega
    subst this
    unfold f_X11_bestFrom_L21
    rw [if_pos (show nI (R * C) ≤ nI (R * C) from Int32.le_refl _)]
    exact ⟨fh, fo, fa, aM, sM, aS, sS, rfl, h1, h2, h3, h4, h5⟩
  | succ q ih =>
    intro f c fh fo fa aM sM aS sS hq hf h1 h2 h3 h4 h5
    obtain ⟨f', rfl⟩ : ∃ f', f = f' + 1 := ⟨f - 1, by omega⟩
    unfold f_X11_bestFrom_L21
    rw [if_neg (nI_ge (a := c) (b := R * C) (by omega) (by omega))]
    obtain ⟨fh', fo', fa', aM', sM', aS', sS', e1, g1, g2, g3, g4, g5⟩ := best_in (eb := eb) hM hS hR hC hk hm hp ha (c := c) (by omega) night (f_X11_bestFrom_L21 (nI m) (nI k) 10000 2500 (nI Lm.length) (nI 10) (nI rm) stM (nI Ls.length) (nI 5) (nI rs) stS (lf air) f') 4 gFuel 0 fh fo fa aM sM aS sS (by omega) (by unfold gFuel; omega) h1 h2 h3 h4 h5
    rw [nI_0, Nat.add_zero] at e1
    rw [e1]
    exact ih f' (c + 1) fh' fo' fa' aM' sM' aS' sS' (by omega) (by omega) g1 g2 g3 g4 g5
theorem bestFrom_eq (hM : LC 0 rm Lm stM) (hS : LC 1 rs Ls stS) (hR : R < 6) (hC : C < 6) (hk : k < 7) (hm : m < 10) (hp : PasteOK paste) (ha : AirOK air) (he : eb < 16) {holes out : Nat} (hh : holes ≤ 99999) (ho : out ≤ 99999) (night : Int32) {fa fop fp aM aS : Nat → Int32} (hF : SC fa fop fp) (hcM : CO Lm 10 rm aM) (hcS : CO Ls 5 rs aS) (fr fc fh fo fn : Int32) (sM sS : Nat → Int32) :
    ∃ (fh' fo' : Nat) (fa' : Nat → Nat) (aM' sM' aS' sS' : Nat → Int32), f_X11_bestFrom (nI m) (nI k) 10000 2500 fr fc fh fo fn fa fop fp (nI Lm.length) (nI 10) (nI rm) aM sM stM (nI Ls.length) (nI 5) (nI rs) aS sS stS (nI R) (nI C) (nI holes) (nI out) night (lf air) (lf (opn eb)) (lf paste)
      = some (nI (least (Vs Lm Ls R C k m eb paste air) (4 * (R * C))), nI R, nI C, nI fh', nI fo', night, lf fa', lf (opn eb), lf paste, aM', sM', aS', sS') ∧ fh' ≤ 99999 ∧ fo' ≤ 99999 ∧ AirOK fa' ∧ CO Lm 10 rm aM' ∧ CO Ls 5 rs aS' := by
  have h25 := RC25 hR hC
  unfold f_X11_bestFrom f_X10_cells
  rw [px_kb, copy_eq hF ha hp he, px_kb8, pk_mul]
  exact best_out hM hS hR hC hk hm hp ha night (R * C) gFuel 0 holes out air aM sM aS sS (by omega) (by unfold gFuel; omega) hh ho ha hcM hcS
end KG
