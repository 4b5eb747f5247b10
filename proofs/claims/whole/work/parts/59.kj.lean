/-! the best of two strokes, by the model -/
section KJ
variable {Lm Ls : List Int32} {R C k m eb t holes out : Nat} {ik a2 : Int32} {air paste : Nat → Nat} {d found : Nat → Int32}
theorem ot_in (hA : MA Lm Ls R C k m eb t holes out air paste d) {c : Nat} (hc : c < R * C)
    (kk : Int32 → Int32 → Int32 → Int32 → Int32 → Int32 → Int32 → Int32 → Int32 → Int32 → Int32 → (Nat → Int32) → (Nat → Int32) → (Nat → Int32) → (Nat → Int32) → (Nat → Int32) → (Nat → Int32) → Option (Int32 × Int32 × Int32 × Int32 × Int32 × Int32 × Int32 × Int32 × Int32 × (Nat → Int32) × (Nat → Int32) × (Nat → Int32) × (Nat → Int32) × (Nat → Int32) × (Nat → Int32))) :
    ∀ (q f w : Nat) (vb va vs vf vo vi bs : Int32) (aside mk names sk : Nat → Int32), w + q = 4 → q < f → KM Lm m ik mk → KS Ls C ik sk →
    ∃ (x1 x2 x3 x4 x5 x6 x7 : Int32) (aside' mk' y sk' : Nat → Int32), f_X12_bestTwo_L48 kk (nI t) a2 f (bI0 (V2 Lm Ls R C k m eb paste air) (4 * c + w)) (nI (bestN (V2 Lm Ls R C k m eb paste air) (4 * c + w)).2) (nI c) (nI w) vb va vs vf vo vi ik bs aside d found mk names sk
      = kk (bI0 (V2 Lm Ls R C k m eb paste air) (4 * c + 4)) (nI (bestN (V2 Lm Ls R C k m eb paste air) (4 * c + 4)).2) (nI (c + 1)) x1 x2 x3 x4 x5 x6 ik x7 aside' d found mk' y sk' ∧ KM Lm m ik mk' ∧ KS Ls C ik sk' := by
  obtain ⟨hR0, hC0, hR, hC, hk, hm, ht, he, hp, ha, hh, ho, hW, hT, hL0, hL1⟩ := hA
  have h25 := RC25 hR hC
  intro q
  induction q with
  | zero =>
    intro f w vb va vs vf vo vi bs aside mk names sk hq hf hK hS
    obtain ⟨f', rfl⟩ : ∃ f', f = f' + 1 := ⟨f - 1, by omega⟩
    have : w = 4 := by omega
    subst this
    unfold f_X12_bestTwo_L48
    rw [if_pos (show (4 : Int32) ≤ nI 4 by decide), px_nm, nI_1]
    exact ⟨vb, va, vs, vf, vo, vi, bs, aside, mk, names, sk, rfl, hK, hS⟩
  | succ q ih =>
    intro f w vb va vs vf vo vi bs aside mk names sk hq hf hK hS
    obtain ⟨f', rfl⟩ : ∃ f', f = f' + 1 := ⟨f - 1, by omega⟩
    have hw : w < 4 := by omega
    obtain ⟨as1, k1, k2, k3⟩ := keep_m (dep := 0) (by decide) d aside
    obtain ⟨x1, x2, x3, x4, x5, x6, d1, mk1, y1, e1, hW1, hS1, hK1⟩ := strokes_m (eb := eb) (t := t) (ik := ik) hR hC hk hm hw ht he hp.1 vb va vs vf vo vi names hK hc hW hT hL0 ha.1 hh ho
    obtain ⟨l1, l2, l3⟩ := strk_le (R := R) (C := C) (k := k) (m := m) (w := w) (eb := eb) (g := fun a p => gN Lm a p m) (paste := paste) (c := c) (holes := holes) (out := out) hR hC ha.1
    rw [strk_air] at hW1
    have hok := strkA_ok (k := k) (m := m) (eb := eb) (g := fun a p => gN Lm a p m) (paste := paste) hR hC hw hc ha
    have hA1 : MA Lm Ls R C k m eb t _ _ _ paste d1 := ⟨hR0, hC0, hR, hC, hk, hm, ht, he, hp, hok, l1, l2, hW1, MT_same hT (SW_60 hS1), LM_same (by decide) hL0 (SW_60 hS1), LM_same (by decide) hL1 (SW_60 hS1)⟩
    obtain ⟨z1, z2, z3, z4, z5, z6, as2, mk2, y2, sk2, e2, hK2, hS2, has⟩ := bestOf_m (dep := 1) (ik := ik) hA1 (by decide) x1 x2 x3 x4 x5 x6 bs as1 y1 hK1 hS
    have hb : f_X12_putBack 0 as2 d1 = some d := back_m (dep := 0) (by decide) (fun j hj => by rw [has _ (by omega)]; exact k2 j hj) (SW_60 hS1)
    have hV : V2 Lm Ls R C k m eb paste air (4 * c + w) = (bestN (Vs Lm Ls R C k m eb paste (strkA R C k m w eb (fun a p => gN Lm a p m) paste c air)) (4 * (R * C))).2 := by
      unfold V2
      rw [show (4 * c + w) % 4 = w by omega, show (4 * c + w) / 4 = c by omega]
    have hmk : mk10 (4 * c + w) = 10 * c + w := by unfold mk10; rw [show (4 * c + w) % 4 = w by omega, show (4 * c + w) / 4 = c by omega]
    have hvl := V2_le (Lm := Lm) (Ls := Ls) (k := k) (m := m) (eb := eb) (paste := paste) (air := air) hR hC (4 * c + w)
    have hbl := bestN_le (V2_le (Lm := Lm) (Ls := Ls) (k := k) (m := m) (eb := eb) (paste := paste) (air := air) hR hC) (4 * c + w)
    have h1c : 1 ≤ R * C := Nat.mul_pos hR0 hC0
    have hr33 := (bestN_lt (Vs Lm Ls R C k m eb paste (strkA R C k m w eb (fun a p => gN Lm a p m) paste c air)) (4 * (R * C)) (by omega)).1
    have hr34 : mk10 (4 * (R * C)) < 1000 := by unfold mk10; omega
    have e10 : (10 : Int32) * nI c = nI (10 * c) := pk_mul 10 c
    have k1' : f_X12_keepAside 0 aside d = some as1 := k1
    have e2' := e2
    rw [show nI 1 = 1 from rfl, ← hV] at e2'
    unfold f_X12_bestTwo_L48
    rw [if_neg (show ¬ (4 : Int32) ≤ nI w from nI_ge (b := 4) (by omega) (by decide)), k1', px_kb, e1, px_kb9, e2', px_kb13, hb, px_kb, if_neg (nI_pos (by omega))]
    obtain ⟨u1, u2, u3, u4, u5, u6, u7, as3, mk3, y3, sk3, f1, f2, f3⟩ := ih f' (w + 1) z1 z2 z3 z4 z5 z6 (nI (V2 Lm Ls R C k m eb paste air (4 * c + w))) as2 mk2 y2 sk2 (by omega) (by omega) hK2 hS2
    have fin : ∀ {X : Option (Int32 × Int32 × Int32 × Int32 × Int32 × Int32 × Int32 × Int32 × Int32 × (Nat → Int32) × (Nat → Int32) × (Nat → Int32) × (Nat → Int32) × (Nat → Int32) × (Nat → Int32))}, X = f_X12_bestTwo_L48 kk (nI t) a2 f' (bI0 (V2 Lm Ls R C k m eb paste air) (4 * c + (w + 1))) (nI (bestN (V2 Lm Ls R C k m eb paste air) (4 * c + (w + 1))).2) (nI c) (nI (w + 1)) z1 z2 z3 z4 z5 z6 ik (nI (V2 Lm Ls R C k m eb paste air (4 * c + w))) as2 d found mk2 y2 sk2 →
        ∃ (x1 x2 x3 x4 x5 x6 x7 : Int32) (aside' mk' y sk' : Nat → Int32), X = kk (bI0 (V2 Lm Ls R C k m eb paste air) (4 * c + 4)) (nI (bestN (V2 Lm Ls R C k m eb paste air) (4 * c + 4)).2) (nI (c + 1)) x1 x2 x3 x4 x5 x6 ik x7 aside' d found mk' y sk' ∧ KM Lm m ik mk' ∧ KS Ls C ik sk' := by
      intro X hX
      exact ⟨u1, u2, u3, u4, u5, u6, u7, as3, mk3, y3, sk3, hX.trans f1, f2, f3⟩
    have next : (4 * c + w = 0 ∨ V2 Lm Ls R C k m eb paste air (4 * c + w) < (bestN (V2 Lm Ls R C k m eb paste air) (4 * c + w)).2) → f_X12_bestTwo_L99 (f_X12_bestTwo_L48 kk (nI t) a2 f') (nI t) a2 (nI c) (nI w) z1 z2 z3 z4 z5 z6 ik (nI (V2 Lm Ls R C k m eb paste air (4 * c + w))) as2 d found mk2 y2 sk2 = f_X12_bestTwo_L48 kk (nI t) a2 f' (bI0 (V2 Lm Ls R C k m eb paste air) (4 * c + (w + 1))) (nI (bestN (V2 Lm Ls R C k m eb paste air) (4 * c + (w + 1))).2) (nI c) (nI (w + 1)) z1 z2 z3 z4 z5 z6 ik (nI (V2 Lm Ls R C k m eb paste air (4 * c + w))) as2 d found mk2 y2 sk2 := by
      intro h
      obtain ⟨g1, g2⟩ := bI0_next h
      unfold f_X12_bestTwo_L99
      rw [px_nm, px_nm, px_nm, e10, nI_add, nI_1, ← Nat.add_assoc, g1, g2, hmk]
    by_cases hi : 4 * c + w = 0
    · rw [if_pos (show bI0 (V2 Lm Ls R C k m eb paste air) (4 * c + w) < 0 by unfold bI0; rw [if_pos hi]; decide)]
      exact fin (next (Or.inl hi))
    · have hbm := (bestN_lt (V2 Lm Ls R C k m eb paste air) (4 * c + w) (by omega)).1
      have hbm2 : mk10 (4 * c + w) < 1000 := by unfold mk10; omega
      rw [if_neg (show ¬ bI0 (V2 Lm Ls R C k m eb paste air) (4 * c + w) < 0 by unfold bI0; rw [if_neg hi]; exact nI_pos (by omega))]
      by_cases hlt : V2 Lm Ls R C k m eb paste air (4 * c + w) < (bestN (V2 Lm Ls R C k m eb paste air) (4 * c + w)).2
      · rw [if_neg (nI_ge hlt (by omega))]
        exact fin (next (Or.inr hlt))
      · rw [if_pos (nI_le (by omega) (by omega)), px_nm, nI_1]
        obtain ⟨g1, g2⟩ := bI0_same hi hlt
        refine fin ?_
        rw [← Nat.add_assoc, g1, g2]
theorem ot_out (hA : MA Lm Ls R C k m eb t holes out air paste d) :
    ∀ (q f c : Nat) (vb va vs vf vo vi bs : Int32) (aside mk names sk : Nat → Int32), c + q = R * C → q < f → KM Lm m ik mk → KS Ls C ik sk →
    ∃ (x1 x2 x3 x4 x5 x6 x7 : Int32) (aside' mk' y sk' : Nat → Int32), f_X12_bestTwo_L36 (nI t) a2 f (bI0 (V2 Lm Ls R C k m eb paste air) (4 * c)) (nI (bestN (V2 Lm Ls R C k m eb paste air) (4 * c)).2) (nI c) vb va vs vf vo vi ik bs aside d found mk names sk
      = some (nI (if a2 = 0 then (bestN (V2 Lm Ls R C k m eb paste air) (4 * (R * C))).1 else (bestN (V2 Lm Ls R C k m eb paste air) (4 * (R * C))).2), x1, x2, x3, x4, x5, x6, 0, x7, aside', d, found, mk', y, sk') := by
  have hA0 := hA
  obtain ⟨hR0, hC0, hR, hC, hk, hm, ht, he, hp, ha, hh, ho, hW, hT, hL0, hL1⟩ := hA
  have h25 := RC25 hR hC
  have h1c : 1 ≤ R * C := Nat.mul_pos hR0 hC0
  intro q
  induction q with
  | zero =>
    intro f c vb va vs vf vo vi bs aside mk names sk hq hf hK hS
    obtain ⟨f', rfl⟩ : ∃ f', f = f' + 1 := ⟨f - 1, by omega⟩
    have : c = R * C := by omega
    subst this
    have e2 : bI0 (V2 Lm Ls R C k m eb paste air) (4 * (R * C)) = nI (bestN (V2 Lm Ls R C k m eb paste air) (4 * (R * C))).1 := if_neg (by omega)
    unfold f_X12_bestTwo_L36
    rw [cells_m hW, px_kb, if_pos (show nI (R * C) ≤ nI (R * C) from Int32.le_refl _), e2]
    by_cases hz : a2 = 0
    · rw [if_pos hz, if_pos hz]; exact ⟨_, _, _, _, _, _, _, _, _, _, _, rfl⟩
    · rw [if_neg hz, if_neg hz]; exact ⟨_, _, _, _, _, _, _, _, _, _, _, rfl⟩
  | succ q ih =>
    intro f c vb va vs vf vo vi bs aside mk names sk hq hf hK hS
    obtain ⟨f', rfl⟩ : ∃ f', f = f' + 1 := ⟨f - 1, by omega⟩
    unfold f_X12_bestTwo_L36
    rw [cells_m hW, px_kb, if_neg (nI_ge (a := c) (b := R * C) (by omega) (by omega))]
    obtain ⟨x1, x2, x3, x4, x5, x6, x7, as1, mk1, y1, sk1, e1, g1, g2⟩ := ot_in (ik := ik) (a2 := a2) (found := found) hA0 (c := c) (by omega) (f_X12_bestTwo_L36 (nI t) a2 f') 4 gFuel 0 vb va vs vf vo vi bs aside mk names sk (by omega) (by unfold gFuel; omega) hK hS
    rw [nI_0, Nat.add_zero] at e1
    rw [e1]
    exact ih f' (c + 1) x1 x2 x3 x4 x5 x6 x7 as1 mk1 y1 sk1 (by omega) (by omega) g1 g2
theorem fresh_29 : ∀ (q f x : Nat) (ik : Int32) (mk sk : Nat → Int32), x + q = 1000 → q < f → (∀ i, i < x → mk i = -1) →
    ∃ mk', f_X12_keepsAnew_L29 f (nI x) ik mk sk = some (ik, mk', sk) ∧ ∀ i, i < 1000 → mk' i = -1 := by
  intro q
  induction q with
  | zero =>
    intro f x ik mk sk hq hf h
    obtain ⟨f', rfl⟩ : ∃ f', f = f' + 1 := ⟨f - 1, by omega⟩
    have : x = 1000 := by omega
    subst this
    unfold f_X12_keepsAnew_L29
    rw [if_pos (show (1000 : Int32) ≤ nI 1000 by decide)]
    exact ⟨mk, rfl, h⟩
  | succ q ih =>
    intro f x ik mk sk hq hf h
    obtain ⟨f', rfl⟩ : ∃ f', f = f' + 1 := ⟨f - 1, by omega⟩
    unfold f_X12_keepsAnew_L29
    rw [if_neg (show ¬ (1000 : Int32) ≤ nI x from nI_ge (b := 1000) (by omega) (by decide)), px_in (by omega) (by decide), px_nm, px_nm, nI_1, nI_clamp (by omega)]
    refine ih f' (x + 1) ik _ sk (by omega) (by omega) (fun i hi => ?_)
    by_cases e : i = x
    · exact if_pos e
    · exact (if_neg e).trans (h i (by omega))
theorem fresh_7 : ∀ (q f x : Nat) (ik : Int32) (mk sk : Nat → Int32), x + q = 2500 → q < f → (∀ i, i < x → sk i = -1) →
    ∃ mk' sk', f_X12_keepsAnew_L7 f (nI x) ik mk sk = some (ik, mk', sk') ∧ (∀ i, i < 1000 → mk' i = -1) ∧ ∀ i, i < 2500 → sk' i = -1 := by
  intro q
  induction q with
  | zero =>
    intro f x ik mk sk hq hf h
    obtain ⟨f', rfl⟩ : ∃ f', f = f' + 1 := ⟨f - 1, by omega⟩
    have : x = 2500 := by omega
    subst this
    unfold f_X12_keepsAnew_L7
    rw [if_pos (show (2500 : Int32) ≤ nI 2500 by decide)]
    obtain ⟨mk', h1, h2⟩ := fresh_29 1000 gFuel 0 ik mk sk (by omega) (by unfold gFuel; omega) (fun i hi => absurd hi (by omega))
    exact ⟨mk', sk, h1, h2, h⟩
  | succ q ih =>
    intro f x ik mk sk hq hf h
    obtain ⟨f', rfl⟩ : ∃ f', f = f' + 1 := ⟨f - 1, by omega⟩
    unfold f_X12_keepsAnew_L7
    rw [if_neg (show ¬ (2500 : Int32) ≤ nI x from nI_ge (b := 2500) (by omega) (by decide)), px_in (by omega) (by decide), px_nm, px_nm, nI_1, nI_clamp (by omega)]
    refine ih f' (x + 1) ik mk _ (by omega) (by omega) (fun i hi => ?_)
    by_cases e : i = x
    · exact if_pos e
    · exact (if_neg e).trans (h i (by omega))
end KJ
