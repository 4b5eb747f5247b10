/-! the best stroke, the best of two, by the model -/
theorem keep_run {dep : Nat} (hd : dep < 2) (d : Nat → Int32) : ∀ (q f x : Nat) (aside : Nat → Int32), x + q = 60 → q < f →
    ∃ a', f_X12_keepAside_L2 (nI dep) d f (nI x) aside = some a' ∧ ∀ j, a' j = if 60 * dep + x ≤ j ∧ j < 60 * dep + 60 then d (j - 60 * dep) else aside j := by
  intro q
  induction q with
  | zero =>
    intro f x aside hq hf
    obtain ⟨f', rfl⟩ : ∃ f', f = f' + 1 := ⟨f - 1, by omega⟩
    have : x = 60 := by omega
    subst this
    unfold f_X12_keepAside_L2
    rw [if_pos (show (60 : Int32) ≤ nI 60 by decide)]
    exact ⟨aside, rfl, fun j => (if_neg (by omega)).symm⟩
  | succ q ih =>
    intro f x aside hq hf
    obtain ⟨f', rfl⟩ : ∃ f', f = f' + 1 := ⟨f - 1, by omega⟩
    unfold f_X12_keepAside_L2
    rw [if_neg (show ¬ (60 : Int32) ≤ nI x from nI_ge (b := 60) (by omega) (by decide)), px_nm, px_nm, show (60 : Int32) * nI dep = nI (60 * dep) from pk_mul 60 dep, nI_add, px_in (by omega) (by decide), px_nm, px_in (by omega) (by decide), px_nm, px_nm, nI_1, nI_clamp (n := x) (by omega), nI_clamp (n := 60 * dep + x) (by omega)]
    obtain ⟨a', h1, h2⟩ := ih f' (x + 1) (upd aside (60 * dep + x) (d x)) (by omega) (by omega)
    refine ⟨a', h1, fun j => ?_⟩
    rw [h2]
    by_cases e : j = 60 * dep + x
    · subst e
      rw [if_neg (by omega), if_pos (by omega), show 60 * dep + x - 60 * dep = x by omega]
      exact if_pos rfl
    · have : upd aside (60 * dep + x) (d x) j = aside j := if_neg e
      rw [this]
      by_cases h : 60 * dep + x ≤ j ∧ j < 60 * dep + 60
      · rw [if_pos h, if_pos (by omega)]
      · rw [if_neg h, if_neg (by omega)]
theorem keep_m {dep : Nat} (hd : dep < 2) (d aside : Nat → Int32) : ∃ a', f_X12_keepAside (nI dep) aside d = some a' ∧ (∀ j, j < 60 → a' (60 * dep + j) = d j) ∧ ∀ j, j < 60 * dep → a' j = aside j := by
  obtain ⟨a', h1, h2⟩ := keep_run hd d 60 gFuel 0 aside (by omega) (by unfold gFuel; omega)
  refine ⟨a', h1, fun j hj => ?_, fun j hj => ?_⟩
  · rw [h2, if_pos (by omega)]
    congr 1
    omega
  · rw [h2, if_neg (by omega)]
theorem back_run {dep : Nat} (hd : dep < 2) (aside : Nat → Int32) : ∀ (q f x : Nat) (d : Nat → Int32), x + q = 60 → q < f →
    ∃ d', f_X12_putBack_L2 (nI dep) aside f (nI x) d = some d' ∧ ∀ j, d' j = if x ≤ j ∧ j < 60 then aside (60 * dep + j) else d j := by
  intro q
  induction q with
  | zero =>
    intro f x d hq hf
    obtain ⟨f', rfl⟩ : ∃ f', f = f' + 1 := ⟨f - 1, by omega⟩
    have : x = 60 := by omega
    subst this
    unfold f_X12_putBack_L2
    rw [if_pos (show (60 : Int32) ≤ nI 60 by decide)]
    exact ⟨d, rfl, fun j => (if_neg (by omega)).symm⟩
  | succ q ih =>
    intro f x d hq hf
    obtain ⟨f', rfl⟩ : ∃ f', f = f' + 1 := ⟨f - 1, by omega⟩
    unfold f_X12_putBack_L2
    rw [if_neg (show ¬ (60 : Int32) ≤ nI x from nI_ge (b := 60) (by omega) (by decide)), px_nm, px_nm, show (60 : Int32) * nI dep = nI (60 * dep) from pk_mul 60 dep, nI_add, px_in (by omega) (by decide), px_nm, px_in (by omega) (by decide), px_nm, px_nm, nI_1, nI_clamp (n := x) (by omega), nI_clamp (n := 60 * dep + x) (by omega)]
    obtain ⟨d', h1, h2⟩ := ih f' (x + 1) (upd d x (aside (60 * dep + x))) (by omega) (by omega)
    refine ⟨d', h1, fun j => ?_⟩
    rw [h2]
    by_cases e : j = x
    · subst e
      rw [if_neg (by omega), if_pos (by omega)]
      exact if_pos rfl
    · have : upd d x (aside (60 * dep + x)) j = d j := if_neg e
      rw [this]
      by_cases h : x ≤ j ∧ j < 60
      · rw [if_pos h, if_pos (by omega)]
      · rw [if_neg h, if_neg (by omega)]
theorem back_m {dep : Nat} (hd : dep < 2) {aside d1 d : Nat → Int32} (ha : ∀ j, j < 60 → aside (60 * dep + j) = d j) (h : ∀ j, 60 ≤ j → d1 j = d j) : f_X12_putBack (nI dep) aside d1 = some d := by
  obtain ⟨d', h1, h2⟩ := back_run hd aside 60 gFuel 0 d1 (by omega) (by unfold gFuel; omega)
  have : d' = d := by
    funext j
    rw [h2]
    by_cases hj : j < 60
    · rw [if_pos (by omega), ha j hj]
    · rw [if_neg (by omega), h j (by omega)]
  rw [this] at h1
  exact h1
/-- the model's mark of the best so far -/
def bI0 (V : Nat → Nat) (i : Nat) : Int32 := if i = 0 then -1 else nI (bestN V i).1
theorem bI0_next {V : Nat → Nat} {i : Nat} : (i = 0 ∨ V i < (bestN V i).2) → bI0 V (i + 1) = nI (mk10 i) ∧ (bestN V (i + 1)).2 = V i := by
  intro h
  match i, h with
  | 0, _ => exact ⟨rfl, rfl⟩
  | i + 1, h =>
    have h1 : V (i + 1) < (bestN V (i + 1)).2 := by
      rcases h with h | h
      · omega
      · exact h
    have e : bestN V (i + 1 + 1) = (mk10 (i + 1), V (i + 1)) := if_pos h1
    unfold bI0
    rw [if_neg (by omega), e]
    exact ⟨rfl, rfl⟩
theorem bI0_same {V : Nat → Nat} {i : Nat} (hi : i ≠ 0) (h : ¬ V i < (bestN V i).2) : bI0 V (i + 1) = bI0 V i ∧ bestN V (i + 1) = bestN V i := by
  match i, hi, h with
  | i + 1, _, h =>
    have e : bestN V (i + 1 + 1) = bestN V (i + 1) := if_neg h
    unfold bI0
    rw [if_neg (by omega), if_neg (by omega), e]
    exact ⟨rfl, rfl⟩
section KI
variable {Lm Ls : List Int32} {R C k m eb t holes out : Nat} {ik : Int32} {air paste : Nat → Nat} {d : Nat → Int32}
/-- the tool, the wall and the laws in the model -/
def MA (Lm Ls : List Int32) (R C k m eb t holes out : Nat) (air paste : Nat → Nat) (d : Nat → Int32) : Prop :=
  0 < R ∧ 0 < C ∧ R < 6 ∧ C < 6 ∧ k < 7 ∧ m < 10 ∧ t < 6 ∧ eb < 16 ∧ PasteOK paste ∧ AirOK air ∧ holes ≤ 99999 ∧ out ≤ 99999 ∧ MW d R C holes out eb air paste ∧ MT d t k m ∧ LM 0 Lm d ∧ LM 1 Ls d
theorem of_in (hA : MA Lm Ls R C k m eb t holes out air paste d) {dep : Nat} (hdep : dep < 2) {c : Nat} (hc : c < R * C)
    (kk : Int32 → Int32 → Int32 → Int32 → Int32 → Int32 → Int32 → Int32 → Int32 → (Nat → Int32) → (Nat → Int32) → (Nat → Int32) → (Nat → Int32) → (Nat → Int32) → Option (Int32 × Int32 × Int32 × Int32 × Int32 × Int32 × Int32 × Int32 × (Nat → Int32) × (Nat → Int32) × (Nat → Int32) × (Nat → Int32) × (Nat → Int32))) :
    ∀ (q f w : Nat) (vb va vs vf vo vi : Int32) (aside mk names sk : Nat → Int32), w + q = 4 → q < f → KM Lm m ik mk → KS Ls C ik sk →
    ∃ (x1 x2 x3 x4 x5 x6 : Int32) (aside' mk' y sk' : Nat → Int32), f_X12_bestOf_L22 kk (nI t) (nI dep) ik f (bI0 (Vs Lm Ls R C k m eb paste air) (4 * c + w)) (nI c) (nI w) vb va vs vf vo vi (nI (bestN (Vs Lm Ls R C k m eb paste air) (4 * c + w)).2) aside d mk names sk
      = kk (bI0 (Vs Lm Ls R C k m eb paste air) (4 * c + 4)) (nI (c + 1)) x1 x2 x3 x4 x5 x6 (nI (bestN (Vs Lm Ls R C k m eb paste air) (4 * c + 4)).2) aside' d mk' y sk' ∧ KM Lm m ik mk' ∧ KS Ls C ik sk' ∧ ∀ j, j < 60 * dep → aside' j = aside j := by
  obtain ⟨hR0, hC0, hR, hC, hk, hm, ht, he, hp, ha, hh, ho, hW, hT, hL0, hL1⟩ := hA
  have h25 := RC25 hR hC
  intro q
  induction q with
  | zero =>
    intro f w vb va vs vf vo vi aside mk names sk hq hf hK hS
    obtain ⟨f', rfl⟩ : ∃ f', f = f' + 1 := ⟨f - 1, by omega⟩
    have : w = 4 := by omega
    subst this
    unfold f_X12_bestOf_L22
    rw [if_pos (show (4 : Int32) ≤ nI 4 by decide), px_nm, nI_1]
    exact ⟨vb, va, vs, vf, vo, vi, aside, mk, names, sk, rfl, hK, hS, fun _ _ => rfl⟩
  | succ q ih =>
    intro f w vb va vs vf vo vi aside mk names sk hq hf hK hS
    obtain ⟨f', rfl⟩ : ∃ f', f = f' + 1 := ⟨f - 1, by omega⟩
    have hw : w < 4 := by omega
    obtain ⟨as1, k1, k2, k3⟩ := keep_m hdep d aside
    obtain ⟨x1, x2, x3, x4, x5, x6, d1, mk1, y1, e1, hW1, hS1, hK1⟩ := strokes_m (eb := eb) (t := t) (ik := ik) hR hC hk hm hw ht he hp.1 vb va vs vf vo vi names hK hc hW hT hL0 ha.1 hh ho
    rw [strk_air] at hW1
    have hok := strkA_ok (k := k) (m := m) (eb := eb) (g := fun a p => gN Lm a p m) (paste := paste) hR hC hw hc ha
    obtain ⟨z1, z2, z3, z4, z5, z6, y2, sk1, e2, hS2⟩ := seen_m (LM_same (by decide) hL1 (SW_60 hS1)) hW1 hR hC hC0 hok.1 hS x1 x2 x3 x4 x5 x6 y1
    have hb := back_m hdep k2 (SW_60 hS1)
    have hV : Vs Lm Ls R C k m eb paste air (4 * c + w) = shownN Ls R C (strkA R C k m w eb (fun a p => gN Lm a p m) paste c air) := by
      unfold Vs
      rw [show (4 * c + w) % 4 = w by omega, show (4 * c + w) / 4 = c by omega]
    have hmk : mk10 (4 * c + w) = 10 * c + w := by unfold mk10; rw [show (4 * c + w) % 4 = w by omega, show (4 * c + w) / 4 = c by omega]
    have hvl := Vs_le (Lm := Lm) (Ls := Ls) (k := k) (m := m) (eb := eb) (paste := paste) (air := air) hR hC (4 * c + w)
    have hbl := bestN_le (Vs_le (Lm := Lm) (Ls := Ls) (k := k) (m := m) (eb := eb) (paste := paste) (air := air) hR hC) (4 * c + w)
    have e10 : (10 : Int32) * nI c = nI (10 * c) := pk_mul 10 c
    unfold f_X12_bestOf_L22
    rw [if_neg (show ¬ (4 : Int32) ≤ nI w from nI_ge (b := 4) (by omega) (by decide)), k1, px_kb, e1, px_kb9, e2, px_kb9, hb, px_kb, ← hV]
    obtain ⟨u1, u2, u3, u4, u5, u6, as2, mk2, y3, sk2, f1, f2, f3, f4⟩ := ih f' (w + 1) z1 z2 z3 z4 z5 z6 as1 mk1 y2 sk1 (by omega) (by omega) hK1 hS2
    have fin : ∀ {X : Option (Int32 × Int32 × Int32 × Int32 × Int32 × Int32 × Int32 × Int32 × (Nat → Int32) × (Nat → Int32) × (Nat → Int32) × (Nat → Int32) × (Nat → Int32))}, X = f_X12_bestOf_L22 kk (nI t) (nI dep) ik f' (bI0 (Vs Lm Ls R C k m eb paste air) (4 * c + (w + 1))) (nI c) (nI (w + 1)) z1 z2 z3 z4 z5 z6 (nI (bestN (Vs Lm Ls R C k m eb paste air) (4 * c + (w + 1))).2) as1 d mk1 y2 sk1 →
        ∃ (x1 x2 x3 x4 x5 x6 : Int32) (aside' mk' y sk' : Nat → Int32), X = kk (bI0 (Vs Lm Ls R C k m eb paste air) (4 * c + 4)) (nI (c + 1)) x1 x2 x3 x4 x5 x6 (nI (bestN (Vs Lm Ls R C k m eb paste air) (4 * c + 4)).2) aside' d mk' y sk' ∧ KM Lm m ik mk' ∧ KS Ls C ik sk' ∧ ∀ j, j < 60 * dep → aside' j = aside j := by
      intro X hX
      exact ⟨u1, u2, u3, u4, u5, u6, as2, mk2, y3, sk2, hX.trans f1, f2, f3, fun j hj => (f4 j hj).trans (k3 j hj)⟩
    have next : (4 * c + w = 0 ∨ Vs Lm Ls R C k m eb paste air (4 * c + w) < (bestN (Vs Lm Ls R C k m eb paste air) (4 * c + w)).2) → f_X12_bestOf_L66 (f_X12_bestOf_L22 kk (nI t) (nI dep) ik f') (nI t) (nI dep) ik (nI c) (nI w) (nI (Vs Lm Ls R C k m eb paste air (4 * c + w))) z1 z2 z3 z4 z5 z6 as1 d mk1 y2 sk1 = f_X12_bestOf_L22 kk (nI t) (nI dep) ik f' (bI0 (Vs Lm Ls R C k m eb paste air) (4 * c + (w + 1))) (nI c) (nI (w + 1)) z1 z2 z3 z4 z5 z6 (nI (bestN (Vs Lm Ls R C k m eb paste air) (4 * c + (w + 1))).2) as1 d mk1 y2 sk1 := by
      intro h
      obtain ⟨g1, g2⟩ := bI0_next h
      unfold f_X12_bestOf_L66
      rw [px_nm, px_nm, px_nm, e10, nI_add, nI_1, ← Nat.add_assoc, g1, g2, hmk]
    by_cases hi : 4 * c + w = 0
    · rw [if_pos (show bI0 (Vs Lm Ls R C k m eb paste air) (4 * c + w) < 0 by unfold bI0; rw [if_pos hi]; decide)]
      exact fin (next (Or.inl hi))
    · have hbm := (bestN_lt (Vs Lm Ls R C k m eb paste air) (4 * c + w) (by omega)).1
      rw [if_neg (show ¬ bI0 (Vs Lm Ls R C k m eb paste air) (4 * c + w) < 0 by unfold bI0; rw [if_neg hi]; exact nI_pos (by omega))]
      by_cases hlt : Vs Lm Ls R C k m eb paste air (4 * c + w) < (bestN (Vs Lm Ls R C k m eb paste air) (4 * c + w)).2
      · rw [if_neg (nI_ge hlt (by omega))]
        exact fin (next (Or.inr hlt))
      · rw [if_pos (nI_le (by omega) (by omega)), px_nm, nI_1]
        obtain ⟨g1, g2⟩ := bI0_same hi hlt
        refine fin ?_
        rw [← Nat.add_assoc, g1, g2]
theorem of_out (hA : MA Lm Ls R C k m eb t holes out air paste d) {dep : Nat} (hdep : dep < 2) :
    ∀ (q f c : Nat) (vb va vs vf vo vi : Int32) (aside mk names sk : Nat → Int32), c + q = R * C → q < f → KM Lm m ik mk → KS Ls C ik sk →
    ∃ (x1 x2 x3 x4 x5 x6 : Int32) (aside' mk' y sk' : Nat → Int32), f_X12_bestOf_L10 (nI t) (nI dep) ik f (bI0 (Vs Lm Ls R C k m eb paste air) (4 * c)) (nI c) vb va vs vf vo vi (nI (bestN (Vs Lm Ls R C k m eb paste air) (4 * c)).2) aside d mk names sk
      = some (bI0 (Vs Lm Ls R C k m eb paste air) (4 * (R * C)), x1, x2, x3, x4, x5, x6, nI (bestN (Vs Lm Ls R C k m eb paste air) (4 * (R * C))).2, aside', d, mk', y, sk') ∧ KM Lm m ik mk' ∧ KS Ls C ik sk' ∧ ∀ j, j < 60 * dep → aside' j = aside j := by
  have hA0 := hA
  obtain ⟨hR0, hC0, hR, hC, hk, hm, ht, he, hp, ha, hh, ho, hW, hT, hL0, hL1⟩ := hA
  have h25 := RC25 hR hC
  intro q
  induction q with
  | zero =>
    intro f c vb va vs vf vo vi aside mk names sk hq hf hK hS
    obtain ⟨f', rfl⟩ : ∃ f', f = f' + 1 := ⟨f - 1, by omega⟩
    have : c = R * C := by omega
    subst this
    unfold f_X12_bestOf_L10
    rw [cells_m hW, px_kb, if_pos (show nI (R * C) ≤ nI (R * C) from Int32.le_refl _)]
    exact ⟨vb, va, vs, vf, vo, vi, aside, mk, names, sk, rfl, hK, hS, fun _ _ => rfl⟩
  | succ q ih =>
    intro f c vb va vs vf vo vi aside mk names sk hq hf hK hS
    obtain ⟨f', rfl⟩ : ∃ f', f = f' + 1 := ⟨f - 1, by omega⟩
    unfold f_X12_bestOf_L10
    rw [cells_m hW, px_kb, if_neg (nI_ge (a := c) (b := R * C) (by omega) (by omega))]
    obtain ⟨x1, x2, x3, x4, x5, x6, as1, mk1, y1, sk1, e1, g1, g2, g3⟩ := of_in (ik := ik) hA0 hdep (c := c) (by omega) (f_X12_bestOf_L10 (nI t) (nI dep) ik f') 4 gFuel 0 vb va vs vf vo vi aside mk names sk (by omega) (by unfold gFuel; omega) hK hS
    rw [nI_0, Nat.add_zero] at e1
    rw [e1]
    obtain ⟨u1, u2, u3, u4, u5, u6, as2, mk2, y2, sk2, f1, f2, f3, f4⟩ := ih f' (c + 1) x1 x2 x3 x4 x5 x6 as1 mk1 y1 sk1 (by omega) (by omega) g1 g2
    exact ⟨u1, u2, u3, u4, u5, u6, as2, mk2, y2, sk2, f1, f2, f3, fun j hj => (f4 j hj).trans (g3 j hj)⟩
theorem bestOf_m (hA : MA Lm Ls R C k m eb t holes out air paste d) {dep : Nat} (hdep : dep < 2) (vb va vs vf vo vi bs : Int32) (aside names : Nat → Int32) {mk sk : Nat → Int32} (hK : KM Lm m ik mk) (hS : KS Ls C ik sk) :
    ∃ (x1 x2 x3 x4 x5 x6 : Int32) (aside' mk' y sk' : Nat → Int32), f_X12_bestOf (nI t) (nI dep) vb va vs vf vo vi ik bs aside d mk names sk
      = some (nI (bestN (Vs Lm Ls R C k m eb paste air) (4 * (R * C))).1, x1, x2, x3, x4, x5, x6, nI (bestN (Vs Lm Ls R C k m eb paste air) (4 * (R * C))).2, aside', d, mk', y, sk') ∧ KM Lm m ik mk' ∧ KS Ls C ik sk' ∧ ∀ j, j < 60 * dep → aside' j = aside j := by
  have h25 := RC25 hA.2.2.1 hA.2.2.2.1
  have h1c : 1 ≤ R * C := Nat.mul_pos hA.1 hA.2.1
  obtain ⟨x1, x2, x3, x4, x5, x6, as1, mk1, y1, sk1, e1, g1, g2, g3⟩ := of_out (ik := ik) hA hdep (R * C) gFuel 0 vb va vs vf vo vi aside mk names sk (by omega) (by unfold gFuel; omega) hK hS
  have e2 : bI0 (Vs Lm Ls R C k m eb paste air) (4 * (R * C)) = nI (bestN (Vs Lm Ls R C k m eb paste air) (4 * (R * C))).1 := if_neg (by omega)
  rw [e2] at e1
  exact ⟨x1, x2, x3, x4, x5, x6, as1, mk1, y1, sk1, e1, g1, g2, g3⟩
end KI
