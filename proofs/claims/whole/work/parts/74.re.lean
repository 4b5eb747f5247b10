/-! the calls: nights, days -/
section RE
variable {R C ho ou eb nt T tl wn : Nat} {a p kN mN : Nat → Nat} {Lm Ls : List Int32} {z : Int32} {told tape d er fo : Nat → Int32}

/-- a night, of the first cells -/
def nA (a p : Nat → Nat) (c j : Nat) : Nat := if j < c then a j - p j else a j
def nP (p : Nat → Nat) (c j : Nat) : Nat := if j < c then p j - 1 else p j
theorem nA_next (a p : Nat → Nat) (c : Nat) : va_up (nA a p c) c (a c - p c) = nA a p (c + 1) := by
  funext j
  by_cases e : j = c
  · subst e
    rw [va_up_at]
    exact (if_pos (Nat.lt_succ_self j)).symm
  · rw [vu_ne _ _ e]
    unfold nA
    by_cases h : j < c
    · rw [if_pos h, if_pos (by omega)]
    · rw [if_neg h, if_neg (by omega)]
theorem nP_next (p : Nat → Nat) (c : Nat) : va_up (nP p c) c (p c - 1) = nP p (c + 1) := by
  funext j
  by_cases e : j = c
  · subst e
    rw [va_up_at]
    exact (if_pos (Nat.lt_succ_self j)).symm
  · rw [vu_ne _ _ e]
    unfold nP
    by_cases h : j < c
    · rw [if_pos h, if_pos (by omega)]
    · rw [if_neg h, if_neg (by omega)]
theorem nA_0 (a p : Nat → Nat) : nA a p 0 = a := funext fun j => if_neg (Nat.not_lt_zero j)
theorem nP_0 (p : Nat → Nat) : nP p 0 = p := funext fun j => if_neg (Nat.not_lt_zero j)
theorem nA_ok {a p : Nat → Nat} (h : AirOK a) (c : Nat) : AirOK (nA a p c) := by
  refine ⟨fun j => ?_, fun j hj => ?_⟩
  · have := h.1 j
    unfold nA; split <;> omega
  · have := h.2 j hj
    unfold nA; split <;> omega
theorem nP_ok {p : Nat → Nat} (h : PasteOK p) (c : Nat) : PasteOK (nP p c) := by
  refine ⟨fun j => ?_, fun j hj => ?_⟩
  · have := h.1 j
    unfold nP; split <;> omega
  · have := h.2 j hj
    unfold nP; split <;> omega
theorem tr_sub {x y : Nat} (hx : x < 1000) (hy : y < 1000) : (if 0 < nI x - nI y then nI x - nI y else 0) = nI (x - y) := by
  by_cases h : y < x
  · have e : nI x - nI y = nI (x - y) := pk_sub (by omega)
    rw [e, if_pos (show (0 : Int32) < nI (x - y) from nI_lt (a := 0) (by omega) (by omega))]
  · have h0 : ¬ 0 < nI x - nI y := by
      by_cases h2 : x = y
      · subst h2
        rw [pk_sub (Nat.le_refl _), Nat.sub_self]
        decide
      · have := pk_sneg (a := x) (b := y) (by omega) (by omega)
        exact fun q => absurd (Int32.lt_trans q this) Int32.lt_irrefl
    rw [if_neg h0, show x - y = 0 by omega]
    rfl
theorem pass_run (hR : R < 6) (hC : C < 6) (hA : AirOK a) (hP : PasteOK p) (night : Int32) : ∀ (q f c : Nat), c + q = R * C → q < f →
    f_X10_passNight_L2 (nI R) (nI C) f (nI c) night (lf (nA a p c)) (lf (nP p c)) = some (night + 1, lf (nA a p (R * C)), lf (nP p (R * C))) := by
  have h25 := RC25 hR hC
  intro q
  induction q with
  | zero =>
    intro f c hq hf
    obtain ⟨f', rfl⟩ : ∃ f', f = f' + 1 := ⟨f - 1, by omega⟩
    have : c = R * C := by omega
    subst this
    unfold f_X10_passNight_L2 f_X10_passNight_L63
    by_cases h : (25 : Int32) ≤ nI (R * C)
    · rw [if_pos h, px_nm]
    · rw [if_neg h, has_end hR hC, px_kb, if_pos rfl, px_nm]
  | succ q ih =>
    intro f c hq hf
    obtain ⟨f', rfl⟩ : ∃ f', f = f' + 1 := ⟨f - 1, by omega⟩
    have hac := hA.1 c
    have hpc := hP.1 c
    have ea : nA a p c c = a c := if_neg (Nat.lt_irrefl c)
    have ep : nP p c c = p c := if_neg (Nat.lt_irrefl c)
    unfold f_X10_passNight_L2
    have t1 := tr_sub (x := a c) (y := p c) (by omega) (by omega)
    have t2 : (if 0 < nI (p c) - 1 then nI (p c) - 1 else 0) = nI (p c - 1) := tr_sub (x := p c) (y := 1) (by omega) (by omega)
    simp only [if_neg (show ¬ (25 : Int32) ≤ nI c from nI_ge (b := 25) (by omega) (by decide)), has_in hR hC (show c < R * C by omega), px_kb, if_neg (show ¬ (1 : Int32) = 0 by decide), px_in (show c < 25 by omega) (show 25 < 2 ^ 31 by decide), px_nm, nI_clamp (show c < 2 ^ 31 by omega), lf_at, ea, ep, t1, t2, lf_up, nA_next, nP_next, nI_1]
    exact ih f' (c + 1) (by omega) (by omega)
theorem pass_c (hR : R < 6) (hC : C < 6) (hA : AirOK a) (hP : PasteOK p) (night : Int32) : f_X10_passNight (nI R) (nI C) night (lf a) (lf p) = some (night + 1, lf (nA a p (R * C)), lf (nP p (R * C))) := by
  have h25 := RC25 hR hC
  have := pass_run hR hC hA hP night (R * C) gFuel 0 (by omega) (by unfold gFuel; omega)
  rw [nA_0, nP_0, nI_0] at this
  unfold f_X10_passNight
  exact this
theorem MW_upA {ho ou eb : Nat} {d : Nat → Int32} {a p : Nat → Nat} (h : MW d R C ho ou eb a p) {c : Nat} (hc : c < 25) (v : Nat) {x : Int32} (hx : x = nI v) : MW (upd d (10 + c) x) R C ho ou eb (va_up a c v) p := by
  subst hx; exact (MW_air h hc v).1
theorem night_run (hR : R < 6) (hC : C < 6) (hA : AirOK a) (hP : PasteOK p) (hM : MDp R C ho ou eb nt T tl wn a p kN mN Lm Ls z told tape d) : ∀ (q f c : Nat) (d' : Nat → Int32), c + q = R * C → q < f → MW d' R C ho ou eb (nA a p c) (nP p c) → SP d d' →
    ∃ d2, f_X12_nightGoes_L2 f (nI c) d' = some d2 ∧ MDp R C ho ou eb (nt + 1) T tl wn (nA a p (R * C)) (nP p (R * C)) kN mN Lm Ls z told tape d2 ∧ ∀ j, 60 ≤ j → d2 j = d j := by
  have h25 := RC25 hR hC
  intro q
  induction q with
  | zero =>
    intro f c d' hq hf hW hS
    obtain ⟨f', rfl⟩ : ∃ f', f = f' + 1 := ⟨f - 1, by omega⟩
    have : c = R * C := by omega
    subst this
    have h5 : d' 5 = nI nt := by rw [hS 5 (by omega)]; exact hM.2.2.1
    unfold f_X12_nightGoes_L2
    rw [cells_m hW, px_kb, if_pos (show nI (R * C) ≤ nI (R * C) from Int32.le_refl _)]
    simp only [c_5, z_5, px_nm, h5, nI_1]
    have hn : ∀ j, j ≠ 5 → upd d' 5 (nI (nt + 1)) j = d' j := fun j hj => if_neg hj
    obtain ⟨m0, m2, m5, m6, m7, m8, mT, mL0, mL1, mt, mp⟩ := MD_wall hM hW hS
    obtain ⟨w0, w1, w3, w4, w9, wa, wp⟩ := m0
    have hs : ∀ j, 60 ≤ j → upd d' 5 (nI (nt + 1)) j = d' j := fun j hj => hn j (by omega)
    refine ⟨_, rfl, ⟨⟨by rw [hn _ (by omega)]; exact w0, by rw [hn _ (by omega)]; exact w1, by rw [hn _ (by omega)]; exact w3, by rw [hn _ (by omega)]; exact w4, by rw [hn _ (by omega)]; exact w9, fun j hj => by rw [hn _ (by omega)]; exact wa j hj, fun j hj => by rw [hn _ (by omega)]; exact wp j hj⟩, by rw [hn _ (by omega)]; exact m2, if_pos rfl, by rw [hn _ (by omega)]; exact m6, by rw [hn _ (by omega)]; exact m7, by rw [hn _ (by omega)]; exact m8, fun j hj => MT_same (mT j hj) hs, LM_same (by decide) mL0 hs, LM_same (by decide) mL1 hs, fun j hj => by rw [hn _ (by omega)]; exact mt j hj, fun j hj => by rw [hn _ (by omega)]; exact mp j hj⟩, fun j hj => by rw [hs j hj]; exact hS j (by omega)⟩
  | succ q ih =>
    intro f c d' hq hf hW hS
    obtain ⟨f', rfl⟩ : ∃ f', f = f' + 1 := ⟨f - 1, by omega⟩
    have hac := hA.1 c
    have hpc := hP.1 c
    have ea : nA a p c c = a c := if_neg (Nat.lt_irrefl c)
    have ep : nP p c c = p c := if_neg (Nat.lt_irrefl c)
    have r1 : d' (10 + c) = nI (a c) := by rw [hW.2.2.2.2.2.1 c (by omega), ea]
    have r2 : d' (35 + c) = nI (p c) := by rw [hW.2.2.2.2.2.2 c (by omega), ep]
    have key : ∀ y : Int32, y = nI (a c - p c) → ∃ d2, f_X12_nightGoes_L47 (f_X12_nightGoes_L2 f') (nI c) (nI (10 + c)) y d' = some d2 ∧ MDp R C ho ou eb (nt + 1) T tl wn (nA a p (R * C)) (nP p (R * C)) kN mN Lm Ls z told tape d2 ∧ ∀ j, 60 ≤ j → d2 j = d j := by
      intro y hy
      subst hy
      obtain ⟨w1, w2⟩ := MW_air hW (c := c) (by omega) (a c - p c)
      have r3 : upd d' (10 + c) (nI (a c - p c)) (35 + c) = nI (p c) := (if_neg (by omega)).trans r2
      have w3 := MW_paste w1 (c := c) (by omega) (p c - 1)
      rw [nA_next, nP_next] at w3
      have hS3 : SP d (upd (upd d' (10 + c) (nI (a c - p c))) (35 + c) (nI (p c - 1))) := by
        intro j hj
        rw [show upd (upd d' (10 + c) (nI (a c - p c))) (35 + c) (nI (p c - 1)) j = upd d' (10 + c) (nI (a c - p c)) j from if_neg (by omega), show upd d' (10 + c) (nI (a c - p c)) j = d' j from if_neg (by omega)]
        exact hS j hj
      unfold f_X12_nightGoes_L47
      simp only [ch_d (show 10 + c < 244 by omega), px_nm, nI_clamp (show 10 + c < 2 ^ 31 by omega), n35, ch_d (show 35 + c < 244 by omega), nI_clamp (show 35 + c < 2 ^ 31 by omega), r3, nI_1]
      by_cases h0 : 0 < p c
      · rw [if_neg (nI_nle h0 (by omega)), show (nI (p c) - 1 : Int32) = nI (p c - 1) from pk_sub (b := 1) (by omega)]
        exact ih f' (c + 1) _ (by omega) (by omega) w3 hS3
      · have e0 : p c = 0 := by omega
        rw [e0] at w3 hS3 ⊢
        rw [if_pos (show nI 0 ≤ 0 by decide), show (nI 0 - 0 : Int32) = nI (0 - 1) from rfl]
        exact ih f' (c + 1) _ (by omega) (by omega) w3 hS3
    unfold f_X12_nightGoes_L2
    rw [cells_m hW, px_kb, if_neg (nI_ge (a := c) (b := R * C) (by omega) (by omega))]
    simp only [n10, n35, px_nm, ch_d (show 10 + c < 244 by omega), nI_clamp (show 10 + c < 2 ^ 31 by omega), ch_d (show 35 + c < 244 by omega), nI_clamp (show 35 + c < 2 ^ 31 by omega), r1, r2]
    by_cases h : p c ≤ a c
    · rw [pk_sub h, if_pos (nI_pos' (by omega))]
      exact key _ rfl
    · have := pk_sneg (a := a c) (b := p c) (by omega) (by omega)
      rw [if_neg (fun q => by have q1 := Int32.le_iff_toInt_le.mp q; have q2 := Int32.lt_iff_toInt_lt.mp this; omega)]
      exact key 0 (by rw [show a c - p c = 0 by omega]; rfl)
theorem night_m (hR : R < 6) (hC : C < 6) (hA : AirOK a) (hP : PasteOK p) (hM : MDp R C ho ou eb nt T tl wn a p kN mN Lm Ls z told tape d) :
    ∃ d2, f_X12_nightGoes d = some d2 ∧ MDp R C ho ou eb (nt + 1) T tl wn (nA a p (R * C)) (nP p (R * C)) kN mN Lm Ls z told tape d2 ∧ ∀ j, 60 ≤ j → d2 j = d j := by
  have h25 := RC25 hR hC
  have := night_run hR hC hA hP hM (R * C) gFuel 0 d (by omega) (by unfold gFuel; omega) (by rw [nA_0, nP_0]; exact hM.1) (fun _ _ => rfl)
  unfold f_X12_nightGoes
  exact this
theorem allc_run (hR : R < 6) (hC : C < 6) : ∀ (q f c : Nat), c + q = R * C → q < f → f_X10_allAir_L4 (nI R) (nI C) (lf a) f (nI (sumN a c)) (nI c) = some (nI (sumN a (R * C))) := by
  have h25 := RC25 hR hC
  intro q
  induction q with
  | zero =>
    intro f c hq hf
    obtain ⟨f', rfl⟩ : ∃ f', f = f' + 1 := ⟨f - 1, by omega⟩
    have : c = R * C := by omega
    subst this
    unfold f_X10_allAir_L4
    by_cases h : (25 : Int32) ≤ nI (R * C)
    · rw [if_pos h]
    · rw [if_neg h, has_end hR hC, px_kb, if_pos rfl]
  | succ q ih =>
    intro f c hq hf
    obtain ⟨f', rfl⟩ : ∃ f', f = f' + 1 := ⟨f - 1, by omega⟩
    unfold f_X10_allAir_L4
    rw [if_neg (show ¬ (25 : Int32) ≤ nI c from nI_ge (b := 25) (by omega) (by decide)), has_in hR hC (show c < R * C by omega), px_kb, if_neg (by decide), px_in (by omega) (by decide), px_nm, px_nm, nI_clamp (by omega), lf_at, nI_add, nI_1]
    exact ih f' (c + 1) (by omega) (by omega)
theorem all_c (hR : R < 6) (hC : C < 6) : f_X10_allAir (nI R) (nI C) (lf a) = some (nI (sumN a (R * C))) := by
  have h25 := RC25 hR hC
  exact allc_run hR hC (R * C) gFuel 0 (by omega) (by unfold gFuel; omega)
theorem allm_run (hW : MW d R C ho ou eb a p) (hR : R < 6) (hC : C < 6) : ∀ (q f c : Nat), c + q = R * C → q < f → f_X12_allAir_L4 d f (nI (sumN a c)) (nI c) = some (nI (sumN a (R * C))) := by
  have h25 := RC25 hR hC
  intro q
  induction q with
  | zero =>
    intro f c hq hf
    obtain ⟨f', rfl⟩ : ∃ f', f = f' + 1 := ⟨f - 1, by omega⟩
    have : c = R * C := by omega
    subst this
    unfold f_X12_allAir_L4
    rw [cells_m hW, px_kb, if_pos (show nI (R * C) ≤ nI (R * C) from Int32.le_refl _)]
  | succ q ih =>
    intro f c hq hf
    obtain ⟨f', rfl⟩ : ∃ f', f = f' + 1 := ⟨f - 1, by omega⟩
    unfold f_X12_allAir_L4
    rw [cells_m hW, px_kb, if_neg (nI_ge (a := c) (b := R * C) (by omega) (by omega)), n10, px_nm, ch_d (by omega), px_nm, px_nm, nI_clamp (by omega), hW.2.2.2.2.2.1 c (by omega), nI_add, nI_1]
    exact ih f' (c + 1) (by omega) (by omega)
theorem all_m (hW : MW d R C ho ou eb a p) (hR : R < 6) (hC : C < 6) : f_X12_allAir d = some (nI (sumN a (R * C))) := by
  have h25 := RC25 hR hC
  exact allm_run hW hR hC (R * C) gFuel 0 (by omega) (by unfold gFuel; omega)
theorem OK_night (h : OKp R C ho ou eb nt T tl wn a p kN mN Lm Ls) (hn : nt + 1 ≤ 999) : OKp R C ho ou eb (nt + 1) T tl wn (nA a p (R * C)) (nP p (R * C)) kN mN Lm Ls := by
  obtain ⟨o1, o2, o3, o4, o5, o6, o7, o8, o9, o10, o11⟩ := h
  exact ⟨o1, o2, o3, o4, nA_ok o5 _, nP_ok o6 _, o7, o8, o9, hn, o11⟩
end RE
section RE2
variable {R C ho ou eb T tl wn : Nat} {kN mN : Nat → Nat} {Lm Ls : List Int32} {z : Int32} {told tape er fo : Nat → Int32}
theorem nights_run (n : Nat) (hn : n ≤ 30) : ∀ (q f k nt : Nat) (a p : Nat → Nat) (d : Nat → Int32), k + q = n → q < f → nt + q ≤ 999 → OKp R C ho ou eb nt T tl wn a p kN mN Lm Ls → MDp R C ho ou eb nt T tl wn a p kN mN Lm Ls z told tape d →
    ∃ (r : Int32) (d' : Nat → Int32) (nt' : Nat) (a' p' : Nat → Nat), f_X11_nights_L42 (nI n) (nI R) (nI C) f (nI k) er (nI nt) (lf a) (lf p) = some (r, er, nI nt', lf a', lf p') ∧ f_X12_nights_L40 (nI n) f (nI k) d fo = some (r, d', fo) ∧ OKp R C ho ou eb nt' T tl wn a' p' kN mN Lm Ls ∧ MDp R C ho ou eb nt' T tl wn a' p' kN mN Lm Ls z told tape d' := by
  intro q
  induction q with
  | zero =>
    intro f k nt a p d hq hf hnt hO hM
    obtain ⟨f', rfl⟩ : ∃ f', f = f' + 1 := ⟨f - 1, by omega⟩
    have : k = n := by omega
    subst this
    have h := id hO
    obtain ⟨o1, o2, o3, o4, o5, o6, o7⟩ := h
    unfold f_X11_nights_L42 f_X12_nights_L40
    rw [if_pos (show nI k ≤ nI k from Int32.le_refl _), if_pos (show nI k ≤ nI k from Int32.le_refl _), all_c o3 o4, all_m hM.1 o3 o4, px_kb, px_kb]
    exact ⟨_, d, nt, a, p, rfl, rfl, hO, hM⟩
  | succ q ih =>
    intro f k nt a p d hq hf hnt hO hM
    obtain ⟨f', rfl⟩ : ∃ f', f = f' + 1 := ⟨f - 1, by omega⟩
    obtain ⟨o1, o2, o3, o4, o5, o6, o7⟩ := id hO
    obtain ⟨d2, g1, g2, g3⟩ := night_m o3 o4 o5 o6 hM
    unfold f_X11_nights_L42 f_X12_nights_L40
    rw [if_neg (nI_ge (a := k) (b := n) (by omega) (by omega)), if_neg (nI_ge (a := k) (b := n) (by omega) (by omega)), pass_c o3 o4 o5 o6, g1, px_kb3, px_kb, px_nm, px_nm, nI_1, nI_1]
    exact ih f' (k + 1) (nt + 1) _ _ d2 (by omega) (by omega) (by omega) (OK_night hO (by omega)) g2
end RE2
section RE3
variable {R C ho ou eb nt T tl wn : Nat} {a p kN mN : Nat → Nat} {Lm Ls : List Int32} {z : Int32} {told tape d er fo : Nat → Int32}

theorem m_nights (hO : OKp R C ho ou eb nt T tl wn a p kN mN Lm Ls) (hM : MDp R C ho ou eb nt T tl wn a p kN mN Lm Ls z told tape d) (hE : EK er fo) (x : Int32) :
    ∃ (r : Int32) (er' fo' d' : Nat → Int32) (nt' : Nat) (a' p' : Nat → Nat), f_X11_nights x er (nI R) (nI C) (nI nt) (lf a) (lf p) = some (r, er', nI nt', lf a', lf p') ∧ f_X12_nights x d fo = some (r, d', fo') ∧ EK er' fo' ∧ OKp R C ho ou eb nt' T tl wn a' p' kN mN Lm Ls ∧ MDp R C ho ou eb nt' T tl wn a' p' kN mN Lm Ls z told tape d' := by
  have hnt : nt ≤ 999 := hO.2.2.2.2.2.2.2.2.2.1
  obtain ⟨r, e', f', g1, g2, g3⟩ := err_1 hE
  obtain ⟨r3, e3, f3, k1, k2, k3⟩ := err_3 hE
  unfold f_X11_nights f_X12_nights
  rw [wi_b1 x (n := 30) (by decide), in_b1 x (n := 30) (by decide), px_kb, px_kb]
  rcases rng x 30 with ⟨n, hn1, hn30, rfl, hx⟩ | hx
  · rw [hx, i10, i10]
    simp only [c_5, z_5, px_nm, hM.2.2.1, nI_add, show (999 : Int32) - nI n = nI (999 - n) from pk_sub (a := 999) (by omega)]
    by_cases h : nt + n ≤ 999
    · rw [if_pos (nI_le (a := nt) (b := 999 - n) (by omega) (by omega)), if_pos (show nI (nt + n) ≤ 999 from nI_le (b := 999) h (by decide))]
      obtain ⟨r, d', nt', a', p', q1, q2, q3, q4⟩ := nights_run (er := er) (fo := fo) n hn30 n gFuel 0 nt a p d (by omega) (by unfold gFuel; omega) h hO hM
      exact ⟨r, er, fo, d', nt', a', p', q1, q2, hE, q3, q4⟩
    · rw [if_neg (nI_ge (a := 999 - n) (b := nt) (by omega) (by omega)), if_neg (show ¬ nI (nt + n) ≤ 999 from nI_ge (a := 999) (by omega) (by omega)), k1, k2, px_kb2, px_kb2]
      exact ⟨r3, e3, f3, d, nt, a, p, rfl, rfl, k3, hO, hM⟩
  · rw [hx, i00, i00, g1, g2, px_kb2, px_kb2]
    exact ⟨r, e', f', d, nt, a, p, rfl, rfl, g3, hO, hM⟩
end RE3
