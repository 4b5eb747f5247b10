/-! the calls: told, count, what is gone, ways out, lamp -/
section RF
variable {R C ho ou eb nt T tl wn : Nat} {a p kN mN : Nat → Nat} {Lm Ls : List Int32} {z : Int32} {told tape d er fo : Nat → Int32}

theorem m_told (hE : EK er fo) (x : Int32) : ∃ (r : Int32) (er' fo' : Nat → Int32), f_X11_told x er = some (r, er') ∧ f_X12_told x fo = some (r, fo') ∧ EK er' fo' := by
  obtain ⟨r, e', f', g1, g2, g3⟩ := err_1 hE
  unfold f_X11_told f_X12_told
  rw [wi_b1 x (n := 5) (by decide), in_b1 x (n := 5) (by decide), px_kb, px_kb]
  rcases rng x 5 with ⟨k, h1, h5, rfl, hx⟩ | hx
  · rw [hx, i10, i10, px_in (by omega) (by decide), px_nm, nI_clamp (by omega), hE k h1 h5, px_in (by omega) (by decide), px_nm]
    exact ⟨_, er, fo, rfl, rfl, hE⟩
  · rw [hx, i00, i00, g1, g2, px_kb2, px_kb2]
    exact ⟨r, e', f', rfl, rfl, g3⟩
theorem MD_low {d' : Nat → Int32} {nt' tl' wn' : Nat} {z' : Int32} (h : MDp R C ho ou eb nt T tl wn a p kN mN Lm Ls z told tape d) (h5 : d' 5 = nI nt') (h6 : d' 6 = z') (h7 : d' 7 = nI tl') (h8 : d' 8 = nI wn') (hS : ∀ j, ¬ (5 ≤ j ∧ j ≤ 8) → d' j = d j) : MDp R C ho ou eb nt' T tl' wn' a p kN mN Lm Ls z' told tape d' := by
  obtain ⟨⟨w0, w1, w3, w4, w9, wa, wp⟩, q2, q5, q6, q7, q8, hT, hL0, hL1, ht, htp⟩ := h
  have hs : ∀ j, 60 ≤ j → d' j = d j := fun j hj => hS j (by omega)
  exact ⟨⟨by rw [hS _ (by omega)]; exact w0, by rw [hS _ (by omega)]; exact w1, by rw [hS _ (by omega)]; exact w3, by rw [hS _ (by omega)]; exact w4, by rw [hS _ (by omega)]; exact w9, fun j hj => by rw [hS _ (by omega)]; exact wa j hj, fun j hj => by rw [hS _ (by omega)]; exact wp j hj⟩, by rw [hS 2 (by omega)]; exact q2, h5, h6, h7, h8, fun j hj => MT_same (hT j hj) hs, LM_same (by decide) hL0 hs, LM_same (by decide) hL1 hs, fun j hj => by rw [hS _ (by omega)]; exact ht j hj, fun j hj => by rw [hS _ (by omega)]; exact htp j hj⟩
theorem MD_z {z' : Int32} (h : MDp R C ho ou eb nt T tl wn a p kN mN Lm Ls z told tape d) : MDp R C ho ou eb nt T tl wn a p kN mN Lm Ls z' told tape (upd d 6 z') := by
  have hn : ∀ j, j ≠ 6 → upd d 6 z' j = d j := fun j hj => if_neg hj
  exact MD_low h (by rw [hn _ (by omega)]; exact h.2.2.1) (if_pos rfl) (by rw [hn _ (by omega)]; exact h.2.2.2.2.1) (by rw [hn _ (by omega)]; exact h.2.2.2.2.2.1) (fun j hj => hn j (by omega))
theorem m_seed (hM : MDp R C ho ou eb nt T tl wn a p kN mN Lm Ls z told tape d) (x : Int32) : f_X11_seed x z = some (z, x) ∧ f_X12_seed x d = some (z, upd d 6 x) ∧ MDp R C ho ou eb nt T tl wn a p kN mN Lm Ls x told tape (upd d 6 x) := by
  unfold f_X11_seed f_X12_seed
  simp only [c_6, z_6, px_nm, hM.2.2.2.1, true_and]
  exact MD_z hM
theorem m_tell (hO : OKp R C ho ou eb nt T tl wn a p kN mN Lm Ls) (hM : MDp R C ho ou eb nt T tl wn a p kN mN Lm Ls z told tape d) (hE : EK er fo) (x : Int32) :
    ∃ (r : Int32) (er' fo' d' told' : Nat → Int32) (wn' : Nat), f_X11_tell x er (nI wn) told = some (r, er', nI wn', told') ∧ f_X12_tell x d fo = some (r, d', fo') ∧ EK er' fo' ∧ OKp R C ho ou eb nt T tl wn' a p kN mN Lm Ls ∧ MDp R C ho ou eb nt T tl wn' a p kN mN Lm Ls z told' tape d' := by
  obtain ⟨o1, o2, o3, o4, o5, o6, o7, o8, o9, o10, o11, o12, o13, o14, o15, o16⟩ := id hO
  obtain ⟨r4, e4, f4, k1, k2, k3⟩ := err_4 hE
  have h8 := hM.2.2.2.2.2.1
  unfold f_X11_tell f_X12_tell
  rw [show f_X11_within (nI wn) 0 19 = some (bI (nI wn) 20) from within_n _ 19 (by decide), px_kb]
  simp only [c_8, z_8, px_nm, h8]
  by_cases h : wn < 20
  · have i1 : upd d (74 + wn) x 8 = nI wn := (if_neg (by omega)).trans h8
    have i2 : ∀ (f : Nat → Int32) (y : Int32), upd f 8 y 8 = y := fun f y => if_pos rfl
    rw [bI_nI h (by decide), if_neg (by decide), if_neg (show ¬ nI wn = 20 from nI_ne (c := 20) (by omega) (by decide) (by omega))]
    simp only [px_in h (show 20 < 2 ^ 31 by decide), px_nm, nI_clamp (show wn < 2 ^ 31 by omega), nI_1, show (74 : Int32) + nI wn = nI (74 + wn) from nI_add 74 wn, ch_d (show 74 + wn < 244 by omega), nI_clamp (show 74 + wn < 2 ^ 31 by omega), i1, i2]
    refine ⟨_, er, fo, _, _, wn + 1, rfl, rfl, hE, ⟨o1, o2, o3, o4, o5, o6, o7, o8, o9, o10, o11, o12, by omega, o14, o15, o16⟩, ?_⟩
    obtain ⟨⟨w0, w1, w3, w4, w9, wa, wp⟩, q2, q5, q6, q7, q8, hT, hL0, hL1, ht, htp⟩ := hM
    have hS : ∀ j, j ≠ 8 → j ≠ 74 + wn → upd (upd d (74 + wn) x) 8 (nI (wn + 1)) j = d j := fun j h1 h2 => (if_neg h1).trans (if_neg h2)
    have hL : ∀ (u : Nat) (L : List Int32), u < 2 → LM u L d → LM u L (upd (upd d (74 + wn) x) 8 (nI (wn + 1))) := by
      intro u L hu hl
      rcases hl with ⟨h1, h2⟩ | ⟨n, b, h0, h1, ⟨t1, t2, t3, t4⟩, h3⟩
      · exact Or.inl ⟨by rw [hS _ (by omega) (by omega)]; exact h1, h2⟩
      · exact Or.inr ⟨n, b, h0, by rw [hS _ (by omega) (by omega)]; exact h1, ⟨t1, t2, fun i hi => by rw [hS _ (by omega) (by omega)]; exact t3 i hi, t4⟩, h3⟩
    refine ⟨⟨by rw [hS _ (by omega) (by omega)]; exact w0, by rw [hS _ (by omega) (by omega)]; exact w1, by rw [hS _ (by omega) (by omega)]; exact w3, by rw [hS _ (by omega) (by omega)]; exact w4, by rw [hS _ (by omega) (by omega)]; exact w9, fun j hj => by rw [hS _ (by omega) (by omega)]; exact wa j hj, fun j hj => by rw [hS _ (by omega) (by omega)]; exact wp j hj⟩, by rw [hS 2 (by omega) (by omega)]; exact q2, by rw [hS 5 (by omega) (by omega)]; exact q5, by rw [hS 6 (by omega) (by omega)]; exact q6, by rw [hS 7 (by omega) (by omega)]; exact q7, if_pos rfl, fun j hj => ⟨by rw [hS _ (by omega) (by omega)]; exact (hT j hj).1, by rw [hS _ (by omega) (by omega)]; exact (hT j hj).2⟩, hL 0 Lm (by decide) hL0, hL 1 Ls (by decide) hL1, fun j hj => ?_, fun j hj => by rw [hS _ (by omega) (by omega)]; exact htp j hj⟩
    by_cases e : j = wn
    · subst e
      rw [show upd told j x j = x from if_pos rfl]
      exact (if_neg (by omega)).trans (if_pos rfl)
    · rw [hS _ (by omega) (by omega), show upd told wn x j = told j from if_neg e]
      exact ht j hj
  · have : wn = 20 := by omega
    subst this
    rw [show bI (nI 20) 20 = 0 by decide, if_pos rfl, if_pos (show nI 20 = 20 from rfl), k1, k2, px_kb2, px_kb2]
    exact ⟨r4, e4, f4, d, told, 20, rfl, rfl, k3, hO, hM⟩
/-- cells with air -/
def wa1 (a : Nat → Nat) (j : Nat) : Nat := if 0 < a j then 1 else 0
theorem wac_run (hR : R < 6) (hC : C < 6) (hA : AirOK a) : ∀ (q f c : Nat), c + q = R * C → q < f → f_X10_cellsWithAir_L4 (nI R) (nI C) (lf a) f (nI (sumN (wa1 a) c)) (nI c) = some (nI (sumN (wa1 a) (R * C))) := by
  have h25 := RC25 hR hC
  intro q
  induction q with
  | zero =>
    intro f c hq hf
    obtain ⟨f', rfl⟩ : ∃ f', f = f' + 1 := ⟨f - 1, by omega⟩
    have : c = R * C := by omega
    subst this
    unfold f_X10_cellsWithAir_L4
    by_cases h : (25 : Int32) ≤ nI (R * C)
    · rw [if_pos h]
    · rw [if_neg h, has_end hR hC, px_kb, if_pos rfl]
  | succ q ih =>
    intro f c hq hf
    obtain ⟨f', rfl⟩ : ∃ f', f = f' + 1 := ⟨f - 1, by omega⟩
    have hac := hA.1 c
    have hih := ih f' (c + 1) (by omega) (by omega)
    have e1 : sumN (wa1 a) (c + 1) = sumN (wa1 a) c + wa1 a c := rfl
    rw [e1] at hih
    unfold wa1 at hih
    unfold f_X10_cellsWithAir_L4
    rw [if_neg (show ¬ (25 : Int32) ≤ nI c from nI_ge (b := 25) (by omega) (by decide)), has_in hR hC (show c < R * C by omega), px_kb, if_neg (by decide), px_in (by omega) (by decide), nI_clamp (by omega), lf_at]
    by_cases h0 : 0 < a c
    · rw [if_pos h0] at hih
      rw [if_neg (nI_nle h0 (by omega)), px_nm, px_nm, nI_1, nI_1]
      exact hih
    · rw [if_neg h0, Nat.add_zero] at hih
      have : a c = 0 := by omega
      rw [this, if_pos (show nI 0 ≤ 0 by decide), px_nm, nI_1]
      exact hih
theorem wam_run (hW : MW d R C ho ou eb a p) (hR : R < 6) (hC : C < 6) (hA : AirOK a) : ∀ (q f c : Nat), c + q = R * C → q < f → f_X12_count_L104 d f (nI (sumN (wa1 a) c)) (nI c) fo = some (nI (sumN (wa1 a) (R * C)), fo) := by
  have h25 := RC25 hR hC
  intro q
  induction q with
  | zero =>
    intro f c hq hf
    obtain ⟨f', rfl⟩ : ∃ f', f = f' + 1 := ⟨f - 1, by omega⟩
    have : c = R * C := by omega
    subst this
    unfold f_X12_count_L104
    rw [cells_m hW, px_kb, if_pos (show nI (R * C) ≤ nI (R * C) from Int32.le_refl _)]
  | succ q ih =>
    intro f c hq hf
    obtain ⟨f', rfl⟩ : ∃ f', f = f' + 1 := ⟨f - 1, by omega⟩
    have hac := hA.1 c
    have hih := ih f' (c + 1) (by omega) (by omega)
    have e1 : sumN (wa1 a) (c + 1) = sumN (wa1 a) c + wa1 a c := rfl
    rw [e1] at hih
    unfold wa1 at hih
    unfold f_X12_count_L104
    rw [cells_m hW, px_kb, if_neg (nI_ge (a := c) (b := R * C) (by omega) (by omega)), n10, px_nm, ch_d (by omega), nI_clamp (by omega), hW.2.2.2.2.2.1 c (by omega)]
    by_cases h0 : 0 < a c
    · rw [if_pos h0] at hih
      rw [if_neg (nI_nle h0 (by omega)), px_nm, px_nm, nI_1, nI_1]
      exact hih
    · rw [if_neg h0] at hih
      have : a c = 0 := by omega
      rw [this, if_pos (show nI 0 ≤ 0 by decide), px_nm, px_nm, nI_1, show nI (sumN (wa1 a) c) + 0 = nI (sumN (wa1 a) c + 0) from nI_add _ 0]
      exact hih
theorem obits_all : ∀ eb, eb < 16 → f_X10_openBits (lf (opn eb)) = some (nI eb) := by decide +kernel
theorem m_count (hO : OKp R C ho ou eb nt T tl wn a p kN mN Lm Ls) (hM : MDp R C ho ou eb nt T tl wn a p kN mN Lm Ls z told tape d) (hE : EK er fo) (x tm : Int32) : ∃ (r : Int32) (er' fo' : Nat → Int32), f_X11_count x er (nI T) (nI tl) z (nI wn) (nI R) (nI C) (nI ho) (nI ou) (nI nt) (lf a) (lf (opn eb)) tm = some (r, er') ∧ f_X12_count x tm d fo = some (r, fo') ∧ EK er' fo' := by
  obtain ⟨o1, o2, o3, o4, o5, o6, o7, o8, o9, o10, o11, o12, o13, o14, o15, o16⟩ := id hO
  have h25 := RC25 o3 o4
  obtain ⟨r, e', f', g1, g2, g3⟩ := err_1 hE
  obtain ⟨m0, m2, m5, m6, m7, m8, m9⟩ := hM
  have hwc : f_X10_cellsWithAir (nI R) (nI C) (lf a) = some (nI (sumN (wa1 a) (R * C))) := by
    unfold f_X10_cellsWithAir
    exact wac_run o3 o4 o5 (R * C) gFuel 0 (by omega) (by unfold gFuel; omega)
  have hwm : f_X12_count_L104 d gFuel 0 0 fo = some (nI (sumN (wa1 a) (R * C)), fo) := wam_run m0 o3 o4 o5 (R * C) gFuel 0 (by omega) (by unfold gFuel; omega)
  have hcc : f_X10_cells (nI R) (nI C) = some (nI (R * C)) := by unfold f_X10_cells; rw [pk_mul]
  unfold f_X11_count f_X12_count
  simp only [hcc, cells_m m0, all_c o3 o4, all_m m0 o3 o4, hwc, hwm, obits_all eb o9, px_kb, c_2, z_2, m2, c_3, z_3, m0.2.2.1, c_4, z_4, m0.2.2.2.1, c_5, z_5, m5, c_9, z_9, m0.2.2.2.2.1, c_7, z_7, m7, c_8, z_8, m8, c_6, z_6, m6, g1, g2, px_kb2]
  have fin : ∀ y : Int32, ∃ (r : Int32) (er' fo' : Nat → Int32), some (y, er) = some (r, er') ∧ some (y, fo) = some (r, fo') ∧ EK er' fo' := fun y => ⟨y, er, fo, rfl, rfl, hE⟩
  by_cases h0 : x = 0
  · rw [if_pos h0, if_pos h0]; exact fin _
  rw [if_neg h0, if_neg h0]
  by_cases h1 : x = 1
  · rw [if_pos h1, if_pos h1]; exact fin _
  rw [if_neg h1, if_neg h1]
  by_cases h2 : x = 2
  · rw [if_pos h2, if_pos h2]; exact fin _
  rw [if_neg h2, if_neg h2]
  by_cases h3 : x = 3
  · rw [if_pos h3, if_pos h3]; exact fin _
  rw [if_neg h3, if_neg h3]
  by_cases h4 : x = 4
  · rw [if_pos h4, if_pos h4]; exact fin _
  rw [if_neg h4, if_neg h4]
  by_cases h5 : x = 5
  · rw [if_pos h5, if_pos h5]; exact fin _
  rw [if_neg h5, if_neg h5]
  by_cases h6 : x = 6
  · rw [if_pos h6, if_pos h6]; exact fin _
  rw [if_neg h6, if_neg h6]
  by_cases h7 : x = 7
  · rw [if_pos h7, if_pos h7]; exact fin _
  rw [if_neg h7, if_neg h7]
  by_cases h8 : x = 8
  · rw [if_pos h8, if_pos h8]; exact fin _
  rw [if_neg h8, if_neg h8]
  by_cases h9 : x = 9
  · rw [if_pos h9, if_pos h9]; exact fin _
  rw [if_neg h9, if_neg h9]
  by_cases h10 : x = 10
  · rw [if_pos h10, if_pos h10]; exact fin _
  rw [if_neg h10, if_neg h10]
  by_cases h11 : x = 11
  · rw [if_pos h11, if_pos h11]; exact fin _
  rw [if_neg h11, if_neg h11]
  exact ⟨r, e', f', rfl, rfl, g3⟩
theorem gone_run {p : Nat} (hp : p < 10) : ∀ (q k f f' : Nat) (x : Int32), k + q = 31 → q < f → q < f' →
    ∃ r, k ≤ r ∧ r ≤ 31 ∧ f_X11_nightsToGo_L4 (nI p) f x (nI k) = some (nI r) ∧ ∀ n, n ≤ 30 → k ≤ n + 1 → f_X12_goneWith_L8 (nI n) f' x (nI (p - k)) (nI k) = some (if r ≤ n then nI r else -1) := by
  intro q
  induction q with
  | zero =>
    intro k f f' x hq hf hf'
    obtain ⟨f1, rfl⟩ : ∃ f1, f = f1 + 1 := ⟨f - 1, by omega⟩
    obtain ⟨f2, rfl⟩ : ∃ f2, f' = f2 + 1 := ⟨f' - 1, by omega⟩
    have : k = 31 := by omega
    subst this
    refine ⟨31, by omega, by omega, ?_, fun n hn hk => ?_⟩
    · unfold f_X11_nightsToGo_L4
      rw [if_pos (show (30 : Int32) < nI 31 by decide)]; rfl
    · unfold f_X12_goneWith_L8
      rw [if_pos (show nI n < nI 31 from nI_lt (by omega) (by decide)), if_neg (by omega)]
  | succ q ih =>
    intro k f f' x hq hf hf'
    obtain ⟨f1, rfl⟩ : ∃ f1, f = f1 + 1 := ⟨f - 1, by omega⟩
    obtain ⟨f2, rfl⟩ : ∃ f2, f' = f2 + 1 := ⟨f' - 1, by omega⟩
    unfold f_X11_nightsToGo_L4
    rw [if_neg (show ¬ (30 : Int32) < nI k from nI_nlt (a := 30) (by omega) (by decide))]
    by_cases hx : 0 < x
    · obtain ⟨r, h1, h2, h3, h4⟩ := ih (k + 1) f1 f2 (x - nI (p - k)) (by omega) (by omega) (by omega)
      rw [if_pos hx, px_nm, px_nm, px_nm, px_nm, tr_sub (x := p) (y := k) (by omega) (by omega), nI_1]
      refine ⟨r, by omega, h2, h3, fun n hn hk => ?_⟩
      unfold f_X12_goneWith_L8
      by_cases hnk : n < k
      · rw [if_pos (nI_lt hnk (by omega)), if_neg (by omega)]
      · have h5 := h4 n hn (by omega)
        rw [if_neg (nI_nlt (by omega) (by omega)), if_pos hx, px_nm]
        by_cases h0 : p - k = 0
        · rw [h0, if_pos (show nI 0 ≤ 0 by decide), px_nm, px_nm, nI_1]
          rw [h0, show p - (k + 1) = 0 by omega] at h5
          exact h5
        · rw [if_neg (nI_nle (by omega) (by omega)), px_nm, px_nm, nI_1, show (nI (p - k) - 1 : Int32) = nI (p - (k + 1)) from by rw [show p - (k + 1) = p - k - 1 by omega]; exact pk_sub (b := 1) (by omega)]
          exact h5
    · rw [if_neg hx]
      refine ⟨k, Nat.le_refl _, by omega, rfl, fun n hn hk => ?_⟩
      unfold f_X12_goneWith_L8
      by_cases hnk : n < k
      · rw [if_pos (nI_lt hnk (by omega)), if_neg (by omega)]
      · rw [if_neg (nI_nlt (by omega) (by omega)), if_neg hx, if_pos (by omega)]
theorem gone_eq {p : Nat} (hp : p < 10) (x : Int32) : ∃ r, r ≤ 31 ∧ f_X11_nightsToGo x (nI p) = some (nI r) ∧ ∀ n, n ≤ 30 → f_X12_goneWith x (nI p) (nI n) = some (if r ≤ n then nI r else -1) := by
  obtain ⟨r, h1, h2, h3, h4⟩ := gone_run hp 31 0 gFuel gFuel x (by omega) (by unfold gFuel; omega) (by unfold gFuel; omega)
  exact ⟨r, h2, h3, fun n hn => h4 n hn (by omega)⟩
theorem m_goneBy (hO : OKp R C ho ou eb nt T tl wn a p kN mN Lm Ls) (hM : MDp R C ho ou eb nt T tl wn a p kN mN Lm Ls z told tape d) (hE : EK er fo) (x : Int32) : ∃ (r : Int32) (er' fo' : Nat → Int32), f_X11_goneBy x er (nI R) (nI C) (lf a) (lf p) = some (r, er') ∧ f_X12_goneBy x d fo = some (r, fo') ∧ EK er' fo' := by
  obtain ⟨o1, o2, o3, o4, o5, o6, o7⟩ := id hO
  have h25 := RC25 o3 o4
  obtain ⟨r, e', f', g1, g2, g3⟩ := err_1 hE
  obtain ⟨r2, e2, f2, k1, k2, k3⟩ := err_2 hE
  unfold f_X11_goneBy f_X12_goneBy
  rw [isCell_c x o3 o4, isCell_m x hM.1 o3 o4, px_kb, px_kb]
  by_cases hx : vp_in x (R * C)
  · obtain ⟨c, hc, rfl⟩ := vp_in_of hx (by omega)
    have hpc := o6.1 c
    obtain ⟨s, s1, s2, s3⟩ := gone_eq (p := p c) (by omega) (nI (a c))
    have s4 : f_X12_goneWith (nI (a c)) (nI (p c)) 30 = some (if s ≤ 30 then nI s else -1) := s3 30 (by decide)
    rw [bI_in hx, i10, i10]
    simp only [px_in (show c < 25 by omega) (show 25 < 2 ^ 31 by decide), px_nm, nI_clamp (show c < 2 ^ 31 by omega), lf_at, s2, px_kb, n10, n35, ch_d (show 10 + c < 244 by omega), nI_clamp (show 10 + c < 2 ^ 31 by omega), ch_d (show 35 + c < 244 by omega), nI_clamp (show 35 + c < 2 ^ 31 by omega), hM.1.2.2.2.2.2.1 c (by omega), hM.1.2.2.2.2.2.2 c (by omega), s4, k1, k2, px_kb2]
    by_cases h : s ≤ 30
    · rw [if_pos h, if_neg (show ¬ (30 : Int32) < nI s from nI_nlt (a := 30) h (by decide)), if_pos (nI_pos' (by omega))]
      exact ⟨_, er, fo, rfl, rfl, hE⟩
    · rw [if_neg h, if_pos (show (30 : Int32) < nI s from nI_lt (a := 30) (by omega) (by omega)), if_neg (by decide)]
      exact ⟨r2, e2, f2, rfl, rfl, k3⟩
  · rw [bI_out hx, i00, i00, g1, g2, px_kb2, px_kb2]
    exact ⟨r, e', f', rfl, rfl, g3⟩
theorem never_run (hO : OKp R C ho ou eb nt T tl wn a p kN mN Lm Ls) (hM : MDp R C ho ou eb nt T tl wn a p kN mN Lm Ls z told tape d) : ∀ (q f f' c m : Nat), c + q = R * C → q < f → q < f' → ∃ r, f_X11_never_L15 (lf a) (lf p) f (nI m) (nI (R * C)) (nI c) = some r ∧ f_X12_never_L4 d f' (nI m) (nI c) = some r := by
  obtain ⟨o1, o2, o3, o4, o5, o6, o7⟩ := id hO
  have h25 := RC25 o3 o4
  intro q
  induction q with
  | zero =>
    intro f f' c m hq hf hf'
    obtain ⟨f1, rfl⟩ : ∃ f1, f = f1 + 1 := ⟨f - 1, by omega⟩
    obtain ⟨f2, rfl⟩ : ∃ f2, f' = f2 + 1 := ⟨f' - 1, by omega⟩
    have : c = R * C := by omega
    subst this
    unfold f_X11_never_L15 f_X12_never_L4
    rw [cells_m hM.1, px_kb, if_pos (show nI (R * C) ≤ nI (R * C) from Int32.le_refl _), if_pos (show nI (R * C) ≤ nI (R * C) from Int32.le_refl _)]
    exact ⟨_, rfl, rfl⟩
  | succ q ih =>
    intro f f' c m hq hf hf'
    obtain ⟨f1, rfl⟩ : ∃ f1, f = f1 + 1 := ⟨f - 1, by omega⟩
    obtain ⟨f2, rfl⟩ : ∃ f2, f' = f2 + 1 := ⟨f' - 1, by omega⟩
    have hpc := o6.1 c
    obtain ⟨s, s1, s2, s3⟩ := gone_eq (p := p c) (by omega) (nI (a c))
    have s4 : f_X12_goneWith (nI (a c)) (nI (p c)) 30 = some (if s ≤ 30 then nI s else -1) := s3 30 (by decide)
    unfold f_X11_never_L15 f_X12_never_L4
    rw [cells_m hM.1, px_kb, if_neg (nI_ge (a := c) (b := R * C) (by omega) (by omega)), if_neg (nI_ge (a := c) (b := R * C) (by omega) (by omega))]
    simp only [px_in (show c < 25 by omega) (show 25 < 2 ^ 31 by decide), px_nm, nI_clamp (show c < 2 ^ 31 by omega), lf_at, s2, px_kb, n10, n35, ch_d (show 10 + c < 244 by omega), nI_clamp (show 10 + c < 2 ^ 31 by omega), ch_d (show 35 + c < 244 by omega), nI_clamp (show 35 + c < 2 ^ 31 by omega), hM.1.2.2.2.2.2.1 c (by omega), hM.1.2.2.2.2.2.2 c (by omega), s4, nI_1]
    by_cases h : s ≤ 30
    · rw [if_pos h, if_pos (show nI s ≤ 30 from nI_le (b := 30) h (by decide)), if_pos (nI_pos' (by omega)), show nI m + 0 = nI m from nI_add m 0]
      exact ih f1 f2 (c + 1) m (by omega) (by omega) (by omega)
    · rw [if_neg h, if_neg (show ¬ nI s ≤ 30 from nI_ge (a := 30) (by omega) (by omega)), if_neg (by decide)]
      exact ih f1 f2 (c + 1) (m + 1) (by omega) (by omega) (by omega)
theorem m_never (hO : OKp R C ho ou eb nt T tl wn a p kN mN Lm Ls) (hM : MDp R C ho ou eb nt T tl wn a p kN mN Lm Ls z told tape d) (hE : EK er fo) : ∃ r, f_X11_never (nI R) (nI C) (lf a) (lf p) = some r ∧ f_X12_never d = some r := by
  have h25 := RC25 hO.2.2.1 hO.2.2.2.1
  unfold f_X11_never f_X12_never f_X10_cells
  rw [px_kb, pk_mul]
  exact never_run hO hM (R * C) gFuel gFuel 0 0 (by omega) (by unfold gFuel; omega) (by unfold gFuel; omega)
theorem needs_run (hO : OKp R C ho ou eb nt T tl wn a p kN mN Lm Ls) (hM : MDp R C ho ou eb nt T tl wn a p kN mN Lm Ls z told tape d) (hE : EK er fo) {c n : Nat} (hc : c < R * C) (hn : n ≤ 30) : ∀ (q f f' k : Nat), k + q = 10 → q < f → q < f' → ∃ (r : Int32) (er' fo' : Nat → Int32), f_X11_needs_L26 (nI c) (nI n) (lf a) f (nI k) er = some (r, er') ∧ f_X12_needs_L28 (nI c) (nI n) d f' (nI k) fo = some (r, fo') ∧ EK er' fo' := by
  obtain ⟨o1, o2, o3, o4, o5, o6, o7⟩ := id hO
  have h25 := RC25 o3 o4
  obtain ⟨r2, e2, f2, k1, k2, k3⟩ := err_2 hE
  intro q
  induction q with
  | zero =>
    intro f f' k hq hf hf'
    obtain ⟨f1, rfl⟩ : ∃ f1, f = f1 + 1 := ⟨f - 1, by omega⟩
    obtain ⟨f2, rfl⟩ : ∃ f2, f' = f2 + 1 := ⟨f' - 1, by omega⟩
    have : k = 10 := by omega
    subst this
    unfold f_X11_needs_L26 f_X12_needs_L28
    rw [if_pos (show (9 : Int32) < nI 10 by decide), if_pos (show (9 : Int32) < nI 10 by decide), k1, k2, px_kb2, px_kb2]
    exact ⟨r2, e2, _, rfl, rfl, k3⟩
  | succ q ih =>
    intro f f' k hq hf hf'
    obtain ⟨f1, rfl⟩ : ∃ f1, f = f1 + 1 := ⟨f - 1, by omega⟩
    obtain ⟨f2, rfl⟩ : ∃ f2, f' = f2 + 1 := ⟨f' - 1, by omega⟩
    obtain ⟨s, s1, s2, s3⟩ := gone_eq (p := k) (by omega) (nI (a c))
    unfold f_X11_needs_L26 f_X12_needs_L28
    rw [if_neg (show ¬ (9 : Int32) < nI k from nI_nlt (a := 9) (by omega) (by decide)), if_neg (show ¬ (9 : Int32) < nI k from nI_nlt (a := 9) (by omega) (by decide))]
    simp only [px_in (show c < 25 by omega) (show 25 < 2 ^ 31 by decide), px_nm, nI_clamp (show c < 2 ^ 31 by omega), lf_at, s2, px_kb, n10, ch_d (show 10 + c < 244 by omega), nI_clamp (show 10 + c < 2 ^ 31 by omega), hM.1.2.2.2.2.2.1 c (by omega), s3 n hn, nI_1]
    by_cases h : s ≤ n
    · rw [if_pos h, if_neg (nI_nlt h (by omega)), if_neg (nI_pos (by omega))]
      exact ⟨_, er, fo, rfl, rfl, hE⟩
    · rw [if_neg h, if_pos (nI_lt (by omega) (by omega)), if_pos (by decide)]
      exact ih f1 f2 (k + 1) (by omega) (by omega) (by omega)
theorem m_needs (hO : OKp R C ho ou eb nt T tl wn a p kN mN Lm Ls) (hM : MDp R C ho ou eb nt T tl wn a p kN mN Lm Ls z told tape d) (hE : EK er fo) (x y : Int32) : ∃ (r : Int32) (er' fo' : Nat → Int32), f_X11_needs x y er (nI R) (nI C) (lf a) = some (r, er') ∧ f_X12_needs x y d fo = some (r, fo') ∧ EK er' fo' := by
  obtain ⟨o1, o2, o3, o4, o5, o6, o7⟩ := id hO
  have h25 := RC25 o3 o4
  obtain ⟨r, e', f', g1, g2, g3⟩ := err_1 hE
  have ec : f_X11_needs_L18 er = some (r, e') := by unfold f_X11_needs_L18; rw [g1, px_kb2]
  have em : f_X12_needs_L20 fo = some (r, f') := by unfold f_X12_needs_L20; rw [g2, px_kb2]
  unfold f_X11_needs f_X12_needs
  rw [isCell_c x o3 o4, isCell_m x hM.1 o3 o4, px_kb, px_kb, show f_X11_within y 0 30 = some (bI y 31) from within_n y 30 (by decide), in_n y 30 30 (by decide) (by decide), px_kb, px_kb]
  by_cases hx : vp_in x (R * C)
  · obtain ⟨c, hc, rfl⟩ := vp_in_of hx (by omega)
    rw [bI_in hx, i10, i10]
    by_cases hy : vp_in y 31
    · obtain ⟨n, hn, rfl⟩ := vp_in_of hy (by decide)
      rw [bI_in hy, i10, i10]
      exact needs_run hO hM hE hc (by omega) 10 gFuel gFuel 0 (by omega) (by unfold gFuel; omega) (by unfold gFuel; omega)
    · rw [bI_out hy, i00, i00, ec, em]
      exact ⟨r, e', f', rfl, rfl, g3⟩
  · rw [bI_out hx, i00, i00, ec, em]
    exact ⟨r, e', f', rfl, rfl, g3⟩
end RF
