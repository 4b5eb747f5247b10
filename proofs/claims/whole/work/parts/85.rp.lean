/-! the calls: image, restore -/
/-- the kept state of the class is that of the model's row -/
def KPc (to tl z wn : Int32) (kind mm : Nat → Int32) (ml : Int32) (stM : Nat → Int32) (sl : Int32) (stS tape told : Nat → Int32) (rows cols holes out night : Int32) (air open_ paste vk : Nat → Int32) : Prop :=
  ∃ (R C ho ou eb nt T tl' wn' : Nat) (a p kN mN : Nat → Nat) (Lm Ls : List Int32), OKp R C ho ou eb nt T tl' wn' a p kN mN Lm Ls ∧ MDp R C ho ou eb nt T tl' wn' a p kN mN Lm Ls z told tape vk ∧ to = nI T ∧ tl = nI tl' ∧ wn = nI wn' ∧ ad kind kN 6 ∧ ad mm mN 6 ∧ ml = nI Lm.length ∧ RP stM Lm ∧ sl = nI Ls.length ∧ RP stS Ls ∧ rows = nI R ∧ cols = nI C ∧ holes = nI ho ∧ out = nI ou ∧ night = nI nt ∧ air = lf a ∧ open_ = lf (opn eb) ∧ paste = lf p
section RP0
theorem cpy_at (f g : Nat → Int32) (n : Nat) : ∀ j, j < n → va_cpy f g 0 0 n j = f j := by
  intro j hj
  show (if 0 ≤ j ∧ j < 0 + n then f (0 + (j - 0)) else g j) = f j
  rw [if_pos ⟨by omega, by omega⟩, Nat.zero_add, Nat.sub_zero]
theorem ch_6 {β : Type} (k : Option β) : chc 0 0 6 6 6 k = k := if_neg (by decide)
theorem ch_50 {β : Type} (k : Option β) : chc 0 0 50 50 50 k = k := if_neg (by decide)
theorem ch_20 {β : Type} (k : Option β) : chc 0 0 20 20 20 k = k := if_neg (by decide)
theorem t_6 : (6 : Int32).toNatClampNeg = 6 := by decide
theorem t_50 : (50 : Int32).toNatClampNeg = 50 := by decide
theorem t_20 : (20 : Int32).toNatClampNeg = 20 := by decide
theorem ad_ext {f g : Nat → Int32} {h : Nat → Nat} {n : Nat} (hf : ad f h n) (e : ∀ j, j < n → g j = f j) : ad g h n := fun j hj => (e j hj).trans (hf j hj)
theorem RP_ext {f g : Nat → Int32} {L : List Int32} (hL : L.length ≤ 50) (h : RP f L) (e : ∀ j, j < 50 → g j = f j) : RP g L := fun i hi => by rw [e i (by omega)]; exact h i hi
theorem img_run (d : Nat → Int32) (im : Int32) : ∀ (q f x : Nat) (k : Nat → Int32), x + q = 244 → q < f → ∃ k', f_X12_image_L2 d f (nI x) im k = some (im + 1, im + 1, k') ∧ (∀ j, x ≤ j → j < 244 → k' j = d j) ∧ ∀ j, j < x → k' j = k j := by
  intro q
  induction q with
  | zero =>
    intro f x k hq hf
    obtain ⟨f', rfl⟩ : ∃ f', f = f' + 1 := ⟨f - 1, by omega⟩
    have : x = 244 := by omega
    subst this
    unfold f_X12_image_L2
    rw [if_pos (show (244 : Int32) ≤ nI 244 by decide), px_nm]
    exact ⟨k, rfl, fun j h1 h2 => absurd h1 (by omega), fun _ _ => rfl⟩
  | succ q ih =>
    intro f x k hq hf
    obtain ⟨f', rfl⟩ : ∃ f', f = f' + 1 := ⟨f - 1, by omega⟩
    unfold f_X12_image_L2
    rw [if_neg (show ¬ (244 : Int32) ≤ nI x from nI_ge (b := 244) (by omega) (by decide)), ch_d (by omega), px_nm, ch_d (by omega), px_nm, px_nm, nI_1, nI_clamp (by omega)]
    obtain ⟨k', g1, g2, g3⟩ := ih f' (x + 1) (upd k x (d x)) (by omega) (by omega)
    refine ⟨k', g1, fun j h1 h2 => ?_, fun j hj => ?_⟩
    · by_cases e : j = x
      · subst e
        rw [g3 j (by omega)]
        exact if_pos rfl
      · exact g2 j (by omega) h2
    · rw [g3 j (by omega)]
      exact if_neg (by omega)
theorem rst_run (k fo : Nat → Int32) : ∀ (q f x : Nat) (d : Nat → Int32), x + q = 244 → q < f → ∃ d', f_X12_restore_L15 k f (nI x) d fo = some (d' 5, d', fo) ∧ (∀ j, x ≤ j → j < 244 → d' j = k j) ∧ ∀ j, j < x → d' j = d j := by
  intro q
  induction q with
  | zero =>
    intro f x d hq hf
    obtain ⟨f', rfl⟩ : ∃ f', f = f' + 1 := ⟨f - 1, by omega⟩
    have : x = 244 := by omega
    subst this
    unfold f_X12_restore_L15
    rw [if_pos (show (244 : Int32) ≤ nI 244 by decide), c_5, z_5]
    exact ⟨d, rfl, fun j h1 h2 => absurd h1 (by omega), fun _ _ => rfl⟩
  | succ q ih =>
    intro f x d hq hf
    obtain ⟨f', rfl⟩ : ∃ f', f = f' + 1 := ⟨f - 1, by omega⟩
    unfold f_X12_restore_L15
    rw [if_neg (show ¬ (244 : Int32) ≤ nI x from nI_ge (b := 244) (by omega) (by decide)), ch_d (by omega), px_nm, ch_d (by omega), px_nm, px_nm, nI_1, nI_clamp (by omega)]
    obtain ⟨k', g1, g2, g3⟩ := ih f' (x + 1) (upd d x (k x)) (by omega) (by omega)
    refine ⟨k', g1, fun j h1 h2 => ?_, fun j hj => ?_⟩
    · by_cases e : j = x
      · subst e
        rw [g3 j (by omega)]
        exact if_pos rfl
      · exact g2 j (by omega) h2
    · rw [g3 j (by omega)]
      exact if_neg (by omega)
end RP0
section RPS
variable {R C ho ou eb nt T tl wn : Nat} {a p kN mN : Nat → Nat} {Lm Ls : List Int32} {z : Int32} {told tape d er fo : Nat → Int32}

theorem MD_ext {d' told' tape' : Nat → Int32} (hM : MDp R C ho ou eb nt T tl wn a p kN mN Lm Ls z told tape d) (hd : ∀ j, j < 244 → d' j = d j) (h1 : ∀ j, j < 20 → told' j = told j) (h2 : ∀ j, j < 50 → tape' j = tape j) : MDp R C ho ou eb nt T tl wn a p kN mN Lm Ls z told' tape' d' := by
  obtain ⟨⟨w0, w1, w3, w4, w9, wa, wp⟩, q2, q5, q6, q7, q8, hT, hL0, hL1, ht, htp⟩ := hM
  exact ⟨⟨by rw [hd _ (by omega)]; exact w0, by rw [hd _ (by omega)]; exact w1, by rw [hd _ (by omega)]; exact w3, by rw [hd _ (by omega)]; exact w4, by rw [hd _ (by omega)]; exact w9, fun j hj => by rw [hd _ (by omega)]; exact wa j hj, fun j hj => by rw [hd _ (by omega)]; exact wp j hj⟩, by rw [hd 2 (by omega)]; exact q2, by rw [hd 5 (by omega)]; exact q5, by rw [hd 6 (by omega)]; exact q6, by rw [hd 7 (by omega)]; exact q7, by rw [hd 8 (by omega)]; exact q8, fun j hj => ⟨by rw [hd _ (by omega)]; exact (hT j hj).1, by rw [hd _ (by omega)]; exact (hT j hj).2⟩, LM_mid (by decide) hL0 (hd _ (by omega)) (fun i hi => hd _ (by omega)), LM_mid (by decide) hL1 (hd _ (by omega)) (fun i hi => hd _ (by omega)), fun j hj => by rw [hd _ (by omega), h1 j hj]; exact ht j hj, fun j hj => by rw [hd _ (by omega), h2 j hj]; exact htp j hj⟩
theorem copy7 (hO : OKp R C ho ou eb nt T tl wn a p kN mN Lm Ls) {kind mm stM stS : Nat → Int32} (hk : ad kind kN 6) (hm : ad mm mN 6) (hRM : RP stM Lm) (hRS : RP stS Ls) {fa fop fp : Nat → Int32} (hF : SC fa fop fp) (to0 tl0 z0 wn0 : Int32) (k0 m0 : Nat → Int32) (ml0 mr0 : Int32) (ms0 : Nat → Int32) (sl0 sr0 : Int32) (ss0 tape0 told0 : Nat → Int32) (r0 c0 h0 o0 n0 : Int32) :
    ∃ (kind' mm' stM' stS' tape' told' : Nat → Int32), f_X7_copy to0 tl0 z0 wn0 k0 m0 ml0 mr0 ms0 sl0 sr0 ss0 tape0 told0 r0 c0 h0 o0 n0 fa fop fp (nI T) (nI tl) z (nI wn) kind mm (nI Lm.length) stM (nI Ls.length) stS tape told (nI R) (nI C) (nI ho) (nI ou) (nI nt) (lf a) (lf (opn eb)) (lf p)
      = some (nI T, nI tl, z, nI wn, kind', mm', nI Lm.length, mr0 + 1, stM', nI Ls.length, sr0 + 1, stS', tape', told', nI R, nI C, nI ho, nI ou, nI nt, lf a, lf (opn eb), lf p) ∧
      ad kind' kN 6 ∧ ad mm' mN 6 ∧ RP stM' Lm ∧ RP stS' Ls ∧ (∀ j, j < 50 → tape' j = tape j) ∧ ∀ j, j < 20 → told' j = told j := by
  obtain ⟨o1, o2, o3, o4, o5, o6, o7, o8, o9, o10, o11, o12, o13, o14, o15, o16⟩ := id hO
  refine ⟨_, _, _, _, _, _, ?_, ad_ext hk (cpy_at kind k0 6), ad_ext hm (cpy_at mm m0 6), RP_ext o15 hRM (cpy_at stM ms0 50), RP_ext o16 hRS (cpy_at stS ss0 50), cpy_at tape tape0 50, cpy_at told told0 20⟩
  unfold f_X7_copy f_X3_copy
  rw [copy_eq hF o5 o6 o9, px_kb8]
  simp only [ch_6, ch_50, ch_20, px_nm, px_kb3, t_6, t_50, t_20, z_0]
theorem m_image (hO : OKp R C ho ou eb nt T tl wn a p kN mN Lm Ls) (hM : MDp R C ho ou eb nt T tl wn a p kN mN Lm Ls z told tape d) {kind mm stM stS : Nat → Int32} (hk : ad kind kN 6) (hm : ad mm mN 6) (hRM : RP stM Lm) (hRS : RP stS Ls) {fa fop fp : Nat → Int32} (hF : SC fa fop fp) (im to0 tl0 z0 wn0 : Int32) (k0 m0 : Nat → Int32) (ml0 mr0 : Int32) (ms0 : Nat → Int32) (sl0 sr0 : Int32) (ss0 tape0 told0 : Nat → Int32) (r0 c0 h0 o0 n0 : Int32) (vk : Nat → Int32) :
    ∃ (y1 y2 y3 y4 : Int32) (k' m' : Nat → Int32) (y5 y6 : Int32) (ms' : Nat → Int32) (y7 y8 : Int32) (ss' tape' told' : Nat → Int32) (y9 y10 y11 y12 y13 : Int32) (fa' fop' fp' vk' : Nat → Int32),
      f_X11_image im to0 tl0 z0 wn0 k0 m0 ml0 mr0 ms0 sl0 sr0 ss0 tape0 told0 r0 c0 h0 o0 n0 fa fop fp (nI T) (nI tl) z (nI wn) kind mm (nI Lm.length) stM (nI Ls.length) stS tape told (nI R) (nI C) (nI ho) (nI ou) (nI nt) (lf a) (lf (opn eb)) (lf p)
        = some (im + 1, im + 1, y1, y2, y3, y4, k', m', y5, y6, ms', y7, y8, ss', tape', told', y9, y10, y11, y12, y13, fa', fop', fp') ∧
      f_X12_image im d vk = some (im + 1, im + 1, vk') ∧ KPc y1 y2 y3 y4 k' m' y5 ms' y7 ss' tape' told' y9 y10 y11 y12 y13 fa' fop' fp' vk' ∧ SC fa' fop' fp' := by
  obtain ⟨kind', mm', stM', stS', tape', told', q1, q2, q3, q4, q5, q6, q7⟩ := copy7 (tape := tape) (told := told) (z := z) hO hk hm hRM hRS hF to0 tl0 z0 wn0 k0 m0 ml0 mr0 ms0 sl0 sr0 ss0 tape0 told0 r0 c0 h0 o0 n0
  obtain ⟨vk', g1, g2, -⟩ := img_run d im 244 gFuel 0 vk (by omega) (by unfold gFuel; omega)
  rw [nI_0] at g1
  obtain ⟨o1, o2, o3, o4, o5, o6, o7, o8, o9, o10, o11, o12, o13, o14, o15, o16⟩ := id hO
  unfold f_X11_image f_X12_image
  rw [q1, px_kb22, px_nm, g1]
  exact ⟨_, _, _, _, _, _, _, _, _, _, _, _, _, _, _, _, _, _, _, _, _, _, vk', rfl, rfl, ⟨R, C, ho, ou, eb, nt, T, tl, wn, a, p, kN, mN, Lm, Ls, hO, MD_ext hM (fun j hj => g2 j (by omega) hj) q7 q6, rfl, rfl, rfl, q2, q3, rfl, q4, rfl, q5, rfl, rfl, rfl, rfl, rfl, rfl, rfl, rfl⟩, ⟨a, p, eb, rfl, rfl, rfl, o9, o5, o6⟩⟩
end RPS
section RP1
theorem m_restore {er fo : Nat → Int32} (hE : EK er fo) {im to tl z wn : Int32} {kind mm : Nat → Int32} {ml : Int32} {stM : Nat → Int32} {sl : Int32} {stS tape told : Nat → Int32} {rows cols holes out night : Int32} {air open_ paste vk : Nat → Int32} (hK : im ≠ 0 → KPc to tl z wn kind mm ml stM sl stS tape told rows cols holes out night air open_ paste vk)
    {fa fop fp : Nat → Int32} (hF : SC fa fop fp) (to0 tl0 z0 wn0 : Int32) (k0 m0 : Nat → Int32) (ml0 mr0 : Int32) (ms0 : Nat → Int32) (sl0 sr0 : Int32) (ss0 tape0 told0 : Nat → Int32) (r0 c0 h0 o0 n0 : Int32) (d : Nat → Int32) :
    (im = 0 ∧ ∃ r er' fo', f_X11_restore im er to tl z wn kind mm ml stM sl stS tape told rows cols holes out night air open_ paste to0 tl0 z0 wn0 k0 m0 ml0 mr0 ms0 sl0 sr0 ss0 tape0 told0 r0 c0 h0 o0 n0 fa fop fp = some (r, er', to0, tl0, z0, wn0, k0, m0, ml0, mr0, ms0, sl0, sr0, ss0, tape0, told0, r0, c0, h0, o0, n0, fa, fop, fp) ∧ f_X12_restore im d fo vk = some (r, d, fo') ∧ EK er' fo') ∨
    (im ≠ 0 ∧ ∃ (R C ho ou eb nt T tl' wn' : Nat) (a p kN mN : Nat → Nat) (Lm Ls : List Int32) (kind' mm' stM' stS' tape' told' d' : Nat → Int32), f_X11_restore im er to tl z wn kind mm ml stM sl stS tape told rows cols holes out night air open_ paste to0 tl0 z0 wn0 k0 m0 ml0 mr0 ms0 sl0 sr0 ss0 tape0 told0 r0 c0 h0 o0 n0 fa fop fp
        = some (nI nt, er, nI T, nI tl', z, nI wn', kind', mm', nI Lm.length, mr0 + 1, stM', nI Ls.length, sr0 + 1, stS', tape', told', nI R, nI C, nI ho, nI ou, nI nt, lf a, lf (opn eb), lf p) ∧
      f_X12_restore im d fo vk = some (nI nt, d', fo) ∧ OKp R C ho ou eb nt T tl' wn' a p kN mN Lm Ls ∧ MDp R C ho ou eb nt T tl' wn' a p kN mN Lm Ls z told' tape' d' ∧ ad kind' kN 6 ∧ ad mm' mN 6 ∧ RP stM' Lm ∧ RP stS' Ls) := by
  by_cases h : im = 0
  · obtain ⟨r2, e2, f2, k1, k2, k3⟩ := err_2 hE
    refine Or.inl ⟨h, r2, e2, f2, ?_, ?_, k3⟩
    · unfold f_X11_restore
      rw [if_pos h, k1, px_kb2]
    · unfold f_X12_restore
      rw [if_pos h, k2, px_kb2]
  · obtain ⟨R, C, ho, ou, eb, nt, T, tl', wn', a, p, kN, mN, Lm, Ls, hO, hM, rfl, rfl, rfl, hk, hm, rfl, hRM, rfl, hRS, rfl, rfl, rfl, rfl, rfl, rfl, rfl, rfl⟩ := hK h
    obtain ⟨kind', mm', stM', stS', tape', told', q1, q2, q3, q4, q5, q6, q7⟩ := copy7 (tape := tape) (told := told) (z := z) hO hk hm hRM hRS hF to0 tl0 z0 wn0 k0 m0 ml0 mr0 ms0 sl0 sr0 ss0 tape0 told0 r0 c0 h0 o0 n0
    obtain ⟨d', g1, g2, -⟩ := rst_run vk fo 244 gFuel 0 d (by omega) (by unfold gFuel; omega)
    rw [nI_0] at g1
    have h5 : d' 5 = nI nt := (g2 5 (by omega) (by omega)).trans hM.2.2.1
    refine Or.inr ⟨h, R, C, ho, ou, eb, nt, T, tl', wn', a, p, kN, mN, Lm, Ls, kind', mm', stM', stS', tape', told', d', ?_, ?_, hO, MD_ext hM (fun j hj => g2 j (by omega) hj) q7 q6, q2, q3, q4, q5⟩
    · unfold f_X11_restore
      rw [if_neg h, q1, px_kb22]
    · unfold f_X12_restore
      rw [if_neg h, g1, h5]
end RP1
