/-! the calls: check -/
section RQ0
variable {R C ho ou eb T tl wn : Nat} {kN mN : Nat → Nat} {Lm Ls : List Int32} {z : Int32} {told tape d0 as : Nat → Int32}
theorem check_run (hR : R < 6) (hC : C < 6) (he : eb < 16) (hw : wn ≤ 20) (hk : ∀ j, j < 60 → as (60 * 0 + j) = d0 j) : ∀ (q f f' i nt : Nat) (a p : Nat → Nat) (d : Nat → Int32), i + q = wn → q < f → q + 1 < f' → AirOK a → PasteOK p → MDp R C ho ou eb nt T tl 0 a p kN mN Lm Ls z told tape d → (∀ j, 60 ≤ j → d j = d0 j) →
    ∃ (r n' : Int32) (a' p' : Nat → Nat), f_X11_check_L32 told f (nI wn) (nI i) 0 (nI R) (nI C) (nI ho) (nI ou) (nI nt) (lf a) (lf (opn eb)) (lf p) = some (r, 0, nI R, nI C, nI ho, nI ou, n', lf a', lf (opn eb), lf p') ∧ f_X12_check_L25 f' (nI wn) 0 (nI i) as d = some (r, as, d0) ∧ AirOK a' ∧ PasteOK p' := by
  intro q
  induction q with
  | zero =>
    intro f f' i nt a p d hq hf hf' hA hP hM hd
    obtain ⟨f1, rfl⟩ : ∃ f1, f = f1 + 1 := ⟨f - 1, by omega⟩
    obtain ⟨f2, rfl⟩ : ∃ f1, f' = f1 + 1 := ⟨f' - 1, by omega⟩
    have : i = wn := by omega
    subst this
    have hb := back_m (dep := 0) (by decide) hk hd
    rw [nI_0] at hb
    unfold f_X11_check_L32 f_X12_check_L25 f_X12_check_L68
    rw [if_pos (show nI i ≤ nI i from Int32.le_refl _), if_pos (show nI i ≤ nI i from Int32.le_refl _), hb, px_kb]
    exact ⟨0, nI nt, a, p, rfl, rfl, hA, hP⟩
  | succ q ih =>
    intro f f' i nt a p d hq hf hf' hA hP hM hd
    obtain ⟨f1, rfl⟩ : ∃ f1, f = f1 + 1 := ⟨f - 1, by omega⟩
    obtain ⟨f2, rfl⟩ : ∃ f1, f' = f1 + 2 := ⟨f' - 2, by omega⟩
    obtain ⟨d2, n1, n2, n3⟩ := night_m hR hC hA hP hM
    have hd2 : ∀ j, 60 ≤ j → d2 j = d0 j := fun j hj => (n3 j hj).trans (hd j hj)
    have htd : d2 (74 + i) = told i := n2.2.2.2.2.2.2.2.2.2.1 i (by omega)
    have hb := back_m (dep := 0) (by decide) hk hd2
    rw [nI_0] at hb
    have e74 : (74 : Int32) + nI i = nI (74 + i) := nI_add 74 _
    unfold f_X11_check_L32
    rw [f_X12_check_L25, if_neg (nI_ge (a := i) (b := wn) (by omega) (by omega)), if_neg (nI_ge (a := i) (b := wn) (by omega) (by omega)), if_neg (show ¬ (20 : Int32) ≤ nI i from nI_ge (b := 20) (by omega) (by decide)), pass_c hR hC hA hP, px_kb3, if_pos (show (0 : Int32) = 0 from Eq.trans rfl rfl), n1, px_kb, all_c hR hC, all_m n2.1 hR hC]
    simp only [px_in (show i < 20 by omega) (show 20 < 2 ^ 31 by decide), px_nm, nI_clamp (show i < 2 ^ 31 by omega), px_kb, e74, ch_d (show 74 + i < 244 by omega), nI_clamp (show 74 + i < 2 ^ 31 by omega), htd, nI_1]
    by_cases h : told i = nI (sumN (nA a p (R * C)) (R * C))
    · rw [if_pos h, if_pos h]
      exact ih f1 (f2 + 1) (i + 1) (nt + 1) _ _ d2 (by omega) (by omega) (by omega) (nA_ok hA _) (nP_ok hP _) n2 hd2
    · rw [if_neg h, if_neg h, show (1 : Int32) + nI i = nI (1 + i) from nI_add 1 i]
      refine ⟨nI (1 + i), _, _, _, rfl, ?_, nA_ok hA _, nP_ok hP _⟩
      unfold f_X12_check_L25 f_X12_check_L68
      rw [hb, px_kb]
      by_cases h2 : nI wn ≤ nI (i + 1)
      · rw [if_pos h2]
      · rw [if_neg h2, if_neg (show ¬ nI (1 + i) = 0 from nI_ne (c := 0) (by omega) (by decide) (by omega))]
end RQ0
section RQ
variable {R C ho ou eb nt T tl wn : Nat} {a p kN mN : Nat → Nat} {Lm Ls : List Int32} {z : Int32} {told tape d er fo : Nat → Int32}

theorem m_check (hO : OKp R C ho ou eb nt T tl wn a p kN mN Lm Ls) (hM : MDp R C ho ou eb nt T tl wn a p kN mN Lm Ls z told tape d) {ta top tp : Nat → Int32} (hT : SC ta top tp) (tr tc th tou tn : Int32) (as : Nat → Int32) :
    ∃ (r tr' tc' th' tou' tn' : Int32) (ta' top' tp' as' d' : Nat → Int32), f_X11_check (nI wn) told (nI R) (nI C) (nI ho) (nI ou) (nI nt) (lf a) (lf (opn eb)) (lf p) tr tc th tou tn ta top tp = some (r, nI 0, tr', tc', th', tou', tn', ta', top', tp') ∧ f_X12_check as d = some (r, as', d') ∧ SC ta' top' tp' ∧
      OKp R C ho ou eb nt T tl 0 a p kN mN Lm Ls ∧ MDp R C ho ou eb nt T tl 0 a p kN mN Lm Ls z told tape d' := by
  obtain ⟨o1, o2, o3, o4, o5, o6, o7, o8, o9, o10, o11, o12, o13, o14, o15, o16⟩ := id hO
  have h8 := hM.2.2.2.2.2.1
  have hn : ∀ j, j ≠ 8 → upd d 8 0 j = d j := fun j hj => if_neg hj
  have hM2 : MDp R C ho ou eb nt T tl 0 a p kN mN Lm Ls z told tape (upd d 8 0) := MD_low hM ((hn 5 (by omega)).trans hM.2.2.1) ((hn 6 (by omega)).trans hM.2.2.2.1) ((hn 7 (by omega)).trans hM.2.2.2.2.1) (if_pos rfl) (fun j hj => hn j (by omega))
  obtain ⟨as1, k1, k2, k3⟩ := keep_m (dep := 0) (by decide) (upd d 8 0) as
  rw [nI_0] at k1
  obtain ⟨r, n', a', p', q1, q2, q3, q4⟩ := check_run o3 o4 o9 o13 k2 wn gFuel gFuel 0 nt a p (upd d 8 0) (by omega) (by unfold gFuel; omega) (by unfold gFuel; omega) o5 o6 hM2 (fun _ _ => rfl)
  rw [nI_0] at q1 q2
  refine ⟨r, nI R, nI C, nI ho, nI ou, n', lf a', lf (opn eb), lf p', as1, upd d 8 0, ?_, ?_, ⟨a', p', eb, rfl, rfl, rfl, o9, q3, q4⟩, ⟨o1, o2, o3, o4, o5, o6, o7, o8, o9, o10, o11, o12, by omega, o14, o15, o16⟩, hM2⟩
  · unfold f_X11_check
    rw [copy_eq hT o5 o6 o9, px_kb8, nI_0]
    exact q1
  · unfold f_X12_check
    simp only [c_8, z_8, px_nm, h8, k1, px_kb]
    exact q2
end RQ
