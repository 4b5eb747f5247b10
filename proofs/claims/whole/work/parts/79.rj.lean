/-! the calls: odds, sheets compared -/
section RJ
variable {R C ho ou eb nt T tl wn : Nat} {a p kN mN : Nat → Nat} {Lm Ls : List Int32} {z : Int32} {told tape d er fo : Nat → Int32}

theorem odds_m121 {m : Nat} (hm : m < 5) (a4 vb va vs vf vo vi : Int32) (as d fo mk y sk : Nat → Int32) :
    (chz 4 <| if (nI m - nI m / 4 * 4) = 0 then f_X12_odds_L121 a4 (nI m) 4 vb va vs vf vo vi as d fo mk y sk else if nI m = 2 then f_X12_odds_L121 a4 (nI m) 2 vb va vs vf vo vi as d fo mk y sk else f_X12_odds_L121 a4 (nI m) 1 vb va vs vf vo vi as d fo mk y sk) = some (nI (if a4 = 0 then od1 m else od2 m), vb, va, vs, vf, vo, vi, as, d, fo, mk, y, sk) := by
  have k1 : ∀ m, m < 5 → (nI m - nI m / 4 * 4 = nI (m % 4) ∧ nI m / 4 = nI (m / 4) ∧ nI m / 2 = nI (m / 2) ∧ nI m / 1 = nI m) := by decide +kernel
  obtain ⟨q1, q2, q3, q4⟩ := k1 m hm
  rw [px_chz (by decide), q1]
  unfold f_X12_odds_L121
  rw [px_chz (show ¬ (4 : Int32) = 0 by decide), px_chz (show ¬ (4 : Int32) = 0 by decide), px_chz (show ¬ (2 : Int32) = 0 by decide), px_chz (show ¬ (2 : Int32) = 0 by decide), px_chz (show ¬ (1 : Int32) = 0 by decide), px_chz (show ¬ (1 : Int32) = 0 by decide), q2, q3, q4]
  match m, hm with
  | 0, _ =>
    rw [if_pos (show nI (0 % 4) = 0 from rfl)]
    by_cases h : a4 = 0
    · rw [if_pos h, if_pos h]; rfl
    · rw [if_neg h, if_neg h]; rfl
  | 1, _ =>
    rw [if_neg (show ¬ nI (1 % 4) = 0 by decide), if_neg (show ¬ nI 1 = 2 by decide)]
    by_cases h : a4 = 0
    · rw [if_pos h, if_pos h]; rfl
    · rw [if_neg h, if_neg h]; rfl
  | 2, _ =>
    rw [if_neg (show ¬ nI (2 % 4) = 0 by decide), if_pos (show nI 2 = 2 from rfl)]
    by_cases h : a4 = 0
    · rw [if_pos h, if_pos h]; rfl
    · rw [if_neg h, if_neg h]; rfl
  | 3, _ =>
    rw [if_neg (show ¬ nI (3 % 4) = 0 by decide), if_neg (show ¬ nI 3 = 2 by decide)]
    by_cases h : a4 = 0
    · rw [if_pos h, if_pos h]; rfl
    · rw [if_neg h, if_neg h]; rfl
  | 4, _ =>
    rw [if_pos (show nI (4 % 4) = 0 from rfl)]
    by_cases h : a4 = 0
    · rw [if_pos h, if_pos h]; rfl
    · rw [if_neg h, if_neg h]; rfl
theorem odds_run (hO : OKp R C ho ou eb nt T tl wn a p kN mN Lm Ls) (hM : MDp R C ho ou eb nt T tl wn a p kN mN Lm Ls z told tape d) {rm rs : Nat} {stM stS kind mm : Nat → Int32} (hrm : rm < 10000) (hrs : rs < 10000) (hRM : RP stM Lm) (hRS : RP stS Ls) (hk : ad kind kN 6) (hm : ad mm mN 6) {t c v : Nat} (ht : t < T) (hc : c < R * C) (hv : v < 10000) (a4 : Int32) : ∀ (q f f' w m : Nat) (ansM sM ansS sS : Nat → Int32) (tr tc th tou tn : Int32) (ta top tp : Nat → Int32) (vb va vs vf vo vi : Int32) (as mk names sk : Nat → Int32), w + q = 4 → q < f → q < f' → m ≤ w → CO Lm 10 rm ansM → CO Ls 5 rs ansS → SC ta top tp →
    ∃ (r : Int32) (ansM' sM' ansS' sS' : Nat → Int32) (tr' tc' th' tou' tn' : Int32) (ta' top' tp' : Nat → Int32) (x1 x2 x3 x4 x5 x6 : Int32) (as' mk' y' sk' : Nat → Int32),
      f_X11_odds_L49 (nI t) (nI c) (nI v) a4 10000 2500 (nI T) kind mm (nI Lm.length) (nI 10) (nI rm) stM (nI Ls.length) (nI 5) (nI rs) stS (nI R) (nI C) (nI ho) (nI ou) (nI nt) (lf a) (lf (opn eb)) (lf p) f (nI m) (nI w) er ansM sM ansS sS tr tc th tou tn ta top tp = some (r, er, ansM', sM', ansS', sS', tr', tc', th', tou', tn', ta', top', tp') ∧
      f_X12_odds_L51 (nI t) (nI c) (nI v) a4 0 f' (nI m) (nI w) vb va vs vf vo vi as d fo mk names sk = some (r, x1, x2, x3, x4, x5, x6, as', d, fo, mk', y', sk') ∧ CO Lm 10 rm ansM' ∧ CO Ls 5 rs ansS' ∧ SC ta' top' tp' := by
  obtain ⟨o1, o2, o3, o4, o5, o6, o7, o8, o9, o10, o11, o12, o13, o14, o15, o16⟩ := id hO
  have h25 := RC25 o3 o4
  obtain ⟨h7, h10⟩ := o14 t (by omega)
  have hLM : LC 0 rm Lm stM := ⟨⟨d, hM.2.2.2.2.2.2.2.1⟩, o15, hRM, hrm⟩
  have hLS : LC 1 rs Ls stS := ⟨⟨d, hM.2.2.2.2.2.2.2.2.1⟩, o16, hRS, hrs⟩
  intro q
  induction q with
  | zero =>
    intro f f' w m ansM sM ansS sS tr tc th tou tn ta top tp vb va vs vf vo vi as mk names sk hq hf hf' hmw hCM hCS hT
    obtain ⟨f1, rfl⟩ : ∃ f1, f = f1 + 1 := ⟨f - 1, by omega⟩
    obtain ⟨f2, rfl⟩ : ∃ f1, f' = f1 + 1 := ⟨f' - 1, by omega⟩
    have : w = 4 := by omega
    subst this
    unfold f_X11_odds_L49 f_X12_odds_L51
    rw [if_pos (show (4 : Int32) ≤ nI 4 by decide), if_pos (show (4 : Int32) ≤ nI 4 by decide), odds_fin _ _ _ _ _ _ _ _ _ _ _ _ _ _ (show m < 5 by omega), odds_m121 (show m < 5 by omega)]
    exact ⟨_, ansM, sM, ansS, sS, _, _, _, _, _, _, _, _, _, _, _, _, _, _, _, _, _, _, rfl, rfl, hCM, hCS, hT⟩
  | succ q ih =>
    intro f f' w m ansM sM ansS sS tr tc th tou tn ta top tp vb va vs vf vo vi as mk names sk hq hf hf' hmw hCM hCS hT
    obtain ⟨f1, rfl⟩ : ∃ f1, f = f1 + 1 := ⟨f - 1, by omega⟩
    obtain ⟨f2, rfl⟩ : ∃ f1, f' = f1 + 1 := ⟨f' - 1, by omega⟩
    have hw : w < 4 := by omega
    obtain ⟨a1, s1, q1, q2⟩ := strike_eq (k := kN t) (m := mN t) (w := w) (eb := eb) (paste := p) (stack := sM) hLM hCM o3 o4 h7 h10 hw hc o5.1 o6.1 o7 o8
    rw [strk_air] at q1
    have hok := strkA_ok (k := kN t) (m := mN t) (eb := eb) (g := fun a p => gN Lm a p (mN t)) (paste := p) o3 o4 hw hc o5
    obtain ⟨a2, s2, q3, q4⟩ := shownBy_eq (air := strkA R C (kN t) (mN t) w eb (fun a p => gN Lm a p (mN t)) p c a) hLS o3 o4 ansS sS hCS
    obtain ⟨as1, k1, k2, k3⟩ := keep_m (dep := 0) (by decide) d as
    have k1' : f_X12_keepAside 0 as d = some as1 := k1
    obtain ⟨x1, x2, x3, x4, x5, x6, d1, mk1, y1, e1, hW1, hS1, hK1⟩ := strokes_m (L := Lm) (ik := 0) (mk := mk) (eb := eb) (t := t) o3 o4 h7 h10 hw (by omega) o9 o6.1 vb va vs vf vo vi names (Or.inl rfl) hc hM.1 (hM.2.2.2.2.2.2.1 t (by omega)) hM.2.2.2.2.2.2.2.1 o5.1 o7 o8
    rw [strk_air] at hW1
    obtain ⟨z1, z2, z3, z4, z5, z6, y2, sk1, e2, hS2⟩ := seen_m (ik := 0) (LM_same (by decide) hM.2.2.2.2.2.2.2.2.1 (SW_60 hS1)) hW1 o3 o4 o2 hok.1 (sk := sk) (Or.inl rfl) x1 x2 x3 x4 x5 x6 y1
    have hb : f_X12_putBack 0 as1 d1 = some d := back_m (dep := 0) (by decide) k2 (SW_60 hS1)
    have hsl := shownN_le Ls o3 o4 (strkA R C (kN t) (mN t) w eb (fun a p => gN Lm a p (mN t)) p c a)
    have hT1 : SC (lf (strkA R C (kN t) (mN t) w eb (fun a p => gN Lm a p (mN t)) p c a)) (lf (opn eb)) (lf p) := ⟨_, p, eb, rfl, rfl, rfl, o9, hok, o6⟩
    unfold f_X11_odds_L49 f_X12_odds_L51 f_X12_odds_L85
    rw [if_neg (show ¬ (4 : Int32) ≤ nI w from nI_ge (b := 4) hw (by decide)), if_neg (show ¬ (4 : Int32) ≤ nI w from nI_ge (b := 4) hw (by decide)), copy_eq hT o5 o6 o9, px_kb8, kindOf_c o11 ht hk h7, px_kb, px_in (show t < 6 by omega) (by decide), px_nm, nI_clamp (n := t) (by omega), hm t (by omega), q1, px_kb5, q3, px_kb3, k1', px_kb, e1, px_kb9, e2, px_kb9, hb]
    by_cases hlt : v < shownN Ls R C (strkA R C (kN t) (mN t) w eb (fun a p => gN Lm a p (mN t)) p c a)
    · rw [if_pos (nI_lt hlt (by omega)), if_pos (nI_lt hlt (by omega))]
      simp only [px_nm, px_kb, nI_1, show nI m + 0 = nI m from nI_add m 0]
      exact ih f1 f2 (w + 1) m a1 s1 a2 s2 _ _ _ _ _ _ _ _ z1 z2 z3 z4 z5 z6 as1 mk1 y2 sk1 (by omega) (by omega) (by omega) (by omega) q2 q4 hT1
    · rw [if_neg (nI_nlt (by omega) (by omega)), if_neg (nI_nlt (by omega) (by omega))]
      simp only [px_nm, px_kb, nI_1]
      exact ih f1 f2 (w + 1) (m + 1) a1 s1 a2 s2 _ _ _ _ _ _ _ _ z1 z2 z3 z4 z5 z6 as1 mk1 y2 sk1 (by omega) (by omega) (by omega) (by omega) q2 q4 hT1
theorem m_odds (hO : OKp R C ho ou eb nt T tl wn a p kN mN Lm Ls) (hM : MDp R C ho ou eb nt T tl wn a p kN mN Lm Ls z told tape d) (hE : EK er fo) {rm rs : Nat} {stM stS ansM ansS : Nat → Int32} (hrm : rm < 10000) (hrs : rs < 10000) (hRM : RP stM Lm) (hRS : RP stS Ls) (hCM : CO Lm 10 rm ansM) (hCS : CO Ls 5 rs ansS) {kind mm : Nat → Int32} (hk : ad kind kN 6) (hm : ad mm mN 6) {ta top tp : Nat → Int32} (hT : SC ta top tp) (x y v w : Int32) (tr tc th tou tn : Int32) (sM sS : Nat → Int32) (vb va vs vf vo vi : Int32) (as mk names sk : Nat → Int32) :
    ∃ (r : Int32) (er' fo' ansM' sM' ansS' sS' : Nat → Int32) (tr' tc' th' tou' tn' : Int32) (ta' top' tp' : Nat → Int32) (x1 x2 x3 x4 x5 x6 : Int32) (as' mk' y' sk' : Nat → Int32),
      f_X11_odds x y v w 10000 2500 er (nI T) kind mm (nI Lm.length) (nI 10) (nI rm) ansM sM stM (nI Ls.length) (nI 5) (nI rs) ansS sS stS (nI R) (nI C) (nI ho) (nI ou) (nI nt) (lf a) (lf (opn eb)) (lf p) tr tc th tou tn ta top tp = some (r, er', ansM', sM', ansS', sS', tr', tc', th', tou', tn', ta', top', tp') ∧
      f_X12_odds x y v w vb va vs vf vo vi 0 as d fo mk names sk = some (r, x1, x2, x3, x4, x5, x6, as', d, fo', mk', y', sk') ∧ EK er' fo' ∧ CO Lm 10 rm ansM' ∧ CO Ls 5 rs ansS' ∧ SC ta' top' tp' := by
  obtain ⟨o1, o2, o3, o4, o5, o6, o7, o8, o9, o10, o11, o12, o13, o14, o15, o16⟩ := id hO
  have h25 := RC25 o3 o4
  obtain ⟨r, e', f', g1, g2, g3⟩ := err_1 hE
  have ec : f_X11_odds_L37 er ansM sM ansS sS tr tc th tou tn ta top tp = some (r, e', ansM, sM, ansS, sS, tr, tc, th, tou, tn, ta, top, tp) := by unfold f_X11_odds_L37; rw [g1, px_kb2]
  have em : f_X12_odds_L39 vb va vs vf vo vi as d fo mk names sk = some (r, vb, va, vs, vf, vo, vi, as, d, f', mk, names, sk) := by unfold f_X12_odds_L39; rw [g2, px_kb2]
  have bad : ∃ (r : Int32) (er' fo' ansM' sM' ansS' sS' : Nat → Int32) (tr' tc' th' tou' tn' : Int32) (ta' top' tp' : Nat → Int32) (x1 x2 x3 x4 x5 x6 : Int32) (as' mk' y' sk' : Nat → Int32),
      f_X11_odds_L37 er ansM sM ansS sS tr tc th tou tn ta top tp = some (r, er', ansM', sM', ansS', sS', tr', tc', th', tou', tn', ta', top', tp') ∧
      f_X12_odds_L39 vb va vs vf vo vi as d fo mk names sk = some (r, x1, x2, x3, x4, x5, x6, as', d, fo', mk', y', sk') ∧ EK er' fo' ∧ CO Lm 10 rm ansM' ∧ CO Ls 5 rs ansS' ∧ SC ta' top' tp' := by
    rw [ec, em]
    exact ⟨r, e', f', ansM, sM, ansS, sS, _, _, _, _, _, _, _, _, _, _, _, _, _, _, _, _, _, _, rfl, rfl, g3, hCM, hCS, hT⟩
  unfold f_X11_odds f_X12_odds
  rw [isTool_c x o11, isTool_m x hM.2.1 o11, px_kb, px_kb, isCell_c y o3 o4, isCell_m y hM.1 o3 o4, px_kb, px_kb, show f_X11_within v 0 9999 = some (bI v 10000) from within_n v 9999 (by decide), in_n v 9999 9999 (by decide) (by decide), px_kb, px_kb, wi_1, in_1, px_kb, px_kb]
  by_cases hx : vp_in x T
  · obtain ⟨t, ht, rfl⟩ := vp_in_of hx (by omega)
    rw [bI_in hx, i10, i10]
    by_cases hy : vp_in y (R * C)
    · obtain ⟨c, hc, rfl⟩ := vp_in_of hy (by omega)
      rw [bI_in hy, i10, i10]
      by_cases hv : vp_in v 10000
      · obtain ⟨n, hn, rfl⟩ := vp_in_of hv (by decide)
        rw [bI_in hv, i10, i10]
        by_cases hw : vp_in w 2
        · rw [bI_in hw, i10, i10]
          obtain ⟨r, aM, sM', aS, sS', tr', tc', th', tou', tn', ta', top', tp', x1, x2, x3, x4, x5, x6, as', mk', y', sk', q1, q2, q3, q4, q5⟩ := odds_run (er := er) (fo := fo) hO hM hrm hrs hRM hRS hk hm ht hc hn w 4 gFuel gFuel 0 0 ansM sM ansS sS tr tc th tou tn ta top tp vb va vs vf vo vi as mk names sk (by omega) (by unfold gFuel; omega) (by unfold gFuel; omega) (by omega) hCM hCS hT
          exact ⟨r, er, fo, aM, sM', aS, sS', tr', tc', th', tou', tn', ta', top', tp', x1, x2, x3, x4, x5, x6, as', mk', y', sk', q1, q2, hE, q3, q4, q5⟩
        · rw [bI_out hw, i00, i00]; exact bad
      · rw [bI_out hv, i00, i00]; exact bad
    · rw [bI_out hy, i00, i00]; exact bad
  · rw [bI_out hx, i00, i00]; exact bad
end RJ
