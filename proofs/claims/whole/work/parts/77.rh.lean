/-! the calls: tools told, best strokes, odds, days -/
section RH
variable {R C ho ou eb nt T tl wn : Nat} {a p kN mN : Nat → Nat} {Lm Ls : List Int32} {z : Int32} {told tape d er fo : Nat → Int32}

theorem MA_of (hO : OKp R C ho ou eb nt T tl wn a p kN mN Lm Ls) (hM : MDp R C ho ou eb nt T tl wn a p kN mN Lm Ls z told tape d) {t : Nat} (ht : t < 6) : MA Lm Ls R C (kN t) (mN t) eb t ho ou a p d := by
  obtain ⟨o1, o2, o3, o4, o5, o6, o7, o8, o9, o10, o11, o12, o13, o14, o15, o16⟩ := hO
  exact ⟨o1, o2, o3, o4, (o14 t ht).1, (o14 t ht).2, ht, o9, o6, o5, o7, o8, hM.1, hM.2.2.2.2.2.2.1 t ht, hM.2.2.2.2.2.2.2.1, hM.2.2.2.2.2.2.2.2.1⟩
theorem m_best (hO : OKp R C ho ou eb nt T tl wn a p kN mN Lm Ls) (hM : MDp R C ho ou eb nt T tl wn a p kN mN Lm Ls z told tape d) (hE : EK er fo) {rm rs : Nat} {stM stS ansM ansS : Nat → Int32} (hrm : rm < 10000) (hrs : rs < 10000) (hRM : RP stM Lm) (hRS : RP stS Ls) (hCM : CO Lm 10 rm ansM) (hCS : CO Ls 5 rs ansS) {kind mm : Nat → Int32} (hk : ad kind kN 6) (hm : ad mm mN 6) {fa fop fp : Nat → Int32} (hF : SC fa fop fp) (x y : Int32) (fr fc fh fou fn : Int32) (sM sS : Nat → Int32) (vb va vs vf vo vi bs : Int32) (as mk names sk : Nat → Int32) :
    ∃ (r : Int32) (er' fo' ansM' sM' ansS' sS' : Nat → Int32) (fr' fc' fh' fou' fn' : Int32) (fa' fop' fp' : Nat → Int32) (x1 x2 x3 x4 x5 x6 x7 : Int32) (as' mk' y' sk' : Nat → Int32),
      f_X11_best x y 10000 2500 er fr fc fh fou fn fa fop fp (nI T) kind mm (nI Lm.length) (nI 10) (nI rm) ansM sM stM (nI Ls.length) (nI 5) (nI rs) ansS sS stS (nI R) (nI C) (nI ho) (nI ou) (nI nt) (lf a) (lf (opn eb)) (lf p) = some (r, er', fr', fc', fh', fou', fn', fa', fop', fp', ansM', sM', ansS', sS') ∧
      f_X12_best x y vb va vs vf vo vi 0 bs as d fo mk names sk = some (r, x1, x2, x3, x4, x5, x6, x7, as', d, fo', mk', y', sk') ∧ EK er' fo' ∧ CO Lm 10 rm ansM' ∧ CO Ls 5 rs ansS' ∧ SC fa' fop' fp' := by
  obtain ⟨o1, o2, o3, o4, o5, o6, o7, o8, o9, o10, o11, o12, o13, o14, o15, o16⟩ := id hO
  have h25 := RC25 o3 o4
  have h1c : 1 ≤ R * C := Nat.mul_pos o1 o2
  obtain ⟨r, e', f', g1, g2, g3⟩ := err_1 hE
  have ec : f_X11_best_L17 er fr fc fh fou fn fa fop fp ansM sM ansS sS = some (r, e', fr, fc, fh, fou, fn, fa, fop, fp, ansM, sM, ansS, sS) := by unfold f_X11_best_L17; rw [g1, px_kb2]
  have em : f_X12_best_L18 vb va vs vf vo vi bs as d fo mk names sk = some (r, vb, va, vs, vf, vo, vi, bs, as, d, f', mk, names, sk) := by unfold f_X12_best_L18; rw [g2, px_kb2]
  unfold f_X11_best f_X12_best
  rw [isTool_c x o11, isTool_m x hM.2.1 o11, px_kb, px_kb, wi_1, in_1, px_kb, px_kb]
  by_cases hx : vp_in x T
  · obtain ⟨t, ht, rfl⟩ := vp_in_of hx (by omega)
    rw [bI_in hx, i10, i10]
    by_cases hy : vp_in y 2
    · obtain ⟨h7, h10⟩ := o14 t (by omega)
      have hLM : LC 0 rm Lm stM := ⟨⟨d, hM.2.2.2.2.2.2.2.1⟩, o15, hRM, hrm⟩
      have hLS : LC 1 rs Ls stS := ⟨⟨d, hM.2.2.2.2.2.2.2.2.1⟩, o16, hRS, hrs⟩
      obtain ⟨fh1, fo1, fa1, aM1, sM1, aS1, sS1, q1, q2, q3, q4, q5, q6⟩ := bestFrom_eq (eb := eb) hLM hLS o3 o4 h7 h10 o6 o5 o9 o7 o8 (nI nt) hF hCM hCS fr fc fh fou fn sM sS
      obtain ⟨x1, x2, x3, x4, x5, x6, as1, mk1, y1, sk1, k1, k2, k3, k4⟩ := bestOf_m (dep := 0) (ik := 0) (MA_of hO hM (t := t) (by omega)) (by decide) vb va vs vf vo vi bs as names (mk := mk) (sk := sk) (Or.inl rfl) (Or.inl rfl)
      rw [nI_0] at k1
      obtain ⟨p0, p1⟩ := part_eq (V := Vs Lm Ls R C (kN t) (mN t) eb p a) (n := 4 * (R * C)) (Vs_le o3 o4) (by omega) (by omega)
      rw [bI_in hy, i10, i10, kindOf_c o11 ht hk h7, px_kb, px_in (show t < 6 by omega) (by decide), px_nm, nI_clamp (n := t) (by omega), hm t (by omega), q1, px_kb13, k1, px_kb13]
      by_cases hz : y = 0
      · subst hz
        rw [p0, px_kb, if_pos rfl]
        exact ⟨_, er, fo, _, _, _, _, _, _, _, _, _, _, _, _, _, _, _, _, _, _, _, _, _, _, _, rfl, rfl, hE, q5, q6, ⟨fa1, p, eb, rfl, rfl, rfl, o9, q4, o6⟩⟩
      · rw [p1 y hz, px_kb, if_neg hz]
        exact ⟨_, er, fo, _, _, _, _, _, _, _, _, _, _, _, _, _, _, _, _, _, _, _, _, _, _, _, rfl, rfl, hE, q5, q6, ⟨fa1, p, eb, rfl, rfl, rfl, o9, q4, o6⟩⟩
    · rw [bI_out hy, i00, i00, ec, em]
      exact ⟨r, e', f', ansM, sM, ansS, sS, _, _, _, _, _, _, _, _, _, _, _, _, _, _, _, _, _, _, _, rfl, rfl, g3, hCM, hCS, hF⟩
  · rw [bI_out hx, i00, i00, ec, em]
    exact ⟨r, e', f', ansM, sM, ansS, sS, _, _, _, _, _, _, _, _, _, _, _, _, _, _, _, _, _, _, _, rfl, rfl, g3, hCM, hCS, hF⟩
theorem m_bestTwo (hO : OKp R C ho ou eb nt T tl wn a p kN mN Lm Ls) (hM : MDp R C ho ou eb nt T tl wn a p kN mN Lm Ls z told tape d) (hE : EK er fo) {rm rs : Nat} {stM stS ansM ansS : Nat → Int32} (hrm : rm < 10000) (hrs : rs < 10000) (hRM : RP stM Lm) (hRS : RP stS Ls) (hCM : CO Lm 10 rm ansM) (hCS : CO Ls 5 rs ansS) {kind mm : Nat → Int32} (hk : ad kind kN 6) (hm : ad mm mN 6) {fa fop fp ta top tp : Nat → Int32} (hF : SC fa fop fp) (hT : SC ta top tp) (x y : Int32) (fr fc fh fou fn tr tc th tou tn : Int32) (sM sS : Nat → Int32) (vb va vs vf vo vi bs : Int32) (as mk names sk : Nat → Int32) :
    ∃ (r : Int32) (er' fo' ansM' sM' ansS' sS' : Nat → Int32) (fr' fc' fh' fou' fn' : Int32) (fa' fop' fp' : Nat → Int32) (tr' tc' th' tou' tn' : Int32) (ta' top' tp' : Nat → Int32) (x1 x2 x3 x4 x5 x6 x7 : Int32) (as' mk' y' sk' : Nat → Int32),
      f_X11_bestTwo x y 10000 2500 er fr fc fh fou fn fa fop fp (nI T) kind mm (nI Lm.length) (nI 10) (nI rm) ansM sM stM (nI Ls.length) (nI 5) (nI rs) ansS sS stS (nI R) (nI C) (nI ho) (nI ou) (nI nt) (lf a) (lf (opn eb)) (lf p) tr tc th tou tn ta top tp = some (r, er', fr', fc', fh', fou', fn', fa', fop', fp', ansM', sM', ansS', sS', tr', tc', th', tou', tn', ta', top', tp') ∧
      f_X12_bestTwo x y vb va vs vf vo vi 0 bs as d fo mk names sk = some (r, x1, x2, x3, x4, x5, x6, 0, x7, as', d, fo', mk', y', sk') ∧ EK er' fo' ∧ CO Lm 10 rm ansM' ∧ CO Ls 5 rs ansS' ∧ SC fa' fop' fp' ∧ SC ta' top' tp' := by
  obtain ⟨o1, o2, o3, o4, o5, o6, o7, o8, o9, o10, o11, o12, o13, o14, o15, o16⟩ := id hO
  have h25 := RC25 o3 o4
  have h1c : 1 ≤ R * C := Nat.mul_pos o1 o2
  obtain ⟨r, e', f', g1, g2, g3⟩ := err_1 hE
  have ec : f_X11_bestTwo_L17 er fr fc fh fou fn fa fop fp ansM sM ansS sS tr tc th tou tn ta top tp = some (r, e', fr, fc, fh, fou, fn, fa, fop, fp, ansM, sM, ansS, sS, tr, tc, th, tou, tn, ta, top, tp) := by unfold f_X11_bestTwo_L17; rw [g1, px_kb2]
  have em : f_X12_bestTwo_L18 vb va vs vf vo vi 0 bs as d fo mk names sk = some (r, vb, va, vs, vf, vo, vi, 0, bs, as, d, f', mk, names, sk) := by unfold f_X12_bestTwo_L18; rw [g2, px_kb2]
  unfold f_X11_bestTwo f_X12_bestTwo
  rw [isTool_c x o11, isTool_m x hM.2.1 o11, px_kb, px_kb, wi_1, in_1, px_kb, px_kb]
  by_cases hx : vp_in x T
  · obtain ⟨t, ht, rfl⟩ := vp_in_of hx (by omega)
    rw [bI_in hx, i10, i10]
    by_cases hy : vp_in y 2
    · obtain ⟨h7, h10⟩ := o14 t (by omega)
      have hLM : LC 0 rm Lm stM := ⟨⟨d, hM.2.2.2.2.2.2.2.1⟩, o15, hRM, hrm⟩
      have hLS : LC 1 rs Ls stS := ⟨⟨d, hM.2.2.2.2.2.2.2.2.1⟩, o16, hRS, hrs⟩
      obtain ⟨r2, fr', fc', fh', fo', fn', fa', fop', fp', aM', sM', aS', sS', tr', tc', th', to', tn', ta', top', tp', q1, q2, q3, q4, q5, q6⟩ := two_out (eb := eb) (errs := er) (a2 := y) (night := nI nt) hLM hLS o1 o2 o3 o4 h7 h10 o6 o5 o9 o7 o8 (R * C) gFuel 0 fr fc fh fou fn fa fop fp ansM sM ansS sS tr tc th tou tn ta top tp (by omega) (by unfold gFuel; omega) hF hT hCM hCS
      obtain ⟨mk0, sk0, n1, n2, n3⟩ := fresh_7 2500 gFuel 0 1 mk sk (by omega) (by unfold gFuel; omega) (fun i hi => absurd hi (by omega))
      obtain ⟨x1, x2, x3, x4, x5, x6, x7, as1, mk1, y1, sk1, k1⟩ := ot_out (a2 := y) (ik := 1) (found := fo) (MA_of hO hM (t := t) (by omega)) (R * C) gFuel 0 vb va vs vf vo vi bs as mk0 names sk0 (by omega) (by unfold gFuel; omega) (Or.inr fun i hi => Or.inl (n2 i hi)) (Or.inr fun i hi => Or.inl (n3 i hi))
      have n1' : f_X12_keepsAnew 0 mk sk = some (1, mk0, sk0) := n1
      have q1' : f_X11_bestTwo_L59 y 10000 2500 (nI Lm.length) (nI 10) (nI rm) stM (nI Ls.length) (nI 5) (nI rs) stS (nI R) (nI C) (nI ho) (nI ou) (nI nt) (lf a) (lf (opn eb)) (lf p) gFuel (nI (kN t)) (nI (mN t)) (nI (R * C)) 2147483647 0 er fr fc fh fou fn fa fop fp ansM sM ansS sS tr tc th tou tn ta top tp = some (r2, er, fr', fc', fh', fo', fn', fa', fop', fp', aM', sM', aS', sS', tr', tc', th', to', tn', ta', top', tp') := q1
      have k1' : f_X12_bestTwo_L36 (nI t) y gFuel (-1) 0 0 vb va vs vf vo vi 1 bs as d fo mk0 names sk0 = some (nI (if y = 0 then (bestN (V2 Lm Ls R C (kN t) (mN t) eb p a) (4 * (R * C))).1 else (bestN (V2 Lm Ls R C (kN t) (mN t) eb p a) (4 * (R * C))).2), x1, x2, x3, x4, x5, x6, 0, x7, as1, d, fo, mk1, y1, sk1) := k1
      unfold f_X10_cells
      rw [bI_in hy, i10, i10, kindOf_c o11 ht hk h7, px_kb, px_in (show t < 6 by omega) (by decide), px_nm, nI_clamp (n := t) (by omega), hm t (by omega), px_kb, pk_mul, q1', n1', px_kb3, k1', q2]
      exact ⟨_, er, fo, _, _, _, _, _, _, _, _, _, _, _, _, _, _, _, _, _, _, _, _, _, _, _, _, _, _, _, _, _, _, _, rfl, rfl, hE, q5, q6, q3, q4⟩
    · rw [bI_out hy, i00, i00, ec, em]
      exact ⟨r, e', f', ansM, sM, ansS, sS, _, _, _, _, _, _, _, _, _, _, _, _, _, _, _, _, _, _, _, _, _, _, _, _, _, _, _, rfl, rfl, g3, hCM, hCS, hF, hT⟩
  · rw [bI_out hx, i00, i00, ec, em]
    exact ⟨r, e', f', ansM, sM, ansS, sS, _, _, _, _, _, _, _, _, _, _, _, _, _, _, _, _, _, _, _, _, _, _, _, _, _, _, _, rfl, rfl, g3, hCM, hCS, hF, hT⟩
theorem m_ofTool (hO : OKp R C ho ou eb nt T tl wn a p kN mN Lm Ls) (hM : MDp R C ho ou eb nt T tl wn a p kN mN Lm Ls z told tape d) (hE : EK er fo) {rm rs : Nat} {stM stS ansM ansS : Nat → Int32} (hrm : rm < 10000) (hrs : rs < 10000) (hRM : RP stM Lm) (hRS : RP stS Ls) (hCM : CO Lm 10 rm ansM) (hCS : CO Ls 5 rs ansS) {kind mm : Nat → Int32} (hk : ad kind kN 6) (hm : ad mm mN 6) (x y : Int32) (sM : Nat → Int32) (vb va vs vf vo vi : Int32) (mk names : Nat → Int32) :
    ∃ (r : Int32) (er' fo' ansM' sM' : Nat → Int32) (x1 x2 x3 x4 x5 x6 : Int32) (mk' y' : Nat → Int32), f_X11_ofTool x y 10000 er (nI T) kind mm (nI Lm.length) (nI 10) (nI rm) ansM sM stM = some (r, er', ansM', sM') ∧ f_X12_ofTool x y vb va vs vf vo vi 0 d fo mk names = some (r, x1, x2, x3, x4, x5, x6, fo', mk', y') ∧ EK er' fo' ∧ CO Lm 10 rm ansM' := by
  obtain ⟨o1, o2, o3, o4, o5, o6, o7, o8, o9, o10, o11, o12, o13, o14, o15, o16⟩ := id hO
  obtain ⟨r, e', f', g1, g2, g3⟩ := err_1 hE
  have em : f_X12_ofTool_L20 vb va vs vf vo vi fo mk names = some (r, vb, va, vs, vf, vo, vi, f', mk, names) := by unfold f_X12_ofTool_L20; rw [g2, px_kb2]
  unfold f_X11_ofTool f_X12_ofTool
  rw [isTool_c x o11, isTool_m x hM.2.1 o11, px_kb, px_kb, in_n y 6 6 (by decide) (by decide), px_kb, g1]
  by_cases hx : vp_in x T
  · obtain ⟨t, ht, rfl⟩ := vp_in_of hx (by omega)
    obtain ⟨h7, h10⟩ := o14 t (by omega)
    have hMT := hM.2.2.2.2.2.2.1 t (by omega)
    obtain ⟨u1, u2⟩ := kindOf_m hMT (show t < 6 by omega)
    rw [bI_in hx, i10, i10, kindOf_c o11 ht hk h7, px_kb, px_in (show t < 6 by omega) (by decide), px_nm, nI_clamp (n := t) (by omega), hm t (by omega)]
    by_cases hy : vp_in y 7
    · obtain ⟨k, hkk, rfl⟩ := vp_in_of hy (by decide)
      rw [bI_in hy, i10]
      match k, hkk with
      | 0, _ =>
        rw [if_pos (show nI 0 = 0 from rfl), if_pos (show nI 0 = 0 from rfl), u1, px_kb, px_in (show t < 6 by omega) (by decide), hk t (by omega)]
        exact ⟨_, er, fo, ansM, sM, _, _, _, _, _, _, _, _, rfl, rfl, hE, hCM⟩
      | 1, _ =>
        rw [if_neg (show ¬ nI 1 = 0 by decide), if_neg (show ¬ nI 1 = 0 by decide), if_pos (show nI 1 = 1 from rfl), if_pos (show nI 1 = 1 from rfl), u2, px_kb]
        exact ⟨_, er, fo, ansM, sM, _, _, _, _, _, _, _, _, rfl, rfl, hE, hCM⟩
      | 2, _ =>
        rw [if_neg (show ¬ nI 2 = 0 by decide), if_neg (show ¬ nI 2 = 0 by decide), if_neg (show ¬ nI 2 = 1 by decide), if_neg (show ¬ nI 2 = 1 by decide), if_pos (show nI 2 = 2 from rfl), if_pos (show nI 2 = 2 from rfl), reach_all _ h7 _ h10, reach_m hMT (by omega) h7 h10, px_kb, px_kb]
        exact ⟨_, er, fo, ansM, sM, _, _, _, _, _, _, _, _, rfl, rfl, hE, hCM⟩
      | 3, _ =>
        have hLM : LC 0 rm Lm stM := ⟨⟨d, hM.2.2.2.2.2.2.2.1⟩, o15, hRM, hrm⟩
        obtain ⟨a1, s1, q1, q2⟩ := gives_N hLM hCM 20 5 (mN t) sM
        have hgl := (gN_eq Lm 20 5 (mN t)).2
        obtain ⟨v, v1, v2⟩ := moves_all (k := kN t) (a := 20) (g := gN Lm 20 5 (mN t)) (m := mN t) h7 (by decide) (by omega) h10
        obtain ⟨x1, x2, x3, x4, x5, x6, mk', y', q3, q4⟩ := moves_m (ik := 0) (mk := mk) hM.2.2.2.2.2.2.2.1 hMT (by omega) h7 h10 (Or.inl rfl) (a := 20) (p := 5) (by decide) (by decide) vb va vs vf vo vi names
        have q1' : f_X3_gives 20 5 (nI (mN t)) 10000 (nI Lm.length) (nI 10) (nI rm) ansM sM stM = some (nI (gN Lm 20 5 (mN t)), a1, s1) := q1
        have v1' : f_TD_moves (nI (kN t)) 20 (nI (gN Lm 20 5 (mN t))) (nI (mN t)) = some v := v1
        have v2' : (if v < 20 then v else 20) = nI (movesN (kN t) 20 (gN Lm 20 5 (mN t)) (mN t)) := v2
        have q3' : f_X12_movesOf (nI t) 20 5 vb va vs vf vo vi 0 d mk names = some (nI (movesN (kN t) 20 (gN Lm 20 5 (mN t)) (mN t)), x1, x2, x3, x4, x5, x6, mk', y') := q3
        rw [if_neg (show ¬ nI 3 = 0 by decide), if_neg (show ¬ nI 3 = 0 by decide), if_neg (show ¬ nI 3 = 1 by decide), if_neg (show ¬ nI 3 = 1 by decide), if_neg (show ¬ nI 3 = 2 by decide), if_neg (show ¬ nI 3 = 2 by decide), if_pos (show nI 3 = 3 from rfl), if_pos (show nI 3 = 3 from rfl), q1', px_kb3, v1', px_kb, px_nm, v2', q3', px_kb9]
        exact ⟨_, er, fo, a1, s1, _, _, _, _, _, _, _, _, rfl, rfl, hE, q2⟩
      | 4, _ =>
        obtain ⟨v, v1, v2⟩ := lets_all (kN t) h7 20 (by decide) (mN t) h10
        have v1' : f_TD_lets (nI (kN t)) 20 (nI (mN t)) = some v := v1
        have v2' : (if v < 20 then v else 20) = nI (letsN (kN t) 20 (mN t)) := v2
        have q3 : f_X12_letsOf (nI t) 20 d = some (nI (letsN (kN t) 20 (mN t))) := lets_m (a := 20) hMT (by omega) h7 h10 (by decide)
        rw [if_neg (show ¬ nI 4 = 0 by decide), if_neg (show ¬ nI 4 = 0 by decide), if_neg (show ¬ nI 4 = 1 by decide), if_neg (show ¬ nI 4 = 1 by decide), if_neg (show ¬ nI 4 = 2 by decide), if_neg (show ¬ nI 4 = 2 by decide), if_neg (show ¬ nI 4 = 3 by decide), if_neg (show ¬ nI 4 = 3 by decide), if_pos (show nI 4 = 4 from rfl), if_pos (show nI 4 = 4 from rfl), v1', px_kb, px_nm, v2', q3, px_kb]
        exact ⟨_, er, fo, ansM, sM, _, _, _, _, _, _, _, _, rfl, rfl, hE, hCM⟩
      | 5, _ =>
        have v1 : f_TD_tears (nI (kN t)) 0 = some (nI (tearsN (kN t) 0)) := tears_all _ h7 0 (by decide)
        have q3 : f_X12_tearsOf (nI t) 0 d = some (nI (tearsN (kN t) 0)) := tears_m (p := 0) hMT (by omega) h7 (by decide)
        unfold f_X12_ofTool_L108
        rw [if_neg (show ¬ nI 5 = 0 by decide), if_neg (show ¬ nI 5 = 0 by decide), if_neg (show ¬ nI 5 = 1 by decide), if_neg (show ¬ nI 5 = 1 by decide), if_neg (show ¬ nI 5 = 2 by decide), if_neg (show ¬ nI 5 = 2 by decide), if_neg (show ¬ nI 5 = 3 by decide), if_neg (show ¬ nI 5 = 3 by decide), if_neg (show ¬ nI 5 = 4 by decide), if_neg (show ¬ nI 5 = 4 by decide), if_pos (show nI 5 = 5 from rfl), if_pos (show nI 5 = 5 from rfl), v1, q3, px_kb, px_kb]
        exact ⟨_, er, fo, ansM, sM, _, _, _, _, _, _, _, _, rfl, rfl, hE, hCM⟩
      | 6, _ =>
        have v1 : f_TD_tears (nI (kN t)) 9 = some (nI (tearsN (kN t) 9)) := tears_all _ h7 9 (by decide)
        have q3 : f_X12_tearsOf (nI t) 9 d = some (nI (tearsN (kN t) 9)) := tears_m (p := 9) hMT (by omega) h7 (by decide)
        unfold f_X12_ofTool_L108
        rw [if_neg (show ¬ nI 6 = 0 by decide), if_neg (show ¬ nI 6 = 0 by decide), if_neg (show ¬ nI 6 = 1 by decide), if_neg (show ¬ nI 6 = 1 by decide), if_neg (show ¬ nI 6 = 2 by decide), if_neg (show ¬ nI 6 = 2 by decide), if_neg (show ¬ nI 6 = 3 by decide), if_neg (show ¬ nI 6 = 3 by decide), if_neg (show ¬ nI 6 = 4 by decide), if_neg (show ¬ nI 6 = 4 by decide), if_neg (show ¬ nI 6 = 5 by decide), if_neg (show ¬ nI 6 = 5 by decide), if_pos (show nI 6 = 6 from rfl), v1, q3, px_kb, px_kb]
        exact ⟨_, er, fo, ansM, sM, _, _, _, _, _, _, _, _, rfl, rfl, hE, hCM⟩
    · have n0 : ∀ j : Nat, j < 7 → ¬ y = nI j := fun j hj q => hy (by rw [q]; exact vp_in_nI hj (by decide))
      rw [bI_out hy, i00, em, if_neg (show ¬ y = 0 from n0 0 (by decide)), if_neg (show ¬ y = 1 from n0 1 (by decide)), if_neg (show ¬ y = 2 from n0 2 (by decide)), if_neg (show ¬ y = 3 from n0 3 (by decide)), if_neg (show ¬ y = 4 from n0 4 (by decide)), if_neg (show ¬ y = 5 from n0 5 (by decide)), if_neg (show ¬ y = 6 from n0 6 (by decide)), px_kb2]
      exact ⟨r, e', f', ansM, sM, _, _, _, _, _, _, _, _, rfl, rfl, g3, hCM⟩
  · rw [bI_out hx, i00, i00, em, px_kb2]
    exact ⟨r, e', f', ansM, sM, _, _, _, _, _, _, _, _, rfl, rfl, g3, hCM⟩
end RH
