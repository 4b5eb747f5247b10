/-! the calls: wall, cells, laws, strokes, what is shown, bubbles -/
section RD
variable {R C ho ou eb nt T tl wn : Nat} {a p kN mN : Nat → Nat} {Lm Ls : List Int32} {z : Int32} {told tape d er fo : Nat → Int32}

def b1 (x : Int32) (n : Nat) : Int32 := if 1 ≤ x.toInt ∧ x.toInt ≤ n then 1 else 0
theorem rng (x : Int32) (n : Nat) : (∃ k, 1 ≤ k ∧ k ≤ n ∧ x = nI k ∧ b1 x n = 1) ∨ b1 x n = 0 := by
  by_cases h : 1 ≤ x.toInt ∧ x.toInt ≤ n
  · obtain ⟨j, hj, rfl, e⟩ := ti_nI x (by omega)
    exact Or.inl ⟨j, by omega, by omega, rfl, if_pos h⟩
  · exact Or.inr (if_neg h)
theorem wi_b1 (x : Int32) {n : Nat} {y : Int32} (hy : y.toInt = n) : f_X11_within x 1 y = some (b1 x n) := by
  rw [within_eq, hy]
  rfl
theorem in_b1 (x : Int32) {n : Nat} {y : Int64} (hy : y.toInt = n) : f_X12_in x.toInt64 1 y = some (b1 x n) := by
  rw [in_eq, hy]
  rfl
theorem builds_run : ∀ (q f x : Nat) (d : Nat → Int32), x + q = 25 → q < f → ∃ d', f_X12_builds_L16 f (nI x) d = some d' ∧ ∀ j, d' j = if 10 + x ≤ j ∧ j < 35 then 0 else if 35 + x ≤ j ∧ j < 60 then 5 else d j := by
  intro q
  induction q with
  | zero =>
    intro f x d hq hf
    obtain ⟨f', rfl⟩ : ∃ f', f = f' + 1 := ⟨f - 1, by omega⟩
    have : x = 25 := by omega
    subst this
    unfold f_X12_builds_L16
    rw [if_pos (show (25 : Int32) ≤ nI 25 by decide)]
    exact ⟨d, rfl, fun j => by rw [if_neg (by omega), if_neg (by omega)]⟩
  | succ q ih =>
    intro f x d hq hf
    obtain ⟨f', rfl⟩ : ∃ f', f = f' + 1 := ⟨f - 1, by omega⟩
    unfold f_X12_builds_L16
    rw [if_neg (show ¬ (25 : Int32) ≤ nI x from nI_ge (b := 25) (by omega) (by decide))]
    simp only [n10, n35, px_nm, ch_d (show 10 + x < 244 by omega), ch_d (show 35 + x < 244 by omega), nI_clamp (show 10 + x < 2 ^ 31 by omega), nI_clamp (show 35 + x < 2 ^ 31 by omega), nI_1]
    obtain ⟨d', h1, h2⟩ := ih f' (x + 1) (upd (upd d (10 + x) 0) (35 + x) 5) (by omega) (by omega)
    refine ⟨d', h1, fun j => ?_⟩
    rw [h2]
    by_cases e1 : j = 10 + x
    · subst e1
      rw [if_neg (by omega), if_neg (by omega), if_pos (by omega), show ∀ (f : Nat → Int32) (y : Int32), upd f (35 + x) y (10 + x) = f (10 + x) from fun f y => if_neg (by omega)]
      exact if_pos rfl
    · by_cases e2 : j = 35 + x
      · subst e2
        rw [if_neg (by omega), if_neg (by omega), if_neg (by omega), if_pos (by omega)]
        exact if_pos rfl
      · have e3 : upd (upd d (10 + x) 0) (35 + x) 5 j = d j := (if_neg e2).trans (if_neg e1)
        rw [e3]
        by_cases h : 10 + x ≤ j ∧ j < 35
        · rw [if_pos h, if_pos (by omega)]
        · rw [if_neg h, if_neg (by omega)]
          by_cases h9 : 35 + x ≤ j ∧ j < 60
          · rw [if_pos h9, if_pos (by omega)]
          · rw [if_neg h9, if_neg (by omega)]
def p5 (j : Nat) : Nat := if j < 25 then 5 else 0
theorem m_wall (hO : OKp R C ho ou eb nt T tl wn a p kN mN Lm Ls) (hM : MDp R C ho ou eb nt T tl wn a p kN mN Lm Ls z told tape d) (hE : EK er fo) (x y : Int32) :
    ∃ (r : Int32) (er' fo' d' : Nat → Int32) (R' C' : Nat) (a' p' : Nat → Nat), f_X11_wall x y er (nI R) (nI C) (lf a) (lf p) = some (r, er', nI R', nI C', lf a', lf p') ∧ f_X12_wall x y d fo = some (r, d', fo') ∧ EK er' fo' ∧
      OKp R' C' ho ou eb nt T tl wn a' p' kN mN Lm Ls ∧ MDp R' C' ho ou eb nt T tl wn a' p' kN mN Lm Ls z told tape d' := by
  obtain ⟨o1, o2, o3, o4, o5, o6, o7⟩ := id hO
  obtain ⟨r, e', f', g1, g2, g3⟩ := err_1 hE
  have ec : f_X11_wall_L18 er (nI R) (nI C) (lf a) (lf p) = some (r, e', nI R, nI C, lf a, lf p) := by unfold f_X11_wall_L18; rw [g1, px_kb2]
  have em : f_X12_wall_L24 d fo = some (r, d, f') := by unfold f_X12_wall_L24; rw [g2, px_kb2]
  unfold f_X11_wall f_X12_wall
  rw [wi_b1 x (n := 5) (by decide), in_b1 x (n := 5) (by decide), wi_b1 y (n := 5) (by decide), in_b1 y (n := 5) (by decide), px_kb, px_kb, px_kb, px_kb]
  rcases rng x 5 with ⟨R', hR1, hR5, rfl, hx⟩ | hx
  · rw [hx, i10, i10]
    rcases rng y 5 with ⟨C', hC1, hC5, rfl, hy⟩ | hy
    · rw [hy, i10, i10]
      unfold f_X10_lay f_X12_builds f_X10_cells
      obtain ⟨A, q1, q2⟩ := fill_eq 0 25 (by decide) (lf a)
      obtain ⟨P, q3, q4⟩ := fill_eq 5 25 (by decide) (lf p)
      have eA : A = lf (fun _ => 0) := by
        funext j
        rw [q2]
        by_cases h : j < 25
        · rw [if_pos h]; rfl
        · rw [if_neg h]
          show nI (a j) = nI 0
          rw [o5.2 j (by omega)]
      have eP : P = lf p5 := by
        funext j
        rw [q4]
        show _ = nI (p5 j)
        unfold p5
        by_cases h : j < 25
        · rw [if_pos h, if_pos h]; rfl
        · rw [if_neg h, if_neg h]
          show nI (p j) = nI 0
          rw [o6.2 j (by omega)]
      obtain ⟨d', q5, q6⟩ := builds_run 25 gFuel 0 (upd (upd d 0 (nI R')) 1 (nI C')) (by omega) (by unfold gFuel; omega)
      rw [q1, px_kb, q3, px_kb, px_kb4, px_kb, c_0, z_0, px_nm, c_1, z_1, px_nm, show f_X12_builds_L16 gFuel 0 (upd (upd d 0 (nI R')) 1 (nI C')) = some d' from q5, px_kb, eA, eP]
      refine ⟨_, er, fo, d', R', C', fun _ => 0, p5, rfl, rfl, hE, ⟨by omega, by omega, by omega, by omega, ⟨fun _ => Nat.zero_le _, fun _ _ => rfl⟩, ⟨fun j => by unfold p5; split <;> omega, fun j hj => if_neg (by omega)⟩, o7⟩, MD_wall hM ?_ ?_⟩
      · obtain ⟨w0, w1, w3, w4, w9, wa, wp⟩ := hM.1
        have e3 : ∀ j, 1 < j → upd (upd d 0 (nI R')) 1 (nI C') j = d j := fun j hj => (if_neg (by omega)).trans (if_neg (by omega))
        refine ⟨?_, ?_, ?_, ?_, ?_, fun j hj => ?_, fun j hj => ?_⟩
        · rw [q6, if_neg (by omega), if_neg (by omega)]
          exact (if_neg (by decide)).trans (if_pos rfl)
        · rw [q6, if_neg (by omega), if_neg (by omega)]
          exact if_pos rfl
        · rw [q6, if_neg (by omega), if_neg (by omega), e3 _ (by omega)]; exact w3
        · rw [q6, if_neg (by omega), if_neg (by omega), e3 _ (by omega)]; exact w4
        · rw [q6, if_neg (by omega), if_neg (by omega), e3 _ (by omega)]; exact w9
        · rw [q6, if_pos (by omega)]; rfl
        · rw [q6, if_neg (by omega), if_pos (by omega)]
          unfold p5
          rw [if_pos hj]; rfl
      · intro j hj
        rw [q6, if_neg (by omega), if_neg (by omega)]
        exact (if_neg (by omega)).trans (if_neg (by omega))
    · rw [hy, i00, i00, ec, em]
      exact ⟨r, e', f', d, R, C, a, p, rfl, rfl, g3, hO, hM⟩
  · rw [hx, i00, i00, ec, em]
    exact ⟨r, e', f', d, R, C, a, p, rfl, rfl, g3, hO, hM⟩
theorem isUse_eq (x : Int32) : f_X11_isUse x = some (bI x 2) := by
  unfold f_X11_isUse
  by_cases h : vp_in x 2
  · obtain ⟨j, hj, rfl⟩ := vp_in_of h (by decide)
    rw [bI_in h]
    match j, hj with
    | 0, _ => rfl
    | 1, _ => rfl
  · rw [bI_out h, if_neg (fun q => h (by rw [q]; exact vp_in_nI (n := 0) (by decide) (by decide))), if_neg (fun q => h (by rw [q]; exact vp_in_nI (n := 1) (by decide) (by decide)))]
theorem g_M {rm : Nat} {L : List Int32} {st ans : Nat → Int32} (hL : LM 0 L d) (hl : L.length ≤ 50) (hR : RP st L) (hr : rm < 10000) (hC : CO L 10 rm ans) (x y w : Int32) (stack : Nat → Int32) :
    ∃ ans' stack', f_X3_gives x y w 10000 (nI L.length) (nI 10) (nI rm) ans stack st = some (gv L x y w, ans', stack') ∧ CO L 10 rm ans' := by
  have h9 := gives_eq (u := 0) (by decide) hL hl hR (Or.inl rfl) hr hC x y w stack
  rwa [show (100 * 10 * 10 : Nat) = 10000 by decide] at h9
theorem g_S {rs : Nat} {L : List Int32} {st ans : Nat → Int32} (hL : LM 1 L d) (hl : L.length ≤ 50) (hR : RP st L) (hr : rs < 10000) (hC : CO L 5 rs ans) (x y w : Int32) (stack : Nat → Int32) :
    ∃ ans' stack', f_X3_gives x y w 2500 (nI L.length) (nI 5) (nI rs) ans stack st = some (gv L x y w, ans', stack') ∧ CO L 5 rs ans' := by
  have h9 := gives_eq (u := 1) (by decide) hL hl hR (Or.inr rfl) hr hC x y w stack
  rwa [show (100 * 5 * 5 : Nat) = 2500 by decide] at h9
theorem m_law (hO : OKp R C ho ou eb nt T tl wn a p kN mN Lm Ls) (hM : MDp R C ho ou eb nt T tl wn a p kN mN Lm Ls z told tape d) (hE : EK er fo) {rm rs : Nat} {stM stS ansM ansS : Nat → Int32} (hrm : rm < 10000) (hrs : rs < 10000) (hRM : RP stM Lm) (hRS : RP stS Ls) (hCM : CO Lm 10 rm ansM) (hCS : CO Ls 5 rs ansS) (u x y w : Int32) (sM sS : Nat → Int32) (vb va vs vf vo vi : Int32) (names : Nat → Int32) :
    ∃ (r : Int32) (er' fo' ansM' sM' ansS' sS' : Nat → Int32) (x1 x2 x3 x4 x5 x6 : Int32) (y' : Nat → Int32), f_X11_law u x y w 10000 2500 er (nI Lm.length) (nI 10) (nI rm) ansM sM stM (nI Ls.length) (nI 5) (nI rs) ansS sS stS = some (r, er', ansM', sM', ansS', sS') ∧ f_X12_law u x y w vb va vs vf vo vi d fo names = some (r, x1, x2, x3, x4, x5, x6, fo', y') ∧ EK er' fo' ∧ CO Lm 10 rm ansM' ∧ CO Ls 5 rs ansS' := by
  obtain ⟨r, e', f', g1, g2, g3⟩ := err_1 hE
  have hlm := hO.2.2.2.2.2.2.2.2.2.2.2.2.2.2.1
  have hls := hO.2.2.2.2.2.2.2.2.2.2.2.2.2.2.2
  obtain ⟨h0, h2, h5, h6, h7, h8, hT, hL0, hL1, ht, htp⟩ := hM
  unfold f_X11_law f_X12_law
  rw [isUse_eq, in_1, px_kb, px_kb]
  by_cases hu : vp_in u 2
  · obtain ⟨k, hk, rfl⟩ := vp_in_of hu (by decide)
    rw [bI_in hu, i10, i10]
    match k, hk with
    | 0, _ =>
      obtain ⟨a1, s1, q1, q2⟩ := g_M hL0 hlm hRM hrm hCM x y w sM
      obtain ⟨x1, x2, x3, x4, x5, x6, y', q3⟩ := tg_eq (u := 0) (by decide) hL0 x y w vb va vs vf vo vi names
      rw [show f_X11_lawOf (nI 0) = some 0 from rfl, px_kb, i00, q1, q3, px_kb3, px_kb8]
      exact ⟨_, er, fo, a1, s1, ansS, sS, _, _, _, _, _, _, _, rfl, rfl, hE, q2, hCS⟩
    | 1, _ =>
      obtain ⟨a1, s1, q1, q2⟩ := g_S hL1 hls hRS hrs hCS x y w sS
      obtain ⟨x1, x2, x3, x4, x5, x6, y', q3⟩ := tg_eq (u := 1) (by decide) hL1 x y w vb va vs vf vo vi names
      rw [show f_X11_lawOf (nI 1) = some 1 from rfl, px_kb, i10, q1, q3, px_kb3, px_kb8]
      exact ⟨_, er, fo, ansM, sM, a1, s1, _, _, _, _, _, _, _, rfl, rfl, hE, hCM, q2⟩
  · rw [bI_out hu, i00, i00, g1, g2, px_kb2, px_kb2]
    exact ⟨r, e', f', ansM, sM, ansS, sS, _, _, _, _, _, _, _, rfl, rfl, g3, hCM, hCS⟩
theorem m_stroke (hO : OKp R C ho ou eb nt T tl wn a p kN mN Lm Ls) (hM : MDp R C ho ou eb nt T tl wn a p kN mN Lm Ls z told tape d) (hE : EK er fo) {rm rs : Nat} {stM stS ansM ansS : Nat → Int32} (hrm : rm < 10000) (hrs : rs < 10000) (hRM : RP stM Lm) (hRS : RP stS Ls) (hCM : CO Lm 10 rm ansM) (hCS : CO Ls 5 rs ansS) {kind mm : Nat → Int32} (hk : ad kind kN 6) (hm : ad mm mN 6) (x y w : Int32) (sM : Nat → Int32) (vb va vs vf vo vi : Int32) (mk names : Nat → Int32) :
    ∃ (r : Int32) (er' fo' ansM' sM' d' : Nat → Int32) (ho' ou' : Nat) (a' : Nat → Nat) (x1 x2 x3 x4 x5 x6 : Int32) (mk' y' : Nat → Int32), f_X11_stroke x y w 10000 er (nI T) kind mm (nI Lm.length) (nI 10) (nI rm) ansM sM stM (nI R) (nI C) (nI ho) (nI ou) (lf a) (lf (opn eb)) (lf p) = some (r, er', ansM', sM', nI ho', nI ou', lf a') ∧ f_X12_stroke x y w vb va vs vf vo vi 0 d fo mk names = some (r, x1, x2, x3, x4, x5, x6, d', fo', mk', y') ∧ EK er' fo' ∧ CO Lm 10 rm ansM' ∧
      OKp R C ho' ou' eb nt T tl wn a' p kN mN Lm Ls ∧ MDp R C ho' ou' eb nt T tl wn a' p kN mN Lm Ls z told tape d' := by
  obtain ⟨o1, o2, o3, o4, o5, o6, o7, o8, o9, o10, o11, o12, o13, o14, o15, o16⟩ := id hO
  have h25 := RC25 o3 o4
  obtain ⟨r, e', f', g1, g2, g3⟩ := err_1 hE
  have ec : f_X11_stroke_L23 er ansM sM (nI ho) (nI ou) (lf a) = some (r, e', ansM, sM, nI ho, nI ou, lf a) := by unfold f_X11_stroke_L23; rw [g1, px_kb2]
  have em : f_X12_stroke_L23 vb va vs vf vo vi d fo mk names = some (r, vb, va, vs, vf, vo, vi, d, f', mk, names) := by unfold f_X12_stroke_L23; rw [g2, px_kb2]
  unfold f_X11_stroke f_X12_stroke
  rw [isTool_c x o11, isTool_m x hM.2.1 o11, isCell_c y o3 o4, isCell_m y hM.1 o3 o4, isWay_c, isWay_m, px_kb, px_kb, px_kb, px_kb, px_kb, px_kb]
  by_cases hx : vp_in x T
  · obtain ⟨t, ht, rfl⟩ := vp_in_of hx (by omega)
    rw [bI_in hx, i10, i10]
    by_cases hy : vp_in y (R * C)
    · obtain ⟨c, hc, rfl⟩ := vp_in_of hy (by omega)
      rw [bI_in hy, i10, i10]
      by_cases hw : vp_in w 4
      · obtain ⟨k, hkw, rfl⟩ := vp_in_of hw (by decide)
        obtain ⟨h7, h10⟩ := o14 t (by omega)
        have hLC : LC 0 rm Lm stM := ⟨⟨d, hM.2.2.2.2.2.2.2.1⟩, o15, hRM, hrm⟩
        obtain ⟨a1, s1, q1, q2⟩ := strike_eq (k := kN t) (m := mN t) (w := k) (eb := eb) (paste := p) (stack := sM) hLC hCM o3 o4 h7 h10 hkw hc o5.1 o6.1 o7 o8
        obtain ⟨l1, l2, l3⟩ := strk_le (R := R) (C := C) (k := kN t) (m := mN t) (w := k) (eb := eb) (g := fun a p => gN Lm a p (mN t)) (paste := p) (c := c) (holes := ho) (out := ou) o3 o4 o5.1
        obtain ⟨x1, x2, x3, x4, x5, x6, d', mk', y', q3, q4, q5, q6⟩ := strokes_m (L := Lm) (ik := 0) (mk := mk) (eb := eb) (t := t) o3 o4 h7 h10 hkw (by omega) o9 o6.1 vb va vs vf vo vi names (Or.inl rfl) hc hM.1 (hM.2.2.2.2.2.2.1 t (by omega)) hM.2.2.2.2.2.2.2.1 o5.1 o7 o8
        have hA : AirOK (strk R C (kN t) (mN t) k eb (fun a p => gN Lm a p (mN t)) p c ho ou a).2.2 := by
          rw [strk_air]
          exact strkA_ok o3 o4 hkw hc o5
        rw [bI_in hw, i10, i10, kindOf_c o11 ht hk h7, px_kb, px_in (show t < 6 by omega) (by decide), px_nm, nI_clamp (n := t) (by omega), hm t (by omega), q1, px_kb5, px_in (show c < 25 by omega) (by decide), nI_clamp (n := c) (by omega), lf_at, q3, px_kb9, n10, px_nm, ch_d (show 10 + c < 244 by omega), nI_clamp (n := 10 + c) (by omega), q4.2.2.2.2.2.1 c (by omega)]
        exact ⟨_, er, fo, a1, s1, d', _, _, _, x1, x2, x3, x4, x5, x6, mk', y', rfl, rfl, hE, q2, ⟨o1, o2, o3, o4, hA, o6, l1, l2, o9, o10, o11, o12, o13, o14, o15, o16⟩, MD_strk hM q4 q5⟩
      · rw [bI_out hw, i00, i00, ec, em]
        exact ⟨r, e', f', ansM, sM, d, ho, ou, a, vb, va, vs, vf, vo, vi, mk, names, rfl, rfl, g3, hCM, hO, hM⟩
    · rw [bI_out hy, i00, i00, ec, em]
      exact ⟨r, e', f', ansM, sM, d, ho, ou, a, vb, va, vs, vf, vo, vi, mk, names, rfl, rfl, g3, hCM, hO, hM⟩
  · rw [bI_out hx, i00, i00, ec, em]
    exact ⟨r, e', f', ansM, sM, d, ho, ou, a, vb, va, vs, vf, vo, vi, mk, names, rfl, rfl, g3, hCM, hO, hM⟩
theorem m_shown (hO : OKp R C ho ou eb nt T tl wn a p kN mN Lm Ls) (hM : MDp R C ho ou eb nt T tl wn a p kN mN Lm Ls z told tape d) (hE : EK er fo) {rm rs : Nat} {stM stS ansM ansS : Nat → Int32} (hrm : rm < 10000) (hrs : rs < 10000) (hRM : RP stM Lm) (hRS : RP stS Ls) (hCM : CO Lm 10 rm ansM) (hCS : CO Ls 5 rs ansS) (sS : Nat → Int32) (vb va vs vf vo vi : Int32) (names sk : Nat → Int32) :
    ∃ (r : Int32) (ansS' sS' : Nat → Int32) (x1 x2 x3 x4 x5 x6 : Int32) (y' sk' : Nat → Int32), f_X11_shown 2500 (nI Ls.length) (nI 5) (nI rs) ansS sS stS (nI R) (nI C) (lf a) = some (r, ansS', sS') ∧ f_X12_shown vb va vs vf vo vi 0 d names sk = some (r, x1, x2, x3, x4, x5, x6, y', sk') ∧ CO Ls 5 rs ansS' := by
  obtain ⟨o1, o2, o3, o4, o5, o6, o7, o8, o9, o10, o11, o12, o13, o14, o15, o16⟩ := id hO
  have hLC : LC 1 rs Ls stS := ⟨⟨d, hM.2.2.2.2.2.2.2.2.1⟩, o16, hRS, hrs⟩
  obtain ⟨a1, s1, q1, q2⟩ := shownBy_eq (air := a) hLC o3 o4 ansS sS hCS
  obtain ⟨x1, x2, x3, x4, x5, x6, y', sk', q3, q4⟩ := seen_m (ik := 0) hM.2.2.2.2.2.2.2.2.1 hM.1 o3 o4 o2 o5.1 (sk := sk) (Or.inl rfl) vb va vs vf vo vi names
  unfold f_X11_shown f_X12_shown
  rw [q1, q3, px_kb3, px_kb9]
  exact ⟨_, a1, s1, x1, x2, x3, x4, x5, x6, y', sk', rfl, rfl, q2⟩
theorem m_bubbles (hO : OKp R C ho ou eb nt T tl wn a p kN mN Lm Ls) (hM : MDp R C ho ou eb nt T tl wn a p kN mN Lm Ls z told tape d) (hE : EK er fo) (il : Int32) (line met : Nat → Int32) (b1 b2 b3 : Int32) :
    ∃ (r : Int32) (il' : Int32) (line' met' : Nat → Int32) (x1 x2 x3 : Int32), f_X11_bubbles (nI R) (nI C) il (lf a) line met = some (r, il', line', met') ∧ f_X12_bubbles b1 b2 b3 d = some (r, x1, x2, x3) := by
  obtain ⟨o1, o2, o3, o4, o5, o6, o7⟩ := id hO
  obtain ⟨B, hB, hBf, hf⟩ := find_m hM.1 o3 o4 o5.1
  obtain ⟨i', l', m', q1⟩ := count_c o3 o4 o5.1 hB il line met
  unfold f_X11_bubbles f_X12_bubbles
  rw [q1, hf, px_kb4, px_kb3]
  exact ⟨_, i', l', m', _, _, _, rfl, rfl⟩
theorem m_biggest (hO : OKp R C ho ou eb nt T tl wn a p kN mN Lm Ls) (hM : MDp R C ho ou eb nt T tl wn a p kN mN Lm Ls z told tape d) (hE : EK er fo) (x il : Int32) (line met : Nat → Int32) (b1 b2 b3 : Int32) :
    ∃ (r : Int32) (er' fo' : Nat → Int32) (il' : Int32) (line' met' : Nat → Int32) (x1 x2 x3 : Int32), f_X11_biggest x er (nI R) (nI C) il (lf a) line met = some (r, er', il', line', met') ∧ f_X12_biggest x b1 b2 b3 d fo = some (r, x1, x2, x3, fo') ∧ EK er' fo' := by
  obtain ⟨o1, o2, o3, o4, o5, o6, o7⟩ := id hO
  have h25 := RC25 o3 o4
  obtain ⟨B, hB, hBf, hf⟩ := find_m hM.1 o3 o4 o5.1
  obtain ⟨i', l', m', q1⟩ := big_c o3 o4 o5.1 hB il line met
  obtain ⟨h1, h2, h3, h4, h5, h6⟩ := fbS_ok hB o3 o4 o5.1 (R * C) (Nat.le_refl _)
  obtain ⟨r, e', f', g1, g2, g3⟩ := err_1 hE
  obtain ⟨r2, e2, f2, k1, k2, k3⟩ := err_2 hE
  unfold f_X11_biggest f_X12_biggest
  rw [wi_1, in_1, px_kb, px_kb]
  by_cases hx : vp_in x 2
  · rw [bI_in hx, i10, i10, q1, hf, px_kb4, px_kb3]
    by_cases hz : (fbS a B (R * C)).2.1 = 0
    · rw [if_pos hz, if_neg (show ¬ (0 : Int32) ≤ -1 by decide), k1, px_kb2, h5.mpr hz, if_pos (show nI 0 = 0 from rfl), k2, px_kb2]
      exact ⟨r2, e2, f2, i', l', m', _, _, _, rfl, rfl, k3⟩
    · have hn : ¬ (fbS a B (R * C)).1 = 0 := fun q => hz (h5.mp q)
      obtain ⟨c1, c2, c3⟩ := h6 (by omega)
      rw [if_neg hz, if_pos (nI_pos' (by omega)), if_neg (show ¬ nI (fbS a B (R * C)).1 = 0 from nI_ne0 (by omega) (by omega))]
      by_cases hz0 : x = 0
      · obtain ⟨i2, l2, m2, q2⟩ := sizeOf_c o3 o4 o5.1 hB c1 i' l' m'
        rw [if_pos hz0, if_pos hz0, q2, px_kb4, if_neg (show ¬ a (fbS a B (R * C)).2.2.1 = 0 by omega), ← c3]
        exact ⟨_, er, fo, i2, l2, m2, _, _, _, rfl, rfl, hE⟩
      · rw [if_neg hz0, if_neg hz0]
        exact ⟨_, er, fo, i', l', m', _, _, _, rfl, rfl, hE⟩
  · rw [bI_out hx, i00, i00, g1, g2, px_kb2, px_kb2]
    exact ⟨r, e', f', il, line, met, _, _, _, rfl, rfl, g3⟩
theorem m_ofCell (hO : OKp R C ho ou eb nt T tl wn a p kN mN Lm Ls) (hM : MDp R C ho ou eb nt T tl wn a p kN mN Lm Ls z told tape d) (hE : EK er fo) {rm rs : Nat} {stM stS ansM ansS : Nat → Int32} (hrm : rm < 10000) (hrs : rs < 10000) (hRM : RP stM Lm) (hRS : RP stS Ls) (hCM : CO Lm 10 rm ansM) (hCS : CO Ls 5 rs ansS) (x y il : Int32) (line met sS : Nat → Int32) (vb va vs vf vo vi : Int32) (names sk : Nat → Int32) :
    ∃ (r : Int32) (er' fo' ansS' sS' : Nat → Int32) (il' : Int32) (line' met' : Nat → Int32) (x1 x2 x3 x4 x5 x6 : Int32) (y' sk' : Nat → Int32), f_X11_ofCell x y 2500 er (nI Ls.length) (nI 5) (nI rs) ansS sS stS (nI R) (nI C) il (lf a) line met (lf p) = some (r, er', ansS', sS', il', line', met') ∧ f_X12_ofCell x y vb va vs vf vo vi 0 d fo names sk = some (r, x1, x2, x3, x4, x5, x6, fo', y', sk') ∧ EK er' fo' ∧ CO Ls 5 rs ansS' := by
  obtain ⟨o1, o2, o3, o4, o5, o6, o7, o8, o9, o10, o11, o12, o13, o14, o15, o16⟩ := id hO
  have h25 := RC25 o3 o4
  obtain ⟨r, e', f', g1, g2, g3⟩ := err_1 hE
  have em : f_X12_ofCell_L20 vb va vs vf vo vi fo names sk = some (r, vb, va, vs, vf, vo, vi, f', names, sk) := by unfold f_X12_ofCell_L20; rw [g2, px_kb2]
  unfold f_X11_ofCell f_X12_ofCell
  rw [isCell_c x o3 o4, isCell_m x hM.1 o3 o4, px_kb, px_kb, in_n y 3 3 (by decide) (by decide), px_kb, g1]
  by_cases hx : vp_in x (R * C)
  · obtain ⟨c, hc, rfl⟩ := vp_in_of hx (by omega)
    have hac := o5.1 c
    rw [bI_in hx, i10, i10]
    by_cases hy : vp_in y 4
    · obtain ⟨k, hk, rfl⟩ := vp_in_of hy (by decide)
      rw [bI_in hy, i10]
      match k, hk with
      | 0, _ =>
        simp only [if_pos (show nI 0 = 0 from rfl), px_in (show c < 25 by omega) (show 25 < 2 ^ 31 by decide), nI_clamp (show c < 2 ^ 31 by omega), lf_at, n10, px_nm, ch_d (show 10 + c < 244 by omega), nI_clamp (show 10 + c < 2 ^ 31 by omega), hM.1.2.2.2.2.2.1 c (by omega)]
        exact ⟨_, er, fo, ansS, sS, il, line, met, _, _, _, _, _, _, _, _, rfl, rfl, hE, hCS⟩
      | 1, _ =>
        simp only [if_neg (show ¬ nI 1 = 0 by decide), if_pos (show nI 1 = 1 from rfl), px_in (show c < 25 by omega) (show 25 < 2 ^ 31 by decide), nI_clamp (show c < 2 ^ 31 by omega), lf_at, n35, px_nm, ch_d (show 35 + c < 244 by omega), nI_clamp (show 35 + c < 2 ^ 31 by omega), hM.1.2.2.2.2.2.2 c (by omega)]
        exact ⟨_, er, fo, ansS, sS, il, line, met, _, _, _, _, _, _, _, _, rfl, rfl, hE, hCS⟩
      | 2, _ =>
        have er1 : f_X10_rowOf (nI c) (nI C) = some (nI (c / C)) := by
          unfold f_X10_rowOf
          rw [if_neg (nI_nle o2 (by omega)), px_chz (nI_ne0 o2 (by omega)), px_nm, pk_div (by omega) o2 (by omega)]
        have er2 : f_X10_columnOf (nI c) (nI C) = some (nI (c % C)) := by
          unfold f_X10_columnOf
          rw [if_neg (nI_nle o2 (by omega)), px_chz (nI_ne0 o2 (by omega)), px_nm, pk_rem (by omega) o2 (by omega)]
        have hLC : LC 1 rs Ls stS := ⟨⟨d, hM.2.2.2.2.2.2.2.2.1⟩, o16, hRS, hrs⟩
        obtain ⟨a1, s1, q1, q2⟩ := gives_S hLC hCS (a c) (c / C) (c % C) sS
        obtain ⟨x1, x2, x3, x4, x5, x6, y', sk', q3, q4⟩ := seenOf_m (ik := 0) hM.2.2.2.2.2.2.2.2.1 hM.1 o3 o4 o2 o5.1 (sk := sk) (Or.inl rfl) hc vb va vs vf vo vi names
        simp only [if_neg (show ¬ nI 2 = 0 by decide), if_neg (show ¬ nI 2 = 1 by decide), if_pos (show nI 2 = 2 from rfl), px_in (show c < 25 by omega) (show 25 < 2 ^ 31 by decide), nI_clamp (show c < 2 ^ 31 by omega), lf_at, px_nm, er1, er2, px_kb, q1, px_kb3, q3, px_kb9]
        exact ⟨_, er, fo, a1, s1, il, line, met, _, _, _, _, _, _, _, _, rfl, rfl, hE, q2⟩
      | 3, _ =>
        obtain ⟨B, hB, hBf, hf⟩ := find_m hM.1 o3 o4 o5.1
        obtain ⟨i2, l2, m2, q2⟩ := sizeOf_c o3 o4 o5.1 hB hc il line met
        simp only [if_neg (show ¬ nI 3 = 0 by decide), if_neg (show ¬ nI 3 = 1 by decide), if_neg (show ¬ nI 3 = 2 by decide), if_pos (show nI 3 = 3 from rfl), q2, px_kb4, n10, px_nm, ch_d (show 10 + c < 244 by omega), nI_clamp (show 10 + c < 2 ^ 31 by omega), hM.1.2.2.2.2.2.1 c (by omega)]
        by_cases h0 : a c = 0
        · rw [h0, if_pos rfl, if_pos (show nI 0 = 0 from rfl)]
          exact ⟨_, er, fo, ansS, sS, i2, l2, m2, _, _, _, _, _, _, _, _, rfl, rfl, hE, hCS⟩
        · obtain ⟨b1, b2⟩ := hB c hc (by omega)
          rw [if_neg h0, if_neg (show ¬ nI (a c) = 0 from nI_ne0 (by omega) (by omega)), hBf c hc (by omega), px_kb, sizeOf0_m hM.1 o3 o4 b1 (fun x hx => (Rch_in o3 o4 hc (by omega) ((b2 x).mp hx)).1), px_kb]
          exact ⟨_, er, fo, ansS, sS, i2, l2, m2, _, _, _, _, _, _, _, _, rfl, rfl, hE, hCS⟩
    · have n0 : ∀ j : Nat, j < 4 → ¬ y = nI j := fun j hj q => hy (by rw [q]; exact vp_in_nI hj (by decide))
      rw [bI_out hy, i00, em, if_neg (show ¬ y = 0 from n0 0 (by decide)), if_neg (show ¬ y = 1 from n0 1 (by decide)), if_neg (show ¬ y = 2 from n0 2 (by decide)), if_neg (show ¬ y = 3 from n0 3 (by decide)), px_kb2]
      exact ⟨r, e', f', ansS, sS, il, line, met, _, _, _, _, _, _, _, _, rfl, rfl, g3, hCS⟩
  · rw [bI_out hx, i00, i00, em, px_kb2]
    exact ⟨r, e', f', ansS, sS, il, line, met, _, _, _, _, _, _, _, _, rfl, rfl, g3, hCS⟩
end RD
