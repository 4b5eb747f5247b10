/-! the calls: came -/
section RM0
variable {R C ho ou eb : Nat} {A p : Nat → Nat} {d nu : Nat → Int32}
theorem as_0 (hW : MW d R C ho ou eb A p) (hR : R < 6) (hC : C < 6) {s : Nat} (hs : s < 4) : ∀ (q f i : Nat), i + q = R * C → q < f → f_X12_isAs_L4 (nI s) d nu f 0 (nI i) = some 0 := by
  have h25 := RC25 hR hC
  intro q
  induction q with
  | zero =>
    intro f i hq hf
    obtain ⟨f', rfl⟩ : ∃ f', f = f' + 1 := ⟨f - 1, by omega⟩
    have : i = R * C := by omega
    subst this
    unfold f_X12_isAs_L4
    rw [cells_m hW, px_kb, if_pos (show nI (R * C) ≤ nI (R * C) from Int32.le_refl _), px_chb0]
  | succ q ih =>
    intro f i hq hf
    obtain ⟨f', rfl⟩ : ∃ f', f = f' + 1 := ⟨f - 1, by omega⟩
    unfold f_X12_isAs_L4
    rw [cells_m hW, px_kb, if_neg (nI_ge (a := i) (b := R * C) (by omega) (by omega)), if_pos (Eq.trans rfl rfl), px_nm, nI_1]
    exact ih f' (i + 1) (by omega) (by omega)
theorem as_run (hW : MW d R C ho ou eb A p) (hR : R < 6) (hC : C < 6) {s : Nat} (hs : s < 4) : ∀ (q f i : Nat), i + q = R * C → q < f →
    ((∀ j, i ≤ j → j < R * C → nu (40 * s + j) = nI (A j)) ∧ f_X12_isAs_L4 (nI s) d nu f 1 (nI i) = some 1) ∨ ((∃ j, i ≤ j ∧ j < R * C ∧ ¬ nu (40 * s + j) = nI (A j)) ∧ f_X12_isAs_L4 (nI s) d nu f 1 (nI i) = some 0) := by
  have h25 := RC25 hR hC
  intro q
  induction q with
  | zero =>
    intro f i hq hf
    obtain ⟨f', rfl⟩ : ∃ f', f = f' + 1 := ⟨f - 1, by omega⟩
    have : i = R * C := by omega
    subst this
    refine Or.inl ⟨fun j h1 h2 => absurd h1 (by omega), ?_⟩
    unfold f_X12_isAs_L4
    rw [cells_m hW, px_kb, if_pos (show nI (R * C) ≤ nI (R * C) from Int32.le_refl _), px_chb1]
  | succ q ih =>
    intro f i hq hf
    obtain ⟨f', rfl⟩ : ∃ f', f = f' + 1 := ⟨f - 1, by omega⟩
    have go : ∀ v : Int32, v = nI (A i) ∨ ¬ v = nI (A i) := fun v => Classical.em _
    unfold f_X12_isAs_L4
    rw [cells_m hW, px_kb, if_neg (nI_ge (a := i) (b := R * C) (by omega) (by omega)), if_neg (show ¬ (1 : Int32) = 0 by decide)]
    simp only [px_nm, e40, px_in (show 40 * s + i < 160 by omega) (show 160 < 2 ^ 31 by decide), nI_clamp (show 40 * s + i < 2 ^ 31 by omega), n10, ch_d (show 10 + i < 244 by omega), nI_clamp (show 10 + i < 2 ^ 31 by omega), hW.2.2.2.2.2.1 i (by omega), nI_1]
    rcases go (nu (40 * s + i)) with h | h
    · rw [if_pos h]
      rcases ih f' (i + 1) (by omega) (by omega) with ⟨h1, h2⟩ | ⟨⟨j, h1, h2, h3⟩, h4⟩
      · refine Or.inl ⟨fun j j1 j2 => ?_, h2⟩
        by_cases e : j = i
        · subst e; exact h
        · exact h1 j (by omega) j2
      · exact Or.inr ⟨⟨j, by omega, h2, h3⟩, h4⟩
    · rw [if_neg h]
      exact Or.inr ⟨⟨i, Nat.le_refl _, by omega, h⟩, as_0 hW hR hC hs q f' (i + 1) (by omega) (by omega)⟩
theorem isAs_m (hW : MW d R C ho ou eb A p) (hR : R < 6) (hC : C < 6) {s : Nat} (hs : s < 4) :
    ((∀ j, j < R * C → nu (40 * s + j) = nI (A j)) ∧ f_X12_isAs (nI s) d nu = some 1) ∨ ((∃ j, j < R * C ∧ ¬ nu (40 * s + j) = nI (A j)) ∧ f_X12_isAs (nI s) d nu = some 0) := by
  have h25 := RC25 hR hC
  have := as_run (nu := nu) hW hR hC hs (R * C) gFuel 0 (by omega) (by unfold gFuel; omega)
  rw [nI_0] at this
  unfold f_X12_isAs
  rcases this with ⟨h1, h2⟩ | ⟨⟨j, h1, h2, h3⟩, h4⟩
  · exact Or.inl ⟨fun j hj => h1 j (Nat.zero_le _) hj, h2⟩
  · exact Or.inr ⟨⟨j, h2, h3⟩, h4⟩
theorem fu_dec (hR : R < 6) (hC : C < 6) {nums : Nat → Nat → Int32} {len : Nat → Int32} {s l : Nat} (hs : s < 4) (hl : l ≤ 40) (h4 : len s = nI l) :
    ∃ r, f_X11_firstUnlike (nI s) len (nI R) (nI C) (lf A) nums = some r ∧ ((¬ 0 ≤ r ∧ l = R * C ∧ ∀ j, j < R * C → nums s j = nI (A j)) ∨ (0 ≤ r ∧ ¬ (l = R * C ∧ ∀ j, j < R * C → nums s j = nI (A j)))) := by
  have h25 := RC25 hR hC
  obtain ⟨k, k1, k2, k3, k4, k5⟩ := firstU (a := A) hR hC hs hl h4 (nums := nums)
  refine ⟨_, k5, ?_⟩
  by_cases h : k = l ∧ k = R * C
  · rw [if_pos h]
    exact Or.inl ⟨by decide, by omega, fun j hj => (k3 j (by omega)).2.2⟩
  · rw [if_neg h]
    refine Or.inr ⟨nI_pos' (by omega), fun q => ?_⟩
    by_cases e : k = R * C
    · exact h ⟨by omega, e⟩
    · exact k4 ⟨by omega, by omega, q.2 k (by omega)⟩
end RM0
section RM
variable {R C ho ou eb nt T tl wn : Nat} {a p kN mN : Nat → Nat} {Lm Ls : List Int32} {z : Int32} {told tape d er fo : Nat → Int32}

theorem came_145 (hO : OKp R C ho ou eb nt T tl wn a p kN mN Lm Ls) (hM : MDp R C ho ou eb nt T tl wn a p kN mN Lm Ls z told tape d) (hE : EK er fo) {t : Nat} (ht : t < 6) (x6 : Int32) (vb va vs vf vo vi : Int32) (as mk names dx : Nat → Int32) (hd : ∀ j, j ≠ 60 + 2 * t → dx j = d j) :
    (0 ≤ x6 → f_X12_came_L145 (nI t) (nI (kN t)) x6 vb va vs vf vo vi as dx fo mk names = some (x6, vb, va, vs, vf, vo, vi, as, d, fo, mk, names)) ∧
    ∃ r er' fo', f_X11_error 2 er = some (r, er') ∧ EK er' fo' ∧ (¬ 0 ≤ x6 → f_X12_came_L145 (nI t) (nI (kN t)) x6 vb va vs vf vo vi as dx fo mk names = some (r, vb, va, vs, vf, vo, vi, as, d, fo', mk, names)) := by
  obtain ⟨r2, e2, f2, k1, k2, k3⟩ := err_2 hE
  have hd' : upd dx (60 + 2 * t) (nI (kN t)) = d := by
    funext j
    by_cases e : j = 60 + 2 * t
    · subst e
      exact (if_pos rfl).trans (hM.2.2.2.2.2.2.1 t ht).1.symm
    · exact (if_neg e).trans (hd j e)
  refine ⟨fun h => ?_, r2, e2, f2, k1, k3, fun h => ?_⟩
  · unfold f_X12_came_L145
    rw [e60, px_nm, ch_d (by omega), nI_clamp (by omega), hd', px_nm, if_pos h]
  · unfold f_X12_came_L145
    rw [e60, px_nm, ch_d (by omega), nI_clamp (by omega), hd', px_nm, if_neg h, k2, px_kb2]
theorem came_step {rm : Nat} {stM : Nat → Int32} (hrm : rm < 10000) (hRM : RP stM Lm) (hO : OKp R C ho ou eb nt T tl wn a p kN mN Lm Ls) (hM : MDp R C ho ou eb nt T tl wn a p kN mN Lm Ls z told tape d) {mm : Nat → Int32} (hm : ad mm mN 6) {len : Nat → Int32} {nums : Nat → Nat → Int32} {s l t c w : Nat} (hs : s < 4) (hl : l ≤ 40) (h4 : len s = nI l) (ht : t < 6) (hc : c < R * C) (hw : w < 4) {x : Nat} (hx : x < 7) (f : Nat) {aM ta top tp : Nat → Int32} (sM : Nat → Int32) (tr tc th tou tn night : Int32) (hCM : CO Lm 10 rm aM) (hT : SC ta top tp) :
    ∃ (aM' sM' : Nat → Int32) (th' tou' : Int32) (ta' top' tp' : Nat → Int32), CO Lm 10 rm aM' ∧ SC ta' top' tp' ∧
      ((¬ (l = R * C ∧ ∀ j, j < R * C → nums s j = nI (strkA R C x (mN t) w eb (fun a p => gN Lm a p (mN t)) p c a j)) ∧ f_X11_came_L55 (nI t) (nI c) (nI w) (nI s) 10000 mm (nI Lm.length) (nI 10) (nI rm) stM (nI R) (nI C) (nI ho) (nI ou) night (lf a) (lf (opn eb)) (lf p) len nums (f + 1) (nI x) er aM sM tr tc th tou tn ta top tp = f_X11_came_L55 (nI t) (nI c) (nI w) (nI s) 10000 mm (nI Lm.length) (nI 10) (nI rm) stM (nI R) (nI C) (nI ho) (nI ou) night (lf a) (lf (opn eb)) (lf p) len nums f (nI (x + 1)) er aM' sM' (nI R) (nI C) th' tou' night ta' top' tp') ∨
       ((l = R * C ∧ ∀ j, j < R * C → nums s j = nI (strkA R C x (mN t) w eb (fun a p => gN Lm a p (mN t)) p c a j)) ∧ f_X11_came_L55 (nI t) (nI c) (nI w) (nI s) 10000 mm (nI Lm.length) (nI 10) (nI rm) stM (nI R) (nI C) (nI ho) (nI ou) night (lf a) (lf (opn eb)) (lf p) len nums (f + 1) (nI x) er aM sM tr tc th tou tn ta top tp = some (nI x, er, aM', sM', nI R, nI C, th', tou', night, ta', top', tp'))) := by
  obtain ⟨o1, o2, o3, o4, o5, o6, o7, o8, o9, o10, o11, o12, o13, o14, o15, o16⟩ := id hO
  have h25 := RC25 o3 o4
  have hLC : LC 0 rm Lm stM := ⟨⟨d, hM.2.2.2.2.2.2.2.1⟩, o15, hRM, hrm⟩
  obtain ⟨a1, s1, q1, q2⟩ := strike_eq (k := x) (m := mN t) (w := w) (eb := eb) (paste := p) (stack := sM) hLC hCM o3 o4 hx (o14 t ht).2 hw hc o5.1 o6.1 o7 o8
  rw [strk_air] at q1
  have hok := strkA_ok (k := x) (m := mN t) (eb := eb) (g := fun a p => gN Lm a p (mN t)) (paste := p) o3 o4 hw hc o5
  obtain ⟨r, j1, j2⟩ := fu_dec (A := strkA R C x (mN t) w eb (fun a p => gN Lm a p (mN t)) p c a) o3 o4 hs hl h4 (nums := nums)
  refine ⟨a1, s1, nI (strk R C x (mN t) w eb (fun a p => gN Lm a p (mN t)) p c ho ou a).1, nI (strk R C x (mN t) w eb (fun a p => gN Lm a p (mN t)) p c ho ou a).2.1, _, _, _, q2, ⟨_, p, eb, rfl, rfl, rfl, o9, hok, o6⟩, ?_⟩
  rw [f_X11_came_L55, if_neg (show ¬ (7 : Int32) ≤ nI x from nI_ge (b := 7) (by omega) (by decide)), copy_eq hT o5 o6 o9, px_kb8, kindAt_c x hx, px_kb, px_in (show t < 6 by omega) (by decide), px_nm, nI_clamp (n := t) (by omega), hm t ht, q1, px_kb5, j1, px_kb, px_nm, nI_1]
  rcases j2 with ⟨j3, j4⟩ | ⟨j3, j4⟩
  · exact Or.inr ⟨j4, if_neg j3⟩
  · exact Or.inl ⟨j4, if_pos j3⟩
theorem came_end {a1 a2 a3 a4 : Int32} {mm stM : Nat → Int32} {x1 x2 x3 : Int32} {R C h o nt : Int32} {A O P len : Nat → Int32} {nums : Nat → Nat → Int32} (hE : EK er fo) (f : Nat) (aM sM : Nat → Int32) (tr tc th tou tn : Int32) (ta top tp : Nat → Int32) : ∃ r er' fo', f_X11_error 2 er = some (r, er') ∧ f_X12_finds 2 fo = some (r, fo') ∧ EK er' fo' ∧
    f_X11_came_L55 a1 a2 a3 a4 10000 mm x1 x2 x3 stM R C h o nt A O P len nums (f + 1) (nI 7) er aM sM tr tc th tou tn ta top tp = some (r, er', aM, sM, tr, tc, th, tou, tn, ta, top, tp) := by
  obtain ⟨r2, e2, f2, k1, k2, k3⟩ := err_2 hE
  refine ⟨r2, e2, f2, k1, k2, k3, ?_⟩
  unfold f_X11_came_L55
  rw [if_pos (show (7 : Int32) ≤ nI 7 by decide), k1, px_kb2]
theorem came_none {rm : Nat} {stM : Nat → Int32} (hrm : rm < 10000) (hRM : RP stM Lm) (hO : OKp R C ho ou eb nt T tl wn a p kN mN Lm Ls) (hM : MDp R C ho ou eb nt T tl wn a p kN mN Lm Ls z told tape d) (hE : EK er fo) {mm : Nat → Int32} (hm : ad mm mN 6) {len : Nat → Int32} {nums : Nat → Nat → Int32} {s l t c w : Nat} (hs : s < 4) (hl : l ≤ 40) (h4 : len s = nI l) (ht : t < 6) (hc : c < R * C) (hw : w < 4) (hlr : ¬ l = R * C) (night : Int32) : ∀ (q f x : Nat) (aM sM : Nat → Int32) (tr tc th tou tn : Int32) (ta top tp : Nat → Int32), x + q = 7 → q < f → CO Lm 10 rm aM → SC ta top tp →
    ∃ (r : Int32) (er' fo' aM' sM' : Nat → Int32) (tr' tc' th' tou' tn' : Int32) (ta' top' tp' : Nat → Int32), f_X11_came_L55 (nI t) (nI c) (nI w) (nI s) 10000 mm (nI Lm.length) (nI 10) (nI rm) stM (nI R) (nI C) (nI ho) (nI ou) night (lf a) (lf (opn eb)) (lf p) len nums f (nI x) er aM sM tr tc th tou tn ta top tp = some (r, er', aM', sM', tr', tc', th', tou', tn', ta', top', tp') ∧
      f_X12_finds 2 fo = some (r, fo') ∧ EK er' fo' ∧ CO Lm 10 rm aM' ∧ SC ta' top' tp' := by
  intro q
  induction q with
  | zero =>
    intro f x aM sM tr tc th tou tn ta top tp hq hf hCM hT
    obtain ⟨f', rfl⟩ : ∃ f', f = f' + 1 := ⟨f - 1, by omega⟩
    have : x = 7 := by omega
    subst this
    obtain ⟨r, e', f2, k1, k2, k3, k4⟩ := came_end (a1 := nI t) (a2 := nI c) (a3 := nI w) (a4 := nI s) (mm := mm) (stM := stM) (x1 := nI Lm.length) (x2 := nI 10) (x3 := nI rm) (R := nI R) (C := nI C) (h := nI ho) (o := nI ou) (nt := night) (A := lf a) (O := lf (opn eb)) (P := lf p) (len := len) (nums := nums) hE f' aM sM tr tc th tou tn ta top tp
    exact ⟨r, e', f2, aM, sM, tr, tc, th, tou, tn, ta, top, tp, k4, k2, k3, hCM, hT⟩
  | succ q ih =>
    intro f x aM sM tr tc th tou tn ta top tp hq hf hCM hT
    obtain ⟨f', rfl⟩ : ∃ f', f = f' + 1 := ⟨f - 1, by omega⟩
    obtain ⟨aM1, sM1, th1, to1, ta1, top1, tp1, g1, g2, g3⟩ := came_step (nums := nums) hrm hRM hO hM (er := er) hm hs hl h4 ht hc hw (show x < 7 by omega) f' sM tr tc th tou tn night hCM hT
    rcases g3 with ⟨g3, g4⟩ | ⟨g3, g4⟩
    · rw [g4]
      exact ih f' (x + 1) _ _ _ _ _ _ _ _ _ _ (by omega) (by omega) g1 g2
    · exact absurd g3.1 hlr
theorem came_run {rm : Nat} {stM : Nat → Int32} (hrm : rm < 10000) (hRM : RP stM Lm) (hO : OKp R C ho ou eb nt T tl wn a p kN mN Lm Ls) (hM : MDp R C ho ou eb nt T tl wn a p kN mN Lm Ls z told tape d) (hE : EK er fo) {mm : Nat → Int32} (hm : ad mm mN 6) {bits len bo so nu : Nat → Int32} {nums : Nat → Nat → Int32} (hS : SH bits len nums bo so nu) {s l t c w : Nat} (hs : s < 4) (hl : l ≤ 40) (h4 : len s = nI l) (ht : t < 6) (hc : c < R * C) (hw : w < 4) (hlr : l = R * C) (night : Int32) : ∀ (q f f' x : Nat) (aM sM : Nat → Int32) (tr tc th tou tn : Int32) (ta top tp : Nat → Int32) (vb va vs vf vo vi : Int32) (as mk names dx : Nat → Int32), x + q = 7 → q < f → q < f' → CO Lm 10 rm aM → SC ta top tp → (∀ j, j ≠ 60 + 2 * t → dx j = d j) →
    ∃ (r : Int32) (er' fo' aM' sM' : Nat → Int32) (tr' tc' th' tou' tn' : Int32) (ta' top' tp' : Nat → Int32) (x1 x2 x3 x4 x5 x6 : Int32) (as' mk' y' : Nat → Int32), f_X11_came_L55 (nI t) (nI c) (nI w) (nI s) 10000 mm (nI Lm.length) (nI 10) (nI rm) stM (nI R) (nI C) (nI ho) (nI ou) night (lf a) (lf (opn eb)) (lf p) len nums f (nI x) er aM sM tr tc th tou tn ta top tp = some (r, er', aM', sM', tr', tc', th', tou', tn', ta', top', tp') ∧
      f_X12_came_L80 (nI t) (nI c) (nI w) (nI s) 0 nu f' (nI (kN t)) (-1) (nI x) vb va vs vf vo vi as dx fo mk names = some (r, x1, x2, x3, x4, x5, x6, as', d, fo', mk', y') ∧ EK er' fo' ∧ CO Lm 10 rm aM' ∧ SC ta' top' tp' := by
  obtain ⟨o1, o2, o3, o4, o5, o6, o7, o8, o9, o10, o11, o12, o13, o14, o15, o16⟩ := id hO
  have h25 := RC25 o3 o4
  intro q
  induction q with
  | zero =>
    intro f f' x aM sM tr tc th tou tn ta top tp vb va vs vf vo vi as mk names dx hq hf hf' hCM hT hd
    obtain ⟨f1, rfl⟩ : ∃ f1, f = f1 + 1 := ⟨f - 1, by omega⟩
    obtain ⟨f2, rfl⟩ : ∃ f1, f' = f1 + 1 := ⟨f' - 1, by omega⟩
    have : x = 7 := by omega
    subst this
    obtain ⟨r, e', f3, k1, k2, k3, k4⟩ := came_end (a1 := nI t) (a2 := nI c) (a3 := nI w) (a4 := nI s) (mm := mm) (stM := stM) (x1 := nI Lm.length) (x2 := nI 10) (x3 := nI rm) (R := nI R) (C := nI C) (h := nI ho) (o := nI ou) (nt := night) (A := lf a) (O := lf (opn eb)) (P := lf p) (len := len) (nums := nums) hE f1 aM sM tr tc th tou tn ta top tp
    obtain ⟨-, r', e2, f4, c1, c2, c3⟩ := came_145 hO hM hE ht (-1) vb va vs vf vo vi as mk names dx hd
    rw [k1] at c1
    obtain ⟨rfl, rfl⟩ := Prod.mk.inj (Option.some.inj c1)
    refine ⟨r, e', f4, aM, sM, tr, tc, th, tou, tn, ta, top, tp, vb, va, vs, vf, vo, vi, as, mk, names, k4, ?_, c2, hCM, hT⟩
    unfold f_X12_came_L80
    rw [if_pos (show (6 : Int32) < nI 7 by decide)]
    exact c3 (by decide)
  | succ q ih =>
    intro f f' x aM sM tr tc th tou tn ta top tp vb va vs vf vo vi as mk names dx hq hf hf' hCM hT hd
    obtain ⟨f1, rfl⟩ : ∃ f1, f = f1 + 1 := ⟨f - 1, by omega⟩
    obtain ⟨f2, rfl⟩ : ∃ f1, f' = f1 + 2 := ⟨f' - 2, by omega⟩
    have hx : x < 7 := by omega
    obtain ⟨aM1, sM1, th1, to1, ta1, top1, tp1, g1, g2, g3⟩ := came_step (nums := nums) hrm hRM hO hM (er := er) hm hs hl h4 ht hc hw hx f1 sM tr tc th tou tn night hCM hT
    have hd2 : ∀ j, j ≠ 60 + 2 * t → upd dx (60 + 2 * t) (nI x) j = d j := fun j hj => (if_neg hj).trans (hd j hj)
    have hM2 : MDp R C ho ou eb nt T tl wn a p (va_up kN t x) (va_up mN t (mN t)) Lm Ls z told tape (upd dx (60 + 2 * t) (nI x)) := MD_tool hM ht ((hd2 2 (by omega)).trans hM.2.1) (if_pos rfl) ((hd2 _ (by omega)).trans (hM.2.2.2.2.2.2.1 t ht).2) (fun j h2 h3 h4 => hd2 j h3)
    have hMT : MT (upd dx (60 + 2 * t) (nI x)) t x (mN t) := by
      have := hM2.2.2.2.2.2.2.1 t ht
      rw [va_up_at, va_up_at] at this
      exact this
    obtain ⟨as1, k1, k2, k3⟩ := keep_m (dep := 0) (by decide) (upd dx (60 + 2 * t) (nI x)) as
    obtain ⟨x1, x2, x3, x4, x5, x6, d1, mk1, y1, e1, hW1, hS1, hK1⟩ := strokes_m (eb := eb) (t := t) (ik := 0) (mk := mk) o3 o4 hx (o14 t ht).2 hw ht o9 o6.1 vb va vs vf vo vi names (Or.inl rfl) hc hM2.1 hMT hM2.2.2.2.2.2.2.2.1 o5.1 o7 o8
    rw [strk_air] at hW1
    have hok := strkA_ok (k := x) (m := mN t) (eb := eb) (g := fun a p => gN Lm a p (mN t)) (paste := p) o3 o4 hw hc o5
    have hb := back_m (dep := 0) (by decide) k2 (SW_60 hS1)
    rw [nI_0] at k1 hb
    have hl6 : ∀ {β : Type} (u v : β), (if (6 : Int32) < nI x then u else v) = v := fun u v => if_neg (show ¬ (6 : Int32) < nI x from nI_nlt (a := 6) (b := x) (by omega) (by omega))
    have fit : ∀ j, j < R * C → (nums s j = nI (strkA R C x (mN t) w eb (fun a p => gN Lm a p (mN t)) p c a j) ↔ nu (40 * s + j) = nI (strkA R C x (mN t) w eb (fun a p => gN Lm a p (mN t)) p c a j)) := fun j hj => NR_eq (hS.2 s hs j (by omega)) (hok.1 j)
    unfold f_X12_came_L80
    rw [hl6, if_neg (show ¬ (0 : Int32) ≤ -1 by decide), e60, px_nm, ch_d (by omega), nI_clamp (n := 60 + 2 * t) (by omega), px_nm, k1, px_kb, e1, px_kb9]
    rcases isAs_m (nu := nu) hW1 o3 o4 hs with ⟨w1, w2⟩ | ⟨⟨j, j1, j2⟩, w2⟩
    · rw [w2, px_kb, i10]
      unfold f_X12_came_L132
      rw [hb, px_kb, px_nm, nI_1]
      rcases g3 with ⟨g3, g4⟩ | ⟨g3, g4⟩
      · exact absurd ⟨hlr, fun j hj => (fit j hj).mpr (w1 j hj)⟩ g3
      · refine ⟨nI x, er, fo, aM1, sM1, nI R, nI C, th1, to1, night, ta1, top1, tp1, x1, x2, x3, x4, x5, x6, as1, mk1, y1, g4, ?_, hE, g1, g2⟩
        have hx0 : (0 : Int32) ≤ nI x := nI_pos' (by omega)
        unfold f_X12_came_L80
        rw [if_pos hx0, (came_145 hO hM hE ht (nI x) x1 x2 x3 x4 x5 x6 as1 mk1 y1 _ hd2).1 hx0]
        by_cases q : (6 : Int32) < nI (x + 1)
        · rw [if_pos q]
        · rw [if_neg q]
    · rw [w2, px_kb, i00]
      unfold f_X12_came_L132
      rw [hb, px_kb, px_nm, nI_1]
      rcases g3 with ⟨g3, g4⟩ | ⟨g3, g4⟩
      · rw [g4]
        exact ih f1 (f2 + 1) (x + 1) _ _ _ _ _ _ _ _ _ _ _ _ _ _ _ _ _ _ _ _ (by omega) (by omega) (by omega) g1 g2 hd2
      · exact absurd ((fit j j1).mp (g3.2 j j1)) j2
theorem m_came {rm : Nat} {stM : Nat → Int32} (hrm : rm < 10000) (hRM : RP stM Lm) (hO : OKp R C ho ou eb nt T tl wn a p kN mN Lm Ls) (hM : MDp R C ho ou eb nt T tl wn a p kN mN Lm Ls z told tape d) (hE : EK er fo) {aM sM : Nat → Int32} (hCM : CO Lm 10 rm aM) {kind mm : Nat → Int32} (hk : ad kind kN 6) (hm : ad mm mN 6) {bits len bo so nu : Nat → Int32} {nums : Nat → Nat → Int32} (hS : SH bits len nums bo so nu) {ta top tp : Nat → Int32} (hT : SC ta top tp) (x y w v : Int32) (tr tc th tou tn : Int32) (vb va vs vf vo vi : Int32) (as mk names : Nat → Int32) :
    ∃ (r : Int32) (er' fo' aM' sM' : Nat → Int32) (tr' tc' th' tou' tn' : Int32) (ta' top' tp' : Nat → Int32) (x1 x2 x3 x4 x5 x6 : Int32) (as' mk' y' : Nat → Int32), f_X11_came x y w v 10000 er (nI T) mm (nI Lm.length) (nI 10) (nI rm) aM sM stM (nI R) (nI C) (nI ho) (nI ou) (nI nt) (lf a) (lf (opn eb)) (lf p) bits len tr tc th tou tn ta top tp nums = some (r, er', aM', sM', tr', tc', th', tou', tn', ta', top', tp') ∧
      f_X12_came x y w v vb va vs vf vo vi 0 as bo d fo mk names nu so = some (r, x1, x2, x3, x4, x5, x6, as', d, fo', mk', y') ∧ EK er' fo' ∧ CO Lm 10 rm aM' ∧ SC ta' top' tp' := by
  obtain ⟨o1, o2, o3, o4, o5, o6, o7, o8, o9, o10, o11, o12, o13, o14, o15, o16⟩ := id hO
  have h25 := RC25 o3 o4
  obtain ⟨r, e', f', g1, g2, g3⟩ := err_1 hE
  obtain ⟨r2, e2, f2, k1, k2, k3⟩ := err_2 hE
  have ec : f_X11_came_L31 er aM sM tr tc th tou tn ta top tp = some (r, e', aM, sM, tr, tc, th, tou, tn, ta, top, tp) := by unfold f_X11_came_L31; rw [g1, px_kb2]
  have em : f_X12_came_L31 vb va vs vf vo vi as d fo mk names = some (r, vb, va, vs, vf, vo, vi, as, d, f', mk, names) := by unfold f_X12_came_L31; rw [g2, px_kb2]
  have bad : ∃ (r_1 : Int32) (er' fo' aM' sM' : Nat → Int32) (tr' tc' th' tou' tn' : Int32) (ta' top' tp' : Nat → Int32) (x1 x2 x3 x4 x5 x6 : Int32) (as' mk' y' : Nat → Int32), f_X11_came_L31 er aM sM tr tc th tou tn ta top tp = some (r_1, er', aM', sM', tr', tc', th', tou', tn', ta', top', tp') ∧
      f_X12_came_L31 vb va vs vf vo vi as d fo mk names = some (r_1, x1, x2, x3, x4, x5, x6, as', d, fo', mk', y') ∧ EK er' fo' ∧ CO Lm 10 rm aM' ∧ SC ta' top' tp' := ⟨r, e', f', aM, sM, tr, tc, th, tou, tn, ta, top, tp, vb, va, vs, vf, vo, vi, as, mk, names, ec, em, g3, hCM, hT⟩
  unfold f_X11_came f_X12_came
  rw [isTool_c x o11, isTool_m x hM.2.1 o11, isCell_c y o3 o4, isCell_m y hM.1 o3 o4, isWay_c, isWay_m, isSheet_c, isSheet_m, px_kb, px_kb, px_kb, px_kb, px_kb, px_kb, px_kb, px_kb]
  by_cases hx : vp_in x T
  · obtain ⟨t, ht, rfl⟩ := vp_in_of hx (by omega)
    rw [bI_in hx, i10, i10]
    by_cases hy : vp_in y (R * C)
    · obtain ⟨c, hc, rfl⟩ := vp_in_of hy (by omega)
      rw [bI_in hy, i10, i10]
      by_cases hw : vp_in w 4
      · obtain ⟨k, hkw, rfl⟩ := vp_in_of hw (by decide)
        rw [bI_in hw, i10, i10]
        by_cases hv : vp_in v 4
        · obtain ⟨s, hs, rfl⟩ := vp_in_of hv (by decide)
          obtain ⟨s1, s2, l, s3, s4, s5⟩ := hS.1 s hs
          rw [bI_in hv, i10, i10, miss_c hs, px_kb]
          simp only [px_in hs (show 4 < 2 ^ 31 by decide), px_nm, nI_clamp (show s < 2 ^ 31 by omega), s1.symm, s5, cells_m hM.1, px_kb]
          by_cases hb : bits s = 0
          · have em2 : f_X12_came_L61 vb va vs vf vo vi as d fo mk names = some (r2, vb, va, vs, vf, vo, vi, as, d, f2, mk, names) := by unfold f_X12_came_L61; rw [k2, px_kb2]
            rw [if_pos hb, if_pos hb, i10, k1, px_kb2, em2]
            exact ⟨r2, e2, f2, aM, sM, tr, tc, th, tou, tn, ta, top, tp, vb, va, vs, vf, vo, vi, as, mk, names, rfl, rfl, k3, hCM, hT⟩
          · rw [if_neg hb, if_neg hb, i00]
            by_cases hlr : l = R * C
            · rw [if_pos (show nI l = nI (R * C) by rw [hlr]), (kindOf_m (hM.2.2.2.2.2.2.1 t (by omega)) (by omega)).1, px_kb]
              obtain ⟨r, er', fo', aM', sM', tr', tc', th', tou', tn', ta', top', tp', x1, x2, x3, x4, x5, x6, as', mk', y', q1, q2, q3, q4, q5⟩ := came_run hrm hRM hO hM hE hm hS hs s3 s4 (show t < 6 by omega) hc hkw hlr (nI nt) 7 gFuel gFuel 0 aM sM tr tc th tou tn ta top tp vb va vs vf vo vi as mk names d (by omega) (by unfold gFuel; omega) (by unfold gFuel; omega) hCM hT (fun _ _ => rfl)
              rw [nI_0] at q1 q2
              exact ⟨r, er', fo', aM', sM', tr', tc', th', tou', tn', ta', top', tp', x1, x2, x3, x4, x5, x6, as', mk', y', q1, q2, q3, q4, q5⟩
            · obtain ⟨r, er', fo', aM', sM', tr', tc', th', tou', tn', ta', top', tp', q1, q2, q3, q4, q5⟩ := came_none (nums := nums) hrm hRM hO hM hE hm hs s3 s4 (show t < 6 by omega) hc hkw hlr (nI nt) 7 gFuel 0 aM sM tr tc th tou tn ta top tp (by omega) (by unfold gFuel; omega) hCM hT
              rw [nI_0] at q1
              have em2 : f_X12_came_L61 vb va vs vf vo vi as d fo mk names = some (r, vb, va, vs, vf, vo, vi, as, d, fo', mk, names) := by unfold f_X12_came_L61; rw [q2, px_kb2]
              rw [if_neg (nI_ne (by omega) (by omega) hlr), em2]
              exact ⟨r, er', fo', aM', sM', tr', tc', th', tou', tn', ta', top', tp', vb, va, vs, vf, vo, vi, as, mk, names, q1, rfl, q3, q4, q5⟩
        · rw [bI_out hv, i00, i00]; exact bad
      · rw [bI_out hw, i00, i00]; exact bad
    · rw [bI_out hy, i00, i00]; exact bad
  · rw [bI_out hx, i00, i00]; exact bad
end RM
