/-! the calls: move, airs, judge -/
section RL0
variable {er fo bits len bo so nu : Nat → Int32} {nums : Nat → Nat → Int32}
theorem sub_T {l i : Nat} (hl : l ≤ 40) (hi : i < 2 ^ 31) : (nI l - nI i).toInt = (l : Int) - i := by
  rw [Int32.toInt_sub, nI_toInt (by omega), nI_toInt hi, Int.bmod_def]
  split <;> omega
theorem stands_c {s l : Nat} (hs : s < 4) (hl : l ≤ 40) (h : len s = nI l) {i n : Nat} (hi : i < 2 ^ 31) (hn : n < 2 ^ 31) : f_X11_standsOn (nI s) (nI i) (nI n) len = some (if i + n ≤ l then 1 else 0) := by
  unfold f_X11_standsOn
  rw [if_neg (nI_pos hn), if_neg (nI_pos hi)]
  simp only [px_in hs (show 4 < 2 ^ 31 by decide), px_nm, nI_clamp (show s < 2 ^ 31 by omega), h]
  by_cases h1 : l < n
  · rw [if_pos (nI_lt h1 hn), if_neg (by omega)]
  · rw [if_neg (nI_nlt (by omega) (by omega)), pk_sub (show n ≤ l by omega)]
    by_cases h2 : l - n < i
    · rw [if_pos (nI_lt h2 hi), if_neg (by omega)]
    · rw [if_neg (nI_nlt (by omega) (by omega)), if_pos (by omega)]
theorem lift_run {s i n : Nat} (hn : n ≤ 40) (hin : 40 * s + i + n ≤ 160) (fo nu : Nat → Int32) (a3 a4 : Int32) : ∀ (q f x : Nat) (li : Nat → Int32), x + q = n → q < f → (∀ k, k < x → li k = nu (40 * s + i + k)) →
    ∃ li', f_X12_move_L115 (nI s) (nI i) a3 a4 (nI n) f (nI x) fo li nu = f_X12_move_L152 a3 a4 (nI n) gFuel 0 fo li' nu ∧ ∀ k, k < n → li' k = nu (40 * s + i + k) := by
  intro q
  induction q with
  | zero =>
    intro f x li hq hf h
    obtain ⟨f', rfl⟩ : ∃ f', f = f' + 1 := ⟨f - 1, by omega⟩
    have : x = n := by omega
    subst this
    unfold f_X12_move_L115
    rw [if_pos (show nI x ≤ nI x from Int32.le_refl _)]
    exact ⟨li, rfl, h⟩
  | succ q ih =>
    intro f x li hq hf h
    obtain ⟨f', rfl⟩ : ∃ f', f = f' + 1 := ⟨f - 1, by omega⟩
    rw [f_X12_move_L115, if_neg (nI_ge (a := x) (b := n) (by omega) (by omega))]
    simp only [px_nm, e40, nI_add, px_in (show 40 * s + i + x < 160 by omega) (show 160 < 2 ^ 31 by decide), nI_clamp (show 40 * s + i + x < 2 ^ 31 by omega), px_in (show x < 40 by omega) (show 40 < 2 ^ 31 by decide), nI_clamp (show x < 2 ^ 31 by omega), nI_1]
    refine ih f' (x + 1) _ (by omega) (by omega) (fun k hk => ?_)
    by_cases e : k = x
    · subst e; exact if_pos rfl
    · exact (if_neg e).trans (h k (by omega))
theorem drop_run {o j n : Nat} (hn : n ≤ 40) (hjn : 40 * o + j + n ≤ 160) (fo li : Nat → Int32) : ∀ (q f x : Nat) (nu : Nat → Int32), x + q = n → q < f →
    ∃ nu', f_X12_move_L152 (nI o) (nI j) (nI n) f (nI x) fo li nu = some (nI n, fo, li, nu') ∧ ∀ m, nu' m = if 40 * o + j + x ≤ m ∧ m < 40 * o + j + n then li (m - (40 * o + j)) else nu m := by
  intro q
  induction q with
  | zero =>
    intro f x nu hq hf
    obtain ⟨f', rfl⟩ : ∃ f', f = f' + 1 := ⟨f - 1, by omega⟩
    have : x = n := by omega
    subst this
    unfold f_X12_move_L152
    rw [if_pos (show nI x ≤ nI x from Int32.le_refl _)]
    exact ⟨nu, rfl, fun m => (if_neg (by omega)).symm⟩
  | succ q ih =>
    intro f x nu hq hf
    obtain ⟨f', rfl⟩ : ∃ f', f = f' + 1 := ⟨f - 1, by omega⟩
    unfold f_X12_move_L152
    rw [if_neg (nI_ge (a := x) (b := n) (by omega) (by omega))]
    simp only [px_nm, e40, nI_add, px_in (show 40 * o + j + x < 160 by omega) (show 160 < 2 ^ 31 by decide), nI_clamp (show 40 * o + j + x < 2 ^ 31 by omega), px_in (show x < 40 by omega) (show 40 < 2 ^ 31 by decide), nI_clamp (show x < 2 ^ 31 by omega), nI_1]
    obtain ⟨nu', h1, h2⟩ := ih f' (x + 1) (upd nu (40 * o + j + x) (li x)) (by omega) (by omega)
    refine ⟨nu', h1, fun m => ?_⟩
    rw [h2]
    by_cases e : m = 40 * o + j + x
    · subst e
      rw [if_neg (by omega), if_pos (by omega), show 40 * o + j + x - (40 * o + j) = x by omega]
      exact if_pos rfl
    · rw [show upd nu (40 * o + j + x) (li x) m = nu m from if_neg e]
      by_cases h : 40 * o + j + x ≤ m ∧ m < 40 * o + j + n
      · rw [if_pos h, if_pos (by omega)]
      · rw [if_neg h, if_neg (by omega)]
theorem m_move (hE : EK er fo) (hS : SH bits len nums bo so nu) (x i y j n : Int32) (li : Nat → Int32) :
    ∃ (r : Int32) (er' fo' nu' li' : Nat → Int32) (nums' : Nat → Nat → Int32), f_X11_move x i y j n er bits len nums = some (r, er', nums') ∧ f_X12_move x i y j n bo fo li nu so = some (r, fo', li', nu') ∧ EK er' fo' ∧ SH bits len nums' bo so nu' := by
  obtain ⟨r, e', f', g1, g2, g3⟩ := err_1 hE
  obtain ⟨r2, e2, f2, k1, k2, k3⟩ := err_2 hE
  obtain ⟨r5, e5, f5, l1, l2, l3⟩ := err_5 hE
  have c14 : f_X11_move_L14 er nums = some (r, e', nums) := by unfold f_X11_move_L14; rw [g1, px_kb2]
  have c86 : f_X11_move_L86 er nums = some (r, e', nums) := by unfold f_X11_move_L86; rw [g1, px_kb2]
  have c36 : f_X11_move_L36 er nums = some (r2, e2, nums) := by unfold f_X11_move_L36; rw [k1, px_kb2]
  have m14 : f_X12_move_L14 fo li nu = some (r, f', li, nu) := by unfold f_X12_move_L14; rw [g2, px_kb2]
  have m106 : f_X12_move_L106 fo li nu = some (r, f', li, nu) := by unfold f_X12_move_L106; rw [g2, px_kb2]
  have m38 : f_X12_move_L38 fo li nu = some (r2, f2, li, nu) := by unfold f_X12_move_L38; rw [k2, px_kb2]
  have bad : ∃ (r_1 : Int32) (er' fo' nu' li' : Nat → Int32) (nums' : Nat → Nat → Int32), (some (r, e', nums) : Option (Int32 × (Nat → Int32) × (Nat → Nat → Int32))) = some (r_1, er', nums') ∧ (some (r, f', li, nu) : Option (Int32 × (Nat → Int32) × (Nat → Int32) × (Nat → Int32))) = some (r_1, fo', li', nu') ∧ EK er' fo' ∧ SH bits len nums' bo so nu' := ⟨r, e', f', nu, li, nums, rfl, rfl, g3, hS⟩
  unfold f_X11_move f_X12_move
  rw [isSheet_c, isSheet_m, isSheet_c, isSheet_m, px_kb, px_kb, px_kb, px_kb, c14, m14]
  by_cases hx : vp_in x 4
  · obtain ⟨s, hs, rfl⟩ := vp_in_of hx (by decide)
    rw [bI_in hx, i10, i10]
    by_cases hy : vp_in y 4
    · obtain ⟨o, ho, rfl⟩ := vp_in_of hy (by decide)
      obtain ⟨s1, s2, ls, s3, s4, s5⟩ := hS.1 s hs
      obtain ⟨o1, o2, lo, o3, o4, o5⟩ := hS.1 o ho
      rw [bI_in hy, i10, i10, miss_c hs, miss_c ho, px_kb, px_kb, c36, m38]
      simp only [px_in hs (show 4 < 2 ^ 31 by decide), px_nm, nI_clamp (show s < 2 ^ 31 by omega), px_in ho (show 4 < 2 ^ 31 by decide), nI_clamp (show o < 2 ^ 31 by omega), s1.symm, o1.symm, s5, o5]
      by_cases hb : bits s = 0
      · rw [if_pos hb, if_pos hb, i10]
        exact ⟨r2, e2, f2, nu, li, nums, rfl, rfl, k3, hS⟩
      · rw [if_neg hb, if_neg hb, i00]
        by_cases hb2 : bits o = 0
        · rw [if_pos hb2, if_pos hb2, i10]
          exact ⟨r2, e2, f2, nu, li, nums, rfl, rfl, k3, hS⟩
        · rw [if_neg hb2, if_neg hb2, i00]
          by_cases hbb : bits s = bits o
          · rw [if_pos hbb, if_pos hbb, m106, c86]
            by_cases hn : n < 0
            · have : f_X11_standsOn (nI s) i n len = some 0 := by unfold f_X11_standsOn; rw [if_pos hn]
              rw [if_pos hn, this, px_kb, i00]
              exact bad
            · obtain ⟨n', hn', rfl⟩ := nI_of hn
              rw [if_neg hn]
              by_cases hi : i < 0
              · have : f_X11_standsOn (nI s) i (nI n') len = some 0 := by unfold f_X11_standsOn; rw [if_neg hn, if_pos hi]
                rw [if_pos hi, this, px_kb, i00]
                exact bad
              · obtain ⟨i', hi', rfl⟩ := nI_of hi
                rw [if_neg hi, stands_c hs s3 s4 hi' hn', px_kb]
                by_cases hj : j < 0
                · have : f_X11_standsOn (nI o) j (nI n') len = some 0 := by unfold f_X11_standsOn; rw [if_neg hn, if_pos hj]
                  rw [if_pos hj, this, px_kb, i00]
                  by_cases h1 : i' + n' ≤ ls
                  · rw [if_pos h1, i10]; exact bad
                  · rw [if_neg h1, i00]; exact bad
                · obtain ⟨j', hj', rfl⟩ := nI_of hj
                  rw [if_neg hj, stands_c ho o3 o4 hj' hn', px_kb]
                  have t1 : (nI ls - nI i' < nI n') ↔ ¬ i' + n' ≤ ls := by
                    rw [Int32.lt_iff_toInt_lt, sub_T s3 hi', nI_toInt hn']
                    omega
                  have t2 : (nI n' ≤ nI lo - nI j') ↔ j' + n' ≤ lo := by
                    rw [Int32.le_iff_toInt_le, sub_T o3 hj', nI_toInt hn']
                    omega
                  by_cases h1 : i' + n' ≤ ls
                  · rw [if_pos h1, i10, if_neg (fun q => t1.mp q h1)]
                    by_cases h2 : j' + n' ≤ lo
                    · rw [if_pos h2, i10, if_pos (t2.mpr h2)]
                      obtain ⟨li1, q1, q2⟩ := lift_run (s := s) (i := i') (n := n') (by omega) (by omega) fo nu (nI o) (nI j') n' gFuel 0 li (by omega) (by unfold gFuel; omega) (fun k hk => absurd hk (by omega))
                      obtain ⟨nu1, q3, q4⟩ := drop_run (o := o) (j := j') (n := n') (by omega) (by omega) fo li1 n' gFuel 0 nu (by omega) (by unfold gFuel; omega)
                      rw [nI_0] at q1 q3
                      have hch : ∀ {β : Type} (k : Option β), chc (nI i') (nI j') (nI n') 40 40 k = k := by
                        intro β k
                        refine if_neg ?_
                        rw [nI_clamp hi', nI_clamp hj', nI_clamp hn']
                        rintro (q | q | q | q | q)
                        · exact nI_pos hi' q
                        · exact nI_pos hj' q
                        · exact nI_pos hn' q
                        · omega
                        · omega
                      rw [q1, q3, hch, nI_clamp hi', nI_clamp hj', nI_clamp hn']
                      refine ⟨_, er, fo, nu1, li1, _, rfl, rfl, hE, hS.1, fun k hk m hm => ?_⟩
                      rw [q4]
                      by_cases e : k = o
                      · subst e
                        rw [va_up_at]
                        show NR (if j' ≤ m ∧ m < j' + n' then nums s (i' + (m - j')) else nums k m) _
                        by_cases h : j' ≤ m ∧ m < j' + n'
                        · rw [if_pos h, if_pos (by omega), q2 _ (by omega), show 40 * s + i' + (40 * k + m - (40 * k + j')) = 40 * s + (i' + (m - j')) by omega]
                          exact hS.2 s hs _ (by omega)
                        · rw [if_neg h, if_neg (by omega)]
                          exact hS.2 k hk m hm
                      · rw [vu_ne _ _ e, if_neg (by omega)]
                        exact hS.2 k hk m hm
                    · rw [if_neg h2, i00, if_neg (fun q => h2 (t2.mp q))]; exact bad
                  · rw [if_neg h1, i00, if_pos (t1.mpr h1)]; exact bad
          · rw [if_neg hbb, if_neg hbb, l1, l2, px_kb2, px_kb2]
            exact ⟨r5, e5, f5, nu, li, nums, rfl, rfl, l3, hS⟩
    · rw [bI_out hy, i00, i00]; exact bad
  · rw [bI_out hx, i00, i00]; exact bad
end RL0
section RL1
variable {R C ho ou eb nt T tl wn : Nat} {p kN mN : Nat → Nat} {Lm Ls : List Int32} {z : Int32} {told tape er fo : Nat → Int32} {bits len bo so nu : Nat → Int32} {nums : Nat → Nat → Int32}
theorem airs_run (hS : SH bits len nums bo so nu) {s l : Nat} (hs : s < 4) (hl : l ≤ 40) (h5 : so s = nI l) : ∀ (q f f' i : Nat) (a : Nat → Nat) (d : Nat → Int32), i + q = (if R * C < l then R * C else l) → q < f → q < f' → OKp R C ho ou eb nt T tl wn a p kN mN Lm Ls → MDp R C ho ou eb nt T tl wn a p kN mN Lm Ls z told tape d →
    ∃ (r : Int32) (d' : Nat → Int32) (a' : Nat → Nat), f_X11_airs_L49 (nI s) nums f (nI (if R * C < l then R * C else l)) (nI i) er (lf a) = some (r, er, lf a') ∧ f_X12_airs_L30 (nI s) nu so f' (nI i) d fo = some (r, d', fo) ∧ OKp R C ho ou eb nt T tl wn a' p kN mN Lm Ls ∧ MDp R C ho ou eb nt T tl wn a' p kN mN Lm Ls z told tape d' := by
  intro q
  induction q with
  | zero =>
    intro f f' i a d hq hf hf' hO hM
    obtain ⟨f1, rfl⟩ : ∃ f1, f = f1 + 1 := ⟨f - 1, by omega⟩
    obtain ⟨f2, rfl⟩ : ∃ f1, f' = f1 + 1 := ⟨f' - 1, by omega⟩
    obtain ⟨o1, o2, o3, o4, o5, o6, o7⟩ := id hO
    have h25 := RC25 o3 o4
    have hi : i = (if R * C < l then R * C else l) := by omega
    unfold f_X11_airs_L49 f_X12_airs_L30
    rw [← hi, if_pos (show nI i ≤ nI i from Int32.le_refl _), px_in hs (by decide), nI_clamp (by omega), h5, cells_m hM.1, px_kb]
    by_cases hll : R * C < l
    · rw [if_pos hll] at hi
      rw [if_neg (nI_ge (a := i) (b := l) (by omega) (by omega)), if_pos (nI_le (by omega) (by omega))]
      exact ⟨_, d, a, rfl, rfl, hO, hM⟩
    · rw [if_neg hll] at hi
      rw [if_pos (nI_le (by omega) (by omega))]
      exact ⟨_, d, a, rfl, rfl, hO, hM⟩
  | succ q ih =>
    intro f f' i a d hq hf hf' hO hM
    obtain ⟨f1, rfl⟩ : ∃ f1, f = f1 + 1 := ⟨f - 1, by omega⟩
    obtain ⟨f2, rfl⟩ : ∃ f1, f' = f1 + 1 := ⟨f' - 1, by omega⟩
    obtain ⟨o1, o2, o3, o4, o5, o6, o7⟩ := id hO
    have h25 := RC25 o3 o4
    have hil : i < l ∧ i < R * C := by split at hq <;> omega
    have hm : (if R * C < l then R * C else l) ≤ 40 := by split <;> omega
    obtain ⟨b1, b2⟩ := NR_in (hS.2 s hs i (by omega))
    unfold f_X11_airs_L49 f_X12_airs_L30
    rw [if_neg (nI_ge (a := i) (b := (if R * C < l then R * C else l)) (by omega) (by omega)), cells_m hM.1]
    simp only [px_in hs (show 4 < 2 ^ 31 by decide), px_nm, nI_clamp (show s < 2 ^ 31 by omega), px_in (show i < 40 by omega) (show 40 < 2 ^ 31 by decide), nI_clamp (show i < 2 ^ 31 by omega), h5, px_kb, if_neg (nI_ge hil.1 (show l < 2 ^ 31 by omega)), if_neg (nI_ge hil.2 (show R * C < 2 ^ 31 by omega)), e40, px_in (show 40 * s + i < 160 by omega) (show 160 < 2 ^ 31 by decide), nI_clamp (show 40 * s + i < 2 ^ 31 by omega), show f_X11_within (nums s i) 0 99 = some (bI (nums s i) 100) from within_n _ 99 (by decide), in_n (nu (40 * s + i)) 99 99 (by decide) (by decide), b1]
    by_cases hv : vp_in (nums s i) 100
    · obtain ⟨v, v1, v2, v3⟩ := b2 hv
      rw [← b1, bI_in hv, i10, i10, v2, v3]
      obtain ⟨w1, w2⟩ := MW_air hM.1 (c := i) (by omega) v
      simp only [px_in (show i < 25 by omega) (show 25 < 2 ^ 31 by decide), px_nm, lf_up, n10, ch_d (show 10 + i < 244 by omega), nI_clamp (show 10 + i < 2 ^ 31 by omega), nI_1]
      exact ih f1 f2 (i + 1) _ _ (by omega) (by omega) (by omega) ⟨o1, o2, o3, o4, AirOK_up o5 (by omega) v1, o6, o7⟩ (MD_strk hM w1 w2)
    · rw [← b1, bI_out hv, i00, i00]
      exact ⟨_, d, a, rfl, rfl, hO, hM⟩
end RL1
section RL
variable {R C ho ou eb nt T tl wn : Nat} {a p kN mN : Nat → Nat} {Lm Ls : List Int32} {z : Int32} {told tape d er fo : Nat → Int32}

theorem m_airs (hO : OKp R C ho ou eb nt T tl wn a p kN mN Lm Ls) (hM : MDp R C ho ou eb nt T tl wn a p kN mN Lm Ls z told tape d) (hE : EK er fo) {bits len bo so nu : Nat → Int32} {nums : Nat → Nat → Int32} (hS : SH bits len nums bo so nu) (x : Int32) :
    ∃ (r : Int32) (er' fo' d' : Nat → Int32) (a' : Nat → Nat), f_X11_airs x er (nI R) (nI C) (lf a) bits len nums = some (r, er', lf a') ∧ f_X12_airs x bo d fo nu so = some (r, d', fo') ∧ EK er' fo' ∧ OKp R C ho ou eb nt T tl wn a' p kN mN Lm Ls ∧ MDp R C ho ou eb nt T tl wn a' p kN mN Lm Ls z told tape d' := by
  obtain ⟨o1, o2, o3, o4, o5, o6, o7⟩ := id hO
  have h25 := RC25 o3 o4
  obtain ⟨r, e', f', g1, g2, g3⟩ := err_1 hE
  obtain ⟨r2, e2, f2, k1, k2, k3⟩ := err_2 hE
  unfold f_X11_airs f_X12_airs f_X10_cells
  rw [isSheet_c, isSheet_m, px_kb, px_kb]
  by_cases hx : vp_in x 4
  · obtain ⟨s, hs, rfl⟩ := vp_in_of hx (by decide)
    obtain ⟨s1, s2, l, s3, s4, s5⟩ := hS.1 s hs
    rw [bI_in hx, i10, i10, miss_c hs, px_kb]
    have emin : (if nI (R * C) < nI l then nI (R * C) else nI l) = nI (if R * C < l then R * C else l) := by
      by_cases h : R * C < l
      · rw [if_pos (nI_lt h (by omega)), if_pos h]
      · rw [if_neg (nI_nlt (by omega) (by omega)), if_neg h]
    simp only [px_in hs (show 4 < 2 ^ 31 by decide), px_nm, nI_clamp (show s < 2 ^ 31 by omega), s1.symm, s4, px_kb, pk_mul, emin]
    by_cases hb : bits s = 0
    · rw [if_pos hb, if_pos hb, i10, k1, k2, px_kb2, px_kb2]
      exact ⟨r2, e2, f2, d, a, rfl, rfl, k3, hO, hM⟩
    · rw [if_neg hb, if_neg hb, i00]
      have hm : (if R * C < l then R * C else l) ≤ 40 := by split <;> omega
      obtain ⟨r, d', a', q1, q2, q3, q4⟩ := airs_run (er := er) (fo := fo) (R := R) (C := C) hS hs s3 s5 (if R * C < l then R * C else l) gFuel gFuel 0 a d (by omega) (by unfold gFuel; omega) (by unfold gFuel; omega) hO hM
      exact ⟨r, er, fo, d', a', q1, q2, hE, q3, q4⟩
  · rw [bI_out hx, i00, i00, g1, g2, px_kb2, px_kb2]
    exact ⟨r, e', f', d, a, rfl, rfl, g3, hO, hM⟩
/-- number i of a sheet is the cell's -/
def lk (nums : Nat → Nat → Int32) (s l n : Nat) (a : Nat → Nat) (i : Nat) : Prop := i < l ∧ i < n ∧ nums s i = nI (a i)
theorem fu_run {R C : Nat} {a : Nat → Nat} (hR : R < 6) (hC : C < 6) {nums : Nat → Nat → Int32} {len : Nat → Int32} {s l : Nat} (hs : s < 4) (hl : l ≤ 40) (h4 : len s = nI l) : ∀ (q f i : Nat), i + q = (if l < R * C then R * C else l) → q < f → (∀ j, j < i → lk nums s l (R * C) a j) →
    ∃ k, i ≤ k ∧ k ≤ (if l < R * C then R * C else l) ∧ (∀ j, j < k → lk nums s l (R * C) a j) ∧ ¬ lk nums s l (R * C) a k ∧ f_X11_firstUnlike_L17 (nI s) len (nI R) (nI C) (lf a) nums f (nI (if l < R * C then R * C else l)) (nI i) = some (if k < (if l < R * C then R * C else l) then nI k else -1) := by
  have h25 := RC25 hR hC
  have hmx : (if l < R * C then R * C else l) ≤ 40 := by split <;> omega
  have hml : l ≤ (if l < R * C then R * C else l) := by split <;> omega
  have hmr : R * C ≤ (if l < R * C then R * C else l) := by split <;> omega
  generalize (if l < R * C then R * C else l) = M at hmx hml hmr
  intro q
  induction q with
  | zero =>
    intro f i hq hf hp
    obtain ⟨f', rfl⟩ : ∃ f', f = f' + 1 := ⟨f - 1, by omega⟩
    have : i = M := by omega
    subst this
    refine ⟨i, Nat.le_refl _, Nat.le_refl _, hp, fun q => by have := q.1; omega, ?_⟩
    unfold f_X11_firstUnlike_L17
    rw [if_pos (show nI i ≤ nI i from Int32.le_refl _), if_neg (Nat.lt_irrefl _)]
  | succ q ih =>
    intro f i hq hf hp
    obtain ⟨f', rfl⟩ : ∃ f', f = f' + 1 := ⟨f - 1, by omega⟩
    have stop : ¬ lk nums s l (R * C) a i → f_X11_firstUnlike_L17 (nI s) len (nI R) (nI C) (lf a) nums (f' + 1) (nI M) (nI i) = some (nI i) := by
      intro hn
      unfold f_X11_firstUnlike_L17
      rw [if_neg (nI_ge (a := i) (b := M) (by omega) (by omega))]
      simp only [px_in hs (show 4 < 2 ^ 31 by decide), px_nm, nI_clamp (show s < 2 ^ 31 by omega), h4]
      by_cases h1 : i < l
      · rw [if_neg (nI_ge h1 (by omega)), has_eq _ hR hC, px_kb]
        by_cases h2 : i < R * C
        · rw [bI_nI h2 (by omega), i10, px_in (by omega) (by decide), px_in (by omega) (by decide), nI_clamp (by omega), lf_at, if_neg (fun q => hn ⟨h1, h2, q⟩)]
        · rw [bI_out (fun q => q (Or.inr (by rw [nI_clamp (by omega)]; omega))), i00]
      · rw [if_pos (nI_le (by omega) (by omega))]
    by_cases hk : lk nums s l (R * C) a i
    · obtain ⟨h1, h2, h3⟩ := id hk
      obtain ⟨k, k1, k2, k3, k4, k5⟩ := ih f' (i + 1) (by omega) (by omega) (fun j hj => by
        by_cases e : j = i
        · subst e; exact hk
        · exact hp j (by omega))
      refine ⟨k, by omega, k2, k3, k4, ?_⟩
      unfold f_X11_firstUnlike_L17
      rw [if_neg (nI_ge (a := i) (b := M) (by omega) (by omega))]
      simp only [px_in hs (show 4 < 2 ^ 31 by decide), px_nm, nI_clamp (show s < 2 ^ 31 by omega), h4, if_neg (nI_ge h1 (show l < 2 ^ 31 by omega)), has_in hR hC h2, px_kb, i10, px_in (show i < 40 by omega) (show 40 < 2 ^ 31 by decide), px_in (show i < 25 by omega) (show 25 < 2 ^ 31 by decide), nI_clamp (show i < 2 ^ 31 by omega), lf_at, if_pos h3, nI_1]
      exact k5
    · refine ⟨i, Nat.le_refl _, by omega, hp, hk, ?_⟩
      rw [stop hk, if_pos (by omega)]
theorem firstU (hR : R < 6) (hC : C < 6) {nums : Nat → Nat → Int32} {len : Nat → Int32} {s l : Nat} (hs : s < 4) (hl : l ≤ 40) (h4 : len s = nI l) :
    ∃ k, k ≤ l ∧ k ≤ R * C ∧ (∀ j, j < k → lk nums s l (R * C) a j) ∧ ¬ lk nums s l (R * C) a k ∧ f_X11_firstUnlike (nI s) len (nI R) (nI C) (lf a) nums = some (if k = l ∧ k = R * C then -1 else nI k) := by
  have h25 := RC25 hR hC
  have hmx : (if l < R * C then R * C else l) ≤ 40 := by split <;> omega
  obtain ⟨k, k1, k2, k3, k4, k5⟩ := fu_run (a := a) hR hC hs hl h4 (nums := nums) (if l < R * C then R * C else l) gFuel 0 (by omega) (by unfold gFuel; omega) (fun j hj => absurd hj (Nat.not_lt_zero j))
  have hkl : k ≤ l := by
    cases k with
    | zero => omega
    | succ k => have := (k3 k (by omega)).1; omega
  have hkr : k ≤ R * C := by
    cases k with
    | zero => omega
    | succ k => have := (k3 k (by omega)).2.1; omega
  refine ⟨k, hkl, hkr, k3, k4, ?_⟩
  have emax : (if nI l < nI (R * C) then nI (R * C) else nI l) = nI (if l < R * C then R * C else l) := by
    by_cases h : l < R * C
    · rw [if_pos (nI_lt h (by omega)), if_pos h]
    · rw [if_neg (nI_nlt (by omega) (by omega)), if_neg h]
  unfold f_X11_firstUnlike f_X10_cells
  simp only [px_in hs (show 4 < 2 ^ 31 by decide), px_nm, nI_clamp (show s < 2 ^ 31 by omega), h4, px_kb, pk_mul, emax]
  rw [nI_0] at k5
  rw [k5]
  by_cases h : k = l ∧ k = R * C
  · rw [if_pos h, if_neg (by split <;> omega)]
  · rw [if_neg h, if_pos (by split <;> omega)]
theorem judge_run (hO : OKp R C ho ou eb nt T tl wn a p kN mN Lm Ls) (hM : MDp R C ho ou eb nt T tl wn a p kN mN Lm Ls z told tape d) {bits len bo so nu : Nat → Int32} {nums : Nat → Nat → Int32} (hS : SH bits len nums bo so nu) {s l k : Nat} (hs : s < 4) (hl : l ≤ 40) (h5 : so s = nI l) (hkl : k ≤ l) (hkr : k ≤ R * C) (h3 : ∀ j, j < k → lk nums s l (R * C) a j) (h4 : ¬ lk nums s l (R * C) a k) : ∀ (q f i : Nat), i + q = k → q < f →
    f_X12_judge_L30 (nI s) d nu so f (nI i) fo = some ((if k = l ∧ k = R * C then -1 else nI k), fo) := by
  obtain ⟨o1, o2, o3, o4, o5, o6, o7⟩ := id hO
  have h25 := RC25 o3 o4
  have fin : f_X12_judge_L77 (nI s) d so (nI k) fo = some ((if k = l ∧ k = R * C then -1 else nI k), fo) := by
    unfold f_X12_judge_L77
    rw [px_in hs (by decide), nI_clamp (by omega), h5, cells_m hM.1, px_kb]
    by_cases h1 : k = l
    · by_cases h2 : k = R * C
      · rw [if_pos (show nI k = nI l by rw [h1]), if_pos (show nI k = nI (R * C) by rw [h2]), if_pos ⟨h1, h2⟩]
      · rw [if_pos (show nI k = nI l by rw [h1]), if_neg (nI_ne (by omega) (by omega) h2), if_neg (fun q => h2 q.2)]
    · rw [if_neg (nI_ne (by omega) (by omega) h1), if_neg (fun q => h1 q.1)]
  intro q
  induction q with
  | zero =>
    intro f i hq hf
    obtain ⟨f', rfl⟩ : ∃ f', f = f' + 1 := ⟨f - 1, by omega⟩
    have : i = k := by omega
    subst this
    unfold f_X12_judge_L30
    rw [px_in hs (by decide), nI_clamp (n := s) (by omega), h5, cells_m hM.1, px_kb]
    by_cases h1 : i < l
    · rw [if_neg (nI_ge h1 (by omega))]
      by_cases h2 : i < R * C
      · have hac := o5.1 i
        have hne : ¬ nu (40 * s + i) = nI (a i) := fun q => h4 ⟨h1, h2, (NR_eq (hS.2 s hs i (by omega)) hac).mpr q⟩
        rw [if_neg (nI_ge h2 (by omega))]
        simp only [px_nm, e40, px_in (show 40 * s + i < 160 by omega) (show 160 < 2 ^ 31 by decide), nI_clamp (show 40 * s + i < 2 ^ 31 by omega), n10, ch_d (show 10 + i < 244 by omega), nI_clamp (show 10 + i < 2 ^ 31 by omega), hM.1.2.2.2.2.2.1 i (by omega), if_neg hne]
        exact fin
      · rw [if_pos (nI_le (by omega) (by omega))]; exact fin
    · rw [if_pos (nI_le (by omega) (by omega))]; exact fin
  | succ q ih =>
    intro f i hq hf
    obtain ⟨f', rfl⟩ : ∃ f', f = f' + 1 := ⟨f - 1, by omega⟩
    obtain ⟨h1, h2, h6⟩ := h3 i (by omega)
    have hac := o5.1 i
    have heq : nu (40 * s + i) = nI (a i) := (NR_eq (hS.2 s hs i (by omega)) hac).mp h6
    unfold f_X12_judge_L30
    rw [px_in hs (by decide), nI_clamp (n := s) (by omega), h5, cells_m hM.1, px_kb, if_neg (nI_ge h1 (by omega)), if_neg (nI_ge h2 (by omega))]
    simp only [px_nm, e40, px_in (show 40 * s + i < 160 by omega) (show 160 < 2 ^ 31 by decide), nI_clamp (show 40 * s + i < 2 ^ 31 by omega), n10, ch_d (show 10 + i < 244 by omega), nI_clamp (show 10 + i < 2 ^ 31 by omega), hM.1.2.2.2.2.2.1 i (by omega), if_pos heq, nI_1]
    exact ih f' (i + 1) (by omega) (by omega)
theorem m_judge (hO : OKp R C ho ou eb nt T tl wn a p kN mN Lm Ls) (hM : MDp R C ho ou eb nt T tl wn a p kN mN Lm Ls z told tape d) (hE : EK er fo) {bits len bo so nu : Nat → Int32} {nums : Nat → Nat → Int32} (hS : SH bits len nums bo so nu) (x : Int32) :
    ∃ (r : Int32) (er' fo' : Nat → Int32), f_X11_judge x er (nI R) (nI C) (lf a) bits len nums = some (r, er') ∧ f_X12_judge x bo d fo nu so = some (r, fo') ∧ EK er' fo' := by
  obtain ⟨o1, o2, o3, o4, o5, o6, o7⟩ := id hO
  obtain ⟨r, e', f', g1, g2, g3⟩ := err_1 hE
  obtain ⟨r2, e2, f2, k1, k2, k3⟩ := err_2 hE
  unfold f_X11_judge f_X12_judge
  rw [isSheet_c, isSheet_m, px_kb, px_kb]
  by_cases hx : vp_in x 4
  · obtain ⟨s, hs, rfl⟩ := vp_in_of hx (by decide)
    obtain ⟨s1, s2, l, s3, s4, s5⟩ := hS.1 s hs
    obtain ⟨k, j1, j2, j3, j4, j5⟩ := firstU (a := a) o3 o4 hs s3 s4 (nums := nums)
    rw [bI_in hx, i10, i10, miss_c hs, px_kb, px_in hs (by decide), nI_clamp (by omega), ← s1]
    by_cases hb : bits s = 0
    · rw [if_pos hb, if_pos hb, i10, k1, k2, px_kb2, px_kb2]
      exact ⟨r2, e2, f2, rfl, rfl, k3⟩
    · rw [if_neg hb, if_neg hb, i00, j5, px_kb]
      exact ⟨_, er, fo, rfl, judge_run hO hM hS hs s3 s5 j1 j2 j3 j4 k gFuel 0 (by omega) (by unfold gFuel; omega), hE⟩
  · rw [bI_out hx, i00, i00, g1, g2, px_kb2, px_kb2]
    exact ⟨r, e', f', rfl, rfl, g3⟩
end RL
