/-! the calls: days, odds -/
section RI0
theorem anyI (x : Int32) : ∃ n, n < 2 ^ 32 ∧ x = nI n := by
  refine ⟨x.toBitVec.toNat, x.toBitVec.isLt, ?_⟩
  apply Int32.toBitVec_inj.1
  show x.toBitVec = BitVec.ofNat 32 x.toBitVec.toNat
  rw [BitVec.ofNat_toNat, BitVec.setWidth_eq]
theorem ush8 (x : Int32) : ∃ n, n < 2 ^ 24 ∧ (x.toUInt32 >>> (Int32.toUInt32 8 &&& Int32.toUInt32 31)).toInt32 = nI n := by
  obtain ⟨n, hn, rfl⟩ := anyI x
  refine ⟨n / 2 ^ 8, by omega, pk_ushrN hn 8 8 (by decide)⟩
theorem draw_c (m : Nat) (hm : 0 < m) (hm2 : m < 1000) (z : Int32) : ∃ n, n < 2 ^ 24 ∧ ((z * 1103515245 + 12345).toUInt32 >>> (Int32.toUInt32 8 &&& Int32.toUInt32 31)).toInt32 = nI n ∧ f_X7_draw (nI m) z = some (nI (n % m), z * 1103515245 + 12345) := by
  obtain ⟨n, hn, e⟩ := ush8 (z * 1103515245 + 12345)
  refine ⟨n, hn, e, ?_⟩
  unfold f_X7_draw
  rw [px_nm, px_nm, if_neg (nI_nle hm (by omega)), px_nm, e, px_chz (nI_ne0 hm (by omega)), px_nm, pk_rem (by omega) hm (by omega)]
theorem drawn_m {d : Nat → Int32} {z : Int32} (h : d 6 = z) : f_X12_drawn d = some (((z * 1103515245 + 12345).toUInt32 >>> (Int32.toUInt32 8 &&& Int32.toUInt32 31)).toInt32, upd d 6 (z * 1103515245 + 12345)) := by
  have i6 : ∀ y : Int32, upd d 6 y 6 = y := fun y => if_pos rfl
  unfold f_X12_drawn
  simp only [c_6, z_6, px_nm, h, i6]
theorem chz_nI {n : Nat} (h : 0 < n) (h2 : n < 2 ^ 31) {β : Type} (k : Option β) : chz (nI n) k = k := px_chz (nI_ne0 h h2) k
end RI0
section RI1
variable {R C eb T tl wn : Nat} {kN mN : Nat → Nat} {Lm Ls : List Int32} {told tape er fo kind mm stM : Nat → Int32} {rm : Nat}
theorem days_run (hk : ad kind kN 6) (hmm : ad mm mN 6) (hRM : RP stM Lm) (hrm : rm < 10000) (hT0 : 0 < T) (n : Nat) (hn : n ≤ 30) : ∀ (q f f' k nt ho ou : Nat) (a p : Nat → Nat) (z : Int32) (d ansM sM : Nat → Int32) (vb va vs vf vo vi : Int32) (mk names : Nat → Int32), k + q = n → q < f → q < f' → nt + q ≤ 999 → OKp R C ho ou eb nt T tl wn a p kN mN Lm Ls → MDp R C ho ou eb nt T tl wn a p kN mN Lm Ls z told tape d → CO Lm 10 rm ansM →
    ∃ (r z' : Int32) (d' ansM' sM' : Nat → Int32) (nt' ho' ou' : Nat) (a' p' : Nat → Nat) (x1 x2 x3 x4 x5 x6 : Int32) (mk' y' : Nat → Int32), f_X11_days_L52 (nI n) 10000 (nI T) kind mm (nI Lm.length) (nI 10) (nI rm) stM (nI R) (nI C) (lf (opn eb)) f (nI k) er z ansM sM (nI ho) (nI ou) (nI nt) (lf a) (lf p) = some (r, er, z', ansM', sM', nI ho', nI ou', nI nt', lf a', lf p') ∧
      f_X12_days_L49 (nI n) 0 f' (nI k) vb va vs vf vo vi d fo mk names = some (r, x1, x2, x3, x4, x5, x6, d', fo, mk', y') ∧ OKp R C ho' ou' eb nt' T tl wn a' p' kN mN Lm Ls ∧ MDp R C ho' ou' eb nt' T tl wn a' p' kN mN Lm Ls z' told tape d' ∧ CO Lm 10 rm ansM' := by
  intro q
  induction q with
  | zero =>
    intro f f' k nt ho ou a p z d ansM sM vb va vs vf vo vi mk names hq hf hf' hnt hO hM hCM
    obtain ⟨f1, rfl⟩ : ∃ f1, f = f1 + 1 := ⟨f - 1, by omega⟩
    obtain ⟨f2, rfl⟩ : ∃ f1, f' = f1 + 1 := ⟨f' - 1, by omega⟩
    have : k = n := by omega
    subst this
    obtain ⟨o1, o2, o3, o4, o5, o6, o7⟩ := id hO
    unfold f_X11_days_L52 f_X12_days_L49
    rw [if_pos (show nI k ≤ nI k from Int32.le_refl _), if_pos (show nI k ≤ nI k from Int32.le_refl _), all_c o3 o4, all_m hM.1 o3 o4, px_kb, px_kb]
    exact ⟨_, z, d, ansM, sM, nt, ho, ou, a, p, _, _, _, _, _, _, _, _, rfl, rfl, hO, hM, hCM⟩
  | succ q ih =>
    intro f f' k nt ho ou a p z d ansM sM vb va vs vf vo vi mk names hq hf hf' hnt hO hM hCM
    obtain ⟨f1, rfl⟩ : ∃ f1, f = f1 + 1 := ⟨f - 1, by omega⟩
    obtain ⟨f2, rfl⟩ : ∃ f1, f' = f1 + 1 := ⟨f' - 1, by omega⟩
    obtain ⟨o1, o2, o3, o4, o5, o6, o7, o8, o9, o10, o11, o12, o13, o14, o15, o16⟩ := id hO
    have h25 := RC25 o3 o4
    have h1c : 1 ≤ R * C := Nat.mul_pos o1 o2
    obtain ⟨n1, b1, b2, b3⟩ := draw_c T hT0 (by omega) z
    obtain ⟨n2, b4, b5, b6⟩ := draw_c (R * C) h1c (by omega) (z * 1103515245 + 12345)
    obtain ⟨n3, b7, b8, b9⟩ := draw_c 4 (by decide) (by omega) ((z * 1103515245 + 12345) * 1103515245 + 12345)
    have hM1 := MD_z (z' := z * 1103515245 + 12345) hM
    have hM2 := MD_z (z' := (z * 1103515245 + 12345) * 1103515245 + 12345) hM1
    have hM3 := MD_z (z' := ((z * 1103515245 + 12345) * 1103515245 + 12345) * 1103515245 + 12345) hM2
    have g1 := drawn_m hM.2.2.2.1
    have g2 := drawn_m hM1.2.2.2.1
    have g3 := drawn_m hM2.2.2.2.1
    rw [b2] at g1
    rw [b5] at g2
    rw [b8] at g3
    have ht : n1 % T < T := Nat.mod_lt _ hT0
    have hc : n2 % (R * C) < R * C := Nat.mod_lt _ h1c
    have hw : n3 % 4 < 4 := Nat.mod_lt _ (by decide)
    obtain ⟨h7, h10⟩ := o14 (n1 % T) (by omega)
    have hLC : LC 0 rm Lm stM := ⟨⟨d, hM.2.2.2.2.2.2.2.1⟩, o15, hRM, hrm⟩
    obtain ⟨a1, s1, q1, q2⟩ := strike_eq (k := kN (n1 % T)) (m := mN (n1 % T)) (w := n3 % 4) (eb := eb) (paste := p) (stack := sM) hLC hCM o3 o4 h7 h10 hw hc o5.1 o6.1 o7 o8
    obtain ⟨l1, l2, l3⟩ := strk_le (R := R) (C := C) (k := kN (n1 % T)) (m := mN (n1 % T)) (w := n3 % 4) (eb := eb) (g := fun a p => gN Lm a p (mN (n1 % T))) (paste := p) (c := n2 % (R * C)) (holes := ho) (out := ou) o3 o4 o5.1
    obtain ⟨x1, x2, x3, x4, x5, x6, d', mk', y', q3, q4, q5, q6⟩ := strokes_m (L := Lm) (ik := 0) (mk := mk) (eb := eb) (t := n1 % T) o3 o4 h7 h10 hw (by omega) o9 o6.1 vb va vs vf vo vi names (Or.inl rfl) hc hM3.1 (hM3.2.2.2.2.2.2.1 (n1 % T) (by omega)) hM3.2.2.2.2.2.2.2.1 o5.1 o7 o8
    have hA : AirOK (strk R C (kN (n1 % T)) (mN (n1 % T)) (n3 % 4) eb (fun a p => gN Lm a p (mN (n1 % T))) p (n2 % (R * C)) ho ou a).2.2 := by
      rw [strk_air]
      exact strkA_ok o3 o4 hw hc o5
    have hM4 := MD_strk hM3 q4 q5
    have hO4 : OKp R C _ _ eb nt T tl wn (strk R C (kN (n1 % T)) (mN (n1 % T)) (n3 % 4) eb (fun a p => gN Lm a p (mN (n1 % T))) p (n2 % (R * C)) ho ou a).2.2 p kN mN Lm Ls := ⟨o1, o2, o3, o4, hA, o6, l1, l2, o9, o10, o11, o12, o13, o14, o15, o16⟩
    obtain ⟨d2, e1, e2, e3⟩ := night_m o3 o4 hA o6 hM4
    have e4 : f_X7_draw 4 ((z * 1103515245 + 12345) * 1103515245 + 12345) = some (nI (n3 % 4), ((z * 1103515245 + 12345) * 1103515245 + 12345) * 1103515245 + 12345) := b9
    have r4 : nI n3 - nI n3 / 4 * 4 = nI (n3 % 4) := pk_rem (d := 4) (by omega) (by decide) (by decide)
    unfold f_X11_days_L52 f_X12_days_L49 f_X10_cells
    rw [if_neg (nI_ge (a := k) (b := n) (by omega) (by omega)), if_neg (nI_ge (a := k) (b := n) (by omega) (by omega))]
    simp only [b3, px_kb2, px_kb, pk_mul, b6, e4, kindOf_c o11 ht hk h7, px_in (show n1 % T < 6 by omega) (show 6 < 2 ^ 31 by decide), px_nm, nI_clamp (show n1 % T < 2 ^ 31 by omega), hmm (n1 % T) (by omega), q1, px_kb5, pass_c o3 o4 hA o6, px_kb3, nI_1, g1, c_2, z_2, hM1.2.1, chz_nI hT0 (show T < 2 ^ 31 by omega), pk_rem (a := n1) (d := T) (by omega) hT0 (by omega), g2, cells_m hM2.1, chz_nI h1c (show R * C < 2 ^ 31 by omega), pk_rem (a := n2) (d := R * C) (by omega) h1c (by omega), g3, px_chz (show ¬ (4 : Int32) = 0 by decide), r4, q3, px_kb9, e1]
    exact ih f1 f2 (k + 1) (nt + 1) _ _ _ _ _ d2 a1 s1 x1 x2 x3 x4 x5 x6 mk' y' (by omega) (by omega) (by omega) (by omega) (OK_night hO4 (by omega)) e2 q2
end RI1
section RI
variable {R C ho ou eb nt T tl wn : Nat} {a p kN mN : Nat → Nat} {Lm Ls : List Int32} {z : Int32} {told tape d er fo : Nat → Int32}

theorem m_days (hO : OKp R C ho ou eb nt T tl wn a p kN mN Lm Ls) (hM : MDp R C ho ou eb nt T tl wn a p kN mN Lm Ls z told tape d) (hE : EK er fo) {rm rs : Nat} {stM stS ansM ansS : Nat → Int32} (hrm : rm < 10000) (hrs : rs < 10000) (hRM : RP stM Lm) (hRS : RP stS Ls) (hCM : CO Lm 10 rm ansM) (hCS : CO Ls 5 rs ansS) {kind mm : Nat → Int32} (hk : ad kind kN 6) (hm : ad mm mN 6) (x : Int32) (sM : Nat → Int32) (vb va vs vf vo vi : Int32) (mk names : Nat → Int32) :
    ∃ (r z' : Int32) (er' fo' d' ansM' sM' : Nat → Int32) (nt' ho' ou' : Nat) (a' p' : Nat → Nat) (x1 x2 x3 x4 x5 x6 : Int32) (mk' y' : Nat → Int32), f_X11_days x 10000 er (nI T) z kind mm (nI Lm.length) (nI 10) (nI rm) ansM sM stM (nI R) (nI C) (nI ho) (nI ou) (nI nt) (lf a) (lf (opn eb)) (lf p) = some (r, er', z', ansM', sM', nI ho', nI ou', nI nt', lf a', lf p') ∧
      f_X12_days x vb va vs vf vo vi 0 d fo mk names = some (r, x1, x2, x3, x4, x5, x6, d', fo', mk', y') ∧ EK er' fo' ∧ OKp R C ho' ou' eb nt' T tl wn a' p' kN mN Lm Ls ∧ MDp R C ho' ou' eb nt' T tl wn a' p' kN mN Lm Ls z' told tape d' ∧ CO Lm 10 rm ansM' := by
  have hnt : nt ≤ 999 := hO.2.2.2.2.2.2.2.2.2.1
  have hT6 : T ≤ 6 := hO.2.2.2.2.2.2.2.2.2.2.1
  obtain ⟨r, e', f', g1, g2, g3⟩ := err_1 hE
  obtain ⟨r3, e3, f3, k1, k2, k3⟩ := err_3 hE
  have ec : f_X11_days_L44 er z ansM sM (nI ho) (nI ou) (nI nt) (lf a) (lf p) = some (r3, e3, z, ansM, sM, nI ho, nI ou, nI nt, lf a, lf p) := by unfold f_X11_days_L44; rw [k1, px_kb2]
  have em : f_X12_days_L41 vb va vs vf vo vi d fo mk names = some (r3, vb, va, vs, vf, vo, vi, d, f3, mk, names) := by unfold f_X12_days_L41; rw [k2, px_kb2]
  unfold f_X11_days f_X12_days
  rw [wi_b1 x (n := 30) (by decide), in_b1 x (n := 30) (by decide), px_kb, px_kb]
  rcases rng x 30 with ⟨n, hn1, hn30, rfl, hx⟩ | hx
  · rw [hx, i10, i10]
    simp only [c_5, z_5, c_2, z_2, px_nm, hM.2.2.1, hM.2.1, nI_add, show (999 : Int32) - nI n = nI (999 - n) from pk_sub (a := 999) (by omega), ec, em]
    by_cases h : nt + n ≤ 999
    · rw [if_neg (nI_nlt (a := 999 - n) (b := nt) (by omega) (by omega)), if_neg (show ¬ (999 : Int32) < nI (nt + n) from nI_nlt (a := 999) h (by decide))]
      by_cases hT : T = 0
      · rw [hT, if_pos (show nI 0 = 0 from rfl), if_pos (show nI 0 = 0 from rfl)]
        rw [hT] at hO hM
        exact ⟨_, z, e3, f3, d, ansM, sM, nt, ho, ou, a, p, _, _, _, _, _, _, _, _, rfl, rfl, k3, hO, hM, hCM⟩
      · rw [if_neg (show ¬ nI T = 0 from nI_ne0 (by omega) (by omega)), if_neg (show ¬ nI T = 0 from nI_ne0 (by omega) (by omega))]
        obtain ⟨r, z', d', aM', sM', nt', ho', ou', a', p', x1, x2, x3, x4, x5, x6, mk', y', q1, q2, q3, q4, q5⟩ := days_run (er := er) (fo := fo) hk hm hRM hrm (by omega) n hn30 n gFuel gFuel 0 nt ho ou a p z d ansM sM vb va vs vf vo vi mk names (by omega) (by unfold gFuel; omega) (by unfold gFuel; omega) h hO hM hCM
        exact ⟨r, z', er, fo, d', aM', sM', nt', ho', ou', a', p', x1, x2, x3, x4, x5, x6, mk', y', q1, q2, hE, q3, q4, q5⟩
    · rw [if_pos (nI_lt (a := 999 - n) (b := nt) (by omega) (by omega)), if_pos (show (999 : Int32) < nI (nt + n) from nI_lt (a := 999) (by omega) (by omega))]
      exact ⟨_, z, e3, f3, d, ansM, sM, nt, ho, ou, a, p, _, _, _, _, _, _, _, _, rfl, rfl, k3, hO, hM, hCM⟩
  · rw [hx, i00, i00, g1, g2, px_kb2, px_kb2]
    exact ⟨_, z, e', f', d, ansM, sM, nt, ho, ou, a, p, _, _, _, _, _, _, _, _, rfl, rfl, g3, hO, hM, hCM⟩
/-- a fraction in lowest terms -/
def od1 (m : Nat) : Nat := if m = 0 then 0 else if m = 2 then 1 else if m = 4 then 1 else m
def od2 (m : Nat) : Nat := if m = 0 then 1 else if m = 2 then 2 else if m = 4 then 1 else 4
theorem ev2 : ∀ x, x < 5 → (nI x - nI x / 2 * 2 = nI (x % 2) ∧ nI x / 2 = nI (x / 2)) := by decide +kernel
theorem odds_133 (a4 : Int32) (e1 e2 e3 e4 e5 : Nat → Int32) (t1 t2 t3 t4 t5 : Int32) (u1 u2 u3 : Nat → Int32) : ∀ (q f i x y : Nat), i + q = 4 → q < f → x < 5 → y < 5 →
    f_X11_odds_L133 a4 f (nI x) (nI y) (nI i) e1 e2 e3 e4 e5 t1 t2 t3 t4 t5 u1 u2 u3 = (if q ≠ 0 ∧ x % 2 = 0 ∧ y % 2 = 0 then f_X11_odds_L133 a4 (f - 1) (nI (x / 2)) (nI (y / 2)) (nI (i + 1)) e1 e2 e3 e4 e5 t1 t2 t3 t4 t5 u1 u2 u3 else f_X11_odds_L171 a4 (nI x) (nI y) e1 e2 e3 e4 e5 t1 t2 t3 t4 t5 u1 u2 u3) := by
  intro q f i x y hq hf hx hy
  obtain ⟨f', rfl⟩ : ∃ f', f = f' + 1 := ⟨f - 1, by omega⟩
  have c2 : ∀ {β : Type} (k : Option β), chz (2 : Int32) k = k := fun k => px_chz (by decide) k
  obtain ⟨a1, a2⟩ := ev2 x hx
  obtain ⟨b1, b2⟩ := ev2 y hy
  rw [a2] at a1
  rw [b2] at b1
  rw [f_X11_odds_L133]
  by_cases h0 : q = 0
  · have : i = 4 := by omega
    subst this
    rw [if_pos (show (4 : Int32) ≤ nI 4 by decide), if_neg (fun c => c.1 h0)]
  · rw [if_neg (show ¬ (4 : Int32) ≤ nI i from nI_ge (b := 4) (by omega) (by decide))]
    simp only [c2, px_nm, a1, b1, a2, b2, nI_1, Nat.add_sub_cancel]
    by_cases hx2 : x % 2 = 0
    · rw [hx2, if_pos (show nI 0 = 0 from rfl)]
      by_cases hy2 : y % 2 = 0
      · rw [hy2, if_pos (show nI 0 = 0 from rfl), if_pos ⟨h0, rfl, rfl⟩]
      · rw [if_neg (show ¬ nI (y % 2) = 0 from nI_ne0 (by omega) (by omega)), if_neg (fun c => hy2 c.2.2)]
    · rw [if_neg (show ¬ nI (x % 2) = 0 from nI_ne0 (by omega) (by omega)), if_neg (fun c => hx2 c.2.1)]
theorem odds_fin (a4 : Int32) (e1 e2 e3 e4 e5 : Nat → Int32) (t1 t2 t3 t4 t5 : Int32) (u1 u2 u3 : Nat → Int32) {m : Nat} (hm : m < 5) :
    f_X11_odds_L133 a4 gFuel (nI m) 4 0 e1 e2 e3 e4 e5 t1 t2 t3 t4 t5 u1 u2 u3 = some (nI (if a4 = 0 then od1 m else od2 m), e1, e2, e3, e4, e5, t1, t2, t3, t4, t5, u1, u2, u3) := by
  have fin : ∀ x y : Nat, f_X11_odds_L171 a4 (nI x) (nI y) e1 e2 e3 e4 e5 t1 t2 t3 t4 t5 u1 u2 u3 = some (nI (if a4 = 0 then x else y), e1, e2, e3, e4, e5, t1, t2, t3, t4, t5, u1, u2, u3) := by
    intro x y
    unfold f_X11_odds_L171
    by_cases h : a4 = 0
    · rw [if_pos h, if_pos h]
    · rw [if_neg h, if_neg h]
  have s0 := odds_133 a4 e1 e2 e3 e4 e5 t1 t2 t3 t4 t5 u1 u2 u3 4 gFuel 0 m 4 (by omega) (by unfold gFuel; omega) hm (by decide)
  have s0' : f_X11_odds_L133 a4 gFuel (nI m) 4 0 e1 e2 e3 e4 e5 t1 t2 t3 t4 t5 u1 u2 u3 = (if (4 : Nat) ≠ 0 ∧ m % 2 = 0 ∧ 4 % 2 = 0 then f_X11_odds_L133 a4 (gFuel - 1) (nI (m / 2)) (nI (4 / 2)) (nI (0 + 1)) e1 e2 e3 e4 e5 t1 t2 t3 t4 t5 u1 u2 u3 else f_X11_odds_L171 a4 (nI m) (nI 4) e1 e2 e3 e4 e5 t1 t2 t3 t4 t5 u1 u2 u3) := s0
  rw [s0']
  have s1 := odds_133 a4 e1 e2 e3 e4 e5 t1 t2 t3 t4 t5 u1 u2 u3 3 (gFuel - 1) 1 (m / 2) 2 (by omega) (by unfold gFuel; omega) (by omega) (by decide)
  have s2 := odds_133 a4 e1 e2 e3 e4 e5 t1 t2 t3 t4 t5 u1 u2 u3 2 (gFuel - 1 - 1) 2 (m / 2 / 2) 1 (by omega) (by unfold gFuel; omega) (by omega) (by decide)
  match m, hm with
  | 0, _ => rw [if_pos (by decide)]; rw [show 0 / 2 = 0 from rfl, show 4 / 2 = 2 from rfl] at *; rw [s1, if_pos (by decide)]; rw [show 2 / 2 = 1 from rfl]; rw [s2, if_neg (by decide), fin]; rfl
  | 1, _ => rw [if_neg (by decide), fin]; rfl
  | 2, _ => rw [if_pos (by decide)]; rw [show 2 / 2 = 1 from rfl, show 4 / 2 = 2 from rfl] at *; rw [s1, if_neg (by decide), fin]; rfl
  | 3, _ => rw [if_neg (by decide), fin]; rfl
  | 4, _ => rw [if_pos (by decide)]; rw [show 4 / 2 = 2 from rfl] at *; rw [s1, if_pos (by decide)]; rw [show 2 / 2 = 1 from rfl]; rw [s2, if_neg (by decide), fin]; rfl
end RI
