/-! the calls: feed, text -/
section RN0
theorem u63 : (Int64.toUInt64 63).toBitVec = 63#64 := by decide
theorem shr_b (v : Int64) {x : UInt64} {y : Int64} {s : Nat} (hx : (x.toBitVec % 64).toNat = s) (hy : (y.toBitVec.smod 64).toNat = s) (hs : s = 0 ∨ s = 8 ∨ s = 16 ∨ s = 24 ∨ s = 32 ∨ s = 40 ∨ s = 48 ∨ s = 56) :
    ∃ k, k < 256 ∧ (v.toUInt64 >>> x).toInt64.toInt32 &&& 255 = nI k ∧ ((v >>> y) &&& 255).toInt32 = nI k := by
  have hN := v.toBitVec.isLt
  have hk : v.toBitVec.toNat / 2 ^ s % 256 < 2 ^ 32 := Nat.lt_trans (Nat.mod_lt _ (by decide)) (by decide)
  refine ⟨v.toBitVec.toNat / 2 ^ s % 256, Nat.mod_lt _ (by decide), ?_, ?_⟩
  · apply Int32.toBitVec_inj.mp
    apply BitVec.eq_of_toNat_eq
    rw [pk_tn hk]
    have e : ((v.toUInt64 >>> x).toInt64.toInt32 &&& 255 : Int32).toBitVec = (v.toBitVec >>> s).signExtend 32 &&& 255#32 := by
      rw [← hx]
      rfl
    rw [e, BitVec.toNat_and, BitVec.signExtend_eq_setWidth_of_le _ (by decide), BitVec.toNat_setWidth, BitVec.toNat_ushiftRight, Nat.shiftRight_eq_div_pow]
    rw [show (255#32).toNat = 2 ^ 8 - 1 from rfl, Nat.and_two_pow_sub_one_eq_mod]
    omega
  · apply Int32.toBitVec_inj.mp
    apply BitVec.eq_of_toNat_eq
    rw [pk_tn hk]
    have e : ((v >>> y) &&& 255 : Int64).toInt32.toBitVec = (v.toBitVec.sshiftRight s &&& 255#64).signExtend 32 := by
      rw [← hy]
      rfl
    rw [e, BitVec.signExtend_eq_setWidth_of_le _ (by decide), BitVec.toNat_setWidth, BitVec.toNat_and, show (255#64).toNat = 2 ^ 8 - 1 from rfl, Nat.and_two_pow_sub_one_eq_mod]
    have h1 : (v.toBitVec.sshiftRight s).toInt = v.toBitVec.toInt >>> s := BitVec.toInt_sshiftRight
    rw [Int.shiftRight_eq_div_pow, BitVec.toInt_eq_toNat_cond, BitVec.toInt_eq_toNat_cond] at h1
    have hM := (v.toBitVec.sshiftRight s).isLt
    rcases hs with rfl | rfl | rfl | rfl | rfl | rfl | rfl | rfl <;> (split at h1 <;> split at h1 <;> omega)
theorem feed_b (v : Int64) : ∀ i, i < 8 → ∃ k, k < 256 ∧ (v.toUInt64 >>> ((nI (8 * i) : Int32).toInt64.toUInt64 &&& Int64.toUInt64 63)).toInt64.toInt32 &&& 255 = nI k ∧ ((v >>> ((nI (8 * i) : Int32).toInt64 &&& 63)) &&& 255).toInt32 = nI k := by
  intro i hi
  have h1 : ∀ i, i < 8 → (((nI (8 * i) : Int32).toInt64.toUInt64 &&& Int64.toUInt64 63).toBitVec % 64).toNat = 8 * i := by decide +kernel
  have h2 : ∀ i, i < 8 → (((nI (8 * i) : Int32).toInt64 &&& 63).toBitVec.smod 64).toNat = 8 * i := by decide +kernel
  exact shr_b v (h1 i hi) (h2 i hi) (by omega)
theorem LM_mid {u : Nat} (hu : u < 2) {L : List Int32} {d d' : Nat → Int32} (h : LM u L d) (h1 : d' (72 + u) = d (72 + u)) (hs : ∀ i, i < 50 → d' (94 + 50 * u + i) = d (94 + 50 * u + i)) : LM u L d' := by
  rcases h with ⟨q1, h2⟩ | ⟨n, b, h0, q1, ⟨t1, t2, t3, t4⟩, h3⟩
  · exact Or.inl ⟨by rw [h1]; exact q1, h2⟩
  · exact Or.inr ⟨n, b, h0, by rw [h1]; exact q1, ⟨t1, t2, fun i hi => by rw [hs i (by omega)]; exact t3 i hi, t4⟩, h3⟩
theorem text_70 (u n : Nat) (hu : u < 2) (hn : n ≤ 50) (vb va vs vf vo vi : Int32) (fo : Nat → Int32) : ∀ (q f i : Nat) (d : Nat → Int32), i + q = n → q < f → ∃ d', f_X12_text_L70 (nI u) f (nI n) (nI i) vb va vs vf vo vi d fo = some (1, vb, va, vs, vf, vo, vi, d', fo) ∧ (∀ k, i ≤ k → k < n → d' (94 + 50 * u + k) = d (194 + k)) ∧ ∀ j, ¬ (94 + 50 * u + i ≤ j ∧ j < 94 + 50 * u + n) → d' j = d j := by
  intro q
  induction q with
  | zero =>
    intro f i d hq hf
    obtain ⟨f', rfl⟩ : ∃ f', f = f' + 1 := ⟨f - 1, by omega⟩
    have : i = n := by omega
    subst this
    unfold f_X12_text_L70
    rw [if_pos (show nI i ≤ nI i from Int32.le_refl _)]
    exact ⟨d, rfl, fun k h1 h2 => absurd h1 (by omega), fun _ _ => rfl⟩
  | succ q ih =>
    intro f i d hq hf
    obtain ⟨f', rfl⟩ : ∃ f', f = f' + 1 := ⟨f - 1, by omega⟩
    have e1 : (94 : Int32) + 50 * nI u + nI i = nI (94 + 50 * u + i) := by
      rw [show (50 : Int32) * nI u = nI (50 * u) from pk_mul 50 u, show (94 : Int32) + nI (50 * u) = nI (94 + 50 * u) from nI_add 94 _, nI_add]
    have e2 : (194 : Int32) + nI i = nI (194 + i) := nI_add 194 _
    unfold f_X12_text_L70
    rw [if_neg (nI_ge (a := i) (b := n) (by omega) (by omega))]
    simp only [px_nm, e1, e2, ch_d (show 194 + i < 244 by omega), ch_d (show 94 + 50 * u + i < 244 by omega), nI_clamp (show 194 + i < 2 ^ 31 by omega), nI_clamp (show 94 + 50 * u + i < 2 ^ 31 by omega), nI_1]
    obtain ⟨d', g1, g2, g3⟩ := ih f' (i + 1) (upd d (94 + 50 * u + i) (d (194 + i))) (by omega) (by omega)
    refine ⟨d', g1, fun k h1 h2 => ?_, fun j hj => ?_⟩
    · by_cases e : k = i
      · subst e
        rw [g3 _ (by omega)]
        exact if_pos rfl
      · rw [g2 k (by omega) h2]
        exact if_neg (by omega)
    · rw [g3 j (by omega)]
      exact if_neg (by omega)
theorem po_0 (u : Nat) (b : Nat → Int32) : po u b 0 0 [] [] 0 0 true = (0, none) := rfl
end RN0
section RN
variable {R C ho ou eb nt T tl wn : Nat} {a p kN mN : Nat → Nat} {Lm Ls : List Int32} {z : Int32} {told tape d er fo : Nat → Int32}

theorem MD_byte (hM : MDp R C ho ou eb nt T tl wn a p kN mN Lm Ls z told tape d) (htl : tl < 50) {k : Nat} (hk : k < 256) : MDp R C ho ou eb nt T (tl + 1) wn a p kN mN Lm Ls z told (upd tape tl (nI k)) (upd (upd d (194 + tl) (nI k)) 7 (nI (tl + 1))) := by
  obtain ⟨⟨w0, w1, w3, w4, w9, wa, wp⟩, q2, q5, q6, q7, q8, hT, hL0, hL1, ht, htp⟩ := hM
  have hn : ∀ j, j ≠ 7 → j ≠ 194 + tl → upd (upd d (194 + tl) (nI k)) 7 (nI (tl + 1)) j = d j := fun j h1 h2 => (if_neg h1).trans (if_neg h2)
  refine ⟨⟨by rw [hn _ (by omega) (by omega)]; exact w0, by rw [hn _ (by omega) (by omega)]; exact w1, by rw [hn _ (by omega) (by omega)]; exact w3, by rw [hn _ (by omega) (by omega)]; exact w4, by rw [hn _ (by omega) (by omega)]; exact w9, fun j hj => by rw [hn _ (by omega) (by omega)]; exact wa j hj, fun j hj => by rw [hn _ (by omega) (by omega)]; exact wp j hj⟩, by rw [hn 2 (by omega) (by omega)]; exact q2, by rw [hn 5 (by omega) (by omega)]; exact q5, by rw [hn 6 (by omega) (by omega)]; exact q6, if_pos rfl, by rw [hn 8 (by omega) (by omega)]; exact q8, fun j hj => ⟨by rw [hn _ (by omega) (by omega)]; exact (hT j hj).1, by rw [hn _ (by omega) (by omega)]; exact (hT j hj).2⟩, LM_mid (by decide) hL0 (hn _ (by omega) (by omega)) (fun i hi => hn _ (by omega) (by omega)), LM_mid (by decide) hL1 (hn _ (by omega) (by omega)) (fun i hi => hn _ (by omega) (by omega)), fun j hj => by rw [hn _ (by omega) (by omega)]; exact ht j hj, fun j hj => ?_⟩
  by_cases e : j = tl
  · subst e
    exact ⟨((if_neg (by omega)).trans (if_pos rfl)).trans (if_pos rfl).symm, k, hk, if_pos rfl⟩
  · obtain ⟨u1, k', u2, u3⟩ := htp j hj
    exact ⟨((hn _ (by omega) (by omega)).trans u1).trans (if_neg e).symm, k', u2, (if_neg e).trans u3⟩
theorem OK_tl {tl' : Nat} (hO : OKp R C ho ou eb nt T tl wn a p kN mN Lm Ls) (h : tl' ≤ 50) : OKp R C ho ou eb nt T tl' wn a p kN mN Lm Ls := by
  obtain ⟨o1, o2, o3, o4, o5, o6, o7, o8, o9, o10, o11, o12, o13⟩ := hO
  exact ⟨o1, o2, o3, o4, o5, o6, o7, o8, o9, o10, o11, h, o13⟩
theorem feed_run (v : Int64) {n : Nat} (hn : n ≤ 8) (er fo : Nat → Int32) : ∀ (q f f' i tl : Nat) (tape d : Nat → Int32), i + q = n → tl + q ≤ 50 → q < f → q < f' → OKp R C ho ou eb nt T tl wn a p kN mN Lm Ls → MDp R C ho ou eb nt T tl wn a p kN mN Lm Ls z told tape d →
    ∃ (tl' : Nat) (tape' d' : Nat → Int32), f_X11_feed_L39 v (nI n) f (nI i) er (nI tl) tape = some (nI tl', er, nI tl', tape') ∧ f_X12_feed_L41 v (nI n) f' (nI i) d fo = some (nI tl', d', fo) ∧ OKp R C ho ou eb nt T tl' wn a p kN mN Lm Ls ∧ MDp R C ho ou eb nt T tl' wn a p kN mN Lm Ls z told tape' d' := by
  intro q
  induction q with
  | zero =>
    intro f f' i tl tape d hq ht hf hf' hO hM
    obtain ⟨f1, rfl⟩ : ∃ f1, f = f1 + 1 := ⟨f - 1, by omega⟩
    obtain ⟨f2, rfl⟩ : ∃ f1, f' = f1 + 1 := ⟨f' - 1, by omega⟩
    have : i = n := by omega
    subst this
    unfold f_X11_feed_L39 f_X12_feed_L41
    rw [if_pos (show nI i ≤ nI i from Int32.le_refl _), if_pos (show nI i ≤ nI i from Int32.le_refl _), c_7, z_7, hM.2.2.2.2.1]
    exact ⟨tl, tape, d, rfl, rfl, hO, hM⟩
  | succ q ih =>
    intro f f' i tl tape d hq ht hf hf' hO hM
    obtain ⟨f1, rfl⟩ : ∃ f1, f = f1 + 1 := ⟨f - 1, by omega⟩
    obtain ⟨f2, rfl⟩ : ∃ f1, f' = f1 + 1 := ⟨f' - 1, by omega⟩
    obtain ⟨k, k1, k2, k3⟩ := feed_b v i (by omega)
    have e8 : (8 : Int32) * nI i = nI (8 * i) := pk_mul 8 i
    have e2 : (194 : Int32) + nI tl = nI (194 + tl) := nI_add 194 _
    have h7 : d 7 = nI tl := hM.2.2.2.2.1
    have h7' : upd d (194 + tl) (nI k) 7 = nI tl := (if_neg (by omega)).trans h7
    have had : f_X7_addByte (nI k) (nI tl) tape = some (nI (tl + 1), upd tape tl (nI k)) := by
      unfold f_X7_addByte
      rw [show f_X11_within (nI tl) 0 49 = some (bI (nI tl) 50) from within_n _ 49 (by decide), px_kb, bI_nI (by omega) (by decide), i10, px_in (show tl < 50 by omega) (by decide), px_nm, px_nm, nI_clamp (by omega), nI_1]
    unfold f_X11_feed_L39 f_X12_feed_L41
    rw [if_neg (nI_ge (a := i) (b := n) (by omega) (by omega)), if_neg (nI_ge (a := i) (b := n) (by omega) (by omega))]
    simp only [c_7, z_7, px_nm, h7, e8, e2, k2, k3, had, px_kb2, ch_d (show 194 + tl < 244 by omega), nI_clamp (show 194 + tl < 2 ^ 31 by omega), h7', nI_1]
    exact ih f1 f2 (i + 1) (tl + 1) _ _ (by omega) (by omega) (by omega) (by omega) (OK_tl hO (by omega)) (MD_byte hM (by omega) k1)
theorem m_feed (hO : OKp R C ho ou eb nt T tl wn a p kN mN Lm Ls) (hM : MDp R C ho ou eb nt T tl wn a p kN mN Lm Ls z told tape d) (hE : EK er fo) (v : Int64) (y : Int32) :
    ∃ (r : Int32) (er' fo' d' tape' : Nat → Int32) (tl' : Nat), f_X11_feed v y er (nI tl) tape = some (r, er', nI tl', tape') ∧ f_X12_feed v y d fo = some (r, d', fo') ∧ EK er' fo' ∧ OKp R C ho ou eb nt T tl' wn a p kN mN Lm Ls ∧ MDp R C ho ou eb nt T tl' wn a p kN mN Lm Ls z told tape' d' := by
  have htl : tl ≤ 50 := hO.2.2.2.2.2.2.2.2.2.2.2.1
  obtain ⟨r, e', f', g1, g2, g3⟩ := err_1 hE
  obtain ⟨r4, e4, f4, k1, k2, k3⟩ := err_4 hE
  have h7 : d 7 = nI tl := hM.2.2.2.2.1
  unfold f_X11_feed f_X12_feed
  rw [wi_b1 y (n := 8) (by decide), in_b1 y (n := 8) (by decide), px_kb, px_kb]
  by_cases hy : 1 ≤ y.toInt ∧ y.toInt ≤ 8
  · obtain ⟨n, hn1, hn8, rfl⟩ : ∃ n, 1 ≤ n ∧ n ≤ 8 ∧ y = nI n := ⟨y.toInt.toNat, by omega, by omega, by
      apply Int32.toInt_inj.mp
      rw [nI_toInt (by omega)]
      omega⟩
    rw [show b1 (nI n) 8 = 1 from if_pos hy, i10, i10]
    simp only [c_7, z_7, px_nm, h7, nI_add]
    have e1 : nI tl ≤ 50 - nI n ↔ tl + n ≤ 50 := by
      rw [show (50 : Int32) - nI n = nI (50 - n) from pk_sub (a := 50) (by omega)]
      constructor
      · intro q
        refine Classical.byContradiction fun h => ?_
        exact absurd q (nI_ge (by omega) (by omega))
      · intro q
        exact nI_le (by omega) (by omega)
    by_cases hs : tl + n ≤ 50
    · rw [if_pos (e1.mpr hs), if_pos (show nI (tl + n) ≤ (50 : Int32) from nI_le (b := 50) hs (by decide))]
      obtain ⟨tl', tape', d', q1, q2, q3, q4⟩ := feed_run v hn8 er fo n gFuel gFuel 0 tl tape d (by omega) hs (by unfold gFuel; omega) (by unfold gFuel; omega) hO hM
      rw [nI_0] at q1 q2
      exact ⟨_, er, fo, d', tape', tl', q1, q2, hE, q3, q4⟩
    · rw [if_neg (fun q => hs (e1.mp q)), if_neg (show ¬ nI (tl + n) ≤ (50 : Int32) from nI_ge (a := 50) (by omega) (by omega)), k1, k2, px_kb2, px_kb2]
      exact ⟨r4, e4, f4, d, tape, tl, rfl, rfl, k3, hO, hM⟩
  · rw [show b1 y 8 = 0 from if_neg hy, i00, i00, g1, g2, px_kb2, px_kb2]
    exact ⟨r, e', f', d, tape, tl, rfl, rfl, g3, hO, hM⟩
end RN
