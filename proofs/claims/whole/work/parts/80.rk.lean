/-! the calls: sheets -/
section RK0
/-- numbers that stand for one another: alike from 0 to 99, and neither else -/
def NR (x y : Int32) : Prop := (∃ a, a ≤ 99 ∧ x = nI a ∧ y = nI a) ∨ ((∀ a, a ≤ 99 → x ≠ nI a) ∧ ∀ a, a ≤ 99 → y ≠ nI a)
theorem NR_eq {x y : Int32} (h : NR x y) {a : Nat} (ha : a ≤ 99) : x = nI a ↔ y = nI a := by
  rcases h with ⟨b, hb, rfl, rfl⟩ | ⟨h1, h2⟩
  · exact Iff.rfl
  · exact ⟨fun q => absurd q (h1 a ha), fun q => absurd q (h2 a ha)⟩
theorem NR_0 : NR 0 0 := Or.inl ⟨0, by decide, rfl, rfl⟩
theorem NR_in {x y : Int32} (h : NR x y) : bI x 100 = bI y 100 ∧ (vp_in x 100 → ∃ a, a ≤ 99 ∧ x = nI a ∧ y = nI a) := by
  rcases h with ⟨b, hb, rfl, rfl⟩ | ⟨h1, h2⟩
  · exact ⟨rfl, fun _ => ⟨b, hb, rfl, rfl⟩⟩
  · have n1 : ¬ vp_in x 100 := fun q => by
      obtain ⟨j, hj, rfl⟩ := vp_in_of q (by decide)
      exact h1 j (by omega) rfl
    have n2 : ¬ vp_in y 100 := fun q => by
      obtain ⟨j, hj, rfl⟩ := vp_in_of q (by decide)
      exact h2 j (by omega) rfl
    exact ⟨by rw [bI_out n1, bI_out n2], fun q => absurd q n1⟩
theorem NR_of {x y : Int32} (h : ∀ a : Nat, a ≤ 99 → (x = nI a ↔ y = nI a)) : NR x y := by
  by_cases hx : ∃ a, a ≤ 99 ∧ x = nI a
  · obtain ⟨a, ha, e⟩ := hx
    exact Or.inl ⟨a, ha, e, (h a ha).mp e⟩
  · exact Or.inr ⟨fun a ha q => hx ⟨a, ha, q⟩, fun a ha q => hx ⟨a, ha, (h a ha).mpr q⟩⟩
theorem low_bits (v s t : Int32) (k : Nat) (hk : k ≤ 32) (hs : (s.toBitVec.smod 32).toNat = k) (ht : ((t.toUInt32 &&& Int32.toUInt32 31).toBitVec % 32).toNat = k) : ((v <<< s).toUInt32 >>> (t.toUInt32 &&& Int32.toUInt32 31)).toInt32 = nI (v.toBitVec.toNat * 2 ^ k % 2 ^ 32 / 2 ^ k) := by
  apply Int32.toBitVec_inj.mp
  apply BitVec.eq_of_toNat_eq
  have h1 : v.toBitVec.toNat * 2 ^ k % 2 ^ 32 / 2 ^ k < 2 ^ 32 := Nat.lt_of_le_of_lt (Nat.div_le_self _ _) (Nat.mod_lt _ (by decide))
  rw [pk_ushr _ t k ht, pk_shl _ s k hs, pk_tn h1]
theorem toInt_n (v : Int32) : v.toInt = if v.toBitVec.toNat < 2 ^ 31 then (v.toBitVec.toNat : Int) else (v.toBitVec.toNat : Int) - 2 ^ 32 := by
  show v.toBitVec.toInt = _
  rw [BitVec.toInt_eq_toNat_cond]
  by_cases h : v.toBitVec.toNat < 2 ^ 31
  · rw [if_pos (by omega), if_pos h]
  · rw [if_neg (by omega), if_neg h]
    rfl
theorem put_8 (v : Int32) : NR (((v <<< ((32 - 8 : Int32) &&& 31)).toUInt32 >>> (Int32.toUInt32 (32 - 8) &&& Int32.toUInt32 31)).toInt32) v.toInt8.toInt32 := by
  have hb := v.toBitVec.isLt
  rw [low_bits v _ (32 - 8) 24 (by decide) (by decide) (by decide)]
  apply NR_of
  intro a ha
  have e1 : v.toBitVec.toNat * 2 ^ 24 % 2 ^ 32 / 2 ^ 24 = v.toBitVec.toNat % 256 := by omega
  rw [e1]
  have e2 : v.toInt8.toInt32.toInt = v.toInt.bmod (2 ^ 8) := by rw [Int8.toInt_toInt32, Int32.toInt_toInt8]
  have hv := toInt_n v
  rw [Int.bmod_def] at e2
  constructor
  · intro q
    have q1 := (nI_eq (by omega) (by omega)).mp q
    apply Int32.toInt_inj.mp
    rw [nI_toInt (by omega), e2]
    split at hv <;> split <;> omega
  · intro q
    rw [q, nI_toInt (by omega)] at e2
    apply (nI_eq (by omega) (by omega)).mpr
    split at hv <;> split at e2 <;> omega
theorem put_16 (v : Int32) : NR (((v <<< ((32 - 16 : Int32) &&& 31)).toUInt32 >>> (Int32.toUInt32 (32 - 16) &&& Int32.toUInt32 31)).toInt32) v.toInt16.toInt32 := by
  have hb := v.toBitVec.isLt
  rw [low_bits v _ (32 - 16) 16 (by decide) (by decide) (by decide)]
  apply NR_of
  intro a ha
  have e1 : v.toBitVec.toNat * 2 ^ 16 % 2 ^ 32 / 2 ^ 16 = v.toBitVec.toNat % 65536 := by omega
  rw [e1]
  have e2 : v.toInt16.toInt32.toInt = v.toInt.bmod (2 ^ 16) := by rw [Int16.toInt_toInt32, Int32.toInt_toInt16]
  have hv := toInt_n v
  rw [Int.bmod_def] at e2
  constructor
  · intro q
    have q1 := (nI_eq (by omega) (by omega)).mp q
    apply Int32.toInt_inj.mp
    rw [nI_toInt (by omega), e2]
    split at hv <;> split <;> omega
  · intro q
    rw [q, nI_toInt (by omega)] at e2
    apply (nI_eq (by omega) (by omega)).mpr
    split at hv <;> split at e2 <;> omega
theorem put_32 (v : Int32) : NR (((v <<< ((32 - 32 : Int32) &&& 31)).toUInt32 >>> (Int32.toUInt32 (32 - 32) &&& Int32.toUInt32 31)).toInt32) v := by
  have hb := v.toBitVec.isLt
  rw [low_bits v _ (32 - 32) 0 (by decide) (by decide) (by decide)]
  have e1 : v.toBitVec.toNat * 2 ^ 0 % 2 ^ 32 / 2 ^ 0 = v.toBitVec.toNat := by omega
  rw [e1]
  have e2 : nI v.toBitVec.toNat = v := by
    apply Int32.toBitVec_inj.mp
    apply BitVec.eq_of_toNat_eq
    rw [pk_tn hb]
  rw [e2]
  exact NR_of (fun a _ => Iff.rfl)
/-- the sheets of both -/
def SH (bits len : Nat → Int32) (nums : Nat → Nat → Int32) (bo so nu : Nat → Int32) : Prop :=
  (∀ s, s < 4 → bits s = bo s ∧ (bits s = 0 ∨ bits s = 8 ∨ bits s = 16 ∨ bits s = 32) ∧ ∃ l, l ≤ 40 ∧ len s = nI l ∧ so s = nI l) ∧ ∀ s, s < 4 → ∀ i, i < 40 → NR (nums s i) (nu (40 * s + i))
theorem e40 (s i : Nat) : (40 : Int32) * nI s + nI i = nI (40 * s + i) := by
  rw [show (40 : Int32) * nI s = nI (40 * s) from pk_mul 40 s, nI_add]
theorem miss_c {s : Nat} (hs : s < 4) (bits : Nat → Int32) : f_X11_isMissing (nI s) bits = some (if bits s = 0 then 1 else 0) := by
  unfold f_X11_isMissing
  rw [px_in hs (by decide), nI_clamp (by omega)]
  split <;> rfl
end RK0
section RK1
variable {er fo bits len bo so nu : Nat → Int32} {nums : Nat → Nat → Int32}
theorem sheet_90 (s : Nat) (hs : s < 4) (bo fo so : Nat → Int32) : ∀ (q f x : Nat) (nu : Nat → Int32), x + q = 40 → q < f → ∃ nu', f_X12_sheet_L90 (nI s) f (nI x) bo fo nu so = some (1, bo, fo, nu', so) ∧ ∀ j, nu' j = if 40 * s + x ≤ j ∧ j < 40 * s + 40 then 0 else nu j := by
  intro q
  induction q with
  | zero =>
    intro f x nu hq hf
    obtain ⟨f', rfl⟩ : ∃ f', f = f' + 1 := ⟨f - 1, by omega⟩
    have : x = 40 := by omega
    subst this
    unfold f_X12_sheet_L90
    rw [if_pos (show (40 : Int32) ≤ nI 40 by decide)]
    exact ⟨nu, rfl, fun j => (if_neg (by omega)).symm⟩
  | succ q ih =>
    intro f x nu hq hf
    obtain ⟨f', rfl⟩ : ∃ f', f = f' + 1 := ⟨f - 1, by omega⟩
    unfold f_X12_sheet_L90
    rw [if_neg (show ¬ (40 : Int32) ≤ nI x from nI_ge (b := 40) (by omega) (by decide))]
    simp only [px_nm, e40, px_in (show 40 * s + x < 160 by omega) (show 160 < 2 ^ 31 by decide), nI_clamp (show 40 * s + x < 2 ^ 31 by omega), nI_1]
    obtain ⟨nu', h1, h2⟩ := ih f' (x + 1) (upd nu (40 * s + x) 0) (by omega) (by omega)
    refine ⟨nu', h1, fun j => ?_⟩
    rw [h2]
    by_cases e : j = 40 * s + x
    · subst e
      rw [if_neg (by omega), if_pos (by omega)]
      exact if_pos rfl
    · rw [show upd nu (40 * s + x) 0 j = nu j from if_neg e]
      by_cases h : 40 * s + x ≤ j ∧ j < 40 * s + 40
      · rw [if_pos h, if_pos (by omega)]
      · rw [if_neg h, if_neg (by omega)]
theorem m_sheet (hE : EK er fo) (hS : SH bits len nums bo so nu) (x y z : Int32) :
    ∃ (r : Int32) (er' fo' bits' len' bo' so' nu' : Nat → Int32) (nums' : Nat → Nat → Int32), f_X11_sheet x y z er bits len nums = some (r, er', bits', len', nums') ∧ f_X12_sheet x y z bo fo nu so = some (r, bo', fo', nu', so') ∧ EK er' fo' ∧ SH bits' len' nums' bo' so' nu' := by
  obtain ⟨r, e', f', g1, g2, g3⟩ := err_1 hE
  obtain ⟨r3, e3, f3, k1, k2, k3⟩ := err_3 hE
  have bad : ∃ (r : Int32) (er' fo' bits' len' bo' so' nu' : Nat → Int32) (nums' : Nat → Nat → Int32), f_X11_sheet_L29 er bits len nums = some (r, er', bits', len', nums') ∧ f_X12_sheet_L29 bo fo nu so = some (r, bo', fo', nu', so') ∧ EK er' fo' ∧ SH bits' len' nums' bo' so' nu' := by
    unfold f_X11_sheet_L29 f_X12_sheet_L29
    rw [g1, g2, px_kb2, px_kb2]
    exact ⟨r, e', f', bits, len, bo, so, nu, nums, rfl, rfl, g3, hS⟩
  unfold f_X11_sheet f_X12_sheet
  rw [isSheet_c, isSheet_m, px_kb, px_kb]
  by_cases hx : vp_in x 4
  · obtain ⟨s, hs, rfl⟩ := vp_in_of hx (by decide)
    rw [bI_in hx, i10, i10]
    have done : ∀ (l : Nat) (w : Int32), l ≤ 40 → w = nI l → (y = 0 ∨ y = 8 ∨ y = 16 ∨ y = 32) → ∃ (r : Int32) (er' fo' bits' len' bo' so' nu' : Nat → Int32) (nums' : Nat → Nat → Int32), f_X11_sheet_L86 (nI s) (nI s) w er (upd bits s y) len nums = some (r, er', bits', len', nums') ∧ f_X12_sheet_L90 (nI s) gFuel 0 (upd bo s y) fo nu (upd so s w) = some (r, bo', fo', nu', so') ∧ EK er' fo' ∧ SH bits' len' nums' bo' so' nu' := by
      intro l w hl hw hy
      subst hw
      obtain ⟨A, q1, q2⟩ := fill_eq 0 40 (by decide) (nums s)
      obtain ⟨nu', q3, q4⟩ := sheet_90 s hs (upd bo s y) fo (upd so s (nI l)) 40 gFuel 0 nu (by omega) (by unfold gFuel; omega)
      have q3' : f_X12_sheet_L90 (nI s) gFuel 0 (upd bo s y) fo nu (upd so s (nI l)) = some (1, upd bo s y, fo, nu', upd so s (nI l)) := q3
      unfold f_X11_sheet_L86
      rw [px_in hs (by decide), px_nm, px_in hs (by decide), nI_clamp (by omega), q1, px_kb, q3']
      refine ⟨1, er, fo, _, _, _, _, nu', _, rfl, rfl, hE, fun j hj => ?_, fun j hj i hi => ?_⟩
      · obtain ⟨h1, h2, l', h3, h4, h5⟩ := hS.1 j hj
        by_cases e : j = s
        · subst e
          rw [show ∀ (f : Nat → Int32) (v : Int32), upd f j v j = v from fun f v => if_pos rfl, show ∀ (f : Nat → Int32) (v : Int32), upd f j v j = v from fun f v => if_pos rfl]
          exact ⟨rfl, hy, l, hl, if_pos rfl, if_pos rfl⟩
        · rw [show upd bits s y j = bits j from if_neg e, show upd bo s y j = bo j from if_neg e]
          exact ⟨h1, h2, l', h3, (if_neg e).trans h4, (if_neg e).trans h5⟩
      · by_cases e : j = s
        · subst e
          rw [va_up_at, q2, if_pos hi, q4, if_pos (by omega)]
          exact NR_0
        · rw [vu_ne _ _ e, q4, if_neg (by omega)]
          exact hS.2 j hj i hi
    have main : (y = 0 ∨ y = 8 ∨ y = 16 ∨ y = 32) → ∃ (r : Int32) (er' fo' bits' len' bo' so' nu' : Nat → Int32) (nums' : Nat → Nat → Int32), f_X11_sheet_L35 (nI s) y z er bits len nums = some (r, er', bits', len', nums') ∧ f_X12_sheet_L35 (nI s) y z bo fo nu so = some (r, bo', fo', nu', so') ∧ EK er' fo' ∧ SH bits' len' nums' bo' so' nu' := by
      intro hy
      unfold f_X11_sheet_L35 f_X12_sheet_L35 f_X11_sheet_L49 f_X12_sheet_L49 f_X11_sheet_L65 f_X12_sheet_L65
      simp only [px_in hs (show 4 < 2 ^ 31 by decide), px_nm, nI_clamp (show s < 2 ^ 31 by omega)]
      by_cases h0 : y = 0
      · simp only [if_pos h0]
        exact done 0 0 (by decide) rfl hy
      · simp only [if_neg h0]
        by_cases hz : 0 ≤ z
        · rw [if_pos hz, if_pos hz]
          by_cases h40 : z ≤ 40
          · have z0 : (0 : Int32).toInt = 0 := by decide
            have z40 : (40 : Int32).toInt = 40 := by decide
            have a1 := Int32.le_iff_toInt_le.mp hz
            have a2 := Int32.le_iff_toInt_le.mp h40
            obtain ⟨l, hl, rfl, hl2⟩ := ti_nI z (by omega)
            rw [if_pos h40, if_pos h40]
            exact done l (nI l) (by omega) rfl hy
          · rw [if_neg h40, if_neg h40, g1, g2, px_kb2, px_kb2]
            exact ⟨r, e', f', bits, len, bo, so, nu, nums, rfl, rfl, g3, hS⟩
        · rw [if_neg hz, if_neg hz, k1, k2, px_kb2, px_kb2]
          exact ⟨r3, e3, f3, bits, len, bo, so, nu, nums, rfl, rfl, k3, hS⟩
    by_cases h0 : y = 0
    · rw [if_pos h0, if_pos h0]; exact main (Or.inl h0)
    rw [if_neg h0, if_neg h0]
    by_cases h8 : y = 8
    · rw [if_pos h8, if_pos h8]; exact main (Or.inr (Or.inl h8))
    rw [if_neg h8, if_neg h8]
    by_cases h16 : y = 16
    · rw [if_pos h16, if_pos h16]; exact main (Or.inr (Or.inr (Or.inl h16)))
    rw [if_neg h16, if_neg h16]
    by_cases h32 : y = 32
    · rw [if_pos h32, if_pos h32]; exact main (Or.inr (Or.inr (Or.inr h32)))
    rw [if_neg h32, if_neg h32]
    exact bad
  · rw [bI_out hx, i00, i00]; exact bad
theorem m_put (hE : EK er fo) (hS : SH bits len nums bo so nu) (x y v : Int32) :
    ∃ (r : Int32) (er' fo' nu' : Nat → Int32) (nums' : Nat → Nat → Int32), f_X11_put x y v er bits len nums = some (r, er', nums') ∧ f_X12_put x y v bo fo nu so = some (r, fo', nu') ∧ EK er' fo' ∧ SH bits len nums' bo so nu' := by
  obtain ⟨r, e', f', g1, g2, g3⟩ := err_1 hE
  obtain ⟨r2, e2, f2, k1, k2, k3⟩ := err_2 hE
  unfold f_X11_put f_X12_put
  rw [isSheet_c, isSheet_m, px_kb, px_kb]
  by_cases hx : vp_in x 4
  · obtain ⟨s, hs, rfl⟩ := vp_in_of hx (by decide)
    obtain ⟨h1, h2, l, h3, h4, h5⟩ := hS.1 s hs
    rw [bI_in hx, i10, i10, miss_c hs, px_kb]
    simp only [px_in hs (show 4 < 2 ^ 31 by decide), px_nm, nI_clamp (show s < 2 ^ 31 by omega), h1.symm, h4, h5]
    by_cases hb : bits s = 0
    · rw [if_pos hb, if_pos hb, i10, k1, k2, px_kb2, px_kb2]
      exact ⟨r2, e2, f2, nu, nums, rfl, rfl, k3, hS⟩
    · rw [if_neg hb, if_neg hb, i00, wi_m1 y (by omega), in_m1 y (by omega), px_kb, px_kb]
      by_cases hy : vp_in y l
      · obtain ⟨i, hi, rfl⟩ := vp_in_of hy (by omega)
        rw [bI_in hy, i10, i10]
        have fin : ∀ X Y : Int32, NR X Y → ∃ (r : Int32) (er' fo' nu' : Nat → Int32) (nums' : Nat → Nat → Int32), (some (1, er, va_up nums s (upd (nums s) i X)) : Option (Int32 × (Nat → Int32) × (Nat → Nat → Int32))) = some (r, er', nums') ∧ (some (1, fo, upd nu (40 * s + i) Y) : Option (Int32 × (Nat → Int32) × (Nat → Int32))) = some (r, fo', nu') ∧ EK er' fo' ∧ SH bits len nums' bo so nu' := by
          intro X Y hXY
          refine ⟨1, er, fo, _, _, rfl, rfl, hE, hS.1, fun j hj k hk => ?_⟩
          by_cases e : j = s
          · subst e
            rw [va_up_at]
            by_cases e2 : k = i
            · subst e2
              rw [show upd (nums j) k X k = X from if_pos rfl, show upd nu (40 * j + k) Y (40 * j + k) = Y from if_pos rfl]
              exact hXY
            · rw [show upd (nums j) i X k = nums j k from if_neg e2, show upd nu (40 * j + i) Y (40 * j + k) = nu (40 * j + k) from if_neg (by omega)]
              exact hS.2 j hj k hk
          · rw [vu_ne _ _ e, show upd nu (40 * s + i) Y (40 * j + k) = nu (40 * j + k) from if_neg (by omega)]
            exact hS.2 j hj k hk
        simp only [px_in (show i < 40 by omega) (show 40 < 2 ^ 31 by decide), nI_clamp (show i < 2 ^ 31 by omega), e40, px_in (show 40 * s + i < 160 by omega) (show 160 < 2 ^ 31 by decide), nI_clamp (show 40 * s + i < 2 ^ 31 by omega)]
        rcases h2 with q | q | q | q
        · exact absurd q hb
        · rw [q, if_pos rfl]
          exact fin _ _ (put_8 v)
        · rw [q, if_neg (by decide), if_pos rfl]
          exact fin _ _ (put_16 v)
        · rw [q, if_neg (by decide), if_neg (by decide)]
          exact fin _ _ (put_32 v)
      · rw [bI_out hy, i00, i00, g1, g2, px_kb2, px_kb2]
        exact ⟨r, e', f', nu, nums, rfl, rfl, g3, hS⟩
  · rw [bI_out hx, i00, i00, g1, g2, px_kb2, px_kb2]
    exact ⟨r, e', f', nu, nums, rfl, rfl, g3, hS⟩
end RK1
