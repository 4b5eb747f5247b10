/-! the pure part: numbers -/
theorem pl_lit (n : Nat) : (OfNat.ofNat n : Int32) = nI n := rfl
theorem px_in {n N : Nat} (h : n < N) (hN : N < 2 ^ 31) {β : Type} (k : Option β) : chi (nI n) N k = k := if_neg (vp_in_nI h hN)
theorem px_nm {α β : Type} (x : α) (k : α → Option β) : nm x k = k x := Eq.trans rfl rfl
theorem px_kb {α β : Type} (x : α) (k : α → Option β) : kb (some x) k = k x := Eq.trans rfl rfl
theorem px_chz {β : Type} {y : Int32} (h : ¬ y = 0) (k : Option β) : chz y k = k := if_neg h
theorem px_chb0 {β : Type} (k : Option β) : chb 0 k = k := if_pos (Or.inl rfl)
theorem px_chb1 {β : Type} (k : Option β) : chb 1 k = k := if_pos (Or.inr rfl)
/-- lifted rows of numbers -/
def lf (f : Nat → Nat) : Nat → Int32 := fun j => nI (f j)
theorem lf_at (f : Nat → Nat) (j : Nat) : lf f j = nI (f j) := Eq.trans rfl rfl
theorem lf_up (f : Nat → Nat) (k x : Nat) : upd (lf f) k (nI x) = lf (va_up f k x) := by
  funext j
  unfold upd lf va_up
  by_cases h : j = k
  · rw [if_pos h, if_pos h]
  · rw [if_neg h, if_neg h]
theorem lf_cpy (f g : Nat → Nat) (a b n : Nat) : va_cpy (lf f) (lf g) a b n = lf (va_cpy f g a b n) := by
  funext j
  show (if b ≤ j ∧ j < b + n then lf f (a + (j - b)) else lf g j) = nI (if b ≤ j ∧ j < b + n then f (a + (j - b)) else g j)
  by_cases h : b ≤ j ∧ j < b + n
  · rw [if_pos h, if_pos h]; rfl
  · rw [if_neg h, if_neg h]; rfl
theorem ti_nI (x : Int32) (h : 0 ≤ x.toInt) : ∃ j : Nat, j < 2 ^ 31 ∧ x = nI j ∧ x.toInt = j := by
  have hx : ¬ x < 0 := fun q => by
    have := Int32.lt_iff_toInt_lt.mp q
    have h0 : (0 : Int32).toInt = 0 := by decide
    omega
  obtain ⟨j, hj, rfl⟩ := nI_of hx
  exact ⟨j, hj, rfl, nI_toInt hj⟩
theorem vp_toInt (x : Int32) {n : Nat} (hn : n < 2 ^ 31) : vp_in x n ↔ (0 ≤ x.toInt ∧ x.toInt < n) := by
  constructor
  · intro h
    obtain ⟨j, hj, rfl⟩ := vp_in_of h hn
    rw [nI_toInt (by omega)]
    omega
  · intro h
    obtain ⟨j, hj, rfl, hx⟩ := ti_nI x h.1
    exact vp_in_nI (by omega) hn
theorem within_eq (x a b : Int32) : f_X11_within x a b = some (if a.toInt ≤ x.toInt ∧ x.toInt ≤ b.toInt then 1 else 0) := by
  unfold f_X11_within
  by_cases h : x < a
  · have h1 := Int32.lt_iff_toInt_lt.mp h
    rw [if_pos h, if_neg (by omega)]
  · have h1 : ¬ x.toInt < a.toInt := fun q => h (Int32.lt_iff_toInt_lt.mpr q)
    rw [if_neg h]
    by_cases h2 : b < x
    · have h3 := Int32.lt_iff_toInt_lt.mp h2
      rw [if_pos h2, if_neg (by omega)]
    · have h3 : ¬ b.toInt < x.toInt := fun q => h2 (Int32.lt_iff_toInt_lt.mpr q)
      rw [if_neg h2, if_pos (by omega)]
/-- 1 or 0 -/
def bI (x : Int32) (n : Nat) : Int32 := if x < 0 ∨ n ≤ x.toNatClampNeg then 0 else 1
theorem bI_in {x : Int32} {n : Nat} (h : vp_in x n) : bI x n = 1 := if_neg h
theorem bI_out {x : Int32} {n : Nat} (h : ¬ vp_in x n) : bI x n = 0 := if_pos (Classical.not_not.mp h)
theorem bI_nI {k n : Nat} (h : k < n) (hn : n < 2 ^ 31) : bI (nI k) n = 1 := bI_in (vp_in_nI h hn)
theorem within_n (x : Int32) (n : Nat) (hn : n + 1 < 2 ^ 31) : f_X11_within x 0 (nI n) = some (bI x (n + 1)) := by
  rw [within_eq, nI_toInt (by omega)]
  have h0 : (0 : Int32).toInt = 0 := by decide
  rw [h0]
  by_cases h : vp_in x (n + 1)
  · have := (vp_toInt x hn).mp h
    rw [if_pos (by omega), bI_in h]
  · have : ¬ (0 ≤ x.toInt ∧ x.toInt < (n + 1 : Nat)) := fun q => h ((vp_toInt x hn).mpr q)
    rw [if_neg (by omega), bI_out h]
theorem in_eq (x : Int32) (a b : Int64) : f_X12_in x.toInt64 a b = some (if a.toInt ≤ x.toInt ∧ x.toInt ≤ b.toInt then 1 else 0) := by
  unfold f_X12_in
  have hx : x.toInt64.toInt = x.toInt := Int32.toInt_toInt64 x
  by_cases h : lg_cmp x.toInt64 a < 0
  · have h1 := Int64.lt_iff_toInt_lt.mp ((lg_cmp_lt _ _).mp h)
    rw [if_pos h, if_neg (by omega)]
  · have h1 : ¬ x.toInt64.toInt < a.toInt := fun q => h ((lg_cmp_lt _ _).mpr (Int64.lt_iff_toInt_lt.mpr q))
    rw [if_neg h]
    by_cases h2 : 0 < lg_cmp x.toInt64 b
    · have h3 := Int64.lt_iff_toInt_lt.mp ((lg_cmp_gt _ _).mp h2)
      rw [if_pos h2, if_neg (by omega)]
    · have h3 : ¬ b.toInt < x.toInt64.toInt := fun q => h2 ((lg_cmp_gt _ _).mpr (Int64.lt_iff_toInt_lt.mpr q))
      rw [if_neg h2, if_pos (by omega)]
theorem in_n (x : Int32) (b : Int64) (n : Nat) (hb : b.toInt = n) (hn : n + 1 < 2 ^ 31) : f_X12_in x.toInt64 0 b = some (bI x (n + 1)) := by
  rw [in_eq, hb]
  have h0 : (0 : Int64).toInt = 0 := by decide
  rw [h0]
  by_cases h : vp_in x (n + 1)
  · have := (vp_toInt x hn).mp h
    rw [if_pos (by omega), bI_in h]
  · have : ¬ (0 ≤ x.toInt ∧ x.toInt < (n + 1 : Nat)) := fun q => h ((vp_toInt x hn).mpr q)
    rw [if_neg (by omega), bI_out h]
theorem px_kb2 {α1 α2 β : Type} (a1 : α1) (a2 : α2) (k : α1 → α2 → Option β) : kb2 (some (a1, a2)) k = k a1 a2 := Eq.trans rfl rfl
theorem px_kb3 {α1 α2 α3 β : Type} (a1 : α1) (a2 : α2) (a3 : α3) (k : α1 → α2 → α3 → Option β) : kb3 (some (a1, a2, a3)) k = k a1 a2 a3 := Eq.trans rfl rfl
theorem px_kb4 {α1 α2 α3 α4 β : Type} (a1 : α1) (a2 : α2) (a3 : α3) (a4 : α4) (k : α1 → α2 → α3 → α4 → Option β) : kb4 (some (a1, a2, a3, a4)) k = k a1 a2 a3 a4 := Eq.trans rfl rfl
theorem px_kb5 {α1 α2 α3 α4 α5 β : Type} (a1 : α1) (a2 : α2) (a3 : α3) (a4 : α4) (a5 : α5) (k : α1 → α2 → α3 → α4 → α5 → Option β) : kb5 (some (a1, a2, a3, a4, a5)) k = k a1 a2 a3 a4 a5 := Eq.trans rfl rfl
theorem px_kb7 {α1 α2 α3 α4 α5 α6 α7 β : Type} (a1 : α1) (a2 : α2) (a3 : α3) (a4 : α4) (a5 : α5) (a6 : α6) (a7 : α7) (k : α1 → α2 → α3 → α4 → α5 → α6 → α7 → Option β) : kb7 (some (a1, a2, a3, a4, a5, a6, a7)) k = k a1 a2 a3 a4 a5 a6 a7 := Eq.trans rfl rfl
theorem px_kb8 {α1 α2 α3 α4 α5 α6 α7 α8 β : Type} (a1 : α1) (a2 : α2) (a3 : α3) (a4 : α4) (a5 : α5) (a6 : α6) (a7 : α7) (a8 : α8) (k : α1 → α2 → α3 → α4 → α5 → α6 → α7 → α8 → Option β) : kb8 (some (a1, a2, a3, a4, a5, a6, a7, a8)) k = k a1 a2 a3 a4 a5 a6 a7 a8 := Eq.trans rfl rfl
theorem px_kb9 {α1 α2 α3 α4 α5 α6 α7 α8 α9 β : Type} (a1 : α1) (a2 : α2) (a3 : α3) (a4 : α4) (a5 : α5) (a6 : α6) (a7 : α7) (a8 : α8) (a9 : α9) (k : α1 → α2 → α3 → α4 → α5 → α6 → α7 → α8 → α9 → Option β) : kb9 (some (a1, a2, a3, a4, a5, a6, a7, a8, a9)) k = k a1 a2 a3 a4 a5 a6 a7 a8 a9 := Eq.trans rfl rfl
theorem px_kb11 {α1 α2 α3 α4 α5 α6 α7 α8 α9 α10 α11 β : Type} (a1 : α1) (a2 : α2) (a3 : α3) (a4 : α4) (a5 : α5) (a6 : α6) (a7 : α7) (a8 : α8) (a9 : α9) (a10 : α10) (a11 : α11) (k : α1 → α2 → α3 → α4 → α5 → α6 → α7 → α8 → α9 → α10 → α11 → Option β) : kb11 (some (a1, a2, a3, a4, a5, a6, a7, a8, a9, a10, a11)) k = k a1 a2 a3 a4 a5 a6 a7 a8 a9 a10 a11 := Eq.trans rfl rfl
theorem px_kb13 {α1 α2 α3 α4 α5 α6 α7 α8 α9 α10 α11 α12 α13 β : Type} (a1 : α1) (a2 : α2) (a3 : α3) (a4 : α4) (a5 : α5) (a6 : α6) (a7 : α7) (a8 : α8) (a9 : α9) (a10 : α10) (a11 : α11) (a12 : α12) (a13 : α13) (k : α1 → α2 → α3 → α4 → α5 → α6 → α7 → α8 → α9 → α10 → α11 → α12 → α13 → Option β) : kb13 (some (a1, a2, a3, a4, a5, a6, a7, a8, a9, a10, a11, a12, a13)) k = k a1 a2 a3 a4 a5 a6 a7 a8 a9 a10 a11 a12 a13 := Eq.trans rfl rfl
theorem px_kb22 {α1 α2 α3 α4 α5 α6 α7 α8 α9 α10 α11 α12 α13 α14 α15 α16 α17 α18 α19 α20 α21 α22 β : Type} (a1 : α1) (a2 : α2) (a3 : α3) (a4 : α4) (a5 : α5) (a6 : α6) (a7 : α7) (a8 : α8) (a9 : α9) (a10 : α10) (a11 : α11) (a12 : α12) (a13 : α13) (a14 : α14) (a15 : α15) (a16 : α16) (a17 : α17) (a18 : α18) (a19 : α19) (a20 : α20) (a21 : α21) (a22 : α22) (k : α1 → α2 → α3 → α4 → α5 → α6 → α7 → α8 → α9 → α10 → α11 → α12 → α13 → α14 → α15 → α16 → α17 → α18 → α19 → α20 → α21 → α22 → Option β) : kb22 (some (a1, a2, a3, a4, a5, a6, a7, a8, a9, a10, a11, a12, a13, a14, a15, a16, a17, a18, a19, a20, a21, a22)) k = k a1 a2 a3 a4 a5 a6 a7 a8 a9 a10 a11 a12 a13 a14 a15 a16 a17 a18 a19 a20 a21 a22 := Eq.trans rfl rfl
