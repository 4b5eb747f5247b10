/-! the two objects side by side: what is kept, errors, asked numbers -/
def OKp (R C ho ou eb nt T tl wn : Nat) (a p kN mN : Nat → Nat) (Lm Ls : List Int32) : Prop :=
  0 < R ∧ 0 < C ∧ R < 6 ∧ C < 6 ∧ AirOK a ∧ PasteOK p ∧ ho ≤ 99999 ∧ ou ≤ 99999 ∧ eb < 16 ∧ nt ≤ 999 ∧ T ≤ 6 ∧ tl ≤ 50 ∧ wn ≤ 20 ∧ (∀ j, j < 6 → kN j < 7 ∧ mN j < 10) ∧ Lm.length ≤ 50 ∧ Ls.length ≤ 50
def MDp (R C ho ou eb nt T tl wn : Nat) (a p kN mN : Nat → Nat) (Lm Ls : List Int32) (z : Int32) (told tape d : Nat → Int32) : Prop :=
  MW d R C ho ou eb a p ∧ d 2 = nI T ∧ d 5 = nI nt ∧ d 6 = z ∧ d 7 = nI tl ∧ d 8 = nI wn ∧ (∀ j, j < 6 → MT d j (kN j) (mN j)) ∧ LM 0 Lm d ∧ LM 1 Ls d ∧ (∀ j, j < 20 → d (74 + j) = told j) ∧ ∀ j, j < 50 → d (194 + j) = tape j ∧ ∃ k, k < 256 ∧ tape j = nI k
def EK (e f : Nat → Int32) : Prop := ∀ k, 1 ≤ k → k ≤ 5 → e k = f k
theorem err_k {k : Nat} (h1 : 1 ≤ k) (h5 : k ≤ 5) {e f : Nat → Int32} (h : EK e f) : ∃ r e' f', f_X11_error (nI k) e = some (r, e') ∧ f_X12_finds (nI k) f = some (r, f') ∧ EK e' f' := by
  have hw : f_X11_within (nI k) 1 5 = some 1 := by
    rw [within_eq, nI_toInt (by omega), if_pos (by have e1 : (1 : Int32).toInt = 1 := by decide
                                                   have e5 : (5 : Int32).toInt = 5 := by decide
                                                   omega)]
  refine ⟨(-1000000000) - nI k, upd e k (e k + 1), upd f k (f k + 1), ?_, ?_, fun j hj1 hj5 => ?_⟩
  · unfold f_X11_error
    rw [hw, px_kb, if_neg (by decide), px_in (by omega) (by decide), px_nm, px_nm, px_in (by omega) (by decide), px_nm, nI_clamp (by omega)]
  · unfold f_X12_finds
    rw [px_in (by omega) (by decide), px_nm, px_nm, px_in (by omega) (by decide), px_nm, nI_clamp (by omega)]
  · by_cases q : j = k
    · subst q
      rw [show upd e j (e j + 1) j = e j + 1 from if_pos rfl, show upd f j (f j + 1) j = f j + 1 from if_pos rfl, h j hj1 hj5]
    · rw [show upd e k (e k + 1) j = e j from if_neg q, show upd f k (f k + 1) j = f j from if_neg q]
      exact h j hj1 hj5
theorem err_1 {e f : Nat → Int32} (h : EK e f) : ∃ r e' f', f_X11_error 1 e = some (r, e') ∧ f_X12_finds 1 f = some (r, f') ∧ EK e' f' := err_k (k := 1) (by decide) (by decide) h
theorem err_2 {e f : Nat → Int32} (h : EK e f) : ∃ r e' f', f_X11_error 2 e = some (r, e') ∧ f_X12_finds 2 f = some (r, f') ∧ EK e' f' := err_k (k := 2) (by decide) (by decide) h
theorem err_3 {e f : Nat → Int32} (h : EK e f) : ∃ r e' f', f_X11_error 3 e = some (r, e') ∧ f_X12_finds 3 f = some (r, f') ∧ EK e' f' := err_k (k := 3) (by decide) (by decide) h
theorem err_4 {e f : Nat → Int32} (h : EK e f) : ∃ r e' f', f_X11_error 4 e = some (r, e') ∧ f_X12_finds 4 f = some (r, f') ∧ EK e' f' := err_k (k := 4) (by decide) (by decide) h
theorem err_5 {e f : Nat → Int32} (h : EK e f) : ∃ r e' f', f_X11_error 5 e = some (r, e') ∧ f_X12_finds 5 f = some (r, f') ∧ EK e' f' := err_k (k := 5) (by decide) (by decide) h
theorem chb_bI (x : Int32) (n : Nat) {β : Type} (k : Option β) : chb (bI x n) k = k := by
  unfold bI
  split
  · exact px_chb0 k
  · exact px_chb1 k
theorem ch_d {i : Nat} (hi : i < 244) {β : Type} (k : Option β) : chi (nI i) 244 k = k := px_in hi (by decide) k
theorem isWay_c (x : Int32) : f_X11_isWay x = some (bI x 4) := by
  unfold f_X11_isWay
  rw [show f_X11_within x 0 3 = some (bI x 4) from within_n x 3 (by decide), px_kb, chb_bI]
theorem isWay_m (x : Int32) : f_X12_isWay x = some (bI x 4) := by
  unfold f_X12_isWay
  rw [in_n x 3 3 (by decide) (by decide), px_kb, chb_bI]
theorem isSheet_c (x : Int32) : f_X11_isSheet x = some (bI x 4) := by
  unfold f_X11_isSheet
  rw [show f_X11_within x 0 3 = some (bI x 4) from within_n x 3 (by decide), px_kb, chb_bI]
theorem isSheet_m (x : Int32) : f_X12_isSheet x = some (bI x 4) := by
  unfold f_X12_isSheet
  rw [in_n x 3 3 (by decide) (by decide), px_kb, chb_bI]
theorem wi_1 (x : Int32) : f_X11_within x 0 1 = some (bI x 2) := within_n x 1 (by decide)
theorem in_1 (x : Int32) : f_X12_in x.toInt64 0 1 = some (bI x 2) := in_n x 1 1 (by decide) (by decide)
theorem isCell_c (x : Int32) {R C : Nat} (hR : R < 6) (hC : C < 6) : f_X11_isCell x (nI R) (nI C) = some (bI x (R * C)) := by
  unfold f_X11_isCell
  rw [has_eq x hR hC, px_kb, chb_bI]
theorem in_m1 (x : Int32) {n : Nat} (hn : n < 2 ^ 30) : f_X12_in x.toInt64 0 ((nI n - 1 : Int32).toInt64) = some (bI x n) := by
  rw [in_eq, Int32.toInt_toInt64, show (0 : Int64).toInt = 0 by decide]
  have h1 : (nI n - 1 : Int32).toInt = (n : Int) - 1 := pk_sub_toInt (a := n) (b := 1) hn (by decide)
  rw [h1]
  by_cases h : vp_in x n
  · have := (vp_toInt x (by omega)).mp h
    rw [if_pos (by omega), bI_in h]
  · have : ¬ (0 ≤ x.toInt ∧ x.toInt < n) := fun q => h ((vp_toInt x (by omega)).mpr q)
    rw [if_neg (by omega), bI_out h]
theorem wi_m1 (x : Int32) {n : Nat} (hn : n < 2 ^ 30) : f_X11_within x 0 (nI n - 1) = some (bI x n) := by
  rw [within_eq, show (0 : Int32).toInt = 0 by decide]
  have h1 : (nI n - 1 : Int32).toInt = (n : Int) - 1 := pk_sub_toInt (a := n) (b := 1) hn (by decide)
  rw [h1]
  by_cases h : vp_in x n
  · have := (vp_toInt x (by omega)).mp h
    rw [if_pos (by omega), bI_in h]
  · have : ¬ (0 ≤ x.toInt ∧ x.toInt < n) := fun q => h ((vp_toInt x (by omega)).mpr q)
    rw [if_neg (by omega), bI_out h]
theorem isCell_m (x : Int32) {d : Nat → Int32} {R C ho ou eb : Nat} {a p : Nat → Nat} (hW : MW d R C ho ou eb a p) (hR : R < 6) (hC : C < 6) : f_X12_isCell x d = some (bI x (R * C)) := by
  have h25 := RC25 hR hC
  unfold f_X12_isCell
  rw [cells_m hW, px_kb, in_m1 x (by omega), px_kb, chb_bI]
theorem isTool_c (x : Int32) {T : Nat} (hT : T ≤ 6) : f_X11_isTool x (nI T) = some (bI x T) := by
  unfold f_X11_isTool
  rw [px_nm, wi_m1 x (by omega), px_kb]
  by_cases h : vp_in x T
  · obtain ⟨j, hj, rfl⟩ := vp_in_of h (by omega)
    rw [bI_in h, if_neg (by decide), if_neg (show ¬ (6 : Int32) ≤ nI j from nI_ge (b := 6) (by omega) (by decide))]
  · rw [bI_out h, if_pos rfl]
theorem isTool_m (x : Int32) {d : Nat → Int32} {T : Nat} (h2 : d 2 = nI T) (hT : T ≤ 6) : f_X12_isTool x d = some (bI x T) := by
  unfold f_X12_isTool
  rw [show chi (2 : Int32) 244 = chi (nI 2) 244 from rfl, ch_d (by decide), px_nm, show (2 : Int32).toNatClampNeg = 2 by decide, h2, in_m1 x (by omega), px_kb, chb_bI]
theorem kindAt_c : ∀ k, k < 7 → f_X11_kindAt (nI k) = some (nI k) := by decide +kernel
theorem kindOf_c {T t : Nat} (hT : T ≤ 6) (ht : t < T) {kind : Nat → Int32} {kN : Nat → Nat} (hk : ad kind kN 6) (h7 : kN t < 7) : f_X11_kindOf (nI t) (nI T) kind = some (nI (kN t)) := by
  unfold f_X11_kindOf
  rw [isTool_c _ hT, bI_nI ht (by omega), px_kb, if_neg (by decide), px_in (by omega) (by decide), px_nm, nI_clamp (by omega), hk t (by omega)]
  unfold f_X11_kindOf_L22
  rw [kindAt_c _ h7, px_kb]
theorem km_all : ∀ km, km < 70 → nI km / 10 = nI (km / 10) ∧ nI km - nI km / 10 * 10 = nI (km % 10) := by decide +kernel
theorem wi_69 (x : Int32) : f_X11_within x 0 69 = some (bI x 70) := within_n x 69 (by decide)
theorem in_69 (x : Int32) : f_X12_in x.toInt64 0 69 = some (bI x 70) := in_n x 69 69 (by decide) (by decide)
theorem z_0 : (0 : Int32).toNatClampNeg = 0 := by decide
theorem z_1 : (1 : Int32).toNatClampNeg = 1 := by decide
theorem z_2 : (2 : Int32).toNatClampNeg = 2 := by decide
theorem z_3 : (3 : Int32).toNatClampNeg = 3 := by decide
theorem z_4 : (4 : Int32).toNatClampNeg = 4 := by decide
theorem z_5 : (5 : Int32).toNatClampNeg = 5 := by decide
theorem z_6 : (6 : Int32).toNatClampNeg = 6 := by decide
theorem z_7 : (7 : Int32).toNatClampNeg = 7 := by decide
theorem z_8 : (8 : Int32).toNatClampNeg = 8 := by decide
theorem z_9 : (9 : Int32).toNatClampNeg = 9 := by decide
theorem c_0 {β : Type} (k : Option β) : chi (0 : Int32) 244 k = k := ch_d (i := 0) (by decide) k
theorem c_1 {β : Type} (k : Option β) : chi (1 : Int32) 244 k = k := ch_d (i := 1) (by decide) k
theorem c_2 {β : Type} (k : Option β) : chi (2 : Int32) 244 k = k := ch_d (i := 2) (by decide) k
theorem c_3 {β : Type} (k : Option β) : chi (3 : Int32) 244 k = k := ch_d (i := 3) (by decide) k
theorem c_4 {β : Type} (k : Option β) : chi (4 : Int32) 244 k = k := ch_d (i := 4) (by decide) k
theorem c_5 {β : Type} (k : Option β) : chi (5 : Int32) 244 k = k := ch_d (i := 5) (by decide) k
theorem c_6 {β : Type} (k : Option β) : chi (6 : Int32) 244 k = k := ch_d (i := 6) (by decide) k
theorem c_7 {β : Type} (k : Option β) : chi (7 : Int32) 244 k = k := ch_d (i := 7) (by decide) k
theorem c_8 {β : Type} (k : Option β) : chi (8 : Int32) 244 k = k := ch_d (i := 8) (by decide) k
theorem c_9 {β : Type} (k : Option β) : chi (9 : Int32) 244 k = k := ch_d (i := 9) (by decide) k
/-- a place of the model's row that no predicate but one heeds -/
theorem MD_strk {R C ho ou eb nt T tl wn ho' ou' : Nat} {a p kN mN a' : Nat → Nat} {Lm Ls : List Int32} {z : Int32} {told tape d d' : Nat → Int32} (h : MDp R C ho ou eb nt T tl wn a p kN mN Lm Ls z told tape d) (hW : MW d' R C ho' ou' eb a' p) (hS : SW d d') :
    MDp R C ho' ou' eb nt T tl wn a' p kN mN Lm Ls z told tape d' := by
  obtain ⟨h0, h2, h5, h6, h7, h8, hT, hL0, hL1, ht, htp⟩ := h
  exact ⟨hW, by rw [hS 2 (by omega)]; exact h2, by rw [hS 5 (by omega)]; exact h5, by rw [hS 6 (by omega)]; exact h6, by rw [hS 7 (by omega)]; exact h7, by rw [hS 8 (by omega)]; exact h8, fun j hj => MT_same (hT j hj) (SW_60 hS), LM_same (by decide) hL0 (SW_60 hS), LM_same (by decide) hL1 (SW_60 hS), fun j hj => by rw [hS _ (by omega)]; exact ht j hj, fun j hj => by rw [hS _ (by omega)]; exact htp j hj⟩
theorem i10 {α : Type} (x y : α) : (if (1 : Int32) = 0 then x else y) = y := if_neg (by decide)
theorem i00 {α : Type} (x y : α) : (if (0 : Int32) = 0 then x else y) = x := if_pos (Eq.trans rfl rfl)
