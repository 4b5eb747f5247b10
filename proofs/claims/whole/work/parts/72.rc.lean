/-! the calls: tools, wall, cells -/
section RC
variable {R C ho ou eb nt T tl wn : Nat} {a p kN mN : Nat → Nat} {Lm Ls : List Int32} {z : Int32} {told tape d er fo : Nat → Int32}

theorem bI_nI6 {n : Nat} (h : n ≤ 6) : bI (nI n) 6 = if n < 6 then 1 else 0 := by
  by_cases h6 : n < 6
  · rw [if_pos h6]; exact bI_nI h6 (by decide)
  · have : n = 6 := by omega
    subst this
    decide
theorem e60 (t : Nat) : (60 : Int32) + 2 * nI t = nI (60 + 2 * t) := by
  rw [show (2 : Int32) * nI t = nI (2 * t) from pk_mul 2 t]; exact nI_add 60 _
theorem MD_tool {T' t k m : Nat} {d' : Nat → Int32} (h : MDp R C ho ou eb nt T tl wn a p kN mN Lm Ls z told tape d) (ht : t < 6) (h2 : d' 2 = nI T') (hk : d' (60 + 2 * t) = nI k) (hm : d' (60 + 2 * t + 1) = nI m) (hS : ∀ j, j ≠ 2 → j ≠ 60 + 2 * t → j ≠ 60 + 2 * t + 1 → d' j = d j) :
    MDp R C ho ou eb nt T' tl wn a p (va_up kN t k) (va_up mN t m) Lm Ls z told tape d' := by
  obtain ⟨⟨w0, w1, w3, w4, w9, wa, wp⟩, q2, h5, h6, h7, h8, hT, hL0, hL1, hto, htp⟩ := h
  have hs : ∀ j, 72 ≤ j → d' j = d j := fun j hj => hS j (by omega) (by omega) (by omega)
  have hl : ∀ j, j < 60 → j ≠ 2 → d' j = d j := fun j hj h2 => hS j h2 (by omega) (by omega)
  refine ⟨⟨by rw [hl _ (by omega) (by omega)]; exact w0, by rw [hl _ (by omega) (by omega)]; exact w1, by rw [hl _ (by omega) (by omega)]; exact w3, by rw [hl _ (by omega) (by omega)]; exact w4, by rw [hl _ (by omega) (by omega)]; exact w9, fun j hj => by rw [hl _ (by omega) (by omega)]; exact wa j hj, fun j hj => by rw [hl _ (by omega) (by omega)]; exact wp j hj⟩, h2, by rw [hl 5 (by omega) (by omega)]; exact h5, by rw [hl 6 (by omega) (by omega)]; exact h6, by rw [hl 7 (by omega) (by omega)]; exact h7, by rw [hl 8 (by omega) (by omega)]; exact h8, fun j hj => ?_, ?_, ?_, fun j hj => by rw [hs _ (by omega)]; exact hto j hj, fun j hj => by rw [hs _ (by omega)]; exact htp j hj⟩
  · by_cases e : j = t
    · subst e
      rw [va_up_at, va_up_at]
      exact ⟨hk, hm⟩
    · rw [vu_ne _ _ e, vu_ne _ _ e]
      exact ⟨by rw [hS _ (by omega) (by omega) (by omega)]; exact (hT j hj).1, by rw [hS _ (by omega) (by omega) (by omega)]; exact (hT j hj).2⟩
  · rcases hL0 with ⟨h1, h2⟩ | ⟨n, b, h0, h1, ⟨t1, t2, t3, t4⟩, h3⟩
    · exact Or.inl ⟨by rw [hs _ (by omega)]; exact h1, h2⟩
    · exact Or.inr ⟨n, b, h0, by rw [hs _ (by omega)]; exact h1, ⟨t1, t2, fun i hi => by rw [hs _ (by omega)]; exact t3 i hi, t4⟩, h3⟩
  · rcases hL1 with ⟨h1, h2⟩ | ⟨n, b, h0, h1, ⟨t1, t2, t3, t4⟩, h3⟩
    · exact Or.inl ⟨by rw [hs _ (by omega)]; exact h1, h2⟩
    · exact Or.inr ⟨n, b, h0, by rw [hs _ (by omega)]; exact h1, ⟨t1, t2, fun i hi => by rw [hs _ (by omega)]; exact t3 i hi, t4⟩, h3⟩
theorem OK_tool (h : OKp R C ho ou eb nt T tl wn a p kN mN Lm Ls) {t k m : Nat} (hk : k < 7) (hm : m < 10) (T' : Nat) (hT' : T' ≤ 6) : OKp R C ho ou eb nt T' tl wn a p (va_up kN t k) (va_up mN t m) Lm Ls := by
  obtain ⟨o1, o2, o3, o4, o5, o6, o7, o8, o9, o10, o11, o12, o13, o14, o15⟩ := h
  refine ⟨o1, o2, o3, o4, o5, o6, o7, o8, o9, o10, hT', o12, o13, fun j hj => ?_, o15⟩
  by_cases e : j = t
  · subst e; rw [va_up_at, va_up_at]; exact ⟨hk, hm⟩
  · rw [vu_ne _ _ e, vu_ne _ _ e]; exact o14 j hj
theorem m_tool (hO : OKp R C ho ou eb nt T tl wn a p kN mN Lm Ls) (hM : MDp R C ho ou eb nt T tl wn a p kN mN Lm Ls z told tape d) (hE : EK er fo) {kind mm : Nat → Int32} (hk : ad kind kN 6) (hm : ad mm mN 6) (x : Int32) :
    ∃ (r : Int32) (er' fo' d' kind' mm' : Nat → Int32) (T' : Nat) (kN' mN' : Nat → Nat), f_X11_tool x er (nI T) kind mm = some (r, er', nI T', kind', mm') ∧ f_X12_tool x d fo = some (r, d', fo') ∧ EK er' fo' ∧ ad kind' kN' 6 ∧ ad mm' mN' 6 ∧
      OKp R C ho ou eb nt T' tl wn a p kN' mN' Lm Ls ∧ MDp R C ho ou eb nt T' tl wn a p kN' mN' Lm Ls z told tape d' := by
  have hT6 : T ≤ 6 := hO.2.2.2.2.2.2.2.2.2.2.1
  obtain ⟨r, e', f', g1, g2, g3⟩ := err_1 hE
  obtain ⟨r4, e4, f4, k1, k2, k3⟩ := err_4 hE
  have h2 := hM.2.1
  unfold f_X11_tool f_X12_tool
  rw [wi_69, in_69, px_kb, px_kb]
  by_cases hx : vp_in x 70
  · obtain ⟨km, hkm, rfl⟩ := vp_in_of hx (by decide)
    obtain ⟨q1, q2⟩ := km_all km hkm
    rw [q1] at q2
    rw [bI_in hx, i10, i10, show f_X11_within (nI T) 0 5 = some (bI (nI T) 6) from within_n _ 5 (by decide), px_kb, bI_nI6 hT6]
    have c10 : ∀ {β : Type} (k : Option β), chz (10 : Int32) k = k := fun k => px_chz (by decide) k
    by_cases hT : T < 6
    · rw [if_pos hT, if_neg (by decide)]
      have i2 : ∀ (y : Int32) (j : Nat), j ≠ 2 → upd d j y 2 = nI T := fun y j hj => (if_neg (fun q => hj q.symm)).trans h2
      have i3 : ∀ (y y' : Int32), upd (upd d (60 + 2 * T) y) (60 + 2 * T + 1) y' 2 = nI T := fun y y' => (if_neg (by omega)).trans (i2 y _ (by omega))
      have i4 : ∀ (f : Nat → Int32) (y : Int32), upd f 2 y 2 = y := fun f y => if_pos rfl
      simp only [c10, px_nm, px_in hT (show 6 < 2 ^ 31 by decide), nI_clamp (show T < 2 ^ 31 by omega), q1, q2, c_2, z_2, h2, if_neg (show ¬ nI T = 6 from nI_ne (c := 6) (by omega) (by decide) (by omega)), e60, nI_1, ch_d (show 60 + 2 * T < 244 by omega), ch_d (show 60 + 2 * T + 1 < 244 by omega), nI_clamp (show 60 + 2 * T < 2 ^ 31 by omega), nI_clamp (show 60 + 2 * T + 1 < 2 ^ 31 by omega), i2 _ (60 + 2 * T) (by omega), i3, i4, nI_pred]
      refine ⟨_, er, fo, _, _, _, T + 1, va_up kN T (km / 10), va_up mN T (km % 10), rfl, rfl, hE, ad_up hk T _, ad_up hm T _, OK_tool hO (by omega) (by omega) (T + 1) (by omega), MD_tool hM hT (i4 _ _) ?_ ?_ ?_⟩
      · rw [show ∀ (f : Nat → Int32) (y : Int32), upd f 2 y (60 + 2 * T) = f (60 + 2 * T) from fun f y => if_neg (by omega), show ∀ (f : Nat → Int32) (y : Int32), upd f (60 + 2 * T + 1) y (60 + 2 * T) = f (60 + 2 * T) from fun f y => if_neg (by omega)]
        exact if_pos rfl
      · rw [show ∀ (f : Nat → Int32) (y : Int32), upd f 2 y (60 + 2 * T + 1) = f (60 + 2 * T + 1) from fun f y => if_neg (by omega)]
        exact if_pos rfl
      · intro j h1 h2 h3
        rw [show ∀ (f : Nat → Int32) (y : Int32), upd f 2 y j = f j from fun f y => if_neg h1, show ∀ (f : Nat → Int32) (y : Int32), upd f (60 + 2 * T + 1) y j = f j from fun f y => if_neg h3]
        exact if_neg h2
    · have : T = 6 := by omega
      subst this
      rw [if_neg hT, i00, k1, px_kb2]
      simp only [c_2, z_2, px_nm, h2]
      rw [if_pos (show nI 6 = 6 from rfl), k2, px_kb2]
      exact ⟨r4, e4, f4, d, kind, mm, 6, kN, mN, rfl, rfl, k3, hk, hm, hO, hM⟩
  · rw [bI_out hx, i00, i00, g1, g2, px_kb2, px_kb2]
    exact ⟨r, e', f', d, kind, mm, T, kN, mN, rfl, rfl, g3, hk, hm, hO, hM⟩
theorem m_become (hO : OKp R C ho ou eb nt T tl wn a p kN mN Lm Ls) (hM : MDp R C ho ou eb nt T tl wn a p kN mN Lm Ls z told tape d) (hE : EK er fo) {kind mm : Nat → Int32} (hk : ad kind kN 6) (hm : ad mm mN 6) (x y : Int32) :
    ∃ (r : Int32) (er' fo' d' kind' mm' : Nat → Int32) (kN' mN' : Nat → Nat), f_X11_become x y er (nI T) kind mm = some (r, er', kind', mm') ∧ f_X12_become x y d fo = some (r, d', fo') ∧ EK er' fo' ∧ ad kind' kN' 6 ∧ ad mm' mN' 6 ∧
      OKp R C ho ou eb nt T tl wn a p kN' mN' Lm Ls ∧ MDp R C ho ou eb nt T tl wn a p kN' mN' Lm Ls z told tape d' := by
  have hT6 : T ≤ 6 := hO.2.2.2.2.2.2.2.2.2.2.1
  obtain ⟨r, e', f', g1, g2, g3⟩ := err_1 hE
  have ec : f_X11_become_L18 er kind mm = some (r, e', kind, mm) := by unfold f_X11_become_L18; rw [g1, px_kb2]
  have em : f_X12_become_L20 d fo = some (r, d, f') := by unfold f_X12_become_L20; rw [g2, px_kb2]
  unfold f_X11_become f_X12_become
  rw [isTool_c x hT6, isTool_m x hM.2.1 hT6, px_kb, px_kb, wi_69, in_69, px_kb, px_kb]
  by_cases hx : vp_in x T
  · obtain ⟨t, ht, rfl⟩ := vp_in_of hx (by omega)
    rw [bI_in hx, i10, i10]
    by_cases hy : vp_in y 70
    · obtain ⟨km, hkm, rfl⟩ := vp_in_of hy (by decide)
      obtain ⟨q1, q2⟩ := km_all km hkm
      rw [q1] at q2
      rw [bI_in hy, i10, i10, (kindOf_m (hM.2.2.2.2.2.2.1 t (by omega)) (by omega)).1, px_kb]
      have c10 : ∀ {β : Type} (k : Option β), chz (10 : Int32) k = k := fun k => px_chz (by decide) k
      simp only [c10, px_nm, px_in (show t < 6 by omega) (show 6 < 2 ^ 31 by decide), nI_clamp (show t < 2 ^ 31 by omega), q1, q2, hk t (by omega), e60, nI_1, ch_d (show 60 + 2 * t < 244 by omega), ch_d (show 60 + 2 * t + 1 < 244 by omega), nI_clamp (show 60 + 2 * t < 2 ^ 31 by omega), nI_clamp (show 60 + 2 * t + 1 < 2 ^ 31 by omega)]
      refine ⟨_, er, fo, _, _, _, va_up kN t (km / 10), va_up mN t (km % 10), rfl, rfl, hE, ad_up hk t _, ad_up hm t _, OK_tool hO (by omega) (by omega) T hT6, MD_tool hM (by omega) ?_ ?_ ?_ ?_⟩
      · rw [show ∀ (f : Nat → Int32) (y : Int32), upd f (60 + 2 * t + 1) y 2 = f 2 from fun f y => if_neg (by omega), show ∀ (f : Nat → Int32) (y : Int32), upd f (60 + 2 * t) y 2 = f 2 from fun f y => if_neg (by omega)]
        exact hM.2.1
      · rw [show ∀ (f : Nat → Int32) (y : Int32), upd f (60 + 2 * t + 1) y (60 + 2 * t) = f (60 + 2 * t) from fun f y => if_neg (by omega)]
        exact if_pos rfl
      · exact if_pos rfl
      · intro j h1 h2 h3
        rw [show ∀ (f : Nat → Int32) (y : Int32), upd f (60 + 2 * t + 1) y j = f j from fun f y => if_neg h3]
        exact if_neg h2
    · rw [bI_out hy, i00, i00, ec, em]
      exact ⟨r, e', f', d, kind, mm, kN, mN, rfl, rfl, g3, hk, hm, hO, hM⟩
  · rw [bI_out hx, i00, i00, ec, em]
    exact ⟨r, e', f', d, kind, mm, kN, mN, rfl, rfl, g3, hk, hm, hO, hM⟩
theorem isA_all : ∀ k, k < 7 → ∀ q, q < 7 → f_TD_isA (nI k) (nI q) = some (if q = 0 ∨ q = k ∨ q = (if k < 4 then 0 else k - 3) then 1 else 0) := by decide +kernel
theorem above_all : ∀ k, k < 7 → f_X12_above (nI k) = some (nI (if k < 4 then 0 else k - 3)) := by decide +kernel
theorem m_as (hO : OKp R C ho ou eb nt T tl wn a p kN mN Lm Ls) (hM : MDp R C ho ou eb nt T tl wn a p kN mN Lm Ls z told tape d) (hE : EK er fo) {kind mm : Nat → Int32} (hk : ad kind kN 6) (hm : ad mm mN 6) (x y : Int32) :
    ∃ (r : Int32) (er' fo' : Nat → Int32), f_X11_as x y er (nI T) kind mm = some (r, er') ∧ f_X12_as x y d fo = some (r, fo') ∧ EK er' fo' := by
  have hT6 : T ≤ 6 := hO.2.2.2.2.2.2.2.2.2.2.1
  obtain ⟨r, e', f', g1, g2, g3⟩ := err_1 hE
  obtain ⟨r5, e5, f5, k1, k2, k3⟩ := err_5 hE
  have ec : f_X11_as_L18 er = some (r, e') := by unfold f_X11_as_L18; rw [g1, px_kb2]
  have em : f_X12_as_L20 fo = some (r, f') := by unfold f_X12_as_L20; rw [g2, px_kb2]
  unfold f_X11_as f_X12_as
  rw [isTool_c x hT6, isTool_m x hM.2.1 hT6, px_kb, px_kb, show f_X11_within y 0 6 = some (bI y 7) from within_n y 6 (by decide), in_n y 6 6 (by decide) (by decide), px_kb, px_kb]
  by_cases hx : vp_in x T
  · obtain ⟨t, ht, rfl⟩ := vp_in_of hx (by omega)
    rw [bI_in hx, i10, i10]
    by_cases hy : vp_in y 7
    · obtain ⟨q, hq, rfl⟩ := vp_in_of hy (by decide)
      obtain ⟨h7, h10⟩ := hO.2.2.2.2.2.2.2.2.2.2.2.2.2.1 t (by omega)
      obtain ⟨u1, u2⟩ := kindOf_m (hM.2.2.2.2.2.2.1 t (by omega)) (show t < 6 by omega)
      rw [bI_in hy, i10, i10, kindOf_c hT6 ht hk h7, px_kb, isA_all _ h7 q hq, px_kb, u1, px_kb, above_all _ h7]
      have em2 : f_X12_as_L49 (nI t) d fo = some (nI (mN t), fo) := by unfold f_X12_as_L49; rw [u2, px_kb]
      rw [em2, px_in (show t < 6 by omega) (by decide), nI_clamp (by omega), hm t (by omega), px_kb, k1, k2, px_kb2, px_kb2]
      by_cases h0 : q = 0
      · subst h0
        rw [if_pos (show (0 = 0 ∨ 0 = kN t ∨ 0 = (if kN t < 4 then 0 else kN t - 3)) from Or.inl rfl), i10, if_pos (show nI 0 = 0 from rfl)]
        exact ⟨_, er, fo, rfl, rfl, hE⟩
      · rw [if_neg (show ¬ nI q = 0 from nI_ne0 (by omega) (by omega))]
        by_cases h1 : q = kN t
        · rw [if_pos (show (q = 0 ∨ q = kN t ∨ q = (if kN t < 4 then 0 else kN t - 3)) from Or.inr (Or.inl h1)), i10, if_pos (show nI q = nI (kN t) by rw [h1])]
          exact ⟨_, er, fo, rfl, rfl, hE⟩
        · have hab : (if kN t < 4 then 0 else kN t - 3) < 7 := by split <;> omega
          rw [if_neg (show ¬ nI q = nI (kN t) from nI_ne (by omega) (by omega) h1)]
          by_cases h2 : q = (if kN t < 4 then 0 else kN t - 3)
          · rw [if_pos (show (q = 0 ∨ q = kN t ∨ q = (if kN t < 4 then 0 else kN t - 3)) from Or.inr (Or.inr h2)), i10, if_pos (show nI q = nI (if kN t < 4 then 0 else kN t - 3) by rw [← h2])]
            exact ⟨_, er, fo, rfl, rfl, hE⟩
          · rw [if_neg (show ¬ (q = 0 ∨ q = kN t ∨ q = (if kN t < 4 then 0 else kN t - 3)) from fun c => c.elim h0 (fun c => c.elim h1 h2)), i00, if_neg (show ¬ nI q = nI (if kN t < 4 then 0 else kN t - 3) from nI_ne (by omega) (by omega) h2)]
            exact ⟨_, e5, f5, rfl, rfl, k3⟩
    · rw [bI_out hy, i00, i00, ec, em]
      exact ⟨r, e', f', rfl, rfl, g3⟩
  · rw [bI_out hx, i00, i00, ec, em]
    exact ⟨r, e', f', rfl, rfl, g3⟩
end RC
