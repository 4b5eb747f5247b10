/-! texts: one byte, and all of them, by the class -/
def cl (w : Bool) : Int32 := if w then 1 else 0
theorem isDigit_eq (c : Int32) : f_X3_isDigit c = some (if 48 ≤ c ∧ c ≤ 57 then 1 else 0) := by
  unfold f_X3_isDigit
  rw [within_eq, px_kb]
  have e1 : (if (48 : Int32).toInt ≤ c.toInt ∧ c.toInt ≤ (57 : Int32).toInt then (1 : Int32) else 0) = (if 48 ≤ c ∧ c ≤ 57 then 1 else 0) := by
    by_cases h : 48 ≤ c ∧ c ≤ 57
    · rw [if_pos h, if_pos ⟨Int32.le_iff_toInt_le.mp h.1, Int32.le_iff_toInt_le.mp h.2⟩]
    · rw [if_neg h, if_neg (fun q => h ⟨Int32.le_iff_toInt_le.mpr q.1, Int32.le_iff_toInt_le.mpr q.2⟩)]
  rw [e1]
  by_cases h : 48 ≤ c ∧ c ≤ 57
  · rw [if_pos h, px_chb1]
  · rw [if_neg h, px_chb0]
theorem idx_eq : ∀ sn, sn < 2 → ∀ k, k < 256 → f_J0_indexOf_0f7a4 (nI k) sn = some (match nameK sn (nI k) with | some j => nI j | none => -1) := by decide +kernel
theorem chr_eq : ∀ k, k < 256 → ((nI k).toUInt32 % 65536).toInt32 = nI k := by decide +kernel
/-- the class's words of one byte, and what the automaton says -/
def Step1 (r : Option (Int32 × Int32 × Int32 × Int32 × Int32 × Int32 × (Nat → Int32) × (Nat → Int32))) (s : Option (List Int32 × List Int32 × Nat × Nat × Bool)) (p : Nat) : Prop :=
  (s = none → ∃ a b c d e f g, r = some (0, a, b, c, d, e, f, g)) ∧
  (∀ D H o dg w, s = some (D, H, o, dg, w) → ∃ draft held, r = some (1, nI D.length, nI H.length, nI o, nI dg, cl w, draft, held) ∧ RP draft D ∧ RH held H ∧ o = ct H ∧ D.length + H.length ≤ p + 1 ∧ dg ≤ 4)
theorem Step1_no {r : Option (Int32 × Int32 × Int32 × Int32 × Int32 × Int32 × (Nat → Int32) × (Nat → Int32))} {p : Nat} {a b c d e : Int32} {f g : Nat → Int32} (h : r = some (0, a, b, c, d, e, f, g)) : Step1 r none p :=
  ⟨fun _ => ⟨a, b, c, d, e, f, g, h⟩, fun _ _ _ _ _ q => by cases q⟩
theorem Step1_yes {r : Option (Int32 × Int32 × Int32 × Int32 × Int32 × Int32 × (Nat → Int32) × (Nat → Int32))} {p o dg : Nat} {D H : List Int32} {w : Bool} {draft held : Nat → Int32} (h : r = some (1, nI D.length, nI H.length, nI o, nI dg, cl w, draft, held)) (h1 : RP draft D) (h2 : RH held H) (h3 : o = ct H) (h4 : D.length + H.length ≤ p + 1) (h5 : dg ≤ 4) : Step1 r (some (D, H, o, dg, w)) p :=
  ⟨(fun q => by cases q), fun D' H' o' dg' w' q => by cases q; exact ⟨draft, held, h, h1, h2, h3, h4, h5⟩⟩
section PH
variable {sn : Nat} {c : Int32} {D H : List Int32} {o dg p : Nat} {draft held : Nat → Int32}
theorem begins_eq (hs : sn < 2) (hc : ∃ k, k < 256 ∧ c = nI k) (hp : p < 50) (hl : D.length + H.length ≤ p) (hD : RP draft D) (hH : RH held H) (ho : o = ct H) (ho5 : o ≤ 50) (hdg : dg ≤ 4) :
    Step1 (f_X3_begins c sn (nI D.length) (nI H.length) (nI o) (nI dg) 1 draft held) (stB sn c D H o dg) p := by
  have open_ : (c = 33 ∨ c = 40) → Step1 (f_X3_begins_L12 c (nI D.length) (nI H.length) (nI o) (nI dg) 1 draft held) (stB sn c D H o dg) p := by
    intro hoc
    unfold f_X3_begins_L12 stB
    rw [if_pos hoc]
    by_cases h5 : o < 5
    · rw [if_pos (show nI o < 5 from nI_lt (b := 5) h5 (by decide)), px_nm, hold_eq (by omega), px_kb2, if_pos h5, nI_1]
      refine Step1_yes (H := c :: H) (D := D) (w := true) rfl hD (RH_push hH c) ?_ ?_ hdg
      · show o + 1 = (if c = 33 ∨ c = 40 then 1 else 0) + ct H
        rw [if_pos hoc]; omega
      · simp only [List.length_cons]; omega
    · rw [if_neg (show ¬ nI o < 5 from fun q => h5 ((nI_ltI (b := 5) (by omega) (by decide)).mp q)), if_neg h5]
      exact Step1_no rfl
  unfold f_X3_begins
  by_cases h33 : c = 33
  · rw [if_pos h33]; exact open_ (Or.inl h33)
  · rw [if_neg h33]
    by_cases h40 : c = 40
    · rw [if_pos h40]; exact open_ (Or.inr h40)
    · obtain ⟨k, hk, hck⟩ := hc
      have hno : ¬ (c = 33 ∨ c = 40) := fun q => q.elim h33 h40
      rw [if_neg h40, hck, chr_eq k hk, px_nm, idx_eq sn hs k hk, ← hck]
      show Step1 (if sn < 2 then _ else none) _ _
      rw [if_pos hs, px_kb, isDigit_eq, px_kb]
      unfold stB
      rw [if_neg hno]
      by_cases hd1 : 48 ≤ c ∧ c ≤ 57
      · have e48 : nameK sn c = none := by
          cases hk : nameK sn c with
          | none => rfl
          | some k => exact absurd hd1 (nameK_lt hk).2.2
        rw [if_pos hd1, if_neg (by decide), e48, if_pos hd1]
        unfold f_X3_begins_L62 f_X3_begins_L75 f_X3_begins_L96
        rw [isDigit_eq, if_pos hd1, px_kb, if_neg (by decide), px_kb, if_neg (by decide), px_nm, write_eq (by omega), px_kb2]
        refine Step1_yes (D := D ++ [c - 48]) (H := H) (dg := 1) (w := false) ?_ (RP_push hD _) hH ho ?_ (by decide)
        · simp only [List.length_append, List.length_singleton]; rfl
        · simp only [List.length_append, List.length_singleton]; omega
      · rw [if_neg hd1, if_pos rfl, if_neg hd1]
        cases hk : nameK sn c with
        | none => exact Step1_no (a := nI D.length) (b := nI H.length) (c := nI o) (d := nI dg) (e := 1) (f := draft) (g := held) (if_neg (by decide))
        | some j =>
          have hj := (nameK_lt hk).1
          show Step1 (if 0 ≤ nI j then _ else _) _ _
          rw [if_pos (nI_pos' (by omega))]
          unfold f_X3_begins_L62 f_X3_begins_L75 f_X3_begins_L96
          rw [isDigit_eq, if_neg hd1, px_kb, if_pos rfl, px_kb, if_pos rfl, px_nm, write_eq (by omega), px_kb2]
          refine Step1_yes (D := D ++ [(-1) - nI j]) (H := H) (dg := 0) (w := false) ?_ (RP_push hD _) hH ho ?_ (by decide)
          · simp only [List.length_append, List.length_singleton]; rfl
          · simp only [List.length_append, List.length_singleton]; omega
theorem closeNots_eq (hl : D.length + H.length ≤ 50) (hD : RP draft D) (hH : RH held H) (ho : o = ct H) :
    ∃ draft', f_X3_closeNots (nI D.length) (nI H.length) (nI o) draft held = some (nI (cN H o D).1.length, nI (cN H o D).2.1.length, nI (cN H o D).2.2, draft') ∧ RP draft' (cN H o D).1 ∧ RH held (cN H o D).2.1 ∧ (cN H o D).2.2 = ct (cN H o D).2.1 ∧ (cN H o D).1.length + (cN H o D).2.1.length = D.length + H.length :=
  cN_run H D gFuel 0 o draft (by unfold gFuel; omega) (by omega) hl hD hH ho
theorem closeFrom_eq {r : Nat} (hr : 1 ≤ r) (hr6 : r ≤ 6) (hl : D.length + H.length ≤ 50) (hD : RP draft D) (hH : RH held H) :
    ∃ draft', f_X3_closeFrom (nI r) (nI D.length) (nI H.length) draft held = some (nI (cF r H D).1.length, nI (cF r H D).2.length, draft') ∧ RP draft' (cF r H D).1 ∧ RH held (cF r H D).2 ∧ ct (cF r H D).2 = ct H ∧ (cF r H D).1.length + (cF r H D).2.length = D.length + H.length :=
  cF_run hr hr6 H D gFuel 0 draft (by unfold gFuel; omega) (by omega) hl hD hH
theorem snoc_cases (D : List Int32) : D = [] ∨ ∃ E x, D = E ++ [x] := by
  rcases List.eq_nil_or_concat D with h | ⟨E, x, h⟩
  · exact Or.inl h
  · exact Or.inr ⟨E, x, by rw [h, List.concat_eq_append]⟩
theorem follows_eq (hp : p < 50) (hl : D.length + H.length ≤ p) (hD : RP draft D) (hH : RH held H) (ho : o = ct H) (hdg : dg ≤ 4) :
    Step1 (f_X3_follows c (nI D.length) (nI H.length) (nI o) (nI dg) 0 draft held) (stF c D H o dg) p := by
  unfold f_X3_follows stF
  rw [isDigit_eq, px_kb]
  by_cases hd1 : 48 ≤ c ∧ c ≤ 57
  · rw [if_pos hd1, if_pos hd1, if_neg (by decide), px_nm]
    unfold f_X3_addDigit
    by_cases h0 : dg = 0
    · subst h0
      rw [if_pos (show nI 0 = 0 from rfl), px_kb3, px_chb0, if_pos (Or.inl rfl)]
      exact Step1_no rfl
    · rw [if_neg (show ¬ nI dg = 0 from nI_ne0 (by omega) (by omega))]
      by_cases h4 : 4 ≤ dg
      · rw [if_pos (show 4 ≤ nI dg from nI_le (a := 4) h4 (by omega)), px_kb3, px_chb0, if_pos (Or.inr (Or.inl h4))]
        exact Step1_no rfl
      · rw [if_neg (show ¬ 4 ≤ nI dg from fun q => h4 ((nI_leI (a := 4) (by decide) (by omega)).mp q)), within_eq, px_kb]
        rcases snoc_cases D with rfl | ⟨E, x, rfl⟩
        · rw [if_neg (show ¬ ((1 : Int32).toInt ≤ (nI ([] : List Int32).length).toInt ∧ _) from fun q => absurd q.1 (by decide)), if_pos rfl, px_kb3, px_chb0, if_pos (Or.inr (Or.inr rfl))]
          exact Step1_no rfl
        · simp only [List.length_append, List.length_singleton] at hl ⊢
          have e50 : (50 : Int32).toInt = 50 := by decide
          have e1 : (1 : Int32).toInt = 1 := by decide
          have ee : (nI (E.length + 1)).toInt = ((E.length + 1 : Nat) : Int) := nI_toInt (by omega)
          rw [if_pos (show (1 : Int32).toInt ≤ (nI (E.length + 1)).toInt ∧ (nI (E.length + 1)).toInt ≤ (50 : Int32).toInt by rw [ee, e1, e50]; omega), if_neg (by decide), px_nm, px_nm, nI_pred, px_in (by omega) (by decide), px_nm, nI_clamp (by omega), RP_last hD, px_nm, px_nm, px_in (by omega) (by decide), px_nm, px_nm, px_kb3, px_chb1]
          have hg : ¬ (dg = 0 ∨ 4 ≤ dg ∨ E ++ [x] = []) := by
            rintro (q | q | q)
            · exact h0 q
            · exact h4 q
            · simp at q
          rw [if_neg hg, addD_app, nI_1]
          refine Step1_yes (D := E ++ [x * 10 + (c - 48)]) (H := H) (w := false) ?_ (RP_set hD _) hH ho ?_ (by omega)
          · simp only [List.length_append, List.length_singleton]; rfl
          · simp only [List.length_append, List.length_singleton]; omega
  · rw [if_neg hd1, if_neg hd1, if_pos rfl]
    obtain ⟨d1, e1, hD1, hH1, ho1, hl1⟩ := closeNots_eq (o := o) (by omega) hD hH ho
    rw [e1, px_kb4]
    by_cases h41 : c = 41
    · rw [if_pos h41]
      unfold f_X3_closeParenthesis
      obtain ⟨d2, e2, hD2, hH2, hc2, hl2⟩ := closeFrom_eq (r := 1) (by decide) (by decide) (by omega) hD1 hH1
      rw [show f_X3_closeFrom 1 = f_X3_closeFrom (nI 1) from rfl, e2, px_kb3, lastHeld_eq (by omega) hH2, px_kb]
      by_cases h40 : hd (cF 1 (cN H o D).2.1 (cN H o D).1).2 = 40
      · have hx : ∃ t, (cF 1 (cN H o D).2.1 (cN H o D).1).2 = 40 :: t := by
          generalize (cF 1 (cN H o D).2.1 (cN H o D).1).2 = G at h40
          cases G with
          | nil => exact absurd h40 (by decide)
          | cons a t => exact ⟨t, by rw [show a = 40 from h40]⟩
        obtain ⟨t, ht⟩ := hx
        have hl3 : (40 :: t).length = t.length + 1 := rfl
        have hct : ct (40 :: t) = ct t + 1 := by
          show (if (40 : Int32) = 33 ∨ (40 : Int32) = 40 then 1 else 0) + ct t = _
          rw [if_pos (Or.inr rfl)]; omega
        simp only [h41, if_true]
        rw [if_pos h40, if_pos h40]
        rw [ht] at hH2 hc2 hl2 ⊢
        rw [hl3] at hl2 ⊢
        rw [px_nm, px_nm, nI_pred, ho1, ← hc2, hct, nI_pred, px_kb5]
        rw [px_chb1]
        refine Step1_yes (H := t) (w := false) (dg := 0) ?_ hD2 (RH_tail hH2) (by omega) (by omega) (by decide)
        rfl
      · simp only [h41, if_true]
        rw [if_neg h40, if_neg h40, px_kb5, px_chb0]
        exact Step1_no rfl
    · rw [if_neg h41, rk_eq, px_kb]
      by_cases h0 : rk c = 0
      · simp only [if_neg h41, h0, if_true]
        rw [if_pos (show nI 0 = 0 from rfl)]
        exact Step1_no rfl
      · have hc5 := rk_le c
        rw [if_neg (show ¬ nI (rk c) = 0 from nI_ne0 (by omega) (by omega))]
        simp only [if_neg h41, if_neg h0]
        by_cases h3 : rk c = 3
        · obtain ⟨d2, e2, hD2, hH2, hc2, hl2⟩ := closeFrom_eq (r := 4) (by decide) (by decide) (by omega) hD1 hH1
          simp only [h3, if_true]
          rw [if_pos (show nI 3 = 3 from rfl), px_nm, nI_1]
          unfold f_X3_follows_L60
          rw [e2, px_kb3, if_pos (show nI 3 = 3 from rfl), lastHeld_eq (by omega) hH2, px_kb, rk_eq, px_kb]
          have hr5 := rk_le (hd (cF 4 (cN H o D).2.1 (cN H o D).1).2)
          by_cases h33 : rk (hd (cF 4 (cN H o D).2.1 (cN H o D).1).2) = 3
          · rw [if_pos (show nI (rk (hd (cF 4 (cN H o D).2.1 (cN H o D).1).2)) = 3 by rw [h33]; rfl)]
            simp only [h33, true_and, if_true]
            exact Step1_no rfl
          · rw [if_neg (show ¬ nI (rk (hd (cF 4 (cN H o D).2.1 (cN H o D).1).2)) = 3 from nI_ne (c := 3) (by omega) (by decide) h33)]
            simp only [h33, and_false, if_false]
            unfold f_X3_follows_L81
            rw [hold_eq (by omega), px_kb2]
            refine Step1_yes (H := c :: (cF 4 (cN H o D).2.1 (cN H o D).1).2) (w := true) (dg := 0) rfl hD2 (RH_push hH2 c) ?_ ?_ (by decide)
            · rw [ct_rk (by omega), hc2]; exact ho1
            · simp only [List.length_cons]; omega
        · obtain ⟨d2, e2, hD2, hH2, hc2, hl2⟩ := closeFrom_eq (r := rk c) (by omega) (by omega) (by omega) hD1 hH1
          have h3' : ¬ nI (rk c) = 3 := nI_ne (c := 3) (by omega) (by decide) h3
          simp only [if_neg h3, h3, false_and, if_false]
          rw [if_neg h3']
          unfold f_X3_follows_L60 f_X3_follows_L81
          rw [e2, px_kb3, if_neg h3', hold_eq (by omega), px_kb2]
          refine Step1_yes (H := c :: (cF (rk c) (cN H o D).2.1 (cN H o D).1).2) (w := true) (dg := 0) rfl hD2 (RH_push hH2 c) ?_ ?_ (by decide)
          · rw [ct_rk (by omega), hc2]; exact ho1
          · simp only [List.length_cons]; omega
end PH
