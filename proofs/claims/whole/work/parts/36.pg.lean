/-! texts: the class's rows hold the automaton's lists -/
def RP (arr : Nat → Int32) (L : List Int32) : Prop := ∀ i, i < L.length → L[i]? = some (arr i)
theorem RP_nil (arr : Nat → Int32) : RP arr [] := fun i h => absurd h (Nat.not_lt_zero i)
theorem RP_push {arr : Nat → Int32} {L : List Int32} (h : RP arr L) (s : Int32) : RP (upd arr L.length s) (L ++ [s]) := by
  intro i hi
  simp only [List.length_append, List.length_singleton] at hi
  unfold upd
  by_cases e : i = L.length
  · subst e
    rw [if_pos rfl]
    simp
  · rw [if_neg e, List.getElem?_append_left (by omega)]
    exact h i (by omega)
theorem RP_pre {arr : Nat → Int32} {L M : List Int32} (h : RP arr (L ++ M)) : RP arr L := by
  intro i hi
  have := h i (by simp only [List.length_append]; omega)
  rwa [List.getElem?_append_left hi] at this
theorem RP_last {arr : Nat → Int32} {L : List Int32} {s : Int32} (h : RP arr (L ++ [s])) : arr L.length = s := by
  have := h L.length (by simp)
  simp at this
  exact this.symm
theorem RP_set {arr : Nat → Int32} {L : List Int32} {s : Int32} (h : RP arr (L ++ [s])) (t : Int32) : RP (upd arr L.length t) (L ++ [t]) := RP_push (RP_pre h) t
/-- what is held, top first -/
def RH (arr : Nat → Int32) (H : List Int32) : Prop := RP arr H.reverse
theorem RH_push {arr : Nat → Int32} {H : List Int32} (h : RH arr H) (s : Int32) : RH (upd arr H.length s) (s :: H) := by
  unfold RH
  rw [List.reverse_cons]
  have := RP_push h s
  rwa [List.length_reverse] at this
theorem RH_tail {arr : Nat → Int32} {H : List Int32} {s : Int32} (h : RH arr (s :: H)) : RH arr H := by
  unfold RH at h
  rw [List.reverse_cons] at h
  exact RP_pre h
theorem RH_top {arr : Nat → Int32} {H : List Int32} {s : Int32} (h : RH arr (s :: H)) : arr H.length = s := by
  unfold RH at h
  rw [List.reverse_cons] at h
  have := RP_last h
  rwa [List.length_reverse] at this
/-- how many are open -/
def ct : List Int32 → Nat
  | [] => 0
  | h :: t => (if h = 33 ∨ h = 40 then 1 else 0) + ct t
theorem lastHeld_eq {held : Nat → Int32} : ∀ {H : List Int32}, H.length ≤ 50 → RH held H → f_X3_lastHeld (nI H.length) held = some (hd H)
  | [], _, _ => rfl
  | h :: t, hl, hR => by
    simp only [List.length_cons] at hl
    unfold f_X3_lastHeld
    simp only [List.length_cons]
    rw [if_neg (nI_nle (by omega) (by omega)), if_neg (show ¬ (50 : Int32) < nI (t.length + 1) from nI_nlt (b := t.length + 1) (a := 50) |> fun _ => fun q => by have := (nI_ltI (a := 50) (b := t.length + 1) (by omega) (by omega)).mp q; omega), px_nm, nI_pred, px_in (by omega) (by decide), px_nm, nI_clamp (by omega), RH_top hR]
    rfl
theorem write_eq {draft : Nat → Int32} {D : List Int32} (h : D.length < 50) (s : Int32) : f_X3_write s (nI D.length) draft = some (nI (D.length + 1), upd draft D.length s) := by
  unfold f_X3_write
  rw [if_neg (nI_pos (by omega)), if_neg (show ¬ (50 : Int32) ≤ nI D.length from fun q => by have := (nI_leI (a := 50) (b := D.length) (by omega) (by omega)).mp q; omega), px_in h (by decide), px_nm, px_nm, nI_1, nI_clamp (by omega)]
theorem hold_eq {held : Nat → Int32} {H : List Int32} (h : H.length < 50) (s : Int32) : f_X3_hold s (nI H.length) held = some (nI (H.length + 1), upd held H.length s) := by
  unfold f_X3_hold
  rw [if_neg (nI_pos (by omega)), if_neg (show ¬ (50 : Int32) ≤ nI H.length from fun q => by have := (nI_leI (a := 50) (b := H.length) (by omega) (by omega)).mp q; omega), px_in h (by decide), px_nm, px_nm, nI_1, nI_clamp (by omega)]
theorem wlh_eq {draft held : Nat → Int32} {D t : List Int32} {h : Int32} (hl : D.length + (t.length + 1) ≤ 50) (hR : RH held (h :: t)) : f_X3_writeLastHeld (nI D.length) (nI (t.length + 1)) draft held = some (nI (D.length + 1), nI t.length, upd draft D.length (-h)) := by
  unfold f_X3_writeLastHeld
  have h1 : f_X3_lastHeld (nI (t.length + 1)) held = some h := lastHeld_eq (H := h :: t) (by simp only [List.length_cons]; omega) hR
  rw [h1, px_kb, px_nm, write_eq (by omega), px_kb2, px_nm, nI_pred]
theorem cN_run {held : Nat → Int32} : ∀ (H D : List Int32) (k x1 o : Nat) (draft : Nat → Int32), H.length < k → x1 + H.length ≤ 50 → D.length + H.length ≤ 50 → RP draft D → RH held H → o = ct H →
    ∃ draft', f_X3_closeNots_L2 held k (nI x1) (nI D.length) (nI H.length) (nI o) draft = some (nI (cN H o D).1.length, nI (cN H o D).2.1.length, nI (cN H o D).2.2, draft') ∧ RP draft' (cN H o D).1 ∧ RH held (cN H o D).2.1 ∧ (cN H o D).2.2 = ct (cN H o D).2.1 ∧ (cN H o D).1.length + (cN H o D).2.1.length = D.length + H.length
  | [], D, k, x1, o, draft, hk, hx, hD, hP, hH, ho => by
    obtain ⟨k', rfl⟩ : ∃ k', k = k' + 1 := ⟨k - 1, by have : ([] : List Int32).length = 0 := rfl; omega⟩
    refine ⟨draft, ?_, hP, hH, ho, rfl⟩
    unfold f_X3_closeNots_L2
    by_cases h5 : (50 : Int32) ≤ nI x1
    · rw [if_pos h5]; rfl
    · rw [if_neg h5, lastHeld_eq (by decide) hH, px_kb, if_neg (show ¬ hd [] = 33 by decide)]; rfl
  | h :: t, D, k, x1, o, draft, hk, hx, hD, hP, hH, ho => by
    simp only [List.length_cons] at hk hx hD
    obtain ⟨k', rfl⟩ : ∃ k', k = k' + 1 := ⟨k - 1, by omega⟩
    unfold f_X3_closeNots_L2
    rw [if_neg (show ¬ (50 : Int32) ≤ nI x1 from fun q => by have := (nI_leI (a := 50) (b := x1) (by omega) (by omega)).mp q; omega), lastHeld_eq (by simp only [List.length_cons]; omega) hH, px_kb]
    by_cases h33 : h = 33
    · rw [if_pos (show hd (h :: t) = 33 from h33), List.length_cons, wlh_eq (by omega) hH]
      have ho1 : o = ct t + 1 := by rw [ho, h33]; show 1 + ct t = _; omega
      rw [px_kb3, px_nm, px_nm, nI_1, ho1, nI_pred]
      have e1 : cN (h :: t) (ct t + 1) D = cN t (ct t) (D ++ [-33]) := by
        show (if h = 33 then _ else _) = _
        rw [if_pos h33]
        rfl
      rw [e1]
      have hP2 : RP (upd draft D.length (-h)) (D ++ [-33]) := by
        rw [h33]; exact RP_push hP _
      have := cN_run t (D ++ [-33]) k' (x1 + 1) (ct t) (upd draft D.length (-h)) (by omega) (by omega) (by simp only [List.length_append, List.length_singleton]; omega) hP2 (RH_tail hH) rfl
      simp only [List.length_append, List.length_singleton] at this
      obtain ⟨d2, f1, f2, f3, f4, f5⟩ := this
      exact ⟨d2, f1, f2, f3, f4, by omega⟩
    · have e1 : cN (h :: t) o D = (D, h :: t, o) := by
        show (if h = 33 then _ else _) = _
        rw [if_neg h33]
      rw [if_neg (show ¬ hd (h :: t) = 33 from h33), e1]
      exact ⟨draft, rfl, hP, hH, ho, rfl⟩
theorem ct_rk {h : Int32} (hr : 1 ≤ rk h) (t : List Int32) : ct (h :: t) = ct t := by
  obtain ⟨-, -, a, c, -⟩ := rk_sign hr
  show (if h = 33 ∨ h = 40 then 1 else 0) + ct t = _
  rw [if_neg (fun q => q.elim a c)]
  omega
theorem cF_run {held : Nat → Int32} {r : Nat} (hr : 1 ≤ r) (hr5 : r ≤ 6) : ∀ (H D : List Int32) (k x1 : Nat) (draft : Nat → Int32), H.length < k → x1 + H.length ≤ 50 → D.length + H.length ≤ 50 → RP draft D → RH held H →
    ∃ draft', f_X3_closeFrom_L2 (nI r) held k (nI x1) (nI D.length) (nI H.length) draft = some (nI (cF r H D).1.length, nI (cF r H D).2.length, draft') ∧ RP draft' (cF r H D).1 ∧ RH held (cF r H D).2 ∧ ct (cF r H D).2 = ct H ∧ (cF r H D).1.length + (cF r H D).2.length = D.length + H.length
  | [], D, k, x1, draft, hk, hx, hD, hP, hH => by
    obtain ⟨k', rfl⟩ : ∃ k', k = k' + 1 := ⟨k - 1, by have : ([] : List Int32).length = 0 := rfl; omega⟩
    refine ⟨draft, ?_, hP, hH, rfl, rfl⟩
    unfold f_X3_closeFrom_L2
    by_cases h5 : (50 : Int32) ≤ nI x1
    · rw [if_pos h5]; rfl
    · rw [if_neg h5, lastHeld_eq (by decide) hH, px_kb, rk_eq, px_kb, if_pos (show nI (rk (hd [])) < nI r from nI_lt (by show 0 < r; omega) (by omega))]; rfl
  | h :: t, D, k, x1, draft, hk, hx, hD, hP, hH => by
    simp only [List.length_cons] at hk hx hD
    obtain ⟨k', rfl⟩ : ∃ k', k = k' + 1 := ⟨k - 1, by omega⟩
    unfold f_X3_closeFrom_L2
    rw [if_neg (show ¬ (50 : Int32) ≤ nI x1 from fun q => by have := (nI_leI (a := 50) (b := x1) (by omega) (by omega)).mp q; omega), lastHeld_eq (by simp only [List.length_cons]; omega) hH, px_kb, rk_eq, px_kb]
    have hrk := rk_le h
    by_cases hh : r ≤ rk h
    · rw [if_neg (show ¬ nI (rk (hd (h :: t))) < nI r from nI_nlt hh (by show rk h < _; omega)), List.length_cons, wlh_eq (by omega) hH]
      rw [px_kb3, px_nm, nI_1]
      have e1 : cF r (h :: t) D = cF r t (D ++ [-h]) := by
        show (if r ≤ rk h then _ else _) = _
        rw [if_pos hh]
      rw [e1]
      have := cF_run hr hr5 t (D ++ [-h]) k' (x1 + 1) (upd draft D.length (-h)) (by omega) (by omega) (by simp only [List.length_append, List.length_singleton]; omega) (RP_push hP _) (RH_tail hH)
      simp only [List.length_append, List.length_singleton] at this
      obtain ⟨d2, f1, f2, f3, f4, f5⟩ := this
      exact ⟨d2, f1, f2, f3, f4.trans (ct_rk (by omega) t).symm, by omega⟩
    · have e1 : cF r (h :: t) D = (D, h :: t) := by
        show (if r ≤ rk h then _ else _) = _
        rw [if_neg hh]
      rw [if_pos (show nI (rk (hd (h :: t))) < nI r from nI_lt (by show rk h < r; omega) (by omega)), e1]
      exact ⟨draft, rfl, hP, hH, rfl, rfl⟩
