/-! texts: what a law gives, by the class and by the model -/
/-- held within 0 to 99 -/
def clv (v : Int32) : Int32 := if 0 ≤ v then (if v ≤ 99 then v else 99) else 0
theorem held_eq (v : Int32) : f_X12_held v 0 99 = some (clv v) := by
  unfold f_X12_held clv
  split
  · split <;> rfl
  · rfl
theorem clv_nI (v : Int32) : ∃ k, k ≤ 99 ∧ clv v = nI k := by
  unfold clv
  by_cases h : 0 ≤ v
  · rw [if_pos h]
    by_cases h2 : v ≤ 99
    · rw [if_pos h2]
      have h3 : ¬ v < 0 := fun q => absurd (Int32.lt_iff_toInt_lt.mp q) (by have := Int32.le_iff_toInt_le.mp h; omega)
      obtain ⟨k, hk, rfl⟩ := nI_of h3
      exact ⟨k, (nI_leI (b := 99) hk (by decide)).mp h2, rfl⟩
    · rw [if_neg h2]; exact ⟨99, by decide, rfl⟩
  · rw [if_neg h]; exact ⟨0, by decide, rfl⟩
theorem clv_mm (v : Int32) : (if 0 < (if v < 99 then v else 99) then (if v < 99 then v else 99) else 0) = clv v := by
  have e0 : (0 : Int32).toInt = 0 := by decide
  have e9 : (99 : Int32).toInt = 99 := by decide
  unfold clv
  by_cases h : v < 99
  · have h' := Int32.lt_iff_toInt_lt.mp h
    rw [if_pos h]
    by_cases h0 : 0 < v
    · have h0' := Int32.lt_iff_toInt_lt.mp h0
      rw [if_pos h0, if_pos (Int32.le_iff_toInt_le.mpr (by omega)), if_pos (Int32.le_iff_toInt_le.mpr (by omega))]
    · rw [if_neg h0]
      by_cases h2 : 0 ≤ v
      · have h2' := Int32.le_iff_toInt_le.mp h2
        have h0' : ¬ (0 : Int32).toInt < v.toInt := fun q => h0 (Int32.lt_iff_toInt_lt.mpr q)
        rw [if_pos h2, if_pos (Int32.le_iff_toInt_le.mpr (by omega))]
        exact Int32.toInt_inj.mp (by omega)
      · rw [if_neg h2]
  · have h' : ¬ v.toInt < (99 : Int32).toInt := fun q => h (Int32.lt_iff_toInt_lt.mpr q)
    rw [if_neg h, if_pos (show (0 : Int32) < 99 by decide), if_pos (Int32.le_iff_toInt_le.mpr (by omega))]
    by_cases h2 : v ≤ 99
    · have h2' := Int32.le_iff_toInt_le.mp h2
      rw [if_pos h2]
      exact Int32.toInt_inj.mp (by omega)
    · rw [if_neg h2]
section PJ
variable {a c e : Int32} {code : List Int32} {steps : Nat → Int32}
theorem RP_at {arr : Nat → Int32} {L : List Int32} (h : RP arr L) {d : List Int32} {s : Int32} {r : List Int32} (e : L = d ++ s :: r) : arr d.length = s := by
  have h1 := h d.length (by rw [e]; simp)
  rw [e] at h1
  simp at h1
  exact h1.symm
theorem ev1_len (s : Int32) (stk : List Int32) : (ev1 a c e s stk).length ≤ stk.length + 1 := by
  unfold ev1
  split
  · split
    · cases stk with
      | nil => simp
      | cons x t => simp
    · match stk with
      | [] => simp
      | [x] => simp
      | y :: x :: t => simp
  · simp
theorem work_step {k : Nat} {d : List Int32} {s : Int32} {r : List Int32} (hc : code = d ++ s :: r) (hl : code.length ≤ 50) (hR : RP steps code) {stk : List Int32} (hs : stk.length ≤ d.length) {stack : Nat → Int32} (hH : RH stack stk) :
    ∃ stack', f_X3_worksOut_L6 a c e (nI code.length) steps (k + 1) (nI stk.length) (nI d.length) stack = f_X3_worksOut_L6 a c e (nI code.length) steps k (nI (ev1 a c e s stk).length) (nI (d.length + 1)) stack' ∧ RH stack' (ev1 a c e s stk) := by
  have hlen : d.length < code.length := by rw [hc]; simp
  have hd50 : d.length < 50 := by omega
  rw [f_X3_worksOut_L6, if_neg (nI_ge hlen (by omega)), if_neg (show ¬ (50 : Int32) ≤ nI d.length from fun q => by have := (nI_leI (a := 50) (b := d.length) (by omega) (by omega)).mp q; omega), px_in hd50 (by decide), px_nm, nI_clamp (by omega), RP_at hR hc]
  have skip : stk.length ≤ 1 → ev1 a c e s stk = stk → ∃ stack', f_X3_worksOut_L117 (f_X3_worksOut_L6 a c e (nI code.length) steps k) a c e (nI code.length) steps (nI stk.length) (nI d.length) s stack = f_X3_worksOut_L6 a c e (nI code.length) steps k (nI (ev1 a c e s stk).length) (nI (d.length + 1)) stack' ∧ RH stack' (ev1 a c e s stk) := by
    intro h1 he
    rw [he]
    unfold f_X3_worksOut_L117
    rw [if_pos (show nI stk.length ≤ 1 from nI_le (b := 1) h1 (by decide)), px_nm, nI_1]
    exact ⟨stack, rfl, hH⟩
  by_cases h3 : s < (-3)
  · rw [if_pos h3]
    unfold f_X3_worksOut_L76
    by_cases h33 : s = (-33)
    · rw [if_pos h33]
      cases stk with
      | nil =>
        rw [if_pos (show nI ([] : List Int32).length ≤ 0 by decide)]
        exact skip (by simp) (by unfold ev1; rw [if_pos h3, if_pos h33])
      | cons x t =>
        have he : ev1 a c e s (x :: t) = (if x = 0 then 1 else 0) :: t := by unfold ev1; rw [if_pos h3, if_pos h33]
        simp only [List.length_cons] at hs ⊢
        rw [if_neg (nI_nle (by omega) (by omega)), px_nm, px_nm, nI_pred, px_in (by omega) (by decide), nI_clamp (by omega), RH_top hH, he]
        by_cases h0 : x = 0
        · rw [if_pos h0, if_pos h0, px_in (by omega) (by decide), px_nm, px_nm, nI_1]
          exact ⟨_, rfl, RH_push (RH_tail hH) 1⟩
        · rw [if_neg h0, if_neg h0, px_in (by omega) (by decide), px_nm, px_nm, nI_1]
          exact ⟨_, rfl, RH_push (RH_tail hH) 0⟩
    · rw [if_neg h33]
      match stk, hs, hH, skip with
      | [], hs, hH, skip => exact skip (by simp) (by unfold ev1; rw [if_pos h3, if_neg h33])
      | [x], hs, hH, skip => exact skip (by simp) (by unfold ev1; rw [if_pos h3, if_neg h33])
      | y :: x :: t, hs, hH, _ =>
        have he : ev1 a c e s (y :: x :: t) = jn (-s) x y :: t := by unfold ev1; rw [if_pos h3, if_neg h33]
        simp only [List.length_cons] at hs ⊢
        unfold f_X3_worksOut_L117
        have top2 : stack t.length = x := RH_top (RH_tail hH)
        have top1 : stack (t.length + 1) = y := by have := RH_top hH; simpa using this
        rw [if_neg (show ¬ nI (t.length + 1 + 1) ≤ 1 from fun q => by have := (nI_leI (b := 1) (by omega) (by decide)).mp q; omega), px_nm, px_nm, px_nm, px_nm, pk_m1, nI_pred, nI_clamp (n := t.length) (by omega), nI_clamp (n := t.length + 1) (by omega), px_in (by omega) (by decide), px_nm, top2, px_in (by omega) (by decide), px_nm, top1, joined_some, px_kb, px_in (by omega) (by decide), px_nm, px_nm, nI_1, he]
        exact ⟨_, rfl, RH_push (RH_tail (RH_tail hH)) _⟩
  · rw [if_neg h3, if_neg (show ¬ (50 : Int32) ≤ nI stk.length from fun q => by have := (nI_leI (a := 50) (b := stk.length) (by omega) (by omega)).mp q; omega)]
    by_cases h0 : s < 0
    · have he : ev1 a c e s stk = (if s = (-1) then a else if s = (-2) then c else e) :: stk := by unfold ev1; rw [if_neg h3, if_pos h0]
      rw [if_pos h0, named_eq, px_kb, px_in (by omega) (by decide), px_nm, px_nm, px_nm, nI_1, nI_1, nI_clamp (by omega), he]
      exact ⟨_, rfl, RH_push hH _⟩
    · have he : ev1 a c e s stk = s :: stk := by unfold ev1; rw [if_neg h3, if_neg h0]
      rw [if_neg h0, px_in (by omega) (by decide), px_nm, px_nm, px_nm, nI_1, nI_1, nI_clamp (by omega), he]
      exact ⟨_, rfl, RH_push hH _⟩
theorem work_run (hl : code.length ≤ 50) (hR : RP steps code) : ∀ (r d : List Int32) (k : Nat) (stk : List Int32) (stack : Nat → Int32), r.length < k → code = d ++ r → stk.length ≤ d.length → RH stack stk →
    ∃ stack', f_X3_worksOut_L6 a c e (nI code.length) steps k (nI stk.length) (nI d.length) stack = f_X3_worksOut_L163 stack' ∧ RH stack' (ev a c e r stk)
  | [], d, k, stk, stack, hk, hc, hs, hH => by
    obtain ⟨k', rfl⟩ : ∃ k', k = k' + 1 := ⟨k - 1, by have : ([] : List Int32).length = 0 := rfl; omega⟩
    have : code.length = d.length := by rw [hc]; simp
    rw [f_X3_worksOut_L6, if_pos (show nI code.length ≤ nI d.length by rw [this]; exact Int32.le_refl _)]
    exact ⟨stack, rfl, hH⟩
  | s :: r, d, k, stk, stack, hk, hc, hs, hH => by
    simp only [List.length_cons] at hk
    obtain ⟨k', rfl⟩ : ∃ k', k = k' + 1 := ⟨k - 1, by omega⟩
    obtain ⟨st1, e1, h1⟩ := work_step (a := a) (c := c) (e := e) (k := k') hc hl hR hs hH
    have hlen := ev1_len (a := a) (c := c) (e := e) s stk
    obtain ⟨st2, e2, h2⟩ := work_run hl hR r (d ++ [s]) k' (ev1 a c e s stk) st1 (by omega) (by rw [hc]; simp) (by simp only [List.length_append, List.length_singleton]; omega) h1
    refine ⟨st2, ?_, h2⟩
    rw [e1, ← e2]
    simp only [List.length_append, List.length_singleton]
/-- what a text's code gives -/
def gv (L : List Int32) (a c e : Int32) : Int32 := clv (hd (ev a c e L []))
theorem work_eq (hl : code.length ≤ 50) (hR : RP steps code) {v : Int32} (hv : ev a c e code [] = [v]) (stack : Nat → Int32) : ∃ stack', f_X3_worksOut a c e (nI code.length) stack steps = some (gv code a c e, stack') := by
  obtain ⟨st, e1, h1⟩ := work_run (a := a) (c := c) (e := e) hl hR code [] gFuel [] stack (by unfold gFuel; omega) rfl (by simp) (RP_nil _)
  refine ⟨st, ?_⟩
  rw [hv] at h1
  have e2 : st 0 = v := RH_top h1
  unfold f_X3_worksOut
  rw [show f_X3_worksOut_L6 a c e (nI code.length) steps gFuel 0 0 stack = f_X3_worksOut_L6 a c e (nI code.length) steps gFuel (nI ([] : List Int32).length) (nI ([] : List Int32).length) stack from rfl, e1]
  unfold f_X3_worksOut_L163 gv
  rw [show chi 0 50 = chi (nI 0) 50 from rfl, px_in (by decide) (by decide), px_nm, px_nm, px_nm, hv, show (0 : Int32).toNatClampNeg = 0 from rfl, e2]
  exact congrArg (fun q => some (q, st)) (clv_mm v)
end PJ
