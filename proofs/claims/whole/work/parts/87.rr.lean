/-! the calls: voice, trace -/
section RR0
/-- the bodies that have run -/
def VO (len : Int32) (bodies : Nat → Int32) (many : Int32) (traced : Nat → Int32) : Prop := ∃ v, v ≤ 40 ∧ len = nI v ∧ many = nI v ∧ ∀ j, j < v → bodies j = traced j
def RV (o1 o2 : Option (Int32 × Int32 × (Nat → Int32))) : Prop := ∃ r l b m t, o1 = some (r, l, b) ∧ o2 = some (r, m, t) ∧ VO l b m t
theorem RV_ret {l m : Int32} {b t : Nat → Int32} (h : VO l b m t) (r : Int32) : RV (some (r, l, b)) (some (r, m, t)) := ⟨r, l, b, m, t, rfl, rfl, h⟩
theorem RV_bind {o1 o2 : Option (Int32 × Int32 × (Nat → Int32))} {k1 k2 : Int32 → Int32 → (Nat → Int32) → Option (Int32 × Int32 × (Nat → Int32))} (h : RV o1 o2) (hk : ∀ r l b m t, VO l b m t → RV (k1 r l b) (k2 r m t)) : RV (kb3 o1 k1) (kb3 o2 k2) := by
  obtain ⟨r, l, b, m, t, rfl, rfl, hv⟩ := h
  rw [px_kb3, px_kb3]
  exact hk r l b m t hv
theorem VO_push (c : Int32) {l m : Int32} {b t : Nat → Int32} (h : VO l b m t) : ∃ l' b' m' t', f_X9_begin c l b = some (l', b') ∧ f_X12_ran c m t = some (m', t') ∧ VO l' b' m' t' := by
  obtain ⟨v, h1, rfl, rfl, h2⟩ := h
  unfold f_X9_begin f_X12_ran
  rw [if_neg (nI_pos (show v < 2 ^ 31 by omega))]
  by_cases e : 40 ≤ v
  · have e1 : (40 : Int32) ≤ nI v := nI_le (a := 40) e (by omega)
    rw [if_pos e1, if_pos e1]
    exact ⟨_, _, _, _, rfl, rfl, v, h1, rfl, rfl, h2⟩
  · have e1 : ¬ (40 : Int32) ≤ nI v := nI_ge (b := 40) (by omega) (by decide)
    rw [if_neg e1, if_neg e1, px_in (show v < 40 by omega) (by decide), px_in (show v < 40 by omega) (by decide), px_nm, px_nm, px_nm, px_nm, nI_clamp (by omega), nI_1]
    refine ⟨_, _, _, _, rfl, rfl, v + 1, by omega, rfl, rfl, fun j hj => ?_⟩
    by_cases q : j = v
    · subst q
      exact (if_pos rfl).trans (if_pos rfl).symm
    · exact ((if_neg q).trans (h2 j (by omega))).trans (if_neg q).symm
theorem RV_begin (c : Int32) {l m : Int32} {b t : Nat → Int32} {k1 k2 : Int32 → (Nat → Int32) → Option (Int32 × Int32 × (Nat → Int32))} (h : VO l b m t) (hk : ∀ l b m t, VO l b m t → RV (k1 l b) (k2 m t)) : RV (kb2 (f_X9_begin c l b) k1) (kb2 (f_X12_ran c m t) k2) := by
  obtain ⟨l', b', m', t', q1, q2, q3⟩ := VO_push c h
  rw [q1, q2, px_kb2, px_kb2]
  exact hk _ _ _ _ q3
theorem kb3_id (o : Option (Int32 × Int32 × (Nat → Int32))) : kb3 o (fun r a b => some (r, a, b)) = o := by
  cases o with
  | none => rfl
  | some v => rfl
theorem ab_1 : f_X12_above 1 = some 0 := by decide +kernel
theorem ab_2 : f_X12_above 2 = some 0 := by decide +kernel
theorem ab_3 : f_X12_above 3 = some 0 := by decide +kernel
theorem ab_4 : f_X12_above 4 = some 1 := by decide +kernel
theorem ab_5 : f_X12_above 5 = some 2 := by decide +kernel
theorem ab_6 : f_X12_above 6 = some 3 := by decide +kernel
theorem mv_0 (n : Nat) (x m w : Int32) (t : Nat → Int32) : f_X12_movesByN (n + 1) 0 x m w t = kb2 (f_X12_ran 10 m t) fun w3 w4 => some (x + w, w3, w4) := by
  show f_X12_movesBy (f_X12_movesByN n) 0 x m w t = _
  unfold f_X12_movesBy
  rw [if_pos (show (0 : Int32) = 0 from Eq.trans rfl rfl)]
theorem mv_1 (n : Nat) (x m w : Int32) (t : Nat → Int32) : f_X12_movesByN (n + 1) 1 x m w t = kb2 (f_X12_ran 20 m t) fun w7 w8 => kb3 (f_X12_movesByN n 0 x w7 w w8) fun r a b => some (r * 3, a, b) := by
  show f_X12_movesBy (f_X12_movesByN n) 1 x m w t = _
  unfold f_X12_movesBy
  rw [if_neg (show ¬ (1 : Int32) = 0 by decide), if_pos (show (1 : Int32) = 1 from Eq.trans rfl rfl), ab_1]
  rfl
theorem mv_2 (n : Nat) (x m w : Int32) (t : Nat → Int32) : f_X12_movesByN (n + 1) 2 x m w t = f_X12_movesByN n 0 x m w t := by
  show f_X12_movesBy (f_X12_movesByN n) 2 x m w t = _
  unfold f_X12_movesBy
  rw [if_neg (show ¬ (2 : Int32) = 0 by decide), if_neg (show ¬ (2 : Int32) = 1 by decide), ab_2, px_kb, kb3_id]
theorem mv_3 (n : Nat) (x m w : Int32) (t : Nat → Int32) : f_X12_movesByN (n + 1) 3 x m w t = f_X12_movesByN n 0 x m w t := by
  show f_X12_movesBy (f_X12_movesByN n) 3 x m w t = _
  unfold f_X12_movesBy
  rw [if_neg (show ¬ (3 : Int32) = 0 by decide), if_neg (show ¬ (3 : Int32) = 1 by decide), ab_3, px_kb, kb3_id]
theorem mv_4 (n : Nat) (x m w : Int32) (t : Nat → Int32) : f_X12_movesByN (n + 1) 4 x m w t = f_X12_movesByN n 1 x m w t := by
  show f_X12_movesBy (f_X12_movesByN n) 4 x m w t = _
  unfold f_X12_movesBy
  rw [if_neg (show ¬ (4 : Int32) = 0 by decide), if_neg (show ¬ (4 : Int32) = 1 by decide), ab_4, px_kb, kb3_id]
theorem mv_5 (n : Nat) (x m w : Int32) (t : Nat → Int32) : f_X12_movesByN (n + 1) 5 x m w t = f_X12_movesByN n 2 x m w t := by
  show f_X12_movesBy (f_X12_movesByN n) 5 x m w t = _
  unfold f_X12_movesBy
  rw [if_neg (show ¬ (5 : Int32) = 0 by decide), if_neg (show ¬ (5 : Int32) = 1 by decide), ab_5, px_kb, kb3_id]
theorem mv_6 (n : Nat) (x m w : Int32) (t : Nat → Int32) : f_X12_movesByN (n + 1) 6 x m w t = f_X12_movesByN n 3 x m w t := by
  show f_X12_movesBy (f_X12_movesByN n) 6 x m w t = _
  unfold f_X12_movesBy
  rw [if_neg (show ¬ (6 : Int32) = 0 by decide), if_neg (show ¬ (6 : Int32) = 1 by decide), ab_6, px_kb, kb3_id]
theorem tr_0 (n : Nat) (x m w : Int32) (d t : Nat → Int32) : f_X12_tearsByN (n + 1) 0 x m w d t = kb2 (f_X12_ran 12 m t) fun w3 w4 => kb (f_X12_numberOf w d) fun r => some (x - r, w3, w4) := by
  show f_X12_tearsBy (f_X12_tearsByN n) 0 x m w d t = _
  unfold f_X12_tearsBy
  rw [if_pos (show (0 : Int32) = 0 from Eq.trans rfl rfl)]
theorem tr_3 (n : Nat) (x m w : Int32) (d t : Nat → Int32) : f_X12_tearsByN (n + 1) 3 x m w d t = kb2 (f_X12_ran 40 m t) fun w3 w4 => kb3 (f_X12_tearsByN n 0 x w3 w d w4) fun r a b => some (-r, a, b) := by
  show f_X12_tearsBy (f_X12_tearsByN n) 3 x m w d t = _
  unfold f_X12_tearsBy
  rw [if_neg (show ¬ (3 : Int32) = 0 by decide), if_pos (show (3 : Int32) = 3 from Eq.trans rfl rfl), ab_3]
  rfl
theorem tr_6 (n : Nat) (x m w : Int32) (d t : Nat → Int32) : f_X12_tearsByN (n + 1) 6 x m w d t = kb2 (f_X12_ran 70 m t) fun w3 w4 => kb3 (f_X12_tearsByN n 3 x w3 w d w4) fun r a b => some (r ^^^ w, a, b) := by
  show f_X12_tearsBy (f_X12_tearsByN n) 6 x m w d t = _
  unfold f_X12_tearsBy
  rw [if_neg (show ¬ (6 : Int32) = 0 by decide), if_neg (show ¬ (6 : Int32) = 3 by decide), if_pos (show (6 : Int32) = 6 from Eq.trans rfl rfl), ab_6]
  rfl
theorem tr_1 (n : Nat) (x m w : Int32) (d t : Nat → Int32) : f_X12_tearsByN (n + 1) 1 x m w d t = f_X12_tearsByN n 0 x m w d t := by
  show f_X12_tearsBy (f_X12_tearsByN n) 1 x m w d t = _
  unfold f_X12_tearsBy
  rw [if_neg (show ¬ (1 : Int32) = 0 by decide), if_neg (show ¬ (1 : Int32) = 3 by decide), if_neg (show ¬ (1 : Int32) = 6 by decide), ab_1, px_kb, kb3_id]
theorem tr_2 (n : Nat) (x m w : Int32) (d t : Nat → Int32) : f_X12_tearsByN (n + 1) 2 x m w d t = f_X12_tearsByN n 0 x m w d t := by
  show f_X12_tearsBy (f_X12_tearsByN n) 2 x m w d t = _
  unfold f_X12_tearsBy
  rw [if_neg (show ¬ (2 : Int32) = 0 by decide), if_neg (show ¬ (2 : Int32) = 3 by decide), if_neg (show ¬ (2 : Int32) = 6 by decide), ab_2, px_kb, kb3_id]
theorem tr_4 (n : Nat) (x m w : Int32) (d t : Nat → Int32) : f_X12_tearsByN (n + 1) 4 x m w d t = f_X12_tearsByN n 1 x m w d t := by
  show f_X12_tearsBy (f_X12_tearsByN n) 4 x m w d t = _
  unfold f_X12_tearsBy
  rw [if_neg (show ¬ (4 : Int32) = 0 by decide), if_neg (show ¬ (4 : Int32) = 3 by decide), if_neg (show ¬ (4 : Int32) = 6 by decide), ab_4, px_kb, kb3_id]
theorem tr_5 (n : Nat) (x m w : Int32) (d t : Nat → Int32) : f_X12_tearsByN (n + 1) 5 x m w d t = f_X12_tearsByN n 2 x m w d t := by
  show f_X12_tearsBy (f_X12_tearsByN n) 5 x m w d t = _
  unfold f_X12_tearsBy
  rw [if_neg (show ¬ (5 : Int32) = 0 by decide), if_neg (show ¬ (5 : Int32) = 3 by decide), if_neg (show ¬ (5 : Int32) = 6 by decide), ab_5, px_kb, kb3_id]
theorem ly_0 {w o : Int32} {d : Nat → Int32} (ho : f_X12_own w d = some o) (n : Nat) (x m : Int32) (t : Nat → Int32) : f_X12_letsByN (n + 1) 0 x m w d t = kb2 (f_X12_ran 11 m t) fun w3 w4 => kb3 (f_X12_movesByN 4 o x w3 w w4) fun r a b => some (r * 2, a, b) := by
  show f_X12_letsBy (f_X12_letsByN n) 0 x m w d t = _
  unfold f_X12_letsBy
  rw [if_pos (show (0 : Int32) = 0 from Eq.trans rfl rfl), ho]
  rfl
theorem ly_2 {w o : Int32} {d : Nat → Int32} (ho : f_X12_own w d = some o) (n : Nat) (x m : Int32) (t : Nat → Int32) : f_X12_letsByN (n + 1) 2 x m w d t = kb2 (f_X12_ran 30 m t) fun w3 w4 => kb3 (f_X12_letsByN n 0 x w3 w d w4) fun r a b => kb3 (f_X12_tearsByN 4 o 1 a w d b) fun r2 a2 b2 => some (r - r2, a2, b2) := by
  show f_X12_letsBy (f_X12_letsByN n) 2 x m w d t = _
  unfold f_X12_letsBy
  rw [if_neg (show ¬ (2 : Int32) = 0 by decide), if_pos (show (2 : Int32) = 2 from Eq.trans rfl rfl), ab_2, ho]
  rfl
theorem ly_5 {w : Int32} {d : Nat → Int32} (n : Nat) (x m : Int32) (t : Nat → Int32) : f_X12_letsByN (n + 1) 5 x m w d t = kb2 (f_X12_ran 60 m t) fun w3 w4 => kb3 (f_X12_letsByN n 2 (x + 1) w3 w d w4) fun r a b => some (r, a, b) := by
  show f_X12_letsBy (f_X12_letsByN n) 5 x m w d t = _
  unfold f_X12_letsBy
  rw [if_neg (show ¬ (5 : Int32) = 0 by decide), if_neg (show ¬ (5 : Int32) = 2 by decide), if_pos (show (5 : Int32) = 5 from Eq.trans rfl rfl), ab_5]
  rfl
theorem ly_1 (n : Nat) (x m w : Int32) (d t : Nat → Int32) : f_X12_letsByN (n + 1) 1 x m w d t = f_X12_letsByN n 0 x m w d t := by
  show f_X12_letsBy (f_X12_letsByN n) 1 x m w d t = _
  unfold f_X12_letsBy
  rw [if_neg (show ¬ (1 : Int32) = 0 by decide), if_neg (show ¬ (1 : Int32) = 2 by decide), if_neg (show ¬ (1 : Int32) = 5 by decide), ab_1, px_kb, kb3_id]
theorem ly_3 (n : Nat) (x m w : Int32) (d t : Nat → Int32) : f_X12_letsByN (n + 1) 3 x m w d t = f_X12_letsByN n 0 x m w d t := by
  show f_X12_letsBy (f_X12_letsByN n) 3 x m w d t = _
  unfold f_X12_letsBy
  rw [if_neg (show ¬ (3 : Int32) = 0 by decide), if_neg (show ¬ (3 : Int32) = 2 by decide), if_neg (show ¬ (3 : Int32) = 5 by decide), ab_3, px_kb, kb3_id]
theorem ly_4 (n : Nat) (x m w : Int32) (d t : Nat → Int32) : f_X12_letsByN (n + 1) 4 x m w d t = f_X12_letsByN n 1 x m w d t := by
  show f_X12_letsBy (f_X12_letsByN n) 4 x m w d t = _
  unfold f_X12_letsBy
  rw [if_neg (show ¬ (4 : Int32) = 0 by decide), if_neg (show ¬ (4 : Int32) = 2 by decide), if_neg (show ¬ (4 : Int32) = 5 by decide), ab_4, px_kb, kb3_id]
theorem ly_6 (n : Nat) (x m w : Int32) (d t : Nat → Int32) : f_X12_letsByN (n + 1) 6 x m w d t = f_X12_letsByN n 3 x m w d t := by
  show f_X12_letsBy (f_X12_letsByN n) 6 x m w d t = _
  unfold f_X12_letsBy
  rw [if_neg (show ¬ (6 : Int32) = 0 by decide), if_neg (show ¬ (6 : Int32) = 2 by decide), if_neg (show ¬ (6 : Int32) = 5 by decide), ab_6, px_kb, kb3_id]
theorem te_0 {w o : Int32} {d : Nat → Int32} (ho : f_X12_own w d = some o) (n : Nat) (x m : Int32) (t : Nat → Int32) : f_X12_tellsByN (n + 1) 0 x m w d t = kb2 (f_X12_ran 13 m t) fun w3 w4 => kb3 (f_X12_letsByN 4 o x w3 w d w4) fun r a b => kb3 (f_X12_tearsByN 4 o x a w d b) fun r2 a2 b2 => some (r ^^^ r2, a2, b2) := by
  show f_X12_tellsBy (f_X12_tellsByN n) 0 x m w d t = _
  unfold f_X12_tellsBy
  rw [if_pos (show (0 : Int32) = 0 from Eq.trans rfl rfl), ho]
  rfl
theorem te_4 {w o : Int32} {d : Nat → Int32} (ho : f_X12_own w d = some o) (n : Nat) (x m : Int32) (t : Nat → Int32) : f_X12_tellsByN (n + 1) 4 x m w d t = kb2 (f_X12_ran 50 m t) fun w3 w4 => kb3 (f_X12_tellsByN n 1 x w3 w d w4) fun r a b => kb3 (f_X12_movesByN 4 o 2 a w b) fun r2 a2 b2 => some (r - r2, a2, b2) := by
  show f_X12_tellsBy (f_X12_tellsByN n) 4 x m w d t = _
  unfold f_X12_tellsBy
  rw [if_neg (show ¬ (4 : Int32) = 0 by decide), if_pos (show (4 : Int32) = 4 from Eq.trans rfl rfl), ab_4, ho]
  rfl
theorem te_6 {w o : Int32} {d : Nat → Int32} (ho : f_X12_own w d = some o) (n : Nat) (x m : Int32) (t : Nat → Int32) : f_X12_tellsByN (n + 1) 6 x m w d t = kb2 (f_X12_ran 71 m t) fun w3 w4 => kb3 (f_X12_letsByN 4 o x w3 w d w4) fun r a b => kb3 (f_X12_tellsByN n 3 x a w d b) fun r2 a2 b2 => some (r - r2, a2, b2) := by
  show f_X12_tellsBy (f_X12_tellsByN n) 6 x m w d t = _
  unfold f_X12_tellsBy
  rw [if_neg (show ¬ (6 : Int32) = 0 by decide), if_neg (show ¬ (6 : Int32) = 4 by decide), if_pos (show (6 : Int32) = 6 from Eq.trans rfl rfl), ab_6, ho]
  rfl
theorem te_1 (n : Nat) (x m w : Int32) (d t : Nat → Int32) : f_X12_tellsByN (n + 1) 1 x m w d t = f_X12_tellsByN n 0 x m w d t := by
  show f_X12_tellsBy (f_X12_tellsByN n) 1 x m w d t = _
  unfold f_X12_tellsBy
  rw [if_neg (show ¬ (1 : Int32) = 0 by decide), if_neg (show ¬ (1 : Int32) = 4 by decide), if_neg (show ¬ (1 : Int32) = 6 by decide), ab_1, px_kb, kb3_id]
theorem te_2 (n : Nat) (x m w : Int32) (d t : Nat → Int32) : f_X12_tellsByN (n + 1) 2 x m w d t = f_X12_tellsByN n 0 x m w d t := by
  show f_X12_tellsBy (f_X12_tellsByN n) 2 x m w d t = _
  unfold f_X12_tellsBy
  rw [if_neg (show ¬ (2 : Int32) = 0 by decide), if_neg (show ¬ (2 : Int32) = 4 by decide), if_neg (show ¬ (2 : Int32) = 6 by decide), ab_2, px_kb, kb3_id]
theorem te_3 (n : Nat) (x m w : Int32) (d t : Nat → Int32) : f_X12_tellsByN (n + 1) 3 x m w d t = f_X12_tellsByN n 0 x m w d t := by
  show f_X12_tellsBy (f_X12_tellsByN n) 3 x m w d t = _
  unfold f_X12_tellsBy
  rw [if_neg (show ¬ (3 : Int32) = 0 by decide), if_neg (show ¬ (3 : Int32) = 4 by decide), if_neg (show ¬ (3 : Int32) = 6 by decide), ab_3, px_kb, kb3_id]
theorem te_5 (n : Nat) (x m w : Int32) (d t : Nat → Int32) : f_X12_tellsByN (n + 1) 5 x m w d t = f_X12_tellsByN n 2 x m w d t := by
  show f_X12_tellsBy (f_X12_tellsByN n) 5 x m w d t = _
  unfold f_X12_tellsBy
  rw [if_neg (show ¬ (5 : Int32) = 0 by decide), if_neg (show ¬ (5 : Int32) = 4 by decide), if_neg (show ¬ (5 : Int32) = 6 by decide), ab_5, px_kb, kb3_id]
end RR0
