/-! the calls: voice, trace -/
section RS0
variable {l m : Int32} {b t : Nat → Int32} {w mm : Int32} {d : Nat → Int32}
theorem sM_0 (h : VO l b m t) (x w mm : Int32) : RV (f_X8_sayMoves_X8 x w mm l b) (f_X12_movesByN 4 0 x m w t) := by
  unfold f_X8_sayMoves_X8
  rw [mv_0]
  refine RV_begin _ h fun l b m t h => ?_
  exact RV_ret h _
theorem sM_1 (h : VO l b m t) (x w mm : Int32) : RV (f_X0_sayMoves_X0 x w mm l b) (f_X12_movesByN 4 1 x m w t) := by
  unfold f_X0_sayMoves_X0
  rw [mv_1]
  refine RV_begin _ h fun l b m t h => ?_
  refine RV_bind ?_ fun r l b m t h => ?_
  · unfold f_X8_sayMoves_X0
    rw [mv_0]
    refine RV_begin _ h fun l b m t h => ?_
    exact RV_ret h _
  · exact RV_ret h _
theorem sM_2 (h : VO l b m t) (x w mm : Int32) : RV (f_X8_sayMoves_X4 x w mm l b) (f_X12_movesByN 4 2 x m w t) := by
  unfold f_X8_sayMoves_X4
  rw [mv_2, mv_0]
  refine RV_begin _ h fun l b m t h => ?_
  exact RV_ret h _
theorem sM_3 (h : VO l b m t) (x w mm : Int32) : RV (f_X8_sayMoves_X5 x w mm l b) (f_X12_movesByN 4 3 x m w t) := by
  unfold f_X8_sayMoves_X5
  rw [mv_3, mv_0]
  refine RV_begin _ h fun l b m t h => ?_
  exact RV_ret h _
theorem sM_4 (h : VO l b m t) (x w mm : Int32) : RV (f_X0_sayMoves_X6 x w mm l b) (f_X12_movesByN 4 4 x m w t) := by
  unfold f_X0_sayMoves_X6
  rw [mv_4, mv_1]
  refine RV_begin _ h fun l b m t h => ?_
  refine RV_bind ?_ fun r l b m t h => ?_
  · unfold f_X8_sayMoves_X6
    rw [mv_0]
    refine RV_begin _ h fun l b m t h => ?_
    exact RV_ret h _
  · exact RV_ret h _
theorem sM_5 (h : VO l b m t) (x w mm : Int32) : RV (f_X8_sayMoves_X2 x w mm l b) (f_X12_movesByN 4 5 x m w t) := by
  unfold f_X8_sayMoves_X2
  rw [mv_5, mv_2, mv_0]
  refine RV_begin _ h fun l b m t h => ?_
  exact RV_ret h _
theorem sM_6 (h : VO l b m t) (x w mm : Int32) : RV (f_X8_sayMoves_X1 x w mm l b) (f_X12_movesByN 4 6 x m w t) := by
  unfold f_X8_sayMoves_X1
  rw [mv_6, mv_3, mv_0]
  refine RV_begin _ h fun l b m t h => ?_
  exact RV_ret h _
theorem sM {k : Nat} (hk : k < 7) (h : VO l b m t) (x w mm : Int32) : RV (f_TD_sayMoves (nI k) x w mm l b) (f_X12_movesByN 4 (nI k) x m w t) := by
  match k, hk with
  | 0, _ =>
    have e : f_TD_sayMoves (nI 0) x w mm l b = f_X8_sayMoves_X8 x w mm l b := by
      unfold f_TD_sayMoves
      rw [if_pos (show nI 0 = (0 : Int32) by decide)]
    rw [e]
    exact sM_0 h x w mm
  | 1, _ =>
    have e : f_TD_sayMoves (nI 1) x w mm l b = f_X0_sayMoves_X0 x w mm l b := by
      unfold f_TD_sayMoves
      rw [if_neg (show ¬ nI 1 = (0 : Int32) by decide), if_pos (show nI 1 = (1 : Int32) by decide)]
    rw [e]
    exact sM_1 h x w mm
  | 2, _ =>
    have e : f_TD_sayMoves (nI 2) x w mm l b = f_X8_sayMoves_X4 x w mm l b := by
      unfold f_TD_sayMoves
      rw [if_neg (show ¬ nI 2 = (0 : Int32) by decide), if_neg (show ¬ nI 2 = (1 : Int32) by decide), if_pos (show nI 2 = (2 : Int32) by decide)]
    rw [e]
    exact sM_2 h x w mm
  | 3, _ =>
    have e : f_TD_sayMoves (nI 3) x w mm l b = f_X8_sayMoves_X5 x w mm l b := by
      unfold f_TD_sayMoves
      rw [if_neg (show ¬ nI 3 = (0 : Int32) by decide), if_neg (show ¬ nI 3 = (1 : Int32) by decide), if_neg (show ¬ nI 3 = (2 : Int32) by decide), if_pos (show nI 3 = (3 : Int32) by decide)]
    rw [e]
    exact sM_3 h x w mm
  | 4, _ =>
    have e : f_TD_sayMoves (nI 4) x w mm l b = f_X0_sayMoves_X6 x w mm l b := by
      unfold f_TD_sayMoves
      rw [if_neg (show ¬ nI 4 = (0 : Int32) by decide), if_neg (show ¬ nI 4 = (1 : Int32) by decide), if_neg (show ¬ nI 4 = (2 : Int32) by decide), if_neg (show ¬ nI 4 = (3 : Int32) by decide), if_pos (show nI 4 = (4 : Int32) by decide)]
    rw [e]
    exact sM_4 h x w mm
  | 5, _ =>
    have e : f_TD_sayMoves (nI 5) x w mm l b = f_X8_sayMoves_X2 x w mm l b := by
      unfold f_TD_sayMoves
      rw [if_neg (show ¬ nI 5 = (0 : Int32) by decide), if_neg (show ¬ nI 5 = (1 : Int32) by decide), if_neg (show ¬ nI 5 = (2 : Int32) by decide), if_neg (show ¬ nI 5 = (3 : Int32) by decide), if_neg (show ¬ nI 5 = (4 : Int32) by decide), if_pos (show nI 5 = (5 : Int32) by decide)]
    rw [e]
    exact sM_5 h x w mm
  | 6, _ =>
    have e : f_TD_sayMoves (nI 6) x w mm l b = f_X8_sayMoves_X1 x w mm l b := by
      unfold f_TD_sayMoves
      rw [if_neg (show ¬ nI 6 = (0 : Int32) by decide), if_neg (show ¬ nI 6 = (1 : Int32) by decide), if_neg (show ¬ nI 6 = (2 : Int32) by decide), if_neg (show ¬ nI 6 = (3 : Int32) by decide), if_neg (show ¬ nI 6 = (4 : Int32) by decide), if_neg (show ¬ nI 6 = (5 : Int32) by decide), if_pos (show nI 6 = (6 : Int32) by decide)]
    rw [e]
    exact sM_6 h x w mm
theorem sT_0 (hn : f_X12_numberOf w d = some mm) (h : VO l b m t) (x : Int32) : RV (f_X8_sayTears_X8 x w mm l b) (f_X12_tearsByN 4 0 x m w d t) := by
  unfold f_X8_sayTears_X8
  rw [tr_0]
  refine RV_begin _ h fun l b m t h => ?_
  rw [hn, px_kb]
  exact RV_ret h _
theorem sT_1 (hn : f_X12_numberOf w d = some mm) (h : VO l b m t) (x : Int32) : RV (f_X8_sayTears_X0 x w mm l b) (f_X12_tearsByN 4 1 x m w d t) := by
  unfold f_X8_sayTears_X0
  rw [tr_1, tr_0]
  refine RV_begin _ h fun l b m t h => ?_
  rw [hn, px_kb]
  exact RV_ret h _
theorem sT_2 (hn : f_X12_numberOf w d = some mm) (h : VO l b m t) (x : Int32) : RV (f_X8_sayTears_X4 x w mm l b) (f_X12_tearsByN 4 2 x m w d t) := by
  unfold f_X8_sayTears_X4
  rw [tr_2, tr_0]
  refine RV_begin _ h fun l b m t h => ?_
  rw [hn, px_kb]
  exact RV_ret h _
theorem sT_3 (hn : f_X12_numberOf w d = some mm) (h : VO l b m t) (x : Int32) : RV (f_X5_sayTears_X5 x w mm l b) (f_X12_tearsByN 4 3 x m w d t) := by
  unfold f_X5_sayTears_X5
  rw [tr_3]
  refine RV_begin _ h fun l b m t h => ?_
  refine RV_bind ?_ fun r l b m t h => ?_
  · unfold f_X8_sayTears_X5
    rw [tr_0]
    refine RV_begin _ h fun l b m t h => ?_
    rw [hn, px_kb]
    exact RV_ret h _
  · exact RV_ret h _
theorem sT_4 (hn : f_X12_numberOf w d = some mm) (h : VO l b m t) (x : Int32) : RV (f_X8_sayTears_X6 x w mm l b) (f_X12_tearsByN 4 4 x m w d t) := by
  unfold f_X8_sayTears_X6
  rw [tr_4, tr_1, tr_0]
  refine RV_begin _ h fun l b m t h => ?_
  rw [hn, px_kb]
  exact RV_ret h _
theorem sT_5 (hn : f_X12_numberOf w d = some mm) (h : VO l b m t) (x : Int32) : RV (f_X8_sayTears_X2 x w mm l b) (f_X12_tearsByN 4 5 x m w d t) := by
  unfold f_X8_sayTears_X2
  rw [tr_5, tr_2, tr_0]
  refine RV_begin _ h fun l b m t h => ?_
  rw [hn, px_kb]
  exact RV_ret h _
theorem sT_6 (hn : f_X12_numberOf w d = some mm) (h : VO l b m t) (x : Int32) : RV (f_X1_sayTears_X1 x w mm l b) (f_X12_tearsByN 4 6 x m w d t) := by
  unfold f_X1_sayTears_X1
  rw [tr_6]
  refine RV_begin _ h fun l b m t h => ?_
  refine RV_bind ?_ fun r l b m t h => ?_
  · unfold f_X5_sayTears_X1
    rw [tr_3]
    refine RV_begin _ h fun l b m t h => ?_
    refine RV_bind ?_ fun r l b m t h => ?_
    · unfold f_X8_sayTears_X1
      rw [tr_0]
      refine RV_begin _ h fun l b m t h => ?_
      rw [hn, px_kb]
      exact RV_ret h _
    · exact RV_ret h _
  · exact RV_ret h _
theorem sT {k : Nat} (hk : k < 7) (hn : f_X12_numberOf w d = some mm) (h : VO l b m t) (x : Int32) : RV (f_TD_sayTears (nI k) x w mm l b) (f_X12_tearsByN 4 (nI k) x m w d t) := by
  match k, hk with
  | 0, _ =>
    have e : f_TD_sayTears (nI 0) x w mm l b = f_X8_sayTears_X8 x w mm l b := by
      unfold f_TD_sayTears
      rw [if_pos (show nI 0 = (0 : Int32) by decide)]
    rw [e]
    exact sT_0 hn h x
  | 1, _ =>
    have e : f_TD_sayTears (nI 1) x w mm l b = f_X8_sayTears_X0 x w mm l b := by
      unfold f_TD_sayTears
      rw [if_neg (show ¬ nI 1 = (0 : Int32) by decide), if_pos (show nI 1 = (1 : Int32) by decide)]
    rw [e]
    exact sT_1 hn h x
  | 2, _ =>
    have e : f_TD_sayTears (nI 2) x w mm l b = f_X8_sayTears_X4 x w mm l b := by
      unfold f_TD_sayTears
      rw [if_neg (show ¬ nI 2 = (0 : Int32) by decide), if_neg (show ¬ nI 2 = (1 : Int32) by decide), if_pos (show nI 2 = (2 : Int32) by decide)]
    rw [e]
    exact sT_2 hn h x
  | 3, _ =>
    have e : f_TD_sayTears (nI 3) x w mm l b = f_X5_sayTears_X5 x w mm l b := by
      unfold f_TD_sayTears
      rw [if_neg (show ¬ nI 3 = (0 : Int32) by decide), if_neg (show ¬ nI 3 = (1 : Int32) by decide), if_neg (show ¬ nI 3 = (2 : Int32) by decide), if_pos (show nI 3 = (3 : Int32) by decide)]
    rw [e]
    exact sT_3 hn h x
  | 4, _ =>
    have e : f_TD_sayTears (nI 4) x w mm l b = f_X8_sayTears_X6 x w mm l b := by
      unfold f_TD_sayTears
      rw [if_neg (show ¬ nI 4 = (0 : Int32) by decide), if_neg (show ¬ nI 4 = (1 : Int32) by decide), if_neg (show ¬ nI 4 = (2 : Int32) by decide), if_neg (show ¬ nI 4 = (3 : Int32) by decide), if_pos (show nI 4 = (4 : Int32) by decide)]
    rw [e]
    exact sT_4 hn h x
  | 5, _ =>
    have e : f_TD_sayTears (nI 5) x w mm l b = f_X8_sayTears_X2 x w mm l b := by
      unfold f_TD_sayTears
      rw [if_neg (show ¬ nI 5 = (0 : Int32) by decide), if_neg (show ¬ nI 5 = (1 : Int32) by decide), if_neg (show ¬ nI 5 = (2 : Int32) by decide), if_neg (show ¬ nI 5 = (3 : Int32) by decide), if_neg (show ¬ nI 5 = (4 : Int32) by decide), if_pos (show nI 5 = (5 : Int32) by decide)]
    rw [e]
    exact sT_5 hn h x
  | 6, _ =>
    have e : f_TD_sayTears (nI 6) x w mm l b = f_X1_sayTears_X1 x w mm l b := by
      unfold f_TD_sayTears
      rw [if_neg (show ¬ nI 6 = (0 : Int32) by decide), if_neg (show ¬ nI 6 = (1 : Int32) by decide), if_neg (show ¬ nI 6 = (2 : Int32) by decide), if_neg (show ¬ nI 6 = (3 : Int32) by decide), if_neg (show ¬ nI 6 = (4 : Int32) by decide), if_neg (show ¬ nI 6 = (5 : Int32) by decide), if_pos (show nI 6 = (6 : Int32) by decide)]
    rw [e]
    exact sT_6 hn h x
theorem sL_0 (ho : f_X12_own w d = some 0) (hn : f_X12_numberOf w d = some mm) (h : VO l b m t) (x : Int32) : RV (f_X8_sayLets_X8 x w mm l b) (f_X12_letsByN 4 0 x m w d t) := by
  unfold f_X8_sayLets_X8
  rw [ly_0 ho]
  refine RV_begin _ h fun l b m t h => ?_
  refine RV_bind (sM_0 h _ _ _) fun r l b m t h => ?_
  exact RV_ret h _
theorem sL_1 (ho : f_X12_own w d = some 1) (hn : f_X12_numberOf w d = some mm) (h : VO l b m t) (x : Int32) : RV (f_X8_sayLets_X0 x w mm l b) (f_X12_letsByN 4 1 x m w d t) := by
  unfold f_X8_sayLets_X0
  rw [ly_1, ly_0 ho]
  refine RV_begin _ h fun l b m t h => ?_
  refine RV_bind (sM_1 h _ _ _) fun r l b m t h => ?_
  exact RV_ret h _
theorem sL_2 (ho : f_X12_own w d = some 2) (hn : f_X12_numberOf w d = some mm) (h : VO l b m t) (x : Int32) : RV (f_X4_sayLets_X4 x w mm l b) (f_X12_letsByN 4 2 x m w d t) := by
  unfold f_X4_sayLets_X4
  rw [ly_2 ho]
  refine RV_begin _ h fun l b m t h => ?_
  refine RV_bind ?_ fun r l b m t h => ?_
  · unfold f_X8_sayLets_X4
    rw [ly_0 ho]
    refine RV_begin _ h fun l b m t h => ?_
    refine RV_bind (sM_2 h _ _ _) fun r l b m t h => ?_
    exact RV_ret h _
  · refine RV_bind (sT_2 hn h _) fun r2 l b m t h => ?_
    exact RV_ret h _
theorem sL_3 (ho : f_X12_own w d = some 3) (hn : f_X12_numberOf w d = some mm) (h : VO l b m t) (x : Int32) : RV (f_X8_sayLets_X5 x w mm l b) (f_X12_letsByN 4 3 x m w d t) := by
  unfold f_X8_sayLets_X5
  rw [ly_3, ly_0 ho]
  refine RV_begin _ h fun l b m t h => ?_
  refine RV_bind (sM_3 h _ _ _) fun r l b m t h => ?_
  exact RV_ret h _
theorem sL_4 (ho : f_X12_own w d = some 4) (hn : f_X12_numberOf w d = some mm) (h : VO l b m t) (x : Int32) : RV (f_X8_sayLets_X6 x w mm l b) (f_X12_letsByN 4 4 x m w d t) := by
  unfold f_X8_sayLets_X6
  rw [ly_4, ly_1, ly_0 ho]
  refine RV_begin _ h fun l b m t h => ?_
  refine RV_bind (sM_4 h _ _ _) fun r l b m t h => ?_
  exact RV_ret h _
theorem sL_5 (ho : f_X12_own w d = some 5) (hn : f_X12_numberOf w d = some mm) (h : VO l b m t) (x : Int32) : RV (f_X2_sayLets_X2 x w mm l b) (f_X12_letsByN 4 5 x m w d t) := by
  unfold f_X2_sayLets_X2
  rw [ly_5]
  refine RV_begin _ h fun l b m t h => ?_
  rw [px_nm]
  refine RV_bind ?_ fun r l b m t h => ?_
  · unfold f_X4_sayLets_X2
    rw [ly_2 ho]
    refine RV_begin _ h fun l b m t h => ?_
    refine RV_bind ?_ fun r l b m t h => ?_
    · unfold f_X8_sayLets_X2
      rw [ly_0 ho]
      refine RV_begin _ h fun l b m t h => ?_
      refine RV_bind (sM_5 h _ _ _) fun r l b m t h => ?_
      exact RV_ret h _
    · refine RV_bind (sT_5 hn h _) fun r2 l b m t h => ?_
      exact RV_ret h _
  · exact RV_ret h _
theorem sL_6 (ho : f_X12_own w d = some 6) (hn : f_X12_numberOf w d = some mm) (h : VO l b m t) (x : Int32) : RV (f_X8_sayLets_X1 x w mm l b) (f_X12_letsByN 4 6 x m w d t) := by
  unfold f_X8_sayLets_X1
  rw [ly_6, ly_3, ly_0 ho]
  refine RV_begin _ h fun l b m t h => ?_
  refine RV_bind (sM_6 h _ _ _) fun r l b m t h => ?_
  exact RV_ret h _
theorem sL {k : Nat} (hk : k < 7) (ho : f_X12_own w d = some (nI k)) (hn : f_X12_numberOf w d = some mm) (h : VO l b m t) (x : Int32) : RV (f_TD_sayLets (nI k) x w mm l b) (f_X12_letsByN 4 (nI k) x m w d t) := by
  match k, hk with
  | 0, _ =>
    have e : f_TD_sayLets (nI 0) x w mm l b = f_X8_sayLets_X8 x w mm l b := by
      unfold f_TD_sayLets
      rw [if_pos (show nI 0 = (0 : Int32) by decide)]
    rw [e]
    exact sL_0 ho hn h x
  | 1, _ =>
    have e : f_TD_sayLets (nI 1) x w mm l b = f_X8_sayLets_X0 x w mm l b := by
      unfold f_TD_sayLets
      rw [if_neg (show ¬ nI 1 = (0 : Int32) by decide), if_pos (show nI 1 = (1 : Int32) by decide)]
    rw [e]
    exact sL_1 ho hn h x
  | 2, _ =>
    have e : f_TD_sayLets (nI 2) x w mm l b = f_X4_sayLets_X4 x w mm l b := by
      unfold f_TD_sayLets
      rw [if_neg (show ¬ nI 2 = (0 : Int32) by decide), if_neg (show ¬ nI 2 = (1 : Int32) by decide), if_pos (show nI 2 = (2 : Int32) by decide)]
    rw [e]
    exact sL_2 ho hn h x
  | 3, _ =>
    have e : f_TD_sayLets (nI 3) x w mm l b = f_X8_sayLets_X5 x w mm l b := by
      unfold f_TD_sayLets
      rw [if_neg (show ¬ nI 3 = (0 : Int32) by decide), if_neg (show ¬ nI 3 = (1 : Int32) by decide), if_neg (show ¬ nI 3 = (2 : Int32) by decide), if_pos (show nI 3 = (3 : Int32) by decide)]
    rw [e]
    exact sL_3 ho hn h x
  | 4, _ =>
    have e : f_TD_sayLets (nI 4) x w mm l b = f_X8_sayLets_X6 x w mm l b := by
      unfold f_TD_sayLets
      rw [if_neg (show ¬ nI 4 = (0 : Int32) by decide), if_neg (show ¬ nI 4 = (1 : Int32) by decide), if_neg (show ¬ nI 4 = (2 : Int32) by decide), if_neg (show ¬ nI 4 = (3 : Int32) by decide), if_pos (show nI 4 = (4 : Int32) by decide)]
    rw [e]
    exact sL_4 ho hn h x
  | 5, _ =>
    have e : f_TD_sayLets (nI 5) x w mm l b = f_X2_sayLets_X2 x w mm l b := by
      unfold f_TD_sayLets
      rw [if_neg (show ¬ nI 5 = (0 : Int32) by decide), if_neg (show ¬ nI 5 = (1 : Int32) by decide), if_neg (show ¬ nI 5 = (2 : Int32) by decide), if_neg (show ¬ nI 5 = (3 : Int32) by decide), if_neg (show ¬ nI 5 = (4 : Int32) by decide), if_pos (show nI 5 = (5 : Int32) by decide)]
    rw [e]
    exact sL_5 ho hn h x
  | 6, _ =>
    have e : f_TD_sayLets (nI 6) x w mm l b = f_X8_sayLets_X1 x w mm l b := by
      unfold f_TD_sayLets
      rw [if_neg (show ¬ nI 6 = (0 : Int32) by decide), if_neg (show ¬ nI 6 = (1 : Int32) by decide), if_neg (show ¬ nI 6 = (2 : Int32) by decide), if_neg (show ¬ nI 6 = (3 : Int32) by decide), if_neg (show ¬ nI 6 = (4 : Int32) by decide), if_neg (show ¬ nI 6 = (5 : Int32) by decide), if_pos (show nI 6 = (6 : Int32) by decide)]
    rw [e]
    exact sL_6 ho hn h x
theorem sE_0 (ho : f_X12_own w d = some 0) (hn : f_X12_numberOf w d = some mm) (h : VO l b m t) (x : Int32) : RV (f_X8_sayTells_X8 x w mm l b) (f_X12_tellsByN 4 0 x m w d t) := by
  unfold f_X8_sayTells_X8
  rw [te_0 ho]
  refine RV_begin _ h fun l b m t h => ?_
  refine RV_bind (sL_0 ho hn h _) fun r l b m t h => ?_
  refine RV_bind (sT_0 hn h _) fun r2 l b m t h => ?_
  exact RV_ret h _
theorem sE_1 (ho : f_X12_own w d = some 1) (hn : f_X12_numberOf w d = some mm) (h : VO l b m t) (x : Int32) : RV (f_X8_sayTells_X0 x w mm l b) (f_X12_tellsByN 4 1 x m w d t) := by
  unfold f_X8_sayTells_X0
  rw [te_1, te_0 ho]
  refine RV_begin _ h fun l b m t h => ?_
  refine RV_bind (sL_1 ho hn h _) fun r l b m t h => ?_
  refine RV_bind (sT_1 hn h _) fun r2 l b m t h => ?_
  exact RV_ret h _
theorem sE_2 (ho : f_X12_own w d = some 2) (hn : f_X12_numberOf w d = some mm) (h : VO l b m t) (x : Int32) : RV (f_X8_sayTells_X4 x w mm l b) (f_X12_tellsByN 4 2 x m w d t) := by
  unfold f_X8_sayTells_X4
  rw [te_2, te_0 ho]
  refine RV_begin _ h fun l b m t h => ?_
  refine RV_bind (sL_2 ho hn h _) fun r l b m t h => ?_
  refine RV_bind (sT_2 hn h _) fun r2 l b m t h => ?_
  exact RV_ret h _
theorem sE_3 (ho : f_X12_own w d = some 3) (hn : f_X12_numberOf w d = some mm) (h : VO l b m t) (x : Int32) : RV (f_X8_sayTells_X5 x w mm l b) (f_X12_tellsByN 4 3 x m w d t) := by
  unfold f_X8_sayTells_X5
  rw [te_3, te_0 ho]
  refine RV_begin _ h fun l b m t h => ?_
  refine RV_bind (sL_3 ho hn h _) fun r l b m t h => ?_
  refine RV_bind (sT_3 hn h _) fun r2 l b m t h => ?_
  exact RV_ret h _
theorem sE_4 (ho : f_X12_own w d = some 4) (hn : f_X12_numberOf w d = some mm) (h : VO l b m t) (x : Int32) : RV (f_X6_sayTells_X6 x w mm l b) (f_X12_tellsByN 4 4 x m w d t) := by
  unfold f_X6_sayTells_X6
  rw [te_4 ho]
  refine RV_begin _ h fun l b m t h => ?_
  refine RV_bind ?_ fun r l b m t h => ?_
  · unfold f_X8_sayTells_X6
    rw [te_1, te_0 ho]
    refine RV_begin _ h fun l b m t h => ?_
    refine RV_bind (sL_4 ho hn h _) fun r l b m t h => ?_
    refine RV_bind (sT_4 hn h _) fun r2 l b m t h => ?_
    exact RV_ret h _
  · refine RV_bind (sM_4 h _ _ _) fun r2 l b m t h => ?_
    exact RV_ret h _
theorem sE_5 (ho : f_X12_own w d = some 5) (hn : f_X12_numberOf w d = some mm) (h : VO l b m t) (x : Int32) : RV (f_X8_sayTells_X2 x w mm l b) (f_X12_tellsByN 4 5 x m w d t) := by
  unfold f_X8_sayTells_X2
  rw [te_5, te_2, te_0 ho]
  refine RV_begin _ h fun l b m t h => ?_
  refine RV_bind (sL_5 ho hn h _) fun r l b m t h => ?_
  refine RV_bind (sT_5 hn h _) fun r2 l b m t h => ?_
  exact RV_ret h _
theorem sE_6 (ho : f_X12_own w d = some 6) (hn : f_X12_numberOf w d = some mm) (h : VO l b m t) (x : Int32) : RV (f_X1_sayTells_X1 x w mm l b) (f_X12_tellsByN 4 6 x m w d t) := by
  unfold f_X1_sayTells_X1
  rw [te_6 ho]
  refine RV_begin _ h fun l b m t h => ?_
  refine RV_bind (sL_6 ho hn h _) fun r l b m t h => ?_
  refine RV_bind ?_ fun r2 l b m t h => ?_
  · unfold f_X8_sayTells_X1
    rw [te_3, te_0 ho]
    refine RV_begin _ h fun l b m t h => ?_
    refine RV_bind (sL_6 ho hn h _) fun r l b m t h => ?_
    refine RV_bind (sT_6 hn h _) fun r2 l b m t h => ?_
    exact RV_ret h _
  · exact RV_ret h _
theorem sE {k : Nat} (hk : k < 7) (ho : f_X12_own w d = some (nI k)) (hn : f_X12_numberOf w d = some mm) (h : VO l b m t) (x : Int32) : RV (f_TD_sayTells (nI k) x w mm l b) (f_X12_tellsByN 4 (nI k) x m w d t) := by
  match k, hk with
  | 0, _ =>
    have e : f_TD_sayTells (nI 0) x w mm l b = f_X8_sayTells_X8 x w mm l b := by
      unfold f_TD_sayTells
      rw [if_pos (show nI 0 = (0 : Int32) by decide)]
    rw [e]
    exact sE_0 ho hn h x
  | 1, _ =>
    have e : f_TD_sayTells (nI 1) x w mm l b = f_X8_sayTells_X0 x w mm l b := by
      unfold f_TD_sayTells
      rw [if_neg (show ¬ nI 1 = (0 : Int32) by decide), if_pos (show nI 1 = (1 : Int32) by decide)]
    rw [e]
    exact sE_1 ho hn h x
  | 2, _ =>
    have e : f_TD_sayTells (nI 2) x w mm l b = f_X8_sayTells_X4 x w mm l b := by
      unfold f_TD_sayTells
      rw [if_neg (show ¬ nI 2 = (0 : Int32) by decide), if_neg (show ¬ nI 2 = (1 : Int32) by decide), if_pos (show nI 2 = (2 : Int32) by decide)]
    rw [e]
    exact sE_2 ho hn h x
  | 3, _ =>
    have e : f_TD_sayTells (nI 3) x w mm l b = f_X8_sayTells_X5 x w mm l b := by
      unfold f_TD_sayTells
      rw [if_neg (show ¬ nI 3 = (0 : Int32) by decide), if_neg (show ¬ nI 3 = (1 : Int32) by decide), if_neg (show ¬ nI 3 = (2 : Int32) by decide), if_pos (show nI 3 = (3 : Int32) by decide)]
    rw [e]
    exact sE_3 ho hn h x
  | 4, _ =>
    have e : f_TD_sayTells (nI 4) x w mm l b = f_X6_sayTells_X6 x w mm l b := by
      unfold f_TD_sayTells
      rw [if_neg (show ¬ nI 4 = (0 : Int32) by decide), if_neg (show ¬ nI 4 = (1 : Int32) by decide), if_neg (show ¬ nI 4 = (2 : Int32) by decide), if_neg (show ¬ nI 4 = (3 : Int32) by decide), if_pos (show nI 4 = (4 : Int32) by decide)]
    rw [e]
    exact sE_4 ho hn h x
  | 5, _ =>
    have e : f_TD_sayTells (nI 5) x w mm l b = f_X8_sayTells_X2 x w mm l b := by
      unfold f_TD_sayTells
      rw [if_neg (show ¬ nI 5 = (0 : Int32) by decide), if_neg (show ¬ nI 5 = (1 : Int32) by decide), if_neg (show ¬ nI 5 = (2 : Int32) by decide), if_neg (show ¬ nI 5 = (3 : Int32) by decide), if_neg (show ¬ nI 5 = (4 : Int32) by decide), if_pos (show nI 5 = (5 : Int32) by decide)]
    rw [e]
    exact sE_5 ho hn h x
  | 6, _ =>
    have e : f_TD_sayTells (nI 6) x w mm l b = f_X1_sayTells_X1 x w mm l b := by
      unfold f_TD_sayTells
      rw [if_neg (show ¬ nI 6 = (0 : Int32) by decide), if_neg (show ¬ nI 6 = (1 : Int32) by decide), if_neg (show ¬ nI 6 = (2 : Int32) by decide), if_neg (show ¬ nI 6 = (3 : Int32) by decide), if_neg (show ¬ nI 6 = (4 : Int32) by decide), if_neg (show ¬ nI 6 = (5 : Int32) by decide), if_pos (show nI 6 = (6 : Int32) by decide)]
    rw [e]
    exact sE_6 ho hn h x
end RS0
section RS
variable {R C ho ou eb nt T tl wn : Nat} {a p kN mN : Nat → Nat} {Lm Ls : List Int32} {z : Int32} {told tape d er fo : Nat → Int32}
theorem m_voice (hO : OKp R C ho ou eb nt T tl wn a p kN mN Lm Ls) (hM : MDp R C ho ou eb nt T tl wn a p kN mN Lm Ls z told tape d) (hE : EK er fo) {kind mm : Nat → Int32} (hk : ad kind kN 6) (hm : ad mm mN 6) {l many : Int32} {b traced : Nat → Int32} (hV : VO l b many traced) (x y w : Int32) (vn vm who : Int32) :
    ∃ (r : Int32) (er' fo' : Nat → Int32) (vn' vm' l' many' who' : Int32) (b' traced' : Nat → Int32), f_X11_voice x y w er (nI T) kind mm vn vm l b = some (r, er', vn', vm', l', b') ∧ f_X12_voice x y w many who d fo traced = some (r, many', who', fo', traced') ∧ EK er' fo' ∧ VO l' b' many' traced' := by
  obtain ⟨o1, o2, o3, o4, o5, o6, o7, o8, o9, o10, o11, o12, o13, o14, o15, o16⟩ := id hO
  obtain ⟨r, e', f', g1, g2, g3⟩ := err_1 hE
  have ec : f_X11_voice_L17 er vn vm l b = some (r, e', vn, vm, l, b) := by unfold f_X11_voice_L17; rw [g1, px_kb2]
  have em : f_X12_voice_L20 many who fo traced = some (r, many, who, f', traced) := by unfold f_X12_voice_L20; rw [g2, px_kb2]
  unfold f_X11_voice f_X12_voice
  rw [isTool_c x o11, isTool_m x hM.2.1 o11, px_kb, px_kb, show f_X11_within y 0 3 = some (bI y 4) from within_n y 3 (by decide), in_n y 3 3 (by decide) (by decide), px_kb, px_kb]
  by_cases hx : vp_in x T
  · obtain ⟨t, ht, rfl⟩ := vp_in_of hx (by omega)
    obtain ⟨h7, h10⟩ := o14 t (by omega)
    rw [bI_in hx, i10, i10]
    by_cases hy : vp_in y 4
    · obtain ⟨c, hc, rfl⟩ := vp_in_of hy (by decide)
      obtain ⟨u1, u2⟩ := kindOf_m (hM.2.2.2.2.2.2.1 t (by omega)) (show t < 6 by omega)
      have ho : f_X12_own (nI t) d = some (nI (kN t)) := by unfold f_X12_own; rw [u1, px_kb]
      have h0 : VO 0 b 0 traced := ⟨0, by decide, rfl, rfl, fun j hj => absurd hj (Nat.not_lt_zero j)⟩
      have hst : ∀ y : Int32, f_X9_start (nI t) y vn vm l = some (nI t, y, 0) := fun y => rfl
      rw [bI_in hy, i10, i10, px_in (show t < 6 by omega) (by decide), px_nm, nI_clamp (n := t) (by omega), hm t (by omega), hst, px_kb3, kindOf_c o11 ht hk h7, px_kb, ho, px_kb]
      match c, hc with
      | 0, _ =>
        obtain ⟨r, l', b', m', t', q1, q2, q3⟩ := sM h7 h0 w (nI t) (nI (mN t))
        rw [if_pos (show nI 0 = 0 from rfl), if_pos (show nI 0 = 0 from rfl), q1, q2, px_kb3, px_kb3]
        exact ⟨r, er, fo, _, _, _, _, _, _, _, rfl, rfl, hE, q3⟩
      | 1, _ =>
        obtain ⟨r, l', b', m', t', q1, q2, q3⟩ := sL h7 ho u2 h0 w
        rw [if_neg (show ¬ nI 1 = 0 by decide), if_neg (show ¬ nI 1 = 0 by decide), if_pos (show nI 1 = 1 from rfl), if_pos (show nI 1 = 1 from rfl), q1, q2, px_kb3, px_kb3]
        exact ⟨r, er, fo, _, _, _, _, _, _, _, rfl, rfl, hE, q3⟩
      | 2, _ =>
        obtain ⟨r, l', b', m', t', q1, q2, q3⟩ := sT h7 u2 h0 w
        rw [if_neg (show ¬ nI 2 = 0 by decide), if_neg (show ¬ nI 2 = 0 by decide), if_neg (show ¬ nI 2 = 1 by decide), if_neg (show ¬ nI 2 = 1 by decide), if_pos (show nI 2 = 2 from rfl), if_pos (show nI 2 = 2 from rfl), q1, q2, px_kb3, px_kb3]
        exact ⟨r, er, fo, _, _, _, _, _, _, _, rfl, rfl, hE, q3⟩
      | 3, _ =>
        obtain ⟨r, l', b', m', t', q1, q2, q3⟩ := sE h7 ho u2 h0 w
        rw [if_neg (show ¬ nI 3 = 0 by decide), if_neg (show ¬ nI 3 = 0 by decide), if_neg (show ¬ nI 3 = 1 by decide), if_neg (show ¬ nI 3 = 1 by decide), if_neg (show ¬ nI 3 = 2 by decide), if_neg (show ¬ nI 3 = 2 by decide), q1, q2, px_kb3, px_kb3]
        exact ⟨r, er, fo, _, _, _, _, _, _, _, rfl, rfl, hE, q3⟩
    · rw [bI_out hy, i00, i00, ec, em]
      exact ⟨r, e', f', _, _, _, _, _, _, _, rfl, rfl, g3, hV⟩
  · rw [bI_out hx, i00, i00, ec, em]
    exact ⟨r, e', f', _, _, _, _, _, _, _, rfl, rfl, g3, hV⟩
theorem m_trace (hE : EK er fo) {l many : Int32} {b traced : Nat → Int32} (hV : VO l b many traced) (x : Int32) :
    ∃ (r : Int32) (er' fo' : Nat → Int32), f_X11_trace x er l b = some (r, er') ∧ f_X12_trace x many fo traced = some (r, fo') ∧ EK er' fo' := by
  obtain ⟨v, h1, rfl, rfl, h2⟩ := hV
  obtain ⟨r, e', f', g1, g2, g3⟩ := err_2 hE
  unfold f_X11_trace f_X12_trace f_X11_trace_L35
  rw [px_nm, wi_m1 x (by omega), in_m1 x (by omega), px_kb, px_kb]
  by_cases hx : vp_in x v
  · obtain ⟨j, hj, rfl⟩ := vp_in_of hx (by omega)
    rw [bI_in hx, i10, i10, if_neg (show ¬ (40 : Int32) ≤ nI j from nI_ge (b := 40) (by omega) (by decide)), px_in (show j < 40 by omega) (by decide), px_in (show j < 40 by omega) (by decide), px_nm, px_nm, nI_clamp (by omega), h2 j hj]
    exact ⟨_, er, fo, rfl, rfl, hE⟩
  · rw [bI_out hx, i00, i00, g1, g2, px_kb2, px_kb2]
    exact ⟨r, e', f', rfl, rfl, g3⟩
end RS
