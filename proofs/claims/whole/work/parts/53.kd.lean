/-! a stroke, by the model: all of it -/
theorem vu_vu {α : Type} (f : Nat → α) (c : Nat) (a b : α) : va_up (va_up f c a) c b = va_up f c b := by
  funext j
  by_cases h : j = c
  · subst h; rw [va_up_at, va_up_at]
  · rw [vu_ne _ _ h, vu_ne _ _ h, vu_ne _ _ h]
theorem n10 (c : Nat) : (10 : Int32) + nI c = nI (10 + c) := nI_add 10 c
theorem n35 (c : Nat) : (35 : Int32) + nI c = nI (35 + c) := nI_add 35 c
section KD
variable {L : List Int32} {R C k m w eb t holes : Nat} {ik : Int32} {paste : Nat → Nat}
theorem strokes_run (hR : R < 6) (hC : C < 6) (hk : k < 7) (hm : m < 10) (hw : w < 4) (ht : t < 6) (heb : eb < 16) (hpa : ∀ j, paste j ≤ 9) : ∀ (r f c : Nat) (d : Nat → Int32) (air : Nat → Nat) (out : Nat) (mk : Nat → Int32) (vb va vs vf vo vi : Int32) (names : Nat → Int32), r < f → r ≤ 4 → KM L m ik mk → c < R * C → MW d R C holes out eb air paste → MT d t k m → LM 0 L d → (∀ j, air j ≤ 99) → out ≤ 99999 →
    ∃ (x1 x2 x3 x4 x5 x6 : Int32) (d' mk' y : Nat → Int32), f_X12_strokes_L96 (nI t) (nI w) ik f (nI c) (nI r) vb va vs vf vo vi d mk names = some (x1, x2, x3, x4, x5, x6, d', mk', y) ∧
      MW d' R C holes (pushS R C k m w eb (fun a p => gN L a p m) paste r c air out).2 eb (pushS R C k m w eb (fun a p => gN L a p m) paste r c air out).1 paste ∧ SW d d' ∧ KM L m ik mk' := by
  intro r
  have h25 := RC25 hR hC
  induction r with
  | zero =>
    intro f c d air out mk vb va vs vf vo vi names hf hr4 hK hc hW hT hL ha ho
    obtain ⟨f', rfl⟩ : ∃ f', f = f' + 1 := ⟨f - 1, by omega⟩
    unfold f_X12_strokes_L96
    rw [if_pos (show nI 0 ≤ 0 by decide)]
    exact ⟨_, _, _, _, _, _, _, _, _, rfl, hW, SW_rfl d, hK⟩
  | succ r ih =>
    intro f c d air out mk vb va vs vf vo vi names hf hr4 hK hc hW hT hL ha ho
    obtain ⟨f', rfl⟩ : ∃ f', f = f' + 1 := ⟨f - 1, by omega⟩
    have hac := ha c
    have hpc := hpa c
    obtain ⟨h0, h1, h3, h4, h9, hair, hpas⟩ := id hW
    obtain ⟨x1, x2, x3, x4, x5, x6, mk1, y, hg, hK1⟩ := moves_m hL hT ht hk hm hK (a := air c) (p := paste c) (by omega) (by omega) vb va vs vf vo vi names
    have hml := movesN_le k (air c) (gN L (air c) (paste c) m) m
    have hnb := nb_all R hR C hC c hc w hw
    unfold f_X12_strokes_L96
    simp only [if_neg (nI_nle (n := r + 1) (by omega) (by omega)), n10, n35, px_nm, px_in (show 10 + c < 244 by omega) (show 244 < 2 ^ 31 by decide), px_in (show 35 + c < 244 by omega) (show 244 < 2 ^ 31 by decide), nI_clamp (show 10 + c < 2 ^ 31 by omega), nI_clamp (show 35 + c < 2 ^ 31 by omega), hair c (by omega), hpas c (by omega), hg, px_kb9, nextTo_m h0 h1 hR hC hc hw, px_kb]
    unfold pushS push1
    generalize movesN k (air c) (gN L (air c) (paste c) m) m = v at hml
    cases hx : nb R C c w with
    | none =>
      obtain ⟨f2, rfl⟩ : ∃ f2, f' = f2 + 1 := ⟨f' - 1, by omega⟩
      have ho1 : f_X12_isOpen (nI w) d = some (if opn eb w = 1 then 1 else 0) := by
        rw [isOpen_d, h9]; exact isOpen_all eb heb w hw
      have e0 : ((0 : Int32) + (-1)) ≤ 0 := by decide
      simp only [oI, if_neg (show ¬ (0 : Int32) ≤ -1 by decide), ho1, px_kb]
      by_cases hop : opn eb w = 1
      · simp only [if_pos hop, if_neg (show ¬ (1 : Int32) = 0 by decide), pk_sub hml]
        obtain ⟨hW2, hS2⟩ := MW_air hW (c := c) (by omega) (air c - v)
        obtain ⟨hW3, hS3⟩ := MW_out hW2 (mn (out + v))
        rw [goesOut_m hW2.2.2.2.1 (by omega), px_kb]
        unfold f_X12_strokes_L96
        rw [if_pos e0]
        exact ⟨_, _, _, _, _, _, _, _, _, rfl, hW3, SW_trans hS2 hS3, hK1⟩
      · simp only [if_neg hop, if_true]
        unfold f_X12_strokes_L96
        rw [if_pos e0]
        exact ⟨_, _, _, _, _, _, _, _, _, rfl, hW, SW_rfl d, hK1⟩
    | some x =>
      obtain ⟨hx1, hx2⟩ := hnb x hx
      have hax := ha x
      obtain ⟨hW2, hS2⟩ := MW_air hW (c := c) (by omega) (air c - v)
      obtain ⟨hW3, hS3⟩ := MW_air hW2 (c := x) (by omega) (air x + v)
      have r2 : upd d (10 + c) (nI (air c - v)) (10 + x) = nI (air x) := by
        rw [hW2.2.2.2.2.2.1 x (by omega), vu_ne _ _ hx2]
      have r3 : ∀ q : Int32, upd (upd d (10 + c) (nI (air c - v))) (10 + x) q (10 + x) = q := fun q => if_pos rfl
      have hle2 := m99_le (air x + v)
      have hle3 := mn_le (out + (air x + v - m99 (air x + v)))
      simp only [oI, if_pos (nI_pos' (n := x) (by omega)), n10, px_in (show 10 + x < 244 by omega) (show 244 < 2 ^ 31 by decide), nI_clamp (show 10 + x < 2 ^ 31 by omega), pk_sub hml, r2, nI_add, r3, pk_m1]
      by_cases h99 : air x + v ≤ 99
      · rw [if_pos (show nI (air x + v) ≤ 99 from nI_le (b := 99) h99 (by decide))]
        have em : m99 (air x + v) = air x + v := by unfold m99; split <;> omega
        have eo : mn (out + (air x + v - (air x + v))) = out := by unfold mn; split <;> omega
        rw [em, eo]
        obtain ⟨y1, y2, y3, y4, y5, y6, d', mk', z, g1, g2, g3, g4⟩ := ih f' x _ (va_up (va_up air c (air c - v)) x (air x + v)) out mk1 x1 x2 x3 x4 x5 x6 y (by omega) (by omega) hK1 hx1 hW3 (MT_same hT (SW_60 (SW_trans hS2 hS3))) (LM_same (by decide) hL (SW_60 (SW_trans hS2 hS3))) (va_up_le (va_up_le ha c (by omega)) x (by omega)) ho
        exact ⟨y1, y2, y3, y4, y5, y6, d', mk', z, g1, g2, SW_trans (SW_trans hS2 hS3) g3, g4⟩
      · rw [if_neg (show ¬ nI (air x + v) ≤ 99 from nI_ge (a := 99) (by omega) (by omega))]
        have em : m99 (air x + v) = 99 := by unfold m99; split <;> omega
        obtain ⟨hW4, hS4⟩ := MW_out hW3 (mn (out + (air x + v - 99)))
        obtain ⟨hW5, hS5⟩ := MW_air hW4 (c := x) (by omega) 99
        rw [vu_vu] at hW5
        have hSa := SW_trans (SW_trans hS2 hS3) (SW_trans hS4 hS5)
        rw [show (nI (air x + v) - 99 : Int32) = nI (air x + v - 99) from pk_sub (b := 99) (by omega), goesOut_m hW3.2.2.2.1 (by omega), px_kb, em]
        obtain ⟨y1, y2, y3, y4, y5, y6, d', mk', z, g1, g2, g3, g4⟩ := ih f' x _ (va_up (va_up air c (air c - v)) x 99) (mn (out + (air x + v - 99))) mk1 x1 x2 x3 x4 x5 x6 y (by omega) (by omega) hK1 hx1 hW5 (MT_same hT (SW_60 hSa)) (LM_same (by decide) hL (SW_60 hSa)) (va_up_le (va_up_le ha c (by omega)) x (by omega)) (mn_le _)
        exact ⟨y1, y2, y3, y4, y5, y6, d', mk', z, g1, g2, SW_trans hSa g3, g4⟩
theorem strokes_m (hR : R < 6) (hC : C < 6) (hk : k < 7) (hm : m < 10) (hw : w < 4) (ht : t < 6) (heb : eb < 16) (hpa : ∀ j, paste j ≤ 9) {c : Nat} {d : Nat → Int32} {air : Nat → Nat} {out : Nat} {mk : Nat → Int32} (vb va vs vf vo vi : Int32) (names : Nat → Int32) (hK : KM L m ik mk) (hc : c < R * C) (hW : MW d R C holes out eb air paste) (hT : MT d t k m) (hL : LM 0 L d) (ha : ∀ j, air j ≤ 99) (hh : holes ≤ 99999) (ho : out ≤ 99999) :
    ∃ (x1 x2 x3 x4 x5 x6 : Int32) (d' mk' y : Nat → Int32), f_X12_strokes (nI t) (nI c) (nI w) vb va vs vf vo vi ik d mk names = some (x1, x2, x3, x4, x5, x6, d', mk', y) ∧
      MW d' R C (strk R C k m w eb (fun a p => gN L a p m) paste c holes out air).1 (strk R C k m w eb (fun a p => gN L a p m) paste c holes out air).2.1 eb (strk R C k m w eb (fun a p => gN L a p m) paste c holes out air).2.2 paste ∧ SW d d' ∧ KM L m ik mk' := by
  have h25 := RC25 hR hC
  have hac := ha c
  have hpc := hpa c
  have hll := letsN_le k (air c) m
  have htl := tearsN_le k (paste c)
  have hrl := reachN_le k m
  obtain ⟨h0, h1, h3, h4, h9, hair, hpas⟩ := id hW
  obtain ⟨hW2, hS2⟩ := MW_air hW (c := c) (by omega) (air c - letsN k (air c) m)
  obtain ⟨hW3, hS3⟩ := MW_out hW2 (mn (out + letsN k (air c) m))
  have hS23 := SW_trans hS2 hS3
  have hT3 := MT_same hT (SW_60 hS23)
  obtain ⟨hW4, hS4⟩ := MW_holes hW3 (mn (holes + tearsN k (paste c)))
  have hS4' := SW_trans hS23 hS4
  have hT4 := MT_same hT (SW_60 hS4')
  have hL4 := LM_same (by decide) hL (SW_60 hS4')
  have c3 : ∀ {β : Type} (k : Option β), chi (3 : Int32) 244 k = k := fun k => px_in (n := 3) (by decide) (by decide) k
  have z3 : (3 : Int32).toNatClampNeg = 3 := by decide
  have rp : upd (upd d (10 + c) (nI (air c - letsN k (air c) m))) 4 (nI (mn (out + letsN k (air c) m))) (35 + c) = nI (paste c) := hW3.2.2.2.2.2.2 c (by omega)
  have rh : upd (upd d (10 + c) (nI (air c - letsN k (air c) m))) 4 (nI (mn (out + letsN k (air c) m))) 3 = nI holes := hW3.2.2.1
  have e85 : ∀ q : Int32, q = nI (mn (holes + tearsN k (paste c))) → ∃ (x1 x2 x3 x4 x5 x6 : Int32) (d' mk' y : Nat → Int32), f_X12_strokes_L85 (nI t) (nI c) (nI w) ik 3 q vb va vs vf vo vi (upd (upd d (10 + c) (nI (air c - letsN k (air c) m))) 4 (nI (mn (out + letsN k (air c) m)))) mk names = some (x1, x2, x3, x4, x5, x6, d', mk', y) ∧
      MW d' R C (strk R C k m w eb (fun a p => gN L a p m) paste c holes out air).1 (strk R C k m w eb (fun a p => gN L a p m) paste c holes out air).2.1 eb (strk R C k m w eb (fun a p => gN L a p m) paste c holes out air).2.2 paste ∧ SW d d' ∧ KM L m ik mk' := by
    intro q hq
    subst hq
    unfold f_X12_strokes_L85
    rw [c3, px_nm, z3, reach_m hT4 ht hk hm, px_kb]
    obtain ⟨y1, y2, y3, y4, y5, y6, d', mk', z, g1, g2, g3, g4⟩ := strokes_run (eb := eb) (holes := mn (holes + tearsN k (paste c))) (ik := ik) (L := L) hR hC hk hm hw ht heb hpa (reachN k m) gFuel c _ (va_up air c (air c - letsN k (air c) m)) (mn (out + letsN k (air c) m)) mk vb va vs vf vo vi names (by unfold gFuel; omega) hrl hK hc hW4 hT4 hL4 (va_up_le ha c (by omega)) (mn_le _)
    exact ⟨y1, y2, y3, y4, y5, y6, d', mk', z, g1, g2, SW_trans hS4' g3, g4⟩
  unfold f_X12_strokes
  simp only [n10, n35, px_nm, px_in (show 10 + c < 244 by omega) (show 244 < 2 ^ 31 by decide), px_in (show 35 + c < 244 by omega) (show 244 < 2 ^ 31 by decide), nI_clamp (show 10 + c < 2 ^ 31 by omega), nI_clamp (show 35 + c < 2 ^ 31 by omega), hair c (by omega), lets_m hT ht hk hm (show air c < 100 by omega), px_kb, pk_sub hll, goesOut_m hW2.2.2.2.1 (show out + letsN k (air c) m < 2 ^ 31 by omega), rp, tears_m hT3 ht hk (show paste c < 10 by omega), c3, z3, rh, nI_add]
  by_cases h : holes + tearsN k (paste c) ≤ 99999
  · rw [if_pos (show nI (holes + tearsN k (paste c)) ≤ 99999 from nI_le (b := 99999) h (by decide))]
    exact e85 _ (by unfold mn; congr 1; split <;> omega)
  · rw [if_neg (show ¬ nI (holes + tearsN k (paste c)) ≤ 99999 from nI_ge (a := 99999) (by omega) (by omega))]
    exact e85 _ (by show nI 99999 = _; unfold mn; congr 1; split <;> omega)
end KD
