/-! bubbles: how many, the greatest -/
theorem fill_run (v : Int32) (n : Nat) (hn : n < 2 ^ 31) : ∀ (q f x : Nat) (arr : Nat → Int32), x + q = n → q < f →
    ∃ arr', f_J7_fill_53178_L5 v n f (nI x) (nI n) arr = some arr' ∧ ∀ j, arr' j = if x ≤ j ∧ j < n then v else arr j := by
  intro q
  induction q with
  | zero =>
    intro f x arr hq hf
    obtain ⟨f', rfl⟩ : ∃ f', f = f' + 1 := ⟨f - 1, by omega⟩
    have : x = n := by omega
    subst this
    unfold f_J7_fill_53178_L5
    rw [if_pos (show nI x ≤ nI x from Int32.le_refl _)]
    exact ⟨arr, rfl, fun j => (if_neg (by omega)).symm⟩
  | succ q ih =>
    intro f x arr hq hf
    obtain ⟨f', rfl⟩ : ∃ f', f = f' + 1 := ⟨f - 1, by omega⟩
    unfold f_J7_fill_53178_L5
    rw [if_neg (nI_ge (a := x) (b := n) (by omega) hn), px_in (by omega) hn, px_nm, px_nm, nI_1, nI_clamp (by omega)]
    obtain ⟨arr', h1, h2⟩ := ih f' (x + 1) (upd arr x v) (by omega) (by omega)
    refine ⟨arr', h1, fun j => ?_⟩
    rw [h2]
    by_cases e : j = x
    · subst e
      rw [if_neg (by omega), if_pos (by omega)]
      exact if_pos rfl
    · have : upd arr x v j = arr j := if_neg e
      rw [this]
      by_cases h : x ≤ j ∧ j < n
      · rw [if_pos h, if_pos (by omega)]
      · rw [if_neg h, if_neg (by omega)]
theorem fill_eq (v : Int32) (n : Nat) (hn : n < 10000) (arr : Nat → Int32) : ∃ arr', f_J7_fill_53178 v n arr = some arr' ∧ ∀ j, arr' j = if j < n then v else arr j := by
  obtain ⟨arr', h1, h2⟩ := fill_run v n (by omega) n gFuel 0 arr (by omega) (by unfold gFuel; omega)
  refine ⟨arr', h1, fun j => ?_⟩
  rw [h2]
  by_cases h : j < n
  · rw [if_pos ⟨Nat.zero_le _, h⟩, if_pos h]
  · rw [if_neg (by omega), if_neg h]
section LC
/-- bits of what hangs together with each cell -/
def BB (R C : Nat) (air B : Nat → Nat) : Prop := ∀ c, c < R * C → 0 < air c → B c < 2 ^ 25 ∧ ∀ x, (B c).testBit x = true ↔ Rch R C air c x
def szB (air B : Nat → Nat) (c : Nat) : Nat := sumN (fun x => bt (B c) x * air x) 25
/-- bubbles found among the first cells: how many, the greatest, its cell, all met -/
def fbS (air B : Nat → Nat) : Nat → Nat × Nat × Nat × Nat
  | 0 => (0, 0, 0, 0)
  | c + 1 => if air c = 0 ∨ (fbS air B c).2.2.2.testBit c = true then fbS air B c
    else ((fbS air B c).1 + 1, (if (fbS air B c).2.1 < szB air B c then szB air B c else (fbS air B c).2.1), (if (fbS air B c).2.1 < szB air B c then c else (fbS air B c).2.2.1), (fbS air B c).2.2.2 ||| B c)
variable {R C : Nat} {air B : Nat → Nat}
theorem szB_pos (hB : BB R C air B) (hR : R < 6) (hC : C < 6) {c : Nat} (hc : c < R * C) (ha : 0 < air c) : 0 < szB air B c := by
  have h25 := RC25 hR hC
  have h1 := ((hB c hc ha).2 c).mpr (Rch_rfl R C air c)
  unfold szB
  have := sumN_lt (f := fun _ => 0) (g := fun x => bt (B c) x * air x) (fun x => Nat.zero_le _) (z := c) (by show 0 < bt (B c) c * air c; rw [bt_is.mpr h1]; omega) 25 (by omega)
  omega
theorem fbS_ok (hB : BB R C air B) (hR : R < 6) (hC : C < 6) (hair : ∀ j, air j ≤ 99) : ∀ c, c ≤ R * C → (fbS air B c).1 ≤ c ∧ (fbS air B c).2.1 ≤ 2475 ∧ (fbS air B c).2.2.1 ≤ 25 ∧ (fbS air B c).2.2.2 < 2 ^ 25 ∧ ((fbS air B c).1 = 0 ↔ (fbS air B c).2.1 = 0) ∧ (0 < (fbS air B c).2.1 → (fbS air B c).2.2.1 < R * C ∧ 0 < air (fbS air B c).2.2.1 ∧ (fbS air B c).2.1 = szB air B (fbS air B c).2.2.1)
  | 0, _ => ⟨Nat.le_refl _, Nat.zero_le _, Nat.zero_le _, (show 0 < 2 ^ 25 by decide), ⟨fun _ => rfl, fun _ => rfl⟩, fun h => absurd h (Nat.lt_irrefl 0)⟩
  | c + 1, hc => by
    obtain ⟨h1, h2, h3, h4, h5, h6⟩ := fbS_ok hB hR hC hair c (by omega)
    have h25 := RC25 hR hC
    unfold fbS
    by_cases ht : air c = 0 ∨ (fbS air B c).2.2.2.testBit c = true
    · rw [if_pos ht]
      exact ⟨by omega, h2, h3, h4, h5, h6⟩
    · rw [if_neg ht]
      have ha : 0 < air c := Nat.pos_of_ne_zero (fun q => ht (Or.inl q))
      have hp := szB_pos hB hR hC (by omega) ha
      have hsz : szB air B c ≤ 2475 := by
        have := sumN_le (f := fun x => bt (B c) x * air x) (b := 99) (fun x => by
          have h1 := bt_le (B c) x
          have h2 := hair x
          show bt (B c) x * air x ≤ 99
          have : bt (B c) x * air x ≤ 1 * 99 := Nat.mul_le_mul h1 h2
          omega) 25
        unfold szB
        omega
      dsimp only
      refine ⟨by omega, ?_, ?_, or_lt h4 (hB c (by omega) ha).1, ?_, ?_⟩
      · split <;> omega
      · split <;> omega
      · constructor
        · intro q; omega
        · intro q
          split at q
          · omega
          · omega
      · intro q
        by_cases hlt : (fbS air B c).2.1 < szB air B c
        · rw [if_pos hlt, if_pos hlt]
          exact ⟨by omega, ha, rfl⟩
        · rw [if_neg hlt] at q
          rw [if_neg hlt, if_neg hlt]
          exact h6 q
theorem find_run {holes out eb : Nat} {paste : Nat → Nat} {d : Nat → Int32} (hW : MW d R C holes out eb air paste) (hR : R < 6) (hC : C < 6) (hair : ∀ j, air j ≤ 99) (hB : BB R C air B) (hBf : ∀ c, c < R * C → 0 < air c → f_X12_bubbleOf (nI c) d = some (nI (B c))) :
    ∀ (q f c : Nat), c + q = R * C → q < f →
    f_X12_findBubbles_L19 d f (nI (fbS air B c).2.2.2) (nI c) (nI (fbS air B c).1) (nI (fbS air B c).2.1) (nI (fbS air B c).2.2.1) = some (nI (fbS air B (R * C)).1, nI (fbS air B (R * C)).2.1, nI (fbS air B (R * C)).2.2.1) := by
  have h25 := RC25 hR hC
  intro q
  induction q with
  | zero =>
    intro f c hq hf
    obtain ⟨f', rfl⟩ : ∃ f', f = f' + 1 := ⟨f - 1, by omega⟩
    have : c = R * C := by omega
    subst this
    unfold f_X12_findBubbles_L19
    rw [cells_m hW, px_kb, if_pos (show nI (R * C) ≤ nI (R * C) from Int32.le_refl _)]
  | succ q ih =>
    intro f c hq hf
    obtain ⟨f', rfl⟩ : ∃ f', f = f' + 1 := ⟨f - 1, by omega⟩
    obtain ⟨h1, h2, h3, h4, h5, h6⟩ := fbS_ok hB hR hC hair c (by omega)
    have hih := ih f' (c + 1) (by omega) (by omega)
    have hac := hair c
    have e1 : fbS air B (c + 1) = if air c = 0 ∨ (fbS air B c).2.2.2.testBit c = true then fbS air B c else ((fbS air B c).1 + 1, (if (fbS air B c).2.1 < szB air B c then szB air B c else (fbS air B c).2.1), (if (fbS air B c).2.1 < szB air B c then c else (fbS air B c).2.2.1), (fbS air B c).2.2.2 ||| B c) := rfl
    rw [e1] at hih
    unfold f_X12_findBubbles_L19
    rw [cells_m hW, px_kb, if_neg (nI_ge (a := c) (b := R * C) (by omega) (by omega)), n10, px_nm, px_in (by omega) (by decide), nI_clamp (by omega), hW.2.2.2.2.2.1 c (by omega)]
    by_cases ha : air c = 0
    · rw [if_pos (Or.inl ha)] at hih
      rw [ha, if_pos (show nI 0 = 0 from rfl), px_nm, nI_1]
      exact hih
    · rw [if_neg (nI_ne0 (by omega) (by omega)), px_nm, px_nm, bx_bit h4 (by omega), bt_eq]
      by_cases hb : (fbS air B c).2.2.2.testBit c = true
      · rw [if_pos (Or.inr hb)] at hih
        rw [bt_is.mpr hb, if_pos (show nI 1 = 1 from rfl), px_nm, nI_1]
        exact hih
      · have hz : bt (fbS air B c).2.2.2 c = 0 := by unfold bt; rw [if_neg hb]
        rw [if_neg (fun q => q.elim ha hb)] at hih
        have hapos : 0 < air c := by omega
        obtain ⟨b1, b2⟩ := hB c (by omega) hapos
        have hsz : szB air B c < 2 ^ 31 := by
          have := sumN_le (f := fun x => bt (B c) x * air x) (b := 99) (fun x => by
            have h1 := bt_le (B c) x
            have h2 := hair x
            show bt (B c) x * air x ≤ 99
            have : bt (B c) x * air x ≤ 1 * 99 := Nat.mul_le_mul h1 h2
            omega) 25
          unfold szB
          omega
        rw [hz, if_neg (show ¬ nI 0 = 1 by decide), hBf c (by omega) hapos, px_kb, sizeOf0_m hW hR hC b1 (fun x hx => (Rch_in hR hC (by omega) hapos ((b2 x).mp hx)).1), px_kb, px_nm, px_nm, bx_or, nI_1]
        show (if nI (szB air B c) ≤ nI (fbS air B c).2.1 then _ else _) = _
        by_cases hlt : (fbS air B c).2.1 < szB air B c
        · rw [if_pos hlt, if_pos hlt] at hih
          rw [if_neg (nI_ge hlt hsz), px_nm, nI_1]
          exact hih
        · rw [if_neg hlt, if_neg hlt] at hih
          rw [if_pos (nI_le (by omega) (by omega)), px_nm, nI_1]
          exact hih
/-- one cell by the class, and the sets of the model -/
theorem bub_step (hR : R < 6) (hC : C < 6) (hair : ∀ j, air j ≤ 99) (hB : BB R C air B) {c mb : Nat} (hc : c < R * C) {met : Nat → Nat} (hmm : ∀ x, met x = bt mb x) (hcl : Cl R C air met) {metA : Nat → Int32} (hm : ad metA met 25) (il : Int32) (line : Nat → Int32) :
    ∃ (size n' : Nat) (met' : Nat → Nat) (line' metA' : Nat → Int32), f_X10_meetBubble (nI c) (nI R) (nI C) il (lf air) line metA = some (nI size, nI n', line', metA') ∧ ad metA' met' 25 ∧ Cl R C air met' ∧
      ((air c = 0 ∨ mb.testBit c = true) → size = 0 ∧ ∀ x, met' x = bt mb x) ∧ (¬ (air c = 0 ∨ mb.testBit c = true) → size = szB air B c ∧ ∀ x, met' x = bt (mb ||| B c) x) := by
  obtain ⟨size, n', met', line', metA', e1, g1, g2, g3, g4, g5⟩ := bubble_eq hR hC hair (fun j => by rw [hmm]; exact bt_le _ _) hcl hc hm il line
  have hiff : (air c = 0 ∨ mb.testBit c = true) ↔ (air c = 0 ∨ met c = 1) := by rw [hmm, bt_is]
  refine ⟨size, n', met', line', metA', e1, g1, g3, fun h => ?_, fun h => ?_⟩
  · obtain ⟨a, b⟩ := g4 (hiff.mp h)
    exact ⟨a, fun x => by rw [b]; exact hmm x⟩
  · obtain ⟨S, s1, s2, s3, s4⟩ := g5 (fun q => h (hiff.mpr q))
    have ha : 0 < air c := Nat.pos_of_ne_zero (fun q => h (Or.inl q))
    obtain ⟨b1, b2⟩ := hB c hc ha
    have hS : ∀ x, S x = bt (B c) x := by
      intro x
      by_cases hx : (B c).testBit x = true
      · rw [bt_is.mpr hx, (s2 x).mpr ((b2 x).mp hx)]
      · have h0 : bt (B c) x = 0 := by unfold bt; rw [if_neg hx]
        have : S x ≠ 1 := fun q => hx ((b2 x).mpr ((s2 x).mp q))
        have := s1 x
        omega
    refine ⟨?_, fun x => ?_⟩
    · rw [s3]
      exact sumN_congr (fun x _ => by rw [hS])
    · have h1 := g2 x
      have h2 := s4 x
      rw [hS, hmm] at h2
      have h3 : bt (mb ||| B c) x = 1 ↔ bt mb x = 1 ∨ bt (B c) x = 1 := by
        rw [bt_is, bt_is, bt_is, Nat.testBit_or, Bool.or_eq_true]
      have a := bt_le mb x
      have b := bt_le (B c) x
      have e := bt_le (mb ||| B c) x
      omega
theorem count_run (hR : R < 6) (hC : C < 6) (hair : ∀ j, air j ≤ 99) (hB : BB R C air B) :
    ∀ (q f c : Nat) (met : Nat → Nat) (metA : Nat → Int32) (il : Int32) (line : Nat → Int32), c + q = R * C → q < f → (∀ x, met x = bt (fbS air B c).2.2.2 x) → Cl R C air met → ad metA met 25 →
    ∃ (il' : Int32) (line' metA' : Nat → Int32), f_X10_countBubbles_L12 (nI R) (nI C) (lf air) f (nI (fbS air B c).1) (nI c) il line metA = some (nI (fbS air B (R * C)).1, il', line', metA') := by
  have h25 := RC25 hR hC
  intro q
  induction q with
  | zero =>
    intro f c met metA il line hq hf hmm hcl hm
    obtain ⟨f', rfl⟩ : ∃ f', f = f' + 1 := ⟨f - 1, by omega⟩
    have : c = R * C := by omega
    subst this
    unfold f_X10_countBubbles_L12
    by_cases h : (25 : Int32) ≤ nI (R * C)
    · rw [if_pos h]; exact ⟨_, _, _, rfl⟩
    · rw [if_neg h, has_end hR hC, px_kb, if_pos rfl]; exact ⟨_, _, _, rfl⟩
  | succ q ih =>
    intro f c met metA il line hq hf hmm hcl hm
    obtain ⟨f', rfl⟩ : ∃ f', f = f' + 1 := ⟨f - 1, by omega⟩
    obtain ⟨h1, h2, h3, h4, h5, h6⟩ := fbS_ok hB hR hC hair c (by omega)
    obtain ⟨size, n', met', line', metA', e1, g1, g2, g3, g4⟩ := bub_step hR hC hair hB (c := c) (by omega) hmm hcl hm il line
    have ee : fbS air B (c + 1) = if air c = 0 ∨ (fbS air B c).2.2.2.testBit c = true then fbS air B c else ((fbS air B c).1 + 1, (if (fbS air B c).2.1 < szB air B c then szB air B c else (fbS air B c).2.1), (if (fbS air B c).2.1 < szB air B c then c else (fbS air B c).2.2.1), (fbS air B c).2.2.2 ||| B c) := rfl
    unfold f_X10_countBubbles_L12
    rw [if_neg (show ¬ (25 : Int32) ≤ nI c from nI_ge (b := 25) (by omega) (by decide)), has_in hR hC (by omega), px_kb, if_neg (by decide), e1, px_kb4]
    by_cases ht : air c = 0 ∨ (fbS air B c).2.2.2.testBit c = true
    · obtain ⟨k1, k2⟩ := g3 ht
      rw [if_pos ht] at ee
      rw [k1, if_pos (show nI 0 ≤ 0 by decide), px_nm, nI_1]
      have := ih f' (c + 1) met' metA' (nI n') line' (by omega) (by omega) (by rw [ee]; exact k2) g2 g1
      rw [ee] at this
      exact this
    · obtain ⟨k1, k2⟩ := g4 ht
      rw [if_neg ht] at ee
      have ha : 0 < air c := Nat.pos_of_ne_zero (fun q => ht (Or.inl q))
      have hp := szB_pos hB hR hC (c := c) (by omega) ha
      have hsz : szB air B c < 2 ^ 31 := by
        have h7 := (fbS_ok hB hR hC hair (c + 1) (by omega)).2.1
        rw [ee] at h7
        dsimp only at h7
        split at h7 <;> omega
      rw [k1, if_neg (nI_nle hp hsz), px_nm, px_nm, nI_1, nI_1]
      have := ih f' (c + 1) met' metA' (nI n') line' (by omega) (by omega) (by rw [ee]; exact k2) g2 g1
      rw [ee] at this
      exact this
theorem big_run (hR : R < 6) (hC : C < 6) (hair : ∀ j, air j ≤ 99) (hB : BB R C air B) :
    ∀ (q f c : Nat) (met : Nat → Nat) (metA : Nat → Int32) (il : Int32) (line : Nat → Int32), c + q = R * C → q < f → (∀ x, met x = bt (fbS air B c).2.2.2 x) → Cl R C air met → ad metA met 25 →
    ∃ (il' : Int32) (line' metA' : Nat → Int32), f_X10_cellOfBiggest_L14 (nI R) (nI C) (lf air) f (nI (fbS air B c).2.1) (if (fbS air B c).2.1 = 0 then -1 else nI (fbS air B c).2.2.1) (nI c) il line metA = some ((if (fbS air B (R * C)).2.1 = 0 then -1 else nI (fbS air B (R * C)).2.2.1), il', line', metA') := by
  have h25 := RC25 hR hC
  intro q
  induction q with
  | zero =>
    intro f c met metA il line hq hf hmm hcl hm
    obtain ⟨f', rfl⟩ : ∃ f', f = f' + 1 := ⟨f - 1, by omega⟩
    have : c = R * C := by omega
    subst this
    unfold f_X10_cellOfBiggest_L14
    by_cases h : (25 : Int32) ≤ nI (R * C)
    · rw [if_pos h]; exact ⟨_, _, _, rfl⟩
    · rw [if_neg h, has_end hR hC, px_kb, if_pos rfl]; exact ⟨_, _, _, rfl⟩
  | succ q ih =>
    intro f c met metA il line hq hf hmm hcl hm
    obtain ⟨f', rfl⟩ : ∃ f', f = f' + 1 := ⟨f - 1, by omega⟩
    obtain ⟨h1, h2, h3, h4, h5, h6⟩ := fbS_ok hB hR hC hair c (by omega)
    obtain ⟨size, n', met', line', metA', e1, g1, g2, g3, g4⟩ := bub_step hR hC hair hB (c := c) (by omega) hmm hcl hm il line
    have ee : fbS air B (c + 1) = if air c = 0 ∨ (fbS air B c).2.2.2.testBit c = true then fbS air B c else ((fbS air B c).1 + 1, (if (fbS air B c).2.1 < szB air B c then szB air B c else (fbS air B c).2.1), (if (fbS air B c).2.1 < szB air B c then c else (fbS air B c).2.2.1), (fbS air B c).2.2.2 ||| B c) := rfl
    unfold f_X10_cellOfBiggest_L14
    rw [if_neg (show ¬ (25 : Int32) ≤ nI c from nI_ge (b := 25) (by omega) (by decide)), has_in hR hC (by omega), px_kb, if_neg (by decide), e1, px_kb4]
    by_cases ht : air c = 0 ∨ (fbS air B c).2.2.2.testBit c = true
    · obtain ⟨k1, k2⟩ := g3 ht
      rw [if_pos ht] at ee
      rw [k1, if_pos (nI_le (Nat.zero_le _) (by omega)), px_nm, nI_1]
      have := ih f' (c + 1) met' metA' (nI n') line' (by omega) (by omega) (by rw [ee]; exact k2) g2 g1
      rw [ee] at this
      exact this
    · obtain ⟨k1, k2⟩ := g4 ht
      rw [if_neg ht] at ee
      have ha : 0 < air c := Nat.pos_of_ne_zero (fun q => ht (Or.inl q))
      have hp := szB_pos hB hR hC (c := c) (by omega) ha
      have hsz : szB air B c < 2 ^ 31 := by
        have h7 := (fbS_ok hB hR hC hair (c + 1) (by omega)).2.1
        rw [ee] at h7
        dsimp only at h7
        split at h7 <;> omega
      rw [k1]
      have := ih f' (c + 1) met' metA' (nI n') line' (by omega) (by omega) (by rw [ee]; exact k2) g2 g1
      rw [ee] at this
      dsimp only at this
      by_cases hlt : (fbS air B c).2.1 < szB air B c
      · rw [if_pos hlt, if_pos hlt, if_neg (show ¬ szB air B c = 0 by omega)] at this
        rw [if_neg (nI_ge hlt hsz), px_nm, nI_1]
        exact this
      · rw [if_neg hlt, if_neg hlt] at this
        rw [if_pos (nI_le (by omega) (by omega)), px_nm, nI_1]
        exact this
theorem Cl_0 (R C : Nat) (air : Nat → Nat) : Cl R C air (fun x => bt 0 x) := by
  intro y z hy h
  have h' : bt 0 y = 1 := h
  rw [bt_is, Nat.zero_testBit] at h'
  cases h'
theorem ad_0 {arr' arr : Nat → Int32} (h : ∀ j, arr' j = if j < 25 then 0 else arr j) : ad arr' (fun x => bt 0 x) 25 := by
  intro j hj
  rw [h, if_pos hj]
  have : bt 0 j = 0 := by unfold bt; rw [Nat.zero_testBit]; rfl
  show 0 = nI (bt 0 j)
  rw [this]; rfl
/-- the class: size of a cell's bubble -/
theorem sizeOf_c (hR : R < 6) (hC : C < 6) (hair : ∀ j, air j ≤ 99) (hB : BB R C air B) {c : Nat} (hc : c < R * C) (il : Int32) (line metA : Nat → Int32) :
    ∃ (il' : Int32) (line' metA' : Nat → Int32), f_X10_sizeOfBubble (nI c) (nI R) (nI C) il (lf air) line metA = some (nI (if air c = 0 then 0 else szB air B c), il', line', metA') := by
  obtain ⟨arr', h1, h2⟩ := fill_eq 0 25 (by decide) metA
  obtain ⟨size, n', met', line', metA', e1, g1, g2, g3, g4⟩ := bub_step hR hC hair hB (mb := 0) hc (fun _ => rfl) (Cl_0 R C air) (ad_0 h2) il line
  unfold f_X10_sizeOfBubble
  rw [h1, px_kb, e1, px_kb4]
  by_cases ha : air c = 0
  · rw [(g3 (Or.inl ha)).1, if_pos ha]; exact ⟨_, _, _, rfl⟩
  · rw [(g4 (fun q => q.elim ha (fun q => by rw [Nat.zero_testBit] at q; cases q))).1, if_neg ha]; exact ⟨_, _, _, rfl⟩
theorem count_c (hR : R < 6) (hC : C < 6) (hair : ∀ j, air j ≤ 99) (hB : BB R C air B) (il : Int32) (line metA : Nat → Int32) :
    ∃ (il' : Int32) (line' metA' : Nat → Int32), f_X10_countBubbles (nI R) (nI C) il (lf air) line metA = some (nI (fbS air B (R * C)).1, il', line', metA') := by
  have h25 := RC25 hR hC
  obtain ⟨arr', h1, h2⟩ := fill_eq 0 25 (by decide) metA
  unfold f_X10_countBubbles
  rw [h1, px_kb]
  exact count_run hR hC hair hB (R * C) gFuel 0 _ arr' il line (by omega) (by unfold gFuel; omega) (fun _ => rfl) (Cl_0 R C air) (ad_0 h2)
theorem big_c (hR : R < 6) (hC : C < 6) (hair : ∀ j, air j ≤ 99) (hB : BB R C air B) (il : Int32) (line metA : Nat → Int32) :
    ∃ (il' : Int32) (line' metA' : Nat → Int32), f_X10_cellOfBiggest (nI R) (nI C) il (lf air) line metA = some ((if (fbS air B (R * C)).2.1 = 0 then -1 else nI (fbS air B (R * C)).2.2.1), il', line', metA') := by
  have h25 := RC25 hR hC
  obtain ⟨arr', h1, h2⟩ := fill_eq 0 25 (by decide) metA
  unfold f_X10_cellOfBiggest
  rw [h1, px_kb]
  exact big_run hR hC hair hB (R * C) gFuel 0 _ arr' il line (by omega) (by unfold gFuel; omega) (fun _ => rfl) (Cl_0 R C air) (ad_0 h2)
theorem find_m {holes out eb : Nat} {paste : Nat → Nat} {d : Nat → Int32} (hW : MW d R C holes out eb air paste) (hR : R < 6) (hC : C < 6) (hair : ∀ j, air j ≤ 99) :
    ∃ B, BB R C air B ∧ (∀ c, c < R * C → 0 < air c → f_X12_bubbleOf (nI c) d = some (nI (B c))) ∧ ∀ x y z : Int32, f_X12_findBubbles x y z d = some (nI (fbS air B (R * C)).1, nI (fbS air B (R * C)).2.1, nI (fbS air B (R * C)).2.2.1) := by
  have h25 := RC25 hR hC
  have hb := fun c (hc : c < R * C) (ha : 0 < air c) => bubbleOf_m hW hR hC hair hc ha
  refine ⟨fun c => match f_X12_bubbleOf (nI c) d with | some v => v.toNatClampNeg | none => 0, ?_⟩
  have hv : ∀ c, c < R * C → 0 < air c → ∃ s, f_X12_bubbleOf (nI c) d = some (nI s) ∧ s < 2 ^ 25 ∧ (∀ x, s.testBit x = true ↔ Rch R C air c x) ∧ (match f_X12_bubbleOf (nI c) d with | some v => v.toNatClampNeg | none => 0) = s := by
    intro c hc ha
    obtain ⟨s, h1, h2, h3⟩ := hb c hc ha
    refine ⟨s, h1, h2, h3, ?_⟩
    rw [h1]
    exact nI_clamp (by omega)
  have hBB : BB R C air (fun c => match f_X12_bubbleOf (nI c) d with | some v => v.toNatClampNeg | none => 0) := by
    intro c hc ha
    obtain ⟨s, h1, h2, h3, h4⟩ := hv c hc ha
    dsimp only
    rw [h4]
    exact ⟨h2, h3⟩
  have hBf : ∀ c, c < R * C → 0 < air c → f_X12_bubbleOf (nI c) d = some (nI ((fun c => match f_X12_bubbleOf (nI c) d with | some v => v.toNatClampNeg | none => 0) c)) := by
    intro c hc ha
    obtain ⟨s, h1, h2, h3, h4⟩ := hv c hc ha
    dsimp only
    rw [h4]
    exact h1
  exact ⟨hBB, hBf, fun x y z => find_run hW hR hC hair hBB hBf (R * C) gFuel 0 (by omega) (by unfold gFuel; omega)⟩
end LC
