/-! the best stroke: what is told, and the class -/
def AirOK (a : Nat → Nat) : Prop := (∀ j, a j ≤ 99) ∧ ∀ j, 25 ≤ j → a j = 0
def PasteOK (a : Nat → Nat) : Prop := (∀ j, a j ≤ 9) ∧ ∀ j, 25 ≤ j → a j = 0
theorem AirOK_up {a : Nat → Nat} (h : AirOK a) {c v : Nat} (hc : c < 25) (hv : v ≤ 99) : AirOK (va_up a c v) := by
  refine ⟨va_up_le h.1 c hv, fun j hj => ?_⟩
  rw [vu_ne _ _ (by omega)]
  exact h.2 j hj
theorem cpy_z {f g : Nat → Nat} {n : Nat} (hf : ∀ j, n ≤ j → f j = 0) (hg : ∀ j, n ≤ j → g j = 0) : va_cpy f g 0 0 n = f := by
  funext j
  show (if 0 ≤ j ∧ j < 0 + n then f (0 + (j - 0)) else g j) = f j
  by_cases h : j < n
  · rw [if_pos ⟨by omega, by omega⟩, Nat.zero_add, Nat.sub_zero]
  · rw [if_neg (by omega), hf j (by omega), hg j (by omega)]
theorem opn_z {eb : Nat} (h : eb < 16) : ∀ j, 4 ≤ j → opn eb j = 0 := by
  intro j hj
  unfold opn
  have : 16 ≤ 2 ^ j := Nat.le_trans (by decide : 16 ≤ 2 ^ 4) (Nat.pow_le_pow_right (by decide) hj)
  rw [Nat.div_eq_of_lt (by omega)]
/-- a wall of thought: its rows of numbers -/
def SC (air open_ paste : Nat → Int32) : Prop := ∃ a p e, air = lf a ∧ paste = lf p ∧ open_ = lf (opn e) ∧ e < 16 ∧ AirOK a ∧ PasteOK p
theorem airAs_eq {a b : Nat → Nat} (ha : AirOK a) (hb : AirOK b) : f_X10_airAs (lf a) (lf b) = some (lf b) := by
  have h := cpy_z hb.2 ha.2
  unfold f_X10_airAs
  have z0 : (0 : Int32).toNatClampNeg = 0 := by decide
  have z5 : (25 : Int32).toNatClampNeg = 25 := by decide
  have e : ∀ {β : Type} (k : Option β), chc 0 0 25 25 25 k = k := by
    intro β k
    exact if_neg (by decide)
  rw [e, px_nm, z0, z5, lf_cpy, h]
theorem copy_eq {air open_ paste : Nat → Int32} (h : SC air open_ paste) {b p : Nat → Nat} {eb : Nat} (hb : AirOK b) (hp : PasteOK p) (he : eb < 16) (r c ho ou ni r' c' ho' ou' ni' : Int32) :
    f_X10_copy r c ho ou ni air open_ paste r' c' ho' ou' ni' (lf b) (lf (opn eb)) (lf p) = some (r', c', ho', ou', ni', lf b, lf (opn eb), lf p) := by
  obtain ⟨a, q, e, rfl, rfl, rfl, h1, h2, h3⟩ := h
  have z0 : (0 : Int32).toNatClampNeg = 0 := by decide
  have z5 : (25 : Int32).toNatClampNeg = 25 := by decide
  have z4 : (4 : Int32).toNatClampNeg = 4 := by decide
  have e1 : ∀ {β : Type} (k : Option β), chc 0 0 25 25 25 k = k := fun k => if_neg (by decide)
  have e2 : ∀ {β : Type} (k : Option β), chc 0 0 4 4 4 k = k := fun k => if_neg (by decide)
  unfold f_X10_copy
  rw [airAs_eq h2 hb, px_kb, e1, px_nm, e2, px_nm, z0, z5, z4, lf_cpy, lf_cpy, cpy_z hp.2 h3.2, cpy_z (opn_z he) (opn_z h1)]
/-- the air behind a stroke -/
def strkA (R C k m w eb : Nat) (g : Nat → Nat → Nat) (paste : Nat → Nat) (c : Nat) (air : Nat → Nat) : Nat → Nat := (strk R C k m w eb g paste c 0 0 air).2.2
theorem push1_air (R C k m w eb : Nat) (g : Nat → Nat → Nat) (paste : Nat → Nat) (c : Nat) (air : Nat → Nat) (o o' : Nat) : (push1 R C k m w eb g paste c air o).1 = (push1 R C k m w eb g paste c air o').1 := by
  unfold push1
  split
  · split <;> rfl
  · rfl
theorem pushS_air (R C k m w eb : Nat) (g : Nat → Nat → Nat) (paste : Nat → Nat) : ∀ (r c : Nat) (air : Nat → Nat) (o o' : Nat), (pushS R C k m w eb g paste r c air o).1 = (pushS R C k m w eb g paste r c air o').1
  | 0, _, _, _, _ => rfl
  | r + 1, c, air, o, o' => by
    unfold pushS
    cases nb R C c w with
    | none => exact push1_air R C k m w eb g paste c air o o'
    | some x =>
      dsimp only
      rw [push1_air R C k m w eb g paste c air o o']
      exact pushS_air R C k m w eb g paste r x _ _ _
theorem strk_air (R C k m w eb : Nat) (g : Nat → Nat → Nat) (paste : Nat → Nat) (c holes out : Nat) (air : Nat → Nat) : (strk R C k m w eb g paste c holes out air).2.2 = strkA R C k m w eb g paste c air :=
  pushS_air R C k m w eb g paste _ _ _ _ _
theorem pushS_ok {R C k m w eb : Nat} {g : Nat → Nat → Nat} {paste : Nat → Nat} (hR : R < 6) (hC : C < 6) (hw : w < 4) : ∀ (r c : Nat) (air : Nat → Nat) (o : Nat), c < R * C → AirOK air → AirOK (pushS R C k m w eb g paste r c air o).1
  | 0, _, air, _, _, h => h
  | r + 1, c, air, o, hc, h => by
    have h25 := RC25 hR hC
    have hac := h.1 c
    have hnb := nb_all R hR C hC c hc w hw
    unfold pushS
    cases hx : nb R C c w with
    | none =>
      dsimp only
      unfold push1
      simp only [hx]
      split
      · exact AirOK_up h (by omega) (by omega)
      · exact h
    | some x =>
      obtain ⟨hx1, hx2⟩ := hnb x hx
      dsimp only
      refine pushS_ok hR hC hw r x _ _ hx1 ?_
      unfold push1
      simp only [hx]
      exact AirOK_up (AirOK_up h (by omega) (by omega)) (by omega) (m99_le _).1
theorem strkA_ok {R C k m w eb : Nat} {g : Nat → Nat → Nat} {paste : Nat → Nat} (hR : R < 6) (hC : C < 6) (hw : w < 4) {c : Nat} (hc : c < R * C) {air : Nat → Nat} (h : AirOK air) : AirOK (strkA R C k m w eb g paste c air) := by
  have h25 := RC25 hR hC
  have hac := h.1 c
  exact pushS_ok hR hC hw _ c _ _ hc (AirOK_up h (by omega) (by omega))
/-- of things in order the least, the first of several: its mark and it -/
def mk10 (i : Nat) : Nat := 10 * (i / 4) + i % 4
def bestN (V : Nat → Nat) : Nat → Nat × Nat
  | 0 => (0, 0)
  | 1 => (mk10 0, V 0)
  | i + 2 => if V (i + 1) < (bestN V (i + 1)).2 then (mk10 (i + 1), V (i + 1)) else bestN V (i + 1)
theorem bestN_lt (V : Nat → Nat) : ∀ i, 1 ≤ i → (bestN V i).1 < mk10 i ∧ (bestN V i).1 ≤ mk10 (i - 1)
  | 0, h => absurd h (by decide)
  | 1, _ => ⟨by show mk10 0 < mk10 1; decide, Nat.le_refl _⟩
  | i + 2, _ => by
    have h1 := bestN_lt V (i + 1) (by omega)
    have h2 : mk10 (i + 1) < mk10 (i + 2) := by unfold mk10; omega
    show (if V (i + 1) < (bestN V (i + 1)).2 then (mk10 (i + 1), V (i + 1)) else bestN V (i + 1)).1 < mk10 (i + 2) ∧ (if V (i + 1) < (bestN V (i + 1)).2 then (mk10 (i + 1), V (i + 1)) else bestN V (i + 1)).1 ≤ mk10 (i + 1)
    split
    · exact ⟨h2, Nat.le_refl _⟩
    · exact ⟨by omega, by omega⟩
theorem bestN_le {V : Nat → Nat} {b : Nat} (h : ∀ i, V i ≤ b) : ∀ i, (bestN V i).2 ≤ b
  | 0 => Nat.zero_le _
  | 1 => h 0
  | i + 2 => by
    show (if V (i + 1) < (bestN V (i + 1)).2 then (mk10 (i + 1), V (i + 1)) else bestN V (i + 1)).2 ≤ b
    split
    · exact h (i + 1)
    · exact bestN_le h (i + 1)
theorem bestN_congr {V W : Nat → Nat} : ∀ {n : Nat}, (∀ i, i < n → V i = W i) → bestN V n = bestN W n
  | 0, _ => rfl
  | 1, h => by show (mk10 0, V 0) = (mk10 0, W 0); rw [h 0 (by omega)]
  | i + 2, h => by
    show (if V (i + 1) < (bestN V (i + 1)).2 then (mk10 (i + 1), V (i + 1)) else bestN V (i + 1)) = (if W (i + 1) < (bestN W (i + 1)).2 then (mk10 (i + 1), W (i + 1)) else bestN W (i + 1))
    rw [bestN_congr (n := i + 1) (fun j hj => h j (by omega)), h (i + 1) (by omega)]
/-- the class's least number -/
def least (V : Nat → Nat) (i : Nat) : Nat := if i = 0 then 2147483647 else (bestN V i).2 * 1000 + (bestN V i).1
theorem least_step {V : Nat → Nat} {i : Nat} (hV : ∀ i, V i ≤ 2475) (hi : i < 100) : (if nI (V i * 1000 + mk10 i) < nI (least V i) then nI (V i * 1000 + mk10 i) else nI (least V i)) = nI (least V (i + 1)) := by
  have hv := hV i
  have hm : mk10 i < 1000 := by unfold mk10; omega
  match i, hi, hv, hm with
  | 0, _, hv, hm =>
    have e0 : least V 0 = 2147483647 := rfl
    have e1 : least V 1 = V 0 * 1000 + mk10 0 := rfl
    rw [e0, e1, if_pos (nI_lt (by omega) (by decide))]
  | i + 1, hi, hv, hm =>
    have h1 := (bestN_lt V (i + 1) (by omega)).1
    have h2 := bestN_le hV (i + 1)
    have e1 : least V (i + 1) = (bestN V (i + 1)).2 * 1000 + (bestN V (i + 1)).1 := rfl
    have e2 : least V (i + 1 + 1) = (if V (i + 1) < (bestN V (i + 1)).2 then (mk10 (i + 1), V (i + 1)) else bestN V (i + 1)).2 * 1000 + (if V (i + 1) < (bestN V (i + 1)).2 then (mk10 (i + 1), V (i + 1)) else bestN V (i + 1)).1 := rfl
    rw [e2, e1]
    by_cases h : V (i + 1) < (bestN V (i + 1)).2
    · rw [if_pos (nI_lt (by omega) (by omega)), if_pos h]
    · rw [if_neg (nI_nlt (by omega) (by omega)), if_neg h]
theorem part_eq {V : Nat → Nat} {n : Nat} (hV : ∀ i, V i ≤ 2475) (hn : 1 ≤ n) (hn2 : n ≤ 100) : f_X11_partOfBest (nI (least V n)) 0 = some (nI (bestN V n).1) ∧ ∀ x : Int32, ¬ x = 0 → f_X11_partOfBest (nI (least V n)) x = some (nI (bestN V n).2) := by
  have h1 := (bestN_lt V n hn).2
  have h2 := bestN_le hV n
  have hm : mk10 (n - 1) < 1000 := by unfold mk10; omega
  have e1 : least V n = (bestN V n).2 * 1000 + (bestN V n).1 := if_neg (by omega)
  have c1 : ∀ {β : Type} (k : Option β), chz (1000 : Int32) k = k := fun k => px_chz (by decide) k
  have hb : least V n < 2 ^ 31 := by rw [e1]; omega
  refine ⟨?_, fun x hx => ?_⟩
  · unfold f_X11_partOfBest
    rw [if_pos rfl, c1, px_nm, show (1000 : Int32) = nI 1000 from rfl, pk_rem hb (by decide) (by decide), e1]
    congr 2
    omega
  · unfold f_X11_partOfBest
    rw [if_neg hx, c1, show (1000 : Int32) = nI 1000 from rfl, pk_div hb (by decide) (by decide), e1]
    congr 2
    omega
