/-! a stroke, by the class -/
def mn (x : Nat) : Nat := if x < 99999 then x else 99999
def m99 (x : Nat) : Nat := if 99 < x then 99 else x
def opn (eb j : Nat) : Nat := eb / 2 ^ j % 2
def gN (L : List Int32) (a c e : Nat) : Nat := (gv L (nI a) (nI c) (nI e)).toNatClampNeg
theorem gN_eq (L : List Int32) (a c e : Nat) : gv L (nI a) (nI c) (nI e) = nI (gN L a c e) ∧ gN L a c e ≤ 99 := by
  obtain ⟨k, hk, he⟩ := gv_nI L (nI a) (nI c) (nI e)
  unfold gN
  rw [he, nI_clamp (by omega)]
  exact ⟨rfl, hk⟩
/-- the law as the class has it -/
def LC (u rnd : Nat) (L : List Int32) (steps : Nat → Int32) : Prop := (∃ d, LM u L d) ∧ L.length ≤ 50 ∧ RP steps L ∧ rnd < 10000
theorem gives_N {rnd : Nat} {L : List Int32} {steps ans : Nat → Int32} (h : LC 0 rnd L steps) (hC : CO L 10 rnd ans) (a c e : Nat) (stack : Nat → Int32) :
    ∃ ans' stack', f_X3_gives (nI a) (nI c) (nI e) 10000 (nI L.length) (nI 10) (nI rnd) ans stack steps = some (nI (gN L a c e), ans', stack') ∧ CO L 10 rnd ans' := by
  obtain ⟨⟨d, h1⟩, h2, h3, h4⟩ := h
  rw [← (gN_eq L a c e).1]
  have h9 := gives_eq (u := 0) (by decide) h1 h2 h3 (Or.inl rfl) h4 hC (nI a) (nI c) (nI e) stack
  rwa [show (100 * 10 * 10 : Nat) = 10000 by decide] at h9
theorem gives_S {rnd : Nat} {L : List Int32} {steps ans : Nat → Int32} (h : LC 1 rnd L steps) (hC : CO L 5 rnd ans) (a c e : Nat) (stack : Nat → Int32) :
    ∃ ans' stack', f_X3_gives (nI a) (nI c) (nI e) 2500 (nI L.length) (nI 5) (nI rnd) ans stack steps = some (nI (gN L a c e), ans', stack') ∧ CO L 5 rnd ans' := by
  obtain ⟨⟨d, h1⟩, h2, h3, h4⟩ := h
  rw [← (gN_eq L a c e).1]
  have h9 := gives_eq (u := 1) (by decide) h1 h2 h3 (Or.inr rfl) h4 hC (nI a) (nI c) (nI e) stack
  rwa [show (100 * 5 * 5 : Nat) = 2500 by decide] at h9
/-- a step of a stroke: air and what went out -/
def push1 (R C k m w eb : Nat) (g : Nat → Nat → Nat) (paste : Nat → Nat) (c : Nat) (air : Nat → Nat) (out : Nat) : (Nat → Nat) × Nat :=
  match nb R C c w with
  | none => if opn eb w = 1 then (va_up air c (air c - movesN k (air c) (g (air c) (paste c)) m), mn (out + movesN k (air c) (g (air c) (paste c)) m)) else (air, out)
  | some x => (va_up (va_up air c (air c - movesN k (air c) (g (air c) (paste c)) m)) x (m99 (air x + movesN k (air c) (g (air c) (paste c)) m)), mn (out + (air x + movesN k (air c) (g (air c) (paste c)) m - m99 (air x + movesN k (air c) (g (air c) (paste c)) m))))
def pushS (R C k m w eb : Nat) (g : Nat → Nat → Nat) (paste : Nat → Nat) : Nat → Nat → (Nat → Nat) → Nat → (Nat → Nat) × Nat
  | 0, _, air, out => (air, out)
  | r + 1, c, air, out => match nb R C c w with
    | none => push1 R C k m w eb g paste c air out
    | some x => pushS R C k m w eb g paste r x (push1 R C k m w eb g paste c air out).1 (push1 R C k m w eb g paste c air out).2
/-- a stroke: holes, out, air -/
def strk (R C k m w eb : Nat) (g : Nat → Nat → Nat) (paste : Nat → Nat) (c holes out : Nat) (air : Nat → Nat) : Nat × Nat × (Nat → Nat) :=
  let p := pushS R C k m w eb g paste (reachN k m) c (va_up air c (air c - letsN k (air c) m)) (mn (out + letsN k (air c) m))
  (mn (holes + tearsN k (paste c)), p.2, p.1)
theorem mn_le (x : Nat) : mn x ≤ 99999 := by unfold mn; split <;> omega
theorem m99_le (x : Nat) : m99 x ≤ 99 ∧ m99 x ≤ x := by unfold m99; split <;> omega
theorem movesN_le (k a g m : Nat) : movesN k a g m ≤ a := by
  unfold movesN
  dsimp only
  generalize (if k = 0 then g else if k = 1 then g + 1 else if k = 2 then 0 else if k = 3 then a else if k = 4 then (g + 1) / 2 else if k = 5 then 0 else a - m) = v
  split <;> omega
theorem letsN_le (k a m : Nat) : letsN k a m ≤ a := by
  unfold letsN
  repeat' split
  all_goals omega
theorem va_up_le {f : Nat → Nat} {b : Nat} (h : ∀ j, f j ≤ b) (c : Nat) {v : Nat} (hv : v ≤ b) : ∀ j, va_up f c v j ≤ b := by
  intro j
  unfold va_up
  split
  · exact hv
  · exact h j
theorem va_up_at {α : Type} (f : Nat → α) (c : Nat) (v : α) : va_up f c v c = v := if_pos rfl
theorem vu_ne {α : Type} (f : Nat → α) {c j : Nat} (v : α) (h : j ≠ c) : va_up f c v j = f j := if_neg h
theorem goesOut_eq (o g : Nat) (ho : o + g < 2 ^ 31) : f_X10_goesOut (nI g) (nI o) = some (nI (mn (o + g))) := by
  unfold f_X10_goesOut mn
  rw [nI_add, px_nm, px_nm]
  by_cases h : o + g < 99999
  · rw [if_pos (show nI (o + g) < 99999 from nI_lt (b := 99999) h (by decide)), if_pos h]
  · rw [if_neg (show ¬ nI (o + g) < 99999 from nI_nlt (b := 99999) (by omega) (by omega)), if_neg h]; rfl
theorem lf_up2 (f : Nat → Nat) (k x : Nat) (hk : k < 2 ^ 31) : upd (lf f) (nI k).toNatClampNeg (nI x) = lf (va_up f k x) := by rw [nI_clamp hk, lf_up]
theorem isOpen_c {w eb : Nat} (hw : w < 4) : f_X10_isOpen (nI w) (lf (opn eb)) = some (if opn eb w = 1 then 1 else 0) := by
  have h1 : f_X11_isWay (nI w) = some 1 := by
    unfold f_X11_isWay
    rw [show f_X11_within (nI w) 0 3 = some (bI (nI w) 4) from within_n (nI w) 3 (by decide), bI_nI hw (by decide)]; rfl
  unfold f_X10_isOpen
  rw [h1, px_kb, if_neg (by decide), px_in hw (by decide), px_nm, nI_clamp (by omega), lf_at]
  have h2 : opn eb w < 2 := Nat.mod_lt _ (by decide)
  by_cases h : opn eb w = 1
  · rw [h]; rfl
  · have : opn eb w = 0 := by omega
    rw [this]; rfl
section KB
variable {R C k m w eb rnd : Nat} {L : List Int32} {steps ans stack : Nat → Int32} {paste : Nat → Nat}
theorem RC25 (hR : R < 6) (hC : C < 6) : R * C ≤ 25 := Nat.le_trans (Nat.mul_le_mul (Nat.le_of_lt_succ hR) (Nat.le_of_lt_succ hC)) (by decide)
theorem pushOn_eq (hL : LC 0 rnd L steps) (hCO : CO L 10 rnd ans) (hR : R < 6) (hC : C < 6) (hk : k < 7) (hm : m < 10) (hw : w < 4) {c : Nat} (hc : c < R * C) {air : Nat → Nat} (ha : ∀ j, air j ≤ 99) {out : Nat} (ho : out ≤ 99999) :
    ∃ ans' stack', f_X10_pushOn (nI m) (nI c) (nI w) (nI k) 10000 (nI R) (nI C) (nI out) (lf air) (lf (opn eb)) (lf paste) (nI L.length) (nI 10) (nI rnd) ans stack steps = some (oI (nb R C c w), nI (push1 R C k m w eb (fun a p => gN L a p m) paste c air out).2, lf (push1 R C k m w eb (fun a p => gN L a p m) paste c air out).1, ans', stack') ∧ CO L 10 rnd ans' := by
  have h25 := RC25 hR hC
  obtain ⟨an, st, hg, hco⟩ := gives_N hL hCO (air c) (paste c) m stack
  have hac := ha c
  obtain ⟨r, hr, hmin⟩ := moves_all (k := k) (a := air c) (g := gN L (air c) (paste c) m) (m := m) hk (by omega) (by have := (gN_eq L (air c) (paste c) m).2; omega) hm
  have hml := movesN_le k (air c) (gN L (air c) (paste c) m) m
  refine ⟨an, st, ?_, hco⟩
  unfold f_X10_pushOn push1
  simp only [px_in (show c < 25 by omega) (show 25 < 2 ^ 31 by decide), px_nm, nI_clamp (show c < 2 ^ 31 by omega), lf_at, hg, px_kb3, hr, px_kb, hmin, beside_all R hR C hC c hc w hw]
  generalize hv : movesN k (air c) (gN L (air c) (paste c) m) m = v at hml
  have hnb := nb_all R hR C hC c hc w hw
  cases hx : nb R C c w with
  | none =>
    show (kb (f_X10_has (-1) (nI R) (nI C)) _) = _
    simp only [has_no hR hC, px_kb, if_true, isOpen_c hw]
    by_cases hop : opn eb w = 1
    · simp only [if_pos hop, if_neg (show ¬ (1 : Int32) = 0 by decide), pk_sub hml, lf_up, goesOut_eq out v (by omega), px_kb]
    · simp only [if_neg hop, if_true]
  | some x =>
    obtain ⟨hx1, hx2⟩ := hnb x hx
    have hax := ha x
    show (kb (f_X10_has (nI x) (nI R) (nI C)) _) = _
    have hm99 := m99_le (air x + v)
    have e99 : (if 99 < nI (air x + v) then (99 : Int32) else nI (air x + v)) = nI (m99 (air x + v)) := by
      unfold m99
      by_cases h : 99 < air x + v
      · rw [if_pos (show (99 : Int32) < nI (air x + v) from nI_lt (a := 99) h (by omega)), if_pos h]; rfl
      · rw [if_neg (show ¬ (99 : Int32) < nI (air x + v) from nI_nlt (a := 99) (by omega) (by decide)), if_neg h]
    simp only [has_in hR hC hx1, px_kb, if_neg (show ¬ (1 : Int32) = 0 by decide), oI, px_in (show x < 25 by omega) (show 25 < 2 ^ 31 by decide), px_nm, nI_clamp (show x < 2 ^ 31 by omega), lf_at, nI_add, pk_sub hml, lf_up, e99, va_up_at, pk_sub hm99.2, goesOut_eq out (air x + v - m99 (air x + v)) (by omega)]
theorem push1_le (hR : R < 6) (hC : C < 6) {g : Nat → Nat → Nat} {c : Nat} {air : Nat → Nat} (ha : ∀ j, air j ≤ 99) {out : Nat} (ho : out ≤ 99999) : (∀ j, (push1 R C k m w eb g paste c air out).1 j ≤ 99) ∧ (push1 R C k m w eb g paste c air out).2 ≤ 99999 := by
  have hac := ha c
  unfold push1
  split
  · split
    · exact ⟨va_up_le ha c (by omega), mn_le _⟩
    · exact ⟨ha, ho⟩
  · exact ⟨va_up_le (va_up_le ha c (by omega)) _ (m99_le _).1, mn_le _⟩
theorem strike_run (hL : LC 0 rnd L steps) (hR : R < 6) (hC : C < 6) (hk : k < 7) (hm : m < 10) (hw : w < 4) (holes : Nat) (rr : Nat) (hrr : rr < 100) : ∀ (r f : Nat) (c : Nat) (air : Nat → Nat) (out : Nat) (ans stack : Nat → Int32), r < f → r ≤ rr → CO L 10 rnd ans → c < R * C → (∀ j, air j ≤ 99) → out ≤ 99999 →
    ∃ ans' stack', f_X10_strike_L91 (nI m) (nI w) (nI k) 10000 (nI R) (nI C) (lf (opn eb)) (lf paste) (nI L.length) (nI 10) (nI rnd) steps f (nI rr) (nI c) (nI (rr - r)) (nI holes) (nI out) (lf air) ans stack = some (nI holes, nI (pushS R C k m w eb (fun a p => gN L a p m) paste r c air out).2, lf (pushS R C k m w eb (fun a p => gN L a p m) paste r c air out).1, ans', stack') ∧ CO L 10 rnd ans' := by
  intro r
  induction r with
  | zero =>
    intro f c air out ans stack hf hr hCO hc ha ho
    obtain ⟨f', rfl⟩ : ∃ f', f = f' + 1 := ⟨f - 1, by omega⟩
    unfold f_X10_strike_L91
    rw [Nat.sub_zero, if_pos (show nI rr ≤ nI rr from Int32.le_refl _)]
    exact ⟨ans, stack, rfl, hCO⟩
  | succ r ih =>
    intro f c air out ans stack hf hr hCO hc ha ho
    obtain ⟨f', rfl⟩ : ∃ f', f = f' + 1 := ⟨f - 1, by omega⟩
    unfold f_X10_strike_L91
    obtain ⟨an, st, hp, hco⟩ := pushOn_eq (stack := stack) (paste := paste) (eb := eb) hL hCO hR hC hk hm hw hc ha ho
    rw [if_neg (nI_ge (a := rr - (r + 1)) (b := rr) (by omega) (by omega)), has_in hR hC hc, px_kb, if_neg (by decide), hp, px_kb5, px_nm, nI_1, show rr - (r + 1) + 1 = rr - r by omega]
    obtain ⟨hle1, hle2⟩ := push1_le (k := k) (m := m) (w := w) (eb := eb) (paste := paste) (g := fun a p => gN L a p m) (c := c) hR hC ha ho
    cases hx : nb R C c w with
    | none =>
      obtain ⟨f2, rfl⟩ : ∃ f2, f' = f2 + 1 := ⟨f' - 1, by omega⟩
      unfold pushS
      simp only [hx]
      unfold f_X10_strike_L91
      by_cases hz : nI rr ≤ nI (rr - r)
      · rw [if_pos hz]; exact ⟨an, st, rfl, hco⟩
      · rw [if_neg hz, show oI none = -1 from rfl, has_no hR hC, px_kb, if_pos rfl]; exact ⟨an, st, rfl, hco⟩
    | some x =>
      obtain ⟨hx1, hx2⟩ := nb_all R hR C hC c hc w hw x hx
      unfold pushS
      simp only [hx]
      exact ih f' x _ _ an st (by omega) (by omega) hco hx1 hle1 hle2
theorem reachN_le (k m : Nat) : reachN k m ≤ 4 := by
  unfold reachN
  repeat' split
  all_goals omega
theorem tearsN_le (k p : Nat) : tearsN k p ≤ 2 := by
  unfold tearsN
  repeat' split
  all_goals omega
theorem strike_eq (hL : LC 0 rnd L steps) (hCO : CO L 10 rnd ans) (hR : R < 6) (hC : C < 6) (hk : k < 7) (hm : m < 10) (hw : w < 4) {c : Nat} (hc : c < R * C) {air : Nat → Nat} (ha : ∀ j, air j ≤ 99) (hpa : ∀ j, paste j ≤ 9) {holes out : Nat} (hh : holes ≤ 99999) (ho : out ≤ 99999) :
    ∃ ans' stack', f_X10_strike (nI m) (nI c) (nI w) (nI k) 10000 (nI R) (nI C) (nI holes) (nI out) (lf air) (lf (opn eb)) (lf paste) (nI L.length) (nI 10) (nI rnd) ans stack steps = some (nI (strk R C k m w eb (fun a p => gN L a p m) paste c holes out air).1, nI (strk R C k m w eb (fun a p => gN L a p m) paste c holes out air).2.1, lf (strk R C k m w eb (fun a p => gN L a p m) paste c holes out air).2.2, ans', stack') ∧ CO L 10 rnd ans' := by
  have h25 := RC25 hR hC
  have hac := ha c
  have hpc := hpa c
  obtain ⟨r, hr, hmin⟩ := lets_all k hk (air c) (by omega) m hm
  have hll := letsN_le k (air c) m
  have htl := tearsN_le k (paste c)
  have hrl := reachN_le k m
  have emn : (if nI (holes + tearsN k (paste c)) < 99999 then nI (holes + tearsN k (paste c)) else (99999 : Int32)) = nI (mn (holes + tearsN k (paste c))) := by
    unfold mn
    by_cases h : holes + tearsN k (paste c) < 99999
    · rw [if_pos (show nI (holes + tearsN k (paste c)) < 99999 from nI_lt (b := 99999) h (by decide)), if_pos h]
    · rw [if_neg (show ¬ nI (holes + tearsN k (paste c)) < 99999 from nI_nlt (b := 99999) (by omega) (by omega)), if_neg h]; rfl
  unfold f_X10_strike
  simp only [has_in hR hC hc, px_kb, if_neg (show ¬ (1 : Int32) = 0 by decide), px_in (show c < 25 by omega) (show 25 < 2 ^ 31 by decide), px_nm, nI_clamp (show c < 2 ^ 31 by omega), lf_at, hr, hmin, pk_sub hll, lf_up, goesOut_eq out (letsN k (air c) m) (by omega), tears_all k hk (paste c) (by omega), nI_add, emn, reach_all k hk m hm]
  have := strike_run (paste := paste) (eb := eb) hL hR hC hk hm hw (mn (holes + tearsN k (paste c))) (reachN k m) (by omega) (reachN k m) gFuel c (va_up air c (air c - letsN k (air c) m)) (mn (out + letsN k (air c) m)) ans stack (by unfold gFuel; omega) (Nat.le_refl _) hCO hc (va_up_le ha c (by omega)) (mn_le _)
  rw [Nat.sub_self, nI_0] at this
  unfold strk
  revert this
  generalize gFuel = F
  intro this
  exact this
theorem pushS_le (hR : R < 6) (hC : C < 6) {g : Nat → Nat → Nat} : ∀ (r c : Nat) (air : Nat → Nat) (out : Nat), (∀ j, air j ≤ 99) → out ≤ 99999 → (∀ j, (pushS R C k m w eb g paste r c air out).1 j ≤ 99) ∧ (pushS R C k m w eb g paste r c air out).2 ≤ 99999
  | 0, _, air, out, ha, ho => ⟨ha, ho⟩
  | r + 1, c, air, out, ha, ho => by
    obtain ⟨h1, h2⟩ := push1_le (k := k) (m := m) (w := w) (eb := eb) (paste := paste) (g := g) (c := c) hR hC ha ho
    unfold pushS
    split
    · exact ⟨h1, h2⟩
    · exact pushS_le hR hC r _ _ _ h1 h2
theorem strk_le (hR : R < 6) (hC : C < 6) {g : Nat → Nat → Nat} {c holes out : Nat} {air : Nat → Nat} (ha : ∀ j, air j ≤ 99) :
    (strk R C k m w eb g paste c holes out air).1 ≤ 99999 ∧ (strk R C k m w eb g paste c holes out air).2.1 ≤ 99999 ∧ ∀ j, (strk R C k m w eb g paste c holes out air).2.2 j ≤ 99 := by
  have hac := ha c
  obtain ⟨h1, h2⟩ := pushS_le (k := k) (m := m) (w := w) (eb := eb) (paste := paste) (g := g) hR hC (reachN k m) c (va_up air c (air c - letsN k (air c) m)) (mn (out + letsN k (air c) m)) (va_up_le ha c (by omega)) (mn_le _)
  exact ⟨mn_le _, h2, h1⟩
end KB
