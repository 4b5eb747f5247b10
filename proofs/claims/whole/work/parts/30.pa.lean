/-! texts: the class's automaton over lists -/
def rk (x : Int32) : Nat := if x = 37 then 5 else if x = 38 then 2 else if x = 42 then 5 else if x = 43 then 4 else if x = 45 then 4 else if x = 47 then 5 else if x = 60 then 3 else if x = 61 then 3 else if x = 62 then 3 else if x = 124 then 1 else 0
theorem rk_eq (x : Int32) : f_X3_rankOf x = some (nI (rk x)) := by
  unfold f_X3_rankOf rk
  repeat' split
  all_goals rfl
theorem rk_le (x : Int32) : rk x ≤ 5 := by
  unfold rk
  repeat' split
  all_goals decide
theorem rk_pos {x : Int32} (h : 1 ≤ rk x) : x = 37 ∨ x = 38 ∨ x = 42 ∨ x = 43 ∨ x = 45 ∨ x = 47 ∨ x = 60 ∨ x = 61 ∨ x = 62 ∨ x = 124 := by
  unfold rk at h
  by_cases h1 : x = 37; · exact Or.inl h1
  by_cases h2 : x = 38; · exact Or.inr (Or.inl h2)
  by_cases h3 : x = 42; · exact Or.inr (Or.inr (Or.inl h3))
  by_cases h4 : x = 43; · exact Or.inr (Or.inr (Or.inr (Or.inl h4)))
  by_cases h5 : x = 45; · exact Or.inr (Or.inr (Or.inr (Or.inr (Or.inl h5))))
  by_cases h6 : x = 47; · exact Or.inr (Or.inr (Or.inr (Or.inr (Or.inr (Or.inl h6)))))
  by_cases h7 : x = 60; · exact Or.inr (Or.inr (Or.inr (Or.inr (Or.inr (Or.inr (Or.inl h7))))))
  by_cases h8 : x = 61; · exact Or.inr (Or.inr (Or.inr (Or.inr (Or.inr (Or.inr (Or.inr (Or.inl h8)))))))
  by_cases h9 : x = 62; · exact Or.inr (Or.inr (Or.inr (Or.inr (Or.inr (Or.inr (Or.inr (Or.inr (Or.inl h9))))))))
  by_cases h10 : x = 124; · exact Or.inr (Or.inr (Or.inr (Or.inr (Or.inr (Or.inr (Or.inr (Or.inr (Or.inr h10))))))))
  rw [if_neg h1, if_neg h2, if_neg h3, if_neg h4, if_neg h5, if_neg h6, if_neg h7, if_neg h8, if_neg h9, if_neg h10] at h
  exact absurd h (by decide)
/-- the head, or 0 -/
def hd : List Int32 → Int32
  | [] => 0
  | h :: _ => h
def cN : List Int32 → Nat → List Int32 → List Int32 × List Int32 × Nat
  | [], o, D => (D, [], o)
  | h :: t, o, D => if h = 33 then cN t (o - 1) (D ++ [-33]) else (D, h :: t, o)
def cF (r : Nat) : List Int32 → List Int32 → List Int32 × List Int32
  | [], D => (D, [])
  | h :: t, D => if r ≤ rk h then cF r t (D ++ [-h]) else (D, h :: t)
theorem cN_rep : ∀ (j : Nat) {H : List Int32} {o : Nat} {D : List Int32}, hd H ≠ 33 → cN (List.replicate j 33 ++ H) (o + j) D = (D ++ List.replicate j (-33), H, o)
  | 0, [], o, D, _ => by simp [cN]
  | 0, h :: t, o, D, hh => by
    have : ¬ h = 33 := hh
    simp [cN, this]
  | j + 1, H, o, D, hh => by
    have := cN_rep j (H := H) (o := o) (D := D ++ [-33]) hh
    simp only [List.replicate_succ, List.cons_append, cN, if_true]
    rw [show o + (j + 1) - 1 = o + j by omega, this]
    simp
def ng (l : List Int32) : List Int32 := l.map (fun x => -x)
theorem cF_all {r : Nat} : ∀ {opl H D : List Int32}, (∀ x ∈ opl, r ≤ rk x) → rk (hd H) < r → cF r (opl ++ H) D = (D ++ ng opl, H)
  | [], [], D, _, _ => by simp [cF, ng]
  | [], h :: t, D, _, hh => by
    have : ¬ r ≤ rk h := Nat.not_le.mpr hh
    simp [cF, this, ng]
  | x :: l, H, D, ha, hh => by
    have h1 := ha x (List.mem_cons_self)
    have := cF_all (opl := l) (H := H) (D := D ++ [-x]) (fun y hy => ha y (List.mem_cons_of_mem _ hy)) hh
    simp only [List.cons_append, cF, if_pos h1]
    rw [this]
    simp [ng]
/-- what a sign makes of two -/
def jn (sign x y : Int32) : Int32 := match f_X3_joined sign x y with
  | some r => r
  | none => 0
def ev1 (a b c s : Int32) (stk : List Int32) : List Int32 :=
  if s < (-3) then
    (if s = (-33) then (match stk with | [] => [] | x :: t => (if x = 0 then 1 else 0) :: t)
     else match stk with | y :: x :: t => jn (-s) x y :: t | _ => stk)
  else (if s < 0 then (if s = (-1) then a else if s = (-2) then b else c) else s) :: stk
def ev (a b c : Int32) (code stk : List Int32) : List Int32 := code.foldl (fun k s => ev1 a b c s k) stk
theorem ev_app (a b c : Int32) (x y stk : List Int32) : ev a b c (x ++ y) stk = ev a b c y (ev a b c x stk) := List.foldl_append
theorem ev_nil (a b c : Int32) (stk : List Int32) : ev a b c [] stk = stk := rfl
theorem ev_one (a b c s : Int32) (stk : List Int32) : ev a b c [s] stk = ev1 a b c s stk := rfl
def isD (x : Int32) : Prop := 48 ≤ x ∧ x ≤ 57
def nameK (sn : Nat) (x : Int32) : Option Nat := if x = 97 then some 0 else if sn = 0 then (if x = 112 then some 1 else if x = 109 then some 2 else none) else (if x = 114 then some 1 else if x = 99 then some 2 else none)
/-- one byte -/
def stB (sn : Nat) (x : Int32) (D H : List Int32) (o dg : Nat) : Option (List Int32 × List Int32 × Nat × Nat × Bool) :=
  if x = 33 ∨ x = 40 then (if o < 5 then some (D, x :: H, o + 1, dg, true) else none)
  else if 48 ≤ x ∧ x ≤ 57 then some (D ++ [x - 48], H, o, 1, false)
  else match nameK sn x with
    | some k => some (D ++ [(-1) - nI k], H, o, 0, false)
    | none => none
def addD : List Int32 → Int32 → List Int32
  | [], _ => []
  | [x], y => [x * 10 + y]
  | x :: t, y => x :: addD t y
def stF (x : Int32) (D H : List Int32) (o dg : Nat) : Option (List Int32 × List Int32 × Nat × Nat × Bool) :=
  if 48 ≤ x ∧ x ≤ 57 then (if dg = 0 ∨ 4 ≤ dg ∨ D = [] then none else some (addD D (x - 48), H, o, dg + 1, false))
  else
    let c := cN H o D
    if x = 41 then
      (let e := cF 1 c.2.1 c.1
       if hd e.2 = 40 then some (e.1, e.2.tail, c.2.2 - 1, 0, false) else none)
    else if rk x = 0 then none
    else
      (let e := cF (if rk x = 3 then 4 else rk x) c.2.1 c.1
       if rk x = 3 ∧ rk (hd e.2) = 3 then none else some (e.1, x :: e.2, c.2.2, 0, true))
/-- from a byte on: the fault, or the code -/
def po (sn : Nat) (b : Nat → Int32) : Nat → Nat → List Int32 → List Int32 → Nat → Nat → Bool → Nat × Option (List Int32)
  | 0, p, D, H, o, _, w =>
    let c := cN H o D
    let e := cF 1 c.2.1 c.1
    if w = false ∧ e.2 = [] then (0, some e.1) else (p, none)
  | r + 1, p, D, H, o, dg, w =>
    match (if w then stB sn (b p) D H o dg else stF (b p) D H o dg) with
    | none => (p, none)
    | some (D', H', o', dg', w') => po sn b r (p + 1) D' H' o' dg' w'
theorem po_end (sn : Nat) (b : Nat → Int32) (n : Nat) (D H : List Int32) (o dg : Nat) (w : Bool) : po sn b (n - n) n D H o dg w = (if w = false ∧ (cF 1 (cN H o D).2.1 (cN H o D).1).2 = [] then (0, some (cF 1 (cN H o D).2.1 (cN H o D).1).1) else (n, none)) := by
  rw [Nat.sub_self]; rfl
theorem po_F {sn : Nat} {b : Nat → Int32} {n p : Nat} (hp : p < n) (D H : List Int32) (o dg : Nat) : po sn b (n - p) p D H o dg false = (match stF (b p) D H o dg with
    | none => (p, none)
    | some (D', H', o', dg', w') => po sn b (n - (p + 1)) (p + 1) D' H' o' dg' w') := by
  rw [show n - p = (n - (p + 1)) + 1 by omega]; rfl
theorem po_B {sn : Nat} {b : Nat → Int32} {n p : Nat} (hp : p < n) (D H : List Int32) (o dg : Nat) : po sn b (n - p) p D H o dg true = (match stB sn (b p) D H o dg with
    | none => (p, none)
    | some (D', H', o', dg', w') => po sn b (n - (p + 1)) (p + 1) D' H' o' dg' w') := by
  rw [show n - p = (n - (p + 1)) + 1 by omega]; rfl
