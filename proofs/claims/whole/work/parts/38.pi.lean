/-! texts: the class reads; both work out -/
theorem ct_le : ∀ H : List Int32, ct H ≤ H.length
  | [] => Nat.le_refl 0
  | h :: t => by
    have := ct_le t
    show (if h = 33 ∨ h = 40 then 1 else 0) + ct t ≤ t.length + 1
    split <;> omega
theorem cl_f : cl false = 0 := rfl
theorem cl_t : cl true = 1 := rfl
section PI1
variable {sn n : Nat} {b tape : Nat → Int32}
theorem read_77 {D H : List Int32} {o dg : Nat} {w : Bool} {draft held steps : Nat → Int32} (len rnd : Int32) (hl : D.length + H.length ≤ 50) (hD : RP draft D) (hH : RH held H) (ho : o = ct H) (r : Nat × Option (List Int32)) (hr : r = (if w = false ∧ (cF 1 (cN H o D).2.1 (cN H o D).1).2 = [] then (0, some (cF 1 (cN H o D).2.1 (cN H o D).1).1) else (n, none))) :
    (∀ q, r = (q, none) → ∃ (a c e f g : Int32) (x y : Nat → Int32), f_X3_read_L77 (nI n) len rnd (nI D.length) (nI H.length) (nI o) (nI dg) (cl w) draft held steps = some (nI q, len, rnd, a, c, e, f, g, x, y, steps)) ∧
    (∀ code, r = (0, some code) → ∃ (a c e f g : Int32) (x y steps' : Nat → Int32), f_X3_read_L77 (nI n) len rnd (nI D.length) (nI H.length) (nI o) (nI dg) (cl w) draft held steps = some (-1, nI code.length, rnd + 1, a, c, e, f, g, x, y, steps') ∧ RP steps' code ∧ code.length ≤ 50) := by
  unfold f_X3_read_L77
  obtain ⟨d1, e1, hD1, hH1, ho1, hl1⟩ := closeNots_eq (o := o) hl hD hH ho
  rw [e1, px_kb4]
  obtain ⟨d2, e2, hD2, hH2, hc2, hl2⟩ := closeFrom_eq (r := 1) (by decide) (by decide) (by omega) hD1 hH1
  rw [show f_X3_closeFrom 1 = f_X3_closeFrom (nI 1) from rfl, e2, px_kb3]
  generalize hg : (cF 1 (cN H o D).2.1 (cN H o D).1) = G at hr e2 hD2 hH2 hc2 hl2
  obtain ⟨C, T⟩ := G
  dsimp only at hr e2 hD2 hH2 hc2 hl2 ⊢
  cases w with
  | true =>
    rw [if_neg (fun q => by cases q.1)] at hr
    subst hr
    refine ⟨fun q hq => ?_, fun code hq => by cases hq⟩
    cases hq
    rw [cl_t, if_neg (by decide)]
    exact ⟨_, _, _, _, _, _, _, rfl⟩
  | false =>
    rw [cl_f, if_pos rfl]
    cases T with
    | nil =>
      rw [if_pos ⟨rfl, rfl⟩] at hr
      subst hr
      refine ⟨(fun q hq => by cases hq), fun code hq => ?_⟩
      cases hq
      rw [if_pos (show nI ([] : List Int32).length ≤ 0 by decide)]
      refine ⟨_, _, _, _, _, _, _, _, if_neg (by decide), ?_, ?_⟩
      · intro i hi
        have hl3 : C.length + 0 = (cN H o D).1.length + (cN H o D).2.1.length := hl2
        show C[i]? = some (if (0 : Int32).toNatClampNeg ≤ i ∧ i < (0 : Int32).toNatClampNeg + (50 : Int32).toNatClampNeg then d2 ((0 : Int32).toNatClampNeg + (i - (0 : Int32).toNatClampNeg)) else steps i)
        have z0 : (0 : Int32).toNatClampNeg = 0 := by decide
        have z5 : (50 : Int32).toNatClampNeg = 50 := by decide
        rw [z0, z5, if_pos ⟨by omega, by omega⟩, Nat.zero_add, Nat.sub_zero]
        exact hD2 i hi
      · have hl3 : C.length + 0 = (cN H o D).1.length + (cN H o D).2.1.length := hl2
        omega
    | cons a t =>
      have hne : ¬ (false = false ∧ (a :: t : List Int32) = []) := by rintro ⟨-, q⟩; cases q
      rw [if_neg hne] at hr
      subst hr
      refine ⟨fun q hq => ?_, fun code hq => by cases hq⟩
      cases hq
      have hl3 : C.length + (t.length + 1) = (cN H o D).1.length + (cN H o D).2.1.length := hl2
      rw [if_neg (show ¬ nI (a :: t).length ≤ 0 from nI_nle (by simp) (by simp only [List.length_cons]; omega))]
      exact ⟨_, _, _, _, _, _, _, rfl⟩
theorem read_run (hs : sn < 2) (hn : n ≤ 50) (hb : ∀ i, i < n → tape i = b i) (hbb : ∀ i, i < n → ∃ k, k < 256 ∧ b i = nI k) (len rnd : Int32) (steps : Nat → Int32) : ∀ (k p : Nat) (D H : List Int32) (o dg : Nat) (w : Bool) (draft held : Nat → Int32), n - p < k → p ≤ n → D.length + H.length ≤ p → RP draft D → RH held H → o = ct H → dg ≤ 4 →
    (∀ q, po sn b (n - p) p D H o dg w = (q, none) → ∃ (a c e f g : Int32) (x y : Nat → Int32), f_X3_read_L27 (nI n) sn tape k (nI p) len rnd (nI D.length) (nI H.length) (nI o) (nI dg) (cl w) draft held steps = some (nI q, len, rnd, a, c, e, f, g, x, y, steps)) ∧
    (∀ code, po sn b (n - p) p D H o dg w = (0, some code) → ∃ (a c e f g : Int32) (x y steps' : Nat → Int32), f_X3_read_L27 (nI n) sn tape k (nI p) len rnd (nI D.length) (nI H.length) (nI o) (nI dg) (cl w) draft held steps = some (-1, nI code.length, rnd + 1, a, c, e, f, g, x, y, steps') ∧ RP steps' code ∧ code.length ≤ 50) := by
  intro k
  induction k with
  | zero => intro p D H o dg w draft held hk; omega
  | succ k ih =>
    intro p D H o dg w draft held hk hp hl hD hH ho hdg
    unfold f_X3_read_L27
    by_cases hpn : p < n
    · have hcl := ct_le H
      rw [if_neg (show ¬ nI n ≤ nI p from nI_ge hpn (by omega)), if_neg (show ¬ (50 : Int32) ≤ nI p from fun q => by have := (nI_leI (a := 50) (b := p) (by omega) (by omega)).mp q; omega)]
      have hp50 : p < 50 := by omega
      have go : ∀ (r : Option (Int32 × Int32 × Int32 × Int32 × Int32 × Int32 × (Nat → Int32) × (Nat → Int32))) (s : Option (List Int32 × List Int32 × Nat × Nat × Bool)), Step1 r s p → po sn b (n - p) p D H o dg w = (match s with | none => (p, none) | some (D', H', o', dg', w') => po sn b (n - (p + 1)) (p + 1) D' H' o' dg' w') →
          (∀ q, po sn b (n - p) p D H o dg w = (q, none) → ∃ (a c e f g : Int32) (x y : Nat → Int32), (kb8 r fun r_7 w_8 w_9 w_10 w_11 w_12 w_13 w_14 => f_X3_read_L62 (f_X3_read_L27 (nI n) sn tape k) (nI n) sn tape (nI p) r_7 len rnd w_8 w_9 w_10 w_11 w_12 w_13 w_14 steps) = some (nI q, len, rnd, a, c, e, f, g, x, y, steps)) ∧
          (∀ code, po sn b (n - p) p D H o dg w = (0, some code) → ∃ (a c e f g : Int32) (x y steps' : Nat → Int32), (kb8 r fun r_7 w_8 w_9 w_10 w_11 w_12 w_13 w_14 => f_X3_read_L62 (f_X3_read_L27 (nI n) sn tape k) (nI n) sn tape (nI p) r_7 len rnd w_8 w_9 w_10 w_11 w_12 w_13 w_14 steps) = some (-1, nI code.length, rnd + 1, a, c, e, f, g, x, y, steps') ∧ RP steps' code ∧ code.length ≤ 50) := by
        intro r s hS hpo
        cases s with
        | none =>
          obtain ⟨a, c, e, f, g, x, y, hr⟩ := hS.1 rfl
          rw [hpo]
          refine ⟨fun q hq => ?_, fun code hq => by cases hq⟩
          cases hq
          rw [hr, px_kb8]
          unfold f_X3_read_L62
          rw [if_pos rfl]
          exact ⟨_, _, _, _, _, _, _, rfl⟩
        | some s =>
          obtain ⟨D', H', o', dg', w'⟩ := s
          obtain ⟨draft', held', hr, h1, h2, h3, h4, h5⟩ := hS.2 _ _ _ _ _ rfl
          have hpo2 : po sn b (n - p) p D H o dg w = po sn b (n - (p + 1)) (p + 1) D' H' o' dg' w' := hpo
          have := ih (p + 1) D' H' o' dg' w' draft' held' (by omega) (by omega) h4 h1 h2 h3 h5
          rw [hpo2, hr, px_kb8]
          unfold f_X3_read_L62
          rw [if_neg (by decide), px_nm, nI_1]
          exact this
      cases w with
      | false =>
        rw [cl_f, if_pos rfl, px_in hp50 (by decide), px_nm, nI_clamp (by omega), hb p hpn]
        exact go _ _ (follows_eq hp50 hl hD hH ho hdg) (po_F hpn D H o dg)
      | true =>
        rw [cl_t, if_neg (by decide), px_in hp50 (by decide), px_nm, nI_clamp (by omega), hb p hpn]
        exact go _ _ (begins_eq hs (hbb p hpn) hp50 hl hD hH ho (by omega) hdg) (po_B hpn D H o dg)
    · obtain rfl : p = n := by omega
      rw [if_pos (show nI p ≤ nI p from Int32.le_refl _)]
      exact read_77 len rnd (by omega) hD hH ho _ (po_end sn b p D H o dg w)
/-- the class reads a text -/
theorem read_eq (hs : sn < 2) (hn : n ≤ 50) (hb : ∀ i, i < n → tape i = b i) (hbb : ∀ i, i < n → ∃ k, k < 256 ∧ b i = nI k) (len rnd a1 a2 a3 a4 a5 : Int32) (steps draft held : Nat → Int32) :
    (∀ q, po sn b n 0 [] [] 0 0 true = (q, none) → ∃ (a c e f g : Int32) (x y : Nat → Int32), f_X3_read (nI n) sn len rnd a1 a2 a3 a4 a5 draft held steps tape = some (nI q, len, rnd, a, c, e, f, g, x, y, steps)) ∧
    (∀ code, po sn b n 0 [] [] 0 0 true = (0, some code) → ∃ (a c e f g : Int32) (x y steps' : Nat → Int32), f_X3_read (nI n) sn len rnd a1 a2 a3 a4 a5 draft held steps tape = some (-1, nI code.length, rnd + 1, a, c, e, f, g, x, y, steps') ∧ RP steps' code ∧ code.length ≤ 50) :=
  read_run hs hn hb hbb len rnd steps gFuel 0 [] [] 0 0 true draft held (by unfold gFuel; omega) (by omega) (by simp) (RP_nil _) (RP_nil _) rfl (by decide)
end PI1
theorem isS_ite {α : Type} {c : Prop} {hc : Decidable c} {a b : Option α} (h1 : c → a.isSome = true) (h2 : ¬ c → b.isSome = true) : (if c then a else b).isSome = true := by
  by_cases h : c
  · rw [if_pos h]; exact h1 h
  · rw [if_neg h]; exact h2 h
theorem joined_some (s u v : Int32) : f_X3_joined s u v = some (jn s u v) := by
  have h : (f_X3_joined s u v).isSome = true := by
    unfold f_X3_joined f_X3_joined_L203
    repeat' (refine isS_ite (fun _ => ?_) (fun _ => ?_))
    all_goals first
      | rfl
      | contradiction
      | (rw [px_chz (by assumption)]; rfl)
  unfold jn
  cases hr : f_X3_joined s u v with
  | none => rw [hr] at h; cases h
  | some r => rfl
theorem named_eq (s a c e : Int32) : f_X3_named s a c e = some (if s = (-1) then a else if s = (-2) then c else e) := by
  unfold f_X3_named
  split
  · rfl
  · split <;> rfl
