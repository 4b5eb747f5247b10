/-! texts: unit, a whole text -/
section PF
variable {sn : Nat} {b : Nat → Int32} {n base : Nat} {d names : Nat → Int32} {m : Nat}
  {uu : Int32 → Int32 → Int32 → Int32 → Int32 → Int32 → (Nat → Int32) → (Nat → Int32) → Option (Int32 × Int32 × Int32 × Int32)}
theorem wrong_at {p : Nat} (at' : Int32) : f_X12_wrong at' (-1) = some (0, at') := by
  unfold f_X12_wrong
  rw [if_neg (by decide)]
theorem wrong_flt {q : Nat} (hq : q < 2 ^ 31) (at' : Int32) : f_X12_wrong at' (nI q) = some (0, nI q) := by
  unfold f_X12_wrong
  rw [if_pos (nI_pos' hq)]
theorem u202_no {p : Nat} (x3 op : Int32) : f_X12_unit_L202 uu x3 0 (nI p) (-1) op = some (0, nI p, nI p, op) := by
  unfold f_X12_unit_L202
  rw [if_pos rfl, wrong_at (p := p)]
  rfl
theorem u202_ok {x4 : Int32} (h : ¬ x4 = 0) (x3 at' op : Int32) : f_X12_unit_L202 uu x3 x4 at' (-1) op = some (x3, at', -1, op) := by
  unfold f_X12_unit_L202
  rw [if_neg h]
theorem in_dig (c : Int32) : f_X12_in c.toInt64 48 57 = some (if 48 ≤ c ∧ c ≤ 57 then 1 else 0) := by
  rw [in_eq]
  have e1 : (48 : Int64).toInt = (48 : Int32).toInt := by decide
  have e2 : (57 : Int64).toInt = (57 : Int32).toInt := by decide
  rw [e1, e2]
  by_cases h : 48 ≤ c ∧ c ≤ 57
  · rw [if_pos h, if_pos ⟨Int32.le_iff_toInt_le.mp h.1, Int32.le_iff_toInt_le.mp h.2⟩]
  · rw [if_neg h, if_neg (fun q => h ⟨Int32.le_iff_toInt_le.mpr q.1, Int32.le_iff_toInt_le.mpr q.2⟩)]
theorem addD_app (x y : Int32) : ∀ D : List Int32, addD (D ++ [x]) y = D ++ [x * 10 + y]
  | [] => rfl
  | [a] => rfl
  | a :: c :: t => by
    have := addD_app x y (c :: t)
    show a :: addD (c :: t ++ [x]) y = _
    rw [this]; rfl
/-- a digit's number -/
theorem dig_of (h : TP b n base d) {p : Nat} (hp : p < n) (hd1 : 48 ≤ b p ∧ b p ≤ 57) : ∃ k, k < 10 ∧ b p = nI (48 + k) := by
  obtain ⟨k, hk, e⟩ := h.2.2.2 p hp
  rw [e] at hd1 ⊢
  have h1 := (nI_leI (a := 48) (b := k) (by omega) (by omega)).mp hd1.1
  have h2 := (nI_leI (a := k) (b := 57) (by omega) (by omega)).mp hd1.2
  exact ⟨k - 48, by omega, by rw [show 48 + (k - 48) = k by omega]⟩
theorem num_loop (h : TP b n base d) {p o dg0 : Nat} {D H : List Int32} (x y z : Int32) : ∀ (k i u : Nat), 4 - i < k → 1 ≤ i → i ≤ 4 → p + i ≤ n → u < 10 ^ i →
    po sn b (n - p) p D H o dg0 true = po sn b (n - (p + i)) (p + i) (D ++ [nI u]) H o i false →
    ∃ (v : Int32) (p' : Nat), f_X12_unit_L150 uu (nI base) (nI n) d k (nI u) (nI i) (nI (p + i)) (-1) (nI o) = some (v, nI p', -1, nI o) ∧ RS sn b n x y z 6 6 p D H o dg0 v p' := by
  intro k
  have hn := h.1
  induction k with
  | zero => intro i u hk; omega
  | succ k ih =>
    intro i u hk h1 h4 hpi hu hpo
    have hu2 : u < 10000 := Nat.lt_of_lt_of_le hu (Nat.le_trans (Nat.pow_le_pow_right (by decide) h4) (by decide))
    have hev : ∀ stk, ev x y z ([nI u] ++ List.replicate 0 (-33) ++ ng []) stk = nI u :: stk := by
      intro stk
      show ev1 x y z (nI u) stk = _
      unfold ev1
      have a1 : ¬ nI u < 0 := nI_pos (by omega)
      have a2 : ¬ nI u < (-3) := fun q => a1 (Int32.lt_trans q (by decide))
      rw [if_neg a2, if_neg a1]
    have fin : ¬ (p + i < n ∧ (48 ≤ b (p + i) ∧ b (p + i) ≤ 57) ∧ i < 4) → RS sn b n x y z 6 6 p D H o dg0 (nI u) (p + i) := by
      intro hs
      refine ⟨by omega, hpi, [nI u], [], 0, i, ?_, fun q hq => absurd hq List.not_mem_nil, hev, ?_, fun _ => Or.inl (by have := rk_le (b (p + i)); omega)⟩
      · rw [hpo]; simp
      · intro hp hd1
        by_cases h44 : 4 ≤ i
        · exact Or.inr h44
        · exact absurd ⟨hp, hd1, by omega⟩ hs
    unfold f_X12_unit_L150
    by_cases hi : 4 ≤ i
    · have : i = 4 := by omega
      subst this
      rw [if_pos (show (4 : Int32) ≤ nI 4 by decide), u202_ok (by decide)]
      exact ⟨_, _, rfl, fin (by omega)⟩
    · have hne : ¬ nI i = 0 := nI_ne0 (by omega) (by omega)
      rw [if_neg (show ¬ (4 : Int32) ≤ nI i from fun q => hi ((nI_leI (a := 4) (by omega) (by omega)).mp q))]
      by_cases hp : p + i < n
      · rw [here_at h hp, px_kb, in_dig, px_kb]
        by_cases hd1 : 48 ≤ b (p + i) ∧ b (p + i) ≤ 57
        · obtain ⟨e, he, hbe⟩ := dig_of h hp hd1
          rw [if_pos hd1, if_neg (by decide), px_nm, px_kb, px_nm, px_nm, px_nm, px_nm, hbe]
          have e1 : 10 * nI u + nI (48 + e) - 48 = nI (10 * u + e) := by
            rw [show (10 : Int32) = nI 10 from rfl, pk_mul, nI_add, show (48 : Int32) = nI 48 from rfl, pk_sub (by omega)]
            congr 1
            omega
          rw [e1, nI_1, nI_1]
          have hu3 : 10 * u + e < 10 ^ (i + 1) := by rw [Nat.pow_succ]; omega
          refine ih (i + 1) (10 * u + e) (by omega) (by omega) (by omega) (by omega) hu3 ?_
          rw [hpo, po_F hp]
          have hg : ¬ (i = 0 ∨ 4 ≤ i ∨ D ++ [nI u] = []) := by
            rintro (q | q | q)
            · omega
            · omega
            · simp at q
          have e2 : nI u * 10 + (nI (48 + e) - 48) = nI (10 * u + e) := by
            rw [show (10 : Int32) = nI 10 from rfl, pk_mul, show (48 : Int32) = nI 48 from rfl, pk_sub (by omega), nI_add]
            congr 1
            omega
          unfold stF
          rw [if_pos hd1, if_neg hg, addD_app, hbe, e2]
          rfl
        · rw [if_neg hd1, if_pos rfl, u202_ok hne]
          exact ⟨_, _, rfl, fin (fun q => hd1 q.2.1)⟩
      · obtain rfl : n = p + i := by omega
        rw [here_end h (Nat.le_refl _) (by omega), px_kb, in_dig, px_kb, if_neg (show ¬ ((48 : Int32) ≤ -1 ∧ (-1 : Int32) ≤ 57) by decide), if_pos rfl, u202_ok hne]
        exact ⟨_, _, rfl, fin (fun q => hp q.1)⟩
theorem nI_ne {a c : Nat} (ha : a < 2 ^ 31) (hc : c < 2 ^ 31) (h : a ≠ c) : ¬ nI a = nI c := fun q => h ((nI_eq ha hc).mp q)
theorem po_full {p o dg0 : Nat} {D H : List Int32} (hp : p < n) (hc : b p = 33 ∨ b p = 40) (ho : ¬ o < 5) : po sn b (n - p) p D H o dg0 true = (p, none) := by
  rw [po_B hp]
  unfold stB
  rw [if_pos hc, if_neg ho]
theorem unit_not (h : TP b n base d) (is : Int32) (hu : OkF sn b n (names 0) (names 1) (names 2) 6 m (fun a f o => uu (nI base) a (nI n) f o is d names)) {p o dg0 : Nat} {D H : List Int32} (hp : p < n) (ho : o ≤ 5) (hm : 5 - o < m + 1) (hc : b p = 33) :
    Out sn b n (names 0) (names 1) (names 2) 6 p D H o dg0 (f_X12_unit_L17 uu (nI base) (nI n) is d names (b p) (nI p) (-1) (nI o)) := by
  have hn := h.1
  unfold f_X12_unit_L17
  by_cases h5 : o = 5
  · subst h5
    rw [if_pos (show nI 5 = 5 from rfl), wrong_at (p := p)]
    exact Or.inr ⟨_, _, _, p, rfl, by omega, po_full hp (Or.inl hc) (by decide)⟩
  · rw [if_neg (show ¬ nI o = 5 from nI_ne (c := 5) (by omega) (by decide) h5), px_nm, px_nm, nI_1, nI_1, hc, if_neg (by decide)]
    rcases hu (p + 1) (o + 1) dg0 D (33 :: H) (by omega) (by omega) (by omega) (fun q => absurd q (by decide)) with ⟨w, p2, hf, hR⟩ | ⟨w, a, op, q, hf, hq, hpo⟩
    · have hf : uu (nI base) (nI (p + 1)) (nI n) (-1) (nI (o + 1)) is d names = some (w, nI p2, -1, nI (o + 1)) := hf
      rw [hf]
      refine Or.inl ⟨if w = 0 then 1 else 0, p2, ?_, RS_not hp hc (by omega) hR⟩
      show f_X12_unit_L67 uu (nI base) (nI n) d 33 w (nI p2) (-1) (nI (o + 1)) = _
      unfold f_X12_unit_L67 f_X12_unit_L88
      rw [if_neg (by decide), px_nm, nI_pred, if_neg (by decide)]
      by_cases h0 : w = 0
      · rw [if_pos h0, if_pos h0]
      · rw [if_neg h0, if_neg h0]
    · have hf : uu (nI base) (nI (p + 1)) (nI n) (-1) (nI (o + 1)) is d names = some (w, a, nI q, op) := hf
      rw [hf]
      refine Or.inr ⟨if w = 0 then 1 else 0, a, op - 1, q, ?_, hq, ?_⟩
      · show f_X12_unit_L67 uu (nI base) (nI n) d 33 w a (nI q) op = _
        unfold f_X12_unit_L67 f_X12_unit_L88
        rw [if_neg (by decide), px_nm, if_neg (by decide)]
        by_cases h0 : w = 0
        · rw [if_pos h0, if_pos h0]
        · rw [if_neg h0, if_neg h0]
      · rw [po_B hp, stB_open (Or.inl hc) (by omega), hc]
        exact hpo
theorem unit_par (h : TP b n base d) (is : Int32) (he : OkF sn b n (names 0) (names 1) (names 2) 1 m (fun a f o => f_X12_either uu (nI base) a (nI n) f o is d names)) {p o dg0 : Nat} {D H : List Int32} (hp : p < n) (ho : o ≤ 5) (hm : 5 - o < m + 1) (hc : b p = 40) :
    Out sn b n (names 0) (names 1) (names 2) 6 p D H o dg0 (f_X12_unit_L17 uu (nI base) (nI n) is d names (b p) (nI p) (-1) (nI o)) := by
  have hn := h.1
  unfold f_X12_unit_L17
  by_cases h5 : o = 5
  · subst h5
    rw [if_pos (show nI 5 = 5 from rfl), wrong_at (p := p)]
    exact Or.inr ⟨_, _, _, p, rfl, by omega, po_full hp (Or.inr hc) (by decide)⟩
  · have e0 : po sn b (n - p) p D H o dg0 true = po sn b (n - (p + 1)) (p + 1) D (40 :: H) (o + 1) dg0 true := by
      rw [po_B hp, stB_open (Or.inr hc) (by omega), hc]
    rw [if_neg (show ¬ nI o = 5 from nI_ne (c := 5) (by omega) (by decide) h5), px_nm, px_nm, nI_1, nI_1, hc, if_pos rfl]
    rcases he (p + 1) (o + 1) dg0 D (40 :: H) (by omega) (by omega) (by omega) (fun q => ⟨show rk 40 < 1 by decide, show (40 : Int32) ≠ 33 by decide⟩) with ⟨w, p2, hf, hR⟩ | ⟨w, a, op, q, hf, hq, hpo⟩
    · have hf : f_X12_either uu (nI base) (nI (p + 1)) (nI n) (-1) (nI (o + 1)) is d names = some (w, nI p2, -1, nI (o + 1)) := hf
      rw [hf]
      show Out _ _ _ _ _ _ _ _ _ _ _ _ (f_X12_unit_L67 uu (nI base) (nI n) d 40 w (nI p2) (-1) (nI (o + 1)))
      unfold f_X12_unit_L67
      rw [if_pos rfl]
      by_cases hp2 : p2 < n
      · by_cases h41 : b p2 = 41
        · rw [takes_go h hp2 h41]
          refine Or.inl ⟨w, p2 + 1, ?_, RS_par hp hc (by omega) hR hp2 h41⟩
          show f_X12_unit_L88 uu 40 w (nI (p2 + 1)) (-1) (nI (o + 1)) = _
          unfold f_X12_unit_L88
          rw [px_nm, nI_pred, if_pos rfl]
        · rw [takes_stop h hp2 h41]
          refine Or.inr ⟨0, nI p2, nI (o + 1), p2, ?_, by omega, ?_⟩
          · show kb2 (f_X12_wrong (nI p2) (-1)) _ = _
            rw [wrong_at (p := p)]
            rfl
          · rw [e0]
            exact RS_rej hR hp2 (show (40 : Int32) ≠ 33 by decide) (show rk 40 < 1 by decide) (fun q => absurd q h41)
      · have : p2 = n := by have := hR.2.1; omega
        subst this
        rw [takes_end h (by decide)]
        refine Or.inr ⟨0, nI p2, nI (o + 1), p2, ?_, by omega, ?_⟩
        · show kb2 (f_X12_wrong (nI p2) (-1)) _ = _
          rw [wrong_at (p := p)]
          rfl
        · rw [e0]
          exact (RS_fin hR (show (40 : Int32) ≠ 33 by decide) (show rk 40 < 1 by decide)).1 (by simp)
    · have hf : f_X12_either uu (nI base) (nI (p + 1)) (nI n) (-1) (nI (o + 1)) is d names = some (w, a, nI q, op) := hf
      rw [hf]
      refine Or.inr ⟨0, a, op, q, ?_, hq, e0.trans hpo⟩
      show f_X12_unit_L67 uu (nI base) (nI n) d 40 w a (nI q) op = _
      unfold f_X12_unit_L67
      rw [if_pos rfl, takes_flt hn hq (by decide)]
      show kb2 (f_X12_wrong a (nI q)) _ = _
      rw [wrong_flt (by omega)]
      rfl
theorem unit_ok (h : TP b n base d) (hs : sn < 2) (hu : OkF sn b n (names 0) (names 1) (names 2) 6 m (fun a f o => uu (nI base) a (nI n) f o (nI sn) d names)) :
    OkF sn b n (names 0) (names 1) (names 2) 6 (m + 1) (fun a f o => f_X12_unit uu (nI base) a (nI n) f o (nI sn) d names) := by
  intro p o dg0 D H hp ho hm hH
  have hn := h.1
  have he := eith_ok h (nI sn) (both_ok h _ (cmp_ok h _ (sum_ok h _ (prod_ok h _ hu))))
  show Out _ _ _ _ _ _ _ _ _ _ _ _ (f_X12_unit uu (nI base) (nI p) (nI n) (-1) (nI o) (nI sn) d names)
  unfold f_X12_unit
  by_cases hpn : p < n
  · rw [here_at h hpn, px_kb]
    by_cases h33 : b p = 33
    · rw [if_pos h33]
      exact unit_not h _ hu hpn ho hm h33
    · rw [if_neg h33]
      by_cases h40 : b p = 40
      · rw [if_pos h40]
        exact unit_par h _ he hpn ho hm h40
      · rw [if_neg h40, nameOf_eq _ _ hs, px_kb]
        cases hk : nameK sn (b p) with
        | some k =>
          have hk3 := (nameK_lt hk).1
          show Out _ _ _ _ _ _ _ _ _ _ _ _ (if nI k < 0 then _ else _)
          rw [if_neg (nI_pos (by omega)), px_nm, nI_1, px_in hk3 (by decide), nI_clamp (by omega)]
          exact Or.inl ⟨_, _, rfl, RS_name hpn hk ⟨rfl, rfl, rfl⟩⟩
        | none =>
          show Out _ _ _ _ _ _ _ _ _ _ _ _ (if (-1 : Int32) < 0 then _ else _)
          rw [if_pos (by decide), gf_succ]
          unfold f_X12_unit_L150
          rw [if_neg (by decide), here_at h hpn, px_kb, in_dig, px_kb]
          have hno : ¬ (b p = 33 ∨ b p = 40) := fun q => q.elim h33 h40
          by_cases hd1 : 48 ≤ b p ∧ b p ≤ 57
          · obtain ⟨e, he1, hbe⟩ := dig_of h hpn hd1
            rw [if_pos hd1, if_neg (by decide), px_nm, px_kb, px_nm, px_nm, px_nm, px_nm, hbe, nI_1]
            have e1 : 10 * (0 : Int32) + nI (48 + e) - 48 = nI e := by
              rw [show (10 : Int32) * 0 = nI 0 from rfl, nI_add, show (48 : Int32) = nI 48 from rfl, pk_sub (by omega)]
              congr 1
              omega
            rw [e1]
            have := num_loop (sn := sn) (uu := uu) (p := p) (o := o) (dg0 := dg0) (D := D) (H := H) h (names 0) (names 1) (names 2) 19999 1 e (by omega) (by omega) (by omega) (by omega) (by omega) (by
              rw [po_B hpn]
              have e2 : nI (48 + e) - 48 = nI e := by
                rw [show (48 : Int32) = nI 48 from rfl, pk_sub (by omega)]
                congr 1
                omega
              unfold stB
              rw [if_neg hno, if_pos hd1, hbe, e2])
            exact Or.inl this
          · rw [if_neg hd1, if_pos rfl, u202_no (p := p)]
            refine Or.inr ⟨_, _, _, p, rfl, by omega, ?_⟩
            rw [po_B hpn]
            simp only [stB, if_neg hno, if_neg hd1, hk]
  · have : p = n := by omega
    subst this
    rw [here_end h (Nat.le_refl p) (by omega), px_kb, if_neg (by decide), if_neg (by decide), nameOf_eq _ _ hs, px_kb]
    have e1 : nameK sn (-1) = none := by
      match sn, hs with
      | 0, _ => decide
      | 1, _ => decide
    rw [e1]
    show Out _ _ _ _ _ _ _ _ _ _ _ _ (if (-1 : Int32) < 0 then _ else _)
    rw [if_pos (by decide), gf_succ]
    unfold f_X12_unit_L150
    rw [if_neg (by decide), here_end h (Nat.le_refl p) (by omega), px_kb, in_dig, px_kb, if_neg (show ¬ ((48 : Int32) ≤ -1 ∧ (-1 : Int32) ≤ 57) by decide), if_pos rfl, u202_no (p := p)]
    refine Or.inr ⟨_, _, _, p, rfl, by omega, ?_⟩
    rw [po_end, if_neg (fun q => by cases q.1)]
theorem unitN_ok (h : TP b n base d) (hs : sn < 2) : ∀ k, OkF sn b n (names 0) (names 1) (names 2) 6 k (fun a f o => f_X12_unitN k (nI base) a (nI n) f o (nI sn) d names)
  | 0 => fun p o dg0 D H hp ho hm hH => absurd hm (by omega)
  | k + 1 => unit_ok h hs (unitN_ok h hs k)
/-- a whole text: its fault, or its value (a: names) and its code -/
theorem text_ok (h : TP b n base d) (hs : sn < 2) (hn0 : True) :
    (∃ (v p' op : Int32) (code : List Int32), f_X12_either (f_X12_unitN 8) (nI base) 0 (nI n) (-1) 0 (nI sn) d names = some (v, p', -1, op) ∧ p' = nI n ∧ po sn b n 0 [] [] 0 0 true = (0, some code) ∧ ∀ stk, ev (names 0) (names 1) (names 2) code stk = v :: stk) ∨
    (∃ (v at' flt op : Int32) (q : Nat), f_X12_either (f_X12_unitN 8) (nI base) 0 (nI n) (-1) 0 (nI sn) d names = some (v, at', flt, op) ∧ q ≤ n ∧ po sn b n 0 [] [] 0 0 true = (q, none) ∧ (flt = nI q ∨ flt = -1 ∧ at' = nI q ∧ q < n)) := by
  have hn := h.1
  have hu := unitN_ok (names := names) h hs 8
  have he := eith_ok h (nI sn) (both_ok h _ (cmp_ok h _ (sum_ok h _ (prod_ok h _ hu))))
  rcases he 0 0 0 [] [] (by omega) (by omega) (by omega) (fun _ => ⟨show rk 0 < 1 by decide, show (0 : Int32) ≠ 33 by decide⟩) with ⟨w, p2, hf, hR⟩ | ⟨w, a, op, q, hf, hq, hpo⟩
  · by_cases hp2 : p2 < n
    · exact Or.inr ⟨w, _, _, _, p2, hf, by omega, RS_rej hR hp2 (show (0 : Int32) ≠ 33 by decide) (show rk 0 < 1 by decide) (fun _ => show (0 : Int32) ≠ 40 by decide), Or.inr ⟨rfl, rfl, hp2⟩⟩
    · have : p2 = n := by have := hR.2.1; omega
      subst this
      obtain ⟨E', h1, h2⟩ := (RS_fin hR (show (0 : Int32) ≠ 33 by decide) (show rk 0 < 1 by decide)).2 rfl
      exact Or.inl ⟨w, _, _, E', hf, rfl, h1, h2⟩
  · exact Or.inr ⟨w, a, _, op, q, hf, hq, hpo, Or.inl rfl⟩
end PF
