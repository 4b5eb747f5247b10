/-! texts: the end of a text; unit -/
section PE
variable {sn : Nat} {b : Nat → Int32} {n base : Nat} {d names : Nat → Int32} {m : Nat} {x y z : Int32}
  {uu : Int32 → Int32 → Int32 → Int32 → Int32 → Int32 → (Nat → Int32) → (Nat → Int32) → Option (Int32 × Int32 × Int32 × Int32)}
theorem hd33 {opl H : List Int32} (hH : hd H ≠ 33) (ho : ∀ q ∈ opl, 1 ≤ rk q) : hd (opl ++ H) ≠ 33 := by
  cases opl with
  | nil => exact hH
  | cons a t => exact (rk_sign (ho a List.mem_cons_self)).2.2.1
theorem RS_rej {p : Nat} {D H : List Int32} {o dg0 : Nat} {v : Int32} {p' : Nat} (h : RS sn b n x y z 1 1 p D H o dg0 v p') (hp : p' < n) (hH : hd H ≠ 33) (hr : rk (hd H) < 1) (h41 : b p' = 41 → hd H ≠ 40) :
    po sn b (n - p) p D H o dg0 true = (p', none) := by
  obtain ⟨h1, h2, E, opl, j, dg, h3, h4, h5, h6, h7⟩ := h
  rw [h3, po_F hp]
  unfold stF
  by_cases hd1 : 48 ≤ b p' ∧ b p' ≤ 57
  · have := h6 hp hd1
    rw [if_pos hd1, if_pos (by rcases this with q | q; exact Or.inl q; exact Or.inr (Or.inl q))]
  · rw [if_neg hd1]
    obtain ⟨hcl, ho⟩ := cl_all (D := D ++ E) (j := j) (o := o) hH h4 h4 hr
    by_cases hc : b p' = 41
    · simp only [if_pos hc, hcl, if_neg (h41 hc)]
    · rcases h7 hp with h8 | ⟨h8, l4, c, rest, rfl, h9, h10⟩
      · have h0 : rk (b p') = 0 := by omega
        simp only [if_neg hc, h0, if_true]
      · have h0 : ¬ rk (b p') = 0 := by omega
        have h33 := hd33 (H := H) hH h4
        have e1 : cF 4 (cN (List.replicate j 33 ++ (l4 ++ c :: rest ++ H)) (o + j) (D ++ E)).2.1 (cN (List.replicate j 33 ++ (l4 ++ c :: rest ++ H)) (o + j) (D ++ E)).1 = (D ++ E ++ List.replicate j (-33) ++ ng l4, c :: (rest ++ H)) := by
          rw [cN_rep j h33]
          have : l4 ++ c :: rest ++ H = l4 ++ (c :: (rest ++ H)) := by simp
          rw [this]
          exact cF_all h9 (by show rk c < 4; omega)
        simp only [if_neg hc, if_neg h0, h8, if_true, e1]
        have h11 : rk (hd (c :: (rest ++ H))) = 3 := h10
        simp only [h11, and_self, if_true, if_neg (show ¬ (3 : Nat) = 0 by decide)]
theorem RS_fin {p : Nat} {D H : List Int32} {o dg0 : Nat} {v : Int32} (h : RS sn b n x y z 1 1 p D H o dg0 v n) (hH : hd H ≠ 33) (hr : rk (hd H) < 1) :
    (H ≠ [] → po sn b (n - p) p D H o dg0 true = (n, none)) ∧ (H = [] → ∃ E', po sn b (n - p) p D H o dg0 true = (0, some (D ++ E')) ∧ ∀ stk, ev x y z E' stk = v :: stk) := by
  obtain ⟨h1, h2, E, opl, j, dg, h3, h4, h5, h6, h7⟩ := h
  obtain ⟨hcl, ho⟩ := cl_all (D := D ++ E) (j := j) (o := o) hH h4 h4 hr
  rw [h3, po_end, hcl]
  refine ⟨fun hh => if_neg (fun q => hh q.2), fun hh => ⟨E ++ List.replicate j (-33) ++ ng opl, ?_, h5⟩⟩
  rw [if_pos ⟨rfl, hh⟩, List.append_assoc, List.append_assoc, List.append_assoc]
theorem stB_open {c : Int32} (hc : c = 33 ∨ c = 40) {D H : List Int32} {o dg : Nat} (ho : o < 5) : stB sn c D H o dg = some (D, c :: H, o + 1, dg, true) := by
  unfold stB
  rw [if_pos hc, if_pos ho]
theorem RS_par {p : Nat} {D H : List Int32} {o dg0 : Nat} {v : Int32} {p' : Nat} (hp0 : p < n) (hb : b p = 40) (ho5 : o < 5) (h : RS sn b n x y z 1 1 (p + 1) D (40 :: H) (o + 1) dg0 v p') (hp : p' < n) (hc : b p' = 41) : RS sn b n x y z 6 6 p D H o dg0 v (p' + 1) := by
  obtain ⟨h1, h2, E, opl, j, dg, h3, h4, h5, h6, h7⟩ := h
  obtain ⟨hcl, ho⟩ := cl_all (D := D ++ E) (j := j) (o := o + 1) (H := 40 :: H) (show (40 : Int32) ≠ 33 by decide) h4 h4 (show rk 40 < 1 by decide)
  refine ⟨by omega, by omega, E ++ List.replicate j (-33) ++ ng opl, [], 0, 0, ?_, fun q hq => absurd hq List.not_mem_nil, ?_, fun _ _ => Or.inl rfl, fun _ => Or.inl (by have := rk_le (b (p' + 1)); omega)⟩
  · have e0 : po sn b (n - p) p D H o dg0 true = po sn b (n - (p + 1)) (p + 1) D (40 :: H) (o + 1) dg0 true := by
      rw [po_B hp0, stB_open (Or.inr hb) ho5, hb]
    rw [e0, h3, po_F hp]
    have hnd : ¬ (48 ≤ b p' ∧ b p' ≤ 57) := by rw [hc]; decide
    have h40 : hd (40 :: H) = 40 := rfl
    simp only [stF, if_neg hnd, if_pos hc, hcl, ho, h40, if_true, List.tail_cons, Nat.add_sub_cancel, List.replicate_zero, List.nil_append, Nat.add_zero, List.append_assoc]
  · intro stk
    have := h5 stk
    simp only [List.replicate_zero, ng, List.map_nil, List.append_nil]
    exact this
theorem RS_not {p : Nat} {D H : List Int32} {o dg0 : Nat} {v : Int32} {p' : Nat} (hp0 : p < n) (hb : b p = 33) (ho5 : o < 5) (h : RS sn b n x y z 6 6 (p + 1) D (33 :: H) (o + 1) dg0 v p') : RS sn b n x y z 6 6 p D H o dg0 (if v = 0 then 1 else 0) p' := by
  obtain ⟨h1, h2, E, opl, j, dg, h3, h4, h5, h6, h7⟩ := h
  have hop : opl = [] := by
    cases opl with
    | nil => rfl
    | cons a t => exact absurd (h4 a List.mem_cons_self) (by have := rk_le a; omega)
  subst hop
  refine ⟨by omega, h2, E, [], j + 1, dg, ?_, h4, ?_, h6, fun _ => Or.inl (by have := rk_le (b p'); omega)⟩
  · have e0 : po sn b (n - p) p D H o dg0 true = po sn b (n - (p + 1)) (p + 1) D (33 :: H) (o + 1) dg0 true := by
      rw [po_B hp0, stB_open (Or.inl hb) ho5, hb]
    rw [e0, h3]
    have e1 : List.replicate j (33 : Int32) ++ ([] ++ 33 :: H) = List.replicate (j + 1) 33 ++ ([] ++ H) := by
      rw [List.replicate_succ']
      simp
    rw [e1, show o + 1 + j = o + (j + 1) by omega]
  · intro stk
    have e1 : E ++ List.replicate (j + 1) (-33) ++ ng [] = (E ++ List.replicate j (-33) ++ ng []) ++ [-33] := by
      rw [List.replicate_succ']
      simp [ng]
    rw [e1, ev_app, h5, ev_one]
    rfl
theorem nameOf_eq (c : Int32) (sn : Nat) (hs : sn < 2) : f_X12_nameOf c (nI sn) = some (match nameK sn c with | some k => nI k | none => -1) := by
  unfold f_X12_nameOf nameK
  match sn, hs with
  | 0, _ =>
    rw [if_pos (show nI 0 = 0 from rfl)]
    by_cases h1 : c = 97
    · rw [if_pos h1, if_pos h1]; rfl
    · rw [if_neg h1, if_neg h1, if_pos rfl]
      by_cases h2 : c = 112
      · rw [if_pos h2, if_pos h2]; rfl
      · rw [if_neg h2, if_neg h2]
        by_cases h3 : c = 109
        · rw [if_pos h3, if_pos h3]; rfl
        · rw [if_neg h3, if_neg h3]
  | 1, _ =>
    rw [if_neg (show ¬ nI 1 = 0 by decide)]
    by_cases h1 : c = 97
    · rw [if_pos h1, if_pos h1]; rfl
    · rw [if_neg h1, if_neg h1, if_neg (show ¬ (1 : Nat) = 0 by decide)]
      by_cases h2 : c = 114
      · rw [if_pos h2, if_pos h2]; rfl
      · rw [if_neg h2, if_neg h2]
        by_cases h3 : c = 99
        · rw [if_pos h3, if_pos h3]; rfl
        · rw [if_neg h3, if_neg h3]
theorem nameK_lt {sn k : Nat} {c : Int32} (h : nameK sn c = some k) : k < 3 ∧ ¬ (c = 33 ∨ c = 40) ∧ ¬ (48 ≤ c ∧ c ≤ 57) := by
  have hc : (c = 97 ∨ c = 112 ∨ c = 109 ∨ c = 114 ∨ c = 99) ∧ k < 3 := by
    unfold nameK at h
    by_cases h1 : c = 97
    · rw [if_pos h1] at h; cases h; exact ⟨Or.inl h1, by decide⟩
    · rw [if_neg h1] at h
      by_cases h2 : sn = 0
      · rw [if_pos h2] at h
        by_cases h3 : c = 112
        · rw [if_pos h3] at h; cases h; exact ⟨Or.inr (Or.inl h3), by decide⟩
        · rw [if_neg h3] at h
          by_cases h4 : c = 109
          · rw [if_pos h4] at h; cases h; exact ⟨Or.inr (Or.inr (Or.inl h4)), by decide⟩
          · rw [if_neg h4] at h; cases h
      · rw [if_neg h2] at h
        by_cases h3 : c = 114
        · rw [if_pos h3] at h; cases h; exact ⟨Or.inr (Or.inr (Or.inr (Or.inl h3))), by decide⟩
        · rw [if_neg h3] at h
          by_cases h4 : c = 99
          · rw [if_pos h4] at h; cases h; exact ⟨Or.inr (Or.inr (Or.inr (Or.inr h4))), by decide⟩
          · rw [if_neg h4] at h; cases h
  refine ⟨hc.2, ?_⟩
  rcases hc.1 with rfl | rfl | rfl | rfl | rfl <;> decide
theorem RS_name {p k : Nat} {D H : List Int32} {o dg0 : Nat} (hp0 : p < n) (hb : nameK sn (b p) = some k) (hxyz : x = names 0 ∧ y = names 1 ∧ z = names 2) : RS sn b n x y z 6 6 p D H o dg0 (names k) (p + 1) := by
  obtain ⟨hk, hc1, hc2⟩ := nameK_lt hb
  refine ⟨by omega, by omega, [(-1) - nI k], [], 0, 0, ?_, fun q hq => absurd hq List.not_mem_nil, ?_, fun _ _ => Or.inl rfl, fun _ => Or.inl (by have := rk_le (b (p + 1)); omega)⟩
  · rw [po_B hp0]
    simp only [stB, if_neg hc1, if_neg hc2, hb, List.replicate_zero, List.nil_append, Nat.add_zero]
  · intro stk
    obtain ⟨rfl, rfl, rfl⟩ := hxyz
    match k, hk with
    | 0, _ => rfl
    | 1, _ => rfl
    | 2, _ => rfl
end PE
