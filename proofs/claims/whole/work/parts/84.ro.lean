/-! the calls: text -/
theorem po_some {u : Nat} {b : Nat → Int32} : ∀ {n p : Nat} {D H : List Int32} {o dg : Nat} {w : Bool} {q : Nat} {code : List Int32}, po u b n p D H o dg w = (q, some code) → q = 0 := by
  intro n
  induction n with
  | zero =>
    intro p D H o dg w q code h
    unfold po at h
    dsimp only at h
    split at h
    · cases h; rfl
    · cases h
  | succ n ih =>
    intro p D H o dg w q code h
    unfold po at h
    split at h
    · cases h
    · exact ih h
section RO
variable {R C ho ou eb nt T tl wn : Nat} {a p kN mN : Nat → Nat} {Lm Ls : List Int32} {z : Int32} {told tape d er fo : Nat → Int32}

theorem MD_text (hM : MDp R C ho ou eb nt T tl wn a p kN mN Lm Ls z told tape d) (htl : tl ≤ 50) {u : Nat} (hu : u < 2) {code : List Int32} (hp : po u tape tl 0 [] [] 0 0 true = (0, some code)) {d' : Nat → Int32}
    (h7 : d' 7 = 0) (h72 : d' (72 + u) = nI tl) (hk : ∀ k, k < tl → d' (94 + 50 * u + k) = d (194 + k)) (hs : ∀ j, j ≠ 7 → j ≠ 72 + u → ¬ (94 + 50 * u ≤ j ∧ j < 94 + 50 * u + tl) → d' j = d j) :
    MDp R C ho ou eb nt T 0 wn a p kN mN (if u = 0 then code else Lm) (if u = 0 then Ls else code) z told tape d' := by
  obtain ⟨⟨w0, w1, w3, w4, w9, wa, wp⟩, q2, q5, q6, q7, q8, hT, hL0, hL1, ht, htp⟩ := hM
  have h0 : 0 < tl := by
    refine Nat.pos_of_ne_zero fun q => ?_
    subst q
    rw [po_0] at hp
    cases hp
  have hn : ∀ j, j ≠ 7 → (j < 72 ∨ (74 ≤ j ∧ j < 94) ∨ 194 ≤ j) → d' j = d j := fun j h1 h2 => hs j h1 (by omega) (by omega)
  have hnew : LM u code d' := Or.inr ⟨tl, tape, h0, h72, ⟨htl, by omega, fun i hi => by rw [hk i hi]; exact (htp i (by omega)).1, fun i hi => (htp i (by omega)).2⟩, hp⟩
  refine ⟨⟨by rw [hn _ (by omega) (by omega)]; exact w0, by rw [hn _ (by omega) (by omega)]; exact w1, by rw [hn _ (by omega) (by omega)]; exact w3, by rw [hn _ (by omega) (by omega)]; exact w4, by rw [hn _ (by omega) (by omega)]; exact w9, fun j hj => by rw [hn _ (by omega) (by omega)]; exact wa j hj, fun j hj => by rw [hn _ (by omega) (by omega)]; exact wp j hj⟩, by rw [hn 2 (by omega) (by omega)]; exact q2, by rw [hn 5 (by omega) (by omega)]; exact q5, by rw [hn 6 (by omega) (by omega)]; exact q6, h7, by rw [hn 8 (by omega) (by omega)]; exact q8, fun j hj => ⟨by rw [hn _ (by omega) (by omega)]; exact (hT j hj).1, by rw [hn _ (by omega) (by omega)]; exact (hT j hj).2⟩, ?_, ?_, fun j hj => by rw [hn _ (by omega) (by omega)]; exact ht j hj, fun j hj => by rw [hn _ (by omega) (by omega)]; exact htp j hj⟩
  · match u, hu with
    | 0, _ => exact hnew
    | 1, _ => exact LM_mid (by decide) hL0 (hs _ (by omega) (by omega) (by omega)) (fun i hi => hs _ (by omega) (by omega) (by omega))
  · match u, hu with
    | 0, _ => exact LM_mid (by decide) hL1 (hs _ (by omega) (by omega) (by omega)) (fun i hi => hs _ (by omega) (by omega) (by omega))
    | 1, _ => exact hnew
theorem MD_emp (hM : MDp R C ho ou eb nt T tl wn a p kN mN Lm Ls z told tape d) : MDp R C ho ou eb nt T 0 wn a p kN mN Lm Ls z told tape (upd d 7 0) := by
  have hn : ∀ j, j ≠ 7 → upd d 7 0 j = d j := fun j hj => if_neg hj
  exact MD_low hM ((hn 5 (by omega)).trans hM.2.2.1) ((hn 6 (by omega)).trans hM.2.2.2.1) (if_pos rfl) ((hn 8 (by omega)).trans hM.2.2.2.2.2.1) (fun j hj => hn j (by omega))
theorem text_m (hO : OKp R C ho ou eb nt T tl wn a p kN mN Lm Ls) (hM : MDp R C ho ou eb nt T tl wn a p kN mN Lm Ls z told tape d) {u : Nat} (hu : u < 2) (vb va vs vf vo vi : Int32) (names : Nat → Int32) :
    (∀ q, po u tape tl 0 [] [] 0 0 true = (q, none) → ∃ x1 x2 x3 x4 x5 x6, f_X12_text (nI u) vb va vs vf vo vi d fo names = some ((-10) - nI q, x1, x2, x3, x4, x5, x6, upd d 7 0, fo) ∧ q ≤ 50) ∧
    (∀ code, po u tape tl 0 [] [] 0 0 true = (0, some code) → ∃ x1 x2 x3 x4 x5 x6 d', f_X12_text (nI u) vb va vs vf vo vi d fo names = some (1, x1, x2, x3, x4, x5, x6, d', fo) ∧ MDp R C ho ou eb nt T 0 wn a p kN mN (if u = 0 then code else Lm) (if u = 0 then Ls else code) z told tape d') := by
  have htl : tl ≤ 50 := hO.2.2.2.2.2.2.2.2.2.2.2.1
  have h7 : d 7 = nI tl := hM.2.2.2.2.1
  have htp := hM.2.2.2.2.2.2.2.2.2.2
  have hTP : TP tape tl 194 (upd d 7 0) := ⟨htl, by omega, fun i hi => (if_neg (by omega)).trans (htp i (by omega)).1, fun i hi => (htp i (by omega)).2⟩
  have e72 : (72 : Int32) + nI u = nI (72 + u) := nI_add 72 _
  have h194 : ∀ {A B : Type} (F : Int32 → Option A), F (nI 194) = F 194 := fun F => rfl
  rcases worked_eq (sn := u) hTP hu names vb va vs vf vo vi with ⟨code, v, at', op, w1, w2, w3⟩ | ⟨q, v, at', op, w0, w1, w2⟩
  · have w2' : f_X12_worked 194 (nI tl) (nI u) vb va vs vf vo vi (upd d 7 0) names = some (v, nI 194, at', nI tl, -1, op, nI u) := w2
    constructor
    · intro q hq
      rw [w1] at hq
      cases hq
    · intro code' hc
      rw [w1] at hc
      cases hc
      obtain ⟨d', g1, g2, g3⟩ := text_70 u tl hu htl (nI 194) at' (nI tl) (-1) op (nI u) fo tl gFuel 0 (upd (upd d 7 0) (72 + u) (nI tl)) (by omega) (by unfold gFuel; omega)
      rw [nI_0] at g1
      refine ⟨nI 194, at', nI tl, -1, op, nI u, d', ?_, MD_text hM htl hu w1 ?_ ?_ ?_ ?_⟩
      · unfold f_X12_text
        rw [in_1, px_kb, bI_nI hu (by decide), i10]
        simp only [c_7, z_7, px_nm, h7, w2', px_kb7, e72, ch_d (show 72 + u < 244 by omega), nI_clamp (show 72 + u < 2 ^ 31 by omega)]
        rw [if_pos (show (-1 : Int32) < 0 by decide)]
        exact g1
      · rw [g3 7 (by omega)]
        exact (if_neg (by omega)).trans (if_pos rfl)
      · rw [g3 _ (by omega)]
        exact if_pos rfl
      · intro k hk
        rw [g2 k (by omega) hk]
        exact (if_neg (by omega)).trans (if_neg (by omega))
      · intro j j1 j2 j3
        rw [g3 j (by omega)]
        exact (if_neg j2).trans (if_neg j1)
  · have w2' : f_X12_worked 194 (nI tl) (nI u) vb va vs vf vo vi (upd d 7 0) names = some (v, nI 194, at', nI tl, nI q, op, nI u) := w2
    constructor
    · intro q' hq
      rw [w1] at hq
      cases hq
      refine ⟨nI 194, at', nI tl, nI q, op, nI u, ?_, by omega⟩
      unfold f_X12_text
      rw [in_1, px_kb, bI_nI hu (by decide), i10]
      simp only [c_7, z_7, px_nm, h7, w2', px_kb7]
      rw [if_neg (nI_pos (show q < 2 ^ 31 by omega))]
    · intro code hc
      rw [w1] at hc
      cases hc
theorem m_text (hO : OKp R C ho ou eb nt T tl wn a p kN mN Lm Ls) (hM : MDp R C ho ou eb nt T tl wn a p kN mN Lm Ls z told tape d) (hE : EK er fo) {rm rs : Nat} {stM stS ansM ansS : Nat → Int32} (hRM : RP stM Lm) (hRS : RP stS Ls) (hCM : CO Lm 10 rm ansM) (hCS : CO Ls 5 rs ansS) (x : Int32) (b1 b2 b3 b4 b5 c1 c2 c3 c4 c5 : Int32) (drM heM drS heS : Nat → Int32) (vb va vs vf vo vi : Int32) (names : Nat → Int32) :
    ∃ (r : Int32) (er' fo' d' : Nat → Int32) (tl' : Nat) (Lm' Ls' : List Int32) (rm' rs' : Nat) (b1' b2' b3' b4' b5' c1' c2' c3' c4' c5' : Int32) (drM' heM' stM' drS' heS' stS' : Nat → Int32) (x1 x2 x3 x4 x5 x6 : Int32),
      f_X11_text x 0 1 er (nI tl) (nI Lm.length) (nI rm) b1 b2 b3 b4 b5 drM heM stM (nI Ls.length) (nI rs) c1 c2 c3 c4 c5 drS heS stS tape = some (r, er', nI tl', nI Lm'.length, nI rm', b1', b2', b3', b4', b5', drM', heM', stM', nI Ls'.length, nI rs', c1', c2', c3', c4', c5', drS', heS', stS') ∧
      f_X12_text x vb va vs vf vo vi d fo names = some (r, x1, x2, x3, x4, x5, x6, d', fo') ∧ EK er' fo' ∧ rm' ≤ rm + 1 ∧ rs' ≤ rs + 1 ∧ RP stM' Lm' ∧ RP stS' Ls' ∧ CO Lm' 10 rm' ansM ∧ CO Ls' 5 rs' ansS ∧
      OKp R C ho ou eb nt T tl' wn a p kN mN Lm' Ls' ∧ MDp R C ho ou eb nt T tl' wn a p kN mN Lm' Ls' z told tape d' := by
  have htl : tl ≤ 50 := hO.2.2.2.2.2.2.2.2.2.2.2.1
  have htp := hM.2.2.2.2.2.2.2.2.2.2
  obtain ⟨r, e', f', g1, g2, g3⟩ := err_1 hE
  by_cases hx : vp_in x 2
  · obtain ⟨u, hu, rfl⟩ := vp_in_of hx (by decide)
    obtain ⟨m1, m2⟩ := text_m (fo := fo) hO hM hu vb va vs vf vo vi names
    obtain ⟨o1, o2, o3, o4, o5, o6, o7, o8, o9, o10, o11, o12, o13, o14, o15, o16⟩ := id hO
    match u, hu with
    | 0, _ =>
      obtain ⟨r1, r2⟩ := read_eq (sn := 0) (n := tl) (b := tape) (tape := tape) (by decide) htl (fun _ _ => rfl) (fun i hi => (htp i (by omega)).2) (nI Lm.length) (nI rm) b1 b2 b3 b4 b5 stM drM heM
      rcases hpo : po 0 tape tl 0 [] [] 0 0 true with ⟨q, c⟩
      cases c with
      | none =>
        obtain ⟨x1, x2, x3, x4, x5, x6, m3, m4⟩ := m1 q hpo
        obtain ⟨y1, y2, y3, y4, y5, y6, y7, r3⟩ := r1 q hpo
        unfold f_X11_text
        rw [isUse_eq, px_kb, bI_in hx, i10, show f_X11_lawOf (nI 0) = some 0 from rfl, px_kb, i00, r3, px_kb11, if_pos (nI_pos' (by omega)), m3]
        exact ⟨_, er, fo, _, 0, Lm, Ls, rm, rs, _, _, _, _, _, _, _, _, _, _, _, _, _, _, _, _, _, _, _, _, _, _, rfl, rfl, hE, by omega, by omega, hRM, hRS, hCM, hCS, OK_tl hO (by omega), MD_emp hM⟩
      | some code =>
        have hq0 : q = 0 := po_some hpo
        subst hq0
        obtain ⟨x1, x2, x3, x4, x5, x6, d', m3, m4⟩ := m2 code hpo
        obtain ⟨y1, y2, y3, y4, y5, y6, y7, st', r3, r4, r5⟩ := r2 code hpo
        unfold f_X11_text
        rw [isUse_eq, px_kb, bI_in hx, i10, show f_X11_lawOf (nI 0) = some 0 from rfl, px_kb, i00, r3, px_kb11, if_neg (show ¬ (0 : Int32) ≤ -1 by decide), m3, nI_1]
        exact ⟨_, er, fo, d', 0, code, Ls, rm + 1, rs, _, _, _, _, _, _, _, _, _, _, _, _, _, _, _, _, _, _, _, _, _, _, rfl, rfl, hE, by omega, by omega, r4, hRS, CO_new hCM code, hCS, ⟨o1, o2, o3, o4, o5, o6, o7, o8, o9, o10, o11, by omega, o13, o14, r5, o16⟩, m4⟩
    | 1, _ =>
      obtain ⟨r1, r2⟩ := read_eq (sn := 1) (n := tl) (b := tape) (tape := tape) (by decide) htl (fun _ _ => rfl) (fun i hi => (htp i (by omega)).2) (nI Ls.length) (nI rs) c1 c2 c3 c4 c5 stS drS heS
      rcases hpo : po 1 tape tl 0 [] [] 0 0 true with ⟨q, c⟩
      cases c with
      | none =>
        obtain ⟨x1, x2, x3, x4, x5, x6, m3, m4⟩ := m1 q hpo
        obtain ⟨y1, y2, y3, y4, y5, y6, y7, r3⟩ := r1 q hpo
        unfold f_X11_text
        rw [isUse_eq, px_kb, bI_in hx, i10, show f_X11_lawOf (nI 1) = some 1 from rfl, px_kb, i10, r3, px_kb11, if_pos (nI_pos' (by omega)), m3]
        exact ⟨_, er, fo, _, 0, Lm, Ls, rm, rs, _, _, _, _, _, _, _, _, _, _, _, _, _, _, _, _, _, _, _, _, _, _, rfl, rfl, hE, by omega, by omega, hRM, hRS, hCM, hCS, OK_tl hO (by omega), MD_emp hM⟩
      | some code =>
        have hq0 : q = 0 := po_some hpo
        subst hq0
        obtain ⟨x1, x2, x3, x4, x5, x6, d', m3, m4⟩ := m2 code hpo
        obtain ⟨y1, y2, y3, y4, y5, y6, y7, st', r3, r4, r5⟩ := r2 code hpo
        unfold f_X11_text
        rw [isUse_eq, px_kb, bI_in hx, i10, show f_X11_lawOf (nI 1) = some 1 from rfl, px_kb, i10, r3, px_kb11, if_neg (show ¬ (0 : Int32) ≤ -1 by decide), m3, nI_1]
        exact ⟨_, er, fo, d', 0, Lm, code, rm, rs + 1, _, _, _, _, _, _, _, _, _, _, _, _, _, _, _, _, _, _, _, _, _, _, rfl, rfl, hE, by omega, by omega, hRM, r4, hCM, CO_new hCS code, ⟨o1, o2, o3, o4, o5, o6, o7, o8, o9, o10, o11, by omega, o13, o14, o15, r5⟩, m4⟩
  · unfold f_X11_text f_X12_text
    rw [isUse_eq, in_1, px_kb, px_kb, bI_out hx, i00, i00, g1, g2, px_kb2, px_kb2]
    exact ⟨r, e', f', d, tl, Lm, Ls, rm, rs, _, _, _, _, _, _, _, _, _, _, _, _, _, _, _, _, _, _, _, _, _, _, rfl, rfl, g3, by omega, by omega, hRM, hRS, hCM, hCS, hO, hM⟩
end RO
