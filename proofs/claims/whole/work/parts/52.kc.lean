/-! a stroke, by the model -/
def MW (d : Nat → Int32) (R C holes out eb : Nat) (air paste : Nat → Nat) : Prop :=
  d 0 = nI R ∧ d 1 = nI C ∧ d 3 = nI holes ∧ d 4 = nI out ∧ d 9 = nI eb ∧ (∀ j, j < 25 → d (10 + j) = nI (air j)) ∧ ∀ j, j < 25 → d (35 + j) = nI (paste j)
def MT (d : Nat → Int32) (t k m : Nat) : Prop := d (60 + 2 * t) = nI k ∧ d (60 + 2 * t + 1) = nI m
/-- only air, holes, out have changed -/
def SW (d d' : Nat → Int32) : Prop := ∀ j, ¬ (j = 3 ∨ j = 4 ∨ (10 ≤ j ∧ j < 35)) → d' j = d j
theorem SW_rfl (d : Nat → Int32) : SW d d := fun _ _ => rfl
theorem SW_trans {a b c : Nat → Int32} (h1 : SW a b) (h2 : SW b c) : SW a c := fun j hj => (h2 j hj).trans (h1 j hj)
theorem LM_same {u : Nat} (hu : u < 2) {L : List Int32} {d d' : Nat → Int32} (h : LM u L d) (hs : ∀ j, 60 ≤ j → d' j = d j) : LM u L d' := by
  rcases h with ⟨h1, h2⟩ | ⟨n, b, h0, h1, ⟨t1, t2, t3, t4⟩, h3⟩
  · exact Or.inl ⟨by rw [hs _ (by omega)]; exact h1, h2⟩
  · exact Or.inr ⟨n, b, h0, by rw [hs _ (by omega)]; exact h1, ⟨t1, t2, fun i hi => by rw [hs _ (by omega)]; exact t3 i hi, t4⟩, h3⟩
theorem SW_60 {d d' : Nat → Int32} (h : SW d d') : ∀ j, 60 ≤ j → d' j = d j := fun j hj => h j (by omega)
theorem MT_same {d d' : Nat → Int32} {t k m : Nat} (h : MT d t k m) (hs : ∀ j, 60 ≤ j → d' j = d j) : MT d' t k m := ⟨by rw [hs _ (by omega)]; exact h.1, by rw [hs _ (by omega)]; exact h.2⟩
theorem MW_air {d : Nat → Int32} {R C holes out eb : Nat} {air paste : Nat → Nat} (h : MW d R C holes out eb air paste) {c : Nat} (hc : c < 25) (v : Nat) : MW (upd d (10 + c) (nI v)) R C holes out eb (va_up air c v) paste ∧ SW d (upd d (10 + c) (nI v)) := by
  obtain ⟨h0, h1, h3, h4, h9, ha, hp⟩ := h
  have hn : ∀ j, j ≠ 10 + c → upd d (10 + c) (nI v) j = d j := fun j hj => if_neg hj
  refine ⟨⟨by rw [hn _ (by omega)]; exact h0, by rw [hn _ (by omega)]; exact h1, by rw [hn _ (by omega)]; exact h3, by rw [hn _ (by omega)]; exact h4, by rw [hn _ (by omega)]; exact h9, fun j hj => ?_, fun j hj => by rw [hn _ (by omega)]; exact hp j hj⟩, fun j hj => hn j (by omega)⟩
  by_cases e : j = c
  · subst e
    rw [va_up_at]
    exact if_pos rfl
  · rw [vu_ne _ _ e, hn _ (by omega)]
    exact ha j hj
theorem MW_out {d : Nat → Int32} {R C holes out eb : Nat} {air paste : Nat → Nat} (h : MW d R C holes out eb air paste) (v : Nat) : MW (upd d 4 (nI v)) R C holes v eb air paste ∧ SW d (upd d 4 (nI v)) := by
  obtain ⟨h0, h1, h3, h4, h9, ha, hp⟩ := h
  have hn : ∀ j, j ≠ 4 → upd d 4 (nI v) j = d j := fun j hj => if_neg hj
  exact ⟨⟨by rw [hn _ (by omega)]; exact h0, by rw [hn _ (by omega)]; exact h1, by rw [hn _ (by omega)]; exact h3, if_pos rfl, by rw [hn _ (by omega)]; exact h9, fun j hj => by rw [hn _ (by omega)]; exact ha j hj, fun j hj => by rw [hn _ (by omega)]; exact hp j hj⟩, fun j hj => hn j (by omega)⟩
theorem MW_holes {d : Nat → Int32} {R C holes out eb : Nat} {air paste : Nat → Nat} (h : MW d R C holes out eb air paste) (v : Nat) : MW (upd d 3 (nI v)) R C v out eb air paste ∧ SW d (upd d 3 (nI v)) := by
  obtain ⟨h0, h1, h3, h4, h9, ha, hp⟩ := h
  have hn : ∀ j, j ≠ 3 → upd d 3 (nI v) j = d j := fun j hj => if_neg hj
  exact ⟨⟨by rw [hn _ (by omega)]; exact h0, by rw [hn _ (by omega)]; exact h1, if_pos rfl, by rw [hn _ (by omega)]; exact h4, by rw [hn _ (by omega)]; exact h9, fun j hj => by rw [hn _ (by omega)]; exact ha j hj, fun j hj => by rw [hn _ (by omega)]; exact hp j hj⟩, fun j hj => hn j (by omega)⟩
theorem goesOut_m {d : Nat → Int32} {o g : Nat} (h4 : d 4 = nI o) (ho : o + g < 2 ^ 31) : f_X12_goesOut (nI g) d = some (upd d 4 (nI (mn (o + g)))) := by
  have c4 : ∀ {β : Type} (k : Option β), chi (4 : Int32) 244 k = k := fun k => px_in (n := 4) (by decide) (by decide) k
  have z4 : (4 : Int32).toNatClampNeg = 4 := by decide
  unfold f_X12_goesOut
  simp only [c4, px_nm, z4, h4, nI_add]
  by_cases h : o + g ≤ 99999
  · rw [if_pos (show nI (o + g) ≤ 99999 from nI_le (b := 99999) h (by decide))]
    have : mn (o + g) = o + g := by unfold mn; split <;> omega
    rw [this]
  · rw [if_neg (show ¬ nI (o + g) ≤ 99999 from nI_ge (a := 99999) (by omega) (by omega))]
    have : mn (o + g) = 99999 := by unfold mn; split <;> omega
    rw [this]; rfl
theorem kindOf_m {d : Nat → Int32} {t k m : Nat} (h : MT d t k m) (ht : t < 6) : f_X12_kindOf (nI t) d = some (nI k) ∧ f_X12_numberOf (nI t) d = some (nI m) := by
  have e : (60 : Int32) + 2 * nI t = nI (60 + 2 * t) := by
    rw [show (2 : Int32) * nI t = nI (2 * t) from pk_mul 2 t]; exact nI_add 60 _
  unfold f_X12_kindOf f_X12_numberOf
  simp only [e, px_nm, nI_1, px_in (show 60 + 2 * t < 244 by omega) (show 244 < 2 ^ 31 by decide), px_in (show 60 + 2 * t + 1 < 244 by omega) (show 244 < 2 ^ 31 by decide), nI_clamp (show 60 + 2 * t < 2 ^ 31 by omega), nI_clamp (show 60 + 2 * t + 1 < 2 ^ 31 by omega), h.1, h.2]
  exact ⟨trivial, trivial⟩
theorem nextTo_m {d : Nat → Int32} {R C : Nat} (h0 : d 0 = nI R) (h1 : d 1 = nI C) (hR : R < 6) (hC : C < 6) {c w : Nat} (hc : c < R * C) (hw : w < 4) : f_X12_nextTo (nI c) (nI w) d = some (oI (nb R C c w)) := by
  rw [nextTo_d, h0, h1]
  exact nextTo_all R hR C hC c hc w hw
def d9 (x : Int32) : Nat → Int32 := fun _ => x
theorem isOpen_d (w : Int32) (d : Nat → Int32) : f_X12_isOpen w d = f_X12_isOpen w (d9 (d 9)) := rfl
theorem isOpen_all : ∀ eb, eb < 16 → ∀ w, w < 4 → f_X12_isOpen (nI w) (d9 (nI eb)) = some (if opn eb w = 1 then 1 else 0) := by decide +kernel
theorem lets_m {d : Nat → Int32} {t k m a : Nat} (h : MT d t k m) (ht : t < 6) (hk : k < 7) (hm : m < 10) (ha : a < 100) : f_X12_letsOf (nI t) (nI a) d = some (nI (letsN k a m)) := by
  obtain ⟨e1, e2⟩ := kindOf_m h ht
  have fin : ∀ y : Nat, y < 2 ^ 31 → f_X12_letsOf_L33 (nI a) (nI y) = some (nI (if y < a then y else a)) := by
    intro y hy
    unfold f_X12_letsOf_L33
    by_cases h : y < a
    · rw [if_neg (nI_ge h (by omega)), if_pos h]
    · rw [if_pos (nI_le (by omega) hy), if_neg h]
  have f0 : f_X12_letsOf_L33 (nI a) 0 = some (nI 0) := by
    have := fin 0 (by omega)
    by_cases h : 0 < a
    · rw [if_pos h] at this; exact this
    · have h0 : a = 0 := by omega
      subst h0; rfl
  have fa : f_X12_letsOf_L33 (nI a) (nI a) = some (nI a) := by
    have := fin a (by omega)
    rwa [if_neg (Nat.lt_irrefl a)] at this
  unfold f_X12_letsOf
  simp only [e1, e2, px_kb, px_nm, nI_1]
  match k, hk with
  | 0, _ => exact f0
  | 1, _ => exact f0
  | 2, _ => exact fin (m + 1) (by omega)
  | 3, _ => exact f0
  | 4, _ => exact f0
  | 5, _ => exact fa
  | 6, _ => exact f0
theorem tears_m {d : Nat → Int32} {t k m p : Nat} (h : MT d t k m) (ht : t < 6) (hk : k < 7) (hp : p < 10) : f_X12_tearsOf (nI t) (nI p) d = some (nI (tearsN k p)) := by
  obtain ⟨e1, e2⟩ := kindOf_m h ht
  have key : ∀ k, k < 7 → ∀ p, p < 10 → ((if 3 ≤ nI p then (if nI k = 2 then some 0 else if nI k = 3 then some 0 else if nI k = 4 then some 0 else if nI k = 5 then some (1 + 0) else if nI k = 6 then (if nI p ≤ 7 then some 0 else some 1) else some 0) else (if nI k = 2 then some 1 else if nI k = 3 then some 0 else if nI k = 4 then some 0 else if nI k = 5 then some (1 + 1) else if nI k = 6 then (if nI p ≤ 7 then some 0 else some 1) else some 0) : Option Int32)) = some (nI (tearsN k p)) := by decide +kernel
  unfold f_X12_tearsOf f_X12_tearsOf_L10
  simp only [e1, px_kb]
  exact key k hk p hp
theorem reach_m {d : Nat → Int32} {t k m : Nat} (h : MT d t k m) (ht : t < 6) (hk : k < 7) (hm : m < 10) : f_X12_reachOf (nI t) d = some (nI (reachN k m)) := by
  obtain ⟨e1, e2⟩ := kindOf_m h ht
  have key : ∀ k, k < 7 → ∀ m, m < 10 → ((if nI k = 3 then some 2 else if nI k = 6 then some (2 + (nI m - nI m / 3 * 3)) else some 1 : Option Int32)) = some (nI (reachN k m)) := by decide +kernel
  unfold f_X12_reachOf
  simp only [e1, e2, px_kb, px_nm, px_chz (show ¬ (3 : Int32) = 0 by decide)]
  exact key k hk m hm
/-- what the model remembers of the moves -/
def KM (L : List Int32) (m : Nat) (ik : Int32) (mk : Nat → Int32) : Prop := ik = 0 ∨ ∀ i, i < 1000 → mk i = -1 ∨ mk i = nI (gN L (i / 10) (i % 10) m)
section KC
variable {L : List Int32} {d : Nat → Int32} {t k m : Nat} {ik : Int32}
theorem moved_m (hL : LM 0 L d) (h : MT d t k m) (ht : t < 6) {mk : Nat → Int32} (hK : KM L m ik mk) {a p : Nat} (ha : a < 100) (hp : p < 10) (vb va vs vf vo vi : Int32) (names : Nat → Int32) :
    ∃ (x1 x2 x3 x4 x5 x6 : Int32) (mk' y : Nat → Int32), f_X12_movedOf (nI t) (nI a) (nI p) vb va vs vf vo vi ik d mk names = some (nI (gN L a p m), x1, x2, x3, x4, x5, x6, mk', y) ∧ KM L m ik mk' := by
  obtain ⟨e1, e2⟩ := kindOf_m h ht
  have ei : (10 : Int32) * nI a + nI p = nI (10 * a + p) := by
    rw [show (10 : Int32) * nI a = nI (10 * a) from pk_mul 10 a, nI_add]
  obtain ⟨x1, x2, x3, x4, x5, x6, y, hg⟩ := tg_eq (u := 0) (by decide) hL (nI a) (nI p) (nI m) vb va vs vf vo vi names
  rw [(gN_eq L a p m).1] at hg
  have miss : ∃ (x1 x2 x3 x4 x5 x6 : Int32) (mk' y : Nat → Int32), f_X12_movedOf_L33 (nI t) (nI a) (nI p) d (nI (10 * a + p)) vb va vs vf vo vi mk names = some (nI (gN L a p m), x1, x2, x3, x4, x5, x6, mk', y) ∧ KM L m ik mk' := by
    unfold f_X12_movedOf_L33
    rw [e2, px_kb, show (0 : Int32) = nI 0 from rfl, hg, px_kb8, px_in (by omega) (by decide), px_nm, nI_clamp (by omega)]
    refine ⟨x1, x2, x3, x4, x5, x6, _, y, rfl, ?_⟩
    rcases hK with h0 | hK
    · exact Or.inl h0
    · refine Or.inr fun i hi => ?_
      by_cases e : i = 10 * a + p
      · subst e
        refine Or.inr ?_
        rw [show (10 * a + p) / 10 = a by omega, show (10 * a + p) % 10 = p by omega]
        exact if_pos rfl
      · rw [show upd mk (10 * a + p) (nI (gN L a p m)) i = mk i from if_neg e]
        exact hK i hi
  unfold f_X12_movedOf
  rw [px_nm, px_nm, ei]
  by_cases h0 : ik = 0
  · rw [if_pos h0]; exact miss
  · rw [if_neg h0, px_in (by omega) (by decide), nI_clamp (by omega), px_in (by omega) (by decide)]
    have hK0 := hK
    rcases hK with h9 | hK'
    · exact absurd h9 h0
    · rcases hK' (10 * a + p) (by omega) with h1 | h1
      · rw [if_pos (by rw [h1]; decide)]; exact miss
      · have hle := (gN_eq L ((10 * a + p) / 10) ((10 * a + p) % 10) m).2
        rw [if_neg (by rw [h1]; exact nI_pos (by omega)), h1, show (10 * a + p) / 10 = a by omega, show (10 * a + p) % 10 = p by omega]
        exact ⟨_, _, _, _, _, _, _, _, rfl, hK0⟩
theorem moves_m (hL : LM 0 L d) (h : MT d t k m) (ht : t < 6) (hk : k < 7) (hm : m < 10) {mk : Nat → Int32} (hK : KM L m ik mk) {a p : Nat} (ha : a < 100) (hp : p < 10) (vb va vs vf vo vi : Int32) (names : Nat → Int32) :
    ∃ (x1 x2 x3 x4 x5 x6 : Int32) (mk' y : Nat → Int32), f_X12_movesOf (nI t) (nI a) (nI p) vb va vs vf vo vi ik d mk names = some (nI (movesN k a (gN L a p m) m), x1, x2, x3, x4, x5, x6, mk', y) ∧ KM L m ik mk' := by
  obtain ⟨e1, e2⟩ := kindOf_m h ht
  obtain ⟨x1, x2, x3, x4, x5, x6, mk', y, hg, hK'⟩ := moved_m hL h ht hK ha hp vb va vs vf vo vi names
  have hgl := (gN_eq L a p m).2
  generalize gN L a p m = g at hg hgl
  refine ⟨x1, x2, x3, x4, x5, x6, mk', y, ?_, hK'⟩
  have fin : ∀ v : Nat, v < 2 ^ 31 → f_X12_movesOf_L108 (nI a) (nI v) x1 x2 x3 x4 x5 x6 mk' y = some (nI (if v < a then v else a), x1, x2, x3, x4, x5, x6, mk', y) := by
    intro v hv
    unfold f_X12_movesOf_L108
    by_cases h : v < a
    · rw [if_neg (nI_ge h (by omega)), if_pos h]
    · rw [if_pos (nI_le (by omega) hv), if_neg h]
  unfold f_X12_movesOf
  simp only [e1, e2, px_kb, hg, px_kb9, px_nm, nI_1, px_chz (show ¬ (2 : Int32) = 0 by decide), half_all (g + 1) (by omega)]
  match k, hk with
  | 0, _ =>
    rw [if_neg (show ¬ nI 0 = 1 by decide), if_neg (show ¬ nI 0 = 2 by decide), if_neg (show ¬ nI 0 = 3 by decide), if_neg (show ¬ nI 0 = 4 by decide), if_neg (show ¬ nI 0 = 5 by decide), if_neg (show ¬ nI 0 = 6 by decide)]
    exact fin g (by omega)
  | 1, _ =>
    rw [if_pos (show nI 1 = 1 from rfl)]
    exact fin (g + 1) (by omega)
  | 2, _ =>
    rw [if_neg (show ¬ nI 2 = 1 by decide), if_pos (show nI 2 = 2 from rfl)]
    exact fin 0 (by omega)
  | 3, _ =>
    rw [if_neg (show ¬ nI 3 = 1 by decide), if_neg (show ¬ nI 3 = 2 by decide), if_pos (show nI 3 = 3 from rfl)]
    exact fin a (by omega)
  | 4, _ =>
    rw [if_neg (show ¬ nI 4 = 1 by decide), if_neg (show ¬ nI 4 = 2 by decide), if_neg (show ¬ nI 4 = 3 by decide), if_pos (show nI 4 = 4 from rfl)]
    exact fin ((g + 1) / 2) (by omega)
  | 5, _ =>
    rw [if_neg (show ¬ nI 5 = 1 by decide), if_neg (show ¬ nI 5 = 2 by decide), if_neg (show ¬ nI 5 = 3 by decide), if_neg (show ¬ nI 5 = 4 by decide), if_pos (show nI 5 = 5 from rfl)]
    exact fin 0 (by omega)
  | 6, _ =>
    rw [if_neg (show ¬ nI 6 = 1 by decide), if_neg (show ¬ nI 6 = 2 by decide), if_neg (show ¬ nI 6 = 3 by decide), if_neg (show ¬ nI 6 = 4 by decide), if_neg (show ¬ nI 6 = 5 by decide), if_pos (show nI 6 = 6 from rfl)]
    by_cases h : m ≤ a
    · rw [if_pos (nI_le h (by omega)), pk_sub h]
      exact fin (a - m) (by omega)
    · rw [if_neg (nI_ge (by omega) (by omega))]
      have := fin 0 (by omega)
      have e6 : movesN 6 a g m = if a - m < a then a - m else a := rfl
      rw [e6, show a - m = 0 by omega]
      exact this
end KC
