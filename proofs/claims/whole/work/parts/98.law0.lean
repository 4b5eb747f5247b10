/-! the law's start: what the tables and the start's words give -/
theorem gD_start {args : Array Value} {s : State} (h : ∀ q ∈ gcl, (∀ w ∈ u_ws q.1 q.2.1 q.2.2, w.before args s = true) ∧ ∃ n, (Cond.instantiable q.1 n).before args s = true) : ∃ D : va_G, ∀ (c : Nat) (q : vw_C), gcl[c]? = some q → u_Kn s q.1 q.2.1 q.2.2 (D.1 c) (D.2 c) := by
  have h1 : ∀ c : Nat, ∃ (cC : ClassId) (iS : Nat → Nat), ∀ q : vw_C, gcl[c]? = some q → u_Kn s q.1 q.2.1 q.2.2 cC iS := by
    intro c
    cases hq : gcl[c]? with
    | none => exact ⟨0, fun _ => 0, fun q h => by cases h⟩
    | some q =>
      obtain ⟨h2, n, h3⟩ := h q (List.mem_of_getElem? hq)
      obtain ⟨cC, iS, hk⟩ := u_known (C := q.1) (T := q.2.1) (N := q.2.2) (n := n) h2 (fun w hw => hw) h3
      exact ⟨cC, iS, fun q' hq' => by cases hq'; exact hk⟩
  exact ⟨(fun c => Classical.choose (h1 c), fun c => Classical.choose (Classical.choose_spec (h1 c))), fun c q hq => Classical.choose_spec (Classical.choose_spec (h1 c)) q hq⟩
theorem gA_int {args : Array Value} {s : State} (h : (Cond.arrayClass .int).before args s = true) : ∃ cA, ArrOfT s cA .int ∧ va_RA s cA .int := by
  obtain ⟨cA, k, comp, h1, h2, h3⟩ := Cond.arrayClass_spec h
  exact ⟨cA, fun n z => ⟨fun k h => (by cases h), k, h2, comp, h3⟩, h1⟩
theorem gA_tool {args : Array Value} {s : State} {C : String} (h : (Cond.arrayOver (.object C)).before args s = true) : ∃ cA, ArrOfT s cA (.object C) ∧ va_RA s cA (.object C) := by
  obtain ⟨comp, cA, k, h1, h2, h3, h4, h5⟩ := Cond.arrayOver_spec h
  exact ⟨cA, fun n z => ⟨fun k h => (by cases h), k, h3, comp, h4⟩, k, comp, h3, h4, h1, h5⟩
theorem gA_rows {args : Array Value} {s : State} (h : (Cond.arrayOver (.array .int)).before args s = true) : ∃ cA, ArrOfT s cA (.array .int) ∧ va_RA s cA (.array .int) := by
  unfold Cond.before Cond.holds at h
  simp only [Cond.value, beq_iff_eq] at h
  cases hc : s.vm.findClass (FieldType.array .int).toString with
  | none => simp [hc] at h
  | some comp =>
    simp only [hc, Option.bind_some, Option.bind_eq_some_iff, Option.map_eq_some_iff] at h
    obtain ⟨cA, hx, k, hk, hm⟩ := h
    split at hm
    · rename_i component ty hkk
      rw [Bool.and_eq_true, decide_eq_true_eq, decide_eq_true_eq] at hm
      obtain ⟨rfl, h2⟩ := hm
      exact ⟨cA, fun n z => ⟨fun k h => (by cases h), k, hk, component, hkk⟩, h2⟩
    · cases hm
theorem gNests_on : ∀ w ∈ gNests, w.onTables = true := by decide +kernel
theorem gK_start {args : Array Value} {s : State} (h : ∀ q ∈ gcl, (∀ w ∈ u_ws q.1 q.2.1 q.2.2, w.before args s = true) ∧ ∃ n, (Cond.instantiable q.1 n).before args s = true) (h1 : (Cond.arrayClass .int).before args s = true) (h2 : (Cond.arrayOver (.object "PaperBubbles$Tool")).before args s = true) (h3 : (Cond.arrayOver (.array .int)).before args s = true) (hN : ∀ w ∈ gNests, w.before args s = true) :
    ∃ (D : va_G) (c0 c1 c2 : ClassId), ∀ c : Nat → ClassId, c 0 = c0 → c 1 = c1 → c 2 = c2 → gK D c s := by
  obtain ⟨D, hD⟩ := gD_start h
  obtain ⟨c0, a0, b0⟩ := gA_int h1
  obtain ⟨c1, a1, b1⟩ := gA_tool h2
  obtain ⟨c2, a2, b2⟩ := gA_rows h3
  refine ⟨D, c0, c1, c2, fun c e0 e1 e2 => ⟨⟨hD, fun k q hk => ?_⟩, fun w hw => va_Nw.of (gNests_on w hw) (hN w hw)⟩⟩
  match k, hk with
  | 0, hk => cases hk; rw [e0]; exact ⟨a0, b0⟩
  | 1, hk => cases hk; rw [e1]; exact ⟨a1, b1⟩
  | 2, hk => cases hk; rw [e2]; exact ⟨a2, b2⟩
def gTm (i : Nat) : Term := if i = 0 then .string "PaperBubbles$Law" 28 else .string "PaperBubbles$Law" 30
theorem gS_start {args : Array Value} {s : State} (hgv : (Jvm.Cond.and given_1 narrow_1).before args s = true) :
    ∃ adK adV : Nat → Nat, vk_S 2 gLen gByt adK adV (fun q => s.heap.size ≤ q) s s.heap ∧ ∀ i : Nat, i < 2 → (gTm i).eval args s none [] s = some (.ref (adK i)) := by
  have hs := flat_of_before _ hgv
  refine vk_Sof (tm := gTm) (fun i hi => ?_) (fun i hi => ?_) (fun i hi => ?_) (fun i hi => ?_) (fun i hi => ?_) (fun i hi j hj => ?_) (fun i j hi hj hij => ?_) (fun a ha h => absurd ha (Nat.not_lt.mpr h))
  · match i, hi with
    | 0, _ => decide
    | 1, _ => decide
  · match i, hi with
    | 0, _ => exact hs _ (by decide +kernel)
    | 1, _ => exact hs _ (by decide +kernel)
  · match i, hi with
    | 0, _ => exact hs _ (by decide +kernel)
    | 1, _ => exact hs _ (by decide +kernel)
  · match i, hi with
    | 0, _ => exact hs _ (by decide +kernel)
    | 1, _ => exact hs _ (by decide +kernel)
  · match i, hi with
    | 0, _ => exact hs (Cond.eq (.length (.field (.string "PaperBubbles$Law" 28) "java/lang/String" "value" "[B")) (.int 3)) (by decide +kernel)
    | 1, _ => exact hs (Cond.eq (.length (.field (.string "PaperBubbles$Law" 30) "java/lang/String" "value" "[B")) (.int 3)) (by decide +kernel)
  · match i, hi, j, hj with
    | 0, _, 0, _ => exact hs (Cond.eq (.elem (.field (.string "PaperBubbles$Law" 28) "java/lang/String" "value" "[B") (.int 0)) (.int 97)) (by decide +kernel)
    | 0, _, 1, _ => exact hs (Cond.eq (.elem (.field (.string "PaperBubbles$Law" 28) "java/lang/String" "value" "[B") (.int 1)) (.int 112)) (by decide +kernel)
    | 0, _, 2, _ => exact hs (Cond.eq (.elem (.field (.string "PaperBubbles$Law" 28) "java/lang/String" "value" "[B") (.int 2)) (.int 109)) (by decide +kernel)
    | 1, _, 0, _ => exact hs (Cond.eq (.elem (.field (.string "PaperBubbles$Law" 30) "java/lang/String" "value" "[B") (.int 0)) (.int 97)) (by decide +kernel)
    | 1, _, 1, _ => exact hs (Cond.eq (.elem (.field (.string "PaperBubbles$Law" 30) "java/lang/String" "value" "[B") (.int 1)) (.int 114)) (by decide +kernel)
    | 1, _, 2, _ => exact hs (Cond.eq (.elem (.field (.string "PaperBubbles$Law" 30) "java/lang/String" "value" "[B") (.int 2)) (.int 99)) (by decide +kernel)
  · match i, hi, j, hj with
    | 0, _, 0, _ => exact absurd rfl hij
    | 1, _, 1, _ => exact absurd rfl hij
    | 0, _, 1, _ => exact Or.inl (hs (Cond.not (Cond.eq (.string "PaperBubbles$Law" 28) (.string "PaperBubbles$Law" 30))) (by decide +kernel))
    | 1, _, 0, _ => exact Or.inr (hs (Cond.not (Cond.eq (.string "PaperBubbles$Law" 28) (.string "PaperBubbles$Law" 30))) (by decide +kernel))
theorem gKC_start {args : Array Value} {s : State} (hgv : (Jvm.Cond.and given_1 narrow_1).before args s = true) (h : ∀ q ∈ gcl, (∀ w ∈ u_ws q.1 q.2.1 q.2.2, w.before args s = true) ∧ ∃ n, (Cond.instantiable q.1 n).before args s = true) (h1 : (Cond.arrayClass .int).before args s = true) (h2 : (Cond.arrayOver (.object "PaperBubbles$Tool")).before args s = true) (h3 : (Cond.arrayOver (.array .int)).before args s = true) (hN : ∀ w ∈ gNests, w.before args s = true)
    (hr1 : (Cond.stringRef "PaperBubbles$Law" 28 "apm").before args s = true) (hr2 : (Cond.stringRef "PaperBubbles$Law" 30 "arc").before args s = true) (hc : ∀ C ∈ gCastL, (Cond.castable C "PaperBubbles$Tool").before args s = true) (hl : (Cond.laysStatic "java/lang/String" "COMPACT_STRINGS" "Z").before args s = true) (hi : (Cond.initialized "java/lang/String").before args s = true) :
    ∃ (D : va_G) (c : Nat → ClassId), gKC D c s ∧ gS c (fun q => s.heap.size ≤ q) s := by
  obtain ⟨D, c0, c1, c2, hK⟩ := gK_start h h1 h2 h3 hN
  obtain ⟨adK, adV, hS, hT⟩ := gS_start hgv
  have hz := flat_of_before _ hgv (Cond.eq (.static "java/lang/String" "COMPACT_STRINGS" "Z") (.int 1)) (by decide +kernel)
  have hZ : va_Z "java/lang/String" "COMPACT_STRINGS" "Z" (.int 1) (fun q => s.heap.size ≤ q) s s.heap := va_Zof hl hi (va_eqv hz rfl) (fun a ha h => absurd ha (Nat.not_lt.mpr h))
  refine ⟨D, fun k => if k = 0 then c0 else if k = 1 then c1 else if k = 2 then c2 else if k = 10 then adK 0 else if k = 11 then adK 1 else if k = 20 then adV 0 else adV 1, ⟨hK _ rfl rfl rfl, va_AO.of h2, va_AOA.of h3, vk_R.of hr1 (hT 0 (by decide)), vk_R.of hr2 (hT 1 (by decide)), fun C hC => va_Nw.of rfl (hc C hC)⟩, ⟨fun i hi => ?_, fun i j hi hj hij => ?_⟩, hZ⟩
  · match i, hi with
    | 0, _ => exact hS.1 0 (by decide)
    | 1, _ => exact hS.1 1 (by decide)
  · match i, hi, j, hj with
    | 0, _, 0, _ => rfl
    | 1, _, 1, _ => rfl
    | 0, _, 1, _ => exact hS.2 0 1 (by decide) (by decide) hij
    | 1, _, 0, _ => exact hS.2 1 0 (by decide) (by decide) hij
section GC2
variable {p : Program} {l : Launch} {e : Env} {R : Room} {s : State} {m : MethodId} {below : List Frame} {meth : Method} {co : Code} {H : Heap} {locs : List Loc} {Q : State → Prop} {D : va_G} {c : Nat → ClassId} {av : List Value} {w1 ws wc wr : va_W} {A : Nat → Prop} {cc : ByteArray} {maxL pc : Nat} {Ts : List Cond} {own : String} {ls : Array Slot} {st rest : List Value} {W1 : (Nat → Nat) → va_W} {mc ms cells slots : Nat}
theorem gCallIc {ws2 : va_W} {ms : List (Option Nat)} {a : Array Value} {r : Int32} {isC : List Nat} (hP : va_P D gcl ws H) (hD : va_D A ws) (hS : va_S A s.heap H locs) (hA : ∀ q, s.heap.size ≤ q → A q) (hZ : gZip ws isC wc) (hM : gOkM isC ms = true) (hN : gNew w1 ws ws2 ms)
    (hr : va_Run p l e R s m av.toArray below meth co H locs cells slots 0 0 (F0 m pc ls st) rest (va_Qi (fun (r' : Int32) (_ : Unit) => r' = r) (gAt D w1 (va_A wc H.size)) (va_A wc H.size) a) (va_A wc H.size))
    (kk : ∀ (H1 : Heap) (locs1 : List Loc), va_P D gcl ws2 H1 → va_D A ws2 → va_S A s.heap H1 locs1 → W p l e R s m av.toArray below meth co H1 locs1 cells slots Q (F0 m (pc + 3) ls (.int r :: rest))) : W p l e R s m av.toArray below meth co H locs cells slots Q (F0 m pc ls st) := by
  have hC := gZip_map hZ
  have hF := gFree hD hS hA hC
  refine va_calli hr hS (fun q _ h => hF q h) hF (fun r' u t H1 locs1 ht hvm hw hB hz hk hS1 => ?_)
  subst hw
  obtain ⟨hP1, hD1⟩ := hB
  rw [ht] at hP1
  obtain ⟨hP2, hD2⟩ := gJoin hP hD hC hM hN hk hF hP1 hD1
  exact kk H1 locs1 hP2 hD2 hS1
end GC2
