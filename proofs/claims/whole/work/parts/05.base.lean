/-- the words of nest mates -/
def gNests : List Cond := [.fieldLinkNest "PaperBubbles" 101 "PaperBubbles$Wall" "air" "[I" "PaperBubbles",
  .fieldLinkNest "PaperBubbles" 104 "PaperBubbles$Wall" "paste" "[I" "PaperBubbles",
  .fieldLinkNest "PaperBubbles" 107 "PaperBubbles$State" "seen" "LPaperBubbles$Law;" "PaperBubbles",
  .fieldLinkNest "PaperBubbles" 129 "PaperBubbles$Wall" "open" "[I" "PaperBubbles",
  .fieldLinkNest "PaperBubbles" 132 "PaperBubbles$State" "tools" "I" "PaperBubbles",
  .fieldLinkNest "PaperBubbles" 136 "PaperBubbles$State" "kind" "[I" "PaperBubbles",
  .fieldLinkNest "PaperBubbles" 139 "PaperBubbles$State" "m" "[I" "PaperBubbles",
  .fieldLinkNest "PaperBubbles" 152 "PaperBubbles$State" "moved" "LPaperBubbles$Law;" "PaperBubbles",
  .fieldLinkNest "PaperBubbles" 173 "PaperBubbles$State" "tapeLength" "I" "PaperBubbles",
  .fieldLinkNest "PaperBubbles" 187 "PaperBubbles$State" "tape" "[I" "PaperBubbles",
  .fieldLinkNest "PaperBubbles" 198 "PaperBubbles$Wall" "night" "I" "PaperBubbles",
  .fieldLinkNest "PaperBubbles" 260 "PaperBubbles$State" "z" "I" "PaperBubbles",
  .fieldLinkNest "PaperBubbles" 279 "PaperBubbles$Voice" "length" "I" "PaperBubbles",
  .fieldLinkNest "PaperBubbles" 282 "PaperBubbles$Voice" "bodies" "[I" "PaperBubbles",
  .fieldLinkNest "PaperBubbles" 306 "PaperBubbles$State" "waiting" "I" "PaperBubbles",
  .fieldLinkNest "PaperBubbles" 309 "PaperBubbles$State" "told" "[I" "PaperBubbles",
  .fieldLinkNest "PaperBubbles" 312 "PaperBubbles$Wall" "holes" "I" "PaperBubbles",
  .fieldLinkNest "PaperBubbles" 315 "PaperBubbles$Wall" "out" "I" "PaperBubbles",
  .fieldLinkNest "PaperBubbles" 86 "PaperBubbles$State" "wall" "LPaperBubbles$Wall;" "PaperBubbles",
  .fieldLinkNest "PaperBubbles$Hard" 35 "PaperBubbles$Voice" "n" "I" "PaperBubbles",
  .fieldLinkNest "PaperBubbles$Tool" 13 "PaperBubbles$Voice" "n" "I" "PaperBubbles",
  .fieldLinkNest "PaperBubbles$Tool" 23 "PaperBubbles$Voice" "m" "I" "PaperBubbles",
  .methodLinkNest "PaperBubbles" 23 ⟨"PaperBubbles$Tool", "<init>", "()V"⟩ "PaperBubbles",
  .methodLinkNest "PaperBubbles" 26 ⟨"PaperBubbles$Brush", "<init>", "()V"⟩ "PaperBubbles",
  .methodLinkNest "PaperBubbles" 29 ⟨"PaperBubbles$Needle", "<init>", "()V"⟩ "PaperBubbles",
  .methodLinkNest "PaperBubbles" 32 ⟨"PaperBubbles$Roller", "<init>", "()V"⟩ "PaperBubbles",
  .methodLinkNest "PaperBubbles" 35 ⟨"PaperBubbles$Soft", "<init>", "()V"⟩ "PaperBubbles",
  .methodLinkNest "PaperBubbles" 38 ⟨"PaperBubbles$Knife", "<init>", "()V"⟩ "PaperBubbles",
  .methodLinkNest "PaperBubbles" 41 ⟨"PaperBubbles$Hard", "<init>", "()V"⟩ "PaperBubbles",
  .methodLinkNest "PaperBubbles" 48 ⟨"PaperBubbles$Voice", "<init>", "()V"⟩ "PaperBubbles",
  .methodLinkNest "PaperBubbles$Brush" 1 ⟨"PaperBubbles$Tool", "<init>", "()V"⟩ "PaperBubbles",
  .methodLinkNest "PaperBubbles$Hard" 1 ⟨"PaperBubbles$Roller", "<init>", "()V"⟩ "PaperBubbles",
  .methodLinkNest "PaperBubbles$Knife" 1 ⟨"PaperBubbles$Needle", "<init>", "()V"⟩ "PaperBubbles",
  .methodLinkNest "PaperBubbles$Law" 58 ⟨"PaperBubbles", "within", "(III)Z"⟩ "PaperBubbles",
  .methodLinkNest "PaperBubbles$Needle" 1 ⟨"PaperBubbles$Tool", "<init>", "()V"⟩ "PaperBubbles",
  .methodLinkNest "PaperBubbles$Roller" 1 ⟨"PaperBubbles$Tool", "<init>", "()V"⟩ "PaperBubbles",
  .methodLinkNest "PaperBubbles$Soft" 1 ⟨"PaperBubbles$Brush", "<init>", "()V"⟩ "PaperBubbles",
  .methodLinkNest "PaperBubbles$State" 69 ⟨"PaperBubbles", "within", "(III)Z"⟩ "PaperBubbles",
  .methodLinkNest "PaperBubbles$Wall" 59 ⟨"PaperBubbles", "isWay", "(I)Z"⟩ "PaperBubbles"]
def gN (U : State) : Prop := ∀ w ∈ gNests, va_Nw w U
theorem gN_same {u U : State} (h : u.vm = U.vm) (hN : gN u) : gN U := by
  intro w hw
  have h1 := hN w hw
  refine va_Nw.same ?_ h h1
  have hall : gNests.all (fun w => w.onTables) = true := by decide +kernel
  exact List.all_eq_true.mp hall w hw
def gIsNest (w : Cond) : Prop := (∃ a i b n d h, w = .fieldLinkNest a i b n d h) ∨ ∃ a i x h, w = .methodLinkNest a i x h
theorem gNests_are : ∀ w ∈ gNests, gIsNest w := by
  intro w hw
  simp only [gNests, List.mem_cons, List.not_mem_nil, or_false] at hw
  repeat' (rcases hw with rfl | hw)
  all_goals first
    | exact Or.inl ⟨_, _, _, _, _, _, rfl⟩
    | exact Or.inr ⟨_, _, _, _, rfl⟩
    | (subst hw; first | exact Or.inl ⟨_, _, _, _, _, _, rfl⟩ | exact Or.inr ⟨_, _, _, _, rfl⟩)
theorem gN_warm {s U : State} (hW : s.WarmedH U.vm) (hN : gN s) : gN U := by
  intro w hw
  have h1 := hN w hw
  rcases gNests_are w hw with ⟨a, i, b, n, d, h, rfl⟩ | ⟨a, i, x, h, rfl⟩
  · exact va_Nw.warmF hW h1
  · exact va_Nw.warmM hW h1
/-- the classes of the worlds -/
abbrev gcl : List vw_C := [(RX0, TX0, 0), (RX1, TX1, 0), (RX2, TX2, 0), (RX3, TX3, 14), (RX4, TX4, 0), (RX5, TX5, 0), (RX6, TX6, 0), (RX7, TX7, 10), (RX8, TX8, 0), (RX9, TX9, 4), (RX10, TX10, 11), (RX11, TX11, 11), (RX12, TX12, 26)]
abbrev gT (c : Nat → ClassId) : List (ClassId × FieldType) := [(c 0, .int), (c 1, .object "PaperBubbles$Tool"), (c 2, .array .int)]
def gK (D : va_G) (c : Nat → ClassId) (U : State) : Prop := va_K D gcl (gT c) U ∧ gN U
theorem gK_warm {D : va_G} {c : Nat → ClassId} {s U : State} (hW : s.WarmedH U.vm) (h : gK D c s) : gK D c U := ⟨va_K.moved hW.alike h.1, gN_warm hW h.2⟩
theorem gK_call {D : va_G} {c : Nat → ClassId} {U : State} {g : JFrame} {mk : MethodId} {a : Array Value} (h : gK D c U) : gK D c (U.calling g mk a) := ⟨va_K.moved (u := U) (U := U.calling g mk a) (Vm.Alike.refl U.vm) h.1, gN_same (u := U) (U := U.calling g mk a) rfl h.2⟩
/-- what a method's start gives -/
def gF (p : Program) (s : State) (m : MethodId) (meth : Method) (co : Code) (cc : ByteArray) (maxL : Nat) (rt : Option FieldType) (Ts : List Cond) (own : String) (av : List Value) : Prop :=
  p.tables.exec = Jvm.exec ∧ co.code = cc ∧ meth.sig.returnType = rt ∧ (∀ w ∈ Ts, w.before av.toArray s = true) ∧ s.vm.findClass own = some m.cls ∧ meth.locks = false ∧ co.maxLocals = maxL
def gPre (D : va_G) (c : Nat → ClassId) (w0 : va_W) (sz : Nat) : State → Prop := fun U => U.heap.size = sz ∧ va_P D gcl w0 U.heap ∧ gK D c U ∧ va_D (fun _ => True) w0
def gAt (D : va_G) (w1 : va_W) (A : Nat → Prop) : Unit → State → Prop := fun _ t => va_P D gcl w1 t.heap ∧ va_D A w1
/-- a contract: no cell is made; the world w0 becomes w1, the answer is r -/
def gMI (l : Launch) (y : MethodName) (wsy : List Cond) (rm : Room) (D : va_G) (c : Nat → ClassId) (av : List Value) (w0 w1 : va_W) (r : Int32) : Prop :=
  ∀ sz : Nat, Met l y wsy rm (va_Pc av (gPre D c w0 sz)) (va_Qi (fun (r' : Int32) (_ : Unit) => r' = r) (gAt D w1 (va_A w0 sz)) (va_A w0 sz)) 0 0 (va_A w0 sz)
def gMV (l : Launch) (y : MethodName) (wsy : List Cond) (rm : Room) (D : va_G) (c : Nat → ClassId) (av : List Value) (w0 w1 : va_W) : Prop :=
  ∀ sz : Nat, Met l y wsy rm (va_Pc av (gPre D c w0 sz)) (va_Qv (fun (_ : Unit) => True) (gAt D w1 (va_A w0 sz)) (va_A w0 sz)) 0 0 (va_A w0 sz)
def gMR (l : Launch) (y : MethodName) (wsy : List Cond) (rm : Room) (D : va_G) (c : Nat → ClassId) (av : List Value) (w0 w1 : va_W) (r : Option Nat) : Prop :=
  ∀ sz : Nat, Met l y wsy rm (va_Pc av (gPre D c w0 sz)) (va_Qq (fun (r' : Option Nat) (_ : Unit) => r' = r) (gAt D w1 (va_A w0 sz)) (va_A w0 sz)) 0 0 (va_A w0 sz)
abbrev gQI (D : va_G) (w1 : va_W) (r : Int32) (A : Nat → Prop) (below : List Frame) (av : List Value) (s : State) : State → Prop := MQ below (va_Qi (fun (r' : Int32) (_ : Unit) => r' = r) (gAt D w1 A) A) av.toArray s 0 0 A
abbrev gQV (D : va_G) (w1 : va_W) (A : Nat → Prop) (below : List Frame) (av : List Value) (s : State) : State → Prop := MQ below (va_Qv (fun (_ : Unit) => True) (gAt D w1 A) A) av.toArray s 0 0 A
abbrev gQR (D : va_G) (w1 : va_W) (r : Option Nat) (A : Nat → Prop) (below : List Frame) (av : List Value) (s : State) : State → Prop := MQ below (va_Qq (fun (r' : Option Nat) (_ : Unit) => r' = r) (gAt D w1 A) A) av.toArray s 0 0 A
section G1
variable {l : Launch} {y : MethodName} {wsy ws' : List Cond} {rm : Room} {D : va_G} {c : Nat → ClassId} {av : List Value} {w0 w1 : va_W} {cc : ByteArray} {maxL : Nat} {rt : Option FieldType}
theorem gMI_of {r : Int32} (hy : plainName y.cls = true) (hw : wsy = Cond.code y cc maxL rt :: ws') (hlen : (lg_sl av).length ≤ maxL)
    (body : ∀ (p : Program) (e : Env) (s : State) (m : MethodId) (below : List Frame) (meth : Method) (co : Code) (A : Nat → Prop), gF p s m meth co cc maxL rt wsy y.cls av → gK D c s → va_P D gcl w0 s.heap → va_D A w0 → (∀ q, s.heap.size ≤ q → A q) → va_S A s.heap s.heap [] → ∀ ls, lv_has ls maxL (lv_args 0 av) →
      W p l e (headSpec wsy rm).room s m av.toArray below meth co s.heap [] 0 0 (gQI D w1 r A below av s) (F0 m 0 ls [])) : gMI l y wsy rm D c av w0 w1 r := by
  intro sz
  refine Met.ofW (cc := cc) (maxL := maxL) (ret := rt) hy hw ?_
  intro p e s m args below meth co s₁ B hml hv
  obtain ⟨rfl, hsz, hP, hK, hD0⟩ := hv
  subst hsz
  rw [lg_entry_eq]
  exact body p e s m below meth co _ ⟨B.exec, B.bytes, B.returns, atoms_spec (ws := wsy) B.pre, findClass_of_methodNamed B.named, B.notSynchronized, hml⟩ hK hP hD0.self (fun q h => Or.inr h) va_S.rf _ (lv_entry av hlen)
theorem gMV_of (hy : plainName y.cls = true) (hw : wsy = Cond.code y cc maxL rt :: ws') (hlen : (lg_sl av).length ≤ maxL)
    (body : ∀ (p : Program) (e : Env) (s : State) (m : MethodId) (below : List Frame) (meth : Method) (co : Code) (A : Nat → Prop), gF p s m meth co cc maxL rt wsy y.cls av → gK D c s → va_P D gcl w0 s.heap → va_D A w0 → (∀ q, s.heap.size ≤ q → A q) → va_S A s.heap s.heap [] → ∀ ls, lv_has ls maxL (lv_args 0 av) →
      W p l e (headSpec wsy rm).room s m av.toArray below meth co s.heap [] 0 0 (gQV D w1 A below av s) (F0 m 0 ls [])) : gMV l y wsy rm D c av w0 w1 := by
  intro sz
  refine Met.ofW (cc := cc) (maxL := maxL) (ret := rt) hy hw ?_
  intro p e s m args below meth co s₁ B hml hv
  obtain ⟨rfl, hsz, hP, hK, hD0⟩ := hv
  subst hsz
  rw [lg_entry_eq]
  exact body p e s m below meth co _ ⟨B.exec, B.bytes, B.returns, atoms_spec (ws := wsy) B.pre, findClass_of_methodNamed B.named, B.notSynchronized, hml⟩ hK hP hD0.self (fun q h => Or.inr h) va_S.rf _ (lv_entry av hlen)
theorem gMR_of {r : Option Nat} (hy : plainName y.cls = true) (hw : wsy = Cond.code y cc maxL rt :: ws') (hlen : (lg_sl av).length ≤ maxL)
    (body : ∀ (p : Program) (e : Env) (s : State) (m : MethodId) (below : List Frame) (meth : Method) (co : Code) (A : Nat → Prop), gF p s m meth co cc maxL rt wsy y.cls av → gK D c s → va_P D gcl w0 s.heap → va_D A w0 → (∀ q, s.heap.size ≤ q → A q) → va_S A s.heap s.heap [] → ∀ ls, lv_has ls maxL (lv_args 0 av) →
      W p l e (headSpec wsy rm).room s m av.toArray below meth co s.heap [] 0 0 (gQR D w1 r A below av s) (F0 m 0 ls [])) : gMR l y wsy rm D c av w0 w1 r := by
  intro sz
  refine Met.ofW (cc := cc) (maxL := maxL) (ret := rt) hy hw ?_
  intro p e s m args below meth co s₁ B hml hv
  obtain ⟨rfl, hsz, hP, hK, hD0⟩ := hv
  subst hsz
  rw [lg_entry_eq]
  exact body p e s m below meth co _ ⟨B.exec, B.bytes, B.returns, atoms_spec (ws := wsy) B.pre, findClass_of_methodNamed B.named, B.notSynchronized, hml⟩ hK hP hD0.self (fun q h => Or.inr h) va_S.rf _ (lv_entry av hlen)
end G1
section G2
variable {p : Program} {l : Launch} {e : Env} {R : Room} {s : State} {m : MethodId} {below : List Frame} {meth : Method} {co : Code} {H : Heap} {locs : List Loc} {Q : State → Prop} {D : va_G} {c : Nat → ClassId} {av : List Value} {w1 ws wc : va_W} {A : Nat → Prop} {cc : ByteArray} {maxL pc : Nat} {rt : Option FieldType} {Ts : List Cond} {own : String} {ls : Array Slot} {st rest : List Value}
theorem gIret {r : Int32} {ty : FieldType} (hF : gF p s m meth co cc maxL (some ty) Ts own av) (hP : va_P D gcl w1 H) (hD : va_D A w1) (hS : va_S A s.heap H locs) (hn : narrow ty (.int r) = .int r) (hdg : decode cc pc = .ok (.ireturn, 1)) :
    W p l e R s m av.toArray below meth co H locs 0 0 (gQI D w1 r A below av s) (F0 m pc ls [.int r]) := by
  obtain ⟨hx, hb, hr, -, -, hlocks, -⟩ := hF
  exact W.zret (v := r) hx hb hr hn (fun t ht hW => ⟨⟨r, (), rfl, rfl, by rw [ht]; exact hP, hD⟩, hS.F ht⟩) hS.2.2 hdg hlocks
theorem gVret (hF : gF p s m meth co cc maxL none Ts own av) (hP : va_P D gcl w1 H) (hD : va_D A w1) (hS : va_S A s.heap H locs) (hdg : decode cc pc = .ok (.return_, 1)) :
    W p l e R s m av.toArray below meth co H locs 0 0 (gQV D w1 A below av s) (F0 m pc ls []) := by
  obtain ⟨hx, hb, hr, -, -, hlocks, -⟩ := hF
  exact W.vret hx hb hr (fun t ht hW => ⟨⟨(), rfl, trivial, by rw [ht]; exact hP, hD⟩, hS.F ht⟩) hS.2.2 hdg hlocks
theorem gAret {r : Nat} {C : String} (hF : gF p s m meth co cc maxL (some (.object C)) Ts own av) (hP : va_P D gcl w1 H) (hD : va_D A w1) (hS : va_S A s.heap H locs) (hdg : decode cc pc = .ok (.areturn, 1)) :
    W p l e R s m av.toArray below meth co H locs 0 0 (gQR D w1 (some r) A below av s) (F0 m pc ls [.ref r]) := by
  obtain ⟨hx, hb, hr, -, -, hlocks, -⟩ := hF
  exact W.aret (v := .ref r) hx hb hr (Or.inl ⟨C, rfl⟩) (Or.inr ⟨r, rfl⟩) (fun t ht hW => ⟨⟨some r, (), rfl, rfl, by rw [ht]; exact hP, hD⟩, hS.F ht⟩) hS.2.2 hdg hlocks
theorem gSubP {isC : List Nat} (hP : va_P D gcl ws H) (hC : isC.map (fun i => ws[i]?) = wc.map some) : va_P D gcl wc H := by
  intro k q hq
  have h1 : (isC.map (fun i => ws[i]?))[k]? = some (some q) := by rw [hC, List.getElem?_map, hq]; rfl
  rw [List.getElem?_map] at h1
  cases hi : isC[k]? with
  | none => rw [hi] at h1; cases h1
  | some i => rw [hi] at h1; exact hP i q (Option.some.inj h1)
theorem gSubAt {isC : List Nat} (hC : isC.map (fun i => ws[i]?) = wc.map some) {k : Nat} {q : Nat × va_E} (hq : wc[k]? = some q) : ∃ i, isC[k]? = some i ∧ ws[i]? = some q := by
  have h1 : (isC.map (fun i => ws[i]?))[k]? = some (some q) := by rw [hC, List.getElem?_map, hq]; rfl
  rw [List.getElem?_map] at h1
  cases hi : isC[k]? with
  | none => rw [hi] at h1; cases h1
  | some i => rw [hi] at h1; exact ⟨i, rfl, Option.some.inj h1⟩
theorem gSubD {isC : List Nat} (hD : va_D A ws) (hC : isC.map (fun i => ws[i]?) = wc.map some) (hn : isC.Nodup) : va_D (fun _ => True) wc := by
  refine ⟨fun i j p q hi hj hpq => ?_, fun _ _ _ => trivial⟩
  obtain ⟨a, ha1, ha2⟩ := gSubAt hC hi
  obtain ⟨b, hb1, hb2⟩ := gSubAt hC hj
  have hab := hD.1 a b p q ha2 hb2 hpq
  subst hab
  obtain ⟨hi', hia⟩ := List.getElem?_eq_some_iff.mp ha1
  obtain ⟨hj', hja⟩ := List.getElem?_eq_some_iff.mp hb1
  exact (List.getElem_inj hn).mp (hia.trans hja.symm)
/-- the cells at the places isC become those of w1 -/
def gRp (ws : va_W) : List Nat → va_W → va_W
  | i :: is, q :: qs => gRp (ws.set i q) is qs
  | _, _ => ws
theorem gRp_get : ∀ (isC : List Nat) (w1 ws : va_W) (k : Nat) (q : Nat × va_E), (gRp ws isC w1)[k]? = some q → (∃ j, isC[j]? = some k ∧ w1[j]? = some q) ∨ (ws[k]? = some q ∧ ∀ j, j < w1.length → isC[j]? ≠ some k)
  | [], w1, ws, k, q, h => Or.inr ⟨by simpa [gRp] using h, fun j _ => by simp⟩
  | i :: is, [], ws, k, q, h => Or.inr ⟨by simpa [gRp] using h, fun j hj => by simp at hj⟩
  | i :: is, x :: xs, ws, k, q, h => by
    have h1 : (gRp (ws.set i x) is xs)[k]? = some q := h
    rcases gRp_get is xs (ws.set i x) k q h1 with ⟨j, hj, hq⟩ | ⟨hq, hn⟩
    · exact Or.inl ⟨j + 1, by simpa using hj, by simpa using hq⟩
    · by_cases hik : i = k
      · subst hik
        refine Or.inl ⟨0, by simp, ?_⟩
        have hl : i < (ws.set i x).length := (List.getElem?_eq_some_iff.mp hq).1
        rw [List.getElem?_set_self (by simpa using hl)] at hq
        simpa using hq
      · rw [List.getElem?_set_ne hik] at hq
        refine Or.inr ⟨hq, fun j hj => ?_⟩
        cases j with
        | zero => simpa using hik
        | succ j => simpa using hn j (by simpa using hj)
theorem gJoin {H1 : Heap} (hP : va_P D gcl ws H) (hD : va_D A ws) {isC : List Nat} (hC : isC.map (fun i => ws[i]?) = wc.map some) (hlen : w1.length = wc.length)
    (hk : ∀ q : Nat, q < H.size → ¬ va_A wc H.size q → H1[q]? = H[q]?) (hF : ∀ q, va_A wc H.size q → A q) (hP1 : va_P D gcl w1 H1) (hD1 : va_D (va_A wc H.size) w1) : va_P D gcl (gRp ws isC w1) H1 ∧ va_D A (gRp ws isC w1) := by
  have hlc : isC.length = wc.length := by simpa using congrArg List.length hC
  have old : ∀ (k : Nat) (q : Nat × va_E), ws[k]? = some q → (∀ j, j < w1.length → isC[j]? ≠ some k) → q.1 < H.size ∧ ¬ va_A wc H.size q.1 := by
    intro k q hq hn
    have hl := (hP k q hq).lt
    refine ⟨hl, fun h => ?_⟩
    rcases h with ⟨k2, e, h⟩ | h
    · obtain ⟨j, h3, h4⟩ := gSubAt hC h
      have hij := hD.1 k j q (q.1, e) hq h4 rfl
      subst hij
      have : k2 < wc.length := (List.getElem?_eq_some_iff.mp h).1
      exact hn k2 (by omega) h3
    · omega
  refine ⟨fun k q hq => ?_, fun i j x z hx hz hxz => ?_, fun k q hq => ?_⟩
  · rcases gRp_get isC w1 ws k q hq with ⟨j, -, h⟩ | ⟨h, hn⟩
    · exact hP1 j q h
    · obtain ⟨g1, g2⟩ := old k q h hn
      exact (hP k q h).kept (hk q.1 g1 g2)
  · rcases gRp_get isC w1 ws i x hx with ⟨a, ha, h1⟩ | ⟨h1, hn1⟩
    · rcases gRp_get isC w1 ws j z hz with ⟨b, hb, h2⟩ | ⟨h2, hn2⟩
      · have hab := hD1.1 a b x z h1 h2 hxz
        subst hab
        exact Option.some.inj (ha.symm.trans hb)
      · exact ((old j z h2 hn2).2 (by rw [← hxz]; exact hD1.2 a x h1)).elim
    · rcases gRp_get isC w1 ws j z hz with ⟨b, hb, h2⟩ | ⟨h2, hn2⟩
      · exact ((old i x h1 hn1).2 (by rw [hxz]; exact hD1.2 b z h2)).elim
      · exact hD.1 i j x z h1 h2 hxz
  · rcases gRp_get isC w1 ws k q hq with ⟨j, -, h⟩ | ⟨h, -⟩
    · exact hF _ (hD1.2 j q h)
    · exact hD.2 k q h
theorem gFree {isC : List Nat} (hD : va_D A ws) (hS : va_S A s.heap H locs) (hA : ∀ q, s.heap.size ≤ q → A q) (hC : isC.map (fun i => ws[i]?) = wc.map some) : ∀ q, va_A wc H.size q → A q := va_free hD hS hA isC hC
theorem gCallI {a : Array Value} {r : Int32} {isC : List Nat} (hP : va_P D gcl ws H) (hD : va_D A ws) (hS : va_S A s.heap H locs) (hA : ∀ q, s.heap.size ≤ q → A q) (hC : isC.map (fun i => ws[i]?) = wc.map some) (hlen : w1.length = wc.length)
    (hr : va_Run p l e R s m av.toArray below meth co H locs 0 0 0 0 (F0 m pc ls st) rest (va_Qi (fun (r' : Int32) (_ : Unit) => r' = r) (gAt D w1 (va_A wc H.size)) (va_A wc H.size) a) (va_A wc H.size))
    (kk : ∀ (H1 : Heap) (locs1 : List Loc), va_P D gcl (gRp ws isC w1) H1 → va_D A (gRp ws isC w1) → va_S A s.heap H1 locs1 → W p l e R s m av.toArray below meth co H1 locs1 0 0 Q (F0 m (pc + 3) ls (.int r :: rest))) : W p l e R s m av.toArray below meth co H locs 0 0 Q (F0 m pc ls st) := by
  have hF := gFree hD hS hA hC
  refine va_calli hr hS (fun q _ h => hF q h) hF (fun r' u t H1 locs1 ht hvm hw hB hz hk hS1 => ?_)
  subst hw
  obtain ⟨hP1, hD1⟩ := hB
  rw [ht] at hP1
  obtain ⟨hP2, hD2⟩ := gJoin hP hD hC hlen hk hF hP1 hD1
  exact kk H1 locs1 hP2 hD2 hS1
theorem gCallV {a : Array Value} {isC : List Nat} (hP : va_P D gcl ws H) (hD : va_D A ws) (hS : va_S A s.heap H locs) (hA : ∀ q, s.heap.size ≤ q → A q) (hC : isC.map (fun i => ws[i]?) = wc.map some) (hlen : w1.length = wc.length)
    (hr : va_Run p l e R s m av.toArray below meth co H locs 0 0 0 0 (F0 m pc ls st) rest (va_Qv (fun (_ : Unit) => True) (gAt D w1 (va_A wc H.size)) (va_A wc H.size) a) (va_A wc H.size))
    (kk : ∀ (H1 : Heap) (locs1 : List Loc), va_P D gcl (gRp ws isC w1) H1 → va_D A (gRp ws isC w1) → va_S A s.heap H1 locs1 → W p l e R s m av.toArray below meth co H1 locs1 0 0 Q (F0 m (pc + 3) ls rest)) : W p l e R s m av.toArray below meth co H locs 0 0 Q (F0 m pc ls st) := by
  have hF := gFree hD hS hA hC
  refine va_callv hr hS (fun q _ h => hF q h) hF (fun u t H1 locs1 ht hvm hw hB hz hk hS1 => ?_)
  obtain ⟨hP1, hD1⟩ := hB
  rw [ht] at hP1
  obtain ⟨hP2, hD2⟩ := gJoin hP hD hC hlen hk hF hP1 hD1
  exact kk H1 locs1 hP2 hD2 hS1
theorem gCallR {a : Array Value} {r : Nat} {isC : List Nat} (hP : va_P D gcl ws H) (hD : va_D A ws) (hS : va_S A s.heap H locs) (hA : ∀ q, s.heap.size ≤ q → A q) (hC : isC.map (fun i => ws[i]?) = wc.map some) (hlen : w1.length = wc.length)
    (hr : va_Run p l e R s m av.toArray below meth co H locs 0 0 0 0 (F0 m pc ls st) rest (va_Qq (fun (r' : Option Nat) (_ : Unit) => r' = some r) (gAt D w1 (va_A wc H.size)) (va_A wc H.size) a) (va_A wc H.size))
    (kk : ∀ (H1 : Heap) (locs1 : List Loc), va_P D gcl (gRp ws isC w1) H1 → va_D A (gRp ws isC w1) → va_S A s.heap H1 locs1 → W p l e R s m av.toArray below meth co H1 locs1 0 0 Q (F0 m (pc + 3) ls (.ref r :: rest))) : W p l e R s m av.toArray below meth co H locs 0 0 Q (F0 m pc ls st) := by
  have hF := gFree hD hS hA hC
  refine va_callq hr hS (fun q _ h => hF q h) hF (fun r' u t H1 locs1 ht hvm hw hB hz hk hS1 => ?_)
  subst hw
  obtain ⟨hP1, hD1⟩ := hB
  rw [ht] at hP1
  obtain ⟨hP2, hD2⟩ := gJoin hP hD hC hlen hk hF hP1 hD1
  exact kk H1 locs1 hP2 hD2 hS1
/-- what the callee's start needs, of the caller's world -/
theorem gPreS {isC : List Nat} {As : List Value} (hK : gK D c s) (hP : va_P D gcl ws H) (hD : va_D A ws) (hC : isC.map (fun i => ws[i]?) = wc.map some) (hn : isC.Nodup) : PreS s H (va_Pc As (gPre D c wc H.size)) As :=
  ⟨fun a U g mk q => by obtain ⟨q0, q1, q2, q3, q4⟩ := q; exact ⟨q0, q1, q2, gK_call q3, q4⟩, fun U hU hW => ⟨rfl, by rw [hU], by rw [hU]; exact gSubP hP hC, gK_warm hW hK, gSubD hD hC hn⟩⟩
theorem gPreV {isC : List Nat} {As : List Value} {b q0 ci : Nat} {q : vw_C} {fs : List Value} (hK : gK D c s) (hP : va_P D gcl ws H) (hD : va_D A ws) (hC : isC.map (fun i => ws[i]?) = wc.map some) (hn : isC.Nodup) (hc : gcl[ci]? = some q) (he : ws[q0]? = some (b, .inr (ci, fs))) : PreV s H q.1 b (va_Pc (.ref b :: As) (gPre D c wc H.size)) As :=
  ⟨(gPreS (As := .ref b :: As) hK hP hD hC hn).1, va_recv hK.1 hP hc he, (gPreS (As := .ref b :: As) hK hP hD hC hn).2⟩
theorem gFix (hF : gF p s m meth co cc maxL rt Ts own av) : CallFix p m co cc maxL s av.toArray Ts own := by
  obtain ⟨hx, hb, hr, hts, hown, hlocks, hml⟩ := hF
  exact ⟨hx, hb, hml, hown, hts⟩
/-- a top that gets a name -/
theorem gTop {x y : Int32} {cells slots : Nat} {args : Array Value} (h : x = y) (k : W p l e R s m args below meth co H locs cells slots Q (F0 m pc ls (.int x :: rest))) : W p l e R s m args below meth co H locs cells slots Q (F0 m pc ls (.int y :: rest)) := h ▸ k
end G2
/-! the words of the functions -/
def nm {α β : Type} (x : α) (k : α → Option β) : Option β := k x
theorem nm_ok {α β : Type} {x : α} {k : α → Option β} {o : Option β} (h : nm x k = o) : ∃ y, y = x ∧ k y = o := ⟨x, rfl, h⟩
def chi {β : Type} (i : Int32) (n : Nat) (k : Option β) : Option β := if i < 0 ∨ n ≤ i.toNatClampNeg then none else k
theorem chi_ok {β : Type} {i : Int32} {n : Nat} {k : Option β} {o : β} (h : chi i n k = some o) : vp_in i n ∧ k = some o := by
  unfold chi at h
  by_cases c : i < 0 ∨ n ≤ i.toNatClampNeg
  · rw [if_pos c] at h; cases h
  · rw [if_neg c] at h; exact ⟨c, h⟩
theorem chi_in {β : Type} {i : Int32} {n : Nat} {k : Option β} (h : vp_in i n) : chi i n k = k := if_neg h
def chz {β : Type} (y : Int32) (k : Option β) : Option β := if y = 0 then none else k
theorem chz_ok {β : Type} {y : Int32} {k : Option β} {o : β} (h : chz y k = some o) : ¬ y = 0 ∧ k = some o := by
  unfold chz at h
  by_cases c : y = 0
  · rw [if_pos c] at h; cases h
  · rw [if_neg c] at h; exact ⟨c, h⟩
def chb {β : Type} (y : Int32) (k : Option β) : Option β := if y = 0 ∨ y = 1 then k else none
theorem chb_ok {β : Type} {y : Int32} {k : Option β} {o : β} (h : chb y k = some o) : (y = 0 ∨ y = 1) ∧ k = some o := by
  unfold chb at h
  by_cases c : y = 0 ∨ y = 1
  · rw [if_pos c] at h; exact ⟨c, h⟩
  · rw [if_neg c] at h; cases h
theorem chb_n {y : Int32} (h : y = 0 ∨ y = 1) : narrow .boolean (.int y) = .int y := by
  rcases h with rfl | rfl <;> rfl
theorem chb_f {y : Int32} (h : y = 0 ∨ y = 1) : fits .boolean (.int y) = true := by
  rcases h with rfl | rfl <;> rfl
theorem it_t {β : Type} {c : Prop} {d : Decidable c} {a b : Option β} {o : Option β} (hc : c) (h : (if c then a else b) = o) : a = o := by rwa [if_pos hc] at h
theorem it_f {β : Type} {c : Prop} {d : Decidable c} {a b : Option β} {o : Option β} (hc : ¬ c) (h : (if c then a else b) = o) : b = o := by rwa [if_neg hc] at h
def kb {α β : Type} (o : Option α) (k : α → Option β) : Option β := match o with
  | none => none
  | some a => k a
theorem kb_ok {α β : Type} {o : Option α} {k : α → Option β} {r : β} (h : kb o k = some r) : ∃ a, o = some a ∧ k a = some r := by
  cases o with
  | none => cases h
  | some a => exact ⟨a, rfl, h⟩
theorem no_ok {β : Type} {o : β} {p : Prop} (h : (none : Option β) = some o) : p := by cases h
