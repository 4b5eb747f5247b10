/-! the calls: ways out, lamp, tools told, best strokes, days -/
section RG
variable {R C ho ou eb nt T tl wn : Nat} {a p kN mN : Nat → Nat} {Lm Ls : List Int32} {z : Int32} {told tape d er fo : Nat → Int32}

def far (R C c w : Nat) : Nat := if w = 0 then c / C else if w = 1 then C - 1 - c % C else if w = 2 then R - 1 - c / C else c % C
theorem far_all : ∀ R, R < 6 → ∀ C, C < 6 → ∀ c, c < R * C → ∀ w, w < 4 → f_X10_cellsAhead (nI c) (nI w) (nI R) (nI C) = some (nI (far R C c w)) ∧ far R C c w < 5 := by decide +kernel
/-- the least way so far, by both -/
def wl (x y : Int32) : Prop := (x = 25 ∧ y = 99) ∨ ∃ m, m < 5 ∧ x = nI m ∧ y = nI m
theorem wayout_run (hO : OKp R C ho ou eb nt T tl wn a p kN mN Lm Ls) (hM : MDp R C ho ou eb nt T tl wn a p kN mN Lm Ls z told tape d) (hE : EK er fo) {c : Nat} (hc : c < R * C) : ∀ (q f f' w : Nat) (x y : Int32), w + q = 4 → q < f → q < f' → wl x y →
    ∃ (r : Int32) (er' fo' : Nat → Int32), f_X11_wayOut_L19 (nI c) (nI R) (nI C) (lf (opn eb)) f x (nI w) er = some (r, er') ∧ f_X12_wayOut_L39 d f' (nI (c / C)) (nI (c % C)) y (nI w) fo = some (r, fo') ∧ EK er' fo' := by
  obtain ⟨o1, o2, o3, o4, o5, o6, o7, o8, o9, o10⟩ := id hO
  have h25 := RC25 o3 o4
  obtain ⟨r2, e2, f2, k1, k2, k3⟩ := err_2 hE
  intro q
  induction q with
  | zero =>
    intro f f' w x y hq hf hf' hl
    obtain ⟨f1, rfl⟩ : ∃ f1, f = f1 + 1 := ⟨f - 1, by omega⟩
    obtain ⟨f3, rfl⟩ : ∃ f2, f' = f2 + 1 := ⟨f' - 1, by omega⟩
    have : w = 4 := by omega
    subst this
    unfold f_X11_wayOut_L19 f_X12_wayOut_L39
    rw [if_pos (show (4 : Int32) ≤ nI 4 by decide), if_pos (show (4 : Int32) ≤ nI 4 by decide)]
    rcases hl with ⟨rfl, rfl⟩ | ⟨m, hm, rfl, rfl⟩
    · rw [if_pos (show (25 : Int32) ≤ 25 by decide), if_pos rfl, k1, k2, px_kb2, px_kb2]
      exact ⟨r2, e2, f2, rfl, rfl, k3⟩
    · rw [if_neg (show ¬ (25 : Int32) ≤ nI m from nI_ge (b := 25) (by omega) (by decide)), if_neg (show ¬ nI m = 99 from nI_ne (c := 99) (by omega) (by decide) (by omega))]
      exact ⟨_, er, fo, rfl, rfl, hE⟩
  | succ q ih =>
    intro f f' w x y hq hf hf' hl
    obtain ⟨f1, rfl⟩ : ∃ f1, f = f1 + 1 := ⟨f - 1, by omega⟩
    obtain ⟨f3, rfl⟩ : ∃ f2, f' = f2 + 1 := ⟨f' - 1, by omega⟩
    have hw : w < 4 := by omega
    obtain ⟨fa1, fa2⟩ := far_all R o3 C o4 c hc w hw
    have ho1 : f_X12_isOpen (nI w) d = some (if opn eb w = 1 then 1 else 0) := by
      rw [isOpen_d, hM.1.2.2.2.2.1]; exact isOpen_all eb o9 w hw
    have hcd : c / C < R := Nat.div_lt_of_lt_mul (by rw [Nat.mul_comm]; exact hc)
    have hcm : c % C < C := Nat.mod_lt _ o2
    have key : ∃ (r : Int32) (er' fo' : Nat → Int32), f_X11_wayOut_L19 (nI c) (nI R) (nI C) (lf (opn eb)) (f1 + 1) x (nI w) er = some (r, er') ∧ f_X12_wayOut_L93 (f_X12_wayOut_L39 d f3) d (nI (c / C)) (nI (c % C)) y (nI w) (nI (far R C c w)) fo = some (r, fo') ∧ EK er' fo' := by
      unfold f_X11_wayOut_L19 f_X12_wayOut_L93
      rw [if_neg (show ¬ (4 : Int32) ≤ nI w from nI_ge (b := 4) hw (by decide)), isOpen_c hw, ho1, px_kb, px_kb]
      by_cases hop : opn eb w = 1
      · rw [if_pos hop, i10, i10, fa1, px_kb, px_nm, px_nm, nI_1]
        rcases hl with ⟨rfl, rfl⟩ | ⟨m, hm, rfl, rfl⟩
        · rw [if_pos (show nI (far R C c w) < 25 from nI_lt (b := 25) (by omega) (by decide)), if_neg (show ¬ (99 : Int32) ≤ nI (far R C c w) from nI_ge (b := 99) (by omega) (by decide)), px_nm]
          exact ih f1 f3 (w + 1) _ _ (by omega) (by omega) (by omega) (Or.inr ⟨_, fa2, rfl, rfl⟩)
        · by_cases hlt : far R C c w < m
          · rw [if_pos (nI_lt hlt (by omega)), if_neg (nI_ge hlt (by omega)), px_nm]
            exact ih f1 f3 (w + 1) _ _ (by omega) (by omega) (by omega) (Or.inr ⟨_, fa2, rfl, rfl⟩)
          · rw [if_neg (nI_nlt (by omega) (by omega)), if_pos (nI_le (by omega) (by omega)), px_nm]
            exact ih f1 f3 (w + 1) _ _ (by omega) (by omega) (by omega) (Or.inr ⟨m, hm, rfl, rfl⟩)
      · rw [if_neg hop, i00, i00, px_nm, px_nm, nI_1]
        exact ih f1 f3 (w + 1) x y (by omega) (by omega) (by omega) hl
    have hgo : f_X12_wayOut_L39 d (f3 + 1) (nI (c / C)) (nI (c % C)) y (nI w) fo = f_X12_wayOut_L93 (f_X12_wayOut_L39 d f3) d (nI (c / C)) (nI (c % C)) y (nI w) (nI (far R C c w)) fo := by
      rw [f_X12_wayOut_L39, if_neg (show ¬ (4 : Int32) ≤ nI w from nI_ge (b := 4) hw (by decide))]
      simp only [c_1, z_1, c_0, z_0, hM.1.1, hM.1.2.1, px_nm]
      match w, hw with
      | 0, _ => rw [if_pos (show nI 0 = 0 from rfl)]; rfl
      | 1, _ =>
        rw [if_neg (show ¬ nI 1 = 0 by decide), if_pos (show nI 1 = 1 from rfl), show (nI C - 1 : Int32) = nI (C - 1) from pk_sub (b := 1) (by omega), pk_sub (by omega)]; rfl
      | 2, _ =>
        rw [if_neg (show ¬ nI 2 = 0 by decide), if_neg (show ¬ nI 2 = 1 by decide), if_pos (show nI 2 = 2 from rfl), show (nI R - 1 : Int32) = nI (R - 1) from pk_sub (b := 1) (by omega), pk_sub (by omega)]; rfl
      | 3, _ =>
        rw [if_neg (show ¬ nI 3 = 0 by decide), if_neg (show ¬ nI 3 = 1 by decide), if_neg (show ¬ nI 3 = 2 by decide)]; rfl
    rw [hgo]
    exact key
theorem m_wayOut (hO : OKp R C ho ou eb nt T tl wn a p kN mN Lm Ls) (hM : MDp R C ho ou eb nt T tl wn a p kN mN Lm Ls z told tape d) (hE : EK er fo) (x : Int32) : ∃ (r : Int32) (er' fo' : Nat → Int32), f_X11_wayOut x er (nI R) (nI C) (lf (opn eb)) = some (r, er') ∧ f_X12_wayOut x d fo = some (r, fo') ∧ EK er' fo' := by
  obtain ⟨o1, o2, o3, o4, o5, o6, o7, o8, o9, o10⟩ := id hO
  have h25 := RC25 o3 o4
  obtain ⟨r, e', f', g1, g2, g3⟩ := err_1 hE
  unfold f_X11_wayOut f_X12_wayOut
  rw [isCell_c x o3 o4, isCell_m x hM.1 o3 o4, px_kb, px_kb]
  by_cases hx : vp_in x (R * C)
  · obtain ⟨c, hc, rfl⟩ := vp_in_of hx (by omega)
    rw [bI_in hx, i10, i10]
    simp only [c_1, z_1, px_nm, hM.1.2.1, px_chz (nI_ne0 (n := C) o2 (by omega)), pk_rem (a := c) (d := C) (by omega) o2 (by omega)]
    rw [pk_div (a := c) (d := C) (by omega) o2 (by omega)]
    exact wayout_run hO hM hE hc 4 gFuel gFuel 0 25 99 (by omega) (by unfold gFuel; omega) (by unfold gFuel; omega) (Or.inl ⟨rfl, rfl⟩)
  · rw [bI_out hx, i00, i00, g1, g2, px_kb2, px_kb2]
    exact ⟨r, e', f', rfl, rfl, g3⟩
/-- all ahead have less -/
def chk (a : Nat → Nat) (R C w v : Nat) : Nat → Option Nat → Bool
  | _, none => true
  | 0, some _ => true
  | n + 1, some x => decide (a x < v) && chk a R C w v n (nb R C x w)
theorem nb_far : ∀ R, R < 6 → ∀ C, C < 6 → ∀ c, c < R * C → ∀ w, w < 4 → (match nb R C c w with | none => decide (far R C c w = 0) | some x => decide (far R C x w + 1 = far R C c w)) = true := by decide +kernel
/-- how far a chain still goes -/
def fr (R C w : Nat) : Option Nat → Nat
  | none => 0
  | some x => far R C x w + 1
theorem fr_next (hR : R < 6) (hC : C < 6) {c w : Nat} (hc : c < R * C) (hw : w < 4) : fr R C w (nb R C c w) = far R C c w := by
  have h := nb_far R hR C hC c hc w hw
  cases hn : nb R C c w with
  | none => rw [hn] at h; exact (of_decide_eq_true h).symm
  | some x => rw [hn] at h; exact of_decide_eq_true h
theorem chk_n (hR : R < 6) (hC : C < 6) {w v : Nat} (hw : w < 4) : ∀ (n m : Nat) (x : Option Nat), fr R C w x ≤ n → fr R C w x ≤ m → (∀ y, x = some y → y < R * C) → chk a R C w v n x = chk a R C w v m x
  | _, _, none, _, _, _ => by
    unfold chk
    rfl
  | 0, _, some x, h, _, _ => by
    have : far R C x w + 1 ≤ 0 := h
    omega
  | _ + 1, 0, some x, _, h, _ => by
    have : far R C x w + 1 ≤ 0 := h
    omega
  | n + 1, m + 1, some x, h1, h2, hx => by
    have h1' : far R C x w + 1 ≤ n + 1 := h1
    have h2' : far R C x w + 1 ≤ m + 1 := h2
    have hxx := hx x rfl
    have e := fr_next hR hC hxx hw
    show (decide (a x < v) && chk a R C w v n (nb R C x w)) = (decide (a x < v) && chk a R C w v m (nb R C x w))
    rw [chk_n hR hC hw n m (nb R C x w) (by omega) (by omega) (fun y hy => (nb_all R hR C hC x hxx w hw y hy).1)]
theorem lit_run (hR : R < 6) (hC : C < 6) (hA : AirOK a) {c w : Nat} (hc : c < R * C) (hw : w < 4) : ∀ (q f i : Nat) (x : Option Nat), i + q = 5 → q < f → fr R C w x ≤ q → (∀ y, x = some y → y < R * C) →
    f_X10_isLit_L10 (nI c) (nI w) (nI R) (nI C) (lf a) f (oI x) (nI i) = some (if chk a R C w (a c) q x = true ∧ 0 < a c then 1 else 0) := by
  have h25 := RC25 hR hC
  have hac := hA.1 c
  have h54 : f_X10_isLit_L54 (nI c) (lf a) = some (if 0 < a c then 1 else 0) := by
    unfold f_X10_isLit_L54
    rw [px_in (by omega) (by decide), nI_clamp (by omega), lf_at]
    by_cases h : 0 < a c
    · rw [if_neg (nI_nle h (by omega)), if_pos h]
    · have : a c = 0 := by omega
      rw [this, if_pos (show nI 0 ≤ 0 by decide), if_neg (by omega)]
  intro q
  induction q with
  | zero =>
    intro f i x hq hf hx hin
    obtain ⟨f', rfl⟩ : ∃ f', f = f' + 1 := ⟨f - 1, by omega⟩
    have : i = 5 := by omega
    subst this
    have hc1 : chk a R C w (a c) 0 x = true := by cases x <;> rfl
    unfold f_X10_isLit_L10
    rw [if_pos (show (5 : Int32) ≤ nI 5 by decide), h54, hc1]
    simp only [true_and]
  | succ q ih =>
    intro f i x hq hf hx hin
    obtain ⟨f', rfl⟩ : ∃ f', f = f' + 1 := ⟨f - 1, by omega⟩
    unfold f_X10_isLit_L10
    rw [if_neg (show ¬ (5 : Int32) ≤ nI i from nI_ge (b := 5) (by omega) (by decide))]
    cases x with
    | none =>
      rw [show oI none = -1 from rfl, has_no hR hC, px_kb, if_pos rfl, h54, show chk a R C w (a c) (q + 1) none = true from rfl]
      simp only [true_and]
    | some x =>
      have hxx := hin x rfl
      have hax := hA.1 x
      have e := fr_next hR hC hxx hw
      have hx' : far R C x w + 1 ≤ q + 1 := hx
      rw [show oI (some x) = nI x from rfl, has_in hR hC hxx, px_kb, if_neg (by decide), px_in (by omega) (by decide), px_nm, nI_clamp (by omega), px_in (by omega) (by decide), nI_clamp (by omega), lf_at, lf_at]
      by_cases hlt : a x < a c
      · rw [if_pos (nI_lt hlt (by omega)), beside_all R hR C hC x hxx w hw, px_kb, px_nm, nI_1, ih f' (i + 1) (nb R C x w) (by omega) (by omega) (by omega) (fun y hy => (nb_all R hR C hC x hxx w hw y hy).1)]
        rw [show chk a R C w (a c) (q + 1) (some x) = (decide (a x < a c) && chk a R C w (a c) q (nb R C x w)) from rfl, decide_eq_true hlt, Bool.true_and]
      · rw [if_neg (nI_nlt (by omega) (by omega)), show chk a R C w (a c) (q + 1) (some x) = (decide (a x < a c) && chk a R C w (a c) q (nb R C x w)) from rfl, decide_eq_false hlt, Bool.false_and, if_neg (fun q => by cases q.1)]
theorem lamp_in (hW : MW d R C ho ou eb a p) (hR : R < 6) (hC : C < 6) (hA : AirOK a) {w c v m : Nat} (hw : w < 4) (hv : v ≤ 99) (kk : Int32 → Int32 → (Nat → Int32) → Option (Int32 × (Nat → Int32))) : ∀ (q f : Nat) (x : Option Nat) (b : Bool), q < f → fr R C w x ≤ q → (∀ y, x = some y → y < R * C) →
    f_X12_lamp_L56 kk (nI w) d f (nI m) (nI c) (nI v) (if b = true then 1 else 0) (oI x) fo = kk (nI (m + if (b && chk a R C w v q x) = true then 1 else 0)) (nI (c + 1)) fo := by
  have h25 := RC25 hR hC
  have hfin : ∀ (f : Nat) (b : Bool), f_X12_lamp_L56 kk (nI w) d (f + 1) (nI m) (nI c) (nI v) (if b = true then 1 else 0) (-1) fo = kk (nI (m + if b = true then 1 else 0)) (nI (c + 1)) fo := by
    intro f b
    unfold f_X12_lamp_L56
    rw [if_pos (by decide)]
    cases b with
    | true => rw [if_pos rfl, if_neg (by decide), px_nm, px_nm, nI_1, nI_1]; rfl
    | false => simp only [if_neg (show ¬ (false = true) by decide), i00, px_nm, nI_1, Nat.add_zero, show nI m + 0 = nI m from nI_add m 0, if_true]
  intro q
  induction q with
  | zero =>
    intro f x b hf hx hin
    obtain ⟨f', rfl⟩ : ∃ f', f = f' + 1 := ⟨f - 1, by omega⟩
    cases x with
    | none =>
      rw [show oI none = -1 from rfl, hfin, show chk a R C w v 0 none = true from rfl, Bool.and_true]
    | some x =>
      have : far R C x w + 1 ≤ 0 := hx
      omega
  | succ q ih =>
    intro f x b hf hx hin
    obtain ⟨f', rfl⟩ : ∃ f', f = f' + 1 := ⟨f - 1, by omega⟩
    cases x with
    | none =>
      rw [show oI none = -1 from rfl, hfin, show chk a R C w v (q + 1) none = true from rfl, Bool.and_true]
    | some x =>
      have hxx := hin x rfl
      have hax := hA.1 x
      have e := fr_next hR hC hxx hw
      have hx' : far R C x w + 1 ≤ q + 1 := hx
      have ch : chk a R C w v (q + 1) (some x) = (decide (a x < v) && chk a R C w v q (nb R C x w)) := rfl
      have hin2 : ∀ y, nb R C x w = some y → y < R * C := fun y hy => (nb_all R hR C hC x hxx w hw y hy).1
      rw [f_X12_lamp_L56, show oI (some x) = nI x from rfl, if_neg (nI_pos (by omega))]
      unfold f_X12_lamp_L86
      rw [nextTo_m hW.1 hW.2.1 hR hC hxx hw, px_kb]
      have i0 := ih f' (nb R C x w) false (by omega) (by omega) hin2
      have i1 := ih f' (nb R C x w) true (by omega) (by omega) hin2
      rw [if_neg (by decide), Bool.false_and] at i0
      rw [if_pos rfl, Bool.true_and] at i1
      cases b with
      | false =>
        rw [if_neg (show ¬ (false = true) by decide), i00, i0, Bool.false_and]
      | true =>
        rw [if_pos rfl, i10, n10, px_nm, ch_d (by omega), nI_clamp (by omega), hW.2.2.2.2.2.1 x (by omega), ch, Bool.true_and, px_kb]
        by_cases hlt : a x < v
        · rw [if_neg (nI_ge hlt (by omega)), i1, decide_eq_true hlt, Bool.true_and]
        · rw [if_pos (nI_le (by omega) (by omega)), i0, decide_eq_false hlt, Bool.false_and]
theorem lamp_run (hO : OKp R C ho ou eb nt T tl wn a p kN mN Lm Ls) (hM : MDp R C ho ou eb nt T tl wn a p kN mN Lm Ls z told tape d) (hE : EK er fo) {w : Nat} (hw : w < 4) : ∀ (q f f' c m : Nat), c + q = R * C → q < f → q < f' → ∃ r, f_X11_lamp_L29 (nI w) (nI R) (nI C) (lf a) f (nI m) (nI (R * C)) (nI c) er = some (r, er) ∧ f_X12_lamp_L17 (nI w) d f' (nI m) (nI c) fo = some (r, fo) := by
  obtain ⟨o1, o2, o3, o4, o5, o6, o7⟩ := id hO
  have h25 := RC25 o3 o4
  intro q
  induction q with
  | zero =>
    intro f f' c m hq hf hf'
    obtain ⟨f1, rfl⟩ : ∃ f1, f = f1 + 1 := ⟨f - 1, by omega⟩
    obtain ⟨f2, rfl⟩ : ∃ f2, f' = f2 + 1 := ⟨f' - 1, by omega⟩
    have : c = R * C := by omega
    subst this
    unfold f_X11_lamp_L29 f_X12_lamp_L17
    rw [cells_m hM.1, px_kb, if_pos (show nI (R * C) ≤ nI (R * C) from Int32.le_refl _), if_pos (show nI (R * C) ≤ nI (R * C) from Int32.le_refl _)]
    exact ⟨_, rfl, rfl⟩
  | succ q ih =>
    intro f f' c m hq hf hf'
    obtain ⟨f1, rfl⟩ : ∃ f1, f = f1 + 1 := ⟨f - 1, by omega⟩
    obtain ⟨f2, rfl⟩ : ∃ f2, f' = f2 + 1 := ⟨f' - 1, by omega⟩
    have hc : c < R * C := by omega
    have hac := o5.1 c
    have hin : ∀ y, nb R C c w = some y → y < R * C := fun y hy => (nb_all R o3 C o4 c hc w hw y hy).1
    have hfr : fr R C w (nb R C c w) ≤ 5 := by rw [fr_next o3 o4 hc hw]; have := (far_all R o3 C o4 c hc w hw).2; omega
    have hl : f_X10_isLit (nI c) (nI w) (nI R) (nI C) (lf a) = some (if chk a R C w (a c) 5 (nb R C c w) = true ∧ 0 < a c then 1 else 0) := by
      unfold f_X10_isLit
      rw [beside_all R o3 C o4 c hc w hw, px_kb]
      exact lit_run o3 o4 o5 hc hw 5 gFuel 0 (nb R C c w) (by omega) (by unfold gFuel; omega) hfr hin
    unfold f_X11_lamp_L29 f_X12_lamp_L17
    rw [cells_m hM.1, px_kb, if_neg (nI_ge (a := c) (b := R * C) (by omega) (by omega)), if_neg (nI_ge (a := c) (b := R * C) (by omega) (by omega)), hl, px_kb]
    simp only [n10, px_nm, ch_d (show 10 + c < 244 by omega), nI_clamp (show 10 + c < 2 ^ 31 by omega), hM.1.2.2.2.2.2.1 c (by omega)]
    have hm : ∀ b : Bool, f_X12_lamp_L46 (f_X12_lamp_L17 (nI w) d f2) (nI w) d (nI m) (nI c) (nI (a c)) (if b = true then 1 else 0) fo = f_X12_lamp_L17 (nI w) d f2 (nI (m + if (b && chk a R C w (a c) 5 (nb R C c w)) = true then 1 else 0)) (nI (c + 1)) fo := by
      intro b
      unfold f_X12_lamp_L46
      rw [nextTo_m hM.1.1 hM.1.2.1 o3 o4 hc hw, px_kb]
      exact lamp_in hM.1 o3 o4 o5 hw (by omega) _ 5 gFuel (nb R C c w) b (by unfold gFuel; omega) hfr hin
    by_cases h0 : 0 < a c
    · have h1 := hm true
      rw [if_pos rfl, Bool.true_and] at h1
      rw [if_neg (nI_nle h0 (by omega)), h1]
      by_cases hk : chk a R C w (a c) 5 (nb R C c w) = true
      · rw [if_pos (show (chk a R C w (a c) 5 (nb R C c w) = true ∧ 0 < a c) from ⟨hk, h0⟩), i10, if_pos hk, nI_1, nI_1]
        exact ih f1 f2 (c + 1) (m + 1) (by omega) (by omega) (by omega)
      · rw [if_neg (show ¬ (chk a R C w (a c) 5 (nb R C c w) = true ∧ 0 < a c) from fun q => hk q.1), i00, if_neg hk, nI_1]
        exact ih f1 f2 (c + 1) m (by omega) (by omega) (by omega)
    · have e0 : a c = 0 := by omega
      have h1 := hm false
      rw [if_neg (by decide), Bool.false_and, e0] at h1
      rw [if_neg (show ¬ (chk a R C w (a c) 5 (nb R C c w) = true ∧ 0 < a c) from fun q => h0 q.2), i00, e0, if_pos (show nI 0 ≤ 0 by decide), h1, nI_1]
      exact ih f1 f2 (c + 1) m (by omega) (by omega) (by omega)
theorem m_lamp (hO : OKp R C ho ou eb nt T tl wn a p kN mN Lm Ls) (hM : MDp R C ho ou eb nt T tl wn a p kN mN Lm Ls z told tape d) (hE : EK er fo) (x : Int32) : ∃ (r : Int32) (er' fo' : Nat → Int32), f_X11_lamp x er (nI R) (nI C) (lf a) = some (r, er') ∧ f_X12_lamp x d fo = some (r, fo') ∧ EK er' fo' := by
  have h25 := RC25 hO.2.2.1 hO.2.2.2.1
  obtain ⟨r, e', f', g1, g2, g3⟩ := err_1 hE
  unfold f_X11_lamp f_X12_lamp f_X10_cells
  rw [isWay_c, isWay_m, px_kb, px_kb, px_kb, pk_mul]
  by_cases hx : vp_in x 4
  · obtain ⟨w, hw, rfl⟩ := vp_in_of hx (by decide)
    obtain ⟨r, q1, q2⟩ := lamp_run hO hM hE hw (R * C) gFuel gFuel 0 0 (by omega) (by unfold gFuel; omega) (by unfold gFuel; omega)
    rw [bI_in hx, i10, i10]
    exact ⟨r, er, fo, q1, q2, hE⟩
  · rw [bI_out hx, i00, i00, g1, g2, px_kb2, px_kb2]
    exact ⟨r, e', f', rfl, rfl, g3⟩
end RG
