/-! the two objects when they are new -/
theorem z_lf : (fun _ => 0 : Nat → Int32) = lf (fun _ => 0) := funext fun _ => rfl
theorem z_opn : (fun _ => 0 : Nat → Int32) = lf (opn 0) := funext fun j => by
  show (0 : Int32) = nI (opn 0 j)
  unfold opn
  rw [Nat.zero_div]
  rfl
theorem p5_lf {w : Nat → Int32} (h : f_J7_fill_53178 5 25 (fun _ => 0) = some w) : w = lf p5 := by
  obtain ⟨P, q1, q2⟩ := fill_eq 5 25 (by decide) (fun _ => 0)
  rw [q1] at h
  cases h
  funext j
  rw [q2]
  show _ = nI (p5 j)
  unfold p5
  by_cases h : j < 25
  · rw [if_pos h, if_pos h]; rfl
  · rw [if_neg h, if_neg h]; rfl
theorem PasteOK_p5 : PasteOK p5 := ⟨fun j => by unfold p5; split <;> omega, fun j hj => if_neg (by omega)⟩
theorem AirOK_0 : AirOK (fun _ => 0) := ⟨fun _ => Nat.zero_le _, fun _ _ => rfl⟩
theorem SC_0 {w : Nat → Int32} (h : f_J7_fill_53178 5 25 (fun _ => 0) = some w) : SC (fun _ => 0) (fun _ => 0) w := ⟨fun _ => 0, p5, 0, z_lf, p5_lf h, z_opn, by decide, AirOK_0, PasteOK_p5⟩
theorem CO_0 (L : List Int32) (side : Nat) : CO L side 1 (fun _ => 0) := fun p hp => ⟨0, 0, rfl, by decide, by decide, fun e => absurd e (by decide)⟩
theorem MD_new {w_13 : Nat → Int32} (h : f_X12_builds 4 4 (upd (fun _ => 0) (6 : Int32).toNatClampNeg 1) = some w_13) : MDp 4 4 0 0 0 0 0 0 0 (fun _ => 0) p5 (fun _ => 0) (fun _ => 0) [-1, 2, -47] [-1] 1 (fun _ => 0) (fun _ => 0) w_13 := by
  obtain ⟨d', q5, q6⟩ := builds_run 25 gFuel 0 (upd (upd (upd (fun _ => 0) 6 1) 0 (nI 4)) 1 (nI 4)) (by omega) (by unfold gFuel; omega)
  have q5' : f_X12_builds_L16 gFuel 0 (upd (upd (upd (fun _ => 0) 6 1) 0 4) 1 4) = some d' := q5
  unfold f_X12_builds at h
  rw [c_0, z_0, px_nm, c_1, z_1, px_nm, z_6, q5'] at h
  have hd : d' = w_13 := Option.some.inj h
  rw [← hd]
  clear h hd
  have e3 : ∀ j, 1 < j → j ≠ 6 → upd (upd (upd (fun _ => 0) 6 1) 0 (nI 4)) 1 (nI 4) j = 0 := fun j h1 h2 => (if_neg (by omega)).trans ((if_neg (by omega)).trans (if_neg h2))
  have z : ∀ j, (1 < j ∧ j < 10 ∨ 60 ≤ j) → j ≠ 6 → d' j = 0 := fun j h1 h2 => by rw [q6, if_neg (by omega), if_neg (by omega), e3 j (by omega) h2]
  refine ⟨⟨?_, ?_, z 3 (by omega) (by omega), z 4 (by omega) (by omega), z 9 (by omega) (by omega), fun j hj => ?_, fun j hj => ?_⟩, z 2 (by omega) (by omega), z 5 (by omega) (by omega), ?_, z 7 (by omega) (by omega), z 8 (by omega) (by omega), fun j hj => ⟨z _ (by omega) (by omega), z _ (by omega) (by omega)⟩, Or.inl ⟨z _ (by omega) (by omega), rfl⟩, Or.inl ⟨z _ (by omega) (by omega), rfl⟩, fun j hj => z _ (by omega) (by omega), fun j hj => ⟨z _ (by omega) (by omega), 0, by decide, rfl⟩⟩
  · rw [q6, if_neg (by omega), if_neg (by omega)]
    exact (if_neg (by decide)).trans (if_pos rfl)
  · rw [q6, if_neg (by omega), if_neg (by omega)]
    exact if_pos rfl
  · rw [q6, if_pos (by omega)]; rfl
  · rw [q6, if_neg (by omega), if_pos (by omega)]
    unfold p5
    rw [if_pos hj]; rfl
  · rw [q6, if_neg (by omega), if_neg (by omega)]
    exact (if_neg (by decide)).trans ((if_neg (by decide)).trans (if_pos rfl))
theorem RP_m : RP (upd (upd (upd (fun _ => 0) (0 : Int32).toNatClampNeg (-1)) (1 : Int32).toNatClampNeg 2) (2 : Int32).toNatClampNeg (-47)) [-1, 2, -47] := by
  intro i hi
  match i, hi with
  | 0, _ => rfl
  | 1, _ => rfl
  | 2, _ => rfl
theorem RP_s : RP (upd (fun _ => 0) (0 : Int32).toNatClampNeg (-1)) [-1] := by
  intro i hi
  match i, hi with
  | 0, _ => rfl
theorem RR_new {w_3 w_7 w_28 w_32 w_13 : Nat → Int32} (h3 : f_J7_fill_53178 5 25 (fun _ => 0) = some w_3) (h7 : f_J7_fill_53178 5 25 (fun _ => 0) = some w_7) (h28 : f_J7_fill_53178 5 25 (fun _ => 0) = some w_28) (h32 : f_J7_fill_53178 5 25 (fun _ => 0) = some w_32) (h13 : f_X12_builds 4 4 (upd (fun _ => 0) (6 : Int32).toNatClampNeg 1) = some w_13) :
    RR 1 0 (fun _ => 0) 0 0 1 0 (fun _ => 0) (fun _ => 0) 3 1 (fun _ => 0) (upd (upd (upd (fun _ => 0) (0 : Int32).toNatClampNeg (-1)) (1 : Int32).toNatClampNeg 2) (2 : Int32).toNatClampNeg (-47)) 1 1 (fun _ => 0) (upd (fun _ => 0) (0 : Int32).toNatClampNeg (-1)) (fun _ => 0) (fun _ => 0) 4 4 0 0 0 (fun _ => 0) (fun _ => 0) w_3 0 0 1 0 (fun _ => 0) (fun _ => 0) 3 (upd (upd (upd (fun _ => 0) (0 : Int32).toNatClampNeg (-1)) (1 : Int32).toNatClampNeg 2) (2 : Int32).toNatClampNeg (-47)) 1 (upd (fun _ => 0) (0 : Int32).toNatClampNeg (-1)) (fun _ => 0) (fun _ => 0) 4 4 0 0 0 (fun _ => 0) (fun _ => 0) w_7 (fun _ => 0) (fun _ => 0) (fun _ _ => 0) 0 (fun _ => 0) (fun _ => 0) (fun _ => 0) w_28 (fun _ => 0) (fun _ => 0) w_32 w_13 (fun _ => 0) (fun _ => 0) (fun _ => 0) (fun _ => 0) (fun _ => 0) 0 0 (fun _ => 0) :=
  ⟨4, 4, 0, 0, 0, 0, 0, 0, 0, 1, 1, fun _ => 0, p5, fun _ => 0, fun _ => 0, [-1, 2, -47], [-1], ⟨by decide, by decide, by decide, by decide, AirOK_0, PasteOK_p5, by decide, by decide, by decide, by decide, by decide, by decide, by decide, fun _ _ => ⟨show 0 < 7 by decide, show 0 < 10 by decide⟩, by decide, by decide⟩, MD_new h13, fun _ _ _ => rfl, Nat.le_refl _, Nat.le_refl _, RP_m, RP_s, CO_0 _ _, CO_0 _ _, fun _ _ => rfl, fun _ _ => rfl, rfl, rfl, rfl, rfl, rfl, rfl, rfl, rfl, rfl, rfl, rfl, rfl, z_lf, z_opn, p5_lf h3, rfl, fun h => absurd rfl h, SC_0 h7, ⟨fun _ _ => ⟨rfl, Or.inl rfl, 0, by decide, rfl, rfl⟩, fun _ _ _ _ => NR_0⟩, ⟨0, by decide, rfl, rfl, fun j hj => absurd hj (Nat.not_lt_zero j)⟩, SC_0 h28, SC_0 h32⟩
