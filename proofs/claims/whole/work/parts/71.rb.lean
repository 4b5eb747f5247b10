/-! the calls: wall, set, edge, tools -/
section RB
variable {R C ho ou eb nt T tl wn : Nat} {a p kN mN : Nat → Nat} {Lm Ls : List Int32} {z : Int32} {told tape d er fo : Nat → Int32}

/-- only the wall has changed -/
def SP (d d' : Nat → Int32) : Prop := ∀ j, ¬ (j = 0 ∨ j = 1 ∨ j = 3 ∨ j = 4 ∨ j = 9 ∨ (10 ≤ j ∧ j < 60)) → d' j = d j
theorem MD_wall {R' C' ho' ou' eb' : Nat} {a' p' : Nat → Nat} {d' : Nat → Int32} (h : MDp R C ho ou eb nt T tl wn a p kN mN Lm Ls z told tape d) (hW : MW d' R' C' ho' ou' eb' a' p') (hS : SP d d') :
    MDp R' C' ho' ou' eb' nt T tl wn a' p' kN mN Lm Ls z told tape d' := by
  obtain ⟨h0, h2, h5, h6, h7, h8, hT, hL0, hL1, ht, htp⟩ := h
  have hs : ∀ j, 60 ≤ j → d' j = d j := fun j hj => hS j (by omega)
  exact ⟨hW, by rw [hS 2 (by omega)]; exact h2, by rw [hS 5 (by omega)]; exact h5, by rw [hS 6 (by omega)]; exact h6, by rw [hS 7 (by omega)]; exact h7, by rw [hS 8 (by omega)]; exact h8, fun j hj => MT_same (hT j hj) hs, LM_same (by decide) hL0 hs, LM_same (by decide) hL1 hs, fun j hj => by rw [hS _ (by omega)]; exact ht j hj, fun j hj => by rw [hS _ (by omega)]; exact htp j hj⟩
theorem MW_paste {holes out : Nat} {air paste : Nat → Nat} (h : MW d R C holes out eb air paste) {c : Nat} (hc : c < 25) (v : Nat) : MW (upd d (35 + c) (nI v)) R C holes out eb air (va_up paste c v) := by
  obtain ⟨h0, h1, h3, h4, h9, ha, hp⟩ := h
  have hn : ∀ j, j ≠ 35 + c → upd d (35 + c) (nI v) j = d j := fun j hj => if_neg hj
  refine ⟨by rw [hn _ (by omega)]; exact h0, by rw [hn _ (by omega)]; exact h1, by rw [hn _ (by omega)]; exact h3, by rw [hn _ (by omega)]; exact h4, by rw [hn _ (by omega)]; exact h9, fun j hj => by rw [hn _ (by omega)]; exact ha j hj, fun j hj => ?_⟩
  by_cases e : j = c
  · subst e
    rw [va_up_at]
    exact if_pos rfl
  · rw [vu_ne _ _ e, hn _ (by omega)]
    exact hp j hj
theorem PasteOK_up {q : Nat → Nat} (h : PasteOK q) {c v : Nat} (hc : c < 25) (hv : v ≤ 9) : PasteOK (va_up q c v) := by
  refine ⟨va_up_le h.1 c hv, fun j hj => ?_⟩
  rw [vu_ne _ _ (by omega)]
  exact h.2 j hj
theorem m_set (hO : OKp R C ho ou eb nt T tl wn a p kN mN Lm Ls) (hM : MDp R C ho ou eb nt T tl wn a p kN mN Lm Ls z told tape d) (hE : EK er fo) (x w v : Int32) :
    ∃ (r : Int32) (er' fo' d' : Nat → Int32) (a' p' : Nat → Nat), f_X11_set x w v er (nI R) (nI C) (lf a) (lf p) = some (r, er', lf a', lf p') ∧ f_X12_set x w v d fo = some (r, d', fo') ∧ EK er' fo' ∧
      OKp R C ho ou eb nt T tl wn a' p' kN mN Lm Ls ∧ MDp R C ho ou eb nt T tl wn a' p' kN mN Lm Ls z told tape d' := by
  obtain ⟨o1, o2, o3, o4, o5, o6, o7⟩ := id hO
  have h25 := RC25 o3 o4
  obtain ⟨r, e', f', g1, g2, g3⟩ := err_1 hE
  have ec : f_X11_set_L36 er (lf a) (lf p) = some (r, e', lf a, lf p) := by unfold f_X11_set_L36; rw [g1, px_kb2]
  have em : f_X12_set_L40 d fo = some (r, d, f') := by unfold f_X12_set_L40; rw [g2, px_kb2]
  unfold f_X11_set f_X12_set
  rw [isCell_c x o3 o4, isCell_m x hM.1 o3 o4, px_kb, px_kb, wi_1, in_1, px_kb, px_kb]
  by_cases hx : vp_in x (R * C)
  · obtain ⟨c, hc, rfl⟩ := vp_in_of hx (by omega)
    rw [bI_in hx, i10, i10]
    by_cases hw : vp_in w 2
    · obtain ⟨k, hk, rfl⟩ := vp_in_of hw (by decide)
      rw [bI_in hw, i10, i10]
      unfold f_X11_set_L30 f_X12_set_L34
      rw [show f_X11_within v 0 99 = some (bI v 100) from within_n v 99 (by decide), in_n v 99 99 (by decide) (by decide), show f_X11_within v 0 9 = some (bI v 10) from within_n v 9 (by decide), in_n v 9 9 (by decide) (by decide), px_kb, px_kb, px_kb, px_kb]
      match k, hk with
      | 0, _ =>
        rw [if_pos (show nI 0 = 0 from rfl), if_pos (show nI 0 = 0 from rfl)]
        by_cases hv : vp_in v 100
        · obtain ⟨y, hy, rfl⟩ := vp_in_of hv (by decide)
          rw [bI_in hv, i10, i10, if_pos (show nI 0 = 0 from rfl), if_pos (show nI 0 = 0 from rfl)]
          unfold f_X11_set_L69b f_X12_set_L57
          obtain ⟨w1, w2⟩ := MW_air hM.1 (c := c) (by omega) y
          rw [px_in (by omega) (by decide), px_nm, px_in (by omega) (by decide), px_nm, nI_clamp (by omega), lf_at, lf_up, n10, px_nm, ch_d (by omega), px_nm, ch_d (by omega), px_nm, nI_clamp (by omega), hM.1.2.2.2.2.2.1 c (by omega)]
          exact ⟨_, er, fo, _, _, p, rfl, rfl, hE, ⟨o1, o2, o3, o4, AirOK_up o5 (by omega) (by omega), o6, o7⟩, MD_strk hM w1 w2⟩
        · rw [bI_out hv, i00, i00, ec, em]
          exact ⟨r, e', f', d, a, p, rfl, rfl, g3, hO, hM⟩
      | 1, _ =>
        rw [if_neg (show ¬ nI 1 = 0 by decide), if_neg (show ¬ nI 1 = 0 by decide)]
        by_cases hv : vp_in v 10
        · obtain ⟨y, hy, rfl⟩ := vp_in_of hv (by decide)
          rw [bI_in hv, i10, i10, if_neg (show ¬ nI 1 = 0 by decide), if_neg (show ¬ nI 1 = 0 by decide)]
          unfold f_X11_set_L69 f_X12_set_L57
          rw [px_in (by omega) (by decide), px_nm, px_in (by omega) (by decide), px_nm, nI_clamp (by omega), lf_at, lf_up, n35, px_nm, ch_d (by omega), px_nm, ch_d (by omega), px_nm, nI_clamp (by omega), hM.1.2.2.2.2.2.2 c (by omega)]
          exact ⟨_, er, fo, _, a, _, rfl, rfl, hE, ⟨o1, o2, o3, o4, o5, PasteOK_up o6 (by omega) (by omega), o7⟩, MD_wall hM (MW_paste hM.1 (by omega) y) (fun j hj => if_neg (by omega))⟩
        · rw [bI_out hv, i00, i00, ec, em]
          exact ⟨r, e', f', d, a, p, rfl, rfl, g3, hO, hM⟩
    · rw [bI_out hw, i00, i00, ec, em]
      exact ⟨r, e', f', d, a, p, rfl, rfl, g3, hO, hM⟩
  · rw [bI_out hx, i00, i00, ec, em]
    exact ⟨r, e', f', d, a, p, rfl, rfl, g3, hO, hM⟩
def setb (e w v : Nat) : Nat := e - opn e w * 2 ^ w + v * 2 ^ w
theorem setb_all : ∀ e, e < 16 → ∀ w, w < 4 → (setb e w 1 < 16 ∧ setb e w 0 < 16 ∧ nI e ||| (1 <<< (nI w &&& 31)) = nI (setb e w 1) ∧ nI e &&& ((1 <<< (nI w &&& 31)) ^^^ (-1)) = nI (setb e w 0)) := by decide +kernel
theorem setb_opn : ∀ e, e < 16 → ∀ w, w < 4 → ∀ v, v < 2 → ∀ j, j < 4 → opn (setb e w v) j = va_up (opn e) w v j := by decide +kernel
theorem setb_fun {e w v : Nat} (he : e < 16) (hw : w < 4) (hv : v < 2) : va_up (opn e) w v = opn (setb e w v) := by
  obtain ⟨s1, s2, -⟩ := setb_all e he w hw
  funext j
  by_cases hj : j < 4
  · exact (setb_opn e he w hw v hv j hj).symm
  · have hb : setb e w v < 16 := by
      match v, hv with
      | 0, _ => exact s2
      | 1, _ => exact s1
    rw [opn_z hb j (by omega), vu_ne _ _ (by omega), opn_z he j (by omega)]
theorem m_edge (hO : OKp R C ho ou eb nt T tl wn a p kN mN Lm Ls) (hM : MDp R C ho ou eb nt T tl wn a p kN mN Lm Ls z told tape d) (hE : EK er fo) (x v : Int32) :
    ∃ (r : Int32) (er' fo' d' : Nat → Int32) (eb' : Nat), f_X11_edge x v er (lf (opn eb)) = some (r, er', lf (opn eb')) ∧ f_X12_edge x v d fo = some (r, d', fo') ∧ EK er' fo' ∧
      OKp R C ho ou eb' nt T tl wn a p kN mN Lm Ls ∧ MDp R C ho ou eb' nt T tl wn a p kN mN Lm Ls z told tape d' := by
  obtain ⟨o1, o2, o3, o4, o5, o6, o7, o8, o9, o10⟩ := id hO
  obtain ⟨r, e', f', g1, g2, g3⟩ := err_1 hE
  have ec : f_X11_edge_L16 er (lf (opn eb)) = some (r, e', lf (opn eb)) := by unfold f_X11_edge_L16; rw [g1, px_kb2]
  have em : f_X12_edge_L17 d fo = some (r, d, f') := by unfold f_X12_edge_L17; rw [g2, px_kb2]
  unfold f_X11_edge f_X12_edge
  rw [isWay_c, isWay_m, px_kb, px_kb, wi_1, in_1, px_kb, px_kb]
  by_cases hx : vp_in x 4
  · obtain ⟨w, hw, rfl⟩ := vp_in_of hx (by decide)
    rw [bI_in hx, i10, i10]
    by_cases hv : vp_in v 2
    · obtain ⟨k, hk, rfl⟩ := vp_in_of hv (by decide)
      obtain ⟨s1, s2, s3, s4⟩ := setb_all eb o9 w hw
      rw [bI_in hv, i10, i10, px_in hw (by decide), px_nm, px_in hw (by decide), px_nm, nI_clamp (by omega), lf_at, lf_up, setb_fun o9 hw hk, isOpen_d, hM.1.2.2.2.2.1, isOpen_all eb o9 w hw, px_kb]
      have key : f_X12_edge_L36 (nI w) (nI k) (nI (opn eb w)) d fo = some (nI (opn eb w), upd d 9 (nI (setb eb w k)), fo) := by
        unfold f_X12_edge_L36
        simp only [c_9, z_9, px_nm, hM.1.2.2.2.2.1]
        match k, hk with
        | 0, _ => rw [if_neg (show ¬ nI 0 = 1 by decide), s4]
        | 1, _ => rw [if_pos (show nI 1 = 1 from rfl), s3]
      have hlt : opn eb w < 2 := Nat.mod_lt _ (by decide)
      have hsb : setb eb w k < 16 := by
        match k, hk with
        | 0, _ => exact s2
        | 1, _ => exact s1
      have hW9 : MW (upd d 9 (nI (setb eb w k))) R C ho ou (setb eb w k) a p := by
        obtain ⟨h0, h1, h3, h4, h9, ha, hp⟩ := hM.1
        have hn : ∀ j, j ≠ 9 → upd d 9 (nI (setb eb w k)) j = d j := fun j hj => if_neg hj
        exact ⟨by rw [hn _ (by omega)]; exact h0, by rw [hn _ (by omega)]; exact h1, by rw [hn _ (by omega)]; exact h3, by rw [hn _ (by omega)]; exact h4, if_pos rfl, fun j hj => by rw [hn _ (by omega)]; exact ha j hj, fun j hj => by rw [hn _ (by omega)]; exact hp j hj⟩
      have fin : (if (if opn eb w = 1 then (1 : Int32) else 0) = 0 then f_X12_edge_L36 (nI w) (nI k) 0 d fo else f_X12_edge_L36 (nI w) (nI k) 1 d fo) = f_X12_edge_L36 (nI w) (nI k) (nI (opn eb w)) d fo := by
        by_cases h1 : opn eb w = 1
        · rw [if_pos h1, if_neg (by decide), h1]; rfl
        · have h0 : opn eb w = 0 := by omega
          rw [if_neg h1, if_pos rfl, h0]; rfl
      rw [fin, key]
      exact ⟨_, er, fo, _, setb eb w k, rfl, rfl, hE, ⟨o1, o2, o3, o4, o5, o6, o7, o8, hsb, o10⟩, MD_wall hM hW9 (fun j hj => if_neg (by omega))⟩
    · rw [bI_out hv, i00, i00, ec, em]
      exact ⟨r, e', f', d, eb, rfl, rfl, g3, hO, hM⟩
  · rw [bI_out hx, i00, i00, ec, em]
    exact ⟨r, e', f', d, eb, rfl, rfl, g3, hO, hM⟩
end RB
