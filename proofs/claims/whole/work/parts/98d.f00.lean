abbrev rm_J0_coder_7d493 : Room := { frames := 0, cells := 0, slots := 0, locals := 0 }
set_option maxHeartbeats 4000000 in
set_option maxRecDepth 100000 in
theorem c_J0_coder_7d493 (l : Launch) (D : va_G) (c : Nat → ClassId) (s_this : Nat) (o_r : Int32) (h : f_J0_coder_7d493 s_this = some o_r) : gMI l yJ0_coder_7d493 wsJ0_coder_7d493 rm_J0_coder_7d493 D c [.ref (c (10 + s_this))] [] [] o_r := by
  refine gMI_of (cc := cJ0_coder_7d493) (maxL := 1) (rt := (some .byte)) (by decide +kernel) rfl (Nat.le_of_ble_eq_true rfl) ?_
  intro p e s m below meth co A hF hK hX hP hD hA hS ls hl
  obtain ⟨hx, hb, hr, hts, hown, hlocks, hml⟩ := id hF
  have hl : lv_has ls 1 [(0, .ref (c (10 + s_this)))] := hl
  unfold f_J0_coder_7d493 at h
  refine va_gets (v := .int 1) hx hb hX.2 hS hown (hts (.fieldLink RJ0 38 "java/lang/String" "COMPACT_STRINGS" "Z") (List.mem_of_getElem? (i := 1) rfl)) (fun _ h9 => h9) dJ0_coder_7d493_0 ?_
  refine lv_if_eq (tgt := 13) hx hb dJ0_coder_7d493_3 (by decide) (fun c_1 => ?_) (fun c_1 => ?_)
  · replace h := it_t c_1 h
    refine lv_iconst (v := 1) hx hb dJ0_coder_7d493_13 (by decide) ?_
    replace h := so1 h
    subst h
    exact gIret hF hP hD hS rfl dJ0_coder_7d493_14
  · replace h := it_f c_1 h
    refine lv_aload_n hx hb dJ0_coder_7d493_6 rfl (lv_at hl 0 rfl) ?_
    replace h := chs_ok h
    obtain ⟨hi_2, h⟩ := h
    refine vk_getf (v := .int 0) hx hb (hX.1.1 s_this hi_2).2.1 hS hown (hts (.fieldLink RJ0 15 "java/lang/String" "coder" "B") (List.mem_of_getElem? (i := 2) rfl)) (fun _ h9 => h9) dJ0_coder_7d493_7 ?_
    refine lv_goto (tgt := 14) hx hb dJ0_coder_7d493_10 (by decide) ?_
    replace h := so1 h
    subst h
    exact gIret hF hP hD hS rfl dJ0_coder_7d493_14
abbrev rm_J0_isLatin1_aae02 : Room := { frames := 0, cells := 0, slots := 0, locals := 0 }
set_option maxHeartbeats 4000000 in
set_option maxRecDepth 100000 in
theorem c_J0_isLatin1_aae02 (l : Launch) (D : va_G) (c : Nat → ClassId) (s_this : Nat) (o_r : Int32) (h : f_J0_isLatin1_aae02 s_this = some o_r) : gMI l yJ0_isLatin1_aae02 wsJ0_isLatin1_aae02 rm_J0_isLatin1_aae02 D c [.ref (c (10 + s_this))] [] [] o_r := by
  refine gMI_of (cc := cJ0_isLatin1_aae02) (maxL := 1) (rt := (some .boolean)) (by decide +kernel) rfl (Nat.le_of_ble_eq_true rfl) ?_
  intro p e s m below meth co A hF hK hX hP hD hA hS ls hl
  obtain ⟨hx, hb, hr, hts, hown, hlocks, hml⟩ := id hF
  have hl : lv_has ls 1 [(0, .ref (c (10 + s_this)))] := hl
  unfold f_J0_isLatin1_aae02 at h
  refine va_gets (v := .int 1) hx hb hX.2 hS hown (hts (.fieldLink RJ0 38 "java/lang/String" "COMPACT_STRINGS" "Z") (List.mem_of_getElem? (i := 1) rfl)) (fun _ h9 => h9) dJ0_isLatin1_aae02_0 ?_
  refine lv_if_eq (tgt := 17) hx hb dJ0_isLatin1_aae02_3 (by decide) (fun c_1 => ?_) (fun c_1 => ?_)
  · replace h := it_t c_1 h
    refine lv_iconst (v := 0) hx hb dJ0_isLatin1_aae02_17 (by decide) ?_
    replace h := so1 h
    subst h
    exact gIret hF hP hD hS rfl dJ0_isLatin1_aae02_18
  · replace h := it_f c_1 h
    refine lv_aload_n hx hb dJ0_isLatin1_aae02_6 rfl (lv_at hl 0 rfl) ?_
    replace h := chs_ok h
    obtain ⟨hi_2, h⟩ := h
    refine vk_getf (v := .int 0) hx hb (hX.1.1 s_this hi_2).2.1 hS hown (hts (.fieldLink RJ0 15 "java/lang/String" "coder" "B") (List.mem_of_getElem? (i := 2) rfl)) (fun _ h9 => h9) dJ0_isLatin1_aae02_7 ?_
    refine lv_if_ne (tgt := 17) hx hb dJ0_isLatin1_aae02_10 (by decide) (fun c_3 => ?_) (fun c_3 => ?_)
    · replace h := it_f c_3 h
      refine lv_iconst (v := 0) hx hb dJ0_isLatin1_aae02_17 (by decide) ?_
      replace h := so1 h
      subst h
      exact gIret hF hP hD hS rfl dJ0_isLatin1_aae02_18
    · replace h := it_t c_3 h
      refine lv_iconst (v := 1) hx hb dJ0_isLatin1_aae02_13 (by decide) ?_
      refine lv_goto (tgt := 18) hx hb dJ0_isLatin1_aae02_14 (by decide) ?_
      replace h := so1 h
      subst h
      exact gIret hF hP hD hS rfl dJ0_isLatin1_aae02_18
abbrev rm_J0_length_8abf5 : Room := { frames := 1, cells := 0, slots := 0, locals := 20 }
set_option maxHeartbeats 4000000 in
set_option maxRecDepth 100000 in
theorem c_J0_length_8abf5 (l : Launch) (D : va_G) (c : Nat → ClassId) (s_this : Nat) (o_r : Int32) (h : f_J0_length_8abf5 s_this = some o_r) : gMI l yJ0_length_8abf5 wsJ0_length_8abf5 rm_J0_length_8abf5 D c [.ref (c (10 + s_this))] [] [] o_r := by
  refine gMI_of (cc := cJ0_length_8abf5) (maxL := 1) (rt := (some .int)) (by decide +kernel) rfl (Nat.le_of_ble_eq_true rfl) ?_
  intro p e s m below meth co A hF hK hX hP hD hA hS ls hl
  obtain ⟨hx, hb, hr, hts, hown, hlocks, hml⟩ := id hF
  have hl : lv_has ls 1 [(0, .ref (c (10 + s_this)))] := hl
  unfold f_J0_length_8abf5 at h
  refine lv_aload_n hx hb dJ0_length_8abf5_0 rfl (lv_at hl 0 rfl) ?_
  replace h := chs_ok h
  obtain ⟨hi_1, h⟩ := h
  refine vk_getf (v := .ref (c (20 + s_this))) hx hb (hX.1.1 s_this hi_1).2.2.1 hS hown (hts (.fieldLink RJ0 9 "java/lang/String" "value" "[B") (List.mem_of_getElem? (i := 1) rfl)) (fun _ h9 => h9) dJ0_length_8abf5_1 ?_
  replace h := chs_ok h
  obtain ⟨hi_2, h⟩ := h
  refine va_tlen (v := Int32.ofNat (gLen.getD s_this 0)) hx hb (hX.1.1 s_this hi_2).2.2.2 hS rfl dJ0_length_8abf5_4 ?_
  replace h := nm_ok h
  obtain ⟨t_3, et_3, h⟩ := h
  refine gTop et_3 ?_
  refine lv_aload_n hx hb dJ0_length_8abf5_5 rfl (lv_at hl 0 rfl) ?_
  replace h := chs_ok h
  obtain ⟨hi_6, h⟩ := h
  replace h := kb_ok h
  obtain ⟨r_5, hc_4, h⟩ := h
  refine gCallIr (isC := []) (wc := []) hP hD hS hA trivial (va_runV (rm := rm_J0_coder_7d493) (ws := wsJ0_coder_7d493) (As := []) (rest := [.int t_3]) (gFix hF) (c_J0_coder_7d493 l D c s_this r_5 hc_4 s.heap.size) (cwV 0 hts gJ0_length_8abf5_J0_coder_7d493 rfl rfl rfl (by decide +kernel) ⟨Nat.le_of_ble_eq_true rfl, Nat.le_of_ble_eq_true rfl⟩) (gPreVS (i := s_this) hi_6 (wc := []) (isC := []) hK hX hS hA hP hD trivial (by decide +kernel)) rfl rfl hl.1 rfl (lv_room (Nat.le_of_ble_eq_true rfl)) dJ0_length_8abf5_6 ⟨Nat.le_of_ble_eq_true rfl, Nat.le_of_ble_eq_true rfl⟩) (fun H locs hP hS => ?_)
  refine lv_ishr hx hb dJ0_length_8abf5_9 ?_
  replace h := so1 h
  subst h
  exact gIret hF hP hD hS rfl dJ0_length_8abf5_10
abbrev rm_J1_canEncode_9a6ad : Room := { frames := 0, cells := 0, slots := 0, locals := 0 }
set_option maxHeartbeats 4000000 in
set_option maxRecDepth 100000 in
theorem c_J1_canEncode_9a6ad (l : Launch) (D : va_G) (c : Nat → ClassId) (a_0 : Int32) (o_r : Int32) (h : f_J1_canEncode_9a6ad a_0 = some o_r) : gMI l yJ1_canEncode_9a6ad wsJ1_canEncode_9a6ad rm_J1_canEncode_9a6ad D c [.int a_0] [] [] o_r := by
  refine gMI_of (cc := cJ1_canEncode_9a6ad) (maxL := 1) (rt := (some .boolean)) (by decide +kernel) rfl (Nat.le_of_ble_eq_true rfl) ?_
  intro p e s m below meth co A hF hK hX hP hD hA hS ls hl
  obtain ⟨hx, hb, hr, hts, hown, hlocks, hml⟩ := id hF
  have hl : lv_has ls 1 [(0, .int a_0)] := hl
  unfold f_J1_canEncode_9a6ad at h
  refine lv_iload_n hx hb dJ1_canEncode_9a6ad_0 rfl (lv_at hl 0 rfl) ?_
  refine lv_if_lt (tgt := 15) hx hb dJ1_canEncode_9a6ad_1 (by decide) (fun c_1 => ?_) (fun c_1 => ?_)
  · replace h := it_t c_1 h
    refine lv_iconst (v := 0) hx hb dJ1_canEncode_9a6ad_15 (by decide) ?_
    replace h := so1 h
    subst h
    exact gIret hF hP hD hS rfl dJ1_canEncode_9a6ad_16
  · replace h := it_f c_1 h
    refine lv_iload_n hx hb dJ1_canEncode_9a6ad_4 rfl (lv_at hl 0 rfl) ?_
    refine lv_sipush (v := 255) hx hb dJ1_canEncode_9a6ad_5 (by decide) ?_
    refine lv_icmp_gt (tgt := 15) hx hb dJ1_canEncode_9a6ad_8 (by decide) (fun c_2 => ?_) (fun c_2 => ?_)
    · replace h := it_t c_2 h
      refine lv_iconst (v := 0) hx hb dJ1_canEncode_9a6ad_15 (by decide) ?_
      replace h := so1 h
      subst h
      exact gIret hF hP hD hS rfl dJ1_canEncode_9a6ad_16
    · replace h := it_f c_2 h
      refine lv_iconst (v := 1) hx hb dJ1_canEncode_9a6ad_11 (by decide) ?_
      refine lv_goto (tgt := 16) hx hb dJ1_canEncode_9a6ad_12 (by decide) ?_
      replace h := so1 h
      subst h
      exact gIret hF hP hD hS rfl dJ1_canEncode_9a6ad_16
abbrev rm_J1_indexOfChar_4cfef : Room := { frames := 0, cells := 0, slots := 0, locals := 0 }
set_option maxHeartbeats 4000000 in
set_option maxRecDepth 100000 in
theorem c_J1_indexOfChar_4cfef (l : Launch) (D : va_G) (c : Nat → ClassId) (s_this : Nat) (a_1 : Int32) (a_2 : Int32) (a_3 : Int32) (o_r : Int32) (h : f_J1_indexOfChar_4cfef a_1 a_2 a_3 s_this = some o_r) : gMI l yJ1_indexOfChar_4cfef wsJ1_indexOfChar_4cfef rm_J1_indexOfChar_4cfef D c [.ref (c (20 + s_this)), .int a_1, .int a_2, .int a_3] [] [] o_r := by
  refine gMI_of (cc := cJ1_indexOfChar_4cfef) (maxL := 6) (rt := (some .int)) (by decide +kernel) rfl (Nat.le_of_ble_eq_true rfl) ?_
  intro p e s m below meth co A hF hK hX hP hD hA hS ls hl
  obtain ⟨hx, hb, hr, hts, hown, hlocks, hml⟩ := id hF
  have hl : lv_has ls 6 [(0, .ref (c (20 + s_this))), (1, .int a_1), (2, .int a_2), (3, .int a_3)] := hl
  have t_L7 : ∀ (n : Nat), ∀ (x4 : Int32) (x5 : Int32) (H : Heap) (locs : List Loc), va_P D gcl [] H → va_D A [] → va_S A s.heap H locs → ∀ ls, lv_has ls 6 [(0, .ref (c (20 + s_this))), (3, .int a_3), (4, .int x4), (5, .int x5)] → f_J1_indexOfChar_4cfef_L7 a_3 s_this n x4 x5 = some o_r → W p l e (headSpec wsJ1_indexOfChar_4cfef rm_J1_indexOfChar_4cfef).room s m [.ref (c (20 + s_this)), .int a_1, .int a_2, .int a_3].toArray below meth co H locs 0 0 (gQI D [] o_r A below [.ref (c (20 + s_this)), .int a_1, .int a_2, .int a_3] s) (F0 m 7 ls []) := by
    intro n
    induction n with
    | zero => intro x4 x5 H locs hP hD hS ls hl h; exact no_ok h
    | succ n ih =>
      intro x4 x5 H locs hP hD hS ls hl h
      rw [f_J1_indexOfChar_4cfef_L7] at h
      refine lv_iload hx hb dJ1_indexOfChar_4cfef_7 (lv_at hl 3 rfl) ?_
      refine lv_iload_n hx hb dJ1_indexOfChar_4cfef_9 rfl (lv_at hl 1 rfl) ?_
      refine lv_icmp_ge (tgt := 31) hx hb dJ1_indexOfChar_4cfef_10 (by decide) (fun c_2 => ?_) (fun c_2 => ?_)
      · replace h := it_t c_2 h
        refine lv_iconst (v := (-1)) hx hb dJ1_indexOfChar_4cfef_31 (by decide) ?_
        replace h := so1 h
        subst h
        exact gIret hF hP hD hS rfl dJ1_indexOfChar_4cfef_32
      · replace h := it_f c_2 h
        refine lv_aload_n hx hb dJ1_indexOfChar_4cfef_13 rfl (lv_at hl 0 rfl) ?_
        refine lv_iload hx hb dJ1_indexOfChar_4cfef_14 (lv_at hl 3 rfl) ?_
        replace h := chs_ok h
        obtain ⟨hi_3, h⟩ := h
        replace h := chi_ok h
        obtain ⟨hi_4, h⟩ := h
        refine va_tb hx hb (hX.1.1 s_this hi_3).2.2.2 hS hi_4 (v := .int ((gByt.getD s_this []).getD x5.toNatClampNeg 0)) rfl dJ1_indexOfChar_4cfef_16 ?_
        replace h := nm_ok h
        obtain ⟨t_5, et_5, h⟩ := h
        refine gTop et_5 ?_
        refine lv_iload hx hb dJ1_indexOfChar_4cfef_17 (lv_at hl 2 rfl) ?_
        refine lv_icmp_ne (tgt := 25) hx hb dJ1_indexOfChar_4cfef_19 (by decide) (fun c_6 => ?_) (fun c_6 => ?_)
        · replace h := it_f c_6 h
          replace h := nm_ok h
          obtain ⟨t_7, et_7, h⟩ := h
          refine lv_iinc (v := t_7) (lv' := [(5, .int t_7), (0, .ref (c (20 + s_this))), (3, .int a_3), (4, .int x4)]) hx hb dJ1_indexOfChar_4cfef_25 hl (k := 3) rfl (by rw [et_7]; rfl) (by decide) rfl (fun ls hl => ?_)
          refine lv_goto (tgt := 7) hx hb dJ1_indexOfChar_4cfef_28 (by decide) ?_
          exact ih x4 t_7 H locs hP hD hS ls (lv_sub hl [1, 2, 3, 0] rfl) h
        · replace h := it_t c_6 h
          refine lv_iload hx hb dJ1_indexOfChar_4cfef_22 (lv_at hl 3 rfl) ?_
          replace h := so1 h
          subst h
          exact gIret hF hP hD hS rfl dJ1_indexOfChar_4cfef_24
  unfold f_J1_indexOfChar_4cfef at h
  refine lv_iload_n hx hb dJ1_indexOfChar_4cfef_0 rfl (lv_at hl 1 rfl) ?_
  refine lv_i2b hx hb dJ1_indexOfChar_4cfef_1 rfl ?_
  replace h := nm_ok h
  obtain ⟨t_1, et_1, h⟩ := h
  refine gTop et_1 ?_
  refine lv_istore (lv' := [(4, .int t_1), (0, .ref (c (20 + s_this))), (1, .int a_1), (2, .int a_2), (3, .int a_3)]) hx hb dJ1_indexOfChar_4cfef_2 hl (by decide) rfl (fun ls hl => ?_)
  refine lv_iload_n hx hb dJ1_indexOfChar_4cfef_4 rfl (lv_at hl 3 rfl) ?_
  refine lv_istore (lv' := [(5, .int a_2), (4, .int t_1), (0, .ref (c (20 + s_this))), (1, .int a_1), (2, .int a_2), (3, .int a_3)]) hx hb dJ1_indexOfChar_4cfef_5 hl (by decide) rfl (fun ls hl => ?_)
  exact t_L7 gFuel t_1 a_2 s.heap [] hP hD hS ls (lv_sub hl [2, 5, 1, 0] rfl) h
abbrev rm_J1_indexOf_4cfef : Room := { frames := 1, cells := 0, slots := 0, locals := 25 }
set_option maxHeartbeats 4000000 in
set_option maxRecDepth 100000 in
theorem c_J1_indexOf_4cfef (l : Launch) (D : va_G) (c : Nat → ClassId) (s_this : Nat) (a_1 : Int32) (a_2 : Int32) (a_3 : Int32) (o_r : Int32) (h : f_J1_indexOf_4cfef a_1 a_2 a_3 s_this = some o_r) : gMI l yJ1_indexOf_4cfef wsJ1_indexOf_4cfef rm_J1_indexOf_4cfef D c [.ref (c (20 + s_this)), .int a_1, .int a_2, .int a_3] [] [] o_r := by
  refine gMI_of (cc := cJ1_indexOf_4cfef) (maxL := 4) (rt := (some .int)) (by decide +kernel) rfl (Nat.le_of_ble_eq_true rfl) ?_
  intro p e s m below meth co A hF hK hX hP hD hA hS ls hl
  obtain ⟨hx, hb, hr, hts, hown, hlocks, hml⟩ := id hF
  have hl : lv_has ls 4 [(0, .ref (c (20 + s_this))), (1, .int a_1), (2, .int a_2), (3, .int a_3)] := hl
  unfold f_J1_indexOf_4cfef at h
  refine lv_iload_n hx hb dJ1_indexOf_4cfef_0 rfl (lv_at hl 1 rfl) ?_
  replace h := kb_ok h
  obtain ⟨r_2, hc_1, h⟩ := h
  refine gCallIr (isC := []) (wc := []) hP hD hS hA trivial (va_runS (rm := rm_J1_canEncode_9a6ad) (ws := wsJ1_canEncode_9a6ad) (As := [.int a_1]) (rest := []) (gFix hF) (c_J1_canEncode_9a6ad l D c a_1 r_2 hc_1 s.heap.size) (va_cwS 1 hts gJ1_indexOf_4cfef_J1_canEncode_9a6ad rfl rfl rfl (by decide +kernel) ⟨Nat.le_of_ble_eq_true rfl, Nat.le_of_ble_eq_true rfl⟩) (gPreS (wc := []) (isC := []) hK hX hS hA hP hD trivial (by decide +kernel)) rfl rfl hl.1 rfl (lv_room (Nat.le_of_ble_eq_true rfl)) dJ1_indexOf_4cfef_1 ⟨Nat.le_of_ble_eq_true rfl, Nat.le_of_ble_eq_true rfl⟩) (fun H locs hP hS => ?_)
  refine lv_if_ne (tgt := 9) hx hb dJ1_indexOf_4cfef_4 (by decide) (fun c_3 => ?_) (fun c_3 => ?_)
  · replace h := it_f c_3 h
    refine lv_iload_n hx hb dJ1_indexOf_4cfef_9 rfl (lv_at hl 2 rfl) ?_
    refine lv_iconst (v := 0) hx hb dJ1_indexOf_4cfef_10 (by decide) ?_
    refine va_mmax hx hb (by rw [hml]; exact hl.1.symm) hown (hts (.methodLink RJ1 92 Lib.Math.max.name) (List.mem_of_getElem? (i := 1) rfl)) (hts (.static Lib.Math.max.name) (List.mem_of_getElem? (i := 2) rfl)) (hts (.initialized "java/lang/Math") (List.mem_of_getElem? (i := 3) rfl)) (hts (.code Lib.Math.max.name Lib.Math.max.code 2 (some .int)) (List.mem_of_getElem? (i := 4) rfl)) (Nat.le_of_ble_eq_true rfl) (by first | exact Nat.le_of_ble_eq_true rfl | decide) (Nat.le_of_ble_eq_true rfl) (Nat.le_of_ble_eq_true rfl) dJ1_indexOf_4cfef_11 ?_
    replace h := nm_ok h
    obtain ⟨t_4, et_4, h⟩ := h
    refine gTop et_4 ?_
    refine lv_istore_n (lv' := [(2, .int t_4), (0, .ref (c (20 + s_this))), (1, .int a_1), (3, .int a_3)]) hx hb dJ1_indexOf_4cfef_14 rfl hl (by decide) rfl (fun ls hl => ?_)
    refine lv_iload_n hx hb dJ1_indexOf_4cfef_15 rfl (lv_at hl 3 rfl) ?_
    refine lv_aload_n hx hb dJ1_indexOf_4cfef_16 rfl (lv_at hl 1 rfl) ?_
    replace h := chs_ok h
    obtain ⟨hi_5, h⟩ := h
    refine va_tlen (v := Int32.ofNat (gLen.getD s_this 0)) hx hb (hX.1.1 s_this hi_5).2.2.2 hS rfl dJ1_indexOf_4cfef_17 ?_
    replace h := nm_ok h
    obtain ⟨t_6, et_6, h⟩ := h
    refine gTop et_6 ?_
    refine va_mmin hx hb (by rw [hml]; exact hl.1.symm) hown (hts (.methodLink RJ1 38 Lib.Math.min.name) (List.mem_of_getElem? (i := 5) rfl)) (hts (.static Lib.Math.min.name) (List.mem_of_getElem? (i := 6) rfl)) (hts (.initialized "java/lang/Math") (List.mem_of_getElem? (i := 3) rfl)) (hts (.code Lib.Math.min.name Lib.Math.min.code 2 (some .int)) (List.mem_of_getElem? (i := 7) rfl)) (Nat.le_of_ble_eq_true rfl) (by first | exact Nat.le_of_ble_eq_true rfl | decide) (Nat.le_of_ble_eq_true rfl) (Nat.le_of_ble_eq_true rfl) dJ1_indexOf_4cfef_18 ?_
    replace h := nm_ok h
    obtain ⟨t_7, et_7, h⟩ := h
    refine gTop et_7 ?_
    refine lv_istore_n (lv' := [(3, .int t_7), (2, .int t_4), (0, .ref (c (20 + s_this))), (1, .int a_1)]) hx hb dJ1_indexOf_4cfef_21 rfl hl (by decide) rfl (fun ls hl => ?_)
    refine lv_iload_n hx hb dJ1_indexOf_4cfef_22 rfl (lv_at hl 1 rfl) ?_
    refine lv_iload_n hx hb dJ1_indexOf_4cfef_23 rfl (lv_at hl 0 rfl) ?_
    refine lv_icmp_lt (tgt := 29) hx hb dJ1_indexOf_4cfef_24 (by decide) (fun c_8 => ?_) (fun c_8 => ?_)
    · replace h := it_t c_8 h
      refine lv_aload_n hx hb dJ1_indexOf_4cfef_29 rfl (lv_at hl 2 rfl) ?_
      refine lv_iload_n hx hb dJ1_indexOf_4cfef_30 rfl (lv_at hl 3 rfl) ?_
      refine lv_iload_n hx hb dJ1_indexOf_4cfef_31 rfl (lv_at hl 1 rfl) ?_
      refine lv_iload_n hx hb dJ1_indexOf_4cfef_32 rfl (lv_at hl 0 rfl) ?_
      replace h := kb_ok h
      obtain ⟨r_10, hc_9, h⟩ := h
      refine gCallIr (isC := []) (wc := []) hP hD hS hA trivial (va_runS (rm := rm_J1_indexOfChar_4cfef) (ws := wsJ1_indexOfChar_4cfef) (As := [.ref (c (20 + s_this)), .int a_1, .int t_4, .int t_7]) (rest := []) (gFix hF) (c_J1_indexOfChar_4cfef l D c s_this a_1 t_4 t_7 r_10 hc_9 H.size) (va_cwS 4 hts gJ1_indexOf_4cfef_J1_indexOfChar_4cfef rfl rfl rfl (by decide +kernel) ⟨Nat.le_of_ble_eq_true rfl, Nat.le_of_ble_eq_true rfl⟩) (gPreS (wc := []) (isC := []) hK hX hS hA hP hD trivial (by decide +kernel)) rfl rfl hl.1 rfl (lv_room (Nat.le_of_ble_eq_true rfl)) dJ1_indexOf_4cfef_33 ⟨Nat.le_of_ble_eq_true rfl, Nat.le_of_ble_eq_true rfl⟩) (fun H locs hP hS => ?_)
      replace h := so1 h
      subst h
      exact gIret hF hP hD hS rfl dJ1_indexOf_4cfef_36
    · replace h := it_f c_8 h
      refine lv_iconst (v := (-1)) hx hb dJ1_indexOf_4cfef_27 (by decide) ?_
      replace h := so1 h
      subst h
      exact gIret hF hP hD hS rfl dJ1_indexOf_4cfef_28
  · replace h := it_t c_3 h
    refine lv_iconst (v := (-1)) hx hb dJ1_indexOf_4cfef_7 (by decide) ?_
    replace h := so1 h
    subst h
    exact gIret hF hP hD hS rfl dJ1_indexOf_4cfef_8
abbrev rm_J0_indexOf_7cf53 : Room := { frames := 2, cells := 0, slots := 0, locals := 48 }
set_option maxHeartbeats 4000000 in
set_option maxRecDepth 100000 in
theorem c_J0_indexOf_7cf53 (l : Launch) (D : va_G) (c : Nat → ClassId) (s_this : Nat) (a_1 : Int32) (a_2 : Int32) (o_r : Int32) (h : f_J0_indexOf_7cf53 a_1 a_2 s_this = some o_r) : gMI l yJ0_indexOf_7cf53 wsJ0_indexOf_7cf53 rm_J0_indexOf_7cf53 D c [.ref (c (10 + s_this)), .int a_1, .int a_2] [] [] o_r := by
  refine gMI_of (cc := cJ0_indexOf_7cf53) (maxL := 3) (rt := (some .int)) (by decide +kernel) rfl (Nat.le_of_ble_eq_true rfl) ?_
  intro p e s m below meth co A hF hK hX hP hD hA hS ls hl
  obtain ⟨hx, hb, hr, hts, hown, hlocks, hml⟩ := id hF
  have hl : lv_has ls 3 [(0, .ref (c (10 + s_this))), (1, .int a_1), (2, .int a_2)] := hl
  unfold f_J0_indexOf_7cf53 at h
  refine lv_aload_n hx hb dJ0_indexOf_7cf53_0 rfl (lv_at hl 0 rfl) ?_
  replace h := chs_ok h
  obtain ⟨hi_3, h⟩ := h
  replace h := kb_ok h
  obtain ⟨r_2, hc_1, h⟩ := h
  refine gCallIr (isC := []) (wc := []) hP hD hS hA trivial (va_runV (rm := rm_J0_isLatin1_aae02) (ws := wsJ0_isLatin1_aae02) (As := []) (rest := []) (gFix hF) (c_J0_isLatin1_aae02 l D c s_this r_2 hc_1 s.heap.size) (cwV 0 hts gJ0_indexOf_7cf53_J0_isLatin1_aae02 rfl rfl rfl (by decide +kernel) ⟨Nat.le_of_ble_eq_true rfl, Nat.le_of_ble_eq_true rfl⟩) (gPreVS (i := s_this) hi_3 (wc := []) (isC := []) hK hX hS hA hP hD trivial (by decide +kernel)) rfl rfl hl.1 rfl (lv_room (Nat.le_of_ble_eq_true rfl)) dJ0_indexOf_7cf53_1 ⟨Nat.le_of_ble_eq_true rfl, Nat.le_of_ble_eq_true rfl⟩) (fun H locs hP hS => ?_)
  refine lv_if_eq (tgt := 23) hx hb dJ0_indexOf_7cf53_4 (by decide) (fun c_4 => ?_) (fun c_4 => ?_)
  · replace h := it_t c_4 h
    refine lv_aload_n hx hb dJ0_indexOf_7cf53_23 rfl (lv_at hl 0 rfl) ?_
    replace h := chs_ok h
    obtain ⟨hi_5, h⟩ := h
    refine vk_getf (v := .ref (c (20 + s_this))) hx hb (hX.1.1 s_this hi_5).2.2.1 hS hown (hts (.fieldLink RJ0 9 "java/lang/String" "value" "[B") (List.mem_of_getElem? (i := 1) rfl)) (fun _ h9 => h9) dJ0_indexOf_7cf53_24 ?_
    refine lv_iload_n hx hb dJ0_indexOf_7cf53_27 rfl (lv_at hl 1 rfl) ?_
    refine lv_iload_n hx hb dJ0_indexOf_7cf53_28 rfl (lv_at hl 2 rfl) ?_
    refine lv_aload_n hx hb dJ0_indexOf_7cf53_29 rfl (lv_at hl 0 rfl) ?_
    replace h := chs_ok h
    obtain ⟨hi_8, h⟩ := h
    replace h := kb_ok h
    obtain ⟨r_7, hc_6, h⟩ := h
    refine gCallIr (isC := []) (wc := []) hP hD hS hA trivial (va_runV (rm := rm_J0_length_8abf5) (ws := wsJ0_length_8abf5) (As := []) (rest := [.int a_2, .int a_1, .ref (c (20 + s_this))]) (gFix hF) (c_J0_length_8abf5 l D c s_this r_7 hc_6 H.size) (cwV 0 hts gJ0_indexOf_7cf53_J0_length_8abf5 rfl rfl rfl (by decide +kernel) ⟨Nat.le_of_ble_eq_true rfl, Nat.le_of_ble_eq_true rfl⟩) (gPreVS (i := s_this) hi_8 (wc := []) (isC := []) hK hX hS hA hP hD trivial (by decide +kernel)) rfl rfl hl.1 rfl (lv_room (Nat.le_of_ble_eq_true rfl)) dJ0_indexOf_7cf53_30 ⟨Nat.le_of_ble_eq_true rfl, Nat.le_of_ble_eq_true rfl⟩) (fun H locs hP hS => ?_)
    exact no_ok h
  · replace h := it_f c_4 h
    refine lv_aload_n hx hb dJ0_indexOf_7cf53_7 rfl (lv_at hl 0 rfl) ?_
    replace h := chs_ok h
    obtain ⟨hi_9, h⟩ := h
    refine vk_getf (v := .ref (c (20 + s_this))) hx hb (hX.1.1 s_this hi_9).2.2.1 hS hown (hts (.fieldLink RJ0 9 "java/lang/String" "value" "[B") (List.mem_of_getElem? (i := 1) rfl)) (fun _ h9 => h9) dJ0_indexOf_7cf53_8 ?_
    refine lv_iload_n hx hb dJ0_indexOf_7cf53_11 rfl (lv_at hl 1 rfl) ?_
    refine lv_iload_n hx hb dJ0_indexOf_7cf53_12 rfl (lv_at hl 2 rfl) ?_
    refine lv_aload_n hx hb dJ0_indexOf_7cf53_13 rfl (lv_at hl 0 rfl) ?_
    replace h := chs_ok h
    obtain ⟨hi_12, h⟩ := h
    replace h := kb_ok h
    obtain ⟨r_11, hc_10, h⟩ := h
    refine gCallIr (isC := []) (wc := []) hP hD hS hA trivial (va_runV (rm := rm_J0_length_8abf5) (ws := wsJ0_length_8abf5) (As := []) (rest := [.int a_2, .int a_1, .ref (c (20 + s_this))]) (gFix hF) (c_J0_length_8abf5 l D c s_this r_11 hc_10 H.size) (cwV 0 hts gJ0_indexOf_7cf53_J0_length_8abf5 rfl rfl rfl (by decide +kernel) ⟨Nat.le_of_ble_eq_true rfl, Nat.le_of_ble_eq_true rfl⟩) (gPreVS (i := s_this) hi_12 (wc := []) (isC := []) hK hX hS hA hP hD trivial (by decide +kernel)) rfl rfl hl.1 rfl (lv_room (Nat.le_of_ble_eq_true rfl)) dJ0_indexOf_7cf53_14 ⟨Nat.le_of_ble_eq_true rfl, Nat.le_of_ble_eq_true rfl⟩) (fun H locs hP hS => ?_)
    replace h := kb_ok h
    obtain ⟨r_14, hc_13, h⟩ := h
    refine gCallIr (isC := []) (wc := []) hP hD hS hA trivial (va_runS (rm := rm_J1_indexOf_4cfef) (ws := wsJ1_indexOf_4cfef) (As := [.ref (c (20 + s_this)), .int a_1, .int a_2, .int r_11]) (rest := []) (gFix hF) (c_J1_indexOf_4cfef l D c s_this a_1 a_2 r_11 r_14 hc_13 H.size) (va_cwS 4 hts gJ0_indexOf_7cf53_J1_indexOf_4cfef rfl rfl rfl (by decide +kernel) ⟨Nat.le_of_ble_eq_true rfl, Nat.le_of_ble_eq_true rfl⟩) (gPreS (wc := []) (isC := []) hK hX hS hA hP hD trivial (by decide +kernel)) rfl rfl hl.1 rfl (lv_room (Nat.le_of_ble_eq_true rfl)) dJ0_indexOf_7cf53_17 ⟨Nat.le_of_ble_eq_true rfl, Nat.le_of_ble_eq_true rfl⟩) (fun H locs hP hS => ?_)
    refine lv_goto (tgt := 36) hx hb dJ0_indexOf_7cf53_20 (by decide) ?_
    replace h := so1 h
    subst h
    exact gIret hF hP hD hS rfl dJ0_indexOf_7cf53_36
abbrev rm_J0_indexOf_0f7a4 : Room := { frames := 3, cells := 0, slots := 0, locals := 70 }
set_option maxHeartbeats 4000000 in
set_option maxRecDepth 100000 in
theorem c_J0_indexOf_0f7a4 (l : Launch) (D : va_G) (c : Nat → ClassId) (s_this : Nat) (a_1 : Int32) (o_r : Int32) (h : f_J0_indexOf_0f7a4 a_1 s_this = some o_r) : gMI l yJ0_indexOf_0f7a4 wsJ0_indexOf_0f7a4 rm_J0_indexOf_0f7a4 D c [.ref (c (10 + s_this)), .int a_1] [] [] o_r := by
  refine gMI_of (cc := cJ0_indexOf_0f7a4) (maxL := 2) (rt := (some .int)) (by decide +kernel) rfl (Nat.le_of_ble_eq_true rfl) ?_
  intro p e s m below meth co A hF hK hX hP hD hA hS ls hl
  obtain ⟨hx, hb, hr, hts, hown, hlocks, hml⟩ := id hF
  have hl : lv_has ls 2 [(0, .ref (c (10 + s_this))), (1, .int a_1)] := hl
  unfold f_J0_indexOf_0f7a4 at h
  refine lv_aload_n hx hb dJ0_indexOf_0f7a4_0 rfl (lv_at hl 0 rfl) ?_
  refine lv_iload_n hx hb dJ0_indexOf_0f7a4_1 rfl (lv_at hl 1 rfl) ?_
  refine lv_iconst (v := 0) hx hb dJ0_indexOf_0f7a4_2 (by decide) ?_
  replace h := chs_ok h
  obtain ⟨hi_3, h⟩ := h
  replace h := kb_ok h
  obtain ⟨r_2, hc_1, h⟩ := h
  refine gCallIr (isC := []) (wc := []) hP hD hS hA trivial (va_runV (rm := rm_J0_indexOf_7cf53) (ws := wsJ0_indexOf_7cf53) (As := [.int a_1, .int 0]) (rest := []) (gFix hF) (c_J0_indexOf_7cf53 l D c s_this a_1 0 r_2 hc_1 s.heap.size) (cwV 2 hts gJ0_indexOf_0f7a4_J0_indexOf_7cf53 rfl rfl rfl (by decide +kernel) ⟨Nat.le_of_ble_eq_true rfl, Nat.le_of_ble_eq_true rfl⟩) (gPreVS (i := s_this) hi_3 (wc := []) (isC := []) hK hX hS hA hP hD trivial (by decide +kernel)) rfl rfl hl.1 rfl (lv_room (Nat.le_of_ble_eq_true rfl)) dJ0_indexOf_0f7a4_3 ⟨Nat.le_of_ble_eq_true rfl, Nat.le_of_ble_eq_true rfl⟩) (fun H locs hP hS => ?_)
  replace h := so1 h
  subst h
  exact gIret hF hP hD hS rfl dJ0_indexOf_0f7a4_6
abbrev rm_X8_isA_X0 : Room := { frames := 0, cells := 0, slots := 0, locals := 0 }
set_option maxHeartbeats 4000000 in
set_option maxRecDepth 100000 in
theorem c_X8_isA_X0 (l : Launch) (D : va_G) (c : Nat → ClassId) (q_this : Nat) (a_1 : Int32) (o_r : Int32) (h : f_X8_isA_X0 a_1 = some o_r) : gMI l yX8_isA wsX8_isA rm_X8_isA_X0 D c [.ref q_this, .int a_1] [] [] o_r := by
  refine gMI_of (cc := cX8_isA) (maxL := 2) (rt := (some .boolean)) (by decide +kernel) rfl (Nat.le_of_ble_eq_true rfl) ?_
  intro p e s m below meth co A hF hK hX hP hD hA hS ls hl
  obtain ⟨hx, hb, hr, hts, hown, hlocks, hml⟩ := id hF
  have hl : lv_has ls 2 [(0, .ref q_this), (1, .int a_1)] := hl
  unfold f_X8_isA_X0 at h
  refine lv_iload_n hx hb dX8_isA_0 rfl (lv_at hl 1 rfl) ?_
  refine lv_if_ne (tgt := 8) hx hb dX8_isA_1 (by decide) (fun c_1 => ?_) (fun c_1 => ?_)
  · replace h := it_f c_1 h
    refine lv_iconst (v := 0) hx hb dX8_isA_8 (by decide) ?_
    replace h := so1 h
    subst h
    exact gIret hF hP hD hS rfl dX8_isA_9
  · replace h := it_t c_1 h
    refine lv_iconst (v := 1) hx hb dX8_isA_4 (by decide) ?_
    refine lv_goto (tgt := 9) hx hb dX8_isA_5 (by decide) ?_
    replace h := so1 h
    subst h
    exact gIret hF hP hD hS rfl dX8_isA_9
abbrev rm_X0_isA_X0 : Room := { frames := 1, cells := 0, slots := 0, locals := 21 }
set_option maxHeartbeats 4000000 in
set_option maxRecDepth 100000 in
theorem c_X0_isA_X0 (l : Launch) (D : va_G) (c : Nat → ClassId) (q_this : Nat) (a_1 : Int32) (o_r : Int32) (h : f_X0_isA_X0 a_1 = some o_r) : gMI l yX0_isA wsX0_isA rm_X0_isA_X0 D c [.ref q_this, .int a_1] [(q_this, .inr (0, []))] [(q_this, .inr (0, []))] o_r := by
  refine gMI_of (cc := cX0_isA) (maxL := 2) (rt := (some .boolean)) (by decide +kernel) rfl (Nat.le_of_ble_eq_true rfl) ?_
  intro p e s m below meth co A hF hK hX hP hD hA hS ls hl
  obtain ⟨hx, hb, hr, hts, hown, hlocks, hml⟩ := id hF
  have hl : lv_has ls 2 [(0, .ref q_this), (1, .int a_1)] := hl
  unfold f_X0_isA_X0 at h
  refine lv_iload_n hx hb dX0_isA_0 rfl (lv_at hl 1 rfl) ?_
  refine lv_iconst (v := 1) hx hb dX0_isA_1 (by decide) ?_
  refine lv_icmp_eq (tgt := 13) hx hb dX0_isA_2 (by decide) (fun c_1 => ?_) (fun c_1 => ?_)
  · replace h := it_t c_1 h
    refine lv_iconst (v := 1) hx hb dX0_isA_13 (by decide) ?_
    refine lv_goto (tgt := 18) hx hb dX0_isA_14 (by decide) ?_
    replace h := so1 h
    subst h
    exact gIret hF hP hD hS rfl dX0_isA_18
  · replace h := it_f c_1 h
    refine lv_aload_n hx hb dX0_isA_5 rfl (lv_at hl 0 rfl) ?_
    refine lv_iload_n hx hb dX0_isA_6 rfl (lv_at hl 1 rfl) ?_
    replace h := kb_ok h
    obtain ⟨r_3, hc_2, h⟩ := h
    refine gCallIr (isC := []) (wc := []) hP hD hS hA trivial (va_runSU (rm := rm_X8_isA_X0) (ws := wsX8_isA) (As := [.int a_1]) (rest := []) (hK.1.1 0 _ rfl).2 (gFix hF) (c_X8_isA_X0 l D c q_this a_1 r_3 hc_2 s.heap.size) (va_cwSU 1 hts gX0_isA_X8_isA_s7 rfl rfl rfl (by decide +kernel) ⟨Nat.le_of_ble_eq_true rfl, Nat.le_of_ble_eq_true rfl⟩) (gPreV (wc := []) (q := (RX0, TX0, 0)) (ci := 0) (q0 := 0) (isC := []) hK hX hS hA hP hD trivial (by decide +kernel) rfl rfl) rfl rfl hl.1 rfl (lv_room (Nat.le_of_ble_eq_true rfl)) dX0_isA_7 ⟨Nat.le_of_ble_eq_true rfl, Nat.le_of_ble_eq_true rfl⟩) (fun H locs hP hS => ?_)
    refine lv_if_eq (tgt := 17) hx hb dX0_isA_10 (by decide) (fun c_4 => ?_) (fun c_4 => ?_)
    · replace h := it_t c_4 h
      refine lv_iconst (v := 0) hx hb dX0_isA_17 (by decide) ?_
      replace h := so1 h
      subst h
      exact gIret hF hP hD hS rfl dX0_isA_18
    · replace h := it_f c_4 h
      refine lv_iconst (v := 1) hx hb dX0_isA_13 (by decide) ?_
      refine lv_goto (tgt := 18) hx hb dX0_isA_14 (by decide) ?_
      replace h := so1 h
      subst h
      exact gIret hF hP hD hS rfl dX0_isA_18
abbrev rm_X8_isA_X6 : Room := { frames := 0, cells := 0, slots := 0, locals := 0 }
set_option maxHeartbeats 4000000 in
set_option maxRecDepth 100000 in
theorem c_X8_isA_X6 (l : Launch) (D : va_G) (c : Nat → ClassId) (q_this : Nat) (a_1 : Int32) (o_r : Int32) (h : f_X8_isA_X6 a_1 = some o_r) : gMI l yX8_isA wsX8_isA rm_X8_isA_X6 D c [.ref q_this, .int a_1] [] [] o_r := by
  refine gMI_of (cc := cX8_isA) (maxL := 2) (rt := (some .boolean)) (by decide +kernel) rfl (Nat.le_of_ble_eq_true rfl) ?_
  intro p e s m below meth co A hF hK hX hP hD hA hS ls hl
  obtain ⟨hx, hb, hr, hts, hown, hlocks, hml⟩ := id hF
  have hl : lv_has ls 2 [(0, .ref q_this), (1, .int a_1)] := hl
  unfold f_X8_isA_X6 at h
  refine lv_iload_n hx hb dX8_isA_0 rfl (lv_at hl 1 rfl) ?_
  refine lv_if_ne (tgt := 8) hx hb dX8_isA_1 (by decide) (fun c_1 => ?_) (fun c_1 => ?_)
  · replace h := it_f c_1 h
    refine lv_iconst (v := 0) hx hb dX8_isA_8 (by decide) ?_
    replace h := so1 h
    subst h
    exact gIret hF hP hD hS rfl dX8_isA_9
  · replace h := it_t c_1 h
    refine lv_iconst (v := 1) hx hb dX8_isA_4 (by decide) ?_
    refine lv_goto (tgt := 9) hx hb dX8_isA_5 (by decide) ?_
    replace h := so1 h
    subst h
    exact gIret hF hP hD hS rfl dX8_isA_9
abbrev rm_X0_isA_X6 : Room := { frames := 1, cells := 0, slots := 0, locals := 21 }
set_option maxHeartbeats 4000000 in
set_option maxRecDepth 100000 in
theorem c_X0_isA_X6 (l : Launch) (D : va_G) (c : Nat → ClassId) (q_this : Nat) (a_1 : Int32) (o_r : Int32) (h : f_X0_isA_X6 a_1 = some o_r) : gMI l yX0_isA wsX0_isA rm_X0_isA_X6 D c [.ref q_this, .int a_1] [(q_this, .inr (6, []))] [(q_this, .inr (6, []))] o_r := by
  refine gMI_of (cc := cX0_isA) (maxL := 2) (rt := (some .boolean)) (by decide +kernel) rfl (Nat.le_of_ble_eq_true rfl) ?_
  intro p e s m below meth co A hF hK hX hP hD hA hS ls hl
  obtain ⟨hx, hb, hr, hts, hown, hlocks, hml⟩ := id hF
  have hl : lv_has ls 2 [(0, .ref q_this), (1, .int a_1)] := hl
  unfold f_X0_isA_X6 at h
  refine lv_iload_n hx hb dX0_isA_0 rfl (lv_at hl 1 rfl) ?_
  refine lv_iconst (v := 1) hx hb dX0_isA_1 (by decide) ?_
  refine lv_icmp_eq (tgt := 13) hx hb dX0_isA_2 (by decide) (fun c_1 => ?_) (fun c_1 => ?_)
  · replace h := it_t c_1 h
    refine lv_iconst (v := 1) hx hb dX0_isA_13 (by decide) ?_
    refine lv_goto (tgt := 18) hx hb dX0_isA_14 (by decide) ?_
    replace h := so1 h
    subst h
    exact gIret hF hP hD hS rfl dX0_isA_18
  · replace h := it_f c_1 h
    refine lv_aload_n hx hb dX0_isA_5 rfl (lv_at hl 0 rfl) ?_
    refine lv_iload_n hx hb dX0_isA_6 rfl (lv_at hl 1 rfl) ?_
    replace h := kb_ok h
    obtain ⟨r_3, hc_2, h⟩ := h
    refine gCallIr (isC := []) (wc := []) hP hD hS hA trivial (va_runSU (rm := rm_X8_isA_X6) (ws := wsX8_isA) (As := [.int a_1]) (rest := []) (hK.1.1 6 _ rfl).2 (gFix hF) (c_X8_isA_X6 l D c q_this a_1 r_3 hc_2 s.heap.size) (va_cwSU 1 hts gX0_isA_X8_isA_s7 rfl rfl rfl (by decide +kernel) ⟨Nat.le_of_ble_eq_true rfl, Nat.le_of_ble_eq_true rfl⟩) (gPreV (wc := []) (q := (RX6, TX6, 0)) (ci := 6) (q0 := 0) (isC := []) hK hX hS hA hP hD trivial (by decide +kernel) rfl rfl) rfl rfl hl.1 rfl (lv_room (Nat.le_of_ble_eq_true rfl)) dX0_isA_7 ⟨Nat.le_of_ble_eq_true rfl, Nat.le_of_ble_eq_true rfl⟩) (fun H locs hP hS => ?_)
    refine lv_if_eq (tgt := 17) hx hb dX0_isA_10 (by decide) (fun c_4 => ?_) (fun c_4 => ?_)
    · replace h := it_t c_4 h
      refine lv_iconst (v := 0) hx hb dX0_isA_17 (by decide) ?_
      replace h := so1 h
      subst h
      exact gIret hF hP hD hS rfl dX0_isA_18
    · replace h := it_f c_4 h
      refine lv_iconst (v := 1) hx hb dX0_isA_13 (by decide) ?_
      refine lv_goto (tgt := 18) hx hb dX0_isA_14 (by decide) ?_
      replace h := so1 h
      subst h
      exact gIret hF hP hD hS rfl dX0_isA_18
abbrev rm_X0_moves : Room := { frames := 0, cells := 0, slots := 0, locals := 0 }
set_option maxHeartbeats 4000000 in
set_option maxRecDepth 100000 in
theorem c_X0_moves (l : Launch) (D : va_G) (c : Nat → ClassId) (q_this : Nat) (a_1 : Int32) (a_2 : Int32) (a_3 : Int32) (o_r : Int32) (h : f_X0_moves a_1 a_2 a_3 = some o_r) : gMI l yX0_moves wsX0_moves rm_X0_moves D c [.ref q_this, .int a_1, .int a_2, .int a_3] [] [] o_r := by
  refine gMI_of (cc := cX0_moves) (maxL := 4) (rt := (some .int)) (by decide +kernel) rfl (Nat.le_of_ble_eq_true rfl) ?_
  intro p e s m below meth co A hF hK hX hP hD hA hS ls hl
  obtain ⟨hx, hb, hr, hts, hown, hlocks, hml⟩ := id hF
  have hl : lv_has ls 4 [(0, .ref q_this), (1, .int a_1), (2, .int a_2), (3, .int a_3)] := hl
  unfold f_X0_moves at h
  refine lv_iload_n hx hb dX0_moves_0 rfl (lv_at hl 2 rfl) ?_
  refine lv_iconst (v := 1) hx hb dX0_moves_1 (by decide) ?_
  refine lv_iadd hx hb dX0_moves_2 ?_
  replace h := so1 h
  subst h
  exact gIret hF hP hD hS rfl dX0_moves_3
set_option maxRecDepth 20000 in
theorem in_X9_begin_X9 : ∀ w ∈ u_ws RX9 TX9 4, w ∈ wsX9_begin := by decide +kernel
abbrev rm_X9_begin : Room := { frames := 0, cells := 0, slots := 0, locals := 0 }
set_option maxHeartbeats 4000000 in
set_option maxRecDepth 100000 in
theorem c_X9_begin (l : Launch) (D : va_G) (c : Nat → ClassId) (q_this q_bodies : Nat) (a_1 : Int32) (v_n : Int32) (v_m : Int32) (v_length : Int32) (v_bodies : Nat → Int32) (o_v_length : Int32) (o_v_bodies : Nat → Int32) (h : f_X9_begin a_1 v_length v_bodies = some (o_v_length, o_v_bodies)) : gMV l yX9_begin wsX9_begin rm_X9_begin D c [.ref q_this, .int a_1] [(q_this, .inr (9, [.int v_n, .int v_m, .ref q_bodies, .int v_length])), (q_bodies, .inl (c 0, 40, .inl v_bodies))] [(q_this, .inr (9, [.int v_n, .int v_m, .ref q_bodies, .int o_v_length])), (q_bodies, .inl (c 0, 40, .inl o_v_bodies))] := by
  refine gMV_of (cc := cX9_begin) (maxL := 2) (rt := none) (by decide +kernel) rfl (Nat.le_of_ble_eq_true rfl) ?_
  intro p e s m below meth co A hF hK hX hP hD hA hS ls hl
  obtain ⟨hx, hb, hr, hts, hown, hlocks, hml⟩ := id hF
  have hl : lv_has ls 2 [(0, .ref q_this), (1, .int a_1)] := hl
  unfold f_X9_begin at h
  refine lv_aload_n hx hb dX9_begin_0 rfl (lv_at hl 0 rfl) ?_
  refine va_get (D := D) (ci := 9) (v := .int v_length) (C := RX9) (T := TX9) (N := 4) hx hb hts in_X9_begin_X9 hown hK.1 hP 0 rfl rfl 3 (by decide) (hts (.fieldLink RX9 22 "PaperBubbles$Voice" "length" "I") (List.mem_of_getElem? (i := 1) rfl)) (fun _ h9 => h9) rfl dX9_begin_1 ?_
  refine lv_if_lt (tgt := 36) hx hb dX9_begin_4 (by decide) (fun c_1 => ?_) (fun c_1 => ?_)
  · replace h := it_t c_1 h
    replace h := so2 h
    obtain ⟨z0, z1⟩ := h
    subst z0 z1
    exact gVret hF hP hD hS dX9_begin_36
  · replace h := it_f c_1 h
    refine lv_aload_n hx hb dX9_begin_7 rfl (lv_at hl 0 rfl) ?_
    refine va_get (D := D) (ci := 9) (v := .int v_length) (C := RX9) (T := TX9) (N := 4) hx hb hts in_X9_begin_X9 hown hK.1 hP 0 rfl rfl 3 (by decide) (hts (.fieldLink RX9 22 "PaperBubbles$Voice" "length" "I") (List.mem_of_getElem? (i := 1) rfl)) (fun _ h9 => h9) rfl dX9_begin_8 ?_
    refine lv_bipush (v := 40) hx hb dX9_begin_11 (by decide) ?_
    refine lv_icmp_ge (tgt := 36) hx hb dX9_begin_13 (by decide) (fun c_2 => ?_) (fun c_2 => ?_)
    · replace h := it_t c_2 h
      replace h := so2 h
      obtain ⟨z0, z1⟩ := h
      subst z0 z1
      exact gVret hF hP hD hS dX9_begin_36
    · replace h := it_f c_2 h
      refine lv_aload_n hx hb dX9_begin_16 rfl (lv_at hl 0 rfl) ?_
      refine va_get (D := D) (ci := 9) (v := .ref q_bodies) (C := RX9) (T := TX9) (N := 4) hx hb hts in_X9_begin_X9 hown hK.1 hP 0 rfl rfl 2 (by decide) (hts (.fieldLink RX9 9 "PaperBubbles$Voice" "bodies" "[I") (List.mem_of_getElem? (i := 2) rfl)) (fun _ h9 => h9) rfl dX9_begin_17 ?_
      refine lv_aload_n hx hb dX9_begin_20 rfl (lv_at hl 0 rfl) ?_
      refine va_get (D := D) (ci := 9) (v := .int v_length) (C := RX9) (T := TX9) (N := 4) hx hb hts in_X9_begin_X9 hown hK.1 hP 0 rfl rfl 3 (by decide) (hts (.fieldLink RX9 22 "PaperBubbles$Voice" "length" "I") (List.mem_of_getElem? (i := 1) rfl)) (fun _ h9 => h9) rfl dX9_begin_21 ?_
      refine lv_iload_n hx hb dX9_begin_24 rfl (lv_at hl 1 rfl) ?_
      replace h := chi_ok h
      obtain ⟨hi_3, h⟩ := h
      replace h := nm_ok h
      obtain ⟨w_4, ew_4, h⟩ := h
      refine va_iast hx hb hK.1 hP hD hS 1 0 rfl rfl hi_3 dX9_begin_25 (fun H locs hP hD hS => ?_)
      have hP : va_P D gcl [(q_this, .inr (9, [.int v_n, .int v_m, .ref q_bodies, .int v_length])), (q_bodies, .inl (c 0, 40, .inl w_4))] H := by subst ew_4; exact hP
      have hD : va_D A [(q_this, .inr (9, [.int v_n, .int v_m, .ref q_bodies, .int v_length])), (q_bodies, .inl (c 0, 40, .inl w_4))] := by subst ew_4; exact hD
      refine lv_aload_n hx hb dX9_begin_26 rfl (lv_at hl 0 rfl) ?_
      refine lv_dup hx hb dX9_begin_27 rfl ?_
      refine va_get (D := D) (ci := 9) (v := .int v_length) (C := RX9) (T := TX9) (N := 4) hx hb hts in_X9_begin_X9 hown hK.1 hP 0 rfl rfl 3 (by decide) (hts (.fieldLink RX9 22 "PaperBubbles$Voice" "length" "I") (List.mem_of_getElem? (i := 1) rfl)) (fun _ h9 => h9) rfl dX9_begin_28 ?_
      refine lv_iconst (v := 1) hx hb dX9_begin_31 (by decide) ?_
      refine lv_iadd hx hb dX9_begin_32 ?_
      replace h := nm_ok h
      obtain ⟨t_5, et_5, h⟩ := h
      refine gTop et_5 ?_
      refine va_put (D := D) (ci := 9) (v := .int t_5) (ty := .int) (C := RX9) (T := TX9) (N := 4) hx hb hts in_X9_begin_X9 tyX9 tyX9_ok nmX9 hown hK.1 hP hD hS 0 rfl rfl 3 (by decide) (hts (.fieldLink RX9 22 "PaperBubbles$Voice" "length" "I") (List.mem_of_getElem? (i := 1) rfl)) (fun _ h9 => h9) rfl (by decide +kernel) rfl rfl (Nat.le_of_ble_eq_true rfl) dX9_begin_33 (fun H locs hP hD hS => ?_)
      have hP : va_P D gcl [(q_this, .inr (9, [.int v_n, .int v_m, .ref q_bodies, .int t_5])), (q_bodies, .inl (c 0, 40, .inl w_4))] H := hP
      have hD : va_D A [(q_this, .inr (9, [.int v_n, .int v_m, .ref q_bodies, .int t_5])), (q_bodies, .inl (c 0, 40, .inl w_4))] := hD
      replace h := so2 h
      obtain ⟨z0, z1⟩ := h
      subst z0 z1
      exact gVret hF hP hD hS dX9_begin_36
set_option maxRecDepth 20000 in
theorem in_X8_sayMoves_X9 : ∀ w ∈ u_ws RX9 TX9 4, w ∈ wsX8_sayMoves := by decide +kernel
abbrev rm_X8_sayMoves_X0 : Room := { frames := 1, cells := 0, slots := 0, locals := 21 }
set_option maxHeartbeats 4000000 in
set_option maxRecDepth 100000 in
theorem c_X8_sayMoves_X0 (l : Launch) (D : va_G) (c : Nat → ClassId) (q_this q_p2 q_p2_bodies : Nat) (a_1 : Int32) (v_p2_n : Int32) (v_p2_m : Int32) (v_p2_length : Int32) (v_p2_bodies : Nat → Int32) (o_r : Int32) (o_v_p2_length : Int32) (o_v_p2_bodies : Nat → Int32) (h : f_X8_sayMoves_X0 a_1 v_p2_n v_p2_m v_p2_length v_p2_bodies = some (o_r, o_v_p2_length, o_v_p2_bodies)) : gMI l yX8_sayMoves wsX8_sayMoves rm_X8_sayMoves_X0 D c [.ref q_this, .int a_1, .ref q_p2] [(q_this, .inr (0, [])), (q_p2, .inr (9, [.int v_p2_n, .int v_p2_m, .ref q_p2_bodies, .int v_p2_length])), (q_p2_bodies, .inl (c 0, 40, .inl v_p2_bodies))] [(q_this, .inr (0, [])), (q_p2, .inr (9, [.int v_p2_n, .int v_p2_m, .ref q_p2_bodies, .int o_v_p2_length])), (q_p2_bodies, .inl (c 0, 40, .inl o_v_p2_bodies))] o_r := by
  refine gMI_of (cc := cX8_sayMoves) (maxL := 3) (rt := (some .int)) (by decide +kernel) rfl (Nat.le_of_ble_eq_true rfl) ?_
  intro p e s m below meth co A hF hK hX hP hD hA hS ls hl
  obtain ⟨hx, hb, hr, hts, hown, hlocks, hml⟩ := id hF
  have hl : lv_has ls 3 [(0, .ref q_this), (1, .int a_1), (2, .ref q_p2)] := hl
  unfold f_X8_sayMoves_X0 at h
  refine lv_aload_n hx hb dX8_sayMoves_0 rfl (lv_at hl 2 rfl) ?_
  refine lv_bipush (v := 10) hx hb dX8_sayMoves_1 (by decide) ?_
  replace h := kb2_ok h
  obtain ⟨w_2, w_3, hc_1, h⟩ := h
  refine gCallV (isC := [1, 2]) (wc := [(q_p2, .inr (9, [.int v_p2_n, .int v_p2_m, .ref q_p2_bodies, .int v_p2_length])), (q_p2_bodies, .inl (c 0, 40, .inl v_p2_bodies))]) (w1 := [(q_p2, .inr (9, [.int v_p2_n, .int v_p2_m, .ref q_p2_bodies, .int w_2])), (q_p2_bodies, .inl (c 0, 40, .inl w_3))]) (ws2 := [(q_this, .inr (0, [])), (q_p2, .inr (9, [.int v_p2_n, .int v_p2_m, .ref q_p2_bodies, .int w_2])), (q_p2_bodies, .inl (c 0, 40, .inl w_3))]) (ms := [none, (some 0), (some 1)]) hP hD hS hA ⟨rfl, rfl, trivial⟩ (by decide +kernel) ⟨rfl, rfl, rfl, trivial⟩ (va_runV (rm := rm_X9_begin) (ws := wsX9_begin) (As := [.int 10]) (rest := []) (gFix hF) (c_X9_begin l D c q_p2 q_p2_bodies 10 v_p2_n v_p2_m v_p2_length v_p2_bodies w_2 w_3 hc_1 s.heap.size) (cwV 1 hts gX8_sayMoves_X9_begin rfl rfl rfl (by decide +kernel) ⟨Nat.le_of_ble_eq_true rfl, Nat.le_of_ble_eq_true rfl⟩) (gPreV (wc := [(q_p2, .inr (9, [.int v_p2_n, .int v_p2_m, .ref q_p2_bodies, .int v_p2_length])), (q_p2_bodies, .inl (c 0, 40, .inl v_p2_bodies))]) (q := (RX9, TX9, 4)) (ci := 9) (q0 := 1) (isC := [1, 2]) hK hX hS hA hP hD ⟨rfl, rfl, trivial⟩ (by decide +kernel) rfl rfl) rfl rfl hl.1 rfl (lv_room (Nat.le_of_ble_eq_true rfl)) dX8_sayMoves_3 ⟨Nat.le_of_ble_eq_true rfl, Nat.le_of_ble_eq_true rfl⟩) (fun H locs hP hD hS => ?_)
  refine lv_iload_n hx hb dX8_sayMoves_6 rfl (lv_at hl 1 rfl) ?_
  refine lv_aload_n hx hb dX8_sayMoves_7 rfl (lv_at hl 2 rfl) ?_
  refine va_getN (D := D) (ci := 9) (v := .int v_p2_n) (C := RX9) (T := TX9) (N := 4) hx hb hts in_X8_sayMoves_X9 hown hK.1 hP 1 rfl rfl 0 (by decide) (va_Nw.use rfl (hK.2 (.fieldLinkNest "PaperBubbles$Tool" 13 "PaperBubbles$Voice" "n" "I" "PaperBubbles") (List.mem_of_getElem? (i := 20) rfl))) (fun _ h9 => h9) rfl dX8_sayMoves_8 ?_
  refine lv_iadd hx hb dX8_sayMoves_11 ?_
  replace h := so3 h
  obtain ⟨z0, z1, z2⟩ := h
  subst z0 z1 z2
  exact gIret hF hP hD hS rfl dX8_sayMoves_12
abbrev rm_X0_sayMoves_X0 : Room := { frames := 2, cells := 0, slots := 0, locals := 43 }
set_option maxHeartbeats 4000000 in
set_option maxRecDepth 100000 in
theorem c_X0_sayMoves_X0 (l : Launch) (D : va_G) (c : Nat → ClassId) (q_this q_p2 q_p2_bodies : Nat) (a_1 : Int32) (v_p2_n : Int32) (v_p2_m : Int32) (v_p2_length : Int32) (v_p2_bodies : Nat → Int32) (o_r : Int32) (o_v_p2_length : Int32) (o_v_p2_bodies : Nat → Int32) (h : f_X0_sayMoves_X0 a_1 v_p2_n v_p2_m v_p2_length v_p2_bodies = some (o_r, o_v_p2_length, o_v_p2_bodies)) : gMI l yX0_sayMoves wsX0_sayMoves rm_X0_sayMoves_X0 D c [.ref q_this, .int a_1, .ref q_p2] [(q_this, .inr (0, [])), (q_p2, .inr (9, [.int v_p2_n, .int v_p2_m, .ref q_p2_bodies, .int v_p2_length])), (q_p2_bodies, .inl (c 0, 40, .inl v_p2_bodies))] [(q_this, .inr (0, [])), (q_p2, .inr (9, [.int v_p2_n, .int v_p2_m, .ref q_p2_bodies, .int o_v_p2_length])), (q_p2_bodies, .inl (c 0, 40, .inl o_v_p2_bodies))] o_r := by
  refine gMI_of (cc := cX0_sayMoves) (maxL := 3) (rt := (some .int)) (by decide +kernel) rfl (Nat.le_of_ble_eq_true rfl) ?_
  intro p e s m below meth co A hF hK hX hP hD hA hS ls hl
  obtain ⟨hx, hb, hr, hts, hown, hlocks, hml⟩ := id hF
  have hl : lv_has ls 3 [(0, .ref q_this), (1, .int a_1), (2, .ref q_p2)] := hl
  unfold f_X0_sayMoves_X0 at h
  refine lv_aload_n hx hb dX0_sayMoves_0 rfl (lv_at hl 2 rfl) ?_
  refine lv_bipush (v := 20) hx hb dX0_sayMoves_1 (by decide) ?_
  replace h := kb2_ok h
  obtain ⟨w_2, w_3, hc_1, h⟩ := h
  refine gCallV (isC := [1, 2]) (wc := [(q_p2, .inr (9, [.int v_p2_n, .int v_p2_m, .ref q_p2_bodies, .int v_p2_length])), (q_p2_bodies, .inl (c 0, 40, .inl v_p2_bodies))]) (w1 := [(q_p2, .inr (9, [.int v_p2_n, .int v_p2_m, .ref q_p2_bodies, .int w_2])), (q_p2_bodies, .inl (c 0, 40, .inl w_3))]) (ws2 := [(q_this, .inr (0, [])), (q_p2, .inr (9, [.int v_p2_n, .int v_p2_m, .ref q_p2_bodies, .int w_2])), (q_p2_bodies, .inl (c 0, 40, .inl w_3))]) (ms := [none, (some 0), (some 1)]) hP hD hS hA ⟨rfl, rfl, trivial⟩ (by decide +kernel) ⟨rfl, rfl, rfl, trivial⟩ (va_runV (rm := rm_X9_begin) (ws := wsX9_begin) (As := [.int 20]) (rest := []) (gFix hF) (c_X9_begin l D c q_p2 q_p2_bodies 20 v_p2_n v_p2_m v_p2_length v_p2_bodies w_2 w_3 hc_1 s.heap.size) (cwV 1 hts gX0_sayMoves_X9_begin rfl rfl rfl (by decide +kernel) ⟨Nat.le_of_ble_eq_true rfl, Nat.le_of_ble_eq_true rfl⟩) (gPreV (wc := [(q_p2, .inr (9, [.int v_p2_n, .int v_p2_m, .ref q_p2_bodies, .int v_p2_length])), (q_p2_bodies, .inl (c 0, 40, .inl v_p2_bodies))]) (q := (RX9, TX9, 4)) (ci := 9) (q0 := 1) (isC := [1, 2]) hK hX hS hA hP hD ⟨rfl, rfl, trivial⟩ (by decide +kernel) rfl rfl) rfl rfl hl.1 rfl (lv_room (Nat.le_of_ble_eq_true rfl)) dX0_sayMoves_3 ⟨Nat.le_of_ble_eq_true rfl, Nat.le_of_ble_eq_true rfl⟩) (fun H locs hP hD hS => ?_)
  refine lv_aload_n hx hb dX0_sayMoves_6 rfl (lv_at hl 0 rfl) ?_
  refine lv_iload_n hx hb dX0_sayMoves_7 rfl (lv_at hl 1 rfl) ?_
  refine lv_aload_n hx hb dX0_sayMoves_8 rfl (lv_at hl 2 rfl) ?_
  replace h := kb3_ok h
  obtain ⟨r_5, w_6, w_7, hc_4, h⟩ := h
  refine gCallI (isC := [0, 1, 2]) (wc := [(q_this, .inr (0, [])), (q_p2, .inr (9, [.int v_p2_n, .int v_p2_m, .ref q_p2_bodies, .int w_2])), (q_p2_bodies, .inl (c 0, 40, .inl w_3))]) (w1 := [(q_this, .inr (0, [])), (q_p2, .inr (9, [.int v_p2_n, .int v_p2_m, .ref q_p2_bodies, .int w_6])), (q_p2_bodies, .inl (c 0, 40, .inl w_7))]) (ws2 := [(q_this, .inr (0, [])), (q_p2, .inr (9, [.int v_p2_n, .int v_p2_m, .ref q_p2_bodies, .int w_6])), (q_p2_bodies, .inl (c 0, 40, .inl w_7))]) (ms := [(some 0), (some 1), (some 2)]) hP hD hS hA ⟨rfl, rfl, rfl, trivial⟩ (by decide +kernel) ⟨rfl, rfl, rfl, trivial⟩ (va_runSU (rm := rm_X8_sayMoves_X0) (ws := wsX8_sayMoves) (As := [.int a_1, .ref q_p2]) (rest := []) (hK.1.1 0 _ rfl).2 (gFix hF) (c_X8_sayMoves_X0 l D c q_this q_p2 q_p2_bodies a_1 v_p2_n v_p2_m w_2 w_3 r_5 w_6 w_7 hc_4 H.size) (va_cwSU 2 hts gX0_sayMoves_X8_sayMoves_s17 rfl rfl rfl (by decide +kernel) ⟨Nat.le_of_ble_eq_true rfl, Nat.le_of_ble_eq_true rfl⟩) (gPreV (wc := [(q_this, .inr (0, [])), (q_p2, .inr (9, [.int v_p2_n, .int v_p2_m, .ref q_p2_bodies, .int w_2])), (q_p2_bodies, .inl (c 0, 40, .inl w_3))]) (q := (RX0, TX0, 0)) (ci := 0) (q0 := 0) (isC := [0, 1, 2]) hK hX hS hA hP hD ⟨rfl, rfl, rfl, trivial⟩ (by decide +kernel) rfl rfl) rfl rfl hl.1 rfl (lv_room (Nat.le_of_ble_eq_true rfl)) dX0_sayMoves_9 ⟨Nat.le_of_ble_eq_true rfl, Nat.le_of_ble_eq_true rfl⟩) (fun H locs hP hD hS => ?_)
  refine lv_iconst (v := 3) hx hb dX0_sayMoves_12 (by decide) ?_
  refine lv_imul hx hb dX0_sayMoves_13 ?_
  replace h := so3 h
  obtain ⟨z0, z1, z2⟩ := h
  subst z0 z1 z2
  exact gIret hF hP hD hS rfl dX0_sayMoves_14
abbrev rm_X8_sayMoves_X6 : Room := { frames := 1, cells := 0, slots := 0, locals := 21 }
set_option maxHeartbeats 4000000 in
set_option maxRecDepth 100000 in
theorem c_X8_sayMoves_X6 (l : Launch) (D : va_G) (c : Nat → ClassId) (q_this q_p2 q_p2_bodies : Nat) (a_1 : Int32) (v_p2_n : Int32) (v_p2_m : Int32) (v_p2_length : Int32) (v_p2_bodies : Nat → Int32) (o_r : Int32) (o_v_p2_length : Int32) (o_v_p2_bodies : Nat → Int32) (h : f_X8_sayMoves_X6 a_1 v_p2_n v_p2_m v_p2_length v_p2_bodies = some (o_r, o_v_p2_length, o_v_p2_bodies)) : gMI l yX8_sayMoves wsX8_sayMoves rm_X8_sayMoves_X6 D c [.ref q_this, .int a_1, .ref q_p2] [(q_this, .inr (6, [])), (q_p2, .inr (9, [.int v_p2_n, .int v_p2_m, .ref q_p2_bodies, .int v_p2_length])), (q_p2_bodies, .inl (c 0, 40, .inl v_p2_bodies))] [(q_this, .inr (6, [])), (q_p2, .inr (9, [.int v_p2_n, .int v_p2_m, .ref q_p2_bodies, .int o_v_p2_length])), (q_p2_bodies, .inl (c 0, 40, .inl o_v_p2_bodies))] o_r := by
  refine gMI_of (cc := cX8_sayMoves) (maxL := 3) (rt := (some .int)) (by decide +kernel) rfl (Nat.le_of_ble_eq_true rfl) ?_
  intro p e s m below meth co A hF hK hX hP hD hA hS ls hl
  obtain ⟨hx, hb, hr, hts, hown, hlocks, hml⟩ := id hF
  have hl : lv_has ls 3 [(0, .ref q_this), (1, .int a_1), (2, .ref q_p2)] := hl
  unfold f_X8_sayMoves_X6 at h
  refine lv_aload_n hx hb dX8_sayMoves_0 rfl (lv_at hl 2 rfl) ?_
  refine lv_bipush (v := 10) hx hb dX8_sayMoves_1 (by decide) ?_
  replace h := kb2_ok h
  obtain ⟨w_2, w_3, hc_1, h⟩ := h
  refine gCallV (isC := [1, 2]) (wc := [(q_p2, .inr (9, [.int v_p2_n, .int v_p2_m, .ref q_p2_bodies, .int v_p2_length])), (q_p2_bodies, .inl (c 0, 40, .inl v_p2_bodies))]) (w1 := [(q_p2, .inr (9, [.int v_p2_n, .int v_p2_m, .ref q_p2_bodies, .int w_2])), (q_p2_bodies, .inl (c 0, 40, .inl w_3))]) (ws2 := [(q_this, .inr (6, [])), (q_p2, .inr (9, [.int v_p2_n, .int v_p2_m, .ref q_p2_bodies, .int w_2])), (q_p2_bodies, .inl (c 0, 40, .inl w_3))]) (ms := [none, (some 0), (some 1)]) hP hD hS hA ⟨rfl, rfl, trivial⟩ (by decide +kernel) ⟨rfl, rfl, rfl, trivial⟩ (va_runV (rm := rm_X9_begin) (ws := wsX9_begin) (As := [.int 10]) (rest := []) (gFix hF) (c_X9_begin l D c q_p2 q_p2_bodies 10 v_p2_n v_p2_m v_p2_length v_p2_bodies w_2 w_3 hc_1 s.heap.size) (cwV 1 hts gX8_sayMoves_X9_begin rfl rfl rfl (by decide +kernel) ⟨Nat.le_of_ble_eq_true rfl, Nat.le_of_ble_eq_true rfl⟩) (gPreV (wc := [(q_p2, .inr (9, [.int v_p2_n, .int v_p2_m, .ref q_p2_bodies, .int v_p2_length])), (q_p2_bodies, .inl (c 0, 40, .inl v_p2_bodies))]) (q := (RX9, TX9, 4)) (ci := 9) (q0 := 1) (isC := [1, 2]) hK hX hS hA hP hD ⟨rfl, rfl, trivial⟩ (by decide +kernel) rfl rfl) rfl rfl hl.1 rfl (lv_room (Nat.le_of_ble_eq_true rfl)) dX8_sayMoves_3 ⟨Nat.le_of_ble_eq_true rfl, Nat.le_of_ble_eq_true rfl⟩) (fun H locs hP hD hS => ?_)
  refine lv_iload_n hx hb dX8_sayMoves_6 rfl (lv_at hl 1 rfl) ?_
  refine lv_aload_n hx hb dX8_sayMoves_7 rfl (lv_at hl 2 rfl) ?_
  refine va_getN (D := D) (ci := 9) (v := .int v_p2_n) (C := RX9) (T := TX9) (N := 4) hx hb hts in_X8_sayMoves_X9 hown hK.1 hP 1 rfl rfl 0 (by decide) (va_Nw.use rfl (hK.2 (.fieldLinkNest "PaperBubbles$Tool" 13 "PaperBubbles$Voice" "n" "I" "PaperBubbles") (List.mem_of_getElem? (i := 20) rfl))) (fun _ h9 => h9) rfl dX8_sayMoves_8 ?_
  refine lv_iadd hx hb dX8_sayMoves_11 ?_
  replace h := so3 h
  obtain ⟨z0, z1, z2⟩ := h
  subst z0 z1 z2
  exact gIret hF hP hD hS rfl dX8_sayMoves_12
abbrev rm_X0_sayMoves_X6 : Room := { frames := 2, cells := 0, slots := 0, locals := 43 }
set_option maxHeartbeats 4000000 in
set_option maxRecDepth 100000 in
theorem c_X0_sayMoves_X6 (l : Launch) (D : va_G) (c : Nat → ClassId) (q_this q_p2 q_p2_bodies : Nat) (a_1 : Int32) (v_p2_n : Int32) (v_p2_m : Int32) (v_p2_length : Int32) (v_p2_bodies : Nat → Int32) (o_r : Int32) (o_v_p2_length : Int32) (o_v_p2_bodies : Nat → Int32) (h : f_X0_sayMoves_X6 a_1 v_p2_n v_p2_m v_p2_length v_p2_bodies = some (o_r, o_v_p2_length, o_v_p2_bodies)) : gMI l yX0_sayMoves wsX0_sayMoves rm_X0_sayMoves_X6 D c [.ref q_this, .int a_1, .ref q_p2] [(q_this, .inr (6, [])), (q_p2, .inr (9, [.int v_p2_n, .int v_p2_m, .ref q_p2_bodies, .int v_p2_length])), (q_p2_bodies, .inl (c 0, 40, .inl v_p2_bodies))] [(q_this, .inr (6, [])), (q_p2, .inr (9, [.int v_p2_n, .int v_p2_m, .ref q_p2_bodies, .int o_v_p2_length])), (q_p2_bodies, .inl (c 0, 40, .inl o_v_p2_bodies))] o_r := by
  refine gMI_of (cc := cX0_sayMoves) (maxL := 3) (rt := (some .int)) (by decide +kernel) rfl (Nat.le_of_ble_eq_true rfl) ?_
  intro p e s m below meth co A hF hK hX hP hD hA hS ls hl
  obtain ⟨hx, hb, hr, hts, hown, hlocks, hml⟩ := id hF
  have hl : lv_has ls 3 [(0, .ref q_this), (1, .int a_1), (2, .ref q_p2)] := hl
  unfold f_X0_sayMoves_X6 at h
  refine lv_aload_n hx hb dX0_sayMoves_0 rfl (lv_at hl 2 rfl) ?_
  refine lv_bipush (v := 20) hx hb dX0_sayMoves_1 (by decide) ?_
  replace h := kb2_ok h
  obtain ⟨w_2, w_3, hc_1, h⟩ := h
  refine gCallV (isC := [1, 2]) (wc := [(q_p2, .inr (9, [.int v_p2_n, .int v_p2_m, .ref q_p2_bodies, .int v_p2_length])), (q_p2_bodies, .inl (c 0, 40, .inl v_p2_bodies))]) (w1 := [(q_p2, .inr (9, [.int v_p2_n, .int v_p2_m, .ref q_p2_bodies, .int w_2])), (q_p2_bodies, .inl (c 0, 40, .inl w_3))]) (ws2 := [(q_this, .inr (6, [])), (q_p2, .inr (9, [.int v_p2_n, .int v_p2_m, .ref q_p2_bodies, .int w_2])), (q_p2_bodies, .inl (c 0, 40, .inl w_3))]) (ms := [none, (some 0), (some 1)]) hP hD hS hA ⟨rfl, rfl, trivial⟩ (by decide +kernel) ⟨rfl, rfl, rfl, trivial⟩ (va_runV (rm := rm_X9_begin) (ws := wsX9_begin) (As := [.int 20]) (rest := []) (gFix hF) (c_X9_begin l D c q_p2 q_p2_bodies 20 v_p2_n v_p2_m v_p2_length v_p2_bodies w_2 w_3 hc_1 s.heap.size) (cwV 1 hts gX0_sayMoves_X9_begin rfl rfl rfl (by decide +kernel) ⟨Nat.le_of_ble_eq_true rfl, Nat.le_of_ble_eq_true rfl⟩) (gPreV (wc := [(q_p2, .inr (9, [.int v_p2_n, .int v_p2_m, .ref q_p2_bodies, .int v_p2_length])), (q_p2_bodies, .inl (c 0, 40, .inl v_p2_bodies))]) (q := (RX9, TX9, 4)) (ci := 9) (q0 := 1) (isC := [1, 2]) hK hX hS hA hP hD ⟨rfl, rfl, trivial⟩ (by decide +kernel) rfl rfl) rfl rfl hl.1 rfl (lv_room (Nat.le_of_ble_eq_true rfl)) dX0_sayMoves_3 ⟨Nat.le_of_ble_eq_true rfl, Nat.le_of_ble_eq_true rfl⟩) (fun H locs hP hD hS => ?_)
  refine lv_aload_n hx hb dX0_sayMoves_6 rfl (lv_at hl 0 rfl) ?_
  refine lv_iload_n hx hb dX0_sayMoves_7 rfl (lv_at hl 1 rfl) ?_
  refine lv_aload_n hx hb dX0_sayMoves_8 rfl (lv_at hl 2 rfl) ?_
  replace h := kb3_ok h
  obtain ⟨r_5, w_6, w_7, hc_4, h⟩ := h
  refine gCallI (isC := [0, 1, 2]) (wc := [(q_this, .inr (6, [])), (q_p2, .inr (9, [.int v_p2_n, .int v_p2_m, .ref q_p2_bodies, .int w_2])), (q_p2_bodies, .inl (c 0, 40, .inl w_3))]) (w1 := [(q_this, .inr (6, [])), (q_p2, .inr (9, [.int v_p2_n, .int v_p2_m, .ref q_p2_bodies, .int w_6])), (q_p2_bodies, .inl (c 0, 40, .inl w_7))]) (ws2 := [(q_this, .inr (6, [])), (q_p2, .inr (9, [.int v_p2_n, .int v_p2_m, .ref q_p2_bodies, .int w_6])), (q_p2_bodies, .inl (c 0, 40, .inl w_7))]) (ms := [(some 0), (some 1), (some 2)]) hP hD hS hA ⟨rfl, rfl, rfl, trivial⟩ (by decide +kernel) ⟨rfl, rfl, rfl, trivial⟩ (va_runSU (rm := rm_X8_sayMoves_X6) (ws := wsX8_sayMoves) (As := [.int a_1, .ref q_p2]) (rest := []) (hK.1.1 6 _ rfl).2 (gFix hF) (c_X8_sayMoves_X6 l D c q_this q_p2 q_p2_bodies a_1 v_p2_n v_p2_m w_2 w_3 r_5 w_6 w_7 hc_4 H.size) (va_cwSU 2 hts gX0_sayMoves_X8_sayMoves_s17 rfl rfl rfl (by decide +kernel) ⟨Nat.le_of_ble_eq_true rfl, Nat.le_of_ble_eq_true rfl⟩) (gPreV (wc := [(q_this, .inr (6, [])), (q_p2, .inr (9, [.int v_p2_n, .int v_p2_m, .ref q_p2_bodies, .int w_2])), (q_p2_bodies, .inl (c 0, 40, .inl w_3))]) (q := (RX6, TX6, 0)) (ci := 6) (q0 := 0) (isC := [0, 1, 2]) hK hX hS hA hP hD ⟨rfl, rfl, rfl, trivial⟩ (by decide +kernel) rfl rfl) rfl rfl hl.1 rfl (lv_room (Nat.le_of_ble_eq_true rfl)) dX0_sayMoves_9 ⟨Nat.le_of_ble_eq_true rfl, Nat.le_of_ble_eq_true rfl⟩) (fun H locs hP hD hS => ?_)
  refine lv_iconst (v := 3) hx hb dX0_sayMoves_12 (by decide) ?_
  refine lv_imul hx hb dX0_sayMoves_13 ?_
  replace h := so3 h
  obtain ⟨z0, z1, z2⟩ := h
  subst z0 z1 z2
  exact gIret hF hP hD hS rfl dX0_sayMoves_14
set_option maxRecDepth 20000 in
theorem in_X10_airAs_X10 : ∀ w ∈ u_ws RX10 TX10 11, w ∈ wsX10_airAs := by decide +kernel
abbrev rm_X10_airAs : Room := { frames := 1, cells := 0, slots := 0, locals := 60 }
set_option maxHeartbeats 4000000 in
set_option maxRecDepth 100000 in
theorem c_X10_airAs (l : Launch) (D : va_G) (c : Nat → ClassId) (q_this q_p1 q_air q_paste q_open q_met q_line q_p1_air q_p1_paste q_p1_open q_p1_met q_p1_line : Nat) (v_rows : Int32) (v_columns : Int32) (v_holes : Int32) (v_out : Int32) (v_night : Int32) (v_inLine : Int32) (v_air : Nat → Int32) (v_p1_rows : Int32) (v_p1_columns : Int32) (v_p1_holes : Int32) (v_p1_out : Int32) (v_p1_night : Int32) (v_p1_inLine : Int32) (v_p1_air : Nat → Int32) (o_v_air : Nat → Int32) (h : f_X10_airAs v_air v_p1_air = some o_v_air) : gMV l yX10_airAs wsX10_airAs rm_X10_airAs D c [.ref q_this, .ref q_p1] [(q_this, .inr (10, [.int v_rows, .int v_columns, .ref q_air, .ref q_paste, .ref q_open, .int v_holes, .int v_out, .int v_night, .ref q_met, .ref q_line, .int v_inLine])), (q_air, .inl (c 0, 25, .inl v_air)), (q_p1, .inr (10, [.int v_p1_rows, .int v_p1_columns, .ref q_p1_air, .ref q_p1_paste, .ref q_p1_open, .int v_p1_holes, .int v_p1_out, .int v_p1_night, .ref q_p1_met, .ref q_p1_line, .int v_p1_inLine])), (q_p1_air, .inl (c 0, 25, .inl v_p1_air))] [(q_this, .inr (10, [.int v_rows, .int v_columns, .ref q_air, .ref q_paste, .ref q_open, .int v_holes, .int v_out, .int v_night, .ref q_met, .ref q_line, .int v_inLine])), (q_air, .inl (c 0, 25, .inl o_v_air)), (q_p1, .inr (10, [.int v_p1_rows, .int v_p1_columns, .ref q_p1_air, .ref q_p1_paste, .ref q_p1_open, .int v_p1_holes, .int v_p1_out, .int v_p1_night, .ref q_p1_met, .ref q_p1_line, .int v_p1_inLine])), (q_p1_air, .inl (c 0, 25, .inl v_p1_air))] := by
  refine gMV_of (cc := cX10_airAs) (maxL := 2) (rt := none) (by decide +kernel) rfl (Nat.le_of_ble_eq_true rfl) ?_
  intro p e s m below meth co A hF hK hX hP hD hA hS ls hl
  obtain ⟨hx, hb, hr, hts, hown, hlocks, hml⟩ := id hF
  have hl : lv_has ls 2 [(0, .ref q_this), (1, .ref q_p1)] := hl
  unfold f_X10_airAs at h
  refine lv_aload_n hx hb dX10_airAs_0 rfl (lv_at hl 1 rfl) ?_
  refine va_get (D := D) (ci := 10) (v := .ref q_p1_air) (C := RX10) (T := TX10) (N := 11) hx hb hts in_X10_airAs_X10 hown hK.1 hP 2 rfl rfl 2 (by decide) (hts (.fieldLink RX10 18 "PaperBubbles$Wall" "air" "[I") (List.mem_of_getElem? (i := 1) rfl)) (fun _ h9 => h9) rfl dX10_airAs_1 ?_
  refine lv_iconst (v := 0) hx hb dX10_airAs_4 (by decide) ?_
  refine lv_aload_n hx hb dX10_airAs_5 rfl (lv_at hl 0 rfl) ?_
  refine va_get (D := D) (ci := 10) (v := .ref q_air) (C := RX10) (T := TX10) (N := 11) hx hb hts in_X10_airAs_X10 hown hK.1 hP 0 rfl rfl 2 (by decide) (hts (.fieldLink RX10 18 "PaperBubbles$Wall" "air" "[I") (List.mem_of_getElem? (i := 1) rfl)) (fun _ h9 => h9) rfl dX10_airAs_6 ?_
  refine lv_iconst (v := 0) hx hb dX10_airAs_9 (by decide) ?_
  refine lv_bipush (v := 25) hx hb dX10_airAs_10 (by decide) ?_
  replace h := chc_ok h
  obtain ⟨hz_1, hz_2, hz_3, hz_4, hz_5, h⟩ := h
  replace h := nm_ok h
  obtain ⟨w_6, ew_6, h⟩ := h
  refine va_copyi hx hb (by rw [hml]; exact hl.1.symm) hown (hts (.methodLink RX10 44 arraycopyName) (List.mem_of_getElem? (i := 2) rfl)) (hts (.native arraycopyName) (List.mem_of_getElem? (i := 3) rfl)) (hts (.static arraycopyName) (List.mem_of_getElem? (i := 4) rfl)) (hts (.initialized "java/lang/System") (List.mem_of_getElem? (i := 5) rfl)) hK.1 hP hD hS 3 1 0 0 rfl rfl rfl rfl rfl hz_1 hz_2 hz_3 hz_4 hz_5 (fun _ _ => rfl) (Nat.le_of_ble_eq_true rfl) (by decide +kernel) dX10_airAs_12 (fun H locs hP hD hS => ?_)
  have hP : va_P D gcl [(q_this, .inr (10, [.int v_rows, .int v_columns, .ref q_air, .ref q_paste, .ref q_open, .int v_holes, .int v_out, .int v_night, .ref q_met, .ref q_line, .int v_inLine])), (q_air, .inl (c 0, 25, .inl w_6)), (q_p1, .inr (10, [.int v_p1_rows, .int v_p1_columns, .ref q_p1_air, .ref q_p1_paste, .ref q_p1_open, .int v_p1_holes, .int v_p1_out, .int v_p1_night, .ref q_p1_met, .ref q_p1_line, .int v_p1_inLine])), (q_p1_air, .inl (c 0, 25, .inl v_p1_air))] H := by subst ew_6; exact hP
  have hD : va_D A [(q_this, .inr (10, [.int v_rows, .int v_columns, .ref q_air, .ref q_paste, .ref q_open, .int v_holes, .int v_out, .int v_night, .ref q_met, .ref q_line, .int v_inLine])), (q_air, .inl (c 0, 25, .inl w_6)), (q_p1, .inr (10, [.int v_p1_rows, .int v_p1_columns, .ref q_p1_air, .ref q_p1_paste, .ref q_p1_open, .int v_p1_holes, .int v_p1_out, .int v_p1_night, .ref q_p1_met, .ref q_p1_line, .int v_p1_inLine])), (q_p1_air, .inl (c 0, 25, .inl v_p1_air))] := by subst ew_6; exact hD
  replace h := so1 h
  subst h
  exact gVret hF hP hD hS dX10_airAs_15
set_option maxRecDepth 20000 in
theorem in_X10_has_X10 : ∀ w ∈ u_ws RX10 TX10 11, w ∈ wsX10_has := by decide +kernel
abbrev rm_X10_has : Room := { frames := 0, cells := 0, slots := 0, locals := 0 }
set_option maxHeartbeats 4000000 in
set_option maxRecDepth 100000 in
theorem c_X10_has (l : Launch) (D : va_G) (c : Nat → ClassId) (q_this q_air q_paste q_open q_met q_line : Nat) (a_1 : Int32) (v_rows : Int32) (v_columns : Int32) (v_holes : Int32) (v_out : Int32) (v_night : Int32) (v_inLine : Int32) (o_r : Int32) (h : f_X10_has a_1 v_rows v_columns = some o_r) : gMI l yX10_has wsX10_has rm_X10_has D c [.ref q_this, .int a_1] [(q_this, .inr (10, [.int v_rows, .int v_columns, .ref q_air, .ref q_paste, .ref q_open, .int v_holes, .int v_out, .int v_night, .ref q_met, .ref q_line, .int v_inLine]))] [(q_this, .inr (10, [.int v_rows, .int v_columns, .ref q_air, .ref q_paste, .ref q_open, .int v_holes, .int v_out, .int v_night, .ref q_met, .ref q_line, .int v_inLine]))] o_r := by
  refine gMI_of (cc := cX10_has) (maxL := 2) (rt := (some .boolean)) (by decide +kernel) rfl (Nat.le_of_ble_eq_true rfl) ?_
  intro p e s m below meth co A hF hK hX hP hD hA hS ls hl
  obtain ⟨hx, hb, hr, hts, hown, hlocks, hml⟩ := id hF
  have hl : lv_has ls 2 [(0, .ref q_this), (1, .int a_1)] := hl
  unfold f_X10_has at h
  refine lv_iload_n hx hb dX10_has_0 rfl (lv_at hl 1 rfl) ?_
  refine lv_if_lt (tgt := 27) hx hb dX10_has_1 (by decide) (fun c_1 => ?_) (fun c_1 => ?_)
  · replace h := it_t c_1 h
    refine lv_iconst (v := 0) hx hb dX10_has_27 (by decide) ?_
    replace h := so1 h
    subst h
    exact gIret hF hP hD hS rfl dX10_has_28
  · replace h := it_f c_1 h
    refine lv_iload_n hx hb dX10_has_4 rfl (lv_at hl 1 rfl) ?_
    refine lv_aload_n hx hb dX10_has_5 rfl (lv_at hl 0 rfl) ?_
    refine va_get (D := D) (ci := 10) (v := .int v_rows) (C := RX10) (T := TX10) (N := 11) hx hb hts in_X10_has_X10 hown hK.1 hP 0 rfl rfl 0 (by decide) (hts (.fieldLink RX10 9 "PaperBubbles$Wall" "rows" "I") (List.mem_of_getElem? (i := 1) rfl)) (fun _ h9 => h9) rfl dX10_has_6 ?_
    refine lv_aload_n hx hb dX10_has_9 rfl (lv_at hl 0 rfl) ?_
    refine va_get (D := D) (ci := 10) (v := .int v_columns) (C := RX10) (T := TX10) (N := 11) hx hb hts in_X10_has_X10 hown hK.1 hP 0 rfl rfl 1 (by decide) (hts (.fieldLink RX10 15 "PaperBubbles$Wall" "columns" "I") (List.mem_of_getElem? (i := 2) rfl)) (fun _ h9 => h9) rfl dX10_has_10 ?_
    refine lv_imul hx hb dX10_has_13 ?_
    refine lv_icmp_ge (tgt := 27) hx hb dX10_has_14 (by decide) (fun c_2 => ?_) (fun c_2 => ?_)
    · replace h := it_t c_2 h
      refine lv_iconst (v := 0) hx hb dX10_has_27 (by decide) ?_
      replace h := so1 h
      subst h
      exact gIret hF hP hD hS rfl dX10_has_28
    · replace h := it_f c_2 h
      refine lv_iload_n hx hb dX10_has_17 rfl (lv_at hl 1 rfl) ?_
      refine lv_bipush (v := 25) hx hb dX10_has_18 (by decide) ?_
      refine lv_icmp_ge (tgt := 27) hx hb dX10_has_20 (by decide) (fun c_3 => ?_) (fun c_3 => ?_)
      · replace h := it_t c_3 h
        refine lv_iconst (v := 0) hx hb dX10_has_27 (by decide) ?_
        replace h := so1 h
        subst h
        exact gIret hF hP hD hS rfl dX10_has_28
      · replace h := it_f c_3 h
        refine lv_iconst (v := 1) hx hb dX10_has_23 (by decide) ?_
        refine lv_goto (tgt := 28) hx hb dX10_has_24 (by decide) ?_
        replace h := so1 h
        subst h
        exact gIret hF hP hD hS rfl dX10_has_28
set_option maxRecDepth 20000 in
theorem in_X10_allAir_X10 : ∀ w ∈ u_ws RX10 TX10 11, w ∈ wsX10_allAir := by decide +kernel
abbrev rm_X10_allAir : Room := { frames := 1, cells := 0, slots := 0, locals := 21 }
set_option maxHeartbeats 4000000 in
set_option maxRecDepth 100000 in
theorem c_X10_allAir (l : Launch) (D : va_G) (c : Nat → ClassId) (q_this q_air q_paste q_open q_met q_line : Nat) (v_rows : Int32) (v_columns : Int32) (v_holes : Int32) (v_out : Int32) (v_night : Int32) (v_inLine : Int32) (v_air : Nat → Int32) (o_r : Int32) (h : f_X10_allAir v_rows v_columns v_air = some o_r) : gMI l yX10_allAir wsX10_allAir rm_X10_allAir D c [.ref q_this] [(q_this, .inr (10, [.int v_rows, .int v_columns, .ref q_air, .ref q_paste, .ref q_open, .int v_holes, .int v_out, .int v_night, .ref q_met, .ref q_line, .int v_inLine])), (q_air, .inl (c 0, 25, .inl v_air))] [(q_this, .inr (10, [.int v_rows, .int v_columns, .ref q_air, .ref q_paste, .ref q_open, .int v_holes, .int v_out, .int v_night, .ref q_met, .ref q_line, .int v_inLine])), (q_air, .inl (c 0, 25, .inl v_air))] o_r := by
  refine gMI_of (cc := cX10_allAir) (maxL := 3) (rt := (some .int)) (by decide +kernel) rfl (Nat.le_of_ble_eq_true rfl) ?_
  intro p e s m below meth co A hF hK hX hP hD hA hS ls hl
  obtain ⟨hx, hb, hr, hts, hown, hlocks, hml⟩ := id hF
  have hl : lv_has ls 3 [(0, .ref q_this)] := hl
  have t_L4 : ∀ (n : Nat), ∀ (x1 : Int32) (x2 : Int32) (H : Heap) (locs : List Loc), va_P D gcl [(q_this, .inr (10, [.int v_rows, .int v_columns, .ref q_air, .ref q_paste, .ref q_open, .int v_holes, .int v_out, .int v_night, .ref q_met, .ref q_line, .int v_inLine])), (q_air, .inl (c 0, 25, .inl v_air))] H → va_D A [(q_this, .inr (10, [.int v_rows, .int v_columns, .ref q_air, .ref q_paste, .ref q_open, .int v_holes, .int v_out, .int v_night, .ref q_met, .ref q_line, .int v_inLine])), (q_air, .inl (c 0, 25, .inl v_air))] → va_S A s.heap H locs → ∀ ls, lv_has ls 3 [(0, .ref q_this), (1, .int x1), (2, .int x2)] → f_X10_allAir_L4 v_rows v_columns v_air n x1 x2 = some o_r → W p l e (headSpec wsX10_allAir rm_X10_allAir).room s m [.ref q_this].toArray below meth co H locs 0 0 (gQI D [(q_this, .inr (10, [.int v_rows, .int v_columns, .ref q_air, .ref q_paste, .ref q_open, .int v_holes, .int v_out, .int v_night, .ref q_met, .ref q_line, .int v_inLine])), (q_air, .inl (c 0, 25, .inl v_air))] o_r A below [.ref q_this] s) (F0 m 4 ls []) := by
    intro n
    induction n with
    | zero => intro x1 x2 H locs hP hD hS ls hl h; exact no_ok h
    | succ n ih =>
      intro x1 x2 H locs hP hD hS ls hl h
      rw [f_X10_allAir_L4] at h
      refine lv_iload_n hx hb dX10_allAir_4 rfl (lv_at hl 2 rfl) ?_
      refine lv_bipush (v := 25) hx hb dX10_allAir_5 (by decide) ?_
      refine lv_icmp_ge (tgt := 33) hx hb dX10_allAir_7 (by decide) (fun c_1 => ?_) (fun c_1 => ?_)
      · replace h := it_t c_1 h
        refine lv_iload_n hx hb dX10_allAir_33 rfl (lv_at hl 1 rfl) ?_
        replace h := so1 h
        subst h
        exact gIret hF hP hD hS rfl dX10_allAir_34
      · replace h := it_f c_1 h
        refine lv_aload_n hx hb dX10_allAir_10 rfl (lv_at hl 0 rfl) ?_
        refine lv_iload_n hx hb dX10_allAir_11 rfl (lv_at hl 2 rfl) ?_
        replace h := kb_ok h
        obtain ⟨r_3, hc_2, h⟩ := h
        refine gCallIr (isC := [0]) (wc := [(q_this, .inr (10, [.int v_rows, .int v_columns, .ref q_air, .ref q_paste, .ref q_open, .int v_holes, .int v_out, .int v_night, .ref q_met, .ref q_line, .int v_inLine]))]) hP hD hS hA ⟨rfl, trivial⟩ (va_runV (rm := rm_X10_has) (ws := wsX10_has) (As := [.int x2]) (rest := []) (gFix hF) (c_X10_has l D c q_this q_air q_paste q_open q_met q_line x2 v_rows v_columns v_holes v_out v_night v_inLine r_3 hc_2 H.size) (cwV 1 hts gX10_allAir_X10_has rfl rfl rfl (by decide +kernel) ⟨Nat.le_of_ble_eq_true rfl, Nat.le_of_ble_eq_true rfl⟩) (gPreV (wc := [(q_this, .inr (10, [.int v_rows, .int v_columns, .ref q_air, .ref q_paste, .ref q_open, .int v_holes, .int v_out, .int v_night, .ref q_met, .ref q_line, .int v_inLine]))]) (q := (RX10, TX10, 11)) (ci := 10) (q0 := 0) (isC := [0]) hK hX hS hA hP hD ⟨rfl, trivial⟩ (by decide +kernel) rfl rfl) rfl rfl hl.1 rfl (lv_room (Nat.le_of_ble_eq_true rfl)) dX10_allAir_12 ⟨Nat.le_of_ble_eq_true rfl, Nat.le_of_ble_eq_true rfl⟩) (fun H locs hP hS => ?_)
        refine lv_if_eq (tgt := 33) hx hb dX10_allAir_15 (by decide) (fun c_4 => ?_) (fun c_4 => ?_)
        · replace h := it_t c_4 h
          refine lv_iload_n hx hb dX10_allAir_33 rfl (lv_at hl 1 rfl) ?_
          replace h := so1 h
          subst h
          exact gIret hF hP hD hS rfl dX10_allAir_34
        · replace h := it_f c_4 h
          refine lv_iload_n hx hb dX10_allAir_18 rfl (lv_at hl 1 rfl) ?_
          refine lv_aload_n hx hb dX10_allAir_19 rfl (lv_at hl 0 rfl) ?_
          refine va_get (D := D) (ci := 10) (v := .ref q_air) (C := RX10) (T := TX10) (N := 11) hx hb hts in_X10_allAir_X10 hown hK.1 hP 0 rfl rfl 2 (by decide) (hts (.fieldLink RX10 18 "PaperBubbles$Wall" "air" "[I") (List.mem_of_getElem? (i := 1) rfl)) (fun _ h9 => h9) rfl dX10_allAir_20 ?_
          refine lv_iload_n hx hb dX10_allAir_23 rfl (lv_at hl 2 rfl) ?_
          replace h := chi_ok h
          obtain ⟨hi_5, h⟩ := h
          refine va_iald hx hb hK.1 hP 1 0 rfl rfl hi_5 dX10_allAir_24 ?_
          refine lv_iadd hx hb dX10_allAir_25 ?_
          replace h := nm_ok h
          obtain ⟨t_6, et_6, h⟩ := h
          refine gTop et_6 ?_
          refine lv_istore_n (lv' := [(1, .int t_6), (0, .ref q_this), (2, .int x2)]) hx hb dX10_allAir_26 rfl hl (by decide) rfl (fun ls hl => ?_)
          replace h := nm_ok h
          obtain ⟨t_7, et_7, h⟩ := h
          refine lv_iinc (v := t_7) (lv' := [(2, .int t_7), (1, .int t_6), (0, .ref q_this)]) hx hb dX10_allAir_27 hl (k := 2) rfl (by rw [et_7]; rfl) (by decide) rfl (fun ls hl => ?_)
          refine lv_goto (tgt := 4) hx hb dX10_allAir_30 (by decide) ?_
          exact ih t_6 t_7 H locs hP hD hS ls (lv_sub hl [2, 1, 0] rfl) h
  unfold f_X10_allAir at h
  refine lv_iconst (v := 0) hx hb dX10_allAir_0 (by decide) ?_
  refine lv_istore_n (lv' := [(1, .int 0), (0, .ref q_this)]) hx hb dX10_allAir_1 rfl hl (by decide) rfl (fun ls hl => ?_)
  refine lv_iconst (v := 0) hx hb dX10_allAir_2 (by decide) ?_
  refine lv_istore_n (lv' := [(2, .int 0), (1, .int 0), (0, .ref q_this)]) hx hb dX10_allAir_3 rfl hl (by decide) rfl (fun ls hl => ?_)
  exact t_L4 gFuel 0 0 s.heap [] hP hD hS ls (lv_sub hl [2, 1, 0] rfl) h
