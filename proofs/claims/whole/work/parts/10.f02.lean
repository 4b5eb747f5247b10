def f_X3_joined_L203 (a_1 : Int32) (a_2 : Int32) : Option (Int32) :=
  if a_1 = 0 then
    if a_2 = 0 then
      some 0
    else
      some 1
  else
    some 1

def f_X3_joined (a_0 : Int32) (a_1 : Int32) (a_2 : Int32) : Option (Int32) :=
  if a_0 = 37 then
    if a_2 = 0 then
      some 0
    else
      chz a_2 <|
      some (a_1 - a_1 / a_2 * a_2)
  else
    if a_0 = 38 then
      if a_1 = 0 then
        some 0
      else
        if a_2 = 0 then
          some 0
        else
          some 1
    else
      if a_0 = 39 then
        f_X3_joined_L203 a_1 a_2
      else
        if a_0 = 40 then
          f_X3_joined_L203 a_1 a_2
        else
          if a_0 = 41 then
            f_X3_joined_L203 a_1 a_2
          else
            if a_0 = 42 then
              some (a_1 * a_2)
            else
              if a_0 = 43 then
                some (a_1 + a_2)
              else
                if a_0 = 44 then
                  f_X3_joined_L203 a_1 a_2
                else
                  if a_0 = 45 then
                    some (a_1 - a_2)
                  else
                    if a_0 = 46 then
                      f_X3_joined_L203 a_1 a_2
                    else
                      if a_0 = 47 then
                        if a_2 = 0 then
                          some 0
                        else
                          chz a_2 <|
                          some (a_1 / a_2)
                      else
                        if a_0 = 48 then
                          f_X3_joined_L203 a_1 a_2
                        else
                          if a_0 = 49 then
                            f_X3_joined_L203 a_1 a_2
                          else
                            if a_0 = 50 then
                              f_X3_joined_L203 a_1 a_2
                            else
                              if a_0 = 51 then
                                f_X3_joined_L203 a_1 a_2
                              else
                                if a_0 = 52 then
                                  f_X3_joined_L203 a_1 a_2
                                else
                                  if a_0 = 53 then
                                    f_X3_joined_L203 a_1 a_2
                                  else
                                    if a_0 = 54 then
                                      f_X3_joined_L203 a_1 a_2
                                    else
                                      if a_0 = 55 then
                                        f_X3_joined_L203 a_1 a_2
                                      else
                                        if a_0 = 56 then
                                          f_X3_joined_L203 a_1 a_2
                                        else
                                          if a_0 = 57 then
                                            f_X3_joined_L203 a_1 a_2
                                          else
                                            if a_0 = 58 then
                                              f_X3_joined_L203 a_1 a_2
                                            else
                                              if a_0 = 59 then
                                                f_X3_joined_L203 a_1 a_2
                                              else
                                                if a_0 = 60 then
                                                  if a_2 ≤ a_1 then
                                                    some 0
                                                  else
                                                    some 1
                                                else
                                                  if a_0 = 61 then
                                                    if a_1 = a_2 then
                                                      some 1
                                                    else
                                                      some 0
                                                  else
                                                    if a_0 = 62 then
                                                      if a_1 ≤ a_2 then
                                                        some 0
                                                      else
                                                        some 1
                                                    else
                                                      f_X3_joined_L203 a_1 a_2

abbrev rm_X3_joined : Room := { frames := 0, cells := 0, slots := 0, locals := 0 }
set_option maxHeartbeats 4000000 in
set_option maxRecDepth 100000 in
theorem c_X3_joined (l : Launch) (D : va_G) (c : Nat → ClassId) (a_0 : Int32) (a_1 : Int32) (a_2 : Int32) (o_r : Int32) (h : f_X3_joined a_0 a_1 a_2 = some o_r) : gMI l yX3_joined wsX3_joined rm_X3_joined D c [.int a_0, .int a_1, .int a_2] [] [] o_r := by
  refine gMI_of (cc := cX3_joined) (maxL := 3) (rt := (some .int)) (by decide +kernel) rfl (Nat.le_of_ble_eq_true rfl) ?_
  intro p e s m below meth co A hF hK hX hP hD hA hS ls hl
  obtain ⟨hx, hb, hr, hts, hown, hlocks, hml⟩ := id hF
  have hl : lv_has ls 3 [(0, .int a_0), (1, .int a_1), (2, .int a_2)] := hl
  have t_L203 : ∀ (H : Heap) (locs : List Loc), va_P D gcl [] H → va_D A [] → va_S A s.heap H locs → ∀ ls, lv_has ls 3 [(1, .int a_1), (2, .int a_2)] → f_X3_joined_L203 a_1 a_2 = some o_r → W p l e (headSpec wsX3_joined rm_X3_joined).room s m [.int a_0, .int a_1, .int a_2].toArray below meth co H locs 0 0 (gQI D [] o_r A below [.int a_0, .int a_1, .int a_2] s) (F0 m 203 ls []) := by
    intro  H locs hP hD hS ls hl h
    unfold f_X3_joined_L203 at h
    refine lv_iload_n hx hb dX3_joined_203 rfl (lv_at hl 0 rfl) ?_
    refine lv_if_ne (tgt := 211) hx hb dX3_joined_204 (by decide) (fun c_36 => ?_) (fun c_36 => ?_)
    · have h := it_f c_36 h
      refine lv_iconst (v := 1) hx hb dX3_joined_211 (by decide) ?_
      refine lv_goto (tgt := 216) hx hb dX3_joined_212 (by decide) ?_
      cases h
      exact gIret hF hP hD hS rfl dX3_joined_216
    · have h := it_t c_36 h
      refine lv_iload_n hx hb dX3_joined_207 rfl (lv_at hl 1 rfl) ?_
      refine lv_if_eq (tgt := 215) hx hb dX3_joined_208 (by decide) (fun c_37 => ?_) (fun c_37 => ?_)
      · have h := it_t c_37 h
        refine lv_iconst (v := 0) hx hb dX3_joined_215 (by decide) ?_
        cases h
        exact gIret hF hP hD hS rfl dX3_joined_216
      · have h := it_f c_37 h
        refine lv_iconst (v := 1) hx hb dX3_joined_211 (by decide) ?_
        refine lv_goto (tgt := 216) hx hb dX3_joined_212 (by decide) ?_
        cases h
        exact gIret hF hP hD hS rfl dX3_joined_216
  unfold f_X3_joined at h
  refine lv_iload_n hx hb dX3_joined_0 rfl (lv_at hl 0 rfl) ?_
  by_cases c_1 : a_0 = 37
  · have h := it_t c_1 h
    refine lv_tableIn (x := a_0) (off := 143) (tgt := 144) hx hb dX3_joined_1 (by rw [c_1]; decide) (by rw [c_1]; decide) (by rw [c_1]; rfl) (by decide) ?_
    refine lv_iload_n hx hb dX3_joined_144 rfl (lv_at hl 2 rfl) ?_
    refine lv_if_ne (tgt := 152) hx hb dX3_joined_145 (by decide) (fun c_2 => ?_) (fun c_2 => ?_)
    · have h := it_f c_2 h
      refine lv_iload_n hx hb dX3_joined_152 rfl (lv_at hl 1 rfl) ?_
      refine lv_iload_n hx hb dX3_joined_153 rfl (lv_at hl 2 rfl) ?_
      obtain ⟨hz_3, h⟩ := chz_ok h
      refine lv_irem hx hb dX3_joined_154 hz_3 ?_
      cases h
      exact gIret hF hP hD hS rfl dX3_joined_155
    · have h := it_t c_2 h
      refine lv_iconst (v := 0) hx hb dX3_joined_148 (by decide) ?_
      refine lv_goto (tgt := 155) hx hb dX3_joined_149 (by decide) ?_
      cases h
      exact gIret hF hP hD hS rfl dX3_joined_155
  · have h := it_f c_1 h
    by_cases c_4 : a_0 = 38
    · have h := it_t c_4 h
      refine lv_tableIn (x := a_0) (off := 188) (tgt := 189) hx hb dX3_joined_1 (by rw [c_4]; decide) (by rw [c_4]; decide) (by rw [c_4]; rfl) (by decide) ?_
      refine lv_iload_n hx hb dX3_joined_189 rfl (lv_at hl 1 rfl) ?_
      refine lv_if_eq (tgt := 201) hx hb dX3_joined_190 (by decide) (fun c_5 => ?_) (fun c_5 => ?_)
      · have h := it_t c_5 h
        refine lv_iconst (v := 0) hx hb dX3_joined_201 (by decide) ?_
        cases h
        exact gIret hF hP hD hS rfl dX3_joined_202
      · have h := it_f c_5 h
        refine lv_iload_n hx hb dX3_joined_193 rfl (lv_at hl 2 rfl) ?_
        refine lv_if_eq (tgt := 201) hx hb dX3_joined_194 (by decide) (fun c_6 => ?_) (fun c_6 => ?_)
        · have h := it_t c_6 h
          refine lv_iconst (v := 0) hx hb dX3_joined_201 (by decide) ?_
          cases h
          exact gIret hF hP hD hS rfl dX3_joined_202
        · have h := it_f c_6 h
          refine lv_iconst (v := 1) hx hb dX3_joined_197 (by decide) ?_
          refine lv_goto (tgt := 202) hx hb dX3_joined_198 (by decide) ?_
          cases h
          exact gIret hF hP hD hS rfl dX3_joined_202
    · have h := it_f c_4 h
      by_cases c_7 : a_0 = 39
      · have h := it_t c_7 h
        refine lv_tableIn (x := a_0) (off := 202) (tgt := 203) hx hb dX3_joined_1 (by rw [c_7]; decide) (by rw [c_7]; decide) (by rw [c_7]; rfl) (by decide) ?_
        exact t_L203  s.heap [] hP hD hS ls (lv_sub hl [1, 2] rfl) h
      · have h := it_f c_7 h
        by_cases c_8 : a_0 = 40
        · have h := it_t c_8 h
          refine lv_tableIn (x := a_0) (off := 202) (tgt := 203) hx hb dX3_joined_1 (by rw [c_8]; decide) (by rw [c_8]; decide) (by rw [c_8]; rfl) (by decide) ?_
          exact t_L203  s.heap [] hP hD hS ls (lv_sub hl [1, 2] rfl) h
        · have h := it_f c_8 h
          by_cases c_9 : a_0 = 41
          · have h := it_t c_9 h
            refine lv_tableIn (x := a_0) (off := 202) (tgt := 203) hx hb dX3_joined_1 (by rw [c_9]; decide) (by rw [c_9]; decide) (by rw [c_9]; rfl) (by decide) ?_
            exact t_L203  s.heap [] hP hD hS ls (lv_sub hl [1, 2] rfl) h
          · have h := it_f c_9 h
            by_cases c_10 : a_0 = 42
            · have h := it_t c_10 h
              refine lv_tableIn (x := a_0) (off := 127) (tgt := 128) hx hb dX3_joined_1 (by rw [c_10]; decide) (by rw [c_10]; decide) (by rw [c_10]; rfl) (by decide) ?_
              refine lv_iload_n hx hb dX3_joined_128 rfl (lv_at hl 1 rfl) ?_
              refine lv_iload_n hx hb dX3_joined_129 rfl (lv_at hl 2 rfl) ?_
              refine lv_imul hx hb dX3_joined_130 ?_
              cases h
              exact gIret hF hP hD hS rfl dX3_joined_131
            · have h := it_f c_10 h
              by_cases c_11 : a_0 = 43
              · have h := it_t c_11 h
                refine lv_tableIn (x := a_0) (off := 119) (tgt := 120) hx hb dX3_joined_1 (by rw [c_11]; decide) (by rw [c_11]; decide) (by rw [c_11]; rfl) (by decide) ?_
                refine lv_iload_n hx hb dX3_joined_120 rfl (lv_at hl 1 rfl) ?_
                refine lv_iload_n hx hb dX3_joined_121 rfl (lv_at hl 2 rfl) ?_
                refine lv_iadd hx hb dX3_joined_122 ?_
                cases h
                exact gIret hF hP hD hS rfl dX3_joined_123
              · have h := it_f c_11 h
                by_cases c_12 : a_0 = 44
                · have h := it_t c_12 h
                  refine lv_tableIn (x := a_0) (off := 202) (tgt := 203) hx hb dX3_joined_1 (by rw [c_12]; decide) (by rw [c_12]; decide) (by rw [c_12]; rfl) (by decide) ?_
                  exact t_L203  s.heap [] hP hD hS ls (lv_sub hl [1, 2] rfl) h
                · have h := it_f c_12 h
                  by_cases c_13 : a_0 = 45
                  · have h := it_t c_13 h
                    refine lv_tableIn (x := a_0) (off := 123) (tgt := 124) hx hb dX3_joined_1 (by rw [c_13]; decide) (by rw [c_13]; decide) (by rw [c_13]; rfl) (by decide) ?_
                    refine lv_iload_n hx hb dX3_joined_124 rfl (lv_at hl 1 rfl) ?_
                    refine lv_iload_n hx hb dX3_joined_125 rfl (lv_at hl 2 rfl) ?_
                    refine lv_isub hx hb dX3_joined_126 ?_
                    cases h
                    exact gIret hF hP hD hS rfl dX3_joined_127
                  · have h := it_f c_13 h
                    by_cases c_14 : a_0 = 46
                    · have h := it_t c_14 h
                      refine lv_tableIn (x := a_0) (off := 202) (tgt := 203) hx hb dX3_joined_1 (by rw [c_14]; decide) (by rw [c_14]; decide) (by rw [c_14]; rfl) (by decide) ?_
                      exact t_L203  s.heap [] hP hD hS ls (lv_sub hl [1, 2] rfl) h
                    · have h := it_f c_14 h
                      by_cases c_15 : a_0 = 47
                      · have h := it_t c_15 h
                        refine lv_tableIn (x := a_0) (off := 131) (tgt := 132) hx hb dX3_joined_1 (by rw [c_15]; decide) (by rw [c_15]; decide) (by rw [c_15]; rfl) (by decide) ?_
                        refine lv_iload_n hx hb dX3_joined_132 rfl (lv_at hl 2 rfl) ?_
                        refine lv_if_ne (tgt := 140) hx hb dX3_joined_133 (by decide) (fun c_16 => ?_) (fun c_16 => ?_)
                        · have h := it_f c_16 h
                          refine lv_iload_n hx hb dX3_joined_140 rfl (lv_at hl 1 rfl) ?_
                          refine lv_iload_n hx hb dX3_joined_141 rfl (lv_at hl 2 rfl) ?_
                          obtain ⟨hz_17, h⟩ := chz_ok h
                          refine lv_idiv hx hb dX3_joined_142 hz_17 ?_
                          cases h
                          exact gIret hF hP hD hS rfl dX3_joined_143
                        · have h := it_t c_16 h
                          refine lv_iconst (v := 0) hx hb dX3_joined_136 (by decide) ?_
                          refine lv_goto (tgt := 143) hx hb dX3_joined_137 (by decide) ?_
                          cases h
                          exact gIret hF hP hD hS rfl dX3_joined_143
                      · have h := it_f c_15 h
                        by_cases c_18 : a_0 = 48
                        · have h := it_t c_18 h
                          refine lv_tableIn (x := a_0) (off := 202) (tgt := 203) hx hb dX3_joined_1 (by rw [c_18]; decide) (by rw [c_18]; decide) (by rw [c_18]; rfl) (by decide) ?_
                          exact t_L203  s.heap [] hP hD hS ls (lv_sub hl [1, 2] rfl) h
                        · have h := it_f c_18 h
                          by_cases c_19 : a_0 = 49
                          · have h := it_t c_19 h
                            refine lv_tableIn (x := a_0) (off := 202) (tgt := 203) hx hb dX3_joined_1 (by rw [c_19]; decide) (by rw [c_19]; decide) (by rw [c_19]; rfl) (by decide) ?_
                            exact t_L203  s.heap [] hP hD hS ls (lv_sub hl [1, 2] rfl) h
                          · have h := it_f c_19 h
                            by_cases c_20 : a_0 = 50
                            · have h := it_t c_20 h
                              refine lv_tableIn (x := a_0) (off := 202) (tgt := 203) hx hb dX3_joined_1 (by rw [c_20]; decide) (by rw [c_20]; decide) (by rw [c_20]; rfl) (by decide) ?_
                              exact t_L203  s.heap [] hP hD hS ls (lv_sub hl [1, 2] rfl) h
                            · have h := it_f c_20 h
                              by_cases c_21 : a_0 = 51
                              · have h := it_t c_21 h
                                refine lv_tableIn (x := a_0) (off := 202) (tgt := 203) hx hb dX3_joined_1 (by rw [c_21]; decide) (by rw [c_21]; decide) (by rw [c_21]; rfl) (by decide) ?_
                                exact t_L203  s.heap [] hP hD hS ls (lv_sub hl [1, 2] rfl) h
                              · have h := it_f c_21 h
                                by_cases c_22 : a_0 = 52
                                · have h := it_t c_22 h
                                  refine lv_tableIn (x := a_0) (off := 202) (tgt := 203) hx hb dX3_joined_1 (by rw [c_22]; decide) (by rw [c_22]; decide) (by rw [c_22]; rfl) (by decide) ?_
                                  exact t_L203  s.heap [] hP hD hS ls (lv_sub hl [1, 2] rfl) h
                                · have h := it_f c_22 h
                                  by_cases c_23 : a_0 = 53
                                  · have h := it_t c_23 h
                                    refine lv_tableIn (x := a_0) (off := 202) (tgt := 203) hx hb dX3_joined_1 (by rw [c_23]; decide) (by rw [c_23]; decide) (by rw [c_23]; rfl) (by decide) ?_
                                    exact t_L203  s.heap [] hP hD hS ls (lv_sub hl [1, 2] rfl) h
                                  · have h := it_f c_23 h
                                    by_cases c_24 : a_0 = 54
                                    · have h := it_t c_24 h
                                      refine lv_tableIn (x := a_0) (off := 202) (tgt := 203) hx hb dX3_joined_1 (by rw [c_24]; decide) (by rw [c_24]; decide) (by rw [c_24]; rfl) (by decide) ?_
                                      exact t_L203  s.heap [] hP hD hS ls (lv_sub hl [1, 2] rfl) h
                                    · have h := it_f c_24 h
                                      by_cases c_25 : a_0 = 55
                                      · have h := it_t c_25 h
                                        refine lv_tableIn (x := a_0) (off := 202) (tgt := 203) hx hb dX3_joined_1 (by rw [c_25]; decide) (by rw [c_25]; decide) (by rw [c_25]; rfl) (by decide) ?_
                                        exact t_L203  s.heap [] hP hD hS ls (lv_sub hl [1, 2] rfl) h
                                      · have h := it_f c_25 h
                                        by_cases c_26 : a_0 = 56
                                        · have h := it_t c_26 h
                                          refine lv_tableIn (x := a_0) (off := 202) (tgt := 203) hx hb dX3_joined_1 (by rw [c_26]; decide) (by rw [c_26]; decide) (by rw [c_26]; rfl) (by decide) ?_
                                          exact t_L203  s.heap [] hP hD hS ls (lv_sub hl [1, 2] rfl) h
                                        · have h := it_f c_26 h
                                          by_cases c_27 : a_0 = 57
                                          · have h := it_t c_27 h
                                            refine lv_tableIn (x := a_0) (off := 202) (tgt := 203) hx hb dX3_joined_1 (by rw [c_27]; decide) (by rw [c_27]; decide) (by rw [c_27]; rfl) (by decide) ?_
                                            exact t_L203  s.heap [] hP hD hS ls (lv_sub hl [1, 2] rfl) h
                                          · have h := it_f c_27 h
                                            by_cases c_28 : a_0 = 58
                                            · have h := it_t c_28 h
                                              refine lv_tableIn (x := a_0) (off := 202) (tgt := 203) hx hb dX3_joined_1 (by rw [c_28]; decide) (by rw [c_28]; decide) (by rw [c_28]; rfl) (by decide) ?_
                                              exact t_L203  s.heap [] hP hD hS ls (lv_sub hl [1, 2] rfl) h
                                            · have h := it_f c_28 h
                                              by_cases c_29 : a_0 = 59
                                              · have h := it_t c_29 h
                                                refine lv_tableIn (x := a_0) (off := 202) (tgt := 203) hx hb dX3_joined_1 (by rw [c_29]; decide) (by rw [c_29]; decide) (by rw [c_29]; rfl) (by decide) ?_
                                                exact t_L203  s.heap [] hP hD hS ls (lv_sub hl [1, 2] rfl) h
                                              · have h := it_f c_29 h
                                                by_cases c_30 : a_0 = 60
                                                · have h := it_t c_30 h
                                                  refine lv_tableIn (x := a_0) (off := 155) (tgt := 156) hx hb dX3_joined_1 (by rw [c_30]; decide) (by rw [c_30]; decide) (by rw [c_30]; rfl) (by decide) ?_
                                                  refine lv_iload_n hx hb dX3_joined_156 rfl (lv_at hl 1 rfl) ?_
                                                  refine lv_iload_n hx hb dX3_joined_157 rfl (lv_at hl 2 rfl) ?_
                                                  refine lv_icmp_ge (tgt := 165) hx hb dX3_joined_158 (by decide) (fun c_31 => ?_) (fun c_31 => ?_)
                                                  · have h := it_t c_31 h
                                                    refine lv_iconst (v := 0) hx hb dX3_joined_165 (by decide) ?_
                                                    cases h
                                                    exact gIret hF hP hD hS rfl dX3_joined_166
                                                  · have h := it_f c_31 h
                                                    refine lv_iconst (v := 1) hx hb dX3_joined_161 (by decide) ?_
                                                    refine lv_goto (tgt := 166) hx hb dX3_joined_162 (by decide) ?_
                                                    cases h
                                                    exact gIret hF hP hD hS rfl dX3_joined_166
                                                · have h := it_f c_30 h
                                                  by_cases c_32 : a_0 = 61
                                                  · have h := it_t c_32 h
                                                    refine lv_tableIn (x := a_0) (off := 166) (tgt := 167) hx hb dX3_joined_1 (by rw [c_32]; decide) (by rw [c_32]; decide) (by rw [c_32]; rfl) (by decide) ?_
                                                    refine lv_iload_n hx hb dX3_joined_167 rfl (lv_at hl 1 rfl) ?_
                                                    refine lv_iload_n hx hb dX3_joined_168 rfl (lv_at hl 2 rfl) ?_
                                                    refine lv_icmp_ne (tgt := 176) hx hb dX3_joined_169 (by decide) (fun c_33 => ?_) (fun c_33 => ?_)
                                                    · have h := it_f c_33 h
                                                      refine lv_iconst (v := 0) hx hb dX3_joined_176 (by decide) ?_
                                                      cases h
                                                      exact gIret hF hP hD hS rfl dX3_joined_177
                                                    · have h := it_t c_33 h
                                                      refine lv_iconst (v := 1) hx hb dX3_joined_172 (by decide) ?_
                                                      refine lv_goto (tgt := 177) hx hb dX3_joined_173 (by decide) ?_
                                                      cases h
                                                      exact gIret hF hP hD hS rfl dX3_joined_177
                                                  · have h := it_f c_32 h
                                                    by_cases c_34 : a_0 = 62
                                                    · have h := it_t c_34 h
                                                      refine lv_tableIn (x := a_0) (off := 177) (tgt := 178) hx hb dX3_joined_1 (by rw [c_34]; decide) (by rw [c_34]; decide) (by rw [c_34]; rfl) (by decide) ?_
                                                      refine lv_iload_n hx hb dX3_joined_178 rfl (lv_at hl 1 rfl) ?_
                                                      refine lv_iload_n hx hb dX3_joined_179 rfl (lv_at hl 2 rfl) ?_
                                                      refine lv_icmp_le (tgt := 187) hx hb dX3_joined_180 (by decide) (fun c_35 => ?_) (fun c_35 => ?_)
                                                      · have h := it_t c_35 h
                                                        refine lv_iconst (v := 0) hx hb dX3_joined_187 (by decide) ?_
                                                        cases h
                                                        exact gIret hF hP hD hS rfl dX3_joined_188
                                                      · have h := it_f c_35 h
                                                        refine lv_iconst (v := 1) hx hb dX3_joined_183 (by decide) ?_
                                                        refine lv_goto (tgt := 188) hx hb dX3_joined_184 (by decide) ?_
                                                        cases h
                                                        exact gIret hF hP hD hS rfl dX3_joined_188
                                                    · have h := it_f c_34 h
                                                      refine lv_tableOut (x := a_0) (tgt := 203) hx hb dX3_joined_1 (by have q0 := gNe (z := 37) (by decide) c_1; have q1 := gNe (z := 38) (by decide) c_4; have q2 := gNe (z := 39) (by decide) c_7; have q3 := gNe (z := 40) (by decide) c_8; have q4 := gNe (z := 41) (by decide) c_9; have q5 := gNe (z := 42) (by decide) c_10; have q6 := gNe (z := 43) (by decide) c_11; have q7 := gNe (z := 44) (by decide) c_12; have q8 := gNe (z := 45) (by decide) c_13; have q9 := gNe (z := 46) (by decide) c_14; have q10 := gNe (z := 47) (by decide) c_15; have q11 := gNe (z := 48) (by decide) c_18; have q12 := gNe (z := 49) (by decide) c_19; have q13 := gNe (z := 50) (by decide) c_20; have q14 := gNe (z := 51) (by decide) c_21; have q15 := gNe (z := 52) (by decide) c_22; have q16 := gNe (z := 53) (by decide) c_23; have q17 := gNe (z := 54) (by decide) c_24; have q18 := gNe (z := 55) (by decide) c_25; have q19 := gNe (z := 56) (by decide) c_26; have q20 := gNe (z := 57) (by decide) c_27; have q21 := gNe (z := 58) (by decide) c_28; have q22 := gNe (z := 59) (by decide) c_29; have q23 := gNe (z := 60) (by decide) c_30; have q24 := gNe (z := 61) (by decide) c_32; have q25 := gNe (z := 62) (by decide) c_34; omega) (by decide) ?_
                                                      exact t_L203  s.heap [] hP hD hS ls (lv_sub hl [1, 2] rfl) h
def f_X3_named (a_0 : Int32) (a_1 : Int32) (a_2 : Int32) (a_3 : Int32) : Option (Int32) :=
  if a_0 = (-1) then
    some a_1
  else
    if a_0 = (-2) then
      some a_2
    else
      some a_3

abbrev rm_X3_named : Room := { frames := 0, cells := 0, slots := 0, locals := 0 }
set_option maxHeartbeats 4000000 in
set_option maxRecDepth 100000 in
theorem c_X3_named (l : Launch) (D : va_G) (c : Nat → ClassId) (a_0 : Int32) (a_1 : Int32) (a_2 : Int32) (a_3 : Int32) (o_r : Int32) (h : f_X3_named a_0 a_1 a_2 a_3 = some o_r) : gMI l yX3_named wsX3_named rm_X3_named D c [.int a_0, .int a_1, .int a_2, .int a_3] [] [] o_r := by
  refine gMI_of (cc := cX3_named) (maxL := 4) (rt := (some .int)) (by decide +kernel) rfl (Nat.le_of_ble_eq_true rfl) ?_
  intro p e s m below meth co A hF hK hX hP hD hA hS ls hl
  obtain ⟨hx, hb, hr, hts, hown, hlocks, hml⟩ := id hF
  have hl : lv_has ls 4 [(0, .int a_0), (1, .int a_1), (2, .int a_2), (3, .int a_3)] := hl
  unfold f_X3_named at h
  refine lv_iload_n hx hb dX3_named_0 rfl (lv_at hl 0 rfl) ?_
  refine lv_iconst (v := (-1)) hx hb dX3_named_1 (by decide) ?_
  refine lv_icmp_ne (tgt := 7) hx hb dX3_named_2 (by decide) (fun c_1 => ?_) (fun c_1 => ?_)
  · have h := it_f c_1 h
    refine lv_iload_n hx hb dX3_named_7 rfl (lv_at hl 0 rfl) ?_
    refine lv_bipush (v := (-2)) hx hb dX3_named_8 (by decide) ?_
    refine lv_icmp_ne (tgt := 17) hx hb dX3_named_10 (by decide) (fun c_2 => ?_) (fun c_2 => ?_)
    · have h := it_f c_2 h
      refine lv_iload_n hx hb dX3_named_17 rfl (lv_at hl 3 rfl) ?_
      cases h
      exact gIret hF hP hD hS rfl dX3_named_18
    · have h := it_t c_2 h
      refine lv_iload_n hx hb dX3_named_13 rfl (lv_at hl 2 rfl) ?_
      refine lv_goto (tgt := 18) hx hb dX3_named_14 (by decide) ?_
      cases h
      exact gIret hF hP hD hS rfl dX3_named_18
  · have h := it_t c_1 h
    refine lv_iload_n hx hb dX3_named_5 rfl (lv_at hl 1 rfl) ?_
    cases h
    exact gIret hF hP hD hS rfl dX3_named_6
set_option maxRecDepth 20000 in
theorem in_X3_worksOut_X3 : ∀ w ∈ u_ws RX3 TX3 14, w ∈ wsX3_worksOut := by decide +kernel
def f_X3_worksOut_L163 (v_stack : Nat → Int32) : Option (Int32 × (Nat → Int32)) :=
  chi 0 50 <|
  nm (v_stack 0.toNatClampNeg) fun t_19 =>
  nm (if t_19 < 99 then t_19 else 99) fun t_20 =>
  nm (if 0 < t_20 then t_20 else 0) fun t_21 =>
  some (t_21, v_stack)

def f_X3_worksOut_L117 (kk_L6 : Int32 → Int32 → (Nat → Int32) → Option (Int32 × (Nat → Int32))) (a_1 : Int32) (a_2 : Int32) (a_3 : Int32) (v_length : Int32) (v_steps : Nat → Int32) (x4 : Int32) (x5 : Int32) (x6 : Int32) (v_stack : Nat → Int32) : Option (Int32 × (Nat → Int32)) :=
  if x4 ≤ 1 then
    nm (x5 + 1) fun t_35 =>
    kk_L6 x4 t_35 v_stack
  else
    nm (x4 + (-1)) fun t_36 =>
    nm (t_36 - 1) fun t_37 =>
    nm (-x6) fun t_38 =>
    nm (t_36 - 1) fun t_39 =>
    chi t_39 50 <|
    nm (v_stack t_39.toNatClampNeg) fun t_41 =>
    chi t_36 50 <|
    nm (v_stack t_36.toNatClampNeg) fun t_43 =>
    kb (f_X3_joined t_38 t_41 t_43) fun r_45 =>
    chi t_37 50 <|
    nm (upd v_stack t_37.toNatClampNeg r_45) fun w_47 =>
    nm (x5 + 1) fun t_48 =>
    kk_L6 t_36 t_48 w_47

def f_X3_worksOut_L76 (kk_L6 : Int32 → Int32 → (Nat → Int32) → Option (Int32 × (Nat → Int32))) (a_1 : Int32) (a_2 : Int32) (a_3 : Int32) (v_length : Int32) (v_steps : Nat → Int32) (x4 : Int32) (x5 : Int32) (x6 : Int32) (v_stack : Nat → Int32) : Option (Int32 × (Nat → Int32)) :=
  if x6 = (-33) then
    if x4 ≤ 0 then
      f_X3_worksOut_L117 kk_L6 a_1 a_2 a_3 v_length v_steps x4 x5 x6 v_stack
    else
      nm (x4 - 1) fun t_24 =>
      nm (x4 - 1) fun t_25 =>
      chi t_25 50 <|
      if (v_stack t_25.toNatClampNeg) = 0 then
        chi t_24 50 <|
        nm (upd v_stack t_24.toNatClampNeg 1) fun w_32 =>
        nm (x5 + 1) fun t_33 =>
        kk_L6 x4 t_33 w_32
      else
        chi t_24 50 <|
        nm (upd v_stack t_24.toNatClampNeg 0) fun w_29 =>
        nm (x5 + 1) fun t_30 =>
        kk_L6 x4 t_30 w_29
  else
    f_X3_worksOut_L117 kk_L6 a_1 a_2 a_3 v_length v_steps x4 x5 x6 v_stack

def f_X3_worksOut_L6 (a_1 : Int32) (a_2 : Int32) (a_3 : Int32) (v_length : Int32) (v_steps : Nat → Int32) : Nat → Int32 → Int32 → (Nat → Int32) → Option (Int32 × (Nat → Int32))
  | 0, _, _, _ => none
  | n + 1, x4, x5, v_stack =>
    if v_length ≤ x5 then
      f_X3_worksOut_L163 v_stack
    else
      if 50 ≤ x5 then
        f_X3_worksOut_L163 v_stack
      else
        chi x5 50 <|
        nm (v_steps x5.toNatClampNeg) fun t_4 =>
        if t_4 < (-3) then
          f_X3_worksOut_L76 (f_X3_worksOut_L6 a_1 a_2 a_3 v_length v_steps n) a_1 a_2 a_3 v_length v_steps x4 x5 t_4 v_stack
        else
          if 50 ≤ x4 then
            f_X3_worksOut_L76 (f_X3_worksOut_L6 a_1 a_2 a_3 v_length v_steps n) a_1 a_2 a_3 v_length v_steps x4 x5 t_4 v_stack
          else
            if t_4 < 0 then
              kb (f_X3_named t_4 a_1 a_2 a_3) fun r_9 =>
              chi x4 50 <|
              nm (upd v_stack x4.toNatClampNeg r_9) fun w_11 =>
              nm (x4 + 1) fun t_12 =>
              nm (x5 + 1) fun t_13 =>
              f_X3_worksOut_L6 a_1 a_2 a_3 v_length v_steps n t_12 t_13 w_11
            else
              chi x4 50 <|
              nm (upd v_stack x4.toNatClampNeg t_4) fun w_15 =>
              nm (x4 + 1) fun t_16 =>
              nm (x5 + 1) fun t_17 =>
              f_X3_worksOut_L6 a_1 a_2 a_3 v_length v_steps n t_16 t_17 w_15

def f_X3_worksOut (a_1 : Int32) (a_2 : Int32) (a_3 : Int32) (v_length : Int32) (v_stack : Nat → Int32) (v_steps : Nat → Int32) : Option (Int32 × (Nat → Int32)) :=
  f_X3_worksOut_L6 a_1 a_2 a_3 v_length v_steps gFuel 0 0 v_stack

abbrev rm_X3_worksOut : Room := { frames := 1, cells := 0, slots := 0, locals := 23 }
set_option maxHeartbeats 4000000 in
set_option maxRecDepth 100000 in
theorem c_X3_worksOut (l : Launch) (D : va_G) (c : Nat → ClassId) (q_this q_names q_steps q_stack q_answers q_draft q_held : Nat) (a_1 : Int32) (a_2 : Int32) (a_3 : Int32) (v_length : Int32) (v_side : Int32) (v_round : Int32) (v_drafted : Int32) (v_holding : Int32) (v_open : Int32) (v_digits : Int32) (v_wantsOperand : Int32) (v_stack : Nat → Int32) (v_steps : Nat → Int32) (o_r : Int32) (o_v_stack : Nat → Int32) (h : f_X3_worksOut a_1 a_2 a_3 v_length v_stack v_steps = some (o_r, o_v_stack)) : gMI l yX3_worksOut wsX3_worksOut rm_X3_worksOut D c [.ref q_this, .int a_1, .int a_2, .int a_3] [(q_this, .inr (3, [.ref q_names, .ref q_steps, .int v_length, .ref q_stack, .ref q_answers, .int v_side, .int v_round, .ref q_draft, .int v_drafted, .ref q_held, .int v_holding, .int v_open, .int v_digits, .int v_wantsOperand])), (q_stack, .inl (c 0, 50, .inl v_stack)), (q_steps, .inl (c 0, 50, .inl v_steps))] [(q_this, .inr (3, [.ref q_names, .ref q_steps, .int v_length, .ref q_stack, .ref q_answers, .int v_side, .int v_round, .ref q_draft, .int v_drafted, .ref q_held, .int v_holding, .int v_open, .int v_digits, .int v_wantsOperand])), (q_stack, .inl (c 0, 50, .inl o_v_stack)), (q_steps, .inl (c 0, 50, .inl v_steps))] o_r := by
  refine gMI_of (cc := cX3_worksOut) (maxL := 7) (rt := (some .int)) (by decide +kernel) rfl (Nat.le_of_ble_eq_true rfl) ?_
  intro p e s m below meth co A hF hK hX hP hD hA hS ls hl
  obtain ⟨hx, hb, hr, hts, hown, hlocks, hml⟩ := id hF
  have hl : lv_has ls 7 [(0, .ref q_this), (1, .int a_1), (2, .int a_2), (3, .int a_3)] := hl
  have t_L163 : ∀ (v_stack : Nat → Int32) (H : Heap) (locs : List Loc), va_P D gcl [(q_this, .inr (3, [.ref q_names, .ref q_steps, .int v_length, .ref q_stack, .ref q_answers, .int v_side, .int v_round, .ref q_draft, .int v_drafted, .ref q_held, .int v_holding, .int v_open, .int v_digits, .int v_wantsOperand])), (q_stack, .inl (c 0, 50, .inl v_stack)), (q_steps, .inl (c 0, 50, .inl v_steps))] H → va_D A [(q_this, .inr (3, [.ref q_names, .ref q_steps, .int v_length, .ref q_stack, .ref q_answers, .int v_side, .int v_round, .ref q_draft, .int v_drafted, .ref q_held, .int v_holding, .int v_open, .int v_digits, .int v_wantsOperand])), (q_stack, .inl (c 0, 50, .inl v_stack)), (q_steps, .inl (c 0, 50, .inl v_steps))] → va_S A s.heap H locs → ∀ ls, lv_has ls 7 [(0, .ref q_this)] → f_X3_worksOut_L163 v_stack = some (o_r, o_v_stack) → W p l e (headSpec wsX3_worksOut rm_X3_worksOut).room s m [.ref q_this, .int a_1, .int a_2, .int a_3].toArray below meth co H locs 0 0 (gQI D [(q_this, .inr (3, [.ref q_names, .ref q_steps, .int v_length, .ref q_stack, .ref q_answers, .int v_side, .int v_round, .ref q_draft, .int v_drafted, .ref q_held, .int v_holding, .int v_open, .int v_digits, .int v_wantsOperand])), (q_stack, .inl (c 0, 50, .inl o_v_stack)), (q_steps, .inl (c 0, 50, .inl v_steps))] o_r A below [.ref q_this, .int a_1, .int a_2, .int a_3] s) (F0 m 163 ls []) := by
    intro  v_stack H locs hP hD hS ls hl h
    unfold f_X3_worksOut_L163 at h
    refine lv_iconst (v := 0) hx hb dX3_worksOut_163 (by decide) ?_
    refine lv_bipush (v := 99) hx hb dX3_worksOut_164 (by decide) ?_
    refine lv_aload_n hx hb dX3_worksOut_166 rfl (lv_at hl 0 rfl) ?_
    refine va_get (D := D) (ci := 3) (v := .ref q_stack) (C := RX3) (T := TX3) (N := 14) hx hb hts in_X3_worksOut_X3 hown hK.1 hP 0 rfl rfl 3 (by decide) (hts (.fieldLink RX3 15 "PaperBubbles$Law" "stack" "[I") (List.mem_of_getElem? (i := 3) rfl)) (fun _ h9 => h9) rfl dX3_worksOut_167 ?_
    refine lv_iconst (v := 0) hx hb dX3_worksOut_170 (by decide) ?_
    obtain ⟨hi_18, h⟩ := chi_ok h
    refine va_iald hx hb hK.1 hP 1 0 rfl rfl hi_18 dX3_worksOut_171 ?_
    obtain ⟨t_19, et_19, h⟩ := nm_ok h
    refine gTop et_19 ?_
    refine va_mmin hx hb (by rw [hml]; exact hl.1.symm) hown (hts (.methodLink RX3 69 Lib.Math.min.name) (List.mem_of_getElem? (i := 4) rfl)) (hts (.static Lib.Math.min.name) (List.mem_of_getElem? (i := 5) rfl)) (hts (.initialized "java/lang/Math") (List.mem_of_getElem? (i := 6) rfl)) (hts (.code Lib.Math.min.name Lib.Math.min.code 2 (some .int)) (List.mem_of_getElem? (i := 7) rfl)) (Nat.le_of_ble_eq_true rfl) (by first | exact Nat.le_of_ble_eq_true rfl | decide) (Nat.le_of_ble_eq_true rfl) (Nat.le_of_ble_eq_true rfl) dX3_worksOut_172 ?_
    obtain ⟨t_20, et_20, h⟩ := nm_ok h
    refine gTop et_20 ?_
    refine va_mmax hx hb (by rw [hml]; exact hl.1.symm) hown (hts (.methodLink RX3 75 Lib.Math.max.name) (List.mem_of_getElem? (i := 8) rfl)) (hts (.static Lib.Math.max.name) (List.mem_of_getElem? (i := 9) rfl)) (hts (.initialized "java/lang/Math") (List.mem_of_getElem? (i := 6) rfl)) (hts (.code Lib.Math.max.name Lib.Math.max.code 2 (some .int)) (List.mem_of_getElem? (i := 10) rfl)) (Nat.le_of_ble_eq_true rfl) (by first | exact Nat.le_of_ble_eq_true rfl | decide) (Nat.le_of_ble_eq_true rfl) (Nat.le_of_ble_eq_true rfl) dX3_worksOut_175 ?_
    obtain ⟨t_21, et_21, h⟩ := nm_ok h
    refine gTop et_21 ?_
    cases h
    exact gIret hF hP hD hS rfl dX3_worksOut_178
  have t_L117 : ∀ (kk_L6 : Int32 → Int32 → (Nat → Int32) → Option (Int32 × (Nat → Int32))), (∀ (x4 : Int32) (x5 : Int32) (v_stack : Nat → Int32) (H : Heap) (locs : List Loc), va_P D gcl [(q_this, .inr (3, [.ref q_names, .ref q_steps, .int v_length, .ref q_stack, .ref q_answers, .int v_side, .int v_round, .ref q_draft, .int v_drafted, .ref q_held, .int v_holding, .int v_open, .int v_digits, .int v_wantsOperand])), (q_stack, .inl (c 0, 50, .inl v_stack)), (q_steps, .inl (c 0, 50, .inl v_steps))] H → va_D A [(q_this, .inr (3, [.ref q_names, .ref q_steps, .int v_length, .ref q_stack, .ref q_answers, .int v_side, .int v_round, .ref q_draft, .int v_drafted, .ref q_held, .int v_holding, .int v_open, .int v_digits, .int v_wantsOperand])), (q_stack, .inl (c 0, 50, .inl v_stack)), (q_steps, .inl (c 0, 50, .inl v_steps))] → va_S A s.heap H locs → ∀ ls, lv_has ls 7 [(0, .ref q_this), (1, .int a_1), (2, .int a_2), (3, .int a_3), (4, .int x4), (5, .int x5)] → kk_L6 x4 x5 v_stack = some (o_r, o_v_stack) → W p l e (headSpec wsX3_worksOut rm_X3_worksOut).room s m [.ref q_this, .int a_1, .int a_2, .int a_3].toArray below meth co H locs 0 0 (gQI D [(q_this, .inr (3, [.ref q_names, .ref q_steps, .int v_length, .ref q_stack, .ref q_answers, .int v_side, .int v_round, .ref q_draft, .int v_drafted, .ref q_held, .int v_holding, .int v_open, .int v_digits, .int v_wantsOperand])), (q_stack, .inl (c 0, 50, .inl o_v_stack)), (q_steps, .inl (c 0, 50, .inl v_steps))] o_r A below [.ref q_this, .int a_1, .int a_2, .int a_3] s) (F0 m 6 ls [])) → ∀ (x4 : Int32) (x5 : Int32) (x6 : Int32) (v_stack : Nat → Int32) (H : Heap) (locs : List Loc), va_P D gcl [(q_this, .inr (3, [.ref q_names, .ref q_steps, .int v_length, .ref q_stack, .ref q_answers, .int v_side, .int v_round, .ref q_draft, .int v_drafted, .ref q_held, .int v_holding, .int v_open, .int v_digits, .int v_wantsOperand])), (q_stack, .inl (c 0, 50, .inl v_stack)), (q_steps, .inl (c 0, 50, .inl v_steps))] H → va_D A [(q_this, .inr (3, [.ref q_names, .ref q_steps, .int v_length, .ref q_stack, .ref q_answers, .int v_side, .int v_round, .ref q_draft, .int v_drafted, .ref q_held, .int v_holding, .int v_open, .int v_digits, .int v_wantsOperand])), (q_stack, .inl (c 0, 50, .inl v_stack)), (q_steps, .inl (c 0, 50, .inl v_steps))] → va_S A s.heap H locs → ∀ ls, lv_has ls 7 [(0, .ref q_this), (1, .int a_1), (2, .int a_2), (3, .int a_3), (4, .int x4), (5, .int x5), (6, .int x6)] → f_X3_worksOut_L117 kk_L6 a_1 a_2 a_3 v_length v_steps x4 x5 x6 v_stack = some (o_r, o_v_stack) → W p l e (headSpec wsX3_worksOut rm_X3_worksOut).room s m [.ref q_this, .int a_1, .int a_2, .int a_3].toArray below meth co H locs 0 0 (gQI D [(q_this, .inr (3, [.ref q_names, .ref q_steps, .int v_length, .ref q_stack, .ref q_answers, .int v_side, .int v_round, .ref q_draft, .int v_drafted, .ref q_held, .int v_holding, .int v_open, .int v_digits, .int v_wantsOperand])), (q_stack, .inl (c 0, 50, .inl o_v_stack)), (q_steps, .inl (c 0, 50, .inl v_steps))] o_r A below [.ref q_this, .int a_1, .int a_2, .int a_3] s) (F0 m 117 ls []) := by
    intro kk_L6 hkk_L6 x4 x5 x6 v_stack H locs hP hD hS ls hl h
    unfold f_X3_worksOut_L117 at h
    refine lv_iload hx hb dX3_worksOut_117 (lv_at hl 4 rfl) ?_
    refine lv_iconst (v := 1) hx hb dX3_worksOut_119 (by decide) ?_
    refine lv_icmp_le (tgt := 157) hx hb dX3_worksOut_120 (by decide) (fun c_34 => ?_) (fun c_34 => ?_)
    · have h := it_t c_34 h
      obtain ⟨t_35, et_35, h⟩ := nm_ok h
      refine lv_iinc (v := t_35) (lv' := [(5, .int t_35), (0, .ref q_this), (1, .int a_1), (2, .int a_2), (3, .int a_3), (4, .int x4), (6, .int x6)]) hx hb dX3_worksOut_157 hl (k := 5) rfl (by rw [et_35]; rfl) (by decide) rfl (fun ls hl => ?_)
      refine lv_goto (tgt := 6) hx hb dX3_worksOut_160 (by decide) ?_
      exact hkk_L6 x4 t_35 v_stack H locs hP hD hS ls (lv_sub hl [1, 2, 3, 4, 5, 0] rfl) h
    · have h := it_f c_34 h
      obtain ⟨t_36, et_36, h⟩ := nm_ok h
      refine lv_iinc (v := t_36) (lv' := [(4, .int t_36), (0, .ref q_this), (1, .int a_1), (2, .int a_2), (3, .int a_3), (5, .int x5), (6, .int x6)]) hx hb dX3_worksOut_123 hl (k := 4) rfl (by rw [et_36]; rfl) (by decide) rfl (fun ls hl => ?_)
      refine lv_aload_n hx hb dX3_worksOut_126 rfl (lv_at hl 1 rfl) ?_
      refine va_get (D := D) (ci := 3) (v := .ref q_stack) (C := RX3) (T := TX3) (N := 14) hx hb hts in_X3_worksOut_X3 hown hK.1 hP 0 rfl rfl 3 (by decide) (hts (.fieldLink RX3 15 "PaperBubbles$Law" "stack" "[I") (List.mem_of_getElem? (i := 3) rfl)) (fun _ h9 => h9) rfl dX3_worksOut_127 ?_
      refine lv_iload hx hb dX3_worksOut_130 (lv_at hl 0 rfl) ?_
      refine lv_iconst (v := 1) hx hb dX3_worksOut_132 (by decide) ?_
      refine lv_isub hx hb dX3_worksOut_133 ?_
      obtain ⟨t_37, et_37, h⟩ := nm_ok h
      refine gTop et_37 ?_
      refine lv_iload hx hb dX3_worksOut_134 (lv_at hl 6 rfl) ?_
      refine lv_ineg hx hb dX3_worksOut_136 ?_
      obtain ⟨t_38, et_38, h⟩ := nm_ok h
      refine gTop et_38 ?_
      refine lv_aload_n hx hb dX3_worksOut_137 rfl (lv_at hl 1 rfl) ?_
      refine va_get (D := D) (ci := 3) (v := .ref q_stack) (C := RX3) (T := TX3) (N := 14) hx hb hts in_X3_worksOut_X3 hown hK.1 hP 0 rfl rfl 3 (by decide) (hts (.fieldLink RX3 15 "PaperBubbles$Law" "stack" "[I") (List.mem_of_getElem? (i := 3) rfl)) (fun _ h9 => h9) rfl dX3_worksOut_138 ?_
      refine lv_iload hx hb dX3_worksOut_141 (lv_at hl 0 rfl) ?_
      refine lv_iconst (v := 1) hx hb dX3_worksOut_143 (by decide) ?_
      refine lv_isub hx hb dX3_worksOut_144 ?_
      obtain ⟨t_39, et_39, h⟩ := nm_ok h
      refine gTop et_39 ?_
      obtain ⟨hi_40, h⟩ := chi_ok h
      refine va_iald hx hb hK.1 hP 1 0 rfl rfl hi_40 dX3_worksOut_145 ?_
      obtain ⟨t_41, et_41, h⟩ := nm_ok h
      refine gTop et_41 ?_
      refine lv_aload_n hx hb dX3_worksOut_146 rfl (lv_at hl 1 rfl) ?_
      refine va_get (D := D) (ci := 3) (v := .ref q_stack) (C := RX3) (T := TX3) (N := 14) hx hb hts in_X3_worksOut_X3 hown hK.1 hP 0 rfl rfl 3 (by decide) (hts (.fieldLink RX3 15 "PaperBubbles$Law" "stack" "[I") (List.mem_of_getElem? (i := 3) rfl)) (fun _ h9 => h9) rfl dX3_worksOut_147 ?_
      refine lv_iload hx hb dX3_worksOut_150 (lv_at hl 0 rfl) ?_
      obtain ⟨hi_42, h⟩ := chi_ok h
      refine va_iald hx hb hK.1 hP 1 0 rfl rfl hi_42 dX3_worksOut_152 ?_
      obtain ⟨t_43, et_43, h⟩ := nm_ok h
      refine gTop et_43 ?_
      obtain ⟨r_45, hc_44, h⟩ := kb_ok h
      refine gCallI (isC := []) (wc := []) (w1 := []) hP hD hS hA rfl rfl (va_runS (rm := rm_X3_joined) (ws := wsX3_joined) (As := [.int t_38, .int t_41, .int t_43]) (rest := [.int t_37, .ref q_stack]) (gFix hF) (c_X3_joined l D c t_38 t_41 t_43 r_45 hc_44 H.size) (va_cwS 3 hts gX3_worksOut_X3_joined rfl rfl rfl (by decide +kernel) ⟨Nat.le_of_ble_eq_true rfl, Nat.le_of_ble_eq_true rfl⟩) (gPreS (wc := []) (isC := []) hK hX hS hA hP hD rfl (by decide)) rfl rfl hl.1 rfl (lv_room (Nat.le_of_ble_eq_true rfl)) dX3_worksOut_153 ⟨Nat.le_of_ble_eq_true rfl, Nat.le_of_ble_eq_true rfl⟩) (fun H locs hP hD hS => ?_)
      have hP : va_P D gcl [(q_this, .inr (3, [.ref q_names, .ref q_steps, .int v_length, .ref q_stack, .ref q_answers, .int v_side, .int v_round, .ref q_draft, .int v_drafted, .ref q_held, .int v_holding, .int v_open, .int v_digits, .int v_wantsOperand])), (q_stack, .inl (c 0, 50, .inl v_stack)), (q_steps, .inl (c 0, 50, .inl v_steps))] H := hP
      have hD : va_D A [(q_this, .inr (3, [.ref q_names, .ref q_steps, .int v_length, .ref q_stack, .ref q_answers, .int v_side, .int v_round, .ref q_draft, .int v_drafted, .ref q_held, .int v_holding, .int v_open, .int v_digits, .int v_wantsOperand])), (q_stack, .inl (c 0, 50, .inl v_stack)), (q_steps, .inl (c 0, 50, .inl v_steps))] := hD
      obtain ⟨hi_46, h⟩ := chi_ok h
      obtain ⟨w_47, ew_47, h⟩ := nm_ok h
      refine va_iast hx hb hK.1 hP hD hS 1 0 rfl rfl hi_46 dX3_worksOut_156 (fun H locs hP hD hS => ?_)
      have hP : va_P D gcl [(q_this, .inr (3, [.ref q_names, .ref q_steps, .int v_length, .ref q_stack, .ref q_answers, .int v_side, .int v_round, .ref q_draft, .int v_drafted, .ref q_held, .int v_holding, .int v_open, .int v_digits, .int v_wantsOperand])), (q_stack, .inl (c 0, 50, .inl w_47)), (q_steps, .inl (c 0, 50, .inl v_steps))] H := by subst ew_47; exact hP
      have hD : va_D A [(q_this, .inr (3, [.ref q_names, .ref q_steps, .int v_length, .ref q_stack, .ref q_answers, .int v_side, .int v_round, .ref q_draft, .int v_drafted, .ref q_held, .int v_holding, .int v_open, .int v_digits, .int v_wantsOperand])), (q_stack, .inl (c 0, 50, .inl w_47)), (q_steps, .inl (c 0, 50, .inl v_steps))] := by subst ew_47; exact hD
      obtain ⟨t_48, et_48, h⟩ := nm_ok h
      refine lv_iinc (v := t_48) (lv' := [(5, .int t_48), (4, .int t_36), (0, .ref q_this), (1, .int a_1), (2, .int a_2), (3, .int a_3), (6, .int x6)]) hx hb dX3_worksOut_157 hl (k := 5) rfl (by rw [et_48]; rfl) (by decide) rfl (fun ls hl => ?_)
      refine lv_goto (tgt := 6) hx hb dX3_worksOut_160 (by decide) ?_
      exact hkk_L6 t_36 t_48 w_47 H locs hP hD hS ls (lv_sub hl [2, 3, 4, 5, 1, 0] rfl) h
  have t_L76 : ∀ (kk_L6 : Int32 → Int32 → (Nat → Int32) → Option (Int32 × (Nat → Int32))), (∀ (x4 : Int32) (x5 : Int32) (v_stack : Nat → Int32) (H : Heap) (locs : List Loc), va_P D gcl [(q_this, .inr (3, [.ref q_names, .ref q_steps, .int v_length, .ref q_stack, .ref q_answers, .int v_side, .int v_round, .ref q_draft, .int v_drafted, .ref q_held, .int v_holding, .int v_open, .int v_digits, .int v_wantsOperand])), (q_stack, .inl (c 0, 50, .inl v_stack)), (q_steps, .inl (c 0, 50, .inl v_steps))] H → va_D A [(q_this, .inr (3, [.ref q_names, .ref q_steps, .int v_length, .ref q_stack, .ref q_answers, .int v_side, .int v_round, .ref q_draft, .int v_drafted, .ref q_held, .int v_holding, .int v_open, .int v_digits, .int v_wantsOperand])), (q_stack, .inl (c 0, 50, .inl v_stack)), (q_steps, .inl (c 0, 50, .inl v_steps))] → va_S A s.heap H locs → ∀ ls, lv_has ls 7 [(0, .ref q_this), (1, .int a_1), (2, .int a_2), (3, .int a_3), (4, .int x4), (5, .int x5)] → kk_L6 x4 x5 v_stack = some (o_r, o_v_stack) → W p l e (headSpec wsX3_worksOut rm_X3_worksOut).room s m [.ref q_this, .int a_1, .int a_2, .int a_3].toArray below meth co H locs 0 0 (gQI D [(q_this, .inr (3, [.ref q_names, .ref q_steps, .int v_length, .ref q_stack, .ref q_answers, .int v_side, .int v_round, .ref q_draft, .int v_drafted, .ref q_held, .int v_holding, .int v_open, .int v_digits, .int v_wantsOperand])), (q_stack, .inl (c 0, 50, .inl o_v_stack)), (q_steps, .inl (c 0, 50, .inl v_steps))] o_r A below [.ref q_this, .int a_1, .int a_2, .int a_3] s) (F0 m 6 ls [])) → ∀ (x4 : Int32) (x5 : Int32) (x6 : Int32) (v_stack : Nat → Int32) (H : Heap) (locs : List Loc), va_P D gcl [(q_this, .inr (3, [.ref q_names, .ref q_steps, .int v_length, .ref q_stack, .ref q_answers, .int v_side, .int v_round, .ref q_draft, .int v_drafted, .ref q_held, .int v_holding, .int v_open, .int v_digits, .int v_wantsOperand])), (q_stack, .inl (c 0, 50, .inl v_stack)), (q_steps, .inl (c 0, 50, .inl v_steps))] H → va_D A [(q_this, .inr (3, [.ref q_names, .ref q_steps, .int v_length, .ref q_stack, .ref q_answers, .int v_side, .int v_round, .ref q_draft, .int v_drafted, .ref q_held, .int v_holding, .int v_open, .int v_digits, .int v_wantsOperand])), (q_stack, .inl (c 0, 50, .inl v_stack)), (q_steps, .inl (c 0, 50, .inl v_steps))] → va_S A s.heap H locs → ∀ ls, lv_has ls 7 [(0, .ref q_this), (1, .int a_1), (2, .int a_2), (3, .int a_3), (4, .int x4), (5, .int x5), (6, .int x6)] → f_X3_worksOut_L76 kk_L6 a_1 a_2 a_3 v_length v_steps x4 x5 x6 v_stack = some (o_r, o_v_stack) → W p l e (headSpec wsX3_worksOut rm_X3_worksOut).room s m [.ref q_this, .int a_1, .int a_2, .int a_3].toArray below meth co H locs 0 0 (gQI D [(q_this, .inr (3, [.ref q_names, .ref q_steps, .int v_length, .ref q_stack, .ref q_answers, .int v_side, .int v_round, .ref q_draft, .int v_drafted, .ref q_held, .int v_holding, .int v_open, .int v_digits, .int v_wantsOperand])), (q_stack, .inl (c 0, 50, .inl o_v_stack)), (q_steps, .inl (c 0, 50, .inl v_steps))] o_r A below [.ref q_this, .int a_1, .int a_2, .int a_3] s) (F0 m 76 ls []) := by
    intro kk_L6 hkk_L6 x4 x5 x6 v_stack H locs hP hD hS ls hl h
    unfold f_X3_worksOut_L76 at h
    refine lv_iload hx hb dX3_worksOut_76 (lv_at hl 6 rfl) ?_
    refine lv_bipush (v := (-33)) hx hb dX3_worksOut_78 (by decide) ?_
    refine lv_icmp_ne (tgt := 117) hx hb dX3_worksOut_80 (by decide) (fun c_22 => ?_) (fun c_22 => ?_)
    · have h := it_f c_22 h
      exact t_L117 _ hkk_L6 x4 x5 x6 v_stack H locs hP hD hS ls (lv_sub hl [0, 1, 2, 3, 4, 5, 6] rfl) h
    · have h := it_t c_22 h
      refine lv_iload hx hb dX3_worksOut_83 (lv_at hl 4 rfl) ?_
      refine lv_if_le (tgt := 117) hx hb dX3_worksOut_85 (by decide) (fun c_23 => ?_) (fun c_23 => ?_)
      · have h := it_t c_23 h
        exact t_L117 _ hkk_L6 x4 x5 x6 v_stack H locs hP hD hS ls (lv_sub hl [0, 1, 2, 3, 4, 5, 6] rfl) h
      · have h := it_f c_23 h
        refine lv_aload_n hx hb dX3_worksOut_88 rfl (lv_at hl 0 rfl) ?_
        refine va_get (D := D) (ci := 3) (v := .ref q_stack) (C := RX3) (T := TX3) (N := 14) hx hb hts in_X3_worksOut_X3 hown hK.1 hP 0 rfl rfl 3 (by decide) (hts (.fieldLink RX3 15 "PaperBubbles$Law" "stack" "[I") (List.mem_of_getElem? (i := 3) rfl)) (fun _ h9 => h9) rfl dX3_worksOut_89 ?_
        refine lv_iload hx hb dX3_worksOut_92 (lv_at hl 4 rfl) ?_
        refine lv_iconst (v := 1) hx hb dX3_worksOut_94 (by decide) ?_
        refine lv_isub hx hb dX3_worksOut_95 ?_
        obtain ⟨t_24, et_24, h⟩ := nm_ok h
        refine gTop et_24 ?_
        refine lv_aload_n hx hb dX3_worksOut_96 rfl (lv_at hl 0 rfl) ?_
        refine va_get (D := D) (ci := 3) (v := .ref q_stack) (C := RX3) (T := TX3) (N := 14) hx hb hts in_X3_worksOut_X3 hown hK.1 hP 0 rfl rfl 3 (by decide) (hts (.fieldLink RX3 15 "PaperBubbles$Law" "stack" "[I") (List.mem_of_getElem? (i := 3) rfl)) (fun _ h9 => h9) rfl dX3_worksOut_97 ?_
        refine lv_iload hx hb dX3_worksOut_100 (lv_at hl 4 rfl) ?_
        refine lv_iconst (v := 1) hx hb dX3_worksOut_102 (by decide) ?_
        refine lv_isub hx hb dX3_worksOut_103 ?_
        obtain ⟨t_25, et_25, h⟩ := nm_ok h
        refine gTop et_25 ?_
        obtain ⟨hi_26, h⟩ := chi_ok h
        refine va_iald hx hb hK.1 hP 1 0 rfl rfl hi_26 dX3_worksOut_104 ?_
        refine lv_if_ne (tgt := 112) hx hb dX3_worksOut_105 (by decide) (fun c_27 => ?_) (fun c_27 => ?_)
        · have h := it_f c_27 h
          refine lv_iconst (v := 0) hx hb dX3_worksOut_112 (by decide) ?_
          obtain ⟨hi_28, h⟩ := chi_ok h
          obtain ⟨w_29, ew_29, h⟩ := nm_ok h
          refine va_iast hx hb hK.1 hP hD hS 1 0 rfl rfl hi_28 dX3_worksOut_113 (fun H locs hP hD hS => ?_)
          have hP : va_P D gcl [(q_this, .inr (3, [.ref q_names, .ref q_steps, .int v_length, .ref q_stack, .ref q_answers, .int v_side, .int v_round, .ref q_draft, .int v_drafted, .ref q_held, .int v_holding, .int v_open, .int v_digits, .int v_wantsOperand])), (q_stack, .inl (c 0, 50, .inl w_29)), (q_steps, .inl (c 0, 50, .inl v_steps))] H := by subst ew_29; exact hP
          have hD : va_D A [(q_this, .inr (3, [.ref q_names, .ref q_steps, .int v_length, .ref q_stack, .ref q_answers, .int v_side, .int v_round, .ref q_draft, .int v_drafted, .ref q_held, .int v_holding, .int v_open, .int v_digits, .int v_wantsOperand])), (q_stack, .inl (c 0, 50, .inl w_29)), (q_steps, .inl (c 0, 50, .inl v_steps))] := by subst ew_29; exact hD
          refine lv_goto (tgt := 157) hx hb dX3_worksOut_114 (by decide) ?_
          obtain ⟨t_30, et_30, h⟩ := nm_ok h
          refine lv_iinc (v := t_30) (lv' := [(5, .int t_30), (0, .ref q_this), (1, .int a_1), (2, .int a_2), (3, .int a_3), (4, .int x4), (6, .int x6)]) hx hb dX3_worksOut_157 hl (k := 5) rfl (by rw [et_30]; rfl) (by decide) rfl (fun ls hl => ?_)
          refine lv_goto (tgt := 6) hx hb dX3_worksOut_160 (by decide) ?_
          exact hkk_L6 x4 t_30 w_29 H locs hP hD hS ls (lv_sub hl [1, 2, 3, 4, 5, 0] rfl) h
        · have h := it_t c_27 h
          refine lv_iconst (v := 1) hx hb dX3_worksOut_108 (by decide) ?_
          refine lv_goto (tgt := 113) hx hb dX3_worksOut_109 (by decide) ?_
          obtain ⟨hi_31, h⟩ := chi_ok h
          obtain ⟨w_32, ew_32, h⟩ := nm_ok h
          refine va_iast hx hb hK.1 hP hD hS 1 0 rfl rfl hi_31 dX3_worksOut_113 (fun H locs hP hD hS => ?_)
          have hP : va_P D gcl [(q_this, .inr (3, [.ref q_names, .ref q_steps, .int v_length, .ref q_stack, .ref q_answers, .int v_side, .int v_round, .ref q_draft, .int v_drafted, .ref q_held, .int v_holding, .int v_open, .int v_digits, .int v_wantsOperand])), (q_stack, .inl (c 0, 50, .inl w_32)), (q_steps, .inl (c 0, 50, .inl v_steps))] H := by subst ew_32; exact hP
          have hD : va_D A [(q_this, .inr (3, [.ref q_names, .ref q_steps, .int v_length, .ref q_stack, .ref q_answers, .int v_side, .int v_round, .ref q_draft, .int v_drafted, .ref q_held, .int v_holding, .int v_open, .int v_digits, .int v_wantsOperand])), (q_stack, .inl (c 0, 50, .inl w_32)), (q_steps, .inl (c 0, 50, .inl v_steps))] := by subst ew_32; exact hD
          refine lv_goto (tgt := 157) hx hb dX3_worksOut_114 (by decide) ?_
          obtain ⟨t_33, et_33, h⟩ := nm_ok h
          refine lv_iinc (v := t_33) (lv' := [(5, .int t_33), (0, .ref q_this), (1, .int a_1), (2, .int a_2), (3, .int a_3), (4, .int x4), (6, .int x6)]) hx hb dX3_worksOut_157 hl (k := 5) rfl (by rw [et_33]; rfl) (by decide) rfl (fun ls hl => ?_)
          refine lv_goto (tgt := 6) hx hb dX3_worksOut_160 (by decide) ?_
          exact hkk_L6 x4 t_33 w_32 H locs hP hD hS ls (lv_sub hl [1, 2, 3, 4, 5, 0] rfl) h
  have t_L6 : ∀ (n : Nat), ∀ (x4 : Int32) (x5 : Int32) (v_stack : Nat → Int32) (H : Heap) (locs : List Loc), va_P D gcl [(q_this, .inr (3, [.ref q_names, .ref q_steps, .int v_length, .ref q_stack, .ref q_answers, .int v_side, .int v_round, .ref q_draft, .int v_drafted, .ref q_held, .int v_holding, .int v_open, .int v_digits, .int v_wantsOperand])), (q_stack, .inl (c 0, 50, .inl v_stack)), (q_steps, .inl (c 0, 50, .inl v_steps))] H → va_D A [(q_this, .inr (3, [.ref q_names, .ref q_steps, .int v_length, .ref q_stack, .ref q_answers, .int v_side, .int v_round, .ref q_draft, .int v_drafted, .ref q_held, .int v_holding, .int v_open, .int v_digits, .int v_wantsOperand])), (q_stack, .inl (c 0, 50, .inl v_stack)), (q_steps, .inl (c 0, 50, .inl v_steps))] → va_S A s.heap H locs → ∀ ls, lv_has ls 7 [(0, .ref q_this), (1, .int a_1), (2, .int a_2), (3, .int a_3), (4, .int x4), (5, .int x5)] → f_X3_worksOut_L6 a_1 a_2 a_3 v_length v_steps n x4 x5 v_stack = some (o_r, o_v_stack) → W p l e (headSpec wsX3_worksOut rm_X3_worksOut).room s m [.ref q_this, .int a_1, .int a_2, .int a_3].toArray below meth co H locs 0 0 (gQI D [(q_this, .inr (3, [.ref q_names, .ref q_steps, .int v_length, .ref q_stack, .ref q_answers, .int v_side, .int v_round, .ref q_draft, .int v_drafted, .ref q_held, .int v_holding, .int v_open, .int v_digits, .int v_wantsOperand])), (q_stack, .inl (c 0, 50, .inl o_v_stack)), (q_steps, .inl (c 0, 50, .inl v_steps))] o_r A below [.ref q_this, .int a_1, .int a_2, .int a_3] s) (F0 m 6 ls []) := by
    intro n
    induction n with
    | zero => intro x4 x5 v_stack H locs hP hD hS ls hl h; exact no_ok h
    | succ n ih =>
      intro x4 x5 v_stack H locs hP hD hS ls hl h
      rw [f_X3_worksOut_L6] at h
      refine lv_iload hx hb dX3_worksOut_6 (lv_at hl 5 rfl) ?_
      refine lv_aload_n hx hb dX3_worksOut_8 rfl (lv_at hl 0 rfl) ?_
      refine va_get (D := D) (ci := 3) (v := .int v_length) (C := RX3) (T := TX3) (N := 14) hx hb hts in_X3_worksOut_X3 hown hK.1 hP 0 rfl rfl 2 (by decide) (hts (.fieldLink RX3 36 "PaperBubbles$Law" "length" "I") (List.mem_of_getElem? (i := 1) rfl)) (fun _ h9 => h9) rfl dX3_worksOut_9 ?_
      refine lv_icmp_ge (tgt := 163) hx hb dX3_worksOut_12 (by decide) (fun c_1 => ?_) (fun c_1 => ?_)
      · have h := it_t c_1 h
        exact t_L163 v_stack H locs hP hD hS ls (lv_sub hl [0] rfl) h
      · have h := it_f c_1 h
        refine lv_iload hx hb dX3_worksOut_15 (lv_at hl 5 rfl) ?_
        refine lv_bipush (v := 50) hx hb dX3_worksOut_17 (by decide) ?_
        refine lv_icmp_ge (tgt := 163) hx hb dX3_worksOut_19 (by decide) (fun c_2 => ?_) (fun c_2 => ?_)
        · have h := it_t c_2 h
          exact t_L163 v_stack H locs hP hD hS ls (lv_sub hl [0] rfl) h
        · have h := it_f c_2 h
          refine lv_aload_n hx hb dX3_worksOut_22 rfl (lv_at hl 0 rfl) ?_
          refine va_get (D := D) (ci := 3) (v := .ref q_steps) (C := RX3) (T := TX3) (N := 14) hx hb hts in_X3_worksOut_X3 hown hK.1 hP 0 rfl rfl 1 (by decide) (hts (.fieldLink RX3 9 "PaperBubbles$Law" "steps" "[I") (List.mem_of_getElem? (i := 2) rfl)) (fun _ h9 => h9) rfl dX3_worksOut_23 ?_
          refine lv_iload hx hb dX3_worksOut_26 (lv_at hl 5 rfl) ?_
          obtain ⟨hi_3, h⟩ := chi_ok h
          refine va_iald hx hb hK.1 hP 2 0 rfl rfl hi_3 dX3_worksOut_28 ?_
          obtain ⟨t_4, et_4, h⟩ := nm_ok h
          refine gTop et_4 ?_
          refine lv_istore (lv' := [(6, .int t_4), (0, .ref q_this), (1, .int a_1), (2, .int a_2), (3, .int a_3), (4, .int x4), (5, .int x5)]) hx hb dX3_worksOut_29 hl (by decide) rfl (fun ls hl => ?_)
          refine lv_iload hx hb dX3_worksOut_31 (lv_at hl 0 rfl) ?_
          refine lv_bipush (v := (-3)) hx hb dX3_worksOut_33 (by decide) ?_
          refine lv_icmp_lt (tgt := 76) hx hb dX3_worksOut_35 (by decide) (fun c_5 => ?_) (fun c_5 => ?_)
          · have h := it_t c_5 h
            exact t_L76 _ ih x4 x5 t_4 v_stack H locs hP hD hS ls (lv_sub hl [1, 2, 3, 4, 5, 6, 0] rfl) h
          · have h := it_f c_5 h
            refine lv_iload hx hb dX3_worksOut_38 (lv_at hl 5 rfl) ?_
            refine lv_bipush (v := 50) hx hb dX3_worksOut_40 (by decide) ?_
            refine lv_icmp_ge (tgt := 76) hx hb dX3_worksOut_42 (by decide) (fun c_6 => ?_) (fun c_6 => ?_)
            · have h := it_t c_6 h
              exact t_L76 _ ih x4 x5 t_4 v_stack H locs hP hD hS ls (lv_sub hl [1, 2, 3, 4, 5, 6, 0] rfl) h
            · have h := it_f c_6 h
              refine lv_aload_n hx hb dX3_worksOut_45 rfl (lv_at hl 1 rfl) ?_
              refine va_get (D := D) (ci := 3) (v := .ref q_stack) (C := RX3) (T := TX3) (N := 14) hx hb hts in_X3_worksOut_X3 hown hK.1 hP 0 rfl rfl 3 (by decide) (hts (.fieldLink RX3 15 "PaperBubbles$Law" "stack" "[I") (List.mem_of_getElem? (i := 3) rfl)) (fun _ h9 => h9) rfl dX3_worksOut_46 ?_
              refine lv_iload hx hb dX3_worksOut_49 (lv_at hl 5 rfl) ?_
              refine lv_iload hx hb dX3_worksOut_51 (lv_at hl 0 rfl) ?_
              refine lv_if_lt (tgt := 61) hx hb dX3_worksOut_53 (by decide) (fun c_7 => ?_) (fun c_7 => ?_)
              · have h := it_t c_7 h
                refine lv_iload hx hb dX3_worksOut_61 (lv_at hl 0 rfl) ?_
                refine lv_iload_n hx hb dX3_worksOut_63 rfl (lv_at hl 2 rfl) ?_
                refine lv_iload_n hx hb dX3_worksOut_64 rfl (lv_at hl 3 rfl) ?_
                refine lv_iload_n hx hb dX3_worksOut_65 rfl (lv_at hl 4 rfl) ?_
                obtain ⟨r_9, hc_8, h⟩ := kb_ok h
                refine gCallI (isC := []) (wc := []) (w1 := []) hP hD hS hA rfl rfl (va_runS (rm := rm_X3_named) (ws := wsX3_named) (As := [.int t_4, .int a_1, .int a_2, .int a_3]) (rest := [.int x4, .ref q_stack]) (gFix hF) (c_X3_named l D c t_4 a_1 a_2 a_3 r_9 hc_8 H.size) (va_cwS 4 hts gX3_worksOut_X3_named rfl rfl rfl (by decide +kernel) ⟨Nat.le_of_ble_eq_true rfl, Nat.le_of_ble_eq_true rfl⟩) (gPreS (wc := []) (isC := []) hK hX hS hA hP hD rfl (by decide)) rfl rfl hl.1 rfl (lv_room (Nat.le_of_ble_eq_true rfl)) dX3_worksOut_66 ⟨Nat.le_of_ble_eq_true rfl, Nat.le_of_ble_eq_true rfl⟩) (fun H locs hP hD hS => ?_)
                have hP : va_P D gcl [(q_this, .inr (3, [.ref q_names, .ref q_steps, .int v_length, .ref q_stack, .ref q_answers, .int v_side, .int v_round, .ref q_draft, .int v_drafted, .ref q_held, .int v_holding, .int v_open, .int v_digits, .int v_wantsOperand])), (q_stack, .inl (c 0, 50, .inl v_stack)), (q_steps, .inl (c 0, 50, .inl v_steps))] H := hP
                have hD : va_D A [(q_this, .inr (3, [.ref q_names, .ref q_steps, .int v_length, .ref q_stack, .ref q_answers, .int v_side, .int v_round, .ref q_draft, .int v_drafted, .ref q_held, .int v_holding, .int v_open, .int v_digits, .int v_wantsOperand])), (q_stack, .inl (c 0, 50, .inl v_stack)), (q_steps, .inl (c 0, 50, .inl v_steps))] := hD
                obtain ⟨hi_10, h⟩ := chi_ok h
                obtain ⟨w_11, ew_11, h⟩ := nm_ok h
                refine va_iast hx hb hK.1 hP hD hS 1 0 rfl rfl hi_10 dX3_worksOut_69 (fun H locs hP hD hS => ?_)
                have hP : va_P D gcl [(q_this, .inr (3, [.ref q_names, .ref q_steps, .int v_length, .ref q_stack, .ref q_answers, .int v_side, .int v_round, .ref q_draft, .int v_drafted, .ref q_held, .int v_holding, .int v_open, .int v_digits, .int v_wantsOperand])), (q_stack, .inl (c 0, 50, .inl w_11)), (q_steps, .inl (c 0, 50, .inl v_steps))] H := by subst ew_11; exact hP
                have hD : va_D A [(q_this, .inr (3, [.ref q_names, .ref q_steps, .int v_length, .ref q_stack, .ref q_answers, .int v_side, .int v_round, .ref q_draft, .int v_drafted, .ref q_held, .int v_holding, .int v_open, .int v_digits, .int v_wantsOperand])), (q_stack, .inl (c 0, 50, .inl w_11)), (q_steps, .inl (c 0, 50, .inl v_steps))] := by subst ew_11; exact hD
                obtain ⟨t_12, et_12, h⟩ := nm_ok h
                refine lv_iinc (v := t_12) (lv' := [(4, .int t_12), (6, .int t_4), (0, .ref q_this), (1, .int a_1), (2, .int a_2), (3, .int a_3), (5, .int x5)]) hx hb dX3_worksOut_70 hl (k := 5) rfl (by rw [et_12]; rfl) (by decide) rfl (fun ls hl => ?_)
                refine lv_goto (tgt := 157) hx hb dX3_worksOut_73 (by decide) ?_
                obtain ⟨t_13, et_13, h⟩ := nm_ok h
                refine lv_iinc (v := t_13) (lv' := [(5, .int t_13), (4, .int t_12), (6, .int t_4), (0, .ref q_this), (1, .int a_1), (2, .int a_2), (3, .int a_3)]) hx hb dX3_worksOut_157 hl (k := 6) rfl (by rw [et_13]; rfl) (by decide) rfl (fun ls hl => ?_)
                refine lv_goto (tgt := 6) hx hb dX3_worksOut_160 (by decide) ?_
                exact ih t_12 t_13 w_11 H locs hP hD hS ls (lv_sub hl [3, 4, 5, 6, 1, 0] rfl) h
              · have h := it_f c_7 h
                refine lv_iload hx hb dX3_worksOut_56 (lv_at hl 0 rfl) ?_
                refine lv_goto (tgt := 69) hx hb dX3_worksOut_58 (by decide) ?_
                obtain ⟨hi_14, h⟩ := chi_ok h
                obtain ⟨w_15, ew_15, h⟩ := nm_ok h
                refine va_iast hx hb hK.1 hP hD hS 1 0 rfl rfl hi_14 dX3_worksOut_69 (fun H locs hP hD hS => ?_)
                have hP : va_P D gcl [(q_this, .inr (3, [.ref q_names, .ref q_steps, .int v_length, .ref q_stack, .ref q_answers, .int v_side, .int v_round, .ref q_draft, .int v_drafted, .ref q_held, .int v_holding, .int v_open, .int v_digits, .int v_wantsOperand])), (q_stack, .inl (c 0, 50, .inl w_15)), (q_steps, .inl (c 0, 50, .inl v_steps))] H := by subst ew_15; exact hP
                have hD : va_D A [(q_this, .inr (3, [.ref q_names, .ref q_steps, .int v_length, .ref q_stack, .ref q_answers, .int v_side, .int v_round, .ref q_draft, .int v_drafted, .ref q_held, .int v_holding, .int v_open, .int v_digits, .int v_wantsOperand])), (q_stack, .inl (c 0, 50, .inl w_15)), (q_steps, .inl (c 0, 50, .inl v_steps))] := by subst ew_15; exact hD
                obtain ⟨t_16, et_16, h⟩ := nm_ok h
                refine lv_iinc (v := t_16) (lv' := [(4, .int t_16), (6, .int t_4), (0, .ref q_this), (1, .int a_1), (2, .int a_2), (3, .int a_3), (5, .int x5)]) hx hb dX3_worksOut_70 hl (k := 5) rfl (by rw [et_16]; rfl) (by decide) rfl (fun ls hl => ?_)
                refine lv_goto (tgt := 157) hx hb dX3_worksOut_73 (by decide) ?_
                obtain ⟨t_17, et_17, h⟩ := nm_ok h
                refine lv_iinc (v := t_17) (lv' := [(5, .int t_17), (4, .int t_16), (6, .int t_4), (0, .ref q_this), (1, .int a_1), (2, .int a_2), (3, .int a_3)]) hx hb dX3_worksOut_157 hl (k := 6) rfl (by rw [et_17]; rfl) (by decide) rfl (fun ls hl => ?_)
                refine lv_goto (tgt := 6) hx hb dX3_worksOut_160 (by decide) ?_
                exact ih t_16 t_17 w_15 H locs hP hD hS ls (lv_sub hl [3, 4, 5, 6, 1, 0] rfl) h
  unfold f_X3_worksOut at h
  refine lv_iconst (v := 0) hx hb dX3_worksOut_0 (by decide) ?_
  refine lv_istore (lv' := [(4, .int 0), (0, .ref q_this), (1, .int a_1), (2, .int a_2), (3, .int a_3)]) hx hb dX3_worksOut_1 hl (by decide) rfl (fun ls hl => ?_)
  refine lv_iconst (v := 0) hx hb dX3_worksOut_3 (by decide) ?_
  refine lv_istore (lv' := [(5, .int 0), (4, .int 0), (0, .ref q_this), (1, .int a_1), (2, .int a_2), (3, .int a_3)]) hx hb dX3_worksOut_4 hl (by decide) rfl (fun ls hl => ?_)
  exact t_L6 gFuel 0 0 v_stack s.heap [] hP hD hS ls (lv_sub hl [2, 3, 4, 5, 1, 0] rfl) h
set_option maxRecDepth 20000 in
theorem in_X3_gives_X3 : ∀ w ∈ u_ws RX3 TX3 14, w ∈ wsX3_gives := by decide +kernel
def f_X3_gives_L24 (a_1 : Int32) (a_2 : Int32) (a_3 : Int32) (v_length : Int32) (v_steps : Nat → Int32) (v_answers : Nat → Int32) (v_stack : Nat → Int32) : Option (Int32 × (Nat → Int32) × (Nat → Int32)) :=
  kb2 (f_X3_worksOut a_1 a_2 a_3 v_length v_stack v_steps) fun r_18 w_19 =>
  some (r_18, v_answers, w_19)

def f_X3_gives_L73 (n_answers : Nat) (x4 : Int32) (v_answers : Nat → Int32) (v_stack : Nat → Int32) : Option (Int32 × (Nat → Int32) × (Nat → Int32)) :=
  chi x4 n_answers <|
  nm (v_answers x4.toNatClampNeg) fun t_21 =>
  chz 128 <|
  some (t_21 - t_21 / 128 * 128, v_answers, v_stack)

def f_X3_gives (a_1 : Int32) (a_2 : Int32) (a_3 : Int32) (n_answers : Nat) (v_length : Int32) (v_side : Int32) (v_round : Int32) (v_answers : Nat → Int32) (v_stack : Nat → Int32) (v_steps : Nat → Int32) : Option (Int32 × (Nat → Int32) × (Nat → Int32)) :=
  kb (f_X3_placeOf a_1 a_2 a_3 v_side) fun r_2 =>
  if r_2 < 0 then
    f_X3_gives_L24 a_1 a_2 a_3 v_length v_steps v_answers v_stack
  else
    if r_2 < (nI n_answers) then
      chi r_2 n_answers <|
      nm (v_answers r_2.toNatClampNeg) fun t_6 =>
      chz 128 <|
      nm (t_6 / 128) fun t_8 =>
      if t_8 = v_round then
        f_X3_gives_L73 n_answers r_2 v_answers v_stack
      else
        nm (v_round * 128) fun t_10 =>
        kb2 (f_X3_worksOut a_1 a_2 a_3 v_length v_stack v_steps) fun r_12 w_13 =>
        nm (t_10 + r_12) fun t_14 =>
        chi r_2 n_answers <|
        nm (upd v_answers r_2.toNatClampNeg t_14) fun w_16 =>
        f_X3_gives_L73 n_answers r_2 w_16 w_13
    else
      f_X3_gives_L24 a_1 a_2 a_3 v_length v_steps v_answers v_stack

abbrev rm_X3_gives : Room := { frames := 2, cells := 0, slots := 0, locals := 49 }
set_option maxHeartbeats 4000000 in
set_option maxRecDepth 100000 in
theorem c_X3_gives (l : Launch) (D : va_G) (c : Nat → ClassId) (q_this q_names q_steps q_stack q_answers q_draft q_held : Nat) (n_answers : Nat) (a_1 : Int32) (a_2 : Int32) (a_3 : Int32) (v_length : Int32) (v_side : Int32) (v_round : Int32) (v_drafted : Int32) (v_holding : Int32) (v_open : Int32) (v_digits : Int32) (v_wantsOperand : Int32) (v_answers : Nat → Int32) (v_stack : Nat → Int32) (v_steps : Nat → Int32) (o_r : Int32) (o_v_answers : Nat → Int32) (o_v_stack : Nat → Int32) (h : f_X3_gives a_1 a_2 a_3 n_answers v_length v_side v_round v_answers v_stack v_steps = some (o_r, o_v_answers, o_v_stack)) : gMI l yX3_gives wsX3_gives rm_X3_gives D c [.ref q_this, .int a_1, .int a_2, .int a_3] [(q_this, .inr (3, [.ref q_names, .ref q_steps, .int v_length, .ref q_stack, .ref q_answers, .int v_side, .int v_round, .ref q_draft, .int v_drafted, .ref q_held, .int v_holding, .int v_open, .int v_digits, .int v_wantsOperand])), (q_answers, .inl (c 0, n_answers, .inl v_answers)), (q_stack, .inl (c 0, 50, .inl v_stack)), (q_steps, .inl (c 0, 50, .inl v_steps))] [(q_this, .inr (3, [.ref q_names, .ref q_steps, .int v_length, .ref q_stack, .ref q_answers, .int v_side, .int v_round, .ref q_draft, .int v_drafted, .ref q_held, .int v_holding, .int v_open, .int v_digits, .int v_wantsOperand])), (q_answers, .inl (c 0, n_answers, .inl o_v_answers)), (q_stack, .inl (c 0, 50, .inl o_v_stack)), (q_steps, .inl (c 0, 50, .inl v_steps))] o_r := by
  refine gMI_of (cc := cX3_gives) (maxL := 5) (rt := (some .int)) (by decide +kernel) rfl (Nat.le_of_ble_eq_true rfl) ?_
  intro p e s m below meth co A hF hK hX hP hD hA hS ls hl
  obtain ⟨hx, hb, hr, hts, hown, hlocks, hml⟩ := id hF
  have hl : lv_has ls 5 [(0, .ref q_this), (1, .int a_1), (2, .int a_2), (3, .int a_3)] := hl
  have t_L24 : ∀ (v_answers : Nat → Int32) (v_stack : Nat → Int32) (H : Heap) (locs : List Loc), va_P D gcl [(q_this, .inr (3, [.ref q_names, .ref q_steps, .int v_length, .ref q_stack, .ref q_answers, .int v_side, .int v_round, .ref q_draft, .int v_drafted, .ref q_held, .int v_holding, .int v_open, .int v_digits, .int v_wantsOperand])), (q_answers, .inl (c 0, n_answers, .inl v_answers)), (q_stack, .inl (c 0, 50, .inl v_stack)), (q_steps, .inl (c 0, 50, .inl v_steps))] H → va_D A [(q_this, .inr (3, [.ref q_names, .ref q_steps, .int v_length, .ref q_stack, .ref q_answers, .int v_side, .int v_round, .ref q_draft, .int v_drafted, .ref q_held, .int v_holding, .int v_open, .int v_digits, .int v_wantsOperand])), (q_answers, .inl (c 0, n_answers, .inl v_answers)), (q_stack, .inl (c 0, 50, .inl v_stack)), (q_steps, .inl (c 0, 50, .inl v_steps))] → va_S A s.heap H locs → ∀ ls, lv_has ls 5 [(0, .ref q_this), (1, .int a_1), (2, .int a_2), (3, .int a_3)] → f_X3_gives_L24 a_1 a_2 a_3 v_length v_steps v_answers v_stack = some (o_r, o_v_answers, o_v_stack) → W p l e (headSpec wsX3_gives rm_X3_gives).room s m [.ref q_this, .int a_1, .int a_2, .int a_3].toArray below meth co H locs 0 0 (gQI D [(q_this, .inr (3, [.ref q_names, .ref q_steps, .int v_length, .ref q_stack, .ref q_answers, .int v_side, .int v_round, .ref q_draft, .int v_drafted, .ref q_held, .int v_holding, .int v_open, .int v_digits, .int v_wantsOperand])), (q_answers, .inl (c 0, n_answers, .inl o_v_answers)), (q_stack, .inl (c 0, 50, .inl o_v_stack)), (q_steps, .inl (c 0, 50, .inl v_steps))] o_r A below [.ref q_this, .int a_1, .int a_2, .int a_3] s) (F0 m 24 ls []) := by
    intro  v_answers v_stack H locs hP hD hS ls hl h
    unfold f_X3_gives_L24 at h
    refine lv_aload_n hx hb dX3_gives_24 rfl (lv_at hl 0 rfl) ?_
    refine lv_iload_n hx hb dX3_gives_25 rfl (lv_at hl 1 rfl) ?_
    refine lv_iload_n hx hb dX3_gives_26 rfl (lv_at hl 2 rfl) ?_
    refine lv_iload_n hx hb dX3_gives_27 rfl (lv_at hl 3 rfl) ?_
    obtain ⟨r_18, w_19, hc_17, h⟩ := kb2_ok h
    refine gCallI (isC := [0, 2, 3]) (wc := [(q_this, .inr (3, [.ref q_names, .ref q_steps, .int v_length, .ref q_stack, .ref q_answers, .int v_side, .int v_round, .ref q_draft, .int v_drafted, .ref q_held, .int v_holding, .int v_open, .int v_digits, .int v_wantsOperand])), (q_stack, .inl (c 0, 50, .inl v_stack)), (q_steps, .inl (c 0, 50, .inl v_steps))]) (w1 := [(q_this, .inr (3, [.ref q_names, .ref q_steps, .int v_length, .ref q_stack, .ref q_answers, .int v_side, .int v_round, .ref q_draft, .int v_drafted, .ref q_held, .int v_holding, .int v_open, .int v_digits, .int v_wantsOperand])), (q_stack, .inl (c 0, 50, .inl w_19)), (q_steps, .inl (c 0, 50, .inl v_steps))]) hP hD hS hA rfl rfl (va_runV (rm := rm_X3_worksOut) (ws := wsX3_worksOut) (As := [.int a_1, .int a_2, .int a_3]) (rest := []) (gFix hF) (c_X3_worksOut l D c q_this q_names q_steps q_stack q_answers q_draft q_held a_1 a_2 a_3 v_length v_side v_round v_drafted v_holding v_open v_digits v_wantsOperand v_stack v_steps r_18 w_19 hc_17 H.size) (cwV 3 hts gX3_gives_X3_worksOut rfl rfl rfl (by decide +kernel) ⟨Nat.le_of_ble_eq_true rfl, Nat.le_of_ble_eq_true rfl⟩) (gPreV (wc := [(q_this, .inr (3, [.ref q_names, .ref q_steps, .int v_length, .ref q_stack, .ref q_answers, .int v_side, .int v_round, .ref q_draft, .int v_drafted, .ref q_held, .int v_holding, .int v_open, .int v_digits, .int v_wantsOperand])), (q_stack, .inl (c 0, 50, .inl v_stack)), (q_steps, .inl (c 0, 50, .inl v_steps))]) (q := (RX3, TX3, 14)) (ci := 3) (q0 := 0) (isC := [0, 2, 3]) hK hX hS hA hP hD rfl (by decide) rfl rfl) rfl rfl hl.1 rfl (lv_room (Nat.le_of_ble_eq_true rfl)) dX3_gives_28 ⟨Nat.le_of_ble_eq_true rfl, Nat.le_of_ble_eq_true rfl⟩) (fun H locs hP hD hS => ?_)
    have hP : va_P D gcl [(q_this, .inr (3, [.ref q_names, .ref q_steps, .int v_length, .ref q_stack, .ref q_answers, .int v_side, .int v_round, .ref q_draft, .int v_drafted, .ref q_held, .int v_holding, .int v_open, .int v_digits, .int v_wantsOperand])), (q_answers, .inl (c 0, n_answers, .inl v_answers)), (q_stack, .inl (c 0, 50, .inl w_19)), (q_steps, .inl (c 0, 50, .inl v_steps))] H := hP
    have hD : va_D A [(q_this, .inr (3, [.ref q_names, .ref q_steps, .int v_length, .ref q_stack, .ref q_answers, .int v_side, .int v_round, .ref q_draft, .int v_drafted, .ref q_held, .int v_holding, .int v_open, .int v_digits, .int v_wantsOperand])), (q_answers, .inl (c 0, n_answers, .inl v_answers)), (q_stack, .inl (c 0, 50, .inl w_19)), (q_steps, .inl (c 0, 50, .inl v_steps))] := hD
    cases h
    exact gIret hF hP hD hS rfl dX3_gives_31
  have t_L73 : ∀ (x4 : Int32) (v_answers : Nat → Int32) (v_stack : Nat → Int32) (H : Heap) (locs : List Loc), va_P D gcl [(q_this, .inr (3, [.ref q_names, .ref q_steps, .int v_length, .ref q_stack, .ref q_answers, .int v_side, .int v_round, .ref q_draft, .int v_drafted, .ref q_held, .int v_holding, .int v_open, .int v_digits, .int v_wantsOperand])), (q_answers, .inl (c 0, n_answers, .inl v_answers)), (q_stack, .inl (c 0, 50, .inl v_stack)), (q_steps, .inl (c 0, 50, .inl v_steps))] H → va_D A [(q_this, .inr (3, [.ref q_names, .ref q_steps, .int v_length, .ref q_stack, .ref q_answers, .int v_side, .int v_round, .ref q_draft, .int v_drafted, .ref q_held, .int v_holding, .int v_open, .int v_digits, .int v_wantsOperand])), (q_answers, .inl (c 0, n_answers, .inl v_answers)), (q_stack, .inl (c 0, 50, .inl v_stack)), (q_steps, .inl (c 0, 50, .inl v_steps))] → va_S A s.heap H locs → ∀ ls, lv_has ls 5 [(0, .ref q_this), (4, .int x4)] → f_X3_gives_L73 n_answers x4 v_answers v_stack = some (o_r, o_v_answers, o_v_stack) → W p l e (headSpec wsX3_gives rm_X3_gives).room s m [.ref q_this, .int a_1, .int a_2, .int a_3].toArray below meth co H locs 0 0 (gQI D [(q_this, .inr (3, [.ref q_names, .ref q_steps, .int v_length, .ref q_stack, .ref q_answers, .int v_side, .int v_round, .ref q_draft, .int v_drafted, .ref q_held, .int v_holding, .int v_open, .int v_digits, .int v_wantsOperand])), (q_answers, .inl (c 0, n_answers, .inl o_v_answers)), (q_stack, .inl (c 0, 50, .inl o_v_stack)), (q_steps, .inl (c 0, 50, .inl v_steps))] o_r A below [.ref q_this, .int a_1, .int a_2, .int a_3] s) (F0 m 73 ls []) := by
    intro  x4 v_answers v_stack H locs hP hD hS ls hl h
    unfold f_X3_gives_L73 at h
    refine lv_aload_n hx hb dX3_gives_73 rfl (lv_at hl 0 rfl) ?_
    refine va_get (D := D) (ci := 3) (v := .ref q_answers) (C := RX3) (T := TX3) (N := 14) hx hb hts in_X3_gives_X3 hown hK.1 hP 0 rfl rfl 4 (by decide) (hts (.fieldLink RX3 42 "PaperBubbles$Law" "answers" "[I") (List.mem_of_getElem? (i := 1) rfl)) (fun _ h9 => h9) rfl dX3_gives_74 ?_
    refine lv_iload hx hb dX3_gives_77 (lv_at hl 1 rfl) ?_
    obtain ⟨hi_20, h⟩ := chi_ok h
    refine va_iald hx hb hK.1 hP 1 0 rfl rfl hi_20 dX3_gives_79 ?_
    obtain ⟨t_21, et_21, h⟩ := nm_ok h
    refine gTop et_21 ?_
    refine lv_sipush (v := 128) hx hb dX3_gives_80 (by decide) ?_
    obtain ⟨hz_22, h⟩ := chz_ok h
    refine lv_irem hx hb dX3_gives_83 hz_22 ?_
    cases h
    exact gIret hF hP hD hS rfl dX3_gives_84
  unfold f_X3_gives at h
  refine lv_aload_n hx hb dX3_gives_0 rfl (lv_at hl 0 rfl) ?_
  refine lv_iload_n hx hb dX3_gives_1 rfl (lv_at hl 1 rfl) ?_
  refine lv_iload_n hx hb dX3_gives_2 rfl (lv_at hl 2 rfl) ?_
  refine lv_iload_n hx hb dX3_gives_3 rfl (lv_at hl 3 rfl) ?_
  obtain ⟨r_2, hc_1, h⟩ := kb_ok h
  refine gCallI (isC := [0]) (wc := [(q_this, .inr (3, [.ref q_names, .ref q_steps, .int v_length, .ref q_stack, .ref q_answers, .int v_side, .int v_round, .ref q_draft, .int v_drafted, .ref q_held, .int v_holding, .int v_open, .int v_digits, .int v_wantsOperand]))]) (w1 := [(q_this, .inr (3, [.ref q_names, .ref q_steps, .int v_length, .ref q_stack, .ref q_answers, .int v_side, .int v_round, .ref q_draft, .int v_drafted, .ref q_held, .int v_holding, .int v_open, .int v_digits, .int v_wantsOperand]))]) hP hD hS hA rfl rfl (va_runV (rm := rm_X3_placeOf) (ws := wsX3_placeOf) (As := [.int a_1, .int a_2, .int a_3]) (rest := []) (gFix hF) (c_X3_placeOf l D c q_this q_names q_steps q_stack q_answers q_draft q_held a_1 a_2 a_3 v_length v_side v_round v_drafted v_holding v_open v_digits v_wantsOperand r_2 hc_1 s.heap.size) (cwV 3 hts gX3_gives_X3_placeOf rfl rfl rfl (by decide +kernel) ⟨Nat.le_of_ble_eq_true rfl, Nat.le_of_ble_eq_true rfl⟩) (gPreV (wc := [(q_this, .inr (3, [.ref q_names, .ref q_steps, .int v_length, .ref q_stack, .ref q_answers, .int v_side, .int v_round, .ref q_draft, .int v_drafted, .ref q_held, .int v_holding, .int v_open, .int v_digits, .int v_wantsOperand]))]) (q := (RX3, TX3, 14)) (ci := 3) (q0 := 0) (isC := [0]) hK hX hS hA hP hD rfl (by decide) rfl rfl) rfl rfl hl.1 rfl (lv_room (Nat.le_of_ble_eq_true rfl)) dX3_gives_4 ⟨Nat.le_of_ble_eq_true rfl, Nat.le_of_ble_eq_true rfl⟩) (fun H locs hP hD hS => ?_)
  have hP : va_P D gcl [(q_this, .inr (3, [.ref q_names, .ref q_steps, .int v_length, .ref q_stack, .ref q_answers, .int v_side, .int v_round, .ref q_draft, .int v_drafted, .ref q_held, .int v_holding, .int v_open, .int v_digits, .int v_wantsOperand])), (q_answers, .inl (c 0, n_answers, .inl v_answers)), (q_stack, .inl (c 0, 50, .inl v_stack)), (q_steps, .inl (c 0, 50, .inl v_steps))] H := hP
  have hD : va_D A [(q_this, .inr (3, [.ref q_names, .ref q_steps, .int v_length, .ref q_stack, .ref q_answers, .int v_side, .int v_round, .ref q_draft, .int v_drafted, .ref q_held, .int v_holding, .int v_open, .int v_digits, .int v_wantsOperand])), (q_answers, .inl (c 0, n_answers, .inl v_answers)), (q_stack, .inl (c 0, 50, .inl v_stack)), (q_steps, .inl (c 0, 50, .inl v_steps))] := hD
  refine lv_istore (lv' := [(4, .int r_2), (0, .ref q_this), (1, .int a_1), (2, .int a_2), (3, .int a_3)]) hx hb dX3_gives_7 hl (by decide) rfl (fun ls hl => ?_)
  refine lv_iload hx hb dX3_gives_9 (lv_at hl 0 rfl) ?_
  refine lv_if_lt (tgt := 24) hx hb dX3_gives_11 (by decide) (fun c_3 => ?_) (fun c_3 => ?_)
  · have h := it_t c_3 h
    exact t_L24 v_answers v_stack H locs hP hD hS ls (lv_sub hl [1, 2, 3, 4] rfl) h
  · have h := it_f c_3 h
    refine lv_iload hx hb dX3_gives_14 (lv_at hl 0 rfl) ?_
    refine lv_aload_n hx hb dX3_gives_16 rfl (lv_at hl 1 rfl) ?_
    refine va_get (D := D) (ci := 3) (v := .ref q_answers) (C := RX3) (T := TX3) (N := 14) hx hb hts in_X3_gives_X3 hown hK.1 hP 0 rfl rfl 4 (by decide) (hts (.fieldLink RX3 42 "PaperBubbles$Law" "answers" "[I") (List.mem_of_getElem? (i := 1) rfl)) (fun _ h9 => h9) rfl dX3_gives_17 ?_
    refine va_alen (v := nI n_answers) hx hb hK.1 hP 1 0 rfl rfl rfl dX3_gives_20 ?_
    refine lv_icmp_lt (tgt := 32) hx hb dX3_gives_21 (by decide) (fun c_4 => ?_) (fun c_4 => ?_)
    · have h := it_t c_4 h
      refine lv_aload_n hx hb dX3_gives_32 rfl (lv_at hl 1 rfl) ?_
      refine va_get (D := D) (ci := 3) (v := .ref q_answers) (C := RX3) (T := TX3) (N := 14) hx hb hts in_X3_gives_X3 hown hK.1 hP 0 rfl rfl 4 (by decide) (hts (.fieldLink RX3 42 "PaperBubbles$Law" "answers" "[I") (List.mem_of_getElem? (i := 1) rfl)) (fun _ h9 => h9) rfl dX3_gives_33 ?_
      refine lv_iload hx hb dX3_gives_36 (lv_at hl 0 rfl) ?_
      obtain ⟨hi_5, h⟩ := chi_ok h
      refine va_iald hx hb hK.1 hP 1 0 rfl rfl hi_5 dX3_gives_38 ?_
      obtain ⟨t_6, et_6, h⟩ := nm_ok h
      refine gTop et_6 ?_
      refine lv_sipush (v := 128) hx hb dX3_gives_39 (by decide) ?_
      obtain ⟨hz_7, h⟩ := chz_ok h
      refine lv_idiv hx hb dX3_gives_42 hz_7 ?_
      obtain ⟨t_8, et_8, h⟩ := nm_ok h
      refine gTop et_8 ?_
      refine lv_aload_n hx hb dX3_gives_43 rfl (lv_at hl 1 rfl) ?_
      refine va_get (D := D) (ci := 3) (v := .int v_round) (C := RX3) (T := TX3) (N := 14) hx hb hts in_X3_gives_X3 hown hK.1 hP 0 rfl rfl 6 (by decide) (hts (.fieldLink RX3 18 "PaperBubbles$Law" "round" "I") (List.mem_of_getElem? (i := 2) rfl)) (fun _ h9 => h9) rfl dX3_gives_44 ?_
      refine lv_icmp_eq (tgt := 73) hx hb dX3_gives_47 (by decide) (fun c_9 => ?_) (fun c_9 => ?_)
      · have h := it_t c_9 h
        exact t_L73 r_2 v_answers v_stack H locs hP hD hS ls (lv_sub hl [1, 0] rfl) h
      · have h := it_f c_9 h
        refine lv_aload_n hx hb dX3_gives_50 rfl (lv_at hl 1 rfl) ?_
        refine va_get (D := D) (ci := 3) (v := .ref q_answers) (C := RX3) (T := TX3) (N := 14) hx hb hts in_X3_gives_X3 hown hK.1 hP 0 rfl rfl 4 (by decide) (hts (.fieldLink RX3 42 "PaperBubbles$Law" "answers" "[I") (List.mem_of_getElem? (i := 1) rfl)) (fun _ h9 => h9) rfl dX3_gives_51 ?_
        refine lv_iload hx hb dX3_gives_54 (lv_at hl 0 rfl) ?_
        refine lv_aload_n hx hb dX3_gives_56 rfl (lv_at hl 1 rfl) ?_
        refine va_get (D := D) (ci := 3) (v := .int v_round) (C := RX3) (T := TX3) (N := 14) hx hb hts in_X3_gives_X3 hown hK.1 hP 0 rfl rfl 6 (by decide) (hts (.fieldLink RX3 18 "PaperBubbles$Law" "round" "I") (List.mem_of_getElem? (i := 2) rfl)) (fun _ h9 => h9) rfl dX3_gives_57 ?_
        refine lv_sipush (v := 128) hx hb dX3_gives_60 (by decide) ?_
        refine lv_imul hx hb dX3_gives_63 ?_
        obtain ⟨t_10, et_10, h⟩ := nm_ok h
        refine gTop et_10 ?_
        refine lv_aload_n hx hb dX3_gives_64 rfl (lv_at hl 1 rfl) ?_
        refine lv_iload_n hx hb dX3_gives_65 rfl (lv_at hl 2 rfl) ?_
        refine lv_iload_n hx hb dX3_gives_66 rfl (lv_at hl 3 rfl) ?_
        refine lv_iload_n hx hb dX3_gives_67 rfl (lv_at hl 4 rfl) ?_
        obtain ⟨r_12, w_13, hc_11, h⟩ := kb2_ok h
        refine gCallI (isC := [0, 2, 3]) (wc := [(q_this, .inr (3, [.ref q_names, .ref q_steps, .int v_length, .ref q_stack, .ref q_answers, .int v_side, .int v_round, .ref q_draft, .int v_drafted, .ref q_held, .int v_holding, .int v_open, .int v_digits, .int v_wantsOperand])), (q_stack, .inl (c 0, 50, .inl v_stack)), (q_steps, .inl (c 0, 50, .inl v_steps))]) (w1 := [(q_this, .inr (3, [.ref q_names, .ref q_steps, .int v_length, .ref q_stack, .ref q_answers, .int v_side, .int v_round, .ref q_draft, .int v_drafted, .ref q_held, .int v_holding, .int v_open, .int v_digits, .int v_wantsOperand])), (q_stack, .inl (c 0, 50, .inl w_13)), (q_steps, .inl (c 0, 50, .inl v_steps))]) hP hD hS hA rfl rfl (va_runV (rm := rm_X3_worksOut) (ws := wsX3_worksOut) (As := [.int a_1, .int a_2, .int a_3]) (rest := [.int t_10, .int r_2, .ref q_answers]) (gFix hF) (c_X3_worksOut l D c q_this q_names q_steps q_stack q_answers q_draft q_held a_1 a_2 a_3 v_length v_side v_round v_drafted v_holding v_open v_digits v_wantsOperand v_stack v_steps r_12 w_13 hc_11 H.size) (cwV 3 hts gX3_gives_X3_worksOut rfl rfl rfl (by decide +kernel) ⟨Nat.le_of_ble_eq_true rfl, Nat.le_of_ble_eq_true rfl⟩) (gPreV (wc := [(q_this, .inr (3, [.ref q_names, .ref q_steps, .int v_length, .ref q_stack, .ref q_answers, .int v_side, .int v_round, .ref q_draft, .int v_drafted, .ref q_held, .int v_holding, .int v_open, .int v_digits, .int v_wantsOperand])), (q_stack, .inl (c 0, 50, .inl v_stack)), (q_steps, .inl (c 0, 50, .inl v_steps))]) (q := (RX3, TX3, 14)) (ci := 3) (q0 := 0) (isC := [0, 2, 3]) hK hX hS hA hP hD rfl (by decide) rfl rfl) rfl rfl hl.1 rfl (lv_room (Nat.le_of_ble_eq_true rfl)) dX3_gives_68 ⟨Nat.le_of_ble_eq_true rfl, Nat.le_of_ble_eq_true rfl⟩) (fun H locs hP hD hS => ?_)
        have hP : va_P D gcl [(q_this, .inr (3, [.ref q_names, .ref q_steps, .int v_length, .ref q_stack, .ref q_answers, .int v_side, .int v_round, .ref q_draft, .int v_drafted, .ref q_held, .int v_holding, .int v_open, .int v_digits, .int v_wantsOperand])), (q_answers, .inl (c 0, n_answers, .inl v_answers)), (q_stack, .inl (c 0, 50, .inl w_13)), (q_steps, .inl (c 0, 50, .inl v_steps))] H := hP
        have hD : va_D A [(q_this, .inr (3, [.ref q_names, .ref q_steps, .int v_length, .ref q_stack, .ref q_answers, .int v_side, .int v_round, .ref q_draft, .int v_drafted, .ref q_held, .int v_holding, .int v_open, .int v_digits, .int v_wantsOperand])), (q_answers, .inl (c 0, n_answers, .inl v_answers)), (q_stack, .inl (c 0, 50, .inl w_13)), (q_steps, .inl (c 0, 50, .inl v_steps))] := hD
        refine lv_iadd hx hb dX3_gives_71 ?_
        obtain ⟨t_14, et_14, h⟩ := nm_ok h
        refine gTop et_14 ?_
        obtain ⟨hi_15, h⟩ := chi_ok h
        obtain ⟨w_16, ew_16, h⟩ := nm_ok h
        refine va_iast hx hb hK.1 hP hD hS 1 0 rfl rfl hi_15 dX3_gives_72 (fun H locs hP hD hS => ?_)
        have hP : va_P D gcl [(q_this, .inr (3, [.ref q_names, .ref q_steps, .int v_length, .ref q_stack, .ref q_answers, .int v_side, .int v_round, .ref q_draft, .int v_drafted, .ref q_held, .int v_holding, .int v_open, .int v_digits, .int v_wantsOperand])), (q_answers, .inl (c 0, n_answers, .inl w_16)), (q_stack, .inl (c 0, 50, .inl w_13)), (q_steps, .inl (c 0, 50, .inl v_steps))] H := by subst ew_16; exact hP
        have hD : va_D A [(q_this, .inr (3, [.ref q_names, .ref q_steps, .int v_length, .ref q_stack, .ref q_answers, .int v_side, .int v_round, .ref q_draft, .int v_drafted, .ref q_held, .int v_holding, .int v_open, .int v_digits, .int v_wantsOperand])), (q_answers, .inl (c 0, n_answers, .inl w_16)), (q_stack, .inl (c 0, 50, .inl w_13)), (q_steps, .inl (c 0, 50, .inl v_steps))] := by subst ew_16; exact hD
        exact t_L73 r_2 w_16 w_13 H locs hP hD hS ls (lv_sub hl [1, 0] rfl) h
    · have h := it_f c_4 h
      exact t_L24 v_answers v_stack H locs hP hD hS ls (lv_sub hl [1, 2, 3, 4] rfl) h
def f_X8_moves (a_1 : Int32) (a_2 : Int32) (a_3 : Int32) : Option (Int32) :=
  some a_2

abbrev rm_X8_moves : Room := { frames := 0, cells := 0, slots := 0, locals := 0 }
set_option maxHeartbeats 4000000 in
set_option maxRecDepth 100000 in
theorem c_X8_moves (l : Launch) (D : va_G) (c : Nat → ClassId) (q_this : Nat) (a_1 : Int32) (a_2 : Int32) (a_3 : Int32) (o_r : Int32) (h : f_X8_moves a_1 a_2 a_3 = some o_r) : gMI l yX8_moves wsX8_moves rm_X8_moves D c [.ref q_this, .int a_1, .int a_2, .int a_3] [] [] o_r := by
  refine gMI_of (cc := cX8_moves) (maxL := 4) (rt := (some .int)) (by decide +kernel) rfl (Nat.le_of_ble_eq_true rfl) ?_
  intro p e s m below meth co A hF hK hX hP hD hA hS ls hl
  obtain ⟨hx, hb, hr, hts, hown, hlocks, hml⟩ := id hF
  have hl : lv_has ls 4 [(0, .ref q_this), (1, .int a_1), (2, .int a_2), (3, .int a_3)] := hl
  unfold f_X8_moves at h
  refine lv_iload_n hx hb dX8_moves_0 rfl (lv_at hl 2 rfl) ?_
  cases h
  exact gIret hF hP hD hS rfl dX8_moves_1
def f_X4_moves (a_1 : Int32) (a_2 : Int32) (a_3 : Int32) : Option (Int32) :=
  some 0

abbrev rm_X4_moves : Room := { frames := 0, cells := 0, slots := 0, locals := 0 }
set_option maxHeartbeats 4000000 in
set_option maxRecDepth 100000 in
theorem c_X4_moves (l : Launch) (D : va_G) (c : Nat → ClassId) (q_this : Nat) (a_1 : Int32) (a_2 : Int32) (a_3 : Int32) (o_r : Int32) (h : f_X4_moves a_1 a_2 a_3 = some o_r) : gMI l yX4_moves wsX4_moves rm_X4_moves D c [.ref q_this, .int a_1, .int a_2, .int a_3] [] [] o_r := by
  refine gMI_of (cc := cX4_moves) (maxL := 4) (rt := (some .int)) (by decide +kernel) rfl (Nat.le_of_ble_eq_true rfl) ?_
  intro p e s m below meth co A hF hK hX hP hD hA hS ls hl
  obtain ⟨hx, hb, hr, hts, hown, hlocks, hml⟩ := id hF
  have hl : lv_has ls 4 [(0, .ref q_this), (1, .int a_1), (2, .int a_2), (3, .int a_3)] := hl
  unfold f_X4_moves at h
  refine lv_iconst (v := 0) hx hb dX4_moves_0 (by decide) ?_
  cases h
  exact gIret hF hP hD hS rfl dX4_moves_1
def f_X5_moves (a_1 : Int32) (a_2 : Int32) (a_3 : Int32) : Option (Int32) :=
  some a_1

abbrev rm_X5_moves : Room := { frames := 0, cells := 0, slots := 0, locals := 0 }
set_option maxHeartbeats 4000000 in
set_option maxRecDepth 100000 in
theorem c_X5_moves (l : Launch) (D : va_G) (c : Nat → ClassId) (q_this : Nat) (a_1 : Int32) (a_2 : Int32) (a_3 : Int32) (o_r : Int32) (h : f_X5_moves a_1 a_2 a_3 = some o_r) : gMI l yX5_moves wsX5_moves rm_X5_moves D c [.ref q_this, .int a_1, .int a_2, .int a_3] [] [] o_r := by
  refine gMI_of (cc := cX5_moves) (maxL := 4) (rt := (some .int)) (by decide +kernel) rfl (Nat.le_of_ble_eq_true rfl) ?_
  intro p e s m below meth co A hF hK hX hP hD hA hS ls hl
  obtain ⟨hx, hb, hr, hts, hown, hlocks, hml⟩ := id hF
  have hl : lv_has ls 4 [(0, .ref q_this), (1, .int a_1), (2, .int a_2), (3, .int a_3)] := hl
  unfold f_X5_moves at h
  refine lv_iload_n hx hb dX5_moves_0 rfl (lv_at hl 1 rfl) ?_
  cases h
  exact gIret hF hP hD hS rfl dX5_moves_1
def f_X6_moves (a_1 : Int32) (a_2 : Int32) (a_3 : Int32) : Option (Int32) :=
  kb (f_X0_moves a_1 a_2 a_3) fun r_2 =>
  chz 2 <|
  some (r_2 / 2)

abbrev rm_X6_moves : Room := { frames := 1, cells := 0, slots := 0, locals := 23 }
set_option maxHeartbeats 4000000 in
set_option maxRecDepth 100000 in
theorem c_X6_moves (l : Launch) (D : va_G) (c : Nat → ClassId) (q_this : Nat) (a_1 : Int32) (a_2 : Int32) (a_3 : Int32) (o_r : Int32) (h : f_X6_moves a_1 a_2 a_3 = some o_r) : gMI l yX6_moves wsX6_moves rm_X6_moves D c [.ref q_this, .int a_1, .int a_2, .int a_3] [(q_this, .inr (6, []))] [(q_this, .inr (6, []))] o_r := by
  refine gMI_of (cc := cX6_moves) (maxL := 4) (rt := (some .int)) (by decide +kernel) rfl (Nat.le_of_ble_eq_true rfl) ?_
  intro p e s m below meth co A hF hK hX hP hD hA hS ls hl
  obtain ⟨hx, hb, hr, hts, hown, hlocks, hml⟩ := id hF
  have hl : lv_has ls 4 [(0, .ref q_this), (1, .int a_1), (2, .int a_2), (3, .int a_3)] := hl
  unfold f_X6_moves at h
  refine lv_aload_n hx hb dX6_moves_0 rfl (lv_at hl 0 rfl) ?_
  refine lv_iload_n hx hb dX6_moves_1 rfl (lv_at hl 1 rfl) ?_
  refine lv_iload_n hx hb dX6_moves_2 rfl (lv_at hl 2 rfl) ?_
  refine lv_iload_n hx hb dX6_moves_3 rfl (lv_at hl 3 rfl) ?_
  obtain ⟨r_2, hc_1, h⟩ := kb_ok h
  refine gCallI (isC := []) (wc := []) (w1 := []) hP hD hS hA rfl rfl (va_runSU (rm := rm_X0_moves) (ws := wsX0_moves) (As := [.int a_1, .int a_2, .int a_3]) (rest := []) (hK.1.1 6 _ rfl).2 (gFix hF) (c_X0_moves l D c q_this a_1 a_2 a_3 r_2 hc_1 s.heap.size) (va_cwSU 3 hts gX6_moves_X0_moves_s11 rfl rfl rfl (by decide +kernel) ⟨Nat.le_of_ble_eq_true rfl, Nat.le_of_ble_eq_true rfl⟩) (gPreV (wc := []) (q := (RX6, TX6, 0)) (ci := 6) (q0 := 0) (isC := []) hK hX hS hA hP hD rfl (by decide) rfl rfl) rfl rfl hl.1 rfl (lv_room (Nat.le_of_ble_eq_true rfl)) dX6_moves_4 ⟨Nat.le_of_ble_eq_true rfl, Nat.le_of_ble_eq_true rfl⟩) (fun H locs hP hD hS => ?_)
  have hP : va_P D gcl [(q_this, .inr (6, []))] H := hP
  have hD : va_D A [(q_this, .inr (6, []))] := hD
  refine lv_iconst (v := 2) hx hb dX6_moves_7 (by decide) ?_
  obtain ⟨hz_3, h⟩ := chz_ok h
  refine lv_idiv hx hb dX6_moves_8 hz_3 ?_
  cases h
  exact gIret hF hP hD hS rfl dX6_moves_9
def f_X1_moves (a_1 : Int32) (a_2 : Int32) (a_3 : Int32) : Option (Int32) :=
  kb (f_X5_moves a_1 a_2 a_3) fun r_2 =>
  nm (r_2 - a_3) fun t_3 =>
  nm (if 0 < t_3 then t_3 else 0) fun t_4 =>
  some t_4

abbrev rm_X1_moves : Room := { frames := 1, cells := 0, slots := 0, locals := 23 }
set_option maxHeartbeats 4000000 in
set_option maxRecDepth 100000 in
theorem c_X1_moves (l : Launch) (D : va_G) (c : Nat → ClassId) (q_this : Nat) (a_1 : Int32) (a_2 : Int32) (a_3 : Int32) (o_r : Int32) (h : f_X1_moves a_1 a_2 a_3 = some o_r) : gMI l yX1_moves wsX1_moves rm_X1_moves D c [.ref q_this, .int a_1, .int a_2, .int a_3] [(q_this, .inr (1, []))] [(q_this, .inr (1, []))] o_r := by
  refine gMI_of (cc := cX1_moves) (maxL := 4) (rt := (some .int)) (by decide +kernel) rfl (Nat.le_of_ble_eq_true rfl) ?_
  intro p e s m below meth co A hF hK hX hP hD hA hS ls hl
  obtain ⟨hx, hb, hr, hts, hown, hlocks, hml⟩ := id hF
  have hl : lv_has ls 4 [(0, .ref q_this), (1, .int a_1), (2, .int a_2), (3, .int a_3)] := hl
  unfold f_X1_moves at h
  refine lv_iconst (v := 0) hx hb dX1_moves_0 (by decide) ?_
  refine lv_aload_n hx hb dX1_moves_1 rfl (lv_at hl 0 rfl) ?_
  refine lv_iload_n hx hb dX1_moves_2 rfl (lv_at hl 1 rfl) ?_
  refine lv_iload_n hx hb dX1_moves_3 rfl (lv_at hl 2 rfl) ?_
  refine lv_iload_n hx hb dX1_moves_4 rfl (lv_at hl 3 rfl) ?_
  obtain ⟨r_2, hc_1, h⟩ := kb_ok h
  refine gCallI (isC := []) (wc := []) (w1 := []) hP hD hS hA rfl rfl (va_runSU (rm := rm_X5_moves) (ws := wsX5_moves) (As := [.int a_1, .int a_2, .int a_3]) (rest := [.int 0]) (hK.1.1 1 _ rfl).2 (gFix hF) (c_X5_moves l D c q_this a_1 a_2 a_3 r_2 hc_1 s.heap.size) (va_cwSU 3 hts gX1_moves_X5_moves_s11 rfl rfl rfl (by decide +kernel) ⟨Nat.le_of_ble_eq_true rfl, Nat.le_of_ble_eq_true rfl⟩) (gPreV (wc := []) (q := (RX1, TX1, 0)) (ci := 1) (q0 := 0) (isC := []) hK hX hS hA hP hD rfl (by decide) rfl rfl) rfl rfl hl.1 rfl (lv_room (Nat.le_of_ble_eq_true rfl)) dX1_moves_5 ⟨Nat.le_of_ble_eq_true rfl, Nat.le_of_ble_eq_true rfl⟩) (fun H locs hP hD hS => ?_)
  have hP : va_P D gcl [(q_this, .inr (1, []))] H := hP
  have hD : va_D A [(q_this, .inr (1, []))] := hD
  refine lv_iload_n hx hb dX1_moves_8 rfl (lv_at hl 3 rfl) ?_
  refine lv_isub hx hb dX1_moves_9 ?_
  obtain ⟨t_3, et_3, h⟩ := nm_ok h
  refine gTop et_3 ?_
  refine va_mmax hx hb (by rw [hml]; exact hl.1.symm) hown (hts (.methodLink RX1 15 Lib.Math.max.name) (List.mem_of_getElem? (i := 1) rfl)) (hts (.static Lib.Math.max.name) (List.mem_of_getElem? (i := 2) rfl)) (hts (.initialized "java/lang/Math") (List.mem_of_getElem? (i := 3) rfl)) (hts (.code Lib.Math.max.name Lib.Math.max.code 2 (some .int)) (List.mem_of_getElem? (i := 4) rfl)) (Nat.le_of_ble_eq_true rfl) (by first | exact Nat.le_of_ble_eq_true rfl | decide) (Nat.le_of_ble_eq_true rfl) (Nat.le_of_ble_eq_true rfl) dX1_moves_10 ?_
  obtain ⟨t_4, et_4, h⟩ := nm_ok h
  refine gTop et_4 ?_
  cases h
  exact gIret hF hP hD hS rfl dX1_moves_13
def f_TD_moves (k : Int32) (a_1 : Int32) (a_2 : Int32) (a_3 : Int32) : Option (Int32) :=
  if k = 0 then f_X8_moves a_1 a_2 a_3 else
  if k = 1 then f_X0_moves a_1 a_2 a_3 else
  if k = 2 then f_X4_moves a_1 a_2 a_3 else
  if k = 3 then f_X5_moves a_1 a_2 a_3 else
  if k = 4 then f_X6_moves a_1 a_2 a_3 else
  if k = 5 then f_X4_moves a_1 a_2 a_3 else
  if k = 6 then f_X1_moves a_1 a_2 a_3 else
  none
theorem td_moves {k : Int32} {a_1 : Int32} {a_2 : Int32} {a_3 : Int32} {o : Int32} (h : f_TD_moves k a_1 a_2 a_3 = some o) : (k = 0 ∧ f_X8_moves a_1 a_2 a_3 = some o) ∨ (k = 1 ∧ f_X0_moves a_1 a_2 a_3 = some o) ∨ (k = 2 ∧ f_X4_moves a_1 a_2 a_3 = some o) ∨ (k = 3 ∧ f_X5_moves a_1 a_2 a_3 = some o) ∨ (k = 4 ∧ f_X6_moves a_1 a_2 a_3 = some o) ∨ (k = 5 ∧ f_X4_moves a_1 a_2 a_3 = some o) ∨ (k = 6 ∧ f_X1_moves a_1 a_2 a_3 = some o) := by
  unfold f_TD_moves at h
  by_cases c0 : k = 0
  · exact Or.inl ⟨c0, it_t c0 h⟩
  replace h := it_f c0 h
  by_cases c1 : k = 1
  · exact Or.inr (Or.inl ⟨c1, it_t c1 h⟩)
  replace h := it_f c1 h
  by_cases c2 : k = 2
  · exact Or.inr (Or.inr (Or.inl ⟨c2, it_t c2 h⟩))
  replace h := it_f c2 h
  by_cases c3 : k = 3
  · exact Or.inr (Or.inr (Or.inr (Or.inl ⟨c3, it_t c3 h⟩)))
  replace h := it_f c3 h
  by_cases c4 : k = 4
  · exact Or.inr (Or.inr (Or.inr (Or.inr (Or.inl ⟨c4, it_t c4 h⟩))))
  replace h := it_f c4 h
  by_cases c5 : k = 5
  · exact Or.inr (Or.inr (Or.inr (Or.inr (Or.inr (Or.inl ⟨c5, it_t c5 h⟩)))))
  replace h := it_f c5 h
  by_cases c6 : k = 6
  · exact Or.inr (Or.inr (Or.inr (Or.inr (Or.inr (Or.inr (⟨c6, it_t c6 h⟩))))))
  replace h := it_f c6 h
  exact no_ok h

set_option maxRecDepth 20000 in
theorem in_X10_pushOn_X10 : ∀ w ∈ u_ws RX10 TX10 11, w ∈ wsX10_pushOn := by decide +kernel
def f_X10_pushOn (a_2 : Int32) (a_4 : Int32) (a_5 : Int32) (k_1 : Int32) (n_p3_answers : Nat) (v_rows : Int32) (v_columns : Int32) (v_out : Int32) (v_air : Nat → Int32) (v_open : Nat → Int32) (v_paste : Nat → Int32) (v_p3_length : Int32) (v_p3_side : Int32) (v_p3_round : Int32) (v_p3_answers : Nat → Int32) (v_p3_stack : Nat → Int32) (v_p3_steps : Nat → Int32) : Option (Int32 × Int32 × (Nat → Int32) × (Nat → Int32) × (Nat → Int32)) :=
  chi a_4 25 <|
  nm (v_air a_4.toNatClampNeg) fun t_2 =>
  chi a_4 25 <|
  nm (v_air a_4.toNatClampNeg) fun t_4 =>
  chi a_4 25 <|
  nm (v_air a_4.toNatClampNeg) fun t_6 =>
  chi a_4 25 <|
  nm (v_paste a_4.toNatClampNeg) fun t_8 =>
  kb3 (f_X3_gives t_6 t_8 a_2 n_p3_answers v_p3_length v_p3_side v_p3_round v_p3_answers v_p3_stack v_p3_steps) fun r_10 w_11 w_12 =>
  kb (f_TD_moves k_1 t_4 r_10 a_2) fun r_14 =>
  nm (if r_14 < t_2 then r_14 else t_2) fun t_15 =>
  kb (f_X10_beside a_4 a_5 v_rows v_columns) fun r_17 =>
  kb (f_X10_has r_17 v_rows v_columns) fun r_19 =>
  if r_19 = 0 then
    kb (f_X10_isOpen a_5 v_open) fun r_22 =>
    if r_22 = 0 then
      some (r_17, v_out, v_air, w_11, w_12)
    else
      chi a_4 25 <|
      nm (v_air a_4.toNatClampNeg) fun t_25 =>
      nm (t_25 - t_15) fun t_26 =>
      chi a_4 25 <|
      nm (upd v_air a_4.toNatClampNeg t_26) fun w_28 =>
      kb (f_X10_goesOut t_15 v_out) fun w_30 =>
      some (r_17, w_30, w_28, w_11, w_12)
  else
    chi r_17 25 <|
    nm (v_air r_17.toNatClampNeg) fun t_32 =>
    nm (t_32 + t_15) fun t_33 =>
    chi a_4 25 <|
    nm (v_air a_4.toNatClampNeg) fun t_35 =>
    nm (t_35 - t_15) fun t_36 =>
    chi a_4 25 <|
    nm (upd v_air a_4.toNatClampNeg t_36) fun w_38 =>
    nm (if 99 < t_33 then 99 else t_33) fun t_39 =>
    chi r_17 25 <|
    nm (upd w_38 r_17.toNatClampNeg t_39) fun w_41 =>
    chi r_17 25 <|
    nm (t_33 - (w_41 r_17.toNatClampNeg)) fun t_43 =>
    kb (f_X10_goesOut t_43 v_out) fun w_45 =>
    some (r_17, w_45, w_41, w_11, w_12)

abbrev rm_X10_pushOn : Room := { frames := 3, cells := 0, slots := 0, locals := 73 }
set_option maxHeartbeats 4000000 in
set_option maxRecDepth 100000 in
theorem c_X10_pushOn (l : Launch) (D : va_G) (c : Nat → ClassId) (q_this q_p3 q_air q_paste q_open q_met q_line q_p3_names q_p3_steps q_p3_stack q_p3_answers q_p3_draft q_p3_held : Nat) (ta : Nat → Nat) (n_p3_answers : Nat) (a_2 : Int32) (a_4 : Int32) (a_5 : Int32) (k_1 : Int32) (v_rows : Int32) (v_columns : Int32) (v_holes : Int32) (v_out : Int32) (v_night : Int32) (v_inLine : Int32) (v_air : Nat → Int32) (v_open : Nat → Int32) (v_paste : Nat → Int32) (v_p3_length : Int32) (v_p3_side : Int32) (v_p3_round : Int32) (v_p3_drafted : Int32) (v_p3_holding : Int32) (v_p3_open : Int32) (v_p3_digits : Int32) (v_p3_wantsOperand : Int32) (v_p3_answers : Nat → Int32) (v_p3_stack : Nat → Int32) (v_p3_steps : Nat → Int32) (o_r : Int32) (o_v_out : Int32) (o_v_air : Nat → Int32) (o_v_p3_answers : Nat → Int32) (o_v_p3_stack : Nat → Int32) (h : f_X10_pushOn a_2 a_4 a_5 k_1 n_p3_answers v_rows v_columns v_out v_air v_open v_paste v_p3_length v_p3_side v_p3_round v_p3_answers v_p3_stack v_p3_steps = some (o_r, o_v_out, o_v_air, o_v_p3_answers, o_v_p3_stack)) : gMI l yX10_pushOn wsX10_pushOn rm_X10_pushOn D c [.ref q_this, .ref (ta k_1.toNatClampNeg), .int a_2, .ref q_p3, .int a_4, .int a_5] [(q_this, .inr (10, [.int v_rows, .int v_columns, .ref q_air, .ref q_paste, .ref q_open, .int v_holes, .int v_out, .int v_night, .ref q_met, .ref q_line, .int v_inLine])), (q_air, .inl (c 0, 25, .inl v_air)), (q_open, .inl (c 0, 4, .inl v_open)), (q_paste, .inl (c 0, 25, .inl v_paste)), (q_p3, .inr (3, [.ref q_p3_names, .ref q_p3_steps, .int v_p3_length, .ref q_p3_stack, .ref q_p3_answers, .int v_p3_side, .int v_p3_round, .ref q_p3_draft, .int v_p3_drafted, .ref q_p3_held, .int v_p3_holding, .int v_p3_open, .int v_p3_digits, .int v_p3_wantsOperand])), (q_p3_answers, .inl (c 0, n_p3_answers, .inl v_p3_answers)), (q_p3_stack, .inl (c 0, 50, .inl v_p3_stack)), (q_p3_steps, .inl (c 0, 50, .inl v_p3_steps)), (ta 0, .inr (8, [])), (ta 1, .inr (0, [])), (ta 2, .inr (4, [])), (ta 3, .inr (5, [])), (ta 4, .inr (6, [])), (ta 5, .inr (2, [])), (ta 6, .inr (1, []))] [(q_this, .inr (10, [.int v_rows, .int v_columns, .ref q_air, .ref q_paste, .ref q_open, .int v_holes, .int o_v_out, .int v_night, .ref q_met, .ref q_line, .int v_inLine])), (q_air, .inl (c 0, 25, .inl o_v_air)), (q_open, .inl (c 0, 4, .inl v_open)), (q_paste, .inl (c 0, 25, .inl v_paste)), (q_p3, .inr (3, [.ref q_p3_names, .ref q_p3_steps, .int v_p3_length, .ref q_p3_stack, .ref q_p3_answers, .int v_p3_side, .int v_p3_round, .ref q_p3_draft, .int v_p3_drafted, .ref q_p3_held, .int v_p3_holding, .int v_p3_open, .int v_p3_digits, .int v_p3_wantsOperand])), (q_p3_answers, .inl (c 0, n_p3_answers, .inl o_v_p3_answers)), (q_p3_stack, .inl (c 0, 50, .inl o_v_p3_stack)), (q_p3_steps, .inl (c 0, 50, .inl v_p3_steps)), (ta 0, .inr (8, [])), (ta 1, .inr (0, [])), (ta 2, .inr (4, [])), (ta 3, .inr (5, [])), (ta 4, .inr (6, [])), (ta 5, .inr (2, [])), (ta 6, .inr (1, []))] o_r := by
  refine gMI_of (cc := cX10_pushOn) (maxL := 9) (rt := (some .int)) (by decide +kernel) rfl (Nat.le_of_ble_eq_true rfl) ?_
  intro p e s m below meth co A hF hK hX hP hD hA hS ls hl
  obtain ⟨hx, hb, hr, hts, hown, hlocks, hml⟩ := id hF
  have hl : lv_has ls 9 [(0, .ref q_this), (1, .ref (ta k_1.toNatClampNeg)), (2, .int a_2), (3, .ref q_p3), (4, .int a_4), (5, .int a_5)] := hl
  unfold f_X10_pushOn at h
  refine lv_aload_n hx hb dX10_pushOn_0 rfl (lv_at hl 0 rfl) ?_
  refine va_get (D := D) (ci := 10) (v := .ref q_air) (C := RX10) (T := TX10) (N := 11) hx hb hts in_X10_pushOn_X10 hown hK.1 hP 0 rfl rfl 2 (by decide) (hts (.fieldLink RX10 18 "PaperBubbles$Wall" "air" "[I") (List.mem_of_getElem? (i := 1) rfl)) (fun _ h9 => h9) rfl dX10_pushOn_1 ?_
  refine lv_iload hx hb dX10_pushOn_4 (lv_at hl 4 rfl) ?_
  obtain ⟨hi_1, h⟩ := chi_ok h
  refine va_iald hx hb hK.1 hP 1 0 rfl rfl hi_1 dX10_pushOn_6 ?_
  obtain ⟨t_2, et_2, h⟩ := nm_ok h
  refine gTop et_2 ?_
  refine lv_aload_n hx hb dX10_pushOn_7 rfl (lv_at hl 1 rfl) ?_
  refine lv_aload_n hx hb dX10_pushOn_8 rfl (lv_at hl 0 rfl) ?_
  refine va_get (D := D) (ci := 10) (v := .ref q_air) (C := RX10) (T := TX10) (N := 11) hx hb hts in_X10_pushOn_X10 hown hK.1 hP 0 rfl rfl 2 (by decide) (hts (.fieldLink RX10 18 "PaperBubbles$Wall" "air" "[I") (List.mem_of_getElem? (i := 1) rfl)) (fun _ h9 => h9) rfl dX10_pushOn_9 ?_
  refine lv_iload hx hb dX10_pushOn_12 (lv_at hl 4 rfl) ?_
  obtain ⟨hi_3, h⟩ := chi_ok h
  refine va_iald hx hb hK.1 hP 1 0 rfl rfl hi_3 dX10_pushOn_14 ?_
  obtain ⟨t_4, et_4, h⟩ := nm_ok h
  refine gTop et_4 ?_
  refine lv_aload_n hx hb dX10_pushOn_15 rfl (lv_at hl 3 rfl) ?_
  refine lv_aload_n hx hb dX10_pushOn_16 rfl (lv_at hl 0 rfl) ?_
  refine va_get (D := D) (ci := 10) (v := .ref q_air) (C := RX10) (T := TX10) (N := 11) hx hb hts in_X10_pushOn_X10 hown hK.1 hP 0 rfl rfl 2 (by decide) (hts (.fieldLink RX10 18 "PaperBubbles$Wall" "air" "[I") (List.mem_of_getElem? (i := 1) rfl)) (fun _ h9 => h9) rfl dX10_pushOn_17 ?_
  refine lv_iload hx hb dX10_pushOn_20 (lv_at hl 4 rfl) ?_
  obtain ⟨hi_5, h⟩ := chi_ok h
  refine va_iald hx hb hK.1 hP 1 0 rfl rfl hi_5 dX10_pushOn_22 ?_
  obtain ⟨t_6, et_6, h⟩ := nm_ok h
  refine gTop et_6 ?_
  refine lv_aload_n hx hb dX10_pushOn_23 rfl (lv_at hl 0 rfl) ?_
  refine va_get (D := D) (ci := 10) (v := .ref q_paste) (C := RX10) (T := TX10) (N := 11) hx hb hts in_X10_pushOn_X10 hown hK.1 hP 0 rfl rfl 3 (by decide) (hts (.fieldLink RX10 22 "PaperBubbles$Wall" "paste" "[I") (List.mem_of_getElem? (i := 2) rfl)) (fun _ h9 => h9) rfl dX10_pushOn_24 ?_
  refine lv_iload hx hb dX10_pushOn_27 (lv_at hl 4 rfl) ?_
  obtain ⟨hi_7, h⟩ := chi_ok h
  refine va_iald hx hb hK.1 hP 3 0 rfl rfl hi_7 dX10_pushOn_29 ?_
  obtain ⟨t_8, et_8, h⟩ := nm_ok h
  refine gTop et_8 ?_
  refine lv_iload_n hx hb dX10_pushOn_30 rfl (lv_at hl 2 rfl) ?_
  obtain ⟨r_10, w_11, w_12, hc_9, h⟩ := kb3_ok h
  refine gCallI (isC := [4, 5, 6, 7]) (wc := [(q_p3, .inr (3, [.ref q_p3_names, .ref q_p3_steps, .int v_p3_length, .ref q_p3_stack, .ref q_p3_answers, .int v_p3_side, .int v_p3_round, .ref q_p3_draft, .int v_p3_drafted, .ref q_p3_held, .int v_p3_holding, .int v_p3_open, .int v_p3_digits, .int v_p3_wantsOperand])), (q_p3_answers, .inl (c 0, n_p3_answers, .inl v_p3_answers)), (q_p3_stack, .inl (c 0, 50, .inl v_p3_stack)), (q_p3_steps, .inl (c 0, 50, .inl v_p3_steps))]) (w1 := [(q_p3, .inr (3, [.ref q_p3_names, .ref q_p3_steps, .int v_p3_length, .ref q_p3_stack, .ref q_p3_answers, .int v_p3_side, .int v_p3_round, .ref q_p3_draft, .int v_p3_drafted, .ref q_p3_held, .int v_p3_holding, .int v_p3_open, .int v_p3_digits, .int v_p3_wantsOperand])), (q_p3_answers, .inl (c 0, n_p3_answers, .inl w_11)), (q_p3_stack, .inl (c 0, 50, .inl w_12)), (q_p3_steps, .inl (c 0, 50, .inl v_p3_steps))]) hP hD hS hA rfl rfl (va_runV (rm := rm_X3_gives) (ws := wsX3_gives) (As := [.int t_6, .int t_8, .int a_2]) (rest := [.int t_4, .ref (ta k_1.toNatClampNeg), .int t_2]) (gFix hF) (c_X3_gives l D c q_p3 q_p3_names q_p3_steps q_p3_stack q_p3_answers q_p3_draft q_p3_held n_p3_answers t_6 t_8 a_2 v_p3_length v_p3_side v_p3_round v_p3_drafted v_p3_holding v_p3_open v_p3_digits v_p3_wantsOperand v_p3_answers v_p3_stack v_p3_steps r_10 w_11 w_12 hc_9 s.heap.size) (cwV 3 hts gX10_pushOn_X3_gives rfl rfl rfl (by decide +kernel) ⟨Nat.le_of_ble_eq_true rfl, Nat.le_of_ble_eq_true rfl⟩) (gPreV (wc := [(q_p3, .inr (3, [.ref q_p3_names, .ref q_p3_steps, .int v_p3_length, .ref q_p3_stack, .ref q_p3_answers, .int v_p3_side, .int v_p3_round, .ref q_p3_draft, .int v_p3_drafted, .ref q_p3_held, .int v_p3_holding, .int v_p3_open, .int v_p3_digits, .int v_p3_wantsOperand])), (q_p3_answers, .inl (c 0, n_p3_answers, .inl v_p3_answers)), (q_p3_stack, .inl (c 0, 50, .inl v_p3_stack)), (q_p3_steps, .inl (c 0, 50, .inl v_p3_steps))]) (q := (RX3, TX3, 14)) (ci := 3) (q0 := 4) (isC := [4, 5, 6, 7]) hK hX hS hA hP hD rfl (by decide) rfl rfl) rfl rfl hl.1 rfl (lv_room (Nat.le_of_ble_eq_true rfl)) dX10_pushOn_31 ⟨Nat.le_of_ble_eq_true rfl, Nat.le_of_ble_eq_true rfl⟩) (fun H locs hP hD hS => ?_)
  have hP : va_P D gcl [(q_this, .inr (10, [.int v_rows, .int v_columns, .ref q_air, .ref q_paste, .ref q_open, .int v_holes, .int v_out, .int v_night, .ref q_met, .ref q_line, .int v_inLine])), (q_air, .inl (c 0, 25, .inl v_air)), (q_open, .inl (c 0, 4, .inl v_open)), (q_paste, .inl (c 0, 25, .inl v_paste)), (q_p3, .inr (3, [.ref q_p3_names, .ref q_p3_steps, .int v_p3_length, .ref q_p3_stack, .ref q_p3_answers, .int v_p3_side, .int v_p3_round, .ref q_p3_draft, .int v_p3_drafted, .ref q_p3_held, .int v_p3_holding, .int v_p3_open, .int v_p3_digits, .int v_p3_wantsOperand])), (q_p3_answers, .inl (c 0, n_p3_answers, .inl w_11)), (q_p3_stack, .inl (c 0, 50, .inl w_12)), (q_p3_steps, .inl (c 0, 50, .inl v_p3_steps)), (ta 0, .inr (8, [])), (ta 1, .inr (0, [])), (ta 2, .inr (4, [])), (ta 3, .inr (5, [])), (ta 4, .inr (6, [])), (ta 5, .inr (2, [])), (ta 6, .inr (1, []))] H := hP
  have hD : va_D A [(q_this, .inr (10, [.int v_rows, .int v_columns, .ref q_air, .ref q_paste, .ref q_open, .int v_holes, .int v_out, .int v_night, .ref q_met, .ref q_line, .int v_inLine])), (q_air, .inl (c 0, 25, .inl v_air)), (q_open, .inl (c 0, 4, .inl v_open)), (q_paste, .inl (c 0, 25, .inl v_paste)), (q_p3, .inr (3, [.ref q_p3_names, .ref q_p3_steps, .int v_p3_length, .ref q_p3_stack, .ref q_p3_answers, .int v_p3_side, .int v_p3_round, .ref q_p3_draft, .int v_p3_drafted, .ref q_p3_held, .int v_p3_holding, .int v_p3_open, .int v_p3_digits, .int v_p3_wantsOperand])), (q_p3_answers, .inl (c 0, n_p3_answers, .inl w_11)), (q_p3_stack, .inl (c 0, 50, .inl w_12)), (q_p3_steps, .inl (c 0, 50, .inl v_p3_steps)), (ta 0, .inr (8, [])), (ta 1, .inr (0, [])), (ta 2, .inr (4, [])), (ta 3, .inr (5, [])), (ta 4, .inr (6, [])), (ta 5, .inr (2, [])), (ta 6, .inr (1, []))] := hD
  refine lv_iload_n hx hb dX10_pushOn_34 rfl (lv_at hl 2 rfl) ?_
  obtain ⟨r_14, hc_13, h⟩ := kb_ok h
  refine gCallI (isC := []) (wc := []) (w1 := []) (r := r_14) (rest := [.int t_2]) (a := (.ref (ta k_1.toNatClampNeg) :: [.int t_4, .int r_10, .int a_2]).toArray) hP hD hS hA rfl rfl ?_ (fun H locs hP hD hS => ?_)
  · rcases td_moves hc_13 with ⟨rfl, hc_13⟩ | ⟨rfl, hc_13⟩ | ⟨rfl, hc_13⟩ | ⟨rfl, hc_13⟩ | ⟨rfl, hc_13⟩ | ⟨rfl, hc_13⟩ | ⟨rfl, hc_13⟩
    · exact va_runV (As := [.int t_4, .int r_10, .int a_2]) (rest := [.int t_2]) (gFix hF) (c_X8_moves l D c (ta 0) t_4 r_10 a_2 r_14 hc_13 H.size) (cwV 3 hts gX10_pushOn_X8_moves rfl rfl rfl (by decide +kernel) ⟨Nat.le_of_ble_eq_true rfl, Nat.le_of_ble_eq_true rfl⟩) (gPreV (wc := []) (q := (RX8, TX8, 0)) (ci := 8) (q0 := 8) (isC := []) hK hX hS hA hP hD rfl (by decide) rfl rfl) rfl rfl hl.1 rfl (lv_room (Nat.le_of_ble_eq_true rfl)) dX10_pushOn_35 ⟨Nat.le_of_ble_eq_true rfl, Nat.le_of_ble_eq_true rfl⟩
    · exact va_runU (As := [.int t_4, .int r_10, .int a_2]) (rest := [.int t_2]) (gFix hF) (c_X0_moves l D c (ta 1) t_4 r_10 a_2 r_14 hc_13 H.size) (va_cwO 3 hts gX10_pushOn_X0_moves_u108X0 rfl rfl rfl (List.mem_of_getElem? (i := 46) (rfl : wsX10_pushOn[46]? = some (.code yX8_moves cX8_moves 4 (some .int)))) (by decide +kernel) ⟨Nat.le_of_ble_eq_true rfl, Nat.le_of_ble_eq_true rfl⟩) (gPreV (wc := []) (q := (RX0, TX0, 0)) (ci := 0) (q0 := 9) (isC := []) hK hX hS hA hP hD rfl (by decide) rfl rfl) rfl rfl hl.1 rfl (lv_room (Nat.le_of_ble_eq_true rfl)) dX10_pushOn_35 ⟨Nat.le_of_ble_eq_true rfl, Nat.le_of_ble_eq_true rfl⟩
    · exact va_runU (As := [.int t_4, .int r_10, .int a_2]) (rest := [.int t_2]) (gFix hF) (c_X4_moves l D c (ta 2) t_4 r_10 a_2 r_14 hc_13 H.size) (va_cwO 3 hts gX10_pushOn_X4_moves_u108X4 rfl rfl rfl (List.mem_of_getElem? (i := 46) (rfl : wsX10_pushOn[46]? = some (.code yX8_moves cX8_moves 4 (some .int)))) (by decide +kernel) ⟨Nat.le_of_ble_eq_true rfl, Nat.le_of_ble_eq_true rfl⟩) (gPreV (wc := []) (q := (RX4, TX4, 0)) (ci := 4) (q0 := 10) (isC := []) hK hX hS hA hP hD rfl (by decide) rfl rfl) rfl rfl hl.1 rfl (lv_room (Nat.le_of_ble_eq_true rfl)) dX10_pushOn_35 ⟨Nat.le_of_ble_eq_true rfl, Nat.le_of_ble_eq_true rfl⟩
    · exact va_runU (As := [.int t_4, .int r_10, .int a_2]) (rest := [.int t_2]) (gFix hF) (c_X5_moves l D c (ta 3) t_4 r_10 a_2 r_14 hc_13 H.size) (va_cwO 3 hts gX10_pushOn_X5_moves_u108X5 rfl rfl rfl (List.mem_of_getElem? (i := 46) (rfl : wsX10_pushOn[46]? = some (.code yX8_moves cX8_moves 4 (some .int)))) (by decide +kernel) ⟨Nat.le_of_ble_eq_true rfl, Nat.le_of_ble_eq_true rfl⟩) (gPreV (wc := []) (q := (RX5, TX5, 0)) (ci := 5) (q0 := 11) (isC := []) hK hX hS hA hP hD rfl (by decide) rfl rfl) rfl rfl hl.1 rfl (lv_room (Nat.le_of_ble_eq_true rfl)) dX10_pushOn_35 ⟨Nat.le_of_ble_eq_true rfl, Nat.le_of_ble_eq_true rfl⟩
    · exact va_runU (As := [.int t_4, .int r_10, .int a_2]) (rest := [.int t_2]) (gFix hF) (c_X6_moves l D c (ta 4) t_4 r_10 a_2 r_14 hc_13 H.size) (va_cwO 3 hts gX10_pushOn_X6_moves_u108X6 rfl rfl rfl (List.mem_of_getElem? (i := 46) (rfl : wsX10_pushOn[46]? = some (.code yX8_moves cX8_moves 4 (some .int)))) (by decide +kernel) ⟨Nat.le_of_ble_eq_true rfl, Nat.le_of_ble_eq_true rfl⟩) (gPreV (wc := [(ta 4, .inr (6, []))]) (q := (RX6, TX6, 0)) (ci := 6) (q0 := 12) (isC := [12]) hK hX hS hA hP hD rfl (by decide) rfl rfl) rfl rfl hl.1 rfl (lv_room (Nat.le_of_ble_eq_true rfl)) dX10_pushOn_35 ⟨Nat.le_of_ble_eq_true rfl, Nat.le_of_ble_eq_true rfl⟩
    · exact va_runU (As := [.int t_4, .int r_10, .int a_2]) (rest := [.int t_2]) (gFix hF) (c_X4_moves l D c (ta 5) t_4 r_10 a_2 r_14 hc_13 H.size) (va_cwO 3 hts gX10_pushOn_X4_moves_u108X2 rfl rfl rfl (List.mem_of_getElem? (i := 46) (rfl : wsX10_pushOn[46]? = some (.code yX8_moves cX8_moves 4 (some .int)))) (by decide +kernel) ⟨Nat.le_of_ble_eq_true rfl, Nat.le_of_ble_eq_true rfl⟩) (gPreV (wc := []) (q := (RX2, TX2, 0)) (ci := 2) (q0 := 13) (isC := []) hK hX hS hA hP hD rfl (by decide) rfl rfl) rfl rfl hl.1 rfl (lv_room (Nat.le_of_ble_eq_true rfl)) dX10_pushOn_35 ⟨Nat.le_of_ble_eq_true rfl, Nat.le_of_ble_eq_true rfl⟩
    · exact va_runU (As := [.int t_4, .int r_10, .int a_2]) (rest := [.int t_2]) (gFix hF) (c_X1_moves l D c (ta 6) t_4 r_10 a_2 r_14 hc_13 H.size) (va_cwO 3 hts gX10_pushOn_X1_moves_u108X1 rfl rfl rfl (List.mem_of_getElem? (i := 46) (rfl : wsX10_pushOn[46]? = some (.code yX8_moves cX8_moves 4 (some .int)))) (by decide +kernel) ⟨Nat.le_of_ble_eq_true rfl, Nat.le_of_ble_eq_true rfl⟩) (gPreV (wc := [(ta 6, .inr (1, []))]) (q := (RX1, TX1, 0)) (ci := 1) (q0 := 14) (isC := [14]) hK hX hS hA hP hD rfl (by decide) rfl rfl) rfl rfl hl.1 rfl (lv_room (Nat.le_of_ble_eq_true rfl)) dX10_pushOn_35 ⟨Nat.le_of_ble_eq_true rfl, Nat.le_of_ble_eq_true rfl⟩
  · have hP : va_P D gcl [(q_this, .inr (10, [.int v_rows, .int v_columns, .ref q_air, .ref q_paste, .ref q_open, .int v_holes, .int v_out, .int v_night, .ref q_met, .ref q_line, .int v_inLine])), (q_air, .inl (c 0, 25, .inl v_air)), (q_open, .inl (c 0, 4, .inl v_open)), (q_paste, .inl (c 0, 25, .inl v_paste)), (q_p3, .inr (3, [.ref q_p3_names, .ref q_p3_steps, .int v_p3_length, .ref q_p3_stack, .ref q_p3_answers, .int v_p3_side, .int v_p3_round, .ref q_p3_draft, .int v_p3_drafted, .ref q_p3_held, .int v_p3_holding, .int v_p3_open, .int v_p3_digits, .int v_p3_wantsOperand])), (q_p3_answers, .inl (c 0, n_p3_answers, .inl w_11)), (q_p3_stack, .inl (c 0, 50, .inl w_12)), (q_p3_steps, .inl (c 0, 50, .inl v_p3_steps)), (ta 0, .inr (8, [])), (ta 1, .inr (0, [])), (ta 2, .inr (4, [])), (ta 3, .inr (5, [])), (ta 4, .inr (6, [])), (ta 5, .inr (2, [])), (ta 6, .inr (1, []))] H := hP
    have hD : va_D A [(q_this, .inr (10, [.int v_rows, .int v_columns, .ref q_air, .ref q_paste, .ref q_open, .int v_holes, .int v_out, .int v_night, .ref q_met, .ref q_line, .int v_inLine])), (q_air, .inl (c 0, 25, .inl v_air)), (q_open, .inl (c 0, 4, .inl v_open)), (q_paste, .inl (c 0, 25, .inl v_paste)), (q_p3, .inr (3, [.ref q_p3_names, .ref q_p3_steps, .int v_p3_length, .ref q_p3_stack, .ref q_p3_answers, .int v_p3_side, .int v_p3_round, .ref q_p3_draft, .int v_p3_drafted, .ref q_p3_held, .int v_p3_holding, .int v_p3_open, .int v_p3_digits, .int v_p3_wantsOperand])), (q_p3_answers, .inl (c 0, n_p3_answers, .inl w_11)), (q_p3_stack, .inl (c 0, 50, .inl w_12)), (q_p3_steps, .inl (c 0, 50, .inl v_p3_steps)), (ta 0, .inr (8, [])), (ta 1, .inr (0, [])), (ta 2, .inr (4, [])), (ta 3, .inr (5, [])), (ta 4, .inr (6, [])), (ta 5, .inr (2, [])), (ta 6, .inr (1, []))] := hD
    refine va_mmin hx hb (by rw [hml]; exact hl.1.symm) hown (hts (.methodLink RX10 82 Lib.Math.min.name) (List.mem_of_getElem? (i := 3) rfl)) (hts (.static Lib.Math.min.name) (List.mem_of_getElem? (i := 4) rfl)) (hts (.initialized "java/lang/Math") (List.mem_of_getElem? (i := 5) rfl)) (hts (.code Lib.Math.min.name Lib.Math.min.code 2 (some .int)) (List.mem_of_getElem? (i := 6) rfl)) (Nat.le_of_ble_eq_true rfl) (by first | exact Nat.le_of_ble_eq_true rfl | decide) (Nat.le_of_ble_eq_true rfl) (Nat.le_of_ble_eq_true rfl) dX10_pushOn_38 ?_
    obtain ⟨t_15, et_15, h⟩ := nm_ok h
    refine gTop et_15 ?_
    refine lv_istore (lv' := [(6, .int t_15), (0, .ref q_this), (1, .ref (ta k_1.toNatClampNeg)), (2, .int a_2), (3, .ref q_p3), (4, .int a_4), (5, .int a_5)]) hx hb dX10_pushOn_41 hl (by decide) rfl (fun ls hl => ?_)
    refine lv_aload_n hx hb dX10_pushOn_43 rfl (lv_at hl 1 rfl) ?_
    refine lv_iload hx hb dX10_pushOn_44 (lv_at hl 5 rfl) ?_
    refine lv_iload hx hb dX10_pushOn_46 (lv_at hl 6 rfl) ?_
    obtain ⟨r_17, hc_16, h⟩ := kb_ok h
    refine gCallI (isC := [0]) (wc := [(q_this, .inr (10, [.int v_rows, .int v_columns, .ref q_air, .ref q_paste, .ref q_open, .int v_holes, .int v_out, .int v_night, .ref q_met, .ref q_line, .int v_inLine]))]) (w1 := [(q_this, .inr (10, [.int v_rows, .int v_columns, .ref q_air, .ref q_paste, .ref q_open, .int v_holes, .int v_out, .int v_night, .ref q_met, .ref q_line, .int v_inLine]))]) hP hD hS hA rfl rfl (va_runV (rm := rm_X10_beside) (ws := wsX10_beside) (As := [.int a_4, .int a_5]) (rest := []) (gFix hF) (c_X10_beside l D c q_this q_air q_paste q_open q_met q_line a_4 a_5 v_rows v_columns v_holes v_out v_night v_inLine r_17 hc_16 H.size) (cwV 2 hts gX10_pushOn_X10_beside rfl rfl rfl (by decide +kernel) ⟨Nat.le_of_ble_eq_true rfl, Nat.le_of_ble_eq_true rfl⟩) (gPreV (wc := [(q_this, .inr (10, [.int v_rows, .int v_columns, .ref q_air, .ref q_paste, .ref q_open, .int v_holes, .int v_out, .int v_night, .ref q_met, .ref q_line, .int v_inLine]))]) (q := (RX10, TX10, 11)) (ci := 10) (q0 := 0) (isC := [0]) hK hX hS hA hP hD rfl (by decide) rfl rfl) rfl rfl hl.1 rfl (lv_room (Nat.le_of_ble_eq_true rfl)) dX10_pushOn_48 ⟨Nat.le_of_ble_eq_true rfl, Nat.le_of_ble_eq_true rfl⟩) (fun H locs hP hD hS => ?_)
    have hP : va_P D gcl [(q_this, .inr (10, [.int v_rows, .int v_columns, .ref q_air, .ref q_paste, .ref q_open, .int v_holes, .int v_out, .int v_night, .ref q_met, .ref q_line, .int v_inLine])), (q_air, .inl (c 0, 25, .inl v_air)), (q_open, .inl (c 0, 4, .inl v_open)), (q_paste, .inl (c 0, 25, .inl v_paste)), (q_p3, .inr (3, [.ref q_p3_names, .ref q_p3_steps, .int v_p3_length, .ref q_p3_stack, .ref q_p3_answers, .int v_p3_side, .int v_p3_round, .ref q_p3_draft, .int v_p3_drafted, .ref q_p3_held, .int v_p3_holding, .int v_p3_open, .int v_p3_digits, .int v_p3_wantsOperand])), (q_p3_answers, .inl (c 0, n_p3_answers, .inl w_11)), (q_p3_stack, .inl (c 0, 50, .inl w_12)), (q_p3_steps, .inl (c 0, 50, .inl v_p3_steps)), (ta 0, .inr (8, [])), (ta 1, .inr (0, [])), (ta 2, .inr (4, [])), (ta 3, .inr (5, [])), (ta 4, .inr (6, [])), (ta 5, .inr (2, [])), (ta 6, .inr (1, []))] H := hP
    have hD : va_D A [(q_this, .inr (10, [.int v_rows, .int v_columns, .ref q_air, .ref q_paste, .ref q_open, .int v_holes, .int v_out, .int v_night, .ref q_met, .ref q_line, .int v_inLine])), (q_air, .inl (c 0, 25, .inl v_air)), (q_open, .inl (c 0, 4, .inl v_open)), (q_paste, .inl (c 0, 25, .inl v_paste)), (q_p3, .inr (3, [.ref q_p3_names, .ref q_p3_steps, .int v_p3_length, .ref q_p3_stack, .ref q_p3_answers, .int v_p3_side, .int v_p3_round, .ref q_p3_draft, .int v_p3_drafted, .ref q_p3_held, .int v_p3_holding, .int v_p3_open, .int v_p3_digits, .int v_p3_wantsOperand])), (q_p3_answers, .inl (c 0, n_p3_answers, .inl w_11)), (q_p3_stack, .inl (c 0, 50, .inl w_12)), (q_p3_steps, .inl (c 0, 50, .inl v_p3_steps)), (ta 0, .inr (8, [])), (ta 1, .inr (0, [])), (ta 2, .inr (4, [])), (ta 3, .inr (5, [])), (ta 4, .inr (6, [])), (ta 5, .inr (2, [])), (ta 6, .inr (1, []))] := hD
    refine lv_istore (lv' := [(7, .int r_17), (6, .int t_15), (0, .ref q_this), (1, .ref (ta k_1.toNatClampNeg)), (2, .int a_2), (3, .ref q_p3), (4, .int a_4), (5, .int a_5)]) hx hb dX10_pushOn_51 hl (by decide) rfl (fun ls hl => ?_)
    refine lv_aload_n hx hb dX10_pushOn_53 rfl (lv_at hl 2 rfl) ?_
    refine lv_iload hx hb dX10_pushOn_54 (lv_at hl 0 rfl) ?_
    obtain ⟨r_19, hc_18, h⟩ := kb_ok h
    refine gCallI (isC := [0]) (wc := [(q_this, .inr (10, [.int v_rows, .int v_columns, .ref q_air, .ref q_paste, .ref q_open, .int v_holes, .int v_out, .int v_night, .ref q_met, .ref q_line, .int v_inLine]))]) (w1 := [(q_this, .inr (10, [.int v_rows, .int v_columns, .ref q_air, .ref q_paste, .ref q_open, .int v_holes, .int v_out, .int v_night, .ref q_met, .ref q_line, .int v_inLine]))]) hP hD hS hA rfl rfl (va_runV (rm := rm_X10_has) (ws := wsX10_has) (As := [.int r_17]) (rest := []) (gFix hF) (c_X10_has l D c q_this q_air q_paste q_open q_met q_line r_17 v_rows v_columns v_holes v_out v_night v_inLine r_19 hc_18 H.size) (cwV 1 hts gX10_pushOn_X10_has rfl rfl rfl (by decide +kernel) ⟨Nat.le_of_ble_eq_true rfl, Nat.le_of_ble_eq_true rfl⟩) (gPreV (wc := [(q_this, .inr (10, [.int v_rows, .int v_columns, .ref q_air, .ref q_paste, .ref q_open, .int v_holes, .int v_out, .int v_night, .ref q_met, .ref q_line, .int v_inLine]))]) (q := (RX10, TX10, 11)) (ci := 10) (q0 := 0) (isC := [0]) hK hX hS hA hP hD rfl (by decide) rfl rfl) rfl rfl hl.1 rfl (lv_room (Nat.le_of_ble_eq_true rfl)) dX10_pushOn_56 ⟨Nat.le_of_ble_eq_true rfl, Nat.le_of_ble_eq_true rfl⟩) (fun H locs hP hD hS => ?_)
    have hP : va_P D gcl [(q_this, .inr (10, [.int v_rows, .int v_columns, .ref q_air, .ref q_paste, .ref q_open, .int v_holes, .int v_out, .int v_night, .ref q_met, .ref q_line, .int v_inLine])), (q_air, .inl (c 0, 25, .inl v_air)), (q_open, .inl (c 0, 4, .inl v_open)), (q_paste, .inl (c 0, 25, .inl v_paste)), (q_p3, .inr (3, [.ref q_p3_names, .ref q_p3_steps, .int v_p3_length, .ref q_p3_stack, .ref q_p3_answers, .int v_p3_side, .int v_p3_round, .ref q_p3_draft, .int v_p3_drafted, .ref q_p3_held, .int v_p3_holding, .int v_p3_open, .int v_p3_digits, .int v_p3_wantsOperand])), (q_p3_answers, .inl (c 0, n_p3_answers, .inl w_11)), (q_p3_stack, .inl (c 0, 50, .inl w_12)), (q_p3_steps, .inl (c 0, 50, .inl v_p3_steps)), (ta 0, .inr (8, [])), (ta 1, .inr (0, [])), (ta 2, .inr (4, [])), (ta 3, .inr (5, [])), (ta 4, .inr (6, [])), (ta 5, .inr (2, [])), (ta 6, .inr (1, []))] H := hP
    have hD : va_D A [(q_this, .inr (10, [.int v_rows, .int v_columns, .ref q_air, .ref q_paste, .ref q_open, .int v_holes, .int v_out, .int v_night, .ref q_met, .ref q_line, .int v_inLine])), (q_air, .inl (c 0, 25, .inl v_air)), (q_open, .inl (c 0, 4, .inl v_open)), (q_paste, .inl (c 0, 25, .inl v_paste)), (q_p3, .inr (3, [.ref q_p3_names, .ref q_p3_steps, .int v_p3_length, .ref q_p3_stack, .ref q_p3_answers, .int v_p3_side, .int v_p3_round, .ref q_p3_draft, .int v_p3_drafted, .ref q_p3_held, .int v_p3_holding, .int v_p3_open, .int v_p3_digits, .int v_p3_wantsOperand])), (q_p3_answers, .inl (c 0, n_p3_answers, .inl w_11)), (q_p3_stack, .inl (c 0, 50, .inl w_12)), (q_p3_steps, .inl (c 0, 50, .inl v_p3_steps)), (ta 0, .inr (8, [])), (ta 1, .inr (0, [])), (ta 2, .inr (4, [])), (ta 3, .inr (5, [])), (ta 4, .inr (6, [])), (ta 5, .inr (2, [])), (ta 6, .inr (1, []))] := hD
    refine lv_if_eq (tgt := 117) hx hb dX10_pushOn_59 (by decide) (fun c_20 => ?_) (fun c_20 => ?_)
    · have h := it_t c_20 h
      refine lv_aload_n hx hb dX10_pushOn_117 rfl (lv_at hl 2 rfl) ?_
      refine lv_iload hx hb dX10_pushOn_118 (lv_at hl 7 rfl) ?_
      obtain ⟨r_22, hc_21, h⟩ := kb_ok h
      refine gCallI (isC := [0, 2]) (wc := [(q_this, .inr (10, [.int v_rows, .int v_columns, .ref q_air, .ref q_paste, .ref q_open, .int v_holes, .int v_out, .int v_night, .ref q_met, .ref q_line, .int v_inLine])), (q_open, .inl (c 0, 4, .inl v_open))]) (w1 := [(q_this, .inr (10, [.int v_rows, .int v_columns, .ref q_air, .ref q_paste, .ref q_open, .int v_holes, .int v_out, .int v_night, .ref q_met, .ref q_line, .int v_inLine])), (q_open, .inl (c 0, 4, .inl v_open))]) hP hD hS hA rfl rfl (va_runV (rm := rm_X10_isOpen) (ws := wsX10_isOpen) (As := [.int a_5]) (rest := []) (gFix hF) (c_X10_isOpen l D c q_this q_air q_paste q_open q_met q_line a_5 v_rows v_columns v_holes v_out v_night v_inLine v_open r_22 hc_21 H.size) (cwV 1 hts gX10_pushOn_X10_isOpen rfl rfl rfl (by decide +kernel) ⟨Nat.le_of_ble_eq_true rfl, Nat.le_of_ble_eq_true rfl⟩) (gPreV (wc := [(q_this, .inr (10, [.int v_rows, .int v_columns, .ref q_air, .ref q_paste, .ref q_open, .int v_holes, .int v_out, .int v_night, .ref q_met, .ref q_line, .int v_inLine])), (q_open, .inl (c 0, 4, .inl v_open))]) (q := (RX10, TX10, 11)) (ci := 10) (q0 := 0) (isC := [0, 2]) hK hX hS hA hP hD rfl (by decide) rfl rfl) rfl rfl hl.1 rfl (lv_room (Nat.le_of_ble_eq_true rfl)) dX10_pushOn_120 ⟨Nat.le_of_ble_eq_true rfl, Nat.le_of_ble_eq_true rfl⟩) (fun H locs hP hD hS => ?_)
      have hP : va_P D gcl [(q_this, .inr (10, [.int v_rows, .int v_columns, .ref q_air, .ref q_paste, .ref q_open, .int v_holes, .int v_out, .int v_night, .ref q_met, .ref q_line, .int v_inLine])), (q_air, .inl (c 0, 25, .inl v_air)), (q_open, .inl (c 0, 4, .inl v_open)), (q_paste, .inl (c 0, 25, .inl v_paste)), (q_p3, .inr (3, [.ref q_p3_names, .ref q_p3_steps, .int v_p3_length, .ref q_p3_stack, .ref q_p3_answers, .int v_p3_side, .int v_p3_round, .ref q_p3_draft, .int v_p3_drafted, .ref q_p3_held, .int v_p3_holding, .int v_p3_open, .int v_p3_digits, .int v_p3_wantsOperand])), (q_p3_answers, .inl (c 0, n_p3_answers, .inl w_11)), (q_p3_stack, .inl (c 0, 50, .inl w_12)), (q_p3_steps, .inl (c 0, 50, .inl v_p3_steps)), (ta 0, .inr (8, [])), (ta 1, .inr (0, [])), (ta 2, .inr (4, [])), (ta 3, .inr (5, [])), (ta 4, .inr (6, [])), (ta 5, .inr (2, [])), (ta 6, .inr (1, []))] H := hP
      have hD : va_D A [(q_this, .inr (10, [.int v_rows, .int v_columns, .ref q_air, .ref q_paste, .ref q_open, .int v_holes, .int v_out, .int v_night, .ref q_met, .ref q_line, .int v_inLine])), (q_air, .inl (c 0, 25, .inl v_air)), (q_open, .inl (c 0, 4, .inl v_open)), (q_paste, .inl (c 0, 25, .inl v_paste)), (q_p3, .inr (3, [.ref q_p3_names, .ref q_p3_steps, .int v_p3_length, .ref q_p3_stack, .ref q_p3_answers, .int v_p3_side, .int v_p3_round, .ref q_p3_draft, .int v_p3_drafted, .ref q_p3_held, .int v_p3_holding, .int v_p3_open, .int v_p3_digits, .int v_p3_wantsOperand])), (q_p3_answers, .inl (c 0, n_p3_answers, .inl w_11)), (q_p3_stack, .inl (c 0, 50, .inl w_12)), (q_p3_steps, .inl (c 0, 50, .inl v_p3_steps)), (ta 0, .inr (8, [])), (ta 1, .inr (0, [])), (ta 2, .inr (4, [])), (ta 3, .inr (5, [])), (ta 4, .inr (6, [])), (ta 5, .inr (2, [])), (ta 6, .inr (1, []))] := hD
      refine lv_if_eq (tgt := 144) hx hb dX10_pushOn_123 (by decide) (fun c_23 => ?_) (fun c_23 => ?_)
      · have h := it_t c_23 h
        refine lv_iload hx hb dX10_pushOn_144 (lv_at hl 0 rfl) ?_
        cases h
        exact gIret hF hP hD hS rfl dX10_pushOn_146
      · have h := it_f c_23 h
        refine lv_aload_n hx hb dX10_pushOn_126 rfl (lv_at hl 2 rfl) ?_
        refine va_get (D := D) (ci := 10) (v := .ref q_air) (C := RX10) (T := TX10) (N := 11) hx hb hts in_X10_pushOn_X10 hown hK.1 hP 0 rfl rfl 2 (by decide) (hts (.fieldLink RX10 18 "PaperBubbles$Wall" "air" "[I") (List.mem_of_getElem? (i := 1) rfl)) (fun _ h9 => h9) rfl dX10_pushOn_127 ?_
        refine lv_iload hx hb dX10_pushOn_130 (lv_at hl 6 rfl) ?_
        refine lv_dup2_11 hx hb dX10_pushOn_132 rfl rfl ?_
        obtain ⟨hi_24, h⟩ := chi_ok h
        refine va_iald hx hb hK.1 hP 1 0 rfl rfl hi_24 dX10_pushOn_133 ?_
        obtain ⟨t_25, et_25, h⟩ := nm_ok h
        refine gTop et_25 ?_
        refine lv_iload hx hb dX10_pushOn_134 (lv_at hl 1 rfl) ?_
        refine lv_isub hx hb dX10_pushOn_136 ?_
        obtain ⟨t_26, et_26, h⟩ := nm_ok h
        refine gTop et_26 ?_
        obtain ⟨hi_27, h⟩ := chi_ok h
        obtain ⟨w_28, ew_28, h⟩ := nm_ok h
        refine va_iast hx hb hK.1 hP hD hS 1 0 rfl rfl hi_27 dX10_pushOn_137 (fun H locs hP hD hS => ?_)
        have hP : va_P D gcl [(q_this, .inr (10, [.int v_rows, .int v_columns, .ref q_air, .ref q_paste, .ref q_open, .int v_holes, .int v_out, .int v_night, .ref q_met, .ref q_line, .int v_inLine])), (q_air, .inl (c 0, 25, .inl w_28)), (q_open, .inl (c 0, 4, .inl v_open)), (q_paste, .inl (c 0, 25, .inl v_paste)), (q_p3, .inr (3, [.ref q_p3_names, .ref q_p3_steps, .int v_p3_length, .ref q_p3_stack, .ref q_p3_answers, .int v_p3_side, .int v_p3_round, .ref q_p3_draft, .int v_p3_drafted, .ref q_p3_held, .int v_p3_holding, .int v_p3_open, .int v_p3_digits, .int v_p3_wantsOperand])), (q_p3_answers, .inl (c 0, n_p3_answers, .inl w_11)), (q_p3_stack, .inl (c 0, 50, .inl w_12)), (q_p3_steps, .inl (c 0, 50, .inl v_p3_steps)), (ta 0, .inr (8, [])), (ta 1, .inr (0, [])), (ta 2, .inr (4, [])), (ta 3, .inr (5, [])), (ta 4, .inr (6, [])), (ta 5, .inr (2, [])), (ta 6, .inr (1, []))] H := by subst ew_28; exact hP
        have hD : va_D A [(q_this, .inr (10, [.int v_rows, .int v_columns, .ref q_air, .ref q_paste, .ref q_open, .int v_holes, .int v_out, .int v_night, .ref q_met, .ref q_line, .int v_inLine])), (q_air, .inl (c 0, 25, .inl w_28)), (q_open, .inl (c 0, 4, .inl v_open)), (q_paste, .inl (c 0, 25, .inl v_paste)), (q_p3, .inr (3, [.ref q_p3_names, .ref q_p3_steps, .int v_p3_length, .ref q_p3_stack, .ref q_p3_answers, .int v_p3_side, .int v_p3_round, .ref q_p3_draft, .int v_p3_drafted, .ref q_p3_held, .int v_p3_holding, .int v_p3_open, .int v_p3_digits, .int v_p3_wantsOperand])), (q_p3_answers, .inl (c 0, n_p3_answers, .inl w_11)), (q_p3_stack, .inl (c 0, 50, .inl w_12)), (q_p3_steps, .inl (c 0, 50, .inl v_p3_steps)), (ta 0, .inr (8, [])), (ta 1, .inr (0, [])), (ta 2, .inr (4, [])), (ta 3, .inr (5, [])), (ta 4, .inr (6, [])), (ta 5, .inr (2, [])), (ta 6, .inr (1, []))] := by subst ew_28; exact hD
        refine lv_aload_n hx hb dX10_pushOn_138 rfl (lv_at hl 2 rfl) ?_
        refine lv_iload hx hb dX10_pushOn_139 (lv_at hl 1 rfl) ?_
        obtain ⟨w_30, hc_29, h⟩ := kb_ok h
        refine gCallV (isC := [0]) (wc := [(q_this, .inr (10, [.int v_rows, .int v_columns, .ref q_air, .ref q_paste, .ref q_open, .int v_holes, .int v_out, .int v_night, .ref q_met, .ref q_line, .int v_inLine]))]) (w1 := [(q_this, .inr (10, [.int v_rows, .int v_columns, .ref q_air, .ref q_paste, .ref q_open, .int v_holes, .int w_30, .int v_night, .ref q_met, .ref q_line, .int v_inLine]))]) hP hD hS hA rfl rfl (va_runV (rm := rm_X10_goesOut) (ws := wsX10_goesOut) (As := [.int t_15]) (rest := []) (gFix hF) (c_X10_goesOut l D c q_this q_air q_paste q_open q_met q_line t_15 v_rows v_columns v_holes v_out v_night v_inLine w_30 hc_29 H.size) (cwV 1 hts gX10_pushOn_X10_goesOut rfl rfl rfl (by decide +kernel) ⟨Nat.le_of_ble_eq_true rfl, Nat.le_of_ble_eq_true rfl⟩) (gPreV (wc := [(q_this, .inr (10, [.int v_rows, .int v_columns, .ref q_air, .ref q_paste, .ref q_open, .int v_holes, .int v_out, .int v_night, .ref q_met, .ref q_line, .int v_inLine]))]) (q := (RX10, TX10, 11)) (ci := 10) (q0 := 0) (isC := [0]) hK hX hS hA hP hD rfl (by decide) rfl rfl) rfl rfl hl.1 rfl (lv_room (Nat.le_of_ble_eq_true rfl)) dX10_pushOn_141 ⟨Nat.le_of_ble_eq_true rfl, Nat.le_of_ble_eq_true rfl⟩) (fun H locs hP hD hS => ?_)
        have hP : va_P D gcl [(q_this, .inr (10, [.int v_rows, .int v_columns, .ref q_air, .ref q_paste, .ref q_open, .int v_holes, .int w_30, .int v_night, .ref q_met, .ref q_line, .int v_inLine])), (q_air, .inl (c 0, 25, .inl w_28)), (q_open, .inl (c 0, 4, .inl v_open)), (q_paste, .inl (c 0, 25, .inl v_paste)), (q_p3, .inr (3, [.ref q_p3_names, .ref q_p3_steps, .int v_p3_length, .ref q_p3_stack, .ref q_p3_answers, .int v_p3_side, .int v_p3_round, .ref q_p3_draft, .int v_p3_drafted, .ref q_p3_held, .int v_p3_holding, .int v_p3_open, .int v_p3_digits, .int v_p3_wantsOperand])), (q_p3_answers, .inl (c 0, n_p3_answers, .inl w_11)), (q_p3_stack, .inl (c 0, 50, .inl w_12)), (q_p3_steps, .inl (c 0, 50, .inl v_p3_steps)), (ta 0, .inr (8, [])), (ta 1, .inr (0, [])), (ta 2, .inr (4, [])), (ta 3, .inr (5, [])), (ta 4, .inr (6, [])), (ta 5, .inr (2, [])), (ta 6, .inr (1, []))] H := hP
        have hD : va_D A [(q_this, .inr (10, [.int v_rows, .int v_columns, .ref q_air, .ref q_paste, .ref q_open, .int v_holes, .int w_30, .int v_night, .ref q_met, .ref q_line, .int v_inLine])), (q_air, .inl (c 0, 25, .inl w_28)), (q_open, .inl (c 0, 4, .inl v_open)), (q_paste, .inl (c 0, 25, .inl v_paste)), (q_p3, .inr (3, [.ref q_p3_names, .ref q_p3_steps, .int v_p3_length, .ref q_p3_stack, .ref q_p3_answers, .int v_p3_side, .int v_p3_round, .ref q_p3_draft, .int v_p3_drafted, .ref q_p3_held, .int v_p3_holding, .int v_p3_open, .int v_p3_digits, .int v_p3_wantsOperand])), (q_p3_answers, .inl (c 0, n_p3_answers, .inl w_11)), (q_p3_stack, .inl (c 0, 50, .inl w_12)), (q_p3_steps, .inl (c 0, 50, .inl v_p3_steps)), (ta 0, .inr (8, [])), (ta 1, .inr (0, [])), (ta 2, .inr (4, [])), (ta 3, .inr (5, [])), (ta 4, .inr (6, [])), (ta 5, .inr (2, [])), (ta 6, .inr (1, []))] := hD
        refine lv_iload hx hb dX10_pushOn_144 (lv_at hl 0 rfl) ?_
        cases h
        exact gIret hF hP hD hS rfl dX10_pushOn_146
    · have h := it_f c_20 h
      refine lv_aload_n hx hb dX10_pushOn_62 rfl (lv_at hl 2 rfl) ?_
      refine va_get (D := D) (ci := 10) (v := .ref q_air) (C := RX10) (T := TX10) (N := 11) hx hb hts in_X10_pushOn_X10 hown hK.1 hP 0 rfl rfl 2 (by decide) (hts (.fieldLink RX10 18 "PaperBubbles$Wall" "air" "[I") (List.mem_of_getElem? (i := 1) rfl)) (fun _ h9 => h9) rfl dX10_pushOn_63 ?_
      refine lv_iload hx hb dX10_pushOn_66 (lv_at hl 0 rfl) ?_
      obtain ⟨hi_31, h⟩ := chi_ok h
      refine va_iald hx hb hK.1 hP 1 0 rfl rfl hi_31 dX10_pushOn_68 ?_
      obtain ⟨t_32, et_32, h⟩ := nm_ok h
      refine gTop et_32 ?_
      refine lv_iload hx hb dX10_pushOn_69 (lv_at hl 1 rfl) ?_
      refine lv_iadd hx hb dX10_pushOn_71 ?_
      obtain ⟨t_33, et_33, h⟩ := nm_ok h
      refine gTop et_33 ?_
      refine lv_istore (lv' := [(8, .int t_33), (7, .int r_17), (6, .int t_15), (0, .ref q_this), (1, .ref (ta k_1.toNatClampNeg)), (2, .int a_2), (3, .ref q_p3), (4, .int a_4), (5, .int a_5)]) hx hb dX10_pushOn_72 hl (by decide) rfl (fun ls hl => ?_)
      refine lv_aload_n hx hb dX10_pushOn_74 rfl (lv_at hl 3 rfl) ?_
      refine va_get (D := D) (ci := 10) (v := .ref q_air) (C := RX10) (T := TX10) (N := 11) hx hb hts in_X10_pushOn_X10 hown hK.1 hP 0 rfl rfl 2 (by decide) (hts (.fieldLink RX10 18 "PaperBubbles$Wall" "air" "[I") (List.mem_of_getElem? (i := 1) rfl)) (fun _ h9 => h9) rfl dX10_pushOn_75 ?_
      refine lv_iload hx hb dX10_pushOn_78 (lv_at hl 7 rfl) ?_
      refine lv_dup2_11 hx hb dX10_pushOn_80 rfl rfl ?_
      obtain ⟨hi_34, h⟩ := chi_ok h
      refine va_iald hx hb hK.1 hP 1 0 rfl rfl hi_34 dX10_pushOn_81 ?_
      obtain ⟨t_35, et_35, h⟩ := nm_ok h
      refine gTop et_35 ?_
      refine lv_iload hx hb dX10_pushOn_82 (lv_at hl 2 rfl) ?_
      refine lv_isub hx hb dX10_pushOn_84 ?_
      obtain ⟨t_36, et_36, h⟩ := nm_ok h
      refine gTop et_36 ?_
      obtain ⟨hi_37, h⟩ := chi_ok h
      obtain ⟨w_38, ew_38, h⟩ := nm_ok h
      refine va_iast hx hb hK.1 hP hD hS 1 0 rfl rfl hi_37 dX10_pushOn_85 (fun H locs hP hD hS => ?_)
      have hP : va_P D gcl [(q_this, .inr (10, [.int v_rows, .int v_columns, .ref q_air, .ref q_paste, .ref q_open, .int v_holes, .int v_out, .int v_night, .ref q_met, .ref q_line, .int v_inLine])), (q_air, .inl (c 0, 25, .inl w_38)), (q_open, .inl (c 0, 4, .inl v_open)), (q_paste, .inl (c 0, 25, .inl v_paste)), (q_p3, .inr (3, [.ref q_p3_names, .ref q_p3_steps, .int v_p3_length, .ref q_p3_stack, .ref q_p3_answers, .int v_p3_side, .int v_p3_round, .ref q_p3_draft, .int v_p3_drafted, .ref q_p3_held, .int v_p3_holding, .int v_p3_open, .int v_p3_digits, .int v_p3_wantsOperand])), (q_p3_answers, .inl (c 0, n_p3_answers, .inl w_11)), (q_p3_stack, .inl (c 0, 50, .inl w_12)), (q_p3_steps, .inl (c 0, 50, .inl v_p3_steps)), (ta 0, .inr (8, [])), (ta 1, .inr (0, [])), (ta 2, .inr (4, [])), (ta 3, .inr (5, [])), (ta 4, .inr (6, [])), (ta 5, .inr (2, [])), (ta 6, .inr (1, []))] H := by subst ew_38; exact hP
      have hD : va_D A [(q_this, .inr (10, [.int v_rows, .int v_columns, .ref q_air, .ref q_paste, .ref q_open, .int v_holes, .int v_out, .int v_night, .ref q_met, .ref q_line, .int v_inLine])), (q_air, .inl (c 0, 25, .inl w_38)), (q_open, .inl (c 0, 4, .inl v_open)), (q_paste, .inl (c 0, 25, .inl v_paste)), (q_p3, .inr (3, [.ref q_p3_names, .ref q_p3_steps, .int v_p3_length, .ref q_p3_stack, .ref q_p3_answers, .int v_p3_side, .int v_p3_round, .ref q_p3_draft, .int v_p3_drafted, .ref q_p3_held, .int v_p3_holding, .int v_p3_open, .int v_p3_digits, .int v_p3_wantsOperand])), (q_p3_answers, .inl (c 0, n_p3_answers, .inl w_11)), (q_p3_stack, .inl (c 0, 50, .inl w_12)), (q_p3_steps, .inl (c 0, 50, .inl v_p3_steps)), (ta 0, .inr (8, [])), (ta 1, .inr (0, [])), (ta 2, .inr (4, [])), (ta 3, .inr (5, [])), (ta 4, .inr (6, [])), (ta 5, .inr (2, [])), (ta 6, .inr (1, []))] := by subst ew_38; exact hD
      refine lv_aload_n hx hb dX10_pushOn_86 rfl (lv_at hl 3 rfl) ?_
      refine va_get (D := D) (ci := 10) (v := .ref q_air) (C := RX10) (T := TX10) (N := 11) hx hb hts in_X10_pushOn_X10 hown hK.1 hP 0 rfl rfl 2 (by decide) (hts (.fieldLink RX10 18 "PaperBubbles$Wall" "air" "[I") (List.mem_of_getElem? (i := 1) rfl)) (fun _ h9 => h9) rfl dX10_pushOn_87 ?_
      refine lv_iload hx hb dX10_pushOn_90 (lv_at hl 1 rfl) ?_
      refine lv_iload hx hb dX10_pushOn_92 (lv_at hl 0 rfl) ?_
      refine lv_bipush (v := 99) hx hb dX10_pushOn_94 (by decide) ?_
      refine va_mmin hx hb (by rw [hml]; exact hl.1.symm) hown (hts (.methodLink RX10 82 Lib.Math.min.name) (List.mem_of_getElem? (i := 3) rfl)) (hts (.static Lib.Math.min.name) (List.mem_of_getElem? (i := 4) rfl)) (hts (.initialized "java/lang/Math") (List.mem_of_getElem? (i := 5) rfl)) (hts (.code Lib.Math.min.name Lib.Math.min.code 2 (some .int)) (List.mem_of_getElem? (i := 6) rfl)) (Nat.le_of_ble_eq_true rfl) (by first | exact Nat.le_of_ble_eq_true rfl | decide) (Nat.le_of_ble_eq_true rfl) (Nat.le_of_ble_eq_true rfl) dX10_pushOn_96 ?_
      obtain ⟨t_39, et_39, h⟩ := nm_ok h
      refine gTop et_39 ?_
      obtain ⟨hi_40, h⟩ := chi_ok h
      obtain ⟨w_41, ew_41, h⟩ := nm_ok h
      refine va_iast hx hb hK.1 hP hD hS 1 0 rfl rfl hi_40 dX10_pushOn_99 (fun H locs hP hD hS => ?_)
      have hP : va_P D gcl [(q_this, .inr (10, [.int v_rows, .int v_columns, .ref q_air, .ref q_paste, .ref q_open, .int v_holes, .int v_out, .int v_night, .ref q_met, .ref q_line, .int v_inLine])), (q_air, .inl (c 0, 25, .inl w_41)), (q_open, .inl (c 0, 4, .inl v_open)), (q_paste, .inl (c 0, 25, .inl v_paste)), (q_p3, .inr (3, [.ref q_p3_names, .ref q_p3_steps, .int v_p3_length, .ref q_p3_stack, .ref q_p3_answers, .int v_p3_side, .int v_p3_round, .ref q_p3_draft, .int v_p3_drafted, .ref q_p3_held, .int v_p3_holding, .int v_p3_open, .int v_p3_digits, .int v_p3_wantsOperand])), (q_p3_answers, .inl (c 0, n_p3_answers, .inl w_11)), (q_p3_stack, .inl (c 0, 50, .inl w_12)), (q_p3_steps, .inl (c 0, 50, .inl v_p3_steps)), (ta 0, .inr (8, [])), (ta 1, .inr (0, [])), (ta 2, .inr (4, [])), (ta 3, .inr (5, [])), (ta 4, .inr (6, [])), (ta 5, .inr (2, [])), (ta 6, .inr (1, []))] H := by subst ew_41; exact hP
      have hD : va_D A [(q_this, .inr (10, [.int v_rows, .int v_columns, .ref q_air, .ref q_paste, .ref q_open, .int v_holes, .int v_out, .int v_night, .ref q_met, .ref q_line, .int v_inLine])), (q_air, .inl (c 0, 25, .inl w_41)), (q_open, .inl (c 0, 4, .inl v_open)), (q_paste, .inl (c 0, 25, .inl v_paste)), (q_p3, .inr (3, [.ref q_p3_names, .ref q_p3_steps, .int v_p3_length, .ref q_p3_stack, .ref q_p3_answers, .int v_p3_side, .int v_p3_round, .ref q_p3_draft, .int v_p3_drafted, .ref q_p3_held, .int v_p3_holding, .int v_p3_open, .int v_p3_digits, .int v_p3_wantsOperand])), (q_p3_answers, .inl (c 0, n_p3_answers, .inl w_11)), (q_p3_stack, .inl (c 0, 50, .inl w_12)), (q_p3_steps, .inl (c 0, 50, .inl v_p3_steps)), (ta 0, .inr (8, [])), (ta 1, .inr (0, [])), (ta 2, .inr (4, [])), (ta 3, .inr (5, [])), (ta 4, .inr (6, [])), (ta 5, .inr (2, [])), (ta 6, .inr (1, []))] := by subst ew_41; exact hD
      refine lv_aload_n hx hb dX10_pushOn_100 rfl (lv_at hl 3 rfl) ?_
      refine lv_iload hx hb dX10_pushOn_101 (lv_at hl 0 rfl) ?_
      refine lv_aload_n hx hb dX10_pushOn_103 rfl (lv_at hl 3 rfl) ?_
      refine va_get (D := D) (ci := 10) (v := .ref q_air) (C := RX10) (T := TX10) (N := 11) hx hb hts in_X10_pushOn_X10 hown hK.1 hP 0 rfl rfl 2 (by decide) (hts (.fieldLink RX10 18 "PaperBubbles$Wall" "air" "[I") (List.mem_of_getElem? (i := 1) rfl)) (fun _ h9 => h9) rfl dX10_pushOn_104 ?_
      refine lv_iload hx hb dX10_pushOn_107 (lv_at hl 1 rfl) ?_
      obtain ⟨hi_42, h⟩ := chi_ok h
      refine va_iald hx hb hK.1 hP 1 0 rfl rfl hi_42 dX10_pushOn_109 ?_
      refine lv_isub hx hb dX10_pushOn_110 ?_
      obtain ⟨t_43, et_43, h⟩ := nm_ok h
      refine gTop et_43 ?_
      obtain ⟨w_45, hc_44, h⟩ := kb_ok h
      refine gCallV (isC := [0]) (wc := [(q_this, .inr (10, [.int v_rows, .int v_columns, .ref q_air, .ref q_paste, .ref q_open, .int v_holes, .int v_out, .int v_night, .ref q_met, .ref q_line, .int v_inLine]))]) (w1 := [(q_this, .inr (10, [.int v_rows, .int v_columns, .ref q_air, .ref q_paste, .ref q_open, .int v_holes, .int w_45, .int v_night, .ref q_met, .ref q_line, .int v_inLine]))]) hP hD hS hA rfl rfl (va_runV (rm := rm_X10_goesOut) (ws := wsX10_goesOut) (As := [.int t_43]) (rest := []) (gFix hF) (c_X10_goesOut l D c q_this q_air q_paste q_open q_met q_line t_43 v_rows v_columns v_holes v_out v_night v_inLine w_45 hc_44 H.size) (cwV 1 hts gX10_pushOn_X10_goesOut rfl rfl rfl (by decide +kernel) ⟨Nat.le_of_ble_eq_true rfl, Nat.le_of_ble_eq_true rfl⟩) (gPreV (wc := [(q_this, .inr (10, [.int v_rows, .int v_columns, .ref q_air, .ref q_paste, .ref q_open, .int v_holes, .int v_out, .int v_night, .ref q_met, .ref q_line, .int v_inLine]))]) (q := (RX10, TX10, 11)) (ci := 10) (q0 := 0) (isC := [0]) hK hX hS hA hP hD rfl (by decide) rfl rfl) rfl rfl hl.1 rfl (lv_room (Nat.le_of_ble_eq_true rfl)) dX10_pushOn_111 ⟨Nat.le_of_ble_eq_true rfl, Nat.le_of_ble_eq_true rfl⟩) (fun H locs hP hD hS => ?_)
      have hP : va_P D gcl [(q_this, .inr (10, [.int v_rows, .int v_columns, .ref q_air, .ref q_paste, .ref q_open, .int v_holes, .int w_45, .int v_night, .ref q_met, .ref q_line, .int v_inLine])), (q_air, .inl (c 0, 25, .inl w_41)), (q_open, .inl (c 0, 4, .inl v_open)), (q_paste, .inl (c 0, 25, .inl v_paste)), (q_p3, .inr (3, [.ref q_p3_names, .ref q_p3_steps, .int v_p3_length, .ref q_p3_stack, .ref q_p3_answers, .int v_p3_side, .int v_p3_round, .ref q_p3_draft, .int v_p3_drafted, .ref q_p3_held, .int v_p3_holding, .int v_p3_open, .int v_p3_digits, .int v_p3_wantsOperand])), (q_p3_answers, .inl (c 0, n_p3_answers, .inl w_11)), (q_p3_stack, .inl (c 0, 50, .inl w_12)), (q_p3_steps, .inl (c 0, 50, .inl v_p3_steps)), (ta 0, .inr (8, [])), (ta 1, .inr (0, [])), (ta 2, .inr (4, [])), (ta 3, .inr (5, [])), (ta 4, .inr (6, [])), (ta 5, .inr (2, [])), (ta 6, .inr (1, []))] H := hP
      have hD : va_D A [(q_this, .inr (10, [.int v_rows, .int v_columns, .ref q_air, .ref q_paste, .ref q_open, .int v_holes, .int w_45, .int v_night, .ref q_met, .ref q_line, .int v_inLine])), (q_air, .inl (c 0, 25, .inl w_41)), (q_open, .inl (c 0, 4, .inl v_open)), (q_paste, .inl (c 0, 25, .inl v_paste)), (q_p3, .inr (3, [.ref q_p3_names, .ref q_p3_steps, .int v_p3_length, .ref q_p3_stack, .ref q_p3_answers, .int v_p3_side, .int v_p3_round, .ref q_p3_draft, .int v_p3_drafted, .ref q_p3_held, .int v_p3_holding, .int v_p3_open, .int v_p3_digits, .int v_p3_wantsOperand])), (q_p3_answers, .inl (c 0, n_p3_answers, .inl w_11)), (q_p3_stack, .inl (c 0, 50, .inl w_12)), (q_p3_steps, .inl (c 0, 50, .inl v_p3_steps)), (ta 0, .inr (8, [])), (ta 1, .inr (0, [])), (ta 2, .inr (4, [])), (ta 3, .inr (5, [])), (ta 4, .inr (6, [])), (ta 5, .inr (2, [])), (ta 6, .inr (1, []))] := hD
      refine lv_goto (tgt := 144) hx hb dX10_pushOn_114 (by decide) ?_
      refine lv_iload hx hb dX10_pushOn_144 (lv_at hl 1 rfl) ?_
      cases h
      exact gIret hF hP hD hS rfl dX10_pushOn_146
