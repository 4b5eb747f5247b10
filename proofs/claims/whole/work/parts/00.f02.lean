def f_X12_told (a_1 : Int32) (v_found : Nat → Int32) : Option (Int32 × (Nat → Int32)) :=
  kb (f_X12_in ((a_1 : Int32).toInt64) 1 5) fun r_2 =>
  if r_2 = 0 then
    kb2 (f_X12_finds 1 v_found) fun r_5 w_6 =>
    some (r_5, w_6)
  else
    chi a_1 6 <|
    nm (v_found a_1.toNatClampNeg : Int32) fun t_8 =>
    some (t_8, v_found)

def f_X12_tool (a_1 : Int32) (v_d : Nat → Int32) (v_found : Nat → Int32) : Option (Int32 × (Nat → Int32) × (Nat → Int32)) :=
  kb (f_X12_in ((a_1 : Int32).toInt64) 0 69) fun r_2 =>
  if r_2 = 0 then
    kb2 (f_X12_finds 1 v_found) fun r_31 w_32 =>
    some (r_31, v_d, w_32)
  else
    chi 2 244 <|
    nm (v_d (2 : Int32).toNatClampNeg : Int32) fun t_5 =>
    if t_5 = 6 then
      kb2 (f_X12_finds 4 v_found) fun r_28 w_29 =>
      some (r_28, v_d, w_29)
    else
      chi 2 244 <|
      nm (60 + (2 * (v_d (2 : Int32).toNatClampNeg)) : Int32) fun t_8 =>
      chz 10 <|
      nm (a_1 / 10 : Int32) fun t_10 =>
      chi t_8 244 <|
      nm (upd v_d t_8.toNatClampNeg t_10) fun w_12 =>
      chi 2 244 <|
      nm (60 + (2 * (w_12 (2 : Int32).toNatClampNeg)) : Int32) fun t_14 =>
      nm (t_14 + 1 : Int32) fun t_15 =>
      chz 10 <|
      nm (a_1 - a_1 / 10 * 10 : Int32) fun t_17 =>
      chi t_15 244 <|
      nm (upd w_12 t_15.toNatClampNeg t_17) fun w_19 =>
      chi 2 244 <|
      nm (w_19 (2 : Int32).toNatClampNeg : Int32) fun t_21 =>
      nm (t_21 + 1 : Int32) fun t_22 =>
      chi 2 244 <|
      nm (upd w_19 (2 : Int32).toNatClampNeg t_22) fun w_24 =>
      chi 2 244 <|
      nm (w_24 (2 : Int32).toNatClampNeg : Int32) fun t_26 =>
      some (t_26 - 1, w_24, v_found)

def f_X12_trace (a_1 : Int32) (v_traceMany : Int32) (v_found : Nat → Int32) (v_traced : Nat → Int32) : Option (Int32 × (Nat → Int32)) :=
  kb (f_X12_in ((a_1 : Int32).toInt64) 0 (((v_traceMany - 1) : Int32).toInt64)) fun r_2 =>
  if r_2 = 0 then
    kb2 (f_X12_finds 2 v_found) fun r_5 w_6 =>
    some (r_5, w_6)
  else
    chi a_1 40 <|
    nm (v_traced a_1.toNatClampNeg : Int32) fun t_8 =>
    some (t_8, v_found)

def f_X12_voice_L20 (v_traceMany : Int32) (v_who : Int32) (v_found : Nat → Int32) (v_traced : Nat → Int32) : Option (Int32 × Int32 × Int32 × (Nat → Int32) × (Nat → Int32)) :=
  kb2 (f_X12_finds 1 v_found) fun r_29 w_30 =>
  some (r_29, v_traceMany, v_who, w_30, v_traced)

def f_X12_voice (a_1 : Int32) (a_2 : Int32) (a_3 : Int32) (v_traceMany : Int32) (v_who : Int32) (v_d : Nat → Int32) (v_found : Nat → Int32) (v_traced : Nat → Int32) : Option (Int32 × Int32 × Int32 × (Nat → Int32) × (Nat → Int32)) :=
  kb (f_X12_isTool a_1 v_d) fun r_2 =>
  if r_2 = 0 then
    f_X12_voice_L20 v_traceMany v_who v_found v_traced
  else
    kb (f_X12_in ((a_2 : Int32).toInt64) 0 3) fun r_5 =>
    if r_5 = 0 then
      f_X12_voice_L20 v_traceMany v_who v_found v_traced
    else
      kb (f_X12_own a_1 v_d) fun r_8 =>
      if a_2 = 0 then
        kb3 (f_X12_movesByN 4 r_8 a_3 0 a_1 v_traced) fun r_25 w_26 w_27 =>
        some (r_25, w_26, a_1, v_found, w_27)
      else
        if a_2 = 1 then
          kb3 (f_X12_letsByN 4 r_8 a_3 0 a_1 v_d v_traced) fun r_21 w_22 w_23 =>
          some (r_21, w_22, a_1, v_found, w_23)
        else
          if a_2 = 2 then
            kb3 (f_X12_tearsByN 4 r_8 a_3 0 a_1 v_d v_traced) fun r_17 w_18 w_19 =>
            some (r_17, w_18, a_1, v_found, w_19)
          else
            kb3 (f_X12_tellsByN 4 r_8 a_3 0 a_1 v_d v_traced) fun r_13 w_14 w_15 =>
            some (r_13, w_14, a_1, v_found, w_15)

def f_X12_wall_L24 (v_d : Nat → Int32) (v_found : Nat → Int32) : Option (Int32 × (Nat → Int32) × (Nat → Int32)) :=
  kb2 (f_X12_finds 1 v_found) fun r_10 w_11 =>
  some (r_10, v_d, w_11)

def f_X12_wall (a_1 : Int32) (a_2 : Int32) (v_d : Nat → Int32) (v_found : Nat → Int32) : Option (Int32 × (Nat → Int32) × (Nat → Int32)) :=
  kb (f_X12_in ((a_1 : Int32).toInt64) 1 5) fun r_2 =>
  if r_2 = 0 then
    f_X12_wall_L24 v_d v_found
  else
    kb (f_X12_in ((a_2 : Int32).toInt64) 1 5) fun r_5 =>
    if r_5 = 0 then
      f_X12_wall_L24 v_d v_found
    else
      kb (f_X12_builds a_1 a_2 v_d) fun w_8 =>
      some (a_1 * a_2, w_8, v_found)

def f_X12_wayOut_L93 (kk_L39 : Int32 → Int32 → Int32 → Int32 → (Nat → Int32) → Option (Int32 × (Nat → Int32))) (v_d : Nat → Int32) (x2 : Int32) (x3 : Int32) (x4 : Int32) (x5 : Int32) (y0 : Int32) (v_found : Nat → Int32) : Option (Int32 × (Nat → Int32)) :=
  kb (f_X12_isOpen x5 v_d) fun r_32 =>
  if r_32 = 0 then
    nm (x5 + 1 : Int32) fun t_34 =>
    kk_L39 x2 x3 x4 t_34 v_found
  else
    if x4 ≤ y0 then
      nm (x5 + 1 : Int32) fun t_36 =>
      kk_L39 x2 x3 x4 t_36 v_found
    else
      nm (x5 + 1 : Int32) fun t_37 =>
      kk_L39 x2 x3 y0 t_37 v_found

def f_X12_wayOut_L39 (v_d : Nat → Int32) : Nat → Int32 → Int32 → Int32 → Int32 → (Nat → Int32) → Option (Int32 × (Nat → Int32))
  | 0, _, _, _, _, _ => none
  | n + 1, x2, x3, x4, x5, v_found =>
    if 4 ≤ x5 then
      if x4 = 99 then
        kb2 (f_X12_finds 2 v_found) fun r_18 w_19 =>
        some (r_18, w_19)
      else
        some (x4, v_found)
    else
      if x5 = 0 then
        f_X12_wayOut_L93 (f_X12_wayOut_L39 v_d n) v_d x2 x3 x4 x5 x2 v_found
      else
        if x5 = 1 then
          chi 1 244 <|
          nm (v_d (1 : Int32).toNatClampNeg : Int32) fun t_28 =>
          nm (t_28 - 1 : Int32) fun t_29 =>
          nm (t_29 - x3 : Int32) fun t_30 =>
          f_X12_wayOut_L93 (f_X12_wayOut_L39 v_d n) v_d x2 x3 x4 x5 t_30 v_found
        else
          if x5 = 2 then
            chi 0 244 <|
            nm (v_d (0 : Int32).toNatClampNeg : Int32) fun t_24 =>
            nm (t_24 - 1 : Int32) fun t_25 =>
            nm (t_25 - x2 : Int32) fun t_26 =>
            f_X12_wayOut_L93 (f_X12_wayOut_L39 v_d n) v_d x2 x3 x4 x5 t_26 v_found
          else
            f_X12_wayOut_L93 (f_X12_wayOut_L39 v_d n) v_d x2 x3 x4 x5 x3 v_found

def f_X12_wayOut (a_1 : Int32) (v_d : Nat → Int32) (v_found : Nat → Int32) : Option (Int32 × (Nat → Int32)) :=
  kb (f_X12_isCell a_1 v_d) fun r_2 =>
  if r_2 = 0 then
    kb2 (f_X12_finds 1 v_found) fun r_13 w_14 =>
    some (r_13, w_14)
  else
    chi 1 244 <|
    nm (v_d (1 : Int32).toNatClampNeg : Int32) fun t_5 =>
    chz t_5 <|
    nm (a_1 / t_5 : Int32) fun t_7 =>
    chi 1 244 <|
    nm (v_d (1 : Int32).toNatClampNeg : Int32) fun t_9 =>
    chz t_9 <|
    nm (a_1 - a_1 / t_9 * t_9 : Int32) fun t_11 =>
    f_X12_wayOut_L39 v_d gFuel t_7 t_11 99 0 v_found
