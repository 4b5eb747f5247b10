def f_J0_coder_7d493 (s_this : Nat) : Option (Int32) :=
  if (1 : Int32) = 0 then
    some 1
  else
    chs s_this <|
    some 0

def f_J0_isLatin1_aae02 (s_this : Nat) : Option (Int32) :=
  if (1 : Int32) = 0 then
    some 0
  else
    chs s_this <|
    if (0 : Int32) = 0 then
      some 1
    else
      some 0

def f_J0_length_8abf5 (s_this : Nat) : Option (Int32) :=
  chs s_this <|
  chs s_this <|
  nm (Int32.ofNat (gLen.getD s_this 0) : Int32) fun t_3 =>
  chs s_this <|
  kb (f_J0_coder_7d493 s_this) fun r_5 =>
  some (t_3 >>> (r_5 &&& 31))

def f_J1_canEncode_9a6ad (a_0 : Int32) : Option (Int32) :=
  if a_0 < 0 then
    some 0
  else
    if 255 < a_0 then
      some 0
    else
      some 1

def f_J1_indexOfChar_4cfef_L7 (a_3 : Int32) (s_this : Nat) : Nat → Int32 → Int32 → Option (Int32)
  | 0, _, _ => none
  | n + 1, x4, x5 =>
    if a_3 ≤ x5 then
      some (-1)
    else
      chs s_this <|
      chi x5 (gLen.getD s_this 0) <|
      nm ((gByt.getD s_this []).getD x5.toNatClampNeg 0 : Int32) fun t_5 =>
      if t_5 = x4 then
        some x5
      else
        nm (x5 + 1 : Int32) fun t_7 =>
        f_J1_indexOfChar_4cfef_L7 a_3 s_this n x4 t_7

def f_J1_indexOfChar_4cfef (a_1 : Int32) (a_2 : Int32) (a_3 : Int32) (s_this : Nat) : Option (Int32) :=
  nm (a_1.toInt8.toInt32 : Int32) fun t_1 =>
  f_J1_indexOfChar_4cfef_L7 a_3 s_this gFuel t_1 a_2

def f_J1_indexOf_4cfef (a_1 : Int32) (a_2 : Int32) (a_3 : Int32) (s_this : Nat) : Option (Int32) :=
  kb (f_J1_canEncode_9a6ad a_1) fun r_2 =>
  if r_2 = 0 then
    some (-1)
  else
    nm (if a_2 < 0 then 0 else a_2 : Int32) fun t_4 =>
    chs s_this <|
    nm (Int32.ofNat (gLen.getD s_this 0) : Int32) fun t_6 =>
    nm (if t_6 < a_3 then t_6 else a_3 : Int32) fun t_7 =>
    if t_4 < t_7 then
      kb (f_J1_indexOfChar_4cfef a_1 t_4 t_7 s_this) fun r_10 =>
      some r_10
    else
      some (-1)

def f_J0_indexOf_7cf53 (a_1 : Int32) (a_2 : Int32) (s_this : Nat) : Option (Int32) :=
  chs s_this <|
  kb (f_J0_isLatin1_aae02 s_this) fun r_2 =>
  if r_2 = 0 then
    chs s_this <|
    chs s_this <|
    kb (f_J0_length_8abf5 s_this) fun r_7 =>
    none
  else
    chs s_this <|
    chs s_this <|
    kb (f_J0_length_8abf5 s_this) fun r_11 =>
    kb (f_J1_indexOf_4cfef a_1 a_2 r_11 s_this) fun r_14 =>
    some r_14

def f_J0_indexOf_0f7a4 (a_1 : Int32) (s_this : Nat) : Option (Int32) :=
  chs s_this <|
  kb (f_J0_indexOf_7cf53 a_1 0 s_this) fun r_2 =>
  some r_2

def f_J7_fill_53178_L5 (a_1 : Int32) (n_this : Nat) : Nat → Int32 → Int32 → (Nat → Int32) → Option ((Nat → Int32))
  | 0, _, _, _ => none
  | n + 1, x2, x3, v_this =>
    if x3 ≤ x2 then
      some v_this
    else
      chi x2 n_this <|
      nm (upd v_this x2.toNatClampNeg a_1) fun w_4 =>
      nm (x2 + 1 : Int32) fun t_5 =>
      f_J7_fill_53178_L5 a_1 n_this n t_5 x3 w_4

def f_J7_fill_53178 (a_1 : Int32) (n_this : Nat) (v_this : Nat → Int32) : Option ((Nat → Int32)) :=
  nm (nI n_this : Int32) fun t_1 =>
  f_J7_fill_53178_L5 a_1 n_this gFuel 0 t_1 v_this

def f_X8_isA_X0 (a_1 : Int32) : Option (Int32) :=
  if a_1 = 0 then
    some 1
  else
    some 0

def f_X0_isA_X0 (a_1 : Int32) : Option (Int32) :=
  if a_1 = 1 then
    some 1
  else
    kb (f_X8_isA_X0 a_1) fun r_3 =>
    if r_3 = 0 then
      some 0
    else
      some 1

def f_X8_isA_X6 (a_1 : Int32) : Option (Int32) :=
  if a_1 = 0 then
    some 1
  else
    some 0

def f_X0_isA_X6 (a_1 : Int32) : Option (Int32) :=
  if a_1 = 1 then
    some 1
  else
    kb (f_X8_isA_X6 a_1) fun r_3 =>
    if r_3 = 0 then
      some 0
    else
      some 1

def f_X0_moves (a_1 : Int32) (a_2 : Int32) (a_3 : Int32) : Option (Int32) :=
  some (a_2 + 1)

def f_X9_begin (a_1 : Int32) (v_length : Int32) (v_bodies : Nat → Int32) : Option (Int32 × (Nat → Int32)) :=
  if v_length < 0 then
    some (v_length, v_bodies)
  else
    if 40 ≤ v_length then
      some (v_length, v_bodies)
    else
      chi v_length 40 <|
      nm (upd v_bodies v_length.toNatClampNeg a_1) fun w_4 =>
      nm (v_length + 1 : Int32) fun t_5 =>
      some (t_5, w_4)

def f_X8_sayMoves_X0 (a_1 : Int32) (v_p2_n : Int32) (v_p2_m : Int32) (v_p2_length : Int32) (v_p2_bodies : Nat → Int32) : Option (Int32 × Int32 × (Nat → Int32)) :=
  kb2 (f_X9_begin 10 v_p2_length v_p2_bodies) fun w_2 w_3 =>
  some (a_1 + v_p2_n, w_2, w_3)

def f_X0_sayMoves_X0 (a_1 : Int32) (v_p2_n : Int32) (v_p2_m : Int32) (v_p2_length : Int32) (v_p2_bodies : Nat → Int32) : Option (Int32 × Int32 × (Nat → Int32)) :=
  kb2 (f_X9_begin 20 v_p2_length v_p2_bodies) fun w_2 w_3 =>
  kb3 (f_X8_sayMoves_X0 a_1 v_p2_n v_p2_m w_2 w_3) fun r_5 w_6 w_7 =>
  some (r_5 * 3, w_6, w_7)

def f_X8_sayMoves_X6 (a_1 : Int32) (v_p2_n : Int32) (v_p2_m : Int32) (v_p2_length : Int32) (v_p2_bodies : Nat → Int32) : Option (Int32 × Int32 × (Nat → Int32)) :=
  kb2 (f_X9_begin 10 v_p2_length v_p2_bodies) fun w_2 w_3 =>
  some (a_1 + v_p2_n, w_2, w_3)

def f_X0_sayMoves_X6 (a_1 : Int32) (v_p2_n : Int32) (v_p2_m : Int32) (v_p2_length : Int32) (v_p2_bodies : Nat → Int32) : Option (Int32 × Int32 × (Nat → Int32)) :=
  kb2 (f_X9_begin 20 v_p2_length v_p2_bodies) fun w_2 w_3 =>
  kb3 (f_X8_sayMoves_X6 a_1 v_p2_n v_p2_m w_2 w_3) fun r_5 w_6 w_7 =>
  some (r_5 * 3, w_6, w_7)

def f_X10_airAs (v_air : Nat → Int32) (v_p1_air : Nat → Int32) : Option ((Nat → Int32)) :=
  chc 0 0 25 25 25 <|
  nm (va_cpy v_p1_air v_air (0 : Int32).toNatClampNeg (0 : Int32).toNatClampNeg (25 : Int32).toNatClampNeg) fun w_6 =>
  some w_6

def f_X10_has (a_1 : Int32) (v_rows : Int32) (v_columns : Int32) : Option (Int32) :=
  if a_1 < 0 then
    some 0
  else
    if (v_rows * v_columns) ≤ a_1 then
      some 0
    else
      if 25 ≤ a_1 then
        some 0
      else
        some 1

def f_X10_allAir_L4 (v_rows : Int32) (v_columns : Int32) (v_air : Nat → Int32) : Nat → Int32 → Int32 → Option (Int32)
  | 0, _, _ => none
  | n + 1, x1, x2 =>
    if 25 ≤ x2 then
      some x1
    else
      kb (f_X10_has x2 v_rows v_columns) fun r_3 =>
      if r_3 = 0 then
        some x1
      else
        chi x2 25 <|
        nm (x1 + (v_air x2.toNatClampNeg) : Int32) fun t_6 =>
        nm (x2 + 1 : Int32) fun t_7 =>
        f_X10_allAir_L4 v_rows v_columns v_air n t_6 t_7

def f_X10_allAir (v_rows : Int32) (v_columns : Int32) (v_air : Nat → Int32) : Option (Int32) :=
  f_X10_allAir_L4 v_rows v_columns v_air gFuel 0 0

def f_X10_columnOf (a_1 : Int32) (v_columns : Int32) : Option (Int32) :=
  if v_columns ≤ 0 then
    some 0
  else
    chz v_columns <|
    nm (a_1 - a_1 / v_columns * v_columns : Int32) fun t_3 =>
    some t_3

def f_X10_rowOf (a_1 : Int32) (v_columns : Int32) : Option (Int32) :=
  if v_columns ≤ 0 then
    some 0
  else
    chz v_columns <|
    nm (a_1 / v_columns : Int32) fun t_3 =>
    some t_3

def f_X10_cellsAhead (a_1 : Int32) (a_2 : Int32) (v_rows : Int32) (v_columns : Int32) : Option (Int32) :=
  if a_2 = 0 then
    kb (f_X10_rowOf a_1 v_columns) fun r_3 =>
    some r_3
  else
    if a_2 = 1 then
      nm (v_columns - 1 : Int32) fun t_5 =>
      kb (f_X10_columnOf a_1 v_columns) fun r_7 =>
      some (t_5 - r_7)
    else
      if a_2 = 2 then
        nm (v_rows - 1 : Int32) fun t_9 =>
        kb (f_X10_rowOf a_1 v_columns) fun r_11 =>
        some (t_9 - r_11)
      else
        kb (f_X10_columnOf a_1 v_columns) fun r_13 =>
        some r_13

def f_X10_beside (a_1 : Int32) (a_2 : Int32) (v_rows : Int32) (v_columns : Int32) : Option (Int32) :=
  kb (f_X10_cellsAhead a_1 a_2 v_rows v_columns) fun r_2 =>
  if 0 < r_2 then
    if a_2 = 0 then
      some (a_1 - v_columns)
    else
      if a_2 = 1 then
        some (a_1 + 1)
      else
        if a_2 = 2 then
          some (a_1 + v_columns)
        else
          some (a_1 - 1)
  else
    some (-1)

def f_X10_meet (a_1 : Int32) (v_rows : Int32) (v_columns : Int32) (v_inLine : Int32) (v_air : Nat → Int32) (v_line : Nat → Int32) (v_met : Nat → Int32) : Option (Int32 × (Nat → Int32) × (Nat → Int32)) :=
  kb (f_X10_has a_1 v_rows v_columns) fun r_2 =>
  if r_2 = 0 then
    some (v_inLine, v_line, v_met)
  else
    chi a_1 25 <|
    if (v_air a_1.toNatClampNeg) ≤ 0 then
      some (v_inLine, v_line, v_met)
    else
      chi a_1 25 <|
      if (v_met a_1.toNatClampNeg) = 0 then
        if 25 ≤ v_inLine then
          some (v_inLine, v_line, v_met)
        else
          chi a_1 25 <|
          nm (upd v_met a_1.toNatClampNeg 1) fun w_10 =>
          chi v_inLine 25 <|
          nm (upd v_line v_inLine.toNatClampNeg a_1) fun w_12 =>
          nm (v_inLine + 1 : Int32) fun t_13 =>
          some (t_13, w_12, w_10)
      else
        some (v_inLine, v_line, v_met)

def f_X10_meetBubble_L45 (kk_L14 : Int32 → Int32 → Int32 → (Nat → Int32) → (Nat → Int32) → Option (Int32 × Int32 × (Nat → Int32) × (Nat → Int32))) (v_rows : Int32) (v_columns : Int32) (v_air : Nat → Int32) : Nat → Int32 → Int32 → Int32 → Int32 → (Nat → Int32) → (Nat → Int32) → Option (Int32 × Int32 × (Nat → Int32) × (Nat → Int32))
  | 0, _, _, _, _, _, _ => none
  | n + 1, x2, x3, x4, v_inLine, v_line, v_met =>
    if 4 ≤ x4 then
      nm (x3 + 1 : Int32) fun t_12 =>
      kk_L14 x2 t_12 v_inLine v_line v_met
    else
      chi x3 25 <|
      nm (v_line x3.toNatClampNeg : Int32) fun t_14 =>
      kb (f_X10_beside t_14 x4 v_rows v_columns) fun r_16 =>
      kb3 (f_X10_meet r_16 v_rows v_columns v_inLine v_air v_line v_met) fun w_18 w_19 w_20 =>
      nm (x4 + 1 : Int32) fun t_21 =>
      f_X10_meetBubble_L45 kk_L14 v_rows v_columns v_air n x2 x3 t_21 w_18 w_19 w_20

def f_X10_meetBubble_L14 (v_rows : Int32) (v_columns : Int32) (v_air : Nat → Int32) : Nat → Int32 → Int32 → Int32 → (Nat → Int32) → (Nat → Int32) → Option (Int32 × Int32 × (Nat → Int32) × (Nat → Int32))
  | 0, _, _, _, _, _ => none
  | n + 1, x2, x3, v_inLine, v_line, v_met =>
    if v_inLine ≤ x3 then
      some (x2, v_inLine, v_line, v_met)
    else
      if 25 ≤ x3 then
        some (x2, v_inLine, v_line, v_met)
      else
        chi x3 25 <|
        nm (v_line x3.toNatClampNeg : Int32) fun t_8 =>
        chi t_8 25 <|
        nm (x2 + (v_air t_8.toNatClampNeg) : Int32) fun t_10 =>
        f_X10_meetBubble_L45 (f_X10_meetBubble_L14 v_rows v_columns v_air n) v_rows v_columns v_air gFuel t_10 x3 0 v_inLine v_line v_met

def f_X10_meetBubble (a_1 : Int32) (v_rows : Int32) (v_columns : Int32) (v_inLine : Int32) (v_air : Nat → Int32) (v_line : Nat → Int32) (v_met : Nat → Int32) : Option (Int32 × Int32 × (Nat → Int32) × (Nat → Int32)) :=
  kb3 (f_X10_meet a_1 v_rows v_columns 0 v_air v_line v_met) fun w_2 w_3 w_4 =>
  f_X10_meetBubble_L14 v_rows v_columns v_air gFuel 0 0 w_2 w_3 w_4

def f_X10_cellOfBiggest_L14 (v_rows : Int32) (v_columns : Int32) (v_air : Nat → Int32) : Nat → Int32 → Int32 → Int32 → Int32 → (Nat → Int32) → (Nat → Int32) → Option (Int32 × Int32 × (Nat → Int32) × (Nat → Int32))
  | 0, _, _, _, _, _, _ => none
  | n + 1, x1, x2, x3, v_inLine, v_line, v_met =>
    if 25 ≤ x3 then
      some (x2, v_inLine, v_line, v_met)
    else
      kb (f_X10_has x3 v_rows v_columns) fun r_5 =>
      if r_5 = 0 then
        some (x2, v_inLine, v_line, v_met)
      else
        kb4 (f_X10_meetBubble x3 v_rows v_columns v_inLine v_air v_line v_met) fun r_8 w_9 w_10 w_11 =>
        if r_8 ≤ x1 then
          nm (x3 + 1 : Int32) fun t_13 =>
          f_X10_cellOfBiggest_L14 v_rows v_columns v_air n x1 x2 t_13 w_9 w_10 w_11
        else
          nm (x3 + 1 : Int32) fun t_14 =>
          f_X10_cellOfBiggest_L14 v_rows v_columns v_air n r_8 x3 t_14 w_9 w_10 w_11

def f_X10_cellOfBiggest (v_rows : Int32) (v_columns : Int32) (v_inLine : Int32) (v_air : Nat → Int32) (v_line : Nat → Int32) (v_met : Nat → Int32) : Option (Int32 × Int32 × (Nat → Int32) × (Nat → Int32)) :=
  kb (f_J7_fill_53178 0 25 v_met) fun w_2 =>
  f_X10_cellOfBiggest_L14 v_rows v_columns v_air gFuel 0 (-1) 0 v_inLine v_line w_2

def f_X10_cells (v_rows : Int32) (v_columns : Int32) : Option (Int32) :=
  some (v_rows * v_columns)

def f_X10_cellsWithAir_L4 (v_rows : Int32) (v_columns : Int32) (v_air : Nat → Int32) : Nat → Int32 → Int32 → Option (Int32)
  | 0, _, _ => none
  | n + 1, x1, x2 =>
    if 25 ≤ x2 then
      some x1
    else
      kb (f_X10_has x2 v_rows v_columns) fun r_3 =>
      if r_3 = 0 then
        some x1
      else
        chi x2 25 <|
        if (v_air x2.toNatClampNeg) ≤ 0 then
          nm (x2 + 1 : Int32) fun t_7 =>
          f_X10_cellsWithAir_L4 v_rows v_columns v_air n x1 t_7
        else
          nm (x1 + 1 : Int32) fun t_8 =>
          nm (x2 + 1 : Int32) fun t_9 =>
          f_X10_cellsWithAir_L4 v_rows v_columns v_air n t_8 t_9

def f_X10_cellsWithAir (v_rows : Int32) (v_columns : Int32) (v_air : Nat → Int32) : Option (Int32) :=
  f_X10_cellsWithAir_L4 v_rows v_columns v_air gFuel 0 0

def f_X10_copy (v_rows : Int32) (v_columns : Int32) (v_holes : Int32) (v_out : Int32) (v_night : Int32) (v_air : Nat → Int32) (v_open : Nat → Int32) (v_paste : Nat → Int32) (v_p1_rows : Int32) (v_p1_columns : Int32) (v_p1_holes : Int32) (v_p1_out : Int32) (v_p1_night : Int32) (v_p1_air : Nat → Int32) (v_p1_open : Nat → Int32) (v_p1_paste : Nat → Int32) : Option (Int32 × Int32 × Int32 × Int32 × Int32 × (Nat → Int32) × (Nat → Int32) × (Nat → Int32)) :=
  kb (f_X10_airAs v_air v_p1_air) fun w_2 =>
  chc 0 0 25 25 25 <|
  nm (va_cpy v_p1_paste v_paste (0 : Int32).toNatClampNeg (0 : Int32).toNatClampNeg (25 : Int32).toNatClampNeg) fun w_8 =>
  chc 0 0 4 4 4 <|
  nm (va_cpy v_p1_open v_open (0 : Int32).toNatClampNeg (0 : Int32).toNatClampNeg (4 : Int32).toNatClampNeg) fun w_14 =>
  some (v_p1_rows, v_p1_columns, v_p1_holes, v_p1_out, v_p1_night, w_2, w_14, w_8)

def f_X10_countBubbles_L12 (v_rows : Int32) (v_columns : Int32) (v_air : Nat → Int32) : Nat → Int32 → Int32 → Int32 → (Nat → Int32) → (Nat → Int32) → Option (Int32 × Int32 × (Nat → Int32) × (Nat → Int32))
  | 0, _, _, _, _, _ => none
  | n + 1, x1, x2, v_inLine, v_line, v_met =>
    if 25 ≤ x2 then
      some (x1, v_inLine, v_line, v_met)
    else
      kb (f_X10_has x2 v_rows v_columns) fun r_5 =>
      if r_5 = 0 then
        some (x1, v_inLine, v_line, v_met)
      else
        kb4 (f_X10_meetBubble x2 v_rows v_columns v_inLine v_air v_line v_met) fun r_8 w_9 w_10 w_11 =>
        if r_8 ≤ 0 then
          nm (x2 + 1 : Int32) fun t_13 =>
          f_X10_countBubbles_L12 v_rows v_columns v_air n x1 t_13 w_9 w_10 w_11
        else
          nm (x1 + 1 : Int32) fun t_14 =>
          nm (x2 + 1 : Int32) fun t_15 =>
          f_X10_countBubbles_L12 v_rows v_columns v_air n t_14 t_15 w_9 w_10 w_11

def f_X10_countBubbles (v_rows : Int32) (v_columns : Int32) (v_inLine : Int32) (v_air : Nat → Int32) (v_line : Nat → Int32) (v_met : Nat → Int32) : Option (Int32 × Int32 × (Nat → Int32) × (Nat → Int32)) :=
  kb (f_J7_fill_53178 0 25 v_met) fun w_2 =>
  f_X10_countBubbles_L12 v_rows v_columns v_air gFuel 0 0 v_inLine v_line w_2

def f_X10_goesOut (a_1 : Int32) (v_out : Int32) : Option (Int32) :=
  nm (v_out + a_1 : Int32) fun t_1 =>
  nm (if t_1 < 99999 then t_1 else 99999 : Int32) fun t_2 =>
  some t_2

def f_X10_isLit_L54 (a_1 : Int32) (v_air : Nat → Int32) : Option (Int32) :=
  chi a_1 25 <|
  if (v_air a_1.toNatClampNeg) ≤ 0 then
    some 0
  else
    some 1

def f_X10_isLit_L10 (a_1 : Int32) (a_2 : Int32) (v_rows : Int32) (v_columns : Int32) (v_air : Nat → Int32) : Nat → Int32 → Int32 → Option (Int32)
  | 0, _, _ => none
  | n + 1, x3, x4 =>
    if 5 ≤ x4 then
      f_X10_isLit_L54 a_1 v_air
    else
      kb (f_X10_has x3 v_rows v_columns) fun r_5 =>
      if r_5 = 0 then
        f_X10_isLit_L54 a_1 v_air
      else
        chi x3 25 <|
        nm (v_air x3.toNatClampNeg : Int32) fun t_8 =>
        chi a_1 25 <|
        if t_8 < (v_air a_1.toNatClampNeg) then
          kb (f_X10_beside x3 a_2 v_rows v_columns) fun r_12 =>
          nm (x4 + 1 : Int32) fun t_13 =>
          f_X10_isLit_L10 a_1 a_2 v_rows v_columns v_air n r_12 t_13
        else
          some 0

def f_X10_isLit (a_1 : Int32) (a_2 : Int32) (v_rows : Int32) (v_columns : Int32) (v_air : Nat → Int32) : Option (Int32) :=
  kb (f_X10_beside a_1 a_2 v_rows v_columns) fun r_2 =>
  f_X10_isLit_L10 a_1 a_2 v_rows v_columns v_air gFuel r_2 0

def f_X11_within (a_0 : Int32) (a_1 : Int32) (a_2 : Int32) : Option (Int32) :=
  if a_0 < a_1 then
    some 0
  else
    if a_2 < a_0 then
      some 0
    else
      some 1

def f_X11_isWay (a_0 : Int32) : Option (Int32) :=
  kb (f_X11_within a_0 0 3) fun r_2 =>
  chb r_2 <|
  some r_2

def f_X10_isOpen (a_1 : Int32) (v_open : Nat → Int32) : Option (Int32) :=
  kb (f_X11_isWay a_1) fun r_2 =>
  if r_2 = 0 then
    some 0
  else
    chi a_1 4 <|
    nm (v_open a_1.toNatClampNeg : Int32) fun t_5 =>
    if t_5 = 1 then
      some 1
    else
      some 0

def f_X10_lay (a_1 : Int32) (a_2 : Int32) (v_rows : Int32) (v_columns : Int32) (v_air : Nat → Int32) (v_paste : Nat → Int32) : Option (Int32 × Int32 × (Nat → Int32) × (Nat → Int32)) :=
  kb (f_J7_fill_53178 0 25 v_air) fun w_2 =>
  kb (f_J7_fill_53178 5 25 v_paste) fun w_4 =>
  some (a_1, a_2, w_2, w_4)

def f_X10_openBits_L4 (v_open : Nat → Int32) : Nat → Int32 → Int32 → Option (Int32)
  | 0, _, _ => none
  | n + 1, x1, x2 =>
    if 4 ≤ x2 then
      some x1
    else
      chi x2 4 <|
      nm (v_open x2.toNatClampNeg : Int32) fun t_3 =>
      nm (x1 ||| (t_3 <<< (x2 &&& 31)) : Int32) fun t_4 =>
      nm (x2 + 1 : Int32) fun t_5 =>
      f_X10_openBits_L4 v_open n t_4 t_5

def f_X10_openBits (v_open : Nat → Int32) : Option (Int32) :=
  f_X10_openBits_L4 v_open gFuel 0 0

def f_X10_passNight_L63 (v_night : Int32) (v_air : Nat → Int32) (v_paste : Nat → Int32) : Option (Int32 × (Nat → Int32) × (Nat → Int32)) :=
  nm (v_night + 1 : Int32) fun t_19 =>
  some (t_19, v_air, v_paste)

def f_X10_passNight_L2 (v_rows : Int32) (v_columns : Int32) : Nat → Int32 → Int32 → (Nat → Int32) → (Nat → Int32) → Option (Int32 × (Nat → Int32) × (Nat → Int32))
  | 0, _, _, _, _ => none
  | n + 1, x1, v_night, v_air, v_paste =>
    if 25 ≤ x1 then
      f_X10_passNight_L63 v_night v_air v_paste
    else
      kb (f_X10_has x1 v_rows v_columns) fun r_3 =>
      if r_3 = 0 then
        f_X10_passNight_L63 v_night v_air v_paste
      else
        chi x1 25 <|
        nm (v_air x1.toNatClampNeg : Int32) fun t_6 =>
        chi x1 25 <|
        nm (t_6 - (v_paste x1.toNatClampNeg) : Int32) fun t_8 =>
        nm (if 0 < t_8 then t_8 else 0 : Int32) fun t_9 =>
        chi x1 25 <|
        nm (upd v_air x1.toNatClampNeg t_9) fun w_11 =>
        chi x1 25 <|
        nm (v_paste x1.toNatClampNeg : Int32) fun t_13 =>
        nm (t_13 - 1 : Int32) fun t_14 =>
        nm (if 0 < t_14 then t_14 else 0 : Int32) fun t_15 =>
        chi x1 25 <|
        nm (upd v_paste x1.toNatClampNeg t_15) fun w_17 =>
        nm (x1 + 1 : Int32) fun t_18 =>
        f_X10_passNight_L2 v_rows v_columns n t_18 v_night w_11 w_17

def f_X10_passNight (v_rows : Int32) (v_columns : Int32) (v_night : Int32) (v_air : Nat → Int32) (v_paste : Nat → Int32) : Option (Int32 × (Nat → Int32) × (Nat → Int32)) :=
  f_X10_passNight_L2 v_rows v_columns gFuel 0 v_night v_air v_paste

def f_X3_placeOf (a_1 : Int32) (a_2 : Int32) (a_3 : Int32) (v_side : Int32) : Option (Int32) :=
  kb (f_X11_within a_1 0 99) fun r_2 =>
  if r_2 = 0 then
    some (-1)
  else
    nm (v_side - 1 : Int32) fun t_4 =>
    kb (f_X11_within a_2 0 t_4) fun r_6 =>
    if r_6 = 0 then
      some (-1)
    else
      nm (v_side - 1 : Int32) fun t_8 =>
      kb (f_X11_within a_3 0 t_8) fun r_10 =>
      if r_10 = 0 then
        some (-1)
      else
        nm (a_1 * v_side : Int32) fun t_12 =>
        nm (t_12 + a_2 : Int32) fun t_13 =>
        nm (t_13 * v_side : Int32) fun t_14 =>
        some (t_14 + a_3)

def f_X3_joined_L203 (a_1 : Int32) (a_2 : Int32) : Option (Int32) :=
  if a_1 = 0 then
    if a_2 = 0 then
      some 0
    else
      some 1
  else
    some 1

def f_X3_joined (a_0 : Int32) (a_1 : Int32) (a_2 : Int32) : Option (Int32) :=
  if a_0 = 37 then
    if a_2 = 0 then
      some 0
    else
      chz a_2 <|
      some (a_1 - a_1 / a_2 * a_2)
  else
    if a_0 = 38 then
      if a_1 = 0 then
        some 0
      else
        if a_2 = 0 then
          some 0
        else
          some 1
    else
      if a_0 = 39 then
        f_X3_joined_L203 a_1 a_2
      else
        if a_0 = 40 then
          f_X3_joined_L203 a_1 a_2
        else
          if a_0 = 41 then
            f_X3_joined_L203 a_1 a_2
          else
            if a_0 = 42 then
              some (a_1 * a_2)
            else
              if a_0 = 43 then
                some (a_1 + a_2)
              else
                if a_0 = 44 then
                  f_X3_joined_L203 a_1 a_2
                else
                  if a_0 = 45 then
                    some (a_1 - a_2)
                  else
                    if a_0 = 46 then
                      f_X3_joined_L203 a_1 a_2
                    else
                      if a_0 = 47 then
                        if a_2 = 0 then
                          some 0
                        else
                          chz a_2 <|
                          some (a_1 / a_2)
                      else
                        if a_0 = 48 then
                          f_X3_joined_L203 a_1 a_2
                        else
                          if a_0 = 49 then
                            f_X3_joined_L203 a_1 a_2
                          else
                            if a_0 = 50 then
                              f_X3_joined_L203 a_1 a_2
                            else
                              if a_0 = 51 then
                                f_X3_joined_L203 a_1 a_2
                              else
                                if a_0 = 52 then
                                  f_X3_joined_L203 a_1 a_2
                                else
                                  if a_0 = 53 then
                                    f_X3_joined_L203 a_1 a_2
                                  else
                                    if a_0 = 54 then
                                      f_X3_joined_L203 a_1 a_2
                                    else
                                      if a_0 = 55 then
                                        f_X3_joined_L203 a_1 a_2
                                      else
                                        if a_0 = 56 then
                                          f_X3_joined_L203 a_1 a_2
                                        else
                                          if a_0 = 57 then
                                            f_X3_joined_L203 a_1 a_2
                                          else
                                            if a_0 = 58 then
                                              f_X3_joined_L203 a_1 a_2
                                            else
                                              if a_0 = 59 then
                                                f_X3_joined_L203 a_1 a_2
                                              else
                                                if a_0 = 60 then
                                                  if a_2 ≤ a_1 then
                                                    some 0
                                                  else
                                                    some 1
                                                else
                                                  if a_0 = 61 then
                                                    if a_1 = a_2 then
                                                      some 1
                                                    else
                                                      some 0
                                                  else
                                                    if a_0 = 62 then
                                                      if a_1 ≤ a_2 then
                                                        some 0
                                                      else
                                                        some 1
                                                    else
                                                      f_X3_joined_L203 a_1 a_2

def f_X3_named (a_0 : Int32) (a_1 : Int32) (a_2 : Int32) (a_3 : Int32) : Option (Int32) :=
  if a_0 = (-1) then
    some a_1
  else
    if a_0 = (-2) then
      some a_2
    else
      some a_3

def f_X3_worksOut_L163 (v_stack : Nat → Int32) : Option (Int32 × (Nat → Int32)) :=
  chi 0 50 <|
  nm (v_stack (0 : Int32).toNatClampNeg : Int32) fun t_19 =>
  nm (if t_19 < 99 then t_19 else 99 : Int32) fun t_20 =>
  nm (if 0 < t_20 then t_20 else 0 : Int32) fun t_21 =>
  some (t_21, v_stack)

def f_X3_worksOut_L117 (kk_L6 : Int32 → Int32 → (Nat → Int32) → Option (Int32 × (Nat → Int32))) (a_1 : Int32) (a_2 : Int32) (a_3 : Int32) (v_length : Int32) (v_steps : Nat → Int32) (x4 : Int32) (x5 : Int32) (x6 : Int32) (v_stack : Nat → Int32) : Option (Int32 × (Nat → Int32)) :=
  if x4 ≤ 1 then
    nm (x5 + 1 : Int32) fun t_35 =>
    kk_L6 x4 t_35 v_stack
  else
    nm (x4 + (-1) : Int32) fun t_36 =>
    nm (t_36 - 1 : Int32) fun t_37 =>
    nm (-x6 : Int32) fun t_38 =>
    nm (t_36 - 1 : Int32) fun t_39 =>
    chi t_39 50 <|
    nm (v_stack t_39.toNatClampNeg : Int32) fun t_41 =>
    chi t_36 50 <|
    nm (v_stack t_36.toNatClampNeg : Int32) fun t_43 =>
    kb (f_X3_joined t_38 t_41 t_43) fun r_45 =>
    chi t_37 50 <|
    nm (upd v_stack t_37.toNatClampNeg r_45) fun w_47 =>
    nm (x5 + 1 : Int32) fun t_48 =>
    kk_L6 t_36 t_48 w_47

def f_X3_worksOut_L76 (kk_L6 : Int32 → Int32 → (Nat → Int32) → Option (Int32 × (Nat → Int32))) (a_1 : Int32) (a_2 : Int32) (a_3 : Int32) (v_length : Int32) (v_steps : Nat → Int32) (x4 : Int32) (x5 : Int32) (x6 : Int32) (v_stack : Nat → Int32) : Option (Int32 × (Nat → Int32)) :=
  if x6 = (-33) then
    if x4 ≤ 0 then
      f_X3_worksOut_L117 kk_L6 a_1 a_2 a_3 v_length v_steps x4 x5 x6 v_stack
    else
      nm (x4 - 1 : Int32) fun t_24 =>
      nm (x4 - 1 : Int32) fun t_25 =>
      chi t_25 50 <|
      if (v_stack t_25.toNatClampNeg) = 0 then
        chi t_24 50 <|
        nm (upd v_stack t_24.toNatClampNeg 1) fun w_32 =>
        nm (x5 + 1 : Int32) fun t_33 =>
        kk_L6 x4 t_33 w_32
      else
        chi t_24 50 <|
        nm (upd v_stack t_24.toNatClampNeg 0) fun w_29 =>
        nm (x5 + 1 : Int32) fun t_30 =>
        kk_L6 x4 t_30 w_29
  else
    f_X3_worksOut_L117 kk_L6 a_1 a_2 a_3 v_length v_steps x4 x5 x6 v_stack

def f_X3_worksOut_L6 (a_1 : Int32) (a_2 : Int32) (a_3 : Int32) (v_length : Int32) (v_steps : Nat → Int32) : Nat → Int32 → Int32 → (Nat → Int32) → Option (Int32 × (Nat → Int32))
  | 0, _, _, _ => none
  | n + 1, x4, x5, v_stack =>
    if v_length ≤ x5 then
      f_X3_worksOut_L163 v_stack
    else
      if 50 ≤ x5 then
        f_X3_worksOut_L163 v_stack
      else
        chi x5 50 <|
        nm (v_steps x5.toNatClampNeg : Int32) fun t_4 =>
        if t_4 < (-3) then
          f_X3_worksOut_L76 (f_X3_worksOut_L6 a_1 a_2 a_3 v_length v_steps n) a_1 a_2 a_3 v_length v_steps x4 x5 t_4 v_stack
        else
          if 50 ≤ x4 then
            f_X3_worksOut_L76 (f_X3_worksOut_L6 a_1 a_2 a_3 v_length v_steps n) a_1 a_2 a_3 v_length v_steps x4 x5 t_4 v_stack
          else
            if t_4 < 0 then
              kb (f_X3_named t_4 a_1 a_2 a_3) fun r_9 =>
              chi x4 50 <|
              nm (upd v_stack x4.toNatClampNeg r_9) fun w_11 =>
              nm (x4 + 1 : Int32) fun t_12 =>
              nm (x5 + 1 : Int32) fun t_13 =>
              f_X3_worksOut_L6 a_1 a_2 a_3 v_length v_steps n t_12 t_13 w_11
            else
              chi x4 50 <|
              nm (upd v_stack x4.toNatClampNeg t_4) fun w_15 =>
              nm (x4 + 1 : Int32) fun t_16 =>
              nm (x5 + 1 : Int32) fun t_17 =>
              f_X3_worksOut_L6 a_1 a_2 a_3 v_length v_steps n t_16 t_17 w_15

def f_X3_worksOut (a_1 : Int32) (a_2 : Int32) (a_3 : Int32) (v_length : Int32) (v_stack : Nat → Int32) (v_steps : Nat → Int32) : Option (Int32 × (Nat → Int32)) :=
  f_X3_worksOut_L6 a_1 a_2 a_3 v_length v_steps gFuel 0 0 v_stack

def f_X3_gives_L24 (a_1 : Int32) (a_2 : Int32) (a_3 : Int32) (v_length : Int32) (v_steps : Nat → Int32) (v_answers : Nat → Int32) (v_stack : Nat → Int32) : Option (Int32 × (Nat → Int32) × (Nat → Int32)) :=
  kb2 (f_X3_worksOut a_1 a_2 a_3 v_length v_stack v_steps) fun r_18 w_19 =>
  some (r_18, v_answers, w_19)

def f_X3_gives_L73 (n_answers : Nat) (x4 : Int32) (v_answers : Nat → Int32) (v_stack : Nat → Int32) : Option (Int32 × (Nat → Int32) × (Nat → Int32)) :=
  chi x4 n_answers <|
  nm (v_answers x4.toNatClampNeg : Int32) fun t_21 =>
  chz 128 <|
  some (t_21 - t_21 / 128 * 128, v_answers, v_stack)

def f_X3_gives (a_1 : Int32) (a_2 : Int32) (a_3 : Int32) (n_answers : Nat) (v_length : Int32) (v_side : Int32) (v_round : Int32) (v_answers : Nat → Int32) (v_stack : Nat → Int32) (v_steps : Nat → Int32) : Option (Int32 × (Nat → Int32) × (Nat → Int32)) :=
  kb (f_X3_placeOf a_1 a_2 a_3 v_side) fun r_2 =>
  if r_2 < 0 then
    f_X3_gives_L24 a_1 a_2 a_3 v_length v_steps v_answers v_stack
  else
    if r_2 < (nI n_answers) then
      chi r_2 n_answers <|
      nm (v_answers r_2.toNatClampNeg : Int32) fun t_6 =>
      chz 128 <|
      nm (t_6 / 128 : Int32) fun t_8 =>
      if t_8 = v_round then
        f_X3_gives_L73 n_answers r_2 v_answers v_stack
      else
        nm (v_round * 128 : Int32) fun t_10 =>
        kb2 (f_X3_worksOut a_1 a_2 a_3 v_length v_stack v_steps) fun r_12 w_13 =>
        nm (t_10 + r_12 : Int32) fun t_14 =>
        chi r_2 n_answers <|
        nm (upd v_answers r_2.toNatClampNeg t_14) fun w_16 =>
        f_X3_gives_L73 n_answers r_2 w_16 w_13
    else
      f_X3_gives_L24 a_1 a_2 a_3 v_length v_steps v_answers v_stack

def f_X8_moves (a_1 : Int32) (a_2 : Int32) (a_3 : Int32) : Option (Int32) :=
  some a_2

def f_X4_moves (a_1 : Int32) (a_2 : Int32) (a_3 : Int32) : Option (Int32) :=
  some 0

def f_X5_moves (a_1 : Int32) (a_2 : Int32) (a_3 : Int32) : Option (Int32) :=
  some a_1

def f_X6_moves (a_1 : Int32) (a_2 : Int32) (a_3 : Int32) : Option (Int32) :=
  kb (f_X0_moves a_1 a_2 a_3) fun r_2 =>
  chz 2 <|
  some (r_2 / 2)

def f_X1_moves (a_1 : Int32) (a_2 : Int32) (a_3 : Int32) : Option (Int32) :=
  kb (f_X5_moves a_1 a_2 a_3) fun r_2 =>
  nm (r_2 - a_3 : Int32) fun t_3 =>
  nm (if 0 < t_3 then t_3 else 0 : Int32) fun t_4 =>
  some t_4

def f_TD_moves (k : Int32) (a_1 : Int32) (a_2 : Int32) (a_3 : Int32) : Option (Int32) :=
  if k = 0 then f_X8_moves a_1 a_2 a_3 else
  if k = 1 then f_X0_moves a_1 a_2 a_3 else
  if k = 2 then f_X4_moves a_1 a_2 a_3 else
  if k = 3 then f_X5_moves a_1 a_2 a_3 else
  if k = 4 then f_X6_moves a_1 a_2 a_3 else
  if k = 5 then f_X4_moves a_1 a_2 a_3 else
  if k = 6 then f_X1_moves a_1 a_2 a_3 else
  none
def f_X10_pushOn (a_2 : Int32) (a_4 : Int32) (a_5 : Int32) (k_1 : Int32) (n_p3_answers : Nat) (v_rows : Int32) (v_columns : Int32) (v_out : Int32) (v_air : Nat → Int32) (v_open : Nat → Int32) (v_paste : Nat → Int32) (v_p3_length : Int32) (v_p3_side : Int32) (v_p3_round : Int32) (v_p3_answers : Nat → Int32) (v_p3_stack : Nat → Int32) (v_p3_steps : Nat → Int32) : Option (Int32 × Int32 × (Nat → Int32) × (Nat → Int32) × (Nat → Int32)) :=
  chi a_4 25 <|
  nm (v_air a_4.toNatClampNeg : Int32) fun t_2 =>
  chi a_4 25 <|
  nm (v_air a_4.toNatClampNeg : Int32) fun t_4 =>
  chi a_4 25 <|
  nm (v_air a_4.toNatClampNeg : Int32) fun t_6 =>
  chi a_4 25 <|
  nm (v_paste a_4.toNatClampNeg : Int32) fun t_8 =>
  kb3 (f_X3_gives t_6 t_8 a_2 n_p3_answers v_p3_length v_p3_side v_p3_round v_p3_answers v_p3_stack v_p3_steps) fun r_10 w_11 w_12 =>
  kb (f_TD_moves k_1 t_4 r_10 a_2) fun r_14 =>
  nm (if r_14 < t_2 then r_14 else t_2 : Int32) fun t_16 =>
  kb (f_X10_beside a_4 a_5 v_rows v_columns) fun r_18 =>
  kb (f_X10_has r_18 v_rows v_columns) fun r_20 =>
  if r_20 = 0 then
    kb (f_X10_isOpen a_5 v_open) fun r_23 =>
    if r_23 = 0 then
      some (r_18, v_out, v_air, w_11, w_12)
    else
      chi a_4 25 <|
      nm (v_air a_4.toNatClampNeg : Int32) fun t_26 =>
      nm (t_26 - t_16 : Int32) fun t_27 =>
      chi a_4 25 <|
      nm (upd v_air a_4.toNatClampNeg t_27) fun w_29 =>
      kb (f_X10_goesOut t_16 v_out) fun w_31 =>
      some (r_18, w_31, w_29, w_11, w_12)
  else
    chi r_18 25 <|
    nm (v_air r_18.toNatClampNeg : Int32) fun t_33 =>
    nm (t_33 + t_16 : Int32) fun t_34 =>
    chi a_4 25 <|
    nm (v_air a_4.toNatClampNeg : Int32) fun t_36 =>
    nm (t_36 - t_16 : Int32) fun t_37 =>
    chi a_4 25 <|
    nm (upd v_air a_4.toNatClampNeg t_37) fun w_39 =>
    nm (if 99 < t_34 then 99 else t_34 : Int32) fun t_40 =>
    chi r_18 25 <|
    nm (upd w_39 r_18.toNatClampNeg t_40) fun w_42 =>
    chi r_18 25 <|
    nm (t_34 - (w_42 r_18.toNatClampNeg) : Int32) fun t_44 =>
    kb (f_X10_goesOut t_44 v_out) fun w_46 =>
    some (r_18, w_46, w_42, w_11, w_12)

def f_X10_shownBy_L19 (kk_L7 : Int32 → Int32 → Int32 → (Nat → Int32) → (Nat → Int32) → Option (Int32 × (Nat → Int32) × (Nat → Int32))) (n_p1_answers : Nat) (v_rows : Int32) (v_columns : Int32) (v_air : Nat → Int32) (v_p1_length : Int32) (v_p1_side : Int32) (v_p1_round : Int32) (v_p1_steps : Nat → Int32) : Nat → Int32 → Int32 → Int32 → Int32 → (Nat → Int32) → (Nat → Int32) → Option (Int32 × (Nat → Int32) × (Nat → Int32))
  | 0, _, _, _, _, _, _ => none
  | n + 1, x2, x3, x4, x5, v_p1_answers, v_p1_stack =>
    if v_columns ≤ x5 then
      nm (x4 + 1 : Int32) fun t_3 =>
      kk_L7 x2 x3 t_3 v_p1_answers v_p1_stack
    else
      kb (f_X10_has x3 v_rows v_columns) fun r_5 =>
      if r_5 = 0 then
        nm (x4 + 1 : Int32) fun t_7 =>
        kk_L7 x2 x3 t_7 v_p1_answers v_p1_stack
      else
        chi x3 25 <|
        nm (v_air x3.toNatClampNeg : Int32) fun t_9 =>
        kb3 (f_X3_gives t_9 x4 x5 n_p1_answers v_p1_length v_p1_side v_p1_round v_p1_answers v_p1_stack v_p1_steps) fun r_11 w_12 w_13 =>
        nm (x2 + r_11 : Int32) fun t_14 =>
        nm (x3 + 1 : Int32) fun t_15 =>
        nm (x5 + 1 : Int32) fun t_16 =>
        f_X10_shownBy_L19 kk_L7 n_p1_answers v_rows v_columns v_air v_p1_length v_p1_side v_p1_round v_p1_steps n t_14 t_15 x4 t_16 w_12 w_13

def f_X10_shownBy_L7 (n_p1_answers : Nat) (v_rows : Int32) (v_columns : Int32) (v_air : Nat → Int32) (v_p1_length : Int32) (v_p1_side : Int32) (v_p1_round : Int32) (v_p1_steps : Nat → Int32) : Nat → Int32 → Int32 → Int32 → (Nat → Int32) → (Nat → Int32) → Option (Int32 × (Nat → Int32) × (Nat → Int32))
  | 0, _, _, _, _, _ => none
  | n + 1, x2, x3, x4, v_p1_answers, v_p1_stack =>
    if v_rows ≤ x4 then
      some (x2, v_p1_answers, v_p1_stack)
    else
      f_X10_shownBy_L19 (f_X10_shownBy_L7 n_p1_answers v_rows v_columns v_air v_p1_length v_p1_side v_p1_round v_p1_steps n) n_p1_answers v_rows v_columns v_air v_p1_length v_p1_side v_p1_round v_p1_steps gFuel x2 x3 x4 0 v_p1_answers v_p1_stack

def f_X10_shownBy (n_p1_answers : Nat) (v_rows : Int32) (v_columns : Int32) (v_air : Nat → Int32) (v_p1_length : Int32) (v_p1_side : Int32) (v_p1_round : Int32) (v_p1_answers : Nat → Int32) (v_p1_stack : Nat → Int32) (v_p1_steps : Nat → Int32) : Option (Int32 × (Nat → Int32) × (Nat → Int32)) :=
  f_X10_shownBy_L7 n_p1_answers v_rows v_columns v_air v_p1_length v_p1_side v_p1_round v_p1_steps gFuel 0 0 0 v_p1_answers v_p1_stack

def f_X10_sizeOfBubble (a_1 : Int32) (v_rows : Int32) (v_columns : Int32) (v_inLine : Int32) (v_air : Nat → Int32) (v_line : Nat → Int32) (v_met : Nat → Int32) : Option (Int32 × Int32 × (Nat → Int32) × (Nat → Int32)) :=
  kb (f_J7_fill_53178 0 25 v_met) fun w_2 =>
  kb4 (f_X10_meetBubble a_1 v_rows v_columns v_inLine v_air v_line w_2) fun r_4 w_5 w_6 w_7 =>
  some (r_4, w_5, w_6, w_7)

def f_X8_lets (a_1 : Int32) (a_2 : Int32) : Option (Int32) :=
  some 0

def f_X4_lets (a_1 : Int32) (a_2 : Int32) : Option (Int32) :=
  some (a_2 + 1)

def f_X2_lets (a_1 : Int32) (a_2 : Int32) : Option (Int32) :=
  some a_1

def f_TD_lets (k : Int32) (a_1 : Int32) (a_2 : Int32) : Option (Int32) :=
  if k = 0 then f_X8_lets a_1 a_2 else
  if k = 1 then f_X8_lets a_1 a_2 else
  if k = 2 then f_X4_lets a_1 a_2 else
  if k = 3 then f_X8_lets a_1 a_2 else
  if k = 4 then f_X8_lets a_1 a_2 else
  if k = 5 then f_X2_lets a_1 a_2 else
  if k = 6 then f_X8_lets a_1 a_2 else
  none
def f_X8_reach (a_1 : Int32) : Option (Int32) :=
  some 1

def f_X5_reach (a_1 : Int32) : Option (Int32) :=
  some 2

def f_X1_reach (a_1 : Int32) : Option (Int32) :=
  kb (f_X5_reach a_1) fun r_2 =>
  chz 3 <|
  some (r_2 + (a_1 - a_1 / 3 * 3))

def f_TD_reach (k : Int32) (a_1 : Int32) : Option (Int32) :=
  if k = 0 then f_X8_reach a_1 else
  if k = 1 then f_X8_reach a_1 else
  if k = 2 then f_X8_reach a_1 else
  if k = 3 then f_X5_reach a_1 else
  if k = 4 then f_X8_reach a_1 else
  if k = 5 then f_X8_reach a_1 else
  if k = 6 then f_X1_reach a_1 else
  none
def f_X8_tears (a_1 : Int32) : Option (Int32) :=
  some 0

def f_X4_tears (a_1 : Int32) : Option (Int32) :=
  if 3 ≤ a_1 then
    some 0
  else
    some 1

def f_X2_tears (a_1 : Int32) : Option (Int32) :=
  kb (f_X4_tears a_1) fun r_2 =>
  some (r_2 + 1)

def f_X1_tears (a_1 : Int32) : Option (Int32) :=
  if a_1 ≤ 7 then
    some 0
  else
    some 1

def f_TD_tears (k : Int32) (a_1 : Int32) : Option (Int32) :=
  if k = 0 then f_X8_tears a_1 else
  if k = 1 then f_X8_tears a_1 else
  if k = 2 then f_X4_tears a_1 else
  if k = 3 then f_X8_tears a_1 else
  if k = 4 then f_X8_tears a_1 else
  if k = 5 then f_X2_tears a_1 else
  if k = 6 then f_X1_tears a_1 else
  none
def f_X10_strike_L91 (a_2 : Int32) (a_5 : Int32) (k_1 : Int32) (n_p3_answers : Nat) (v_rows : Int32) (v_columns : Int32) (v_open : Nat → Int32) (v_paste : Nat → Int32) (v_p3_length : Int32) (v_p3_side : Int32) (v_p3_round : Int32) (v_p3_steps : Nat → Int32) : Nat → Int32 → Int32 → Int32 → Int32 → Int32 → (Nat → Int32) → (Nat → Int32) → (Nat → Int32) → Option (Int32 × Int32 × (Nat → Int32) × (Nat → Int32) × (Nat → Int32))
  | 0, _, _, _, _, _, _, _, _ => none
  | n + 1, x7, x8, x9, v_holes, v_out, v_air, v_p3_answers, v_p3_stack =>
    if x7 ≤ x9 then
      some (v_holes, v_out, v_air, v_p3_answers, v_p3_stack)
    else
      kb (f_X10_has x8 v_rows v_columns) fun r_31 =>
      if r_31 = 0 then
        some (v_holes, v_out, v_air, v_p3_answers, v_p3_stack)
      else
        kb5 (f_X10_pushOn a_2 x8 a_5 k_1 n_p3_answers v_rows v_columns v_out v_air v_open v_paste v_p3_length v_p3_side v_p3_round v_p3_answers v_p3_stack v_p3_steps) fun r_34 w_35 w_36 w_37 w_38 =>
        nm (x9 + 1 : Int32) fun t_39 =>
        f_X10_strike_L91 a_2 a_5 k_1 n_p3_answers v_rows v_columns v_open v_paste v_p3_length v_p3_side v_p3_round v_p3_steps n x7 r_34 t_39 v_holes w_35 w_36 w_37 w_38

def f_X10_strike (a_2 : Int32) (a_4 : Int32) (a_5 : Int32) (k_1 : Int32) (n_p3_answers : Nat) (v_rows : Int32) (v_columns : Int32) (v_holes : Int32) (v_out : Int32) (v_air : Nat → Int32) (v_open : Nat → Int32) (v_paste : Nat → Int32) (v_p3_length : Int32) (v_p3_side : Int32) (v_p3_round : Int32) (v_p3_answers : Nat → Int32) (v_p3_stack : Nat → Int32) (v_p3_steps : Nat → Int32) : Option (Int32 × Int32 × (Nat → Int32) × (Nat → Int32) × (Nat → Int32)) :=
  kb (f_X10_has a_4 v_rows v_columns) fun r_2 =>
  if r_2 = 0 then
    some (v_holes, v_out, v_air, v_p3_answers, v_p3_stack)
  else
    chi a_4 25 <|
    nm (v_air a_4.toNatClampNeg : Int32) fun t_5 =>
    chi a_4 25 <|
    nm (v_air a_4.toNatClampNeg : Int32) fun t_7 =>
    kb (f_TD_lets k_1 t_7 a_2) fun r_9 =>
    nm (if r_9 < t_5 then r_9 else t_5 : Int32) fun t_11 =>
    chi a_4 25 <|
    nm (v_air a_4.toNatClampNeg : Int32) fun t_13 =>
    nm (t_13 - t_11 : Int32) fun t_14 =>
    chi a_4 25 <|
    nm (upd v_air a_4.toNatClampNeg t_14) fun w_16 =>
    kb (f_X10_goesOut t_11 v_out) fun w_18 =>
    chi a_4 25 <|
    nm (v_paste a_4.toNatClampNeg : Int32) fun t_20 =>
    kb (f_TD_tears k_1 t_20) fun r_22 =>
    nm (v_holes + r_22 : Int32) fun t_24 =>
    nm (if t_24 < 99999 then t_24 else 99999 : Int32) fun t_25 =>
    kb (f_TD_reach k_1 a_2) fun r_27 =>
    f_X10_strike_L91 a_2 a_5 k_1 n_p3_answers v_rows v_columns v_open v_paste v_p3_length v_p3_side v_p3_round v_p3_steps gFuel r_27 a_4 0 t_25 w_18 w_16 v_p3_answers v_p3_stack

def f_X11_error (a_1 : Int32) (v_errors : Nat → Int32) : Option (Int32 × (Nat → Int32)) :=
  kb (f_X11_within a_1 1 5) fun r_2 =>
  if r_2 = 0 then
    some ((-1000000000) - a_1, v_errors)
  else
    chi a_1 6 <|
    nm (v_errors a_1.toNatClampNeg : Int32) fun t_5 =>
    nm (t_5 + 1 : Int32) fun t_6 =>
    chi a_1 6 <|
    nm (upd v_errors a_1.toNatClampNeg t_6) fun w_8 =>
    some ((-1000000000) - a_1, w_8)

def f_X11_isMissing (a_1 : Int32) (v_sheetBits : Nat → Int32) : Option (Int32) :=
  chi a_1 4 <|
  if (v_sheetBits a_1.toNatClampNeg) = 0 then
    some 1
  else
    some 0

def f_X11_isSheet (a_0 : Int32) : Option (Int32) :=
  kb (f_X11_within a_0 0 3) fun r_2 =>
  chb r_2 <|
  some r_2

def f_X11_airs_L49 (a_1 : Int32) (v_numbers_el : Nat → Nat → Int32) : Nat → Int32 → Int32 → (Nat → Int32) → (Nat → Int32) → Option (Int32 × (Nat → Int32) × (Nat → Int32))
  | 0, _, _, _, _ => none
  | n + 1, x2, x3, v_errors, v_now_wall_air =>
    if x2 ≤ x3 then
      some (x3, v_errors, v_now_wall_air)
    else
      chi a_1 4 <|
      chi x3 40 <|
      nm ((v_numbers_el a_1.toNatClampNeg) x3.toNatClampNeg : Int32) fun t_21 =>
      kb (f_X11_within t_21 0 99) fun r_23 =>
      if r_23 = 0 then
        some (x3, v_errors, v_now_wall_air)
      else
        chi a_1 4 <|
        chi x3 40 <|
        nm ((v_numbers_el a_1.toNatClampNeg) x3.toNatClampNeg : Int32) fun t_27 =>
        chi x3 25 <|
        nm (upd v_now_wall_air x3.toNatClampNeg t_27) fun w_29 =>
        nm (x3 + 1 : Int32) fun t_30 =>
        f_X11_airs_L49 a_1 v_numbers_el n x2 t_30 v_errors w_29

def f_X11_airs (a_1 : Int32) (v_errors : Nat → Int32) (v_now_wall_rows : Int32) (v_now_wall_columns : Int32) (v_now_wall_air : Nat → Int32) (v_sheetBits : Nat → Int32) (v_sheetLength : Nat → Int32) (v_numbers_el : Nat → Nat → Int32) : Option (Int32 × (Nat → Int32) × (Nat → Int32)) :=
  kb (f_X11_isSheet a_1) fun r_2 =>
  if r_2 = 0 then
    kb2 (f_X11_error 1 v_errors) fun r_16 w_17 =>
    some (r_16, w_17, v_now_wall_air)
  else
    kb (f_X11_isMissing a_1 v_sheetBits) fun r_5 =>
    if r_5 = 0 then
      chi a_1 4 <|
      nm (v_sheetLength a_1.toNatClampNeg : Int32) fun t_8 =>
      kb (f_X10_cells v_now_wall_rows v_now_wall_columns) fun r_10 =>
      nm (if r_10 < t_8 then r_10 else t_8 : Int32) fun t_11 =>
      f_X11_airs_L49 a_1 v_numbers_el gFuel t_11 0 v_errors v_now_wall_air
    else
      kb2 (f_X11_error 2 v_errors) fun r_13 w_14 =>
      some (r_13, w_14, v_now_wall_air)

def f_X11_isTool (a_1 : Int32) (v_now_tools : Int32) : Option (Int32) :=
  nm (v_now_tools - 1 : Int32) fun t_1 =>
  kb (f_X11_within a_1 0 t_1) fun r_3 =>
  if r_3 = 0 then
    some 0
  else
    if 6 ≤ a_1 then
      some 0
    else
      some 1

def f_X11_kindAt (a_1 : Int32) : Option (Int32) :=
  kb (f_X11_within a_1 0 6) fun r_2 =>
  if r_2 = 0 then
    chi 0 7 <|
    some 0
  else
    chi a_1 7 <|
    some a_1

def f_X11_kindOf_L22 (y1 : Int32) : Option (Int32) :=
  kb (f_X11_kindAt y1) fun r_7 =>
  some r_7

def f_X11_kindOf (a_1 : Int32) (v_now_tools : Int32) (v_now_kind : Nat → Int32) : Option (Int32) :=
  kb (f_X11_isTool a_1 v_now_tools) fun r_2 =>
  if r_2 = 0 then
    f_X11_kindOf_L22 0
  else
    chi a_1 6 <|
    nm (v_now_kind a_1.toNatClampNeg : Int32) fun t_5 =>
    f_X11_kindOf_L22 t_5

def f_X8_isA_X8 (a_1 : Int32) : Option (Int32) :=
  if a_1 = 0 then
    some 1
  else
    some 0

def f_X8_isA_X4 (a_1 : Int32) : Option (Int32) :=
  if a_1 = 0 then
    some 1
  else
    some 0

def f_X4_isA_X4 (a_1 : Int32) : Option (Int32) :=
  if a_1 = 2 then
    some 1
  else
    kb (f_X8_isA_X4 a_1) fun r_3 =>
    if r_3 = 0 then
      some 0
    else
      some 1

def f_X8_isA_X5 (a_1 : Int32) : Option (Int32) :=
  if a_1 = 0 then
    some 1
  else
    some 0

def f_X5_isA_X5 (a_1 : Int32) : Option (Int32) :=
  if a_1 = 3 then
    some 1
  else
    kb (f_X8_isA_X5 a_1) fun r_3 =>
    if r_3 = 0 then
      some 0
    else
      some 1

def f_X6_isA_X6 (a_1 : Int32) : Option (Int32) :=
  if a_1 = 4 then
    some 1
  else
    kb (f_X0_isA_X6 a_1) fun r_3 =>
    if r_3 = 0 then
      some 0
    else
      some 1

def f_X8_isA_X2 (a_1 : Int32) : Option (Int32) :=
  if a_1 = 0 then
    some 1
  else
    some 0

def f_X4_isA_X2 (a_1 : Int32) : Option (Int32) :=
  if a_1 = 2 then
    some 1
  else
    kb (f_X8_isA_X2 a_1) fun r_3 =>
    if r_3 = 0 then
      some 0
    else
      some 1

def f_X2_isA_X2 (a_1 : Int32) : Option (Int32) :=
  if a_1 = 5 then
    some 1
  else
    kb (f_X4_isA_X2 a_1) fun r_3 =>
    if r_3 = 0 then
      some 0
    else
      some 1

def f_X8_isA_X1 (a_1 : Int32) : Option (Int32) :=
  if a_1 = 0 then
    some 1
  else
    some 0

def f_X5_isA_X1 (a_1 : Int32) : Option (Int32) :=
  if a_1 = 3 then
    some 1
  else
    kb (f_X8_isA_X1 a_1) fun r_3 =>
    if r_3 = 0 then
      some 0
    else
      some 1

def f_X1_isA_X1 (a_1 : Int32) : Option (Int32) :=
  if a_1 = 6 then
    some 1
  else
    kb (f_X5_isA_X1 a_1) fun r_3 =>
    if r_3 = 0 then
      some 0
    else
      some 1

def f_TD_isA (k : Int32) (a_1 : Int32) : Option (Int32) :=
  if k = 0 then f_X8_isA_X8 a_1 else
  if k = 1 then f_X0_isA_X0 a_1 else
  if k = 2 then f_X4_isA_X4 a_1 else
  if k = 3 then f_X5_isA_X5 a_1 else
  if k = 4 then f_X6_isA_X6 a_1 else
  if k = 5 then f_X2_isA_X2 a_1 else
  if k = 6 then f_X1_isA_X1 a_1 else
  none
def f_X11_as_L18 (v_errors : Nat → Int32) : Option (Int32 × (Nat → Int32)) :=
  kb2 (f_X11_error 1 v_errors) fun r_18 w_19 =>
  some (r_18, w_19)

def f_X11_as (a_1 : Int32) (a_2 : Int32) (v_errors : Nat → Int32) (v_now_tools : Int32) (v_now_kind : Nat → Int32) (v_now_m : Nat → Int32) : Option (Int32 × (Nat → Int32)) :=
  kb (f_X11_isTool a_1 v_now_tools) fun r_2 =>
  if r_2 = 0 then
    f_X11_as_L18 v_errors
  else
    kb (f_X11_within a_2 0 6) fun r_5 =>
    if r_5 = 0 then
      f_X11_as_L18 v_errors
    else
      kb (f_X11_kindOf a_1 v_now_tools v_now_kind) fun r_8 =>
      kb (f_TD_isA r_8 a_2) fun r_10 =>
      if r_10 = 0 then
        kb2 (f_X11_error 5 v_errors) fun r_15 w_16 =>
        some (r_15, w_16)
      else
        chi a_1 6 <|
        some (v_now_m a_1.toNatClampNeg, v_errors)

def f_X11_become_L18 (v_errors : Nat → Int32) (v_now_kind : Nat → Int32) (v_now_m : Nat → Int32) : Option (Int32 × (Nat → Int32) × (Nat → Int32) × (Nat → Int32)) :=
  kb2 (f_X11_error 1 v_errors) fun r_18 w_19 =>
  some (r_18, w_19, v_now_kind, v_now_m)

def f_X11_become (a_1 : Int32) (a_2 : Int32) (v_errors : Nat → Int32) (v_now_tools : Int32) (v_now_kind : Nat → Int32) (v_now_m : Nat → Int32) : Option (Int32 × (Nat → Int32) × (Nat → Int32) × (Nat → Int32)) :=
  kb (f_X11_isTool a_1 v_now_tools) fun r_2 =>
  if r_2 = 0 then
    f_X11_become_L18 v_errors v_now_kind v_now_m
  else
    kb (f_X11_within a_2 0 69) fun r_5 =>
    if r_5 = 0 then
      f_X11_become_L18 v_errors v_now_kind v_now_m
    else
      chi a_1 6 <|
      nm (v_now_kind a_1.toNatClampNeg : Int32) fun t_8 =>
      chz 10 <|
      nm (a_2 / 10 : Int32) fun t_10 =>
      chi a_1 6 <|
      nm (upd v_now_kind a_1.toNatClampNeg t_10) fun w_12 =>
      chz 10 <|
      nm (a_2 - a_2 / 10 * 10 : Int32) fun t_14 =>
      chi a_1 6 <|
      nm (upd v_now_m a_1.toNatClampNeg t_14) fun w_16 =>
      some (t_8, v_errors, w_12, w_16)

def f_X11_bestFrom_L31 (kk_L21 : Int32 → Int32 → Int32 → Int32 → Int32 → Int32 → Int32 → Int32 → (Nat → Int32) → (Nat → Int32) → (Nat → Int32) → (Nat → Int32) → (Nat → Int32) → (Nat → Int32) → (Nat → Int32) → Option (Int32 × Int32 × Int32 × Int32 × Int32 × Int32 × (Nat → Int32) × (Nat → Int32) × (Nat → Int32) × (Nat → Int32) × (Nat → Int32) × (Nat → Int32) × (Nat → Int32))) (a_3 : Int32) (k_2 : Int32) (n_now_moved_answers : Nat) (n_now_seen_answers : Nat) (v_now_moved_length : Int32) (v_now_moved_side : Int32) (v_now_moved_round : Int32) (v_now_moved_steps : Nat → Int32) (v_now_seen_length : Int32) (v_now_seen_side : Int32) (v_now_seen_round : Int32) (v_now_seen_steps : Nat → Int32) (v_p1_air : Nat → Int32) : Nat → Int32 → Int32 → Int32 → Int32 → Int32 → Int32 → Int32 → Int32 → Int32 → (Nat → Int32) → (Nat → Int32) → (Nat → Int32) → (Nat → Int32) → (Nat → Int32) → (Nat → Int32) → (Nat → Int32) → Option (Int32 × Int32 × Int32 × Int32 × Int32 × Int32 × (Nat → Int32) × (Nat → Int32) × (Nat → Int32) × (Nat → Int32) × (Nat → Int32) × (Nat → Int32) × (Nat → Int32))
  | 0, _, _, _, _, _, _, _, _, _, _, _, _, _, _, _, _ => none
  | n + 1, x4, x5, x6, x7, v_further_rows, v_further_columns, v_further_holes, v_further_out, v_further_night, v_further_air, v_further_open, v_further_paste, v_now_moved_answers, v_now_moved_stack, v_now_seen_answers, v_now_seen_stack =>
    if 4 ≤ x7 then
      nm (x6 + 1 : Int32) fun t_14 =>
      kk_L21 x4 x5 t_14 v_further_rows v_further_columns v_further_holes v_further_out v_further_night v_further_air v_further_open v_further_paste v_now_moved_answers v_now_moved_stack v_now_seen_answers v_now_seen_stack
    else
      kb (f_X10_airAs v_further_air v_p1_air) fun w_16 =>
      kb5 (f_X10_strike a_3 x6 x7 k_2 n_now_moved_answers v_further_rows v_further_columns v_further_holes v_further_out w_16 v_further_open v_further_paste v_now_moved_length v_now_moved_side v_now_moved_round v_now_moved_answers v_now_moved_stack v_now_moved_steps) fun w_18 w_19 w_20 w_21 w_22 =>
      kb3 (f_X10_shownBy n_now_seen_answers v_further_rows v_further_columns w_20 v_now_seen_length v_now_seen_side v_now_seen_round v_now_seen_answers v_now_seen_stack v_now_seen_steps) fun r_24 w_25 w_26 =>
      nm (r_24 * 1000 : Int32) fun t_27 =>
      nm (t_27 + (10 * x6) : Int32) fun t_28 =>
      nm (t_28 + x7 : Int32) fun t_29 =>
      nm (if t_29 < x5 then t_29 else x5 : Int32) fun t_30 =>
      nm (x7 + 1 : Int32) fun t_31 =>
      f_X11_bestFrom_L31 kk_L21 a_3 k_2 n_now_moved_answers n_now_seen_answers v_now_moved_length v_now_moved_side v_now_moved_round v_now_moved_steps v_now_seen_length v_now_seen_side v_now_seen_round v_now_seen_steps v_p1_air n x4 t_30 x6 t_31 v_further_rows v_further_columns w_18 w_19 v_further_night w_20 v_further_open v_further_paste w_21 w_22 w_25 w_26

def f_X11_bestFrom_L21 (a_3 : Int32) (k_2 : Int32) (n_now_moved_answers : Nat) (n_now_seen_answers : Nat) (v_now_moved_length : Int32) (v_now_moved_side : Int32) (v_now_moved_round : Int32) (v_now_moved_steps : Nat → Int32) (v_now_seen_length : Int32) (v_now_seen_side : Int32) (v_now_seen_round : Int32) (v_now_seen_steps : Nat → Int32) (v_p1_air : Nat → Int32) : Nat → Int32 → Int32 → Int32 → Int32 → Int32 → Int32 → Int32 → Int32 → (Nat → Int32) → (Nat → Int32) → (Nat → Int32) → (Nat → Int32) → (Nat → Int32) → (Nat → Int32) → (Nat → Int32) → Option (Int32 × Int32 × Int32 × Int32 × Int32 × Int32 × (Nat → Int32) × (Nat → Int32) × (Nat → Int32) × (Nat → Int32) × (Nat → Int32) × (Nat → Int32) × (Nat → Int32))
  | 0, _, _, _, _, _, _, _, _, _, _, _, _, _, _, _ => none
  | n + 1, x4, x5, x6, v_further_rows, v_further_columns, v_further_holes, v_further_out, v_further_night, v_further_air, v_further_open, v_further_paste, v_now_moved_answers, v_now_moved_stack, v_now_seen_answers, v_now_seen_stack =>
    if x4 ≤ x6 then
      some (x5, v_further_rows, v_further_columns, v_further_holes, v_further_out, v_further_night, v_further_air, v_further_open, v_further_paste, v_now_moved_answers, v_now_moved_stack, v_now_seen_answers, v_now_seen_stack)
    else
      f_X11_bestFrom_L31 (f_X11_bestFrom_L21 a_3 k_2 n_now_moved_answers n_now_seen_answers v_now_moved_length v_now_moved_side v_now_moved_round v_now_moved_steps v_now_seen_length v_now_seen_side v_now_seen_round v_now_seen_steps v_p1_air n) a_3 k_2 n_now_moved_answers n_now_seen_answers v_now_moved_length v_now_moved_side v_now_moved_round v_now_moved_steps v_now_seen_length v_now_seen_side v_now_seen_round v_now_seen_steps v_p1_air gFuel x4 x5 x6 0 v_further_rows v_further_columns v_further_holes v_further_out v_further_night v_further_air v_further_open v_further_paste v_now_moved_answers v_now_moved_stack v_now_seen_answers v_now_seen_stack

def f_X11_bestFrom (a_3 : Int32) (k_2 : Int32) (n_now_moved_answers : Nat) (n_now_seen_answers : Nat) (v_further_rows : Int32) (v_further_columns : Int32) (v_further_holes : Int32) (v_further_out : Int32) (v_further_night : Int32) (v_further_air : Nat → Int32) (v_further_open : Nat → Int32) (v_further_paste : Nat → Int32) (v_now_moved_length : Int32) (v_now_moved_side : Int32) (v_now_moved_round : Int32) (v_now_moved_answers : Nat → Int32) (v_now_moved_stack : Nat → Int32) (v_now_moved_steps : Nat → Int32) (v_now_seen_length : Int32) (v_now_seen_side : Int32) (v_now_seen_round : Int32) (v_now_seen_answers : Nat → Int32) (v_now_seen_stack : Nat → Int32) (v_now_seen_steps : Nat → Int32) (v_p1_rows : Int32) (v_p1_columns : Int32) (v_p1_holes : Int32) (v_p1_out : Int32) (v_p1_night : Int32) (v_p1_air : Nat → Int32) (v_p1_open : Nat → Int32) (v_p1_paste : Nat → Int32) : Option (Int32 × Int32 × Int32 × Int32 × Int32 × Int32 × (Nat → Int32) × (Nat → Int32) × (Nat → Int32) × (Nat → Int32) × (Nat → Int32) × (Nat → Int32) × (Nat → Int32)) :=
  kb (f_X10_cells v_p1_rows v_p1_columns) fun r_2 =>
  kb8 (f_X10_copy v_further_rows v_further_columns v_further_holes v_further_out v_further_night v_further_air v_further_open v_further_paste v_p1_rows v_p1_columns v_p1_holes v_p1_out v_p1_night v_p1_air v_p1_open v_p1_paste) fun w_4 w_5 w_6 w_7 w_8 w_9 w_10 w_11 =>
  f_X11_bestFrom_L21 a_3 k_2 n_now_moved_answers n_now_seen_answers v_now_moved_length v_now_moved_side v_now_moved_round v_now_moved_steps v_now_seen_length v_now_seen_side v_now_seen_round v_now_seen_steps v_p1_air gFuel r_2 2147483647 0 w_4 w_5 w_6 w_7 w_8 w_9 w_10 w_11 v_now_moved_answers v_now_moved_stack v_now_seen_answers v_now_seen_stack

def f_X11_partOfBest (a_0 : Int32) (a_1 : Int32) : Option (Int32) :=
  if a_1 = 0 then
    chz 1000 <|
    nm (a_0 - a_0 / 1000 * 1000 : Int32) fun t_4 =>
    some t_4
  else
    chz 1000 <|
    some (a_0 / 1000)

def f_X11_best_L17 (v_errors : Nat → Int32) (v_further_rows : Int32) (v_further_columns : Int32) (v_further_holes : Int32) (v_further_out : Int32) (v_further_night : Int32) (v_further_air : Nat → Int32) (v_further_open : Nat → Int32) (v_further_paste : Nat → Int32) (v_now_moved_answers : Nat → Int32) (v_now_moved_stack : Nat → Int32) (v_now_seen_answers : Nat → Int32) (v_now_seen_stack : Nat → Int32) : Option (Int32 × (Nat → Int32) × Int32 × Int32 × Int32 × Int32 × Int32 × (Nat → Int32) × (Nat → Int32) × (Nat → Int32) × (Nat → Int32) × (Nat → Int32) × (Nat → Int32) × (Nat → Int32)) :=
  kb2 (f_X11_error 1 v_errors) fun r_28 w_29 =>
  some (r_28, w_29, v_further_rows, v_further_columns, v_further_holes, v_further_out, v_further_night, v_further_air, v_further_open, v_further_paste, v_now_moved_answers, v_now_moved_stack, v_now_seen_answers, v_now_seen_stack)

def f_X11_best (a_1 : Int32) (a_2 : Int32) (n_now_moved_answers : Nat) (n_now_seen_answers : Nat) (v_errors : Nat → Int32) (v_further_rows : Int32) (v_further_columns : Int32) (v_further_holes : Int32) (v_further_out : Int32) (v_further_night : Int32) (v_further_air : Nat → Int32) (v_further_open : Nat → Int32) (v_further_paste : Nat → Int32) (v_now_tools : Int32) (v_now_kind : Nat → Int32) (v_now_m : Nat → Int32) (v_now_moved_length : Int32) (v_now_moved_side : Int32) (v_now_moved_round : Int32) (v_now_moved_answers : Nat → Int32) (v_now_moved_stack : Nat → Int32) (v_now_moved_steps : Nat → Int32) (v_now_seen_length : Int32) (v_now_seen_side : Int32) (v_now_seen_round : Int32) (v_now_seen_answers : Nat → Int32) (v_now_seen_stack : Nat → Int32) (v_now_seen_steps : Nat → Int32) (v_now_wall_rows : Int32) (v_now_wall_columns : Int32) (v_now_wall_holes : Int32) (v_now_wall_out : Int32) (v_now_wall_night : Int32) (v_now_wall_air : Nat → Int32) (v_now_wall_open : Nat → Int32) (v_now_wall_paste : Nat → Int32) : Option (Int32 × (Nat → Int32) × Int32 × Int32 × Int32 × Int32 × Int32 × (Nat → Int32) × (Nat → Int32) × (Nat → Int32) × (Nat → Int32) × (Nat → Int32) × (Nat → Int32) × (Nat → Int32)) :=
  kb (f_X11_isTool a_1 v_now_tools) fun r_2 =>
  if r_2 = 0 then
    f_X11_best_L17 v_errors v_further_rows v_further_columns v_further_holes v_further_out v_further_night v_further_air v_further_open v_further_paste v_now_moved_answers v_now_moved_stack v_now_seen_answers v_now_seen_stack
  else
    kb (f_X11_within a_2 0 1) fun r_5 =>
    if r_5 = 0 then
      f_X11_best_L17 v_errors v_further_rows v_further_columns v_further_holes v_further_out v_further_night v_further_air v_further_open v_further_paste v_now_moved_answers v_now_moved_stack v_now_seen_answers v_now_seen_stack
    else
      kb (f_X11_kindOf a_1 v_now_tools v_now_kind) fun r_8 =>
      chi a_1 6 <|
      nm (v_now_m a_1.toNatClampNeg : Int32) fun t_10 =>
      kb13 (f_X11_bestFrom t_10 r_8 n_now_moved_answers n_now_seen_answers v_further_rows v_further_columns v_further_holes v_further_out v_further_night v_further_air v_further_open v_further_paste v_now_moved_length v_now_moved_side v_now_moved_round v_now_moved_answers v_now_moved_stack v_now_moved_steps v_now_seen_length v_now_seen_side v_now_seen_round v_now_seen_answers v_now_seen_stack v_now_seen_steps v_now_wall_rows v_now_wall_columns v_now_wall_holes v_now_wall_out v_now_wall_night v_now_wall_air v_now_wall_open v_now_wall_paste) fun r_12 w_13 w_14 w_15 w_16 w_17 w_18 w_19 w_20 w_21 w_22 w_23 w_24 =>
      kb (f_X11_partOfBest r_12 a_2) fun r_26 =>
      some (r_26, v_errors, w_13, w_14, w_15, w_16, w_17, w_18, w_19, w_20, w_21, w_22, w_23, w_24)

def f_X11_bestTwo_L17 (v_errors : Nat → Int32) (v_further_rows : Int32) (v_further_columns : Int32) (v_further_holes : Int32) (v_further_out : Int32) (v_further_night : Int32) (v_further_air : Nat → Int32) (v_further_open : Nat → Int32) (v_further_paste : Nat → Int32) (v_now_moved_answers : Nat → Int32) (v_now_moved_stack : Nat → Int32) (v_now_seen_answers : Nat → Int32) (v_now_seen_stack : Nat → Int32) (v_thought_rows : Int32) (v_thought_columns : Int32) (v_thought_holes : Int32) (v_thought_out : Int32) (v_thought_night : Int32) (v_thought_air : Nat → Int32) (v_thought_open : Nat → Int32) (v_thought_paste : Nat → Int32) : Option (Int32 × (Nat → Int32) × Int32 × Int32 × Int32 × Int32 × Int32 × (Nat → Int32) × (Nat → Int32) × (Nat → Int32) × (Nat → Int32) × (Nat → Int32) × (Nat → Int32) × (Nat → Int32) × Int32 × Int32 × Int32 × Int32 × Int32 × (Nat → Int32) × (Nat → Int32) × (Nat → Int32)) :=
  kb2 (f_X11_error 1 v_errors) fun r_14 w_15 =>
  some (r_14, w_15, v_further_rows, v_further_columns, v_further_holes, v_further_out, v_further_night, v_further_air, v_further_open, v_further_paste, v_now_moved_answers, v_now_moved_stack, v_now_seen_answers, v_now_seen_stack, v_thought_rows, v_thought_columns, v_thought_holes, v_thought_out, v_thought_night, v_thought_air, v_thought_open, v_thought_paste)

def f_X11_bestTwo_L69 (kk_L59 : Int32 → Int32 → Int32 → Int32 → Int32 → (Nat → Int32) → Int32 → Int32 → Int32 → Int32 → Int32 → (Nat → Int32) → (Nat → Int32) → (Nat → Int32) → (Nat → Int32) → (Nat → Int32) → (Nat → Int32) → (Nat → Int32) → Int32 → Int32 → Int32 → Int32 → Int32 → (Nat → Int32) → (Nat → Int32) → (Nat → Int32) → Option (Int32 × (Nat → Int32) × Int32 × Int32 × Int32 × Int32 × Int32 × (Nat → Int32) × (Nat → Int32) × (Nat → Int32) × (Nat → Int32) × (Nat → Int32) × (Nat → Int32) × (Nat → Int32) × Int32 × Int32 × Int32 × Int32 × Int32 × (Nat → Int32) × (Nat → Int32) × (Nat → Int32))) (a_2 : Int32) (n_now_moved_answers : Nat) (n_now_seen_answers : Nat) (v_now_moved_length : Int32) (v_now_moved_side : Int32) (v_now_moved_round : Int32) (v_now_moved_steps : Nat → Int32) (v_now_seen_length : Int32) (v_now_seen_side : Int32) (v_now_seen_round : Int32) (v_now_seen_steps : Nat → Int32) (v_now_wall_rows : Int32) (v_now_wall_columns : Int32) (v_now_wall_holes : Int32) (v_now_wall_out : Int32) (v_now_wall_night : Int32) (v_now_wall_air : Nat → Int32) (v_now_wall_open : Nat → Int32) (v_now_wall_paste : Nat → Int32) : Nat → Int32 → Int32 → Int32 → Int32 → Int32 → Int32 → (Nat → Int32) → Int32 → Int32 → Int32 → Int32 → Int32 → (Nat → Int32) → (Nat → Int32) → (Nat → Int32) → (Nat → Int32) → (Nat → Int32) → (Nat → Int32) → (Nat → Int32) → Int32 → Int32 → Int32 → Int32 → Int32 → (Nat → Int32) → (Nat → Int32) → (Nat → Int32) → Option (Int32 × (Nat → Int32) × Int32 × Int32 × Int32 × Int32 × Int32 × (Nat → Int32) × (Nat → Int32) × (Nat → Int32) × (Nat → Int32) × (Nat → Int32) × (Nat → Int32) × (Nat → Int32) × Int32 × Int32 × Int32 × Int32 × Int32 × (Nat → Int32) × (Nat → Int32) × (Nat → Int32))
  | 0, _, _, _, _, _, _, _, _, _, _, _, _, _, _, _, _, _, _, _, _, _, _, _, _, _, _, _ => none
  | n + 1, x3, x4, x5, x6, x7, x8, v_errors, v_further_rows, v_further_columns, v_further_holes, v_further_out, v_further_night, v_further_air, v_further_open, v_further_paste, v_now_moved_answers, v_now_moved_stack, v_now_seen_answers, v_now_seen_stack, v_thought_rows, v_thought_columns, v_thought_holes, v_thought_out, v_thought_night, v_thought_air, v_thought_open, v_thought_paste =>
    if 4 ≤ x8 then
      nm (x7 + 1 : Int32) fun t_20 =>
      kk_L59 x3 x4 x5 x6 t_20 v_errors v_further_rows v_further_columns v_further_holes v_further_out v_further_night v_further_air v_further_open v_further_paste v_now_moved_answers v_now_moved_stack v_now_seen_answers v_now_seen_stack v_thought_rows v_thought_columns v_thought_holes v_thought_out v_thought_night v_thought_air v_thought_open v_thought_paste
    else
      kb8 (f_X10_copy v_thought_rows v_thought_columns v_thought_holes v_thought_out v_thought_night v_thought_air v_thought_open v_thought_paste v_now_wall_rows v_now_wall_columns v_now_wall_holes v_now_wall_out v_now_wall_night v_now_wall_air v_now_wall_open v_now_wall_paste) fun w_22 w_23 w_24 w_25 w_26 w_27 w_28 w_29 =>
      kb5 (f_X10_strike x4 x7 x8 x3 n_now_moved_answers w_22 w_23 w_24 w_25 w_27 w_28 w_29 v_now_moved_length v_now_moved_side v_now_moved_round v_now_moved_answers v_now_moved_stack v_now_moved_steps) fun w_31 w_32 w_33 w_34 w_35 =>
      kb13 (f_X11_bestFrom x4 x3 n_now_moved_answers n_now_seen_answers v_further_rows v_further_columns v_further_holes v_further_out v_further_night v_further_air v_further_open v_further_paste v_now_moved_length v_now_moved_side v_now_moved_round w_34 w_35 v_now_moved_steps v_now_seen_length v_now_seen_side v_now_seen_round v_now_seen_answers v_now_seen_stack v_now_seen_steps w_22 w_23 w_31 w_32 w_26 w_33 w_28 w_29) fun r_37 w_38 w_39 w_40 w_41 w_42 w_43 w_44 w_45 w_46 w_47 w_48 w_49 =>
      kb (f_X11_partOfBest r_37 1) fun r_51 =>
      nm (r_51 * 1000 : Int32) fun t_52 =>
      nm (t_52 + (10 * x7) : Int32) fun t_53 =>
      nm (t_53 + x8 : Int32) fun t_54 =>
      nm (if t_54 < x6 then t_54 else x6 : Int32) fun t_55 =>
      nm (x8 + 1 : Int32) fun t_56 =>
      f_X11_bestTwo_L69 kk_L59 a_2 n_now_moved_answers n_now_seen_answers v_now_moved_length v_now_moved_side v_now_moved_round v_now_moved_steps v_now_seen_length v_now_seen_side v_now_seen_round v_now_seen_steps v_now_wall_rows v_now_wall_columns v_now_wall_holes v_now_wall_out v_now_wall_night v_now_wall_air v_now_wall_open v_now_wall_paste n x3 x4 x5 t_55 x7 t_56 v_errors w_38 w_39 w_40 w_41 w_42 w_43 w_44 w_45 w_46 w_47 w_48 w_49 w_22 w_23 w_31 w_32 w_26 w_33 w_28 w_29

def f_X11_bestTwo_L59 (a_2 : Int32) (n_now_moved_answers : Nat) (n_now_seen_answers : Nat) (v_now_moved_length : Int32) (v_now_moved_side : Int32) (v_now_moved_round : Int32) (v_now_moved_steps : Nat → Int32) (v_now_seen_length : Int32) (v_now_seen_side : Int32) (v_now_seen_round : Int32) (v_now_seen_steps : Nat → Int32) (v_now_wall_rows : Int32) (v_now_wall_columns : Int32) (v_now_wall_holes : Int32) (v_now_wall_out : Int32) (v_now_wall_night : Int32) (v_now_wall_air : Nat → Int32) (v_now_wall_open : Nat → Int32) (v_now_wall_paste : Nat → Int32) : Nat → Int32 → Int32 → Int32 → Int32 → Int32 → (Nat → Int32) → Int32 → Int32 → Int32 → Int32 → Int32 → (Nat → Int32) → (Nat → Int32) → (Nat → Int32) → (Nat → Int32) → (Nat → Int32) → (Nat → Int32) → (Nat → Int32) → Int32 → Int32 → Int32 → Int32 → Int32 → (Nat → Int32) → (Nat → Int32) → (Nat → Int32) → Option (Int32 × (Nat → Int32) × Int32 × Int32 × Int32 × Int32 × Int32 × (Nat → Int32) × (Nat → Int32) × (Nat → Int32) × (Nat → Int32) × (Nat → Int32) × (Nat → Int32) × (Nat → Int32) × Int32 × Int32 × Int32 × Int32 × Int32 × (Nat → Int32) × (Nat → Int32) × (Nat → Int32))
  | 0, _, _, _, _, _, _, _, _, _, _, _, _, _, _, _, _, _, _, _, _, _, _, _, _, _, _ => none
  | n + 1, x3, x4, x5, x6, x7, v_errors, v_further_rows, v_further_columns, v_further_holes, v_further_out, v_further_night, v_further_air, v_further_open, v_further_paste, v_now_moved_answers, v_now_moved_stack, v_now_seen_answers, v_now_seen_stack, v_thought_rows, v_thought_columns, v_thought_holes, v_thought_out, v_thought_night, v_thought_air, v_thought_open, v_thought_paste =>
    if x5 ≤ x7 then
      kb (f_X11_partOfBest x6 a_2) fun r_18 =>
      some (r_18, v_errors, v_further_rows, v_further_columns, v_further_holes, v_further_out, v_further_night, v_further_air, v_further_open, v_further_paste, v_now_moved_answers, v_now_moved_stack, v_now_seen_answers, v_now_seen_stack, v_thought_rows, v_thought_columns, v_thought_holes, v_thought_out, v_thought_night, v_thought_air, v_thought_open, v_thought_paste)
    else
      f_X11_bestTwo_L69 (f_X11_bestTwo_L59 a_2 n_now_moved_answers n_now_seen_answers v_now_moved_length v_now_moved_side v_now_moved_round v_now_moved_steps v_now_seen_length v_now_seen_side v_now_seen_round v_now_seen_steps v_now_wall_rows v_now_wall_columns v_now_wall_holes v_now_wall_out v_now_wall_night v_now_wall_air v_now_wall_open v_now_wall_paste n) a_2 n_now_moved_answers n_now_seen_answers v_now_moved_length v_now_moved_side v_now_moved_round v_now_moved_steps v_now_seen_length v_now_seen_side v_now_seen_round v_now_seen_steps v_now_wall_rows v_now_wall_columns v_now_wall_holes v_now_wall_out v_now_wall_night v_now_wall_air v_now_wall_open v_now_wall_paste gFuel x3 x4 x5 x6 x7 0 v_errors v_further_rows v_further_columns v_further_holes v_further_out v_further_night v_further_air v_further_open v_further_paste v_now_moved_answers v_now_moved_stack v_now_seen_answers v_now_seen_stack v_thought_rows v_thought_columns v_thought_holes v_thought_out v_thought_night v_thought_air v_thought_open v_thought_paste

def f_X11_bestTwo (a_1 : Int32) (a_2 : Int32) (n_now_moved_answers : Nat) (n_now_seen_answers : Nat) (v_errors : Nat → Int32) (v_further_rows : Int32) (v_further_columns : Int32) (v_further_holes : Int32) (v_further_out : Int32) (v_further_night : Int32) (v_further_air : Nat → Int32) (v_further_open : Nat → Int32) (v_further_paste : Nat → Int32) (v_now_tools : Int32) (v_now_kind : Nat → Int32) (v_now_m : Nat → Int32) (v_now_moved_length : Int32) (v_now_moved_side : Int32) (v_now_moved_round : Int32) (v_now_moved_answers : Nat → Int32) (v_now_moved_stack : Nat → Int32) (v_now_moved_steps : Nat → Int32) (v_now_seen_length : Int32) (v_now_seen_side : Int32) (v_now_seen_round : Int32) (v_now_seen_answers : Nat → Int32) (v_now_seen_stack : Nat → Int32) (v_now_seen_steps : Nat → Int32) (v_now_wall_rows : Int32) (v_now_wall_columns : Int32) (v_now_wall_holes : Int32) (v_now_wall_out : Int32) (v_now_wall_night : Int32) (v_now_wall_air : Nat → Int32) (v_now_wall_open : Nat → Int32) (v_now_wall_paste : Nat → Int32) (v_thought_rows : Int32) (v_thought_columns : Int32) (v_thought_holes : Int32) (v_thought_out : Int32) (v_thought_night : Int32) (v_thought_air : Nat → Int32) (v_thought_open : Nat → Int32) (v_thought_paste : Nat → Int32) : Option (Int32 × (Nat → Int32) × Int32 × Int32 × Int32 × Int32 × Int32 × (Nat → Int32) × (Nat → Int32) × (Nat → Int32) × (Nat → Int32) × (Nat → Int32) × (Nat → Int32) × (Nat → Int32) × Int32 × Int32 × Int32 × Int32 × Int32 × (Nat → Int32) × (Nat → Int32) × (Nat → Int32)) :=
  kb (f_X11_isTool a_1 v_now_tools) fun r_2 =>
  if r_2 = 0 then
    f_X11_bestTwo_L17 v_errors v_further_rows v_further_columns v_further_holes v_further_out v_further_night v_further_air v_further_open v_further_paste v_now_moved_answers v_now_moved_stack v_now_seen_answers v_now_seen_stack v_thought_rows v_thought_columns v_thought_holes v_thought_out v_thought_night v_thought_air v_thought_open v_thought_paste
  else
    kb (f_X11_within a_2 0 1) fun r_5 =>
    if r_5 = 0 then
      f_X11_bestTwo_L17 v_errors v_further_rows v_further_columns v_further_holes v_further_out v_further_night v_further_air v_further_open v_further_paste v_now_moved_answers v_now_moved_stack v_now_seen_answers v_now_seen_stack v_thought_rows v_thought_columns v_thought_holes v_thought_out v_thought_night v_thought_air v_thought_open v_thought_paste
    else
      kb (f_X11_kindOf a_1 v_now_tools v_now_kind) fun r_8 =>
      chi a_1 6 <|
      nm (v_now_m a_1.toNatClampNeg : Int32) fun t_10 =>
      kb (f_X10_cells v_now_wall_rows v_now_wall_columns) fun r_12 =>
      f_X11_bestTwo_L59 a_2 n_now_moved_answers n_now_seen_answers v_now_moved_length v_now_moved_side v_now_moved_round v_now_moved_steps v_now_seen_length v_now_seen_side v_now_seen_round v_now_seen_steps v_now_wall_rows v_now_wall_columns v_now_wall_holes v_now_wall_out v_now_wall_night v_now_wall_air v_now_wall_open v_now_wall_paste gFuel r_8 t_10 r_12 2147483647 0 v_errors v_further_rows v_further_columns v_further_holes v_further_out v_further_night v_further_air v_further_open v_further_paste v_now_moved_answers v_now_moved_stack v_now_seen_answers v_now_seen_stack v_thought_rows v_thought_columns v_thought_holes v_thought_out v_thought_night v_thought_air v_thought_open v_thought_paste

def f_X11_biggest (a_1 : Int32) (v_errors : Nat → Int32) (v_now_wall_rows : Int32) (v_now_wall_columns : Int32) (v_now_wall_inLine : Int32) (v_now_wall_air : Nat → Int32) (v_now_wall_line : Nat → Int32) (v_now_wall_met : Nat → Int32) : Option (Int32 × (Nat → Int32) × Int32 × (Nat → Int32) × (Nat → Int32)) :=
  kb (f_X11_within a_1 0 1) fun r_2 =>
  if r_2 = 0 then
    kb2 (f_X11_error 1 v_errors) fun r_20 w_21 =>
    some (r_20, w_21, v_now_wall_inLine, v_now_wall_line, v_now_wall_met)
  else
    kb4 (f_X10_cellOfBiggest v_now_wall_rows v_now_wall_columns v_now_wall_inLine v_now_wall_air v_now_wall_line v_now_wall_met) fun r_5 w_6 w_7 w_8 =>
    if 0 ≤ r_5 then
      if a_1 = 0 then
        kb4 (f_X10_sizeOfBubble r_5 v_now_wall_rows v_now_wall_columns w_6 v_now_wall_air w_7 w_8) fun r_12 w_13 w_14 w_15 =>
        some (r_12, v_errors, w_13, w_14, w_15)
      else
        some (r_5, v_errors, w_6, w_7, w_8)
    else
      kb2 (f_X11_error 2 v_errors) fun r_17 w_18 =>
      some (r_17, w_18, w_6, w_7, w_8)

def f_X11_bubbles (v_now_wall_rows : Int32) (v_now_wall_columns : Int32) (v_now_wall_inLine : Int32) (v_now_wall_air : Nat → Int32) (v_now_wall_line : Nat → Int32) (v_now_wall_met : Nat → Int32) : Option (Int32 × Int32 × (Nat → Int32) × (Nat → Int32)) :=
  kb4 (f_X10_countBubbles v_now_wall_rows v_now_wall_columns v_now_wall_inLine v_now_wall_air v_now_wall_line v_now_wall_met) fun r_2 w_3 w_4 w_5 =>
  some (r_2, w_3, w_4, w_5)

def f_X11_firstUnlike_L17 (a_1 : Int32) (v_sheetLength : Nat → Int32) (v_p2_rows : Int32) (v_p2_columns : Int32) (v_p2_air : Nat → Int32) (v_numbers_el : Nat → Nat → Int32) : Nat → Int32 → Int32 → Option (Int32)
  | 0, _, _ => none
  | n + 1, x3, x4 =>
    if x3 ≤ x4 then
      some (-1)
    else
      chi a_1 4 <|
      if (v_sheetLength a_1.toNatClampNeg) ≤ x4 then
        some x4
      else
        kb (f_X10_has x4 v_p2_rows v_p2_columns) fun r_10 =>
        if r_10 = 0 then
          some x4
        else
          chi a_1 4 <|
          chi x4 40 <|
          nm ((v_numbers_el a_1.toNatClampNeg) x4.toNatClampNeg : Int32) fun t_14 =>
          chi x4 25 <|
          if t_14 = (v_p2_air x4.toNatClampNeg) then
            nm (x4 + 1 : Int32) fun t_17 =>
            f_X11_firstUnlike_L17 a_1 v_sheetLength v_p2_rows v_p2_columns v_p2_air v_numbers_el n x3 t_17
          else
            some x4

def f_X11_firstUnlike (a_1 : Int32) (v_sheetLength : Nat → Int32) (v_p2_rows : Int32) (v_p2_columns : Int32) (v_p2_air : Nat → Int32) (v_numbers_el : Nat → Nat → Int32) : Option (Int32) :=
  chi a_1 4 <|
  nm (v_sheetLength a_1.toNatClampNeg : Int32) fun t_2 =>
  kb (f_X10_cells v_p2_rows v_p2_columns) fun r_4 =>
  nm (if t_2 < r_4 then r_4 else t_2 : Int32) fun t_5 =>
  f_X11_firstUnlike_L17 a_1 v_sheetLength v_p2_rows v_p2_columns v_p2_air v_numbers_el gFuel t_5 0

def f_X11_isCell (a_1 : Int32) (v_now_wall_rows : Int32) (v_now_wall_columns : Int32) : Option (Int32) :=
  kb (f_X10_has a_1 v_now_wall_rows v_now_wall_columns) fun r_2 =>
  chb r_2 <|
  some r_2

def f_X11_came_L31 (v_errors : Nat → Int32) (v_now_moved_answers : Nat → Int32) (v_now_moved_stack : Nat → Int32) (v_thought_rows : Int32) (v_thought_columns : Int32) (v_thought_holes : Int32) (v_thought_out : Int32) (v_thought_night : Int32) (v_thought_air : Nat → Int32) (v_thought_open : Nat → Int32) (v_thought_paste : Nat → Int32) : Option (Int32 × (Nat → Int32) × (Nat → Int32) × (Nat → Int32) × Int32 × Int32 × Int32 × Int32 × Int32 × (Nat → Int32) × (Nat → Int32) × (Nat → Int32)) :=
  kb2 (f_X11_error 1 v_errors) fun r_20 w_21 =>
  some (r_20, w_21, v_now_moved_answers, v_now_moved_stack, v_thought_rows, v_thought_columns, v_thought_holes, v_thought_out, v_thought_night, v_thought_air, v_thought_open, v_thought_paste)

def f_X11_came_L55 (a_1 : Int32) (a_2 : Int32) (a_3 : Int32) (a_4 : Int32) (n_now_moved_answers : Nat) (v_now_m : Nat → Int32) (v_now_moved_length : Int32) (v_now_moved_side : Int32) (v_now_moved_round : Int32) (v_now_moved_steps : Nat → Int32) (v_now_wall_rows : Int32) (v_now_wall_columns : Int32) (v_now_wall_holes : Int32) (v_now_wall_out : Int32) (v_now_wall_night : Int32) (v_now_wall_air : Nat → Int32) (v_now_wall_open : Nat → Int32) (v_now_wall_paste : Nat → Int32) (v_sheetLength : Nat → Int32) (v_numbers_el : Nat → Nat → Int32) : Nat → Int32 → (Nat → Int32) → (Nat → Int32) → (Nat → Int32) → Int32 → Int32 → Int32 → Int32 → Int32 → (Nat → Int32) → (Nat → Int32) → (Nat → Int32) → Option (Int32 × (Nat → Int32) × (Nat → Int32) × (Nat → Int32) × Int32 × Int32 × Int32 × Int32 × Int32 × (Nat → Int32) × (Nat → Int32) × (Nat → Int32))
  | 0, _, _, _, _, _, _, _, _, _, _, _, _ => none
  | n + 1, x5, v_errors, v_now_moved_answers, v_now_moved_stack, v_thought_rows, v_thought_columns, v_thought_holes, v_thought_out, v_thought_night, v_thought_air, v_thought_open, v_thought_paste =>
    if 7 ≤ x5 then
      kb2 (f_X11_error 2 v_errors) fun r_24 w_25 =>
      some (r_24, w_25, v_now_moved_answers, v_now_moved_stack, v_thought_rows, v_thought_columns, v_thought_holes, v_thought_out, v_thought_night, v_thought_air, v_thought_open, v_thought_paste)
    else
      kb8 (f_X10_copy v_thought_rows v_thought_columns v_thought_holes v_thought_out v_thought_night v_thought_air v_thought_open v_thought_paste v_now_wall_rows v_now_wall_columns v_now_wall_holes v_now_wall_out v_now_wall_night v_now_wall_air v_now_wall_open v_now_wall_paste) fun w_27 w_28 w_29 w_30 w_31 w_32 w_33 w_34 =>
      kb (f_X11_kindAt x5) fun r_36 =>
      chi a_1 6 <|
      nm (v_now_m a_1.toNatClampNeg : Int32) fun t_38 =>
      kb5 (f_X10_strike t_38 a_2 a_3 r_36 n_now_moved_answers w_27 w_28 w_29 w_30 w_32 w_33 w_34 v_now_moved_length v_now_moved_side v_now_moved_round v_now_moved_answers v_now_moved_stack v_now_moved_steps) fun w_40 w_41 w_42 w_43 w_44 =>
      kb (f_X11_firstUnlike a_4 v_sheetLength w_27 w_28 w_42 v_numbers_el) fun r_46 =>
      if 0 ≤ r_46 then
        nm (x5 + 1 : Int32) fun t_48 =>
        f_X11_came_L55 a_1 a_2 a_3 a_4 n_now_moved_answers v_now_m v_now_moved_length v_now_moved_side v_now_moved_round v_now_moved_steps v_now_wall_rows v_now_wall_columns v_now_wall_holes v_now_wall_out v_now_wall_night v_now_wall_air v_now_wall_open v_now_wall_paste v_sheetLength v_numbers_el n t_48 v_errors w_43 w_44 w_27 w_28 w_40 w_41 w_31 w_42 w_33 w_34
      else
        some (x5, v_errors, w_43, w_44, w_27, w_28, w_40, w_41, w_31, w_42, w_33, w_34)

def f_X11_came (a_1 : Int32) (a_2 : Int32) (a_3 : Int32) (a_4 : Int32) (n_now_moved_answers : Nat) (v_errors : Nat → Int32) (v_now_tools : Int32) (v_now_m : Nat → Int32) (v_now_moved_length : Int32) (v_now_moved_side : Int32) (v_now_moved_round : Int32) (v_now_moved_answers : Nat → Int32) (v_now_moved_stack : Nat → Int32) (v_now_moved_steps : Nat → Int32) (v_now_wall_rows : Int32) (v_now_wall_columns : Int32) (v_now_wall_holes : Int32) (v_now_wall_out : Int32) (v_now_wall_night : Int32) (v_now_wall_air : Nat → Int32) (v_now_wall_open : Nat → Int32) (v_now_wall_paste : Nat → Int32) (v_sheetBits : Nat → Int32) (v_sheetLength : Nat → Int32) (v_thought_rows : Int32) (v_thought_columns : Int32) (v_thought_holes : Int32) (v_thought_out : Int32) (v_thought_night : Int32) (v_thought_air : Nat → Int32) (v_thought_open : Nat → Int32) (v_thought_paste : Nat → Int32) (v_numbers_el : Nat → Nat → Int32) : Option (Int32 × (Nat → Int32) × (Nat → Int32) × (Nat → Int32) × Int32 × Int32 × Int32 × Int32 × Int32 × (Nat → Int32) × (Nat → Int32) × (Nat → Int32)) :=
  kb (f_X11_isTool a_1 v_now_tools) fun r_2 =>
  if r_2 = 0 then
    f_X11_came_L31 v_errors v_now_moved_answers v_now_moved_stack v_thought_rows v_thought_columns v_thought_holes v_thought_out v_thought_night v_thought_air v_thought_open v_thought_paste
  else
    kb (f_X11_isCell a_2 v_now_wall_rows v_now_wall_columns) fun r_5 =>
    if r_5 = 0 then
      f_X11_came_L31 v_errors v_now_moved_answers v_now_moved_stack v_thought_rows v_thought_columns v_thought_holes v_thought_out v_thought_night v_thought_air v_thought_open v_thought_paste
    else
      kb (f_X11_isWay a_3) fun r_8 =>
      if r_8 = 0 then
        f_X11_came_L31 v_errors v_now_moved_answers v_now_moved_stack v_thought_rows v_thought_columns v_thought_holes v_thought_out v_thought_night v_thought_air v_thought_open v_thought_paste
      else
        kb (f_X11_isSheet a_4) fun r_11 =>
        if r_11 = 0 then
          f_X11_came_L31 v_errors v_now_moved_answers v_now_moved_stack v_thought_rows v_thought_columns v_thought_holes v_thought_out v_thought_night v_thought_air v_thought_open v_thought_paste
        else
          kb (f_X11_isMissing a_4 v_sheetBits) fun r_14 =>
          if r_14 = 0 then
            f_X11_came_L55 a_1 a_2 a_3 a_4 n_now_moved_answers v_now_m v_now_moved_length v_now_moved_side v_now_moved_round v_now_moved_steps v_now_wall_rows v_now_wall_columns v_now_wall_holes v_now_wall_out v_now_wall_night v_now_wall_air v_now_wall_open v_now_wall_paste v_sheetLength v_numbers_el gFuel 0 v_errors v_now_moved_answers v_now_moved_stack v_thought_rows v_thought_columns v_thought_holes v_thought_out v_thought_night v_thought_air v_thought_open v_thought_paste
          else
            kb2 (f_X11_error 2 v_errors) fun r_17 w_18 =>
            some (r_17, w_18, v_now_moved_answers, v_now_moved_stack, v_thought_rows, v_thought_columns, v_thought_holes, v_thought_out, v_thought_night, v_thought_air, v_thought_open, v_thought_paste)

def f_X11_check_L32 (v_now_told : Nat → Int32) : Nat → Int32 → Int32 → Int32 → Int32 → Int32 → Int32 → Int32 → Int32 → (Nat → Int32) → (Nat → Int32) → (Nat → Int32) → Option (Int32 × Int32 × Int32 × Int32 × Int32 × Int32 × Int32 × (Nat → Int32) × (Nat → Int32) × (Nat → Int32))
  | 0, _, _, _, _, _, _, _, _, _, _, _ => none
  | n + 1, x1, x2, v_now_waiting, v_thought_rows, v_thought_columns, v_thought_holes, v_thought_out, v_thought_night, v_thought_air, v_thought_open, v_thought_paste =>
    if x1 ≤ x2 then
      some (0, v_now_waiting, v_thought_rows, v_thought_columns, v_thought_holes, v_thought_out, v_thought_night, v_thought_air, v_thought_open, v_thought_paste)
    else
      if 20 ≤ x2 then
        some (0, v_now_waiting, v_thought_rows, v_thought_columns, v_thought_holes, v_thought_out, v_thought_night, v_thought_air, v_thought_open, v_thought_paste)
      else
        kb3 (f_X10_passNight v_thought_rows v_thought_columns v_thought_night v_thought_air v_thought_paste) fun w_13 w_14 w_15 =>
        chi x2 20 <|
        nm (v_now_told x2.toNatClampNeg : Int32) fun t_17 =>
        kb (f_X10_allAir v_thought_rows v_thought_columns w_14) fun r_19 =>
        if t_17 = r_19 then
          nm (x2 + 1 : Int32) fun t_21 =>
          f_X11_check_L32 v_now_told n x1 t_21 v_now_waiting v_thought_rows v_thought_columns v_thought_holes v_thought_out w_13 w_14 v_thought_open w_15
        else
          some (1 + x2, v_now_waiting, v_thought_rows, v_thought_columns, v_thought_holes, v_thought_out, w_13, w_14, v_thought_open, w_15)

def f_X11_check (v_now_waiting : Int32) (v_now_told : Nat → Int32) (v_now_wall_rows : Int32) (v_now_wall_columns : Int32) (v_now_wall_holes : Int32) (v_now_wall_out : Int32) (v_now_wall_night : Int32) (v_now_wall_air : Nat → Int32) (v_now_wall_open : Nat → Int32) (v_now_wall_paste : Nat → Int32) (v_thought_rows : Int32) (v_thought_columns : Int32) (v_thought_holes : Int32) (v_thought_out : Int32) (v_thought_night : Int32) (v_thought_air : Nat → Int32) (v_thought_open : Nat → Int32) (v_thought_paste : Nat → Int32) : Option (Int32 × Int32 × Int32 × Int32 × Int32 × Int32 × Int32 × (Nat → Int32) × (Nat → Int32) × (Nat → Int32)) :=
  kb8 (f_X10_copy v_thought_rows v_thought_columns v_thought_holes v_thought_out v_thought_night v_thought_air v_thought_open v_thought_paste v_now_wall_rows v_now_wall_columns v_now_wall_holes v_now_wall_out v_now_wall_night v_now_wall_air v_now_wall_open v_now_wall_paste) fun w_2 w_3 w_4 w_5 w_6 w_7 w_8 w_9 =>
  f_X11_check_L32 v_now_told gFuel v_now_waiting 0 0 w_2 w_3 w_4 w_5 w_6 w_7 w_8 w_9

def f_X11_count (a_1 : Int32) (v_errors : Nat → Int32) (v_now_tools : Int32) (v_now_tapeLength : Int32) (v_now_z : Int32) (v_now_waiting : Int32) (v_now_wall_rows : Int32) (v_now_wall_columns : Int32) (v_now_wall_holes : Int32) (v_now_wall_out : Int32) (v_now_wall_night : Int32) (v_now_wall_air : Nat → Int32) (v_now_wall_open : Nat → Int32) (v_voice_length : Int32) : Option (Int32 × (Nat → Int32)) :=
  if a_1 = 0 then
    kb (f_X10_cells v_now_wall_rows v_now_wall_columns) fun r_3 =>
    some (r_3, v_errors)
  else
    if a_1 = 1 then
      some (v_now_tools, v_errors)
    else
      if a_1 = 2 then
        kb (f_X10_allAir v_now_wall_rows v_now_wall_columns v_now_wall_air) fun r_7 =>
        some (r_7, v_errors)
      else
        if a_1 = 3 then
          some (v_now_wall_holes, v_errors)
        else
          if a_1 = 4 then
            some (v_now_wall_out, v_errors)
          else
            if a_1 = 5 then
              some (v_now_wall_night, v_errors)
            else
              if a_1 = 6 then
                kb (f_X10_cellsWithAir v_now_wall_rows v_now_wall_columns v_now_wall_air) fun r_13 =>
                some (r_13, v_errors)
              else
                if a_1 = 7 then
                  kb (f_X10_openBits v_now_wall_open) fun r_16 =>
                  some (r_16, v_errors)
                else
                  if a_1 = 8 then
                    some (v_now_tapeLength, v_errors)
                  else
                    if a_1 = 9 then
                      some (v_now_waiting, v_errors)
                    else
                      if a_1 = 10 then
                        some (v_voice_length, v_errors)
                      else
                        if a_1 = 11 then
                          some (v_now_z, v_errors)
                        else
                          kb2 (f_X11_error 1 v_errors) fun r_22 w_23 =>
                          some (r_22, w_23)

def f_X7_draw (a_1 : Int32) (v_z : Int32) : Option (Int32 × Int32) :=
  nm (v_z * 1103515245 : Int32) fun t_1 =>
  nm (t_1 + 12345 : Int32) fun t_2 =>
  if a_1 ≤ 0 then
    some (0, t_2)
  else
    nm ((t_2.toUInt32 >>> (Int32.toUInt32 8 &&& Int32.toUInt32 31)).toInt32 : Int32) fun t_4 =>
    chz a_1 <|
    nm (t_4 - t_4 / a_1 * a_1 : Int32) fun t_6 =>
    some (t_6, t_2)

def f_X11_days_L44 (v_errors : Nat → Int32) (v_now_z : Int32) (v_now_moved_answers : Nat → Int32) (v_now_moved_stack : Nat → Int32) (v_now_wall_holes : Int32) (v_now_wall_out : Int32) (v_now_wall_night : Int32) (v_now_wall_air : Nat → Int32) (v_now_wall_paste : Nat → Int32) : Option (Int32 × (Nat → Int32) × Int32 × (Nat → Int32) × (Nat → Int32) × Int32 × Int32 × Int32 × (Nat → Int32) × (Nat → Int32)) :=
  kb2 (f_X11_error 3 v_errors) fun r_10 w_11 =>
  some (r_10, w_11, v_now_z, v_now_moved_answers, v_now_moved_stack, v_now_wall_holes, v_now_wall_out, v_now_wall_night, v_now_wall_air, v_now_wall_paste)

def f_X11_days_L52 (a_1 : Int32) (n_now_moved_answers : Nat) (v_now_tools : Int32) (v_now_kind : Nat → Int32) (v_now_m : Nat → Int32) (v_now_moved_length : Int32) (v_now_moved_side : Int32) (v_now_moved_round : Int32) (v_now_moved_steps : Nat → Int32) (v_now_wall_rows : Int32) (v_now_wall_columns : Int32) (v_now_wall_open : Nat → Int32) : Nat → Int32 → (Nat → Int32) → Int32 → (Nat → Int32) → (Nat → Int32) → Int32 → Int32 → Int32 → (Nat → Int32) → (Nat → Int32) → Option (Int32 × (Nat → Int32) × Int32 × (Nat → Int32) × (Nat → Int32) × Int32 × Int32 × Int32 × (Nat → Int32) × (Nat → Int32))
  | 0, _, _, _, _, _, _, _, _, _, _ => none
  | n + 1, x2, v_errors, v_now_z, v_now_moved_answers, v_now_moved_stack, v_now_wall_holes, v_now_wall_out, v_now_wall_night, v_now_wall_air, v_now_wall_paste =>
    if a_1 ≤ x2 then
      kb (f_X10_allAir v_now_wall_rows v_now_wall_columns v_now_wall_air) fun r_14 =>
      some (r_14, v_errors, v_now_z, v_now_moved_answers, v_now_moved_stack, v_now_wall_holes, v_now_wall_out, v_now_wall_night, v_now_wall_air, v_now_wall_paste)
    else
      kb2 (f_X7_draw v_now_tools v_now_z) fun r_16 w_17 =>
      kb (f_X10_cells v_now_wall_rows v_now_wall_columns) fun r_19 =>
      kb2 (f_X7_draw r_19 w_17) fun r_21 w_22 =>
      kb2 (f_X7_draw 4 w_22) fun r_24 w_25 =>
      kb (f_X11_kindOf r_16 v_now_tools v_now_kind) fun r_27 =>
      chi r_16 6 <|
      nm (v_now_m r_16.toNatClampNeg : Int32) fun t_29 =>
      kb5 (f_X10_strike t_29 r_21 r_24 r_27 n_now_moved_answers v_now_wall_rows v_now_wall_columns v_now_wall_holes v_now_wall_out v_now_wall_air v_now_wall_open v_now_wall_paste v_now_moved_length v_now_moved_side v_now_moved_round v_now_moved_answers v_now_moved_stack v_now_moved_steps) fun w_31 w_32 w_33 w_34 w_35 =>
      kb3 (f_X10_passNight v_now_wall_rows v_now_wall_columns v_now_wall_night w_33 v_now_wall_paste) fun w_37 w_38 w_39 =>
      nm (x2 + 1 : Int32) fun t_40 =>
      f_X11_days_L52 a_1 n_now_moved_answers v_now_tools v_now_kind v_now_m v_now_moved_length v_now_moved_side v_now_moved_round v_now_moved_steps v_now_wall_rows v_now_wall_columns v_now_wall_open n t_40 v_errors w_25 w_34 w_35 w_31 w_32 w_37 w_38 w_39

def f_X11_days (a_1 : Int32) (n_now_moved_answers : Nat) (v_errors : Nat → Int32) (v_now_tools : Int32) (v_now_z : Int32) (v_now_kind : Nat → Int32) (v_now_m : Nat → Int32) (v_now_moved_length : Int32) (v_now_moved_side : Int32) (v_now_moved_round : Int32) (v_now_moved_answers : Nat → Int32) (v_now_moved_stack : Nat → Int32) (v_now_moved_steps : Nat → Int32) (v_now_wall_rows : Int32) (v_now_wall_columns : Int32) (v_now_wall_holes : Int32) (v_now_wall_out : Int32) (v_now_wall_night : Int32) (v_now_wall_air : Nat → Int32) (v_now_wall_open : Nat → Int32) (v_now_wall_paste : Nat → Int32) : Option (Int32 × (Nat → Int32) × Int32 × (Nat → Int32) × (Nat → Int32) × Int32 × Int32 × Int32 × (Nat → Int32) × (Nat → Int32)) :=
  kb (f_X11_within a_1 1 30) fun r_2 =>
  if r_2 = 0 then
    kb2 (f_X11_error 1 v_errors) fun r_7 w_8 =>
    some (r_7, w_8, v_now_z, v_now_moved_answers, v_now_moved_stack, v_now_wall_holes, v_now_wall_out, v_now_wall_night, v_now_wall_air, v_now_wall_paste)
  else
    if (999 - a_1) < v_now_wall_night then
      f_X11_days_L44 v_errors v_now_z v_now_moved_answers v_now_moved_stack v_now_wall_holes v_now_wall_out v_now_wall_night v_now_wall_air v_now_wall_paste
    else
      if v_now_tools = 0 then
        f_X11_days_L44 v_errors v_now_z v_now_moved_answers v_now_moved_stack v_now_wall_holes v_now_wall_out v_now_wall_night v_now_wall_air v_now_wall_paste
      else
        f_X11_days_L52 a_1 n_now_moved_answers v_now_tools v_now_kind v_now_m v_now_moved_length v_now_moved_side v_now_moved_round v_now_moved_steps v_now_wall_rows v_now_wall_columns v_now_wall_open gFuel 0 v_errors v_now_z v_now_moved_answers v_now_moved_stack v_now_wall_holes v_now_wall_out v_now_wall_night v_now_wall_air v_now_wall_paste

def f_X11_edge_L16 (v_errors : Nat → Int32) (v_now_wall_open : Nat → Int32) : Option (Int32 × (Nat → Int32) × (Nat → Int32)) :=
  kb2 (f_X11_error 1 v_errors) fun r_12 w_13 =>
  some (r_12, w_13, v_now_wall_open)

def f_X11_edge (a_1 : Int32) (a_2 : Int32) (v_errors : Nat → Int32) (v_now_wall_open : Nat → Int32) : Option (Int32 × (Nat → Int32) × (Nat → Int32)) :=
  kb (f_X11_isWay a_1) fun r_2 =>
  if r_2 = 0 then
    f_X11_edge_L16 v_errors v_now_wall_open
  else
    kb (f_X11_within a_2 0 1) fun r_5 =>
    if r_5 = 0 then
      f_X11_edge_L16 v_errors v_now_wall_open
    else
      chi a_1 4 <|
      nm (v_now_wall_open a_1.toNatClampNeg : Int32) fun t_8 =>
      chi a_1 4 <|
      nm (upd v_now_wall_open a_1.toNatClampNeg a_2) fun w_10 =>
      some (t_8, v_errors, w_10)

def f_X7_addByte (a_1 : Int32) (v_tapeLength : Int32) (v_tape : Nat → Int32) : Option (Int32 × (Nat → Int32)) :=
  kb (f_X11_within v_tapeLength 0 49) fun r_2 =>
  if r_2 = 0 then
    some (v_tapeLength, v_tape)
  else
    chi v_tapeLength 50 <|
    nm (upd v_tape v_tapeLength.toNatClampNeg a_1) fun w_5 =>
    nm (v_tapeLength + 1 : Int32) fun t_6 =>
    some (t_6, w_5)

def f_X11_feed_L39 (a_1 : Int64) (a_3 : Int32) : Nat → Int32 → (Nat → Int32) → Int32 → (Nat → Int32) → Option (Int32 × (Nat → Int32) × Int32 × (Nat → Int32))
  | 0, _, _, _, _ => none
  | n + 1, x4, v_errors, v_now_tapeLength, v_now_tape =>
    if a_3 ≤ x4 then
      some (v_now_tapeLength, v_errors, v_now_tapeLength, v_now_tape)
    else
      nm (8 * x4 : Int32) fun t_12 =>
      nm ((((a_1.toUInt64 >>> ((t_12 : Int32).toInt64.toUInt64 &&& Int64.toUInt64 63)).toInt64) : Int64).toInt32 : Int32) fun t_13 =>
      nm (t_13 &&& 255 : Int32) fun t_14 =>
      kb2 (f_X7_addByte t_14 v_now_tapeLength v_now_tape) fun w_16 w_17 =>
      nm (x4 + 1 : Int32) fun t_18 =>
      f_X11_feed_L39 a_1 a_3 n t_18 v_errors w_16 w_17

def f_X11_feed (a_1 : Int64) (a_3 : Int32) (v_errors : Nat → Int32) (v_now_tapeLength : Int32) (v_now_tape : Nat → Int32) : Option (Int32 × (Nat → Int32) × Int32 × (Nat → Int32)) :=
  kb (f_X11_within a_3 1 8) fun r_2 =>
  if r_2 = 0 then
    kb2 (f_X11_error 1 v_errors) fun r_9 w_10 =>
    some (r_9, w_10, v_now_tapeLength, v_now_tape)
  else
    if v_now_tapeLength ≤ (50 - a_3) then
      f_X11_feed_L39 a_1 a_3 gFuel 0 v_errors v_now_tapeLength v_now_tape
    else
      kb2 (f_X11_error 4 v_errors) fun r_6 w_7 =>
      some (r_6, w_7, v_now_tapeLength, v_now_tape)

def f_X11_nightsToGo_L4 (a_1 : Int32) : Nat → Int32 → Int32 → Option (Int32)
  | 0, _, _ => none
  | n + 1, x2, x3 =>
    if 30 < x3 then
      some 31
    else
      if 0 < x2 then
        nm (a_1 - x3 : Int32) fun t_3 =>
        nm (if 0 < t_3 then t_3 else 0 : Int32) fun t_4 =>
        nm (x2 - t_4 : Int32) fun t_5 =>
        nm (x3 + 1 : Int32) fun t_6 =>
        f_X11_nightsToGo_L4 a_1 n t_5 t_6
      else
        some x3

def f_X11_nightsToGo (a_0 : Int32) (a_1 : Int32) : Option (Int32) :=
  f_X11_nightsToGo_L4 a_1 gFuel a_0 0

def f_X11_goneBy (a_1 : Int32) (v_errors : Nat → Int32) (v_now_wall_rows : Int32) (v_now_wall_columns : Int32) (v_now_wall_air : Nat → Int32) (v_now_wall_paste : Nat → Int32) : Option (Int32 × (Nat → Int32)) :=
  kb (f_X11_isCell a_1 v_now_wall_rows v_now_wall_columns) fun r_2 =>
  if r_2 = 0 then
    kb2 (f_X11_error 1 v_errors) fun r_15 w_16 =>
    some (r_15, w_16)
  else
    chi a_1 25 <|
    nm (v_now_wall_air a_1.toNatClampNeg : Int32) fun t_5 =>
    chi a_1 25 <|
    nm (v_now_wall_paste a_1.toNatClampNeg : Int32) fun t_7 =>
    kb (f_X11_nightsToGo t_5 t_7) fun r_9 =>
    if 30 < r_9 then
      kb2 (f_X11_error 2 v_errors) fun r_12 w_13 =>
      some (r_12, w_13)
    else
      some (r_9, v_errors)

def f_X3_copy (v_length : Int32) (v_round : Int32) (v_steps : Nat → Int32) (v_p1_length : Int32) (v_p1_steps : Nat → Int32) : Option (Int32 × Int32 × (Nat → Int32)) :=
  chc 0 0 50 50 50 <|
  nm (va_cpy v_p1_steps v_steps (0 : Int32).toNatClampNeg (0 : Int32).toNatClampNeg (50 : Int32).toNatClampNeg) fun w_6 =>
  nm (v_round + 1 : Int32) fun t_7 =>
  some (v_p1_length, t_7, w_6)

def f_X7_copy (v_tools : Int32) (v_tapeLength : Int32) (v_z : Int32) (v_waiting : Int32) (v_kind : Nat → Int32) (v_m : Nat → Int32) (v_moved_length : Int32) (v_moved_round : Int32) (v_moved_steps : Nat → Int32) (v_seen_length : Int32) (v_seen_round : Int32) (v_seen_steps : Nat → Int32) (v_tape : Nat → Int32) (v_told : Nat → Int32) (v_wall_rows : Int32) (v_wall_columns : Int32) (v_wall_holes : Int32) (v_wall_out : Int32) (v_wall_night : Int32) (v_wall_air : Nat → Int32) (v_wall_open : Nat → Int32) (v_wall_paste : Nat → Int32) (v_p1_tools : Int32) (v_p1_tapeLength : Int32) (v_p1_z : Int32) (v_p1_waiting : Int32) (v_p1_kind : Nat → Int32) (v_p1_m : Nat → Int32) (v_p1_moved_length : Int32) (v_p1_moved_steps : Nat → Int32) (v_p1_seen_length : Int32) (v_p1_seen_steps : Nat → Int32) (v_p1_tape : Nat → Int32) (v_p1_told : Nat → Int32) (v_p1_wall_rows : Int32) (v_p1_wall_columns : Int32) (v_p1_wall_holes : Int32) (v_p1_wall_out : Int32) (v_p1_wall_night : Int32) (v_p1_wall_air : Nat → Int32) (v_p1_wall_open : Nat → Int32) (v_p1_wall_paste : Nat → Int32) : Option (Int32 × Int32 × Int32 × Int32 × (Nat → Int32) × (Nat → Int32) × Int32 × Int32 × (Nat → Int32) × Int32 × Int32 × (Nat → Int32) × (Nat → Int32) × (Nat → Int32) × Int32 × Int32 × Int32 × Int32 × Int32 × (Nat → Int32) × (Nat → Int32) × (Nat → Int32)) :=
  kb8 (f_X10_copy v_wall_rows v_wall_columns v_wall_holes v_wall_out v_wall_night v_wall_air v_wall_open v_wall_paste v_p1_wall_rows v_p1_wall_columns v_p1_wall_holes v_p1_wall_out v_p1_wall_night v_p1_wall_air v_p1_wall_open v_p1_wall_paste) fun w_2 w_3 w_4 w_5 w_6 w_7 w_8 w_9 =>
  chc 0 0 6 6 6 <|
  nm (va_cpy v_p1_kind v_kind (0 : Int32).toNatClampNeg (0 : Int32).toNatClampNeg (6 : Int32).toNatClampNeg) fun w_15 =>
  chc 0 0 6 6 6 <|
  nm (va_cpy v_p1_m v_m (0 : Int32).toNatClampNeg (0 : Int32).toNatClampNeg (6 : Int32).toNatClampNeg) fun w_21 =>
  chc 0 0 50 50 50 <|
  nm (va_cpy v_p1_tape v_tape (0 : Int32).toNatClampNeg (0 : Int32).toNatClampNeg (50 : Int32).toNatClampNeg) fun w_27 =>
  kb3 (f_X3_copy v_moved_length v_moved_round v_moved_steps v_p1_moved_length v_p1_moved_steps) fun w_29 w_30 w_31 =>
  kb3 (f_X3_copy v_seen_length v_seen_round v_seen_steps v_p1_seen_length v_p1_seen_steps) fun w_33 w_34 w_35 =>
  chc 0 0 20 20 20 <|
  nm (va_cpy v_p1_told v_told (0 : Int32).toNatClampNeg (0 : Int32).toNatClampNeg (20 : Int32).toNatClampNeg) fun w_41 =>
  some (v_p1_tools, v_p1_tapeLength, v_p1_z, v_p1_waiting, w_15, w_21, w_29, w_30, w_31, w_33, w_34, w_35, w_27, w_41, w_2, w_3, w_4, w_5, w_6, w_7, w_8, w_9)

def f_X11_image (v_images : Int32) (v_kept_tools : Int32) (v_kept_tapeLength : Int32) (v_kept_z : Int32) (v_kept_waiting : Int32) (v_kept_kind : Nat → Int32) (v_kept_m : Nat → Int32) (v_kept_moved_length : Int32) (v_kept_moved_round : Int32) (v_kept_moved_steps : Nat → Int32) (v_kept_seen_length : Int32) (v_kept_seen_round : Int32) (v_kept_seen_steps : Nat → Int32) (v_kept_tape : Nat → Int32) (v_kept_told : Nat → Int32) (v_kept_wall_rows : Int32) (v_kept_wall_columns : Int32) (v_kept_wall_holes : Int32) (v_kept_wall_out : Int32) (v_kept_wall_night : Int32) (v_kept_wall_air : Nat → Int32) (v_kept_wall_open : Nat → Int32) (v_kept_wall_paste : Nat → Int32) (v_now_tools : Int32) (v_now_tapeLength : Int32) (v_now_z : Int32) (v_now_waiting : Int32) (v_now_kind : Nat → Int32) (v_now_m : Nat → Int32) (v_now_moved_length : Int32) (v_now_moved_steps : Nat → Int32) (v_now_seen_length : Int32) (v_now_seen_steps : Nat → Int32) (v_now_tape : Nat → Int32) (v_now_told : Nat → Int32) (v_now_wall_rows : Int32) (v_now_wall_columns : Int32) (v_now_wall_holes : Int32) (v_now_wall_out : Int32) (v_now_wall_night : Int32) (v_now_wall_air : Nat → Int32) (v_now_wall_open : Nat → Int32) (v_now_wall_paste : Nat → Int32) : Option (Int32 × Int32 × Int32 × Int32 × Int32 × Int32 × (Nat → Int32) × (Nat → Int32) × Int32 × Int32 × (Nat → Int32) × Int32 × Int32 × (Nat → Int32) × (Nat → Int32) × (Nat → Int32) × Int32 × Int32 × Int32 × Int32 × Int32 × (Nat → Int32) × (Nat → Int32) × (Nat → Int32)) :=
  kb22 (f_X7_copy v_kept_tools v_kept_tapeLength v_kept_z v_kept_waiting v_kept_kind v_kept_m v_kept_moved_length v_kept_moved_round v_kept_moved_steps v_kept_seen_length v_kept_seen_round v_kept_seen_steps v_kept_tape v_kept_told v_kept_wall_rows v_kept_wall_columns v_kept_wall_holes v_kept_wall_out v_kept_wall_night v_kept_wall_air v_kept_wall_open v_kept_wall_paste v_now_tools v_now_tapeLength v_now_z v_now_waiting v_now_kind v_now_m v_now_moved_length v_now_moved_steps v_now_seen_length v_now_seen_steps v_now_tape v_now_told v_now_wall_rows v_now_wall_columns v_now_wall_holes v_now_wall_out v_now_wall_night v_now_wall_air v_now_wall_open v_now_wall_paste) fun w_2 w_3 w_4 w_5 w_6 w_7 w_8 w_9 w_10 w_11 w_12 w_13 w_14 w_15 w_16 w_17 w_18 w_19 w_20 w_21 w_22 w_23 =>
  nm (v_images + 1 : Int32) fun t_24 =>
  some (t_24, t_24, w_2, w_3, w_4, w_5, w_6, w_7, w_8, w_9, w_10, w_11, w_12, w_13, w_14, w_15, w_16, w_17, w_18, w_19, w_20, w_21, w_22, w_23)

def f_X11_isUse (a_0 : Int32) : Option (Int32) :=
  if a_0 = 0 then
    some 1
  else
    if a_0 = 1 then
      some 1
    else
      some 0

def f_X11_judge (a_1 : Int32) (v_errors : Nat → Int32) (v_now_wall_rows : Int32) (v_now_wall_columns : Int32) (v_now_wall_air : Nat → Int32) (v_sheetBits : Nat → Int32) (v_sheetLength : Nat → Int32) (v_numbers_el : Nat → Nat → Int32) : Option (Int32 × (Nat → Int32)) :=
  kb (f_X11_isSheet a_1) fun r_2 =>
  if r_2 = 0 then
    kb2 (f_X11_error 1 v_errors) fun r_13 w_14 =>
    some (r_13, w_14)
  else
    kb (f_X11_isMissing a_1 v_sheetBits) fun r_5 =>
    if r_5 = 0 then
      kb (f_X11_firstUnlike a_1 v_sheetLength v_now_wall_rows v_now_wall_columns v_now_wall_air v_numbers_el) fun r_8 =>
      some (r_8, v_errors)
    else
      kb2 (f_X11_error 2 v_errors) fun r_10 w_11 =>
      some (r_10, w_11)

def f_X11_lamp_L29 (a_1 : Int32) (v_now_wall_rows : Int32) (v_now_wall_columns : Int32) (v_now_wall_air : Nat → Int32) : Nat → Int32 → Int32 → Int32 → (Nat → Int32) → Option (Int32 × (Nat → Int32))
  | 0, _, _, _, _ => none
  | n + 1, x2, x3, x4, v_errors =>
    if x3 ≤ x4 then
      some (x2, v_errors)
    else
      kb (f_X10_isLit x4 a_1 v_now_wall_rows v_now_wall_columns v_now_wall_air) fun r_11 =>
      if r_11 = 0 then
        nm (x4 + 1 : Int32) fun t_13 =>
        f_X11_lamp_L29 a_1 v_now_wall_rows v_now_wall_columns v_now_wall_air n x2 x3 t_13 v_errors
      else
        nm (x2 + 1 : Int32) fun t_14 =>
        nm (x4 + 1 : Int32) fun t_15 =>
        f_X11_lamp_L29 a_1 v_now_wall_rows v_now_wall_columns v_now_wall_air n t_14 x3 t_15 v_errors

def f_X11_lamp (a_1 : Int32) (v_errors : Nat → Int32) (v_now_wall_rows : Int32) (v_now_wall_columns : Int32) (v_now_wall_air : Nat → Int32) : Option (Int32 × (Nat → Int32)) :=
  kb (f_X11_isWay a_1) fun r_2 =>
  if r_2 = 0 then
    kb2 (f_X11_error 1 v_errors) fun r_7 w_8 =>
    some (r_7, w_8)
  else
    kb (f_X10_cells v_now_wall_rows v_now_wall_columns) fun r_5 =>
    f_X11_lamp_L29 a_1 v_now_wall_rows v_now_wall_columns v_now_wall_air gFuel 0 r_5 0 v_errors

def f_X11_lawOf (a_1 : Int32) : Option (Int32) :=
  if a_1 = 0 then
    some 0
  else
    some 1

def f_X11_law (a_1 : Int32) (a_2 : Int32) (a_3 : Int32) (a_4 : Int32) (n_now_moved_answers : Nat) (n_now_seen_answers : Nat) (v_errors : Nat → Int32) (v_now_moved_length : Int32) (v_now_moved_side : Int32) (v_now_moved_round : Int32) (v_now_moved_answers : Nat → Int32) (v_now_moved_stack : Nat → Int32) (v_now_moved_steps : Nat → Int32) (v_now_seen_length : Int32) (v_now_seen_side : Int32) (v_now_seen_round : Int32) (v_now_seen_answers : Nat → Int32) (v_now_seen_stack : Nat → Int32) (v_now_seen_steps : Nat → Int32) : Option (Int32 × (Nat → Int32) × (Nat → Int32) × (Nat → Int32) × (Nat → Int32) × (Nat → Int32)) :=
  kb (f_X11_isUse a_1) fun r_2 =>
  if r_2 = 0 then
    kb2 (f_X11_error 1 v_errors) fun r_16 w_17 =>
    some (r_16, w_17, v_now_moved_answers, v_now_moved_stack, v_now_seen_answers, v_now_seen_stack)
  else
    kb (f_X11_lawOf a_1) fun r_5 =>
    if r_5 = 0 then
      kb3 (f_X3_gives a_2 a_3 a_4 n_now_moved_answers v_now_moved_length v_now_moved_side v_now_moved_round v_now_moved_answers v_now_moved_stack v_now_moved_steps) fun r_8 w_9 w_10 =>
      some (r_8, v_errors, w_9, w_10, v_now_seen_answers, v_now_seen_stack)
    else
      kb3 (f_X3_gives a_2 a_3 a_4 n_now_seen_answers v_now_seen_length v_now_seen_side v_now_seen_round v_now_seen_answers v_now_seen_stack v_now_seen_steps) fun r_12 w_13 w_14 =>
      some (r_12, v_errors, v_now_moved_answers, v_now_moved_stack, w_13, w_14)

def f_X11_standsOn (a_1 : Int32) (a_2 : Int32) (a_3 : Int32) (v_sheetLength : Nat → Int32) : Option (Int32) :=
  if a_3 < 0 then
    some 0
  else
    if a_2 < 0 then
      some 0
    else
      chi a_1 4 <|
      if (v_sheetLength a_1.toNatClampNeg) < a_3 then
        some 0
      else
        chi a_1 4 <|
        nm (v_sheetLength a_1.toNatClampNeg : Int32) fun t_6 =>
        if (t_6 - a_3) < a_2 then
          some 0
        else
          some 1

def f_X11_move_L14 (v_errors : Nat → Int32) (v_numbers_el : Nat → Nat → Int32) : Option (Int32 × (Nat → Int32) × (Nat → Nat → Int32)) :=
  kb2 (f_X11_error 1 v_errors) fun r_183 w_184 =>
  some (r_183, w_184, v_numbers_el)

def f_X11_move_L86 (v_errors : Nat → Int32) (v_numbers_el : Nat → Nat → Int32) : Option (Int32 × (Nat → Int32) × (Nat → Nat → Int32)) :=
  kb2 (f_X11_error 1 v_errors) fun r_189 w_190 =>
  some (r_189, w_190, v_numbers_el)

def f_X11_move_L36 (v_errors : Nat → Int32) (v_numbers_el : Nat → Nat → Int32) : Option (Int32 × (Nat → Int32) × (Nat → Nat → Int32)) :=
  kb2 (f_X11_error 2 v_errors) fun r_186 w_187 =>
  some (r_186, w_187, v_numbers_el)

def f_X11_move (a_1 : Int32) (a_2 : Int32) (a_3 : Int32) (a_4 : Int32) (a_5 : Int32) (v_errors : Nat → Int32) (v_sheetBits : Nat → Int32) (v_sheetLength : Nat → Int32) (v_numbers_el : Nat → Nat → Int32) : Option (Int32 × (Nat → Int32) × (Nat → Nat → Int32)) :=
  kb (f_X11_isSheet a_1) fun r_2 =>
  if r_2 = 0 then
    f_X11_move_L14 v_errors v_numbers_el
  else
    kb (f_X11_isSheet a_3) fun r_5 =>
    if r_5 = 0 then
      f_X11_move_L14 v_errors v_numbers_el
    else
      kb (f_X11_isMissing a_1 v_sheetBits) fun r_8 =>
      if r_8 = 0 then
        kb (f_X11_isMissing a_3 v_sheetBits) fun r_11 =>
        if r_11 = 0 then
          chi a_1 4 <|
          nm (v_sheetBits a_1.toNatClampNeg : Int32) fun t_14 =>
          chi a_3 4 <|
          if t_14 = (v_sheetBits a_3.toNatClampNeg) then
            kb (f_X11_standsOn a_1 a_2 a_5 v_sheetLength) fun r_18 =>
            if r_18 = 0 then
              f_X11_move_L86 v_errors v_numbers_el
            else
              kb (f_X11_standsOn a_3 a_4 a_5 v_sheetLength) fun r_21 =>
              if r_21 = 0 then
                f_X11_move_L86 v_errors v_numbers_el
              else
                chi a_1 4 <|
                chi a_3 4 <|
                chc a_2 a_4 a_5 40 40 <|
                nm (va_up v_numbers_el a_3.toNatClampNeg (va_cpy (v_numbers_el a_1.toNatClampNeg) (v_numbers_el a_3.toNatClampNeg) a_2.toNatClampNeg a_4.toNatClampNeg a_5.toNatClampNeg)) fun w_30 =>
                some (a_5, v_errors, w_30)
          else
            kb2 (f_X11_error 5 v_errors) fun r_180 w_181 =>
            some (r_180, w_181, v_numbers_el)
        else
          f_X11_move_L36 v_errors v_numbers_el
      else
        f_X11_move_L36 v_errors v_numbers_el

def f_X11_needs_L18 (v_errors : Nat → Int32) : Option (Int32 × (Nat → Int32)) :=
  kb2 (f_X11_error 1 v_errors) fun r_8 w_9 =>
  some (r_8, w_9)

def f_X11_needs_L26 (a_1 : Int32) (a_2 : Int32) (v_now_wall_air : Nat → Int32) : Nat → Int32 → (Nat → Int32) → Option (Int32 × (Nat → Int32))
  | 0, _, _ => none
  | n + 1, x3, v_errors =>
    if 9 < x3 then
      kb2 (f_X11_error 2 v_errors) fun r_12 w_13 =>
      some (r_12, w_13)
    else
      chi a_1 25 <|
      nm (v_now_wall_air a_1.toNatClampNeg : Int32) fun t_15 =>
      kb (f_X11_nightsToGo t_15 x3) fun r_17 =>
      if a_2 < r_17 then
        nm (x3 + 1 : Int32) fun t_19 =>
        f_X11_needs_L26 a_1 a_2 v_now_wall_air n t_19 v_errors
      else
        some (x3, v_errors)

def f_X11_needs (a_1 : Int32) (a_2 : Int32) (v_errors : Nat → Int32) (v_now_wall_rows : Int32) (v_now_wall_columns : Int32) (v_now_wall_air : Nat → Int32) : Option (Int32 × (Nat → Int32)) :=
  kb (f_X11_isCell a_1 v_now_wall_rows v_now_wall_columns) fun r_2 =>
  if r_2 = 0 then
    f_X11_needs_L18 v_errors
  else
    kb (f_X11_within a_2 0 30) fun r_5 =>
    if r_5 = 0 then
      f_X11_needs_L18 v_errors
    else
      f_X11_needs_L26 a_1 a_2 v_now_wall_air gFuel 0 v_errors

def f_X11_never_L15 (v_now_wall_air : Nat → Int32) (v_now_wall_paste : Nat → Int32) : Nat → Int32 → Int32 → Int32 → Option (Int32)
  | 0, _, _, _ => none
  | n + 1, x1, x2, x3 =>
    if x2 ≤ x3 then
      some x1
    else
      chi x3 25 <|
      nm (v_now_wall_air x3.toNatClampNeg : Int32) fun t_5 =>
      chi x3 25 <|
      nm (v_now_wall_paste x3.toNatClampNeg : Int32) fun t_7 =>
      kb (f_X11_nightsToGo t_5 t_7) fun r_9 =>
      if r_9 ≤ 30 then
        nm (x3 + 1 : Int32) fun t_11 =>
        f_X11_never_L15 v_now_wall_air v_now_wall_paste n x1 x2 t_11
      else
        nm (x1 + 1 : Int32) fun t_12 =>
        nm (x3 + 1 : Int32) fun t_13 =>
        f_X11_never_L15 v_now_wall_air v_now_wall_paste n t_12 x2 t_13

def f_X11_never (v_now_wall_rows : Int32) (v_now_wall_columns : Int32) (v_now_wall_air : Nat → Int32) (v_now_wall_paste : Nat → Int32) : Option (Int32) :=
  kb (f_X10_cells v_now_wall_rows v_now_wall_columns) fun r_2 =>
  f_X11_never_L15 v_now_wall_air v_now_wall_paste gFuel 0 r_2 0

def f_X11_nights_L42 (a_1 : Int32) (v_now_wall_rows : Int32) (v_now_wall_columns : Int32) : Nat → Int32 → (Nat → Int32) → Int32 → (Nat → Int32) → (Nat → Int32) → Option (Int32 × (Nat → Int32) × Int32 × (Nat → Int32) × (Nat → Int32))
  | 0, _, _, _, _, _ => none
  | n + 1, x2, v_errors, v_now_wall_night, v_now_wall_air, v_now_wall_paste =>
    if a_1 ≤ x2 then
      kb (f_X10_allAir v_now_wall_rows v_now_wall_columns v_now_wall_air) fun r_13 =>
      some (r_13, v_errors, v_now_wall_night, v_now_wall_air, v_now_wall_paste)
    else
      kb3 (f_X10_passNight v_now_wall_rows v_now_wall_columns v_now_wall_night v_now_wall_air v_now_wall_paste) fun w_15 w_16 w_17 =>
      nm (x2 + 1 : Int32) fun t_18 =>
      f_X11_nights_L42 a_1 v_now_wall_rows v_now_wall_columns n t_18 v_errors w_15 w_16 w_17

def f_X11_nights (a_1 : Int32) (v_errors : Nat → Int32) (v_now_wall_rows : Int32) (v_now_wall_columns : Int32) (v_now_wall_night : Int32) (v_now_wall_air : Nat → Int32) (v_now_wall_paste : Nat → Int32) : Option (Int32 × (Nat → Int32) × Int32 × (Nat → Int32) × (Nat → Int32)) :=
  kb (f_X11_within a_1 1 30) fun r_2 =>
  if r_2 = 0 then
    kb2 (f_X11_error 1 v_errors) fun r_9 w_10 =>
    some (r_9, w_10, v_now_wall_night, v_now_wall_air, v_now_wall_paste)
  else
    if v_now_wall_night ≤ (999 - a_1) then
      f_X11_nights_L42 a_1 v_now_wall_rows v_now_wall_columns gFuel 0 v_errors v_now_wall_night v_now_wall_air v_now_wall_paste
    else
      kb2 (f_X11_error 3 v_errors) fun r_6 w_7 =>
      some (r_6, w_7, v_now_wall_night, v_now_wall_air, v_now_wall_paste)

def f_X11_odds_L37 (v_errors : Nat → Int32) (v_now_moved_answers : Nat → Int32) (v_now_moved_stack : Nat → Int32) (v_now_seen_answers : Nat → Int32) (v_now_seen_stack : Nat → Int32) (v_thought_rows : Int32) (v_thought_columns : Int32) (v_thought_holes : Int32) (v_thought_out : Int32) (v_thought_night : Int32) (v_thought_air : Nat → Int32) (v_thought_open : Nat → Int32) (v_thought_paste : Nat → Int32) : Option (Int32 × (Nat → Int32) × (Nat → Int32) × (Nat → Int32) × (Nat → Int32) × (Nat → Int32) × Int32 × Int32 × Int32 × Int32 × Int32 × (Nat → Int32) × (Nat → Int32) × (Nat → Int32)) :=
  kb2 (f_X11_error 1 v_errors) fun r_14 w_15 =>
  some (r_14, w_15, v_now_moved_answers, v_now_moved_stack, v_now_seen_answers, v_now_seen_stack, v_thought_rows, v_thought_columns, v_thought_holes, v_thought_out, v_thought_night, v_thought_air, v_thought_open, v_thought_paste)

def f_X11_odds_L171 (a_4 : Int32) (x5 : Int32) (x6 : Int32) (v_errors : Nat → Int32) (v_now_moved_answers : Nat → Int32) (v_now_moved_stack : Nat → Int32) (v_now_seen_answers : Nat → Int32) (v_now_seen_stack : Nat → Int32) (v_thought_rows : Int32) (v_thought_columns : Int32) (v_thought_holes : Int32) (v_thought_out : Int32) (v_thought_night : Int32) (v_thought_air : Nat → Int32) (v_thought_open : Nat → Int32) (v_thought_paste : Nat → Int32) : Option (Int32 × (Nat → Int32) × (Nat → Int32) × (Nat → Int32) × (Nat → Int32) × (Nat → Int32) × Int32 × Int32 × Int32 × Int32 × Int32 × (Nat → Int32) × (Nat → Int32) × (Nat → Int32)) :=
  if a_4 = 0 then
    some (x5, v_errors, v_now_moved_answers, v_now_moved_stack, v_now_seen_answers, v_now_seen_stack, v_thought_rows, v_thought_columns, v_thought_holes, v_thought_out, v_thought_night, v_thought_air, v_thought_open, v_thought_paste)
  else
    some (x6, v_errors, v_now_moved_answers, v_now_moved_stack, v_now_seen_answers, v_now_seen_stack, v_thought_rows, v_thought_columns, v_thought_holes, v_thought_out, v_thought_night, v_thought_air, v_thought_open, v_thought_paste)

def f_X11_odds_L133 (a_4 : Int32) : Nat → Int32 → Int32 → Int32 → (Nat → Int32) → (Nat → Int32) → (Nat → Int32) → (Nat → Int32) → (Nat → Int32) → Int32 → Int32 → Int32 → Int32 → Int32 → (Nat → Int32) → (Nat → Int32) → (Nat → Int32) → Option (Int32 × (Nat → Int32) × (Nat → Int32) × (Nat → Int32) × (Nat → Int32) × (Nat → Int32) × Int32 × Int32 × Int32 × Int32 × Int32 × (Nat → Int32) × (Nat → Int32) × (Nat → Int32))
  | 0, _, _, _, _, _, _, _, _, _, _, _, _, _, _, _, _ => none
  | n + 1, x5, x6, x7, v_errors, v_now_moved_answers, v_now_moved_stack, v_now_seen_answers, v_now_seen_stack, v_thought_rows, v_thought_columns, v_thought_holes, v_thought_out, v_thought_night, v_thought_air, v_thought_open, v_thought_paste =>
    if 4 ≤ x7 then
      f_X11_odds_L171 a_4 x5 x6 v_errors v_now_moved_answers v_now_moved_stack v_now_seen_answers v_now_seen_stack v_thought_rows v_thought_columns v_thought_holes v_thought_out v_thought_night v_thought_air v_thought_open v_thought_paste
    else
      chz 2 <|
      if (x5 - x5 / 2 * 2) = 0 then
        chz 2 <|
        if (x6 - x6 / 2 * 2) = 0 then
          chz 2 <|
          nm (x5 / 2 : Int32) fun t_50 =>
          chz 2 <|
          nm (x6 / 2 : Int32) fun t_52 =>
          nm (x7 + 1 : Int32) fun t_53 =>
          f_X11_odds_L133 a_4 n t_50 t_52 t_53 v_errors v_now_moved_answers v_now_moved_stack v_now_seen_answers v_now_seen_stack v_thought_rows v_thought_columns v_thought_holes v_thought_out v_thought_night v_thought_air v_thought_open v_thought_paste
        else
          f_X11_odds_L171 a_4 x5 x6 v_errors v_now_moved_answers v_now_moved_stack v_now_seen_answers v_now_seen_stack v_thought_rows v_thought_columns v_thought_holes v_thought_out v_thought_night v_thought_air v_thought_open v_thought_paste
      else
        f_X11_odds_L171 a_4 x5 x6 v_errors v_now_moved_answers v_now_moved_stack v_now_seen_answers v_now_seen_stack v_thought_rows v_thought_columns v_thought_holes v_thought_out v_thought_night v_thought_air v_thought_open v_thought_paste

def f_X11_odds_L49 (a_1 : Int32) (a_2 : Int32) (a_3 : Int32) (a_4 : Int32) (n_now_moved_answers : Nat) (n_now_seen_answers : Nat) (v_now_tools : Int32) (v_now_kind : Nat → Int32) (v_now_m : Nat → Int32) (v_now_moved_length : Int32) (v_now_moved_side : Int32) (v_now_moved_round : Int32) (v_now_moved_steps : Nat → Int32) (v_now_seen_length : Int32) (v_now_seen_side : Int32) (v_now_seen_round : Int32) (v_now_seen_steps : Nat → Int32) (v_now_wall_rows : Int32) (v_now_wall_columns : Int32) (v_now_wall_holes : Int32) (v_now_wall_out : Int32) (v_now_wall_night : Int32) (v_now_wall_air : Nat → Int32) (v_now_wall_open : Nat → Int32) (v_now_wall_paste : Nat → Int32) : Nat → Int32 → Int32 → (Nat → Int32) → (Nat → Int32) → (Nat → Int32) → (Nat → Int32) → (Nat → Int32) → Int32 → Int32 → Int32 → Int32 → Int32 → (Nat → Int32) → (Nat → Int32) → (Nat → Int32) → Option (Int32 × (Nat → Int32) × (Nat → Int32) × (Nat → Int32) × (Nat → Int32) × (Nat → Int32) × Int32 × Int32 × Int32 × Int32 × Int32 × (Nat → Int32) × (Nat → Int32) × (Nat → Int32))
  | 0, _, _, _, _, _, _, _, _, _, _, _, _, _, _, _ => none
  | n + 1, x5, x6, v_errors, v_now_moved_answers, v_now_moved_stack, v_now_seen_answers, v_now_seen_stack, v_thought_rows, v_thought_columns, v_thought_holes, v_thought_out, v_thought_night, v_thought_air, v_thought_open, v_thought_paste =>
    if 4 ≤ x6 then
      f_X11_odds_L133 a_4 gFuel x5 4 0 v_errors v_now_moved_answers v_now_moved_stack v_now_seen_answers v_now_seen_stack v_thought_rows v_thought_columns v_thought_holes v_thought_out v_thought_night v_thought_air v_thought_open v_thought_paste
    else
      kb8 (f_X10_copy v_thought_rows v_thought_columns v_thought_holes v_thought_out v_thought_night v_thought_air v_thought_open v_thought_paste v_now_wall_rows v_now_wall_columns v_now_wall_holes v_now_wall_out v_now_wall_night v_now_wall_air v_now_wall_open v_now_wall_paste) fun w_18 w_19 w_20 w_21 w_22 w_23 w_24 w_25 =>
      kb (f_X11_kindOf a_1 v_now_tools v_now_kind) fun r_27 =>
      chi a_1 6 <|
      nm (v_now_m a_1.toNatClampNeg : Int32) fun t_29 =>
      kb5 (f_X10_strike t_29 a_2 x6 r_27 n_now_moved_answers w_18 w_19 w_20 w_21 w_23 w_24 w_25 v_now_moved_length v_now_moved_side v_now_moved_round v_now_moved_answers v_now_moved_stack v_now_moved_steps) fun w_31 w_32 w_33 w_34 w_35 =>
      kb3 (f_X10_shownBy n_now_seen_answers w_18 w_19 w_33 v_now_seen_length v_now_seen_side v_now_seen_round v_now_seen_answers v_now_seen_stack v_now_seen_steps) fun r_37 w_38 w_39 =>
      if a_3 < r_37 then
        nm (x6 + 1 : Int32) fun t_41 =>
        f_X11_odds_L49 a_1 a_2 a_3 a_4 n_now_moved_answers n_now_seen_answers v_now_tools v_now_kind v_now_m v_now_moved_length v_now_moved_side v_now_moved_round v_now_moved_steps v_now_seen_length v_now_seen_side v_now_seen_round v_now_seen_steps v_now_wall_rows v_now_wall_columns v_now_wall_holes v_now_wall_out v_now_wall_night v_now_wall_air v_now_wall_open v_now_wall_paste n x5 t_41 v_errors w_34 w_35 w_38 w_39 w_18 w_19 w_31 w_32 w_22 w_33 w_24 w_25
      else
        nm (x5 + 1 : Int32) fun t_42 =>
        nm (x6 + 1 : Int32) fun t_43 =>
        f_X11_odds_L49 a_1 a_2 a_3 a_4 n_now_moved_answers n_now_seen_answers v_now_tools v_now_kind v_now_m v_now_moved_length v_now_moved_side v_now_moved_round v_now_moved_steps v_now_seen_length v_now_seen_side v_now_seen_round v_now_seen_steps v_now_wall_rows v_now_wall_columns v_now_wall_holes v_now_wall_out v_now_wall_night v_now_wall_air v_now_wall_open v_now_wall_paste n t_42 t_43 v_errors w_34 w_35 w_38 w_39 w_18 w_19 w_31 w_32 w_22 w_33 w_24 w_25

def f_X11_odds (a_1 : Int32) (a_2 : Int32) (a_3 : Int32) (a_4 : Int32) (n_now_moved_answers : Nat) (n_now_seen_answers : Nat) (v_errors : Nat → Int32) (v_now_tools : Int32) (v_now_kind : Nat → Int32) (v_now_m : Nat → Int32) (v_now_moved_length : Int32) (v_now_moved_side : Int32) (v_now_moved_round : Int32) (v_now_moved_answers : Nat → Int32) (v_now_moved_stack : Nat → Int32) (v_now_moved_steps : Nat → Int32) (v_now_seen_length : Int32) (v_now_seen_side : Int32) (v_now_seen_round : Int32) (v_now_seen_answers : Nat → Int32) (v_now_seen_stack : Nat → Int32) (v_now_seen_steps : Nat → Int32) (v_now_wall_rows : Int32) (v_now_wall_columns : Int32) (v_now_wall_holes : Int32) (v_now_wall_out : Int32) (v_now_wall_night : Int32) (v_now_wall_air : Nat → Int32) (v_now_wall_open : Nat → Int32) (v_now_wall_paste : Nat → Int32) (v_thought_rows : Int32) (v_thought_columns : Int32) (v_thought_holes : Int32) (v_thought_out : Int32) (v_thought_night : Int32) (v_thought_air : Nat → Int32) (v_thought_open : Nat → Int32) (v_thought_paste : Nat → Int32) : Option (Int32 × (Nat → Int32) × (Nat → Int32) × (Nat → Int32) × (Nat → Int32) × (Nat → Int32) × Int32 × Int32 × Int32 × Int32 × Int32 × (Nat → Int32) × (Nat → Int32) × (Nat → Int32)) :=
  kb (f_X11_isTool a_1 v_now_tools) fun r_2 =>
  if r_2 = 0 then
    f_X11_odds_L37 v_errors v_now_moved_answers v_now_moved_stack v_now_seen_answers v_now_seen_stack v_thought_rows v_thought_columns v_thought_holes v_thought_out v_thought_night v_thought_air v_thought_open v_thought_paste
  else
    kb (f_X11_isCell a_2 v_now_wall_rows v_now_wall_columns) fun r_5 =>
    if r_5 = 0 then
      f_X11_odds_L37 v_errors v_now_moved_answers v_now_moved_stack v_now_seen_answers v_now_seen_stack v_thought_rows v_thought_columns v_thought_holes v_thought_out v_thought_night v_thought_air v_thought_open v_thought_paste
    else
      kb (f_X11_within a_3 0 9999) fun r_8 =>
      if r_8 = 0 then
        f_X11_odds_L37 v_errors v_now_moved_answers v_now_moved_stack v_now_seen_answers v_now_seen_stack v_thought_rows v_thought_columns v_thought_holes v_thought_out v_thought_night v_thought_air v_thought_open v_thought_paste
      else
        kb (f_X11_within a_4 0 1) fun r_11 =>
        if r_11 = 0 then
          f_X11_odds_L37 v_errors v_now_moved_answers v_now_moved_stack v_now_seen_answers v_now_seen_stack v_thought_rows v_thought_columns v_thought_holes v_thought_out v_thought_night v_thought_air v_thought_open v_thought_paste
        else
          f_X11_odds_L49 a_1 a_2 a_3 a_4 n_now_moved_answers n_now_seen_answers v_now_tools v_now_kind v_now_m v_now_moved_length v_now_moved_side v_now_moved_round v_now_moved_steps v_now_seen_length v_now_seen_side v_now_seen_round v_now_seen_steps v_now_wall_rows v_now_wall_columns v_now_wall_holes v_now_wall_out v_now_wall_night v_now_wall_air v_now_wall_open v_now_wall_paste gFuel 0 0 v_errors v_now_moved_answers v_now_moved_stack v_now_seen_answers v_now_seen_stack v_thought_rows v_thought_columns v_thought_holes v_thought_out v_thought_night v_thought_air v_thought_open v_thought_paste

def f_X11_ofCell (a_1 : Int32) (a_2 : Int32) (n_now_seen_answers : Nat) (v_errors : Nat → Int32) (v_now_seen_length : Int32) (v_now_seen_side : Int32) (v_now_seen_round : Int32) (v_now_seen_answers : Nat → Int32) (v_now_seen_stack : Nat → Int32) (v_now_seen_steps : Nat → Int32) (v_now_wall_rows : Int32) (v_now_wall_columns : Int32) (v_now_wall_inLine : Int32) (v_now_wall_air : Nat → Int32) (v_now_wall_line : Nat → Int32) (v_now_wall_met : Nat → Int32) (v_now_wall_paste : Nat → Int32) : Option (Int32 × (Nat → Int32) × (Nat → Int32) × (Nat → Int32) × Int32 × (Nat → Int32) × (Nat → Int32)) :=
  kb (f_X11_isCell a_1 v_now_wall_rows v_now_wall_columns) fun r_2 =>
  if r_2 = 0 then
    kb2 (f_X11_error 1 v_errors) fun r_29 w_30 =>
    some (r_29, w_30, v_now_seen_answers, v_now_seen_stack, v_now_wall_inLine, v_now_wall_line, v_now_wall_met)
  else
    if a_2 = 0 then
      chi a_1 25 <|
      some (v_now_wall_air a_1.toNatClampNeg, v_errors, v_now_seen_answers, v_now_seen_stack, v_now_wall_inLine, v_now_wall_line, v_now_wall_met)
    else
      if a_2 = 1 then
        chi a_1 25 <|
        some (v_now_wall_paste a_1.toNatClampNeg, v_errors, v_now_seen_answers, v_now_seen_stack, v_now_wall_inLine, v_now_wall_line, v_now_wall_met)
      else
        if a_2 = 2 then
          chi a_1 25 <|
          nm (v_now_wall_air a_1.toNatClampNeg : Int32) fun t_10 =>
          kb (f_X10_rowOf a_1 v_now_wall_columns) fun r_12 =>
          kb (f_X10_columnOf a_1 v_now_wall_columns) fun r_14 =>
          kb3 (f_X3_gives t_10 r_12 r_14 n_now_seen_answers v_now_seen_length v_now_seen_side v_now_seen_round v_now_seen_answers v_now_seen_stack v_now_seen_steps) fun r_16 w_17 w_18 =>
          some (r_16, v_errors, w_17, w_18, v_now_wall_inLine, v_now_wall_line, v_now_wall_met)
        else
          if a_2 = 3 then
            kb4 (f_X10_sizeOfBubble a_1 v_now_wall_rows v_now_wall_columns v_now_wall_inLine v_now_wall_air v_now_wall_line v_now_wall_met) fun r_21 w_22 w_23 w_24 =>
            some (r_21, v_errors, v_now_seen_answers, v_now_seen_stack, w_22, w_23, w_24)
          else
            kb2 (f_X11_error 1 v_errors) fun r_26 w_27 =>
            some (r_26, w_27, v_now_seen_answers, v_now_seen_stack, v_now_wall_inLine, v_now_wall_line, v_now_wall_met)

def f_X11_ofTool (a_1 : Int32) (a_2 : Int32) (n_now_moved_answers : Nat) (v_errors : Nat → Int32) (v_now_tools : Int32) (v_now_kind : Nat → Int32) (v_now_m : Nat → Int32) (v_now_moved_length : Int32) (v_now_moved_side : Int32) (v_now_moved_round : Int32) (v_now_moved_answers : Nat → Int32) (v_now_moved_stack : Nat → Int32) (v_now_moved_steps : Nat → Int32) : Option (Int32 × (Nat → Int32) × (Nat → Int32) × (Nat → Int32)) :=
  kb (f_X11_isTool a_1 v_now_tools) fun r_2 =>
  if r_2 = 0 then
    kb2 (f_X11_error 1 v_errors) fun r_41 w_42 =>
    some (r_41, w_42, v_now_moved_answers, v_now_moved_stack)
  else
    kb (f_X11_kindOf a_1 v_now_tools v_now_kind) fun r_5 =>
    chi a_1 6 <|
    nm (v_now_m a_1.toNatClampNeg : Int32) fun t_7 =>
    if a_2 = 0 then
      chi a_1 6 <|
      some (v_now_kind a_1.toNatClampNeg, v_errors, v_now_moved_answers, v_now_moved_stack)
    else
      if a_2 = 1 then
        some (t_7, v_errors, v_now_moved_answers, v_now_moved_stack)
      else
        if a_2 = 2 then
          kb (f_TD_reach r_5 t_7) fun r_13 =>
          some (r_13, v_errors, v_now_moved_answers, v_now_moved_stack)
        else
          if a_2 = 3 then
            kb3 (f_X3_gives 20 5 t_7 n_now_moved_answers v_now_moved_length v_now_moved_side v_now_moved_round v_now_moved_answers v_now_moved_stack v_now_moved_steps) fun r_17 w_18 w_19 =>
            kb (f_TD_moves r_5 20 r_17 t_7) fun r_21 =>
            nm (if r_21 < 20 then r_21 else 20 : Int32) fun t_23 =>
            some (t_23, v_errors, w_18, w_19)
          else
            if a_2 = 4 then
              kb (f_TD_lets r_5 20 t_7) fun r_26 =>
              nm (if r_26 < 20 then r_26 else 20 : Int32) fun t_28 =>
              some (t_28, v_errors, v_now_moved_answers, v_now_moved_stack)
            else
              if a_2 = 5 then
                kb (f_TD_tears r_5 0) fun r_31 =>
                some (r_31, v_errors, v_now_moved_answers, v_now_moved_stack)
              else
                if a_2 = 6 then
                  kb (f_TD_tears r_5 9) fun r_35 =>
                  some (r_35, v_errors, v_now_moved_answers, v_now_moved_stack)
                else
                  kb2 (f_X11_error 1 v_errors) fun r_38 w_39 =>
                  some (r_38, w_39, v_now_moved_answers, v_now_moved_stack)

def f_X11_put (a_1 : Int32) (a_2 : Int32) (a_3 : Int32) (v_errors : Nat → Int32) (v_sheetBits : Nat → Int32) (v_sheetLength : Nat → Int32) (v_numbers_el : Nat → Nat → Int32) : Option (Int32 × (Nat → Int32) × (Nat → Nat → Int32)) :=
  kb (f_X11_isSheet a_1) fun r_2 =>
  if r_2 = 0 then
    kb2 (f_X11_error 1 v_errors) fun r_43 w_44 =>
    some (r_43, w_44, v_numbers_el)
  else
    kb (f_X11_isMissing a_1 v_sheetBits) fun r_5 =>
    if r_5 = 0 then
      chi a_1 4 <|
      nm (v_sheetLength a_1.toNatClampNeg : Int32) fun t_8 =>
      nm (t_8 - 1 : Int32) fun t_9 =>
      kb (f_X11_within a_2 0 t_9) fun r_11 =>
      if r_11 = 0 then
        kb2 (f_X11_error 1 v_errors) fun r_37 w_38 =>
        some (r_37, w_38, v_numbers_el)
      else
        chi a_1 4 <|
        nm (32 - (v_sheetBits a_1.toNatClampNeg) : Int32) fun t_14 =>
        chi a_1 4 <|
        nm (a_3 <<< (t_14 &&& 31) : Int32) fun t_16 =>
        nm ((t_16.toUInt32 >>> (Int32.toUInt32 t_14 &&& Int32.toUInt32 31)).toInt32 : Int32) fun t_17 =>
        chi a_2 40 <|
        nm (va_up v_numbers_el a_1.toNatClampNeg (upd (v_numbers_el a_1.toNatClampNeg) a_2.toNatClampNeg t_17)) fun w_19 =>
        some (1, v_errors, w_19)
    else
      kb2 (f_X11_error 2 v_errors) fun r_40 w_41 =>
      some (r_40, w_41, v_numbers_el)

def f_X11_restore (v_images : Int32) (v_errors : Nat → Int32) (v_kept_tools : Int32) (v_kept_tapeLength : Int32) (v_kept_z : Int32) (v_kept_waiting : Int32) (v_kept_kind : Nat → Int32) (v_kept_m : Nat → Int32) (v_kept_moved_length : Int32) (v_kept_moved_steps : Nat → Int32) (v_kept_seen_length : Int32) (v_kept_seen_steps : Nat → Int32) (v_kept_tape : Nat → Int32) (v_kept_told : Nat → Int32) (v_kept_wall_rows : Int32) (v_kept_wall_columns : Int32) (v_kept_wall_holes : Int32) (v_kept_wall_out : Int32) (v_kept_wall_night : Int32) (v_kept_wall_air : Nat → Int32) (v_kept_wall_open : Nat → Int32) (v_kept_wall_paste : Nat → Int32) (v_now_tools : Int32) (v_now_tapeLength : Int32) (v_now_z : Int32) (v_now_waiting : Int32) (v_now_kind : Nat → Int32) (v_now_m : Nat → Int32) (v_now_moved_length : Int32) (v_now_moved_round : Int32) (v_now_moved_steps : Nat → Int32) (v_now_seen_length : Int32) (v_now_seen_round : Int32) (v_now_seen_steps : Nat → Int32) (v_now_tape : Nat → Int32) (v_now_told : Nat → Int32) (v_now_wall_rows : Int32) (v_now_wall_columns : Int32) (v_now_wall_holes : Int32) (v_now_wall_out : Int32) (v_now_wall_night : Int32) (v_now_wall_air : Nat → Int32) (v_now_wall_open : Nat → Int32) (v_now_wall_paste : Nat → Int32) : Option (Int32 × (Nat → Int32) × Int32 × Int32 × Int32 × Int32 × (Nat → Int32) × (Nat → Int32) × Int32 × Int32 × (Nat → Int32) × Int32 × Int32 × (Nat → Int32) × (Nat → Int32) × (Nat → Int32) × Int32 × Int32 × Int32 × Int32 × Int32 × (Nat → Int32) × (Nat → Int32) × (Nat → Int32)) :=
  if v_images = 0 then
    kb2 (f_X11_error 2 v_errors) fun r_26 w_27 =>
    some (r_26, w_27, v_now_tools, v_now_tapeLength, v_now_z, v_now_waiting, v_now_kind, v_now_m, v_now_moved_length, v_now_moved_round, v_now_moved_steps, v_now_seen_length, v_now_seen_round, v_now_seen_steps, v_now_tape, v_now_told, v_now_wall_rows, v_now_wall_columns, v_now_wall_holes, v_now_wall_out, v_now_wall_night, v_now_wall_air, v_now_wall_open, v_now_wall_paste)
  else
    kb22 (f_X7_copy v_now_tools v_now_tapeLength v_now_z v_now_waiting v_now_kind v_now_m v_now_moved_length v_now_moved_round v_now_moved_steps v_now_seen_length v_now_seen_round v_now_seen_steps v_now_tape v_now_told v_now_wall_rows v_now_wall_columns v_now_wall_holes v_now_wall_out v_now_wall_night v_now_wall_air v_now_wall_open v_now_wall_paste v_kept_tools v_kept_tapeLength v_kept_z v_kept_waiting v_kept_kind v_kept_m v_kept_moved_length v_kept_moved_steps v_kept_seen_length v_kept_seen_steps v_kept_tape v_kept_told v_kept_wall_rows v_kept_wall_columns v_kept_wall_holes v_kept_wall_out v_kept_wall_night v_kept_wall_air v_kept_wall_open v_kept_wall_paste) fun w_3 w_4 w_5 w_6 w_7 w_8 w_9 w_10 w_11 w_12 w_13 w_14 w_15 w_16 w_17 w_18 w_19 w_20 w_21 w_22 w_23 w_24 =>
    some (w_21, v_errors, w_3, w_4, w_5, w_6, w_7, w_8, w_9, w_10, w_11, w_12, w_13, w_14, w_15, w_16, w_17, w_18, w_19, w_20, w_21, w_22, w_23, w_24)

def f_X11_seed (a_1 : Int32) (v_now_z : Int32) : Option (Int32 × Int32) :=
  some (v_now_z, a_1)

def f_X11_set_L36 (v_errors : Nat → Int32) (v_now_wall_air : Nat → Int32) (v_now_wall_paste : Nat → Int32) : Option (Int32 × (Nat → Int32) × (Nat → Int32) × (Nat → Int32)) :=
  kb2 (f_X11_error 1 v_errors) fun r_9 w_10 =>
  some (r_9, w_10, v_now_wall_air, v_now_wall_paste)

def f_X11_set_L69b (a_1 : Int32) (a_3 : Int32) (v_errors : Nat → Int32) (v_now_wall_air : Nat → Int32) (v_now_wall_paste : Nat → Int32) : Option (Int32 × (Nat → Int32) × (Nat → Int32) × (Nat → Int32)) :=
  chi a_1 25 <|
  nm (v_now_wall_air a_1.toNatClampNeg : Int32) fun t_20 =>
  chi a_1 25 <|
  nm (upd v_now_wall_air a_1.toNatClampNeg a_3) fun w_22 =>
  some (t_20, v_errors, w_22, v_now_wall_paste)

def f_X11_set_L69 (a_1 : Int32) (a_3 : Int32) (v_errors : Nat → Int32) (v_now_wall_air : Nat → Int32) (v_now_wall_paste : Nat → Int32) : Option (Int32 × (Nat → Int32) × (Nat → Int32) × (Nat → Int32)) :=
  chi a_1 25 <|
  nm (v_now_wall_paste a_1.toNatClampNeg : Int32) fun t_16 =>
  chi a_1 25 <|
  nm (upd v_now_wall_paste a_1.toNatClampNeg a_3) fun w_18 =>
  some (t_16, v_errors, v_now_wall_air, w_18)

def f_X11_set_L30 (a_1 : Int32) (a_2 : Int32) (a_3 : Int32) (y0 : Int32) (y1 : Int32) (y2 : Int32) (v_errors : Nat → Int32) (v_now_wall_air : Nat → Int32) (v_now_wall_paste : Nat → Int32) : Option (Int32 × (Nat → Int32) × (Nat → Int32) × (Nat → Int32)) :=
  kb (f_X11_within y0 y1 y2) fun r_12 =>
  if r_12 = 0 then
    f_X11_set_L36 v_errors v_now_wall_air v_now_wall_paste
  else
    if a_2 = 0 then
      f_X11_set_L69b a_1 a_3 v_errors v_now_wall_air v_now_wall_paste
    else
      f_X11_set_L69 a_1 a_3 v_errors v_now_wall_air v_now_wall_paste

def f_X11_set (a_1 : Int32) (a_2 : Int32) (a_3 : Int32) (v_errors : Nat → Int32) (v_now_wall_rows : Int32) (v_now_wall_columns : Int32) (v_now_wall_air : Nat → Int32) (v_now_wall_paste : Nat → Int32) : Option (Int32 × (Nat → Int32) × (Nat → Int32) × (Nat → Int32)) :=
  kb (f_X11_isCell a_1 v_now_wall_rows v_now_wall_columns) fun r_2 =>
  if r_2 = 0 then
    f_X11_set_L36 v_errors v_now_wall_air v_now_wall_paste
  else
    kb (f_X11_within a_2 0 1) fun r_5 =>
    if r_5 = 0 then
      f_X11_set_L36 v_errors v_now_wall_air v_now_wall_paste
    else
      if a_2 = 0 then
        f_X11_set_L30 a_1 a_2 a_3 a_3 0 99 v_errors v_now_wall_air v_now_wall_paste
      else
        f_X11_set_L30 a_1 a_2 a_3 a_3 0 9 v_errors v_now_wall_air v_now_wall_paste

def f_X11_sheet_L29 (v_errors : Nat → Int32) (v_sheetBits : Nat → Int32) (v_sheetLength : Nat → Int32) (v_numbers_el : Nat → Nat → Int32) : Option (Int32 × (Nat → Int32) × (Nat → Int32) × (Nat → Int32) × (Nat → Nat → Int32)) :=
  kb2 (f_X11_error 1 v_errors) fun r_9 w_10 =>
  some (r_9, w_10, v_sheetBits, v_sheetLength, v_numbers_el)

def f_X11_sheet_L86 (a_1 : Int32) (y1 : Int32) (y2 : Int32) (v_errors : Nat → Int32) (v_sheetBits : Nat → Int32) (v_sheetLength : Nat → Int32) (v_numbers_el : Nat → Nat → Int32) : Option (Int32 × (Nat → Int32) × (Nat → Int32) × (Nat → Int32) × (Nat → Nat → Int32)) :=
  chi y1 4 <|
  nm (upd v_sheetLength y1.toNatClampNeg y2) fun w_25 =>
  chi a_1 4 <|
  kb (f_J7_fill_53178 0 40 (v_numbers_el a_1.toNatClampNeg)) fun w_28 =>
  some (1, v_errors, v_sheetBits, w_25, va_up v_numbers_el a_1.toNatClampNeg w_28)

def f_X11_sheet_L65 (a_1 : Int32) (a_2 : Int32) (a_3 : Int32) (v_errors : Nat → Int32) (v_sheetBits : Nat → Int32) (v_sheetLength : Nat → Int32) (v_numbers_el : Nat → Nat → Int32) : Option (Int32 × (Nat → Int32) × (Nat → Int32) × (Nat → Int32) × (Nat → Nat → Int32)) :=
  chi a_1 4 <|
  nm (upd v_sheetBits a_1.toNatClampNeg a_2) fun w_22 =>
  if a_2 = 0 then
    f_X11_sheet_L86 a_1 a_1 0 v_errors w_22 v_sheetLength v_numbers_el
  else
    f_X11_sheet_L86 a_1 a_1 a_3 v_errors w_22 v_sheetLength v_numbers_el

def f_X11_sheet_L49 (a_1 : Int32) (a_2 : Int32) (a_3 : Int32) (v_errors : Nat → Int32) (v_sheetBits : Nat → Int32) (v_sheetLength : Nat → Int32) (v_numbers_el : Nat → Nat → Int32) : Option (Int32 × (Nat → Int32) × (Nat → Int32) × (Nat → Int32) × (Nat → Nat → Int32)) :=
  if a_2 = 0 then
    f_X11_sheet_L65 a_1 a_2 a_3 v_errors v_sheetBits v_sheetLength v_numbers_el
  else
    if a_3 ≤ 40 then
      f_X11_sheet_L65 a_1 a_2 a_3 v_errors v_sheetBits v_sheetLength v_numbers_el
    else
      kb2 (f_X11_error 1 v_errors) fun r_19 w_20 =>
      some (r_19, w_20, v_sheetBits, v_sheetLength, v_numbers_el)

def f_X11_sheet_L35 (a_1 : Int32) (a_2 : Int32) (a_3 : Int32) (v_errors : Nat → Int32) (v_sheetBits : Nat → Int32) (v_sheetLength : Nat → Int32) (v_numbers_el : Nat → Nat → Int32) : Option (Int32 × (Nat → Int32) × (Nat → Int32) × (Nat → Int32) × (Nat → Nat → Int32)) :=
  if a_2 = 0 then
    f_X11_sheet_L49 a_1 a_2 a_3 v_errors v_sheetBits v_sheetLength v_numbers_el
  else
    if 0 ≤ a_3 then
      f_X11_sheet_L49 a_1 a_2 a_3 v_errors v_sheetBits v_sheetLength v_numbers_el
    else
      kb2 (f_X11_error 3 v_errors) fun r_14 w_15 =>
      some (r_14, w_15, v_sheetBits, v_sheetLength, v_numbers_el)

def f_X11_sheet (a_1 : Int32) (a_2 : Int32) (a_3 : Int32) (v_errors : Nat → Int32) (v_sheetBits : Nat → Int32) (v_sheetLength : Nat → Int32) (v_numbers_el : Nat → Nat → Int32) : Option (Int32 × (Nat → Int32) × (Nat → Int32) × (Nat → Int32) × (Nat → Nat → Int32)) :=
  kb (f_X11_isSheet a_1) fun r_2 =>
  if r_2 = 0 then
    f_X11_sheet_L29 v_errors v_sheetBits v_sheetLength v_numbers_el
  else
    if a_2 = 0 then
      f_X11_sheet_L35 a_1 a_2 a_3 v_errors v_sheetBits v_sheetLength v_numbers_el
    else
      if a_2 = 8 then
        f_X11_sheet_L35 a_1 a_2 a_3 v_errors v_sheetBits v_sheetLength v_numbers_el
      else
        if a_2 = 16 then
          f_X11_sheet_L35 a_1 a_2 a_3 v_errors v_sheetBits v_sheetLength v_numbers_el
        else
          if a_2 = 32 then
            f_X11_sheet_L35 a_1 a_2 a_3 v_errors v_sheetBits v_sheetLength v_numbers_el
          else
            f_X11_sheet_L29 v_errors v_sheetBits v_sheetLength v_numbers_el

def f_X11_shown (n_now_seen_answers : Nat) (v_now_seen_length : Int32) (v_now_seen_side : Int32) (v_now_seen_round : Int32) (v_now_seen_answers : Nat → Int32) (v_now_seen_stack : Nat → Int32) (v_now_seen_steps : Nat → Int32) (v_now_wall_rows : Int32) (v_now_wall_columns : Int32) (v_now_wall_air : Nat → Int32) : Option (Int32 × (Nat → Int32) × (Nat → Int32)) :=
  kb3 (f_X10_shownBy n_now_seen_answers v_now_wall_rows v_now_wall_columns v_now_wall_air v_now_seen_length v_now_seen_side v_now_seen_round v_now_seen_answers v_now_seen_stack v_now_seen_steps) fun r_2 w_3 w_4 =>
  some (r_2, w_3, w_4)

def f_X11_stroke_L23 (v_errors : Nat → Int32) (v_now_moved_answers : Nat → Int32) (v_now_moved_stack : Nat → Int32) (v_now_wall_holes : Int32) (v_now_wall_out : Int32) (v_now_wall_air : Nat → Int32) : Option (Int32 × (Nat → Int32) × (Nat → Int32) × (Nat → Int32) × Int32 × Int32 × (Nat → Int32)) :=
  kb2 (f_X11_error 1 v_errors) fun r_22 w_23 =>
  some (r_22, w_23, v_now_moved_answers, v_now_moved_stack, v_now_wall_holes, v_now_wall_out, v_now_wall_air)

def f_X11_stroke (a_1 : Int32) (a_2 : Int32) (a_3 : Int32) (n_now_moved_answers : Nat) (v_errors : Nat → Int32) (v_now_tools : Int32) (v_now_kind : Nat → Int32) (v_now_m : Nat → Int32) (v_now_moved_length : Int32) (v_now_moved_side : Int32) (v_now_moved_round : Int32) (v_now_moved_answers : Nat → Int32) (v_now_moved_stack : Nat → Int32) (v_now_moved_steps : Nat → Int32) (v_now_wall_rows : Int32) (v_now_wall_columns : Int32) (v_now_wall_holes : Int32) (v_now_wall_out : Int32) (v_now_wall_air : Nat → Int32) (v_now_wall_open : Nat → Int32) (v_now_wall_paste : Nat → Int32) : Option (Int32 × (Nat → Int32) × (Nat → Int32) × (Nat → Int32) × Int32 × Int32 × (Nat → Int32)) :=
  kb (f_X11_isTool a_1 v_now_tools) fun r_2 =>
  if r_2 = 0 then
    f_X11_stroke_L23 v_errors v_now_moved_answers v_now_moved_stack v_now_wall_holes v_now_wall_out v_now_wall_air
  else
    kb (f_X11_isCell a_2 v_now_wall_rows v_now_wall_columns) fun r_5 =>
    if r_5 = 0 then
      f_X11_stroke_L23 v_errors v_now_moved_answers v_now_moved_stack v_now_wall_holes v_now_wall_out v_now_wall_air
    else
      kb (f_X11_isWay a_3) fun r_8 =>
      if r_8 = 0 then
        f_X11_stroke_L23 v_errors v_now_moved_answers v_now_moved_stack v_now_wall_holes v_now_wall_out v_now_wall_air
      else
        kb (f_X11_kindOf a_1 v_now_tools v_now_kind) fun r_11 =>
        chi a_1 6 <|
        nm (v_now_m a_1.toNatClampNeg : Int32) fun t_13 =>
        kb5 (f_X10_strike t_13 a_2 a_3 r_11 n_now_moved_answers v_now_wall_rows v_now_wall_columns v_now_wall_holes v_now_wall_out v_now_wall_air v_now_wall_open v_now_wall_paste v_now_moved_length v_now_moved_side v_now_moved_round v_now_moved_answers v_now_moved_stack v_now_moved_steps) fun w_15 w_16 w_17 w_18 w_19 =>
        chi a_2 25 <|
        some (w_17 a_2.toNatClampNeg, v_errors, w_18, w_19, w_15, w_16, w_17)

def f_X11_tell (a_1 : Int32) (v_errors : Nat → Int32) (v_now_waiting : Int32) (v_now_told : Nat → Int32) : Option (Int32 × (Nat → Int32) × Int32 × (Nat → Int32)) :=
  kb (f_X11_within v_now_waiting 0 19) fun r_2 =>
  if r_2 = 0 then
    kb2 (f_X11_error 4 v_errors) fun r_8 w_9 =>
    some (r_8, w_9, v_now_waiting, v_now_told)
  else
    chi v_now_waiting 20 <|
    nm (upd v_now_told v_now_waiting.toNatClampNeg a_1) fun w_5 =>
    nm (v_now_waiting + 1 : Int32) fun t_6 =>
    some (t_6, v_errors, t_6, w_5)

def f_X3_hold (a_1 : Int32) (v_holding : Int32) (v_held : Nat → Int32) : Option (Int32 × (Nat → Int32)) :=
  if v_holding < 0 then
    some (v_holding, v_held)
  else
    if 50 ≤ v_holding then
      some (v_holding, v_held)
    else
      chi v_holding 50 <|
      nm (upd v_held v_holding.toNatClampNeg a_1) fun w_4 =>
      nm (v_holding + 1 : Int32) fun t_5 =>
      some (t_5, w_4)

def f_X3_isDigit (a_0 : Int32) : Option (Int32) :=
  kb (f_X11_within a_0 48 57) fun r_2 =>
  chb r_2 <|
  some r_2

def f_X3_write (a_1 : Int32) (v_drafted : Int32) (v_draft : Nat → Int32) : Option (Int32 × (Nat → Int32)) :=
  if v_drafted < 0 then
    some (v_drafted, v_draft)
  else
    if 50 ≤ v_drafted then
      some (v_drafted, v_draft)
    else
      chi v_drafted 50 <|
      nm (upd v_draft v_drafted.toNatClampNeg a_1) fun w_4 =>
      nm (v_drafted + 1 : Int32) fun t_5 =>
      some (t_5, w_4)

def f_X3_begins_L12 (a_1 : Int32) (v_drafted : Int32) (v_holding : Int32) (v_open : Int32) (v_digits : Int32) (v_wantsOperand : Int32) (v_draft : Nat → Int32) (v_held : Nat → Int32) : Option (Int32 × Int32 × Int32 × Int32 × Int32 × Int32 × (Nat → Int32) × (Nat → Int32)) :=
  if v_open < 5 then
    nm (v_open + 1 : Int32) fun t_12 =>
    kb2 (f_X3_hold a_1 v_holding v_held) fun w_14 w_15 =>
    some (1, v_drafted, w_14, t_12, v_digits, v_wantsOperand, v_draft, w_15)
  else
    some (0, v_drafted, v_holding, v_open, v_digits, v_wantsOperand, v_draft, v_held)

def f_X3_begins_L96 (y1 : Int32) (v_drafted : Int32) (v_holding : Int32) (v_open : Int32) (v_digits : Int32) (v_draft : Nat → Int32) (v_held : Nat → Int32) : Option (Int32 × Int32 × Int32 × Int32 × Int32 × Int32 × (Nat → Int32) × (Nat → Int32)) :=
  kb2 (f_X3_write y1 v_drafted v_draft) fun w_25 w_26 =>
  some (1, w_25, v_holding, v_open, v_digits, 0, w_26, v_held)

def f_X3_begins_L75 (a_1 : Int32) (x2 : Int32) (y1 : Int32) (v_drafted : Int32) (v_holding : Int32) (v_open : Int32) (v_draft : Nat → Int32) (v_held : Nat → Int32) : Option (Int32 × Int32 × Int32 × Int32 × Int32 × Int32 × (Nat → Int32) × (Nat → Int32)) :=
  kb (f_X3_isDigit a_1) fun r_20 =>
  if r_20 = 0 then
    nm ((-1) - x2 : Int32) fun t_22 =>
    f_X3_begins_L96 t_22 v_drafted v_holding v_open y1 v_draft v_held
  else
    nm (a_1 - 48 : Int32) fun t_23 =>
    f_X3_begins_L96 t_23 v_drafted v_holding v_open y1 v_draft v_held

def f_X3_begins_L62 (a_1 : Int32) (x2 : Int32) (v_drafted : Int32) (v_holding : Int32) (v_open : Int32) (v_draft : Nat → Int32) (v_held : Nat → Int32) : Option (Int32 × Int32 × Int32 × Int32 × Int32 × Int32 × (Nat → Int32) × (Nat → Int32)) :=
  kb (f_X3_isDigit a_1) fun r_17 =>
  if r_17 = 0 then
    f_X3_begins_L75 a_1 x2 0 v_drafted v_holding v_open v_draft v_held
  else
    f_X3_begins_L75 a_1 x2 1 v_drafted v_holding v_open v_draft v_held

def f_X3_begins (a_1 : Int32) (s_names : Nat) (v_drafted : Int32) (v_holding : Int32) (v_open : Int32) (v_digits : Int32) (v_wantsOperand : Int32) (v_draft : Nat → Int32) (v_held : Nat → Int32) : Option (Int32 × Int32 × Int32 × Int32 × Int32 × Int32 × (Nat → Int32) × (Nat → Int32)) :=
  if a_1 = 33 then
    f_X3_begins_L12 a_1 v_drafted v_holding v_open v_digits v_wantsOperand v_draft v_held
  else
    if a_1 = 40 then
      f_X3_begins_L12 a_1 v_drafted v_holding v_open v_digits v_wantsOperand v_draft v_held
    else
      nm ((a_1.toUInt32 % 65536).toInt32 : Int32) fun t_3 =>
      chs s_names <|
      kb (f_J0_indexOf_0f7a4 t_3 s_names) fun r_5 =>
      kb (f_X3_isDigit a_1) fun r_8 =>
      if r_8 = 0 then
        if 0 ≤ r_5 then
          f_X3_begins_L62 a_1 r_5 v_drafted v_holding v_open v_draft v_held
        else
          some (0, v_drafted, v_holding, v_open, v_digits, v_wantsOperand, v_draft, v_held)
      else
        f_X3_begins_L62 a_1 r_5 v_drafted v_holding v_open v_draft v_held

def f_X3_lastHeld (v_holding : Int32) (v_held : Nat → Int32) : Option (Int32) :=
  if v_holding ≤ 0 then
    some 0
  else
    if 50 < v_holding then
      some 0
    else
      nm (v_holding - 1 : Int32) fun t_3 =>
      chi t_3 50 <|
      nm (v_held t_3.toNatClampNeg : Int32) fun t_5 =>
      some t_5

def f_X3_rankOf (a_0 : Int32) : Option (Int32) :=
  if a_0 = 37 then
    some 5
  else
    if a_0 = 38 then
      some 2
    else
      if a_0 = 42 then
        some 5
      else
        if a_0 = 43 then
          some 4
        else
          if a_0 = 45 then
            some 4
          else
            if a_0 = 47 then
              some 5
            else
              if a_0 = 60 then
                some 3
              else
                if a_0 = 61 then
                  some 3
                else
                  if a_0 = 62 then
                    some 3
                  else
                    if a_0 = 124 then
                      some 1
                    else
                      some 0

def f_X3_writeLastHeld (v_drafted : Int32) (v_holding : Int32) (v_draft : Nat → Int32) (v_held : Nat → Int32) : Option (Int32 × Int32 × (Nat → Int32)) :=
  kb (f_X3_lastHeld v_holding v_held) fun r_2 =>
  nm (-r_2 : Int32) fun t_3 =>
  kb2 (f_X3_write t_3 v_drafted v_draft) fun w_5 w_6 =>
  nm (v_holding - 1 : Int32) fun t_7 =>
  some (w_5, t_7, w_6)

def f_X3_closeFrom_L2 (a_1 : Int32) (v_held : Nat → Int32) : Nat → Int32 → Int32 → Int32 → (Nat → Int32) → Option (Int32 × Int32 × (Nat → Int32))
  | 0, _, _, _, _ => none
  | n + 1, x2, v_drafted, v_holding, v_draft =>
    if 50 ≤ x2 then
      some (v_drafted, v_holding, v_draft)
    else
      kb (f_X3_lastHeld v_holding v_held) fun r_3 =>
      kb (f_X3_rankOf r_3) fun r_5 =>
      if r_5 < a_1 then
        some (v_drafted, v_holding, v_draft)
      else
        kb3 (f_X3_writeLastHeld v_drafted v_holding v_draft v_held) fun w_8 w_9 w_10 =>
        nm (x2 + 1 : Int32) fun t_11 =>
        f_X3_closeFrom_L2 a_1 v_held n t_11 w_8 w_9 w_10

def f_X3_closeFrom (a_1 : Int32) (v_drafted : Int32) (v_holding : Int32) (v_draft : Nat → Int32) (v_held : Nat → Int32) : Option (Int32 × Int32 × (Nat → Int32)) :=
  f_X3_closeFrom_L2 a_1 v_held gFuel 0 v_drafted v_holding v_draft

def f_X3_closeNots_L2 (v_held : Nat → Int32) : Nat → Int32 → Int32 → Int32 → Int32 → (Nat → Int32) → Option (Int32 × Int32 × Int32 × (Nat → Int32))
  | 0, _, _, _, _, _ => none
  | n + 1, x1, v_drafted, v_holding, v_open, v_draft =>
    if 50 ≤ x1 then
      some (v_drafted, v_holding, v_open, v_draft)
    else
      kb (f_X3_lastHeld v_holding v_held) fun r_3 =>
      if r_3 = 33 then
        kb3 (f_X3_writeLastHeld v_drafted v_holding v_draft v_held) fun w_6 w_7 w_8 =>
        nm (v_open - 1 : Int32) fun t_9 =>
        nm (x1 + 1 : Int32) fun t_10 =>
        f_X3_closeNots_L2 v_held n t_10 w_6 w_7 t_9 w_8
      else
        some (v_drafted, v_holding, v_open, v_draft)

def f_X3_closeNots (v_drafted : Int32) (v_holding : Int32) (v_open : Int32) (v_draft : Nat → Int32) (v_held : Nat → Int32) : Option (Int32 × Int32 × Int32 × (Nat → Int32)) :=
  f_X3_closeNots_L2 v_held gFuel 0 v_drafted v_holding v_open v_draft

def f_X3_addDigit (a_1 : Int32) (v_drafted : Int32) (v_digits : Int32) (v_draft : Nat → Int32) : Option (Int32 × Int32 × (Nat → Int32)) :=
  if v_digits = 0 then
    some (0, v_digits, v_draft)
  else
    if 4 ≤ v_digits then
      some (0, v_digits, v_draft)
    else
      kb (f_X11_within v_drafted 1 50) fun r_4 =>
      if r_4 = 0 then
        some (0, v_digits, v_draft)
      else
        nm (v_drafted - 1 : Int32) fun t_6 =>
        nm (v_drafted - 1 : Int32) fun t_7 =>
        chi t_7 50 <|
        nm (v_draft t_7.toNatClampNeg : Int32) fun t_9 =>
        nm (t_9 * 10 : Int32) fun t_10 =>
        nm (t_10 + a_1 : Int32) fun t_11 =>
        chi t_6 50 <|
        nm (upd v_draft t_6.toNatClampNeg t_11) fun w_13 =>
        nm (v_digits + 1 : Int32) fun t_14 =>
        some (1, t_14, w_13)

def f_X3_closeParenthesis (v_drafted : Int32) (v_holding : Int32) (v_open : Int32) (v_draft : Nat → Int32) (v_held : Nat → Int32) : Option (Int32 × Int32 × Int32 × Int32 × (Nat → Int32)) :=
  kb3 (f_X3_closeFrom 1 v_drafted v_holding v_draft v_held) fun w_2 w_3 w_4 =>
  kb (f_X3_lastHeld w_3 v_held) fun r_6 =>
  if r_6 = 40 then
    nm (w_3 - 1 : Int32) fun t_8 =>
    nm (v_open - 1 : Int32) fun t_9 =>
    some (1, w_2, t_8, t_9, w_4)
  else
    some (0, w_2, w_3, v_open, w_4)

def f_X3_follows_L81 (a_1 : Int32) (v_drafted : Int32) (v_holding : Int32) (v_open : Int32) (v_digits : Int32) (v_draft : Nat → Int32) (v_held : Nat → Int32) : Option (Int32 × Int32 × Int32 × Int32 × Int32 × Int32 × (Nat → Int32) × (Nat → Int32)) :=
  kb2 (f_X3_hold a_1 v_holding v_held) fun w_39 w_40 =>
  some (1, v_drafted, w_39, v_open, v_digits, 1, v_draft, w_40)

def f_X3_follows_L60 (a_1 : Int32) (x2 : Int32) (y1 : Int32) (v_drafted : Int32) (v_holding : Int32) (v_open : Int32) (v_digits : Int32) (v_wantsOperand : Int32) (v_draft : Nat → Int32) (v_held : Nat → Int32) : Option (Int32 × Int32 × Int32 × Int32 × Int32 × Int32 × (Nat → Int32) × (Nat → Int32)) :=
  kb3 (f_X3_closeFrom y1 v_drafted v_holding v_draft v_held) fun w_29 w_30 w_31 =>
  if x2 = 3 then
    kb (f_X3_lastHeld w_30 v_held) fun r_34 =>
    kb (f_X3_rankOf r_34) fun r_36 =>
    if r_36 = 3 then
      some (0, w_29, w_30, v_open, v_digits, v_wantsOperand, w_31, v_held)
    else
      f_X3_follows_L81 a_1 w_29 w_30 v_open v_digits w_31 v_held
  else
    f_X3_follows_L81 a_1 w_29 w_30 v_open v_digits w_31 v_held

def f_X3_follows (a_1 : Int32) (v_drafted : Int32) (v_holding : Int32) (v_open : Int32) (v_digits : Int32) (v_wantsOperand : Int32) (v_draft : Nat → Int32) (v_held : Nat → Int32) : Option (Int32 × Int32 × Int32 × Int32 × Int32 × Int32 × (Nat → Int32) × (Nat → Int32)) :=
  kb (f_X3_isDigit a_1) fun r_2 =>
  if r_2 = 0 then
    kb4 (f_X3_closeNots v_drafted v_holding v_open v_draft v_held) fun w_5 w_6 w_7 w_8 =>
    if a_1 = 41 then
      kb5 (f_X3_closeParenthesis w_5 w_6 w_7 w_8 v_held) fun r_16 w_17 w_18 w_19 w_20 =>
      chb r_16 <|
      some (r_16, w_17, w_18, w_19, 0, v_wantsOperand, w_20, v_held)
    else
      kb (f_X3_rankOf a_1) fun r_11 =>
      if r_11 = 0 then
        some (0, w_5, w_6, w_7, 0, v_wantsOperand, w_8, v_held)
      else
        if r_11 = 3 then
          nm (r_11 + 1 : Int32) fun t_14 =>
          f_X3_follows_L60 a_1 r_11 t_14 w_5 w_6 w_7 0 v_wantsOperand w_8 v_held
        else
          f_X3_follows_L60 a_1 r_11 r_11 w_5 w_6 w_7 0 v_wantsOperand w_8 v_held
  else
    nm (a_1 - 48 : Int32) fun t_22 =>
    kb3 (f_X3_addDigit t_22 v_drafted v_digits v_draft) fun r_24 w_25 w_26 =>
    chb r_24 <|
    some (r_24, v_drafted, v_holding, v_open, w_25, v_wantsOperand, w_26, v_held)

def f_X3_read_L77 (a_2 : Int32) (v_length : Int32) (v_round : Int32) (v_drafted : Int32) (v_holding : Int32) (v_open : Int32) (v_digits : Int32) (v_wantsOperand : Int32) (v_draft : Nat → Int32) (v_held : Nat → Int32) (v_steps : Nat → Int32) : Option (Int32 × Int32 × Int32 × Int32 × Int32 × Int32 × Int32 × Int32 × (Nat → Int32) × (Nat → Int32) × (Nat → Int32)) :=
  kb4 (f_X3_closeNots v_drafted v_holding v_open v_draft v_held) fun w_27 w_28 w_29 w_30 =>
  kb3 (f_X3_closeFrom 1 w_27 w_28 w_30 v_held) fun w_32 w_33 w_34 =>
  if v_wantsOperand = 0 then
    if w_33 ≤ 0 then
      chc 0 0 50 50 50 <|
      nm (va_cpy w_34 v_steps (0 : Int32).toNatClampNeg (0 : Int32).toNatClampNeg (50 : Int32).toNatClampNeg) fun w_42 =>
      nm (v_round + 1 : Int32) fun t_43 =>
      some ((-1), w_32, t_43, w_32, w_33, w_29, v_digits, v_wantsOperand, w_34, v_held, w_42)
    else
      some (a_2, v_length, v_round, w_32, w_33, w_29, v_digits, v_wantsOperand, w_34, v_held, v_steps)
  else
    some (a_2, v_length, v_round, w_32, w_33, w_29, v_digits, v_wantsOperand, w_34, v_held, v_steps)

def f_X3_read_L62 (kk_L27 : Int32 → Int32 → Int32 → Int32 → Int32 → Int32 → Int32 → Int32 → (Nat → Int32) → (Nat → Int32) → (Nat → Int32) → Option (Int32 × Int32 × Int32 × Int32 × Int32 × Int32 × Int32 × Int32 × (Nat → Int32) × (Nat → Int32) × (Nat → Int32))) (a_2 : Int32) (s_names : Nat) (v_p1 : Nat → Int32) (x3 : Int32) (y0 : Int32) (v_length : Int32) (v_round : Int32) (v_drafted : Int32) (v_holding : Int32) (v_open : Int32) (v_digits : Int32) (v_wantsOperand : Int32) (v_draft : Nat → Int32) (v_held : Nat → Int32) (v_steps : Nat → Int32) : Option (Int32 × Int32 × Int32 × Int32 × Int32 × Int32 × Int32 × Int32 × (Nat → Int32) × (Nat → Int32) × (Nat → Int32)) :=
  if y0 = 0 then
    some (x3, v_length, v_round, v_drafted, v_holding, v_open, v_digits, v_wantsOperand, v_draft, v_held, v_steps)
  else
    nm (x3 + 1 : Int32) fun t_45 =>
    kk_L27 t_45 v_length v_round v_drafted v_holding v_open v_digits v_wantsOperand v_draft v_held v_steps

def f_X3_read_L27 (a_2 : Int32) (s_names : Nat) (v_p1 : Nat → Int32) : Nat → Int32 → Int32 → Int32 → Int32 → Int32 → Int32 → Int32 → Int32 → (Nat → Int32) → (Nat → Int32) → (Nat → Int32) → Option (Int32 × Int32 × Int32 × Int32 × Int32 × Int32 × Int32 × Int32 × (Nat → Int32) × (Nat → Int32) × (Nat → Int32))
  | 0, _, _, _, _, _, _, _, _, _, _, _ => none
  | n + 1, x3, v_length, v_round, v_drafted, v_holding, v_open, v_digits, v_wantsOperand, v_draft, v_held, v_steps =>
    if a_2 ≤ x3 then
      f_X3_read_L77 a_2 v_length v_round v_drafted v_holding v_open v_digits v_wantsOperand v_draft v_held v_steps
    else
      if 50 ≤ x3 then
        f_X3_read_L77 a_2 v_length v_round v_drafted v_holding v_open v_digits v_wantsOperand v_draft v_held v_steps
      else
        if v_wantsOperand = 0 then
          chi x3 50 <|
          nm (v_p1 x3.toNatClampNeg : Int32) fun t_5 =>
          kb8 (f_X3_follows t_5 v_drafted v_holding v_open v_digits v_wantsOperand v_draft v_held) fun r_7 w_8 w_9 w_10 w_11 w_12 w_13 w_14 =>
          f_X3_read_L62 (f_X3_read_L27 a_2 s_names v_p1 n) a_2 s_names v_p1 x3 r_7 v_length v_round w_8 w_9 w_10 w_11 w_12 w_13 w_14 v_steps
        else
          chi x3 50 <|
          nm (v_p1 x3.toNatClampNeg : Int32) fun t_16 =>
          kb8 (f_X3_begins t_16 s_names v_drafted v_holding v_open v_digits v_wantsOperand v_draft v_held) fun r_18 w_19 w_20 w_21 w_22 w_23 w_24 w_25 =>
          f_X3_read_L62 (f_X3_read_L27 a_2 s_names v_p1 n) a_2 s_names v_p1 x3 r_18 v_length v_round w_19 w_20 w_21 w_22 w_23 w_24 w_25 v_steps
