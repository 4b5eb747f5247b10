def f_X3_read (a_2 : Int32) (s_names : Nat) (v_length : Int32) (v_round : Int32) (v_drafted : Int32) (v_holding : Int32) (v_open : Int32) (v_digits : Int32) (v_wantsOperand : Int32) (v_draft : Nat → Int32) (v_held : Nat → Int32) (v_steps : Nat → Int32) (v_p1 : Nat → Int32) : Option (Int32 × Int32 × Int32 × Int32 × Int32 × Int32 × Int32 × Int32 × (Nat → Int32) × (Nat → Int32) × (Nat → Int32)) :=
  f_X3_read_L27 a_2 s_names v_p1 gFuel 0 v_length v_round 0 0 0 0 1 v_draft v_held v_steps

def f_X11_text (a_1 : Int32) (s_now_moved_names : Nat) (s_now_seen_names : Nat) (v_errors : Nat → Int32) (v_now_tapeLength : Int32) (v_now_moved_length : Int32) (v_now_moved_round : Int32) (v_now_moved_drafted : Int32) (v_now_moved_holding : Int32) (v_now_moved_open : Int32) (v_now_moved_digits : Int32) (v_now_moved_wantsOperand : Int32) (v_now_moved_draft : Nat → Int32) (v_now_moved_held : Nat → Int32) (v_now_moved_steps : Nat → Int32) (v_now_seen_length : Int32) (v_now_seen_round : Int32) (v_now_seen_drafted : Int32) (v_now_seen_holding : Int32) (v_now_seen_open : Int32) (v_now_seen_digits : Int32) (v_now_seen_wantsOperand : Int32) (v_now_seen_draft : Nat → Int32) (v_now_seen_held : Nat → Int32) (v_now_seen_steps : Nat → Int32) (v_now_tape : Nat → Int32) : Option (Int32 × (Nat → Int32) × Int32 × Int32 × Int32 × Int32 × Int32 × Int32 × Int32 × Int32 × (Nat → Int32) × (Nat → Int32) × (Nat → Int32) × Int32 × Int32 × Int32 × Int32 × Int32 × Int32 × Int32 × (Nat → Int32) × (Nat → Int32) × (Nat → Int32)) :=
  kb (f_X11_isUse a_1) fun r_2 =>
  if r_2 = 0 then
    kb2 (f_X11_error 1 v_errors) fun r_34 w_35 =>
    some (r_34, w_35, v_now_tapeLength, v_now_moved_length, v_now_moved_round, v_now_moved_drafted, v_now_moved_holding, v_now_moved_open, v_now_moved_digits, v_now_moved_wantsOperand, v_now_moved_draft, v_now_moved_held, v_now_moved_steps, v_now_seen_length, v_now_seen_round, v_now_seen_drafted, v_now_seen_holding, v_now_seen_open, v_now_seen_digits, v_now_seen_wantsOperand, v_now_seen_draft, v_now_seen_held, v_now_seen_steps)
  else
    kb (f_X11_lawOf a_1) fun r_5 =>
    if r_5 = 0 then
      kb11 (f_X3_read v_now_tapeLength s_now_moved_names v_now_moved_length v_now_moved_round v_now_moved_drafted v_now_moved_holding v_now_moved_open v_now_moved_digits v_now_moved_wantsOperand v_now_moved_draft v_now_moved_held v_now_moved_steps v_now_tape) fun r_8 w_9 w_10 w_11 w_12 w_13 w_14 w_15 w_16 w_17 w_18 =>
      if 0 ≤ r_8 then
        some ((-10) - r_8, v_errors, 0, w_9, w_10, w_11, w_12, w_13, w_14, w_15, w_16, w_17, w_18, v_now_seen_length, v_now_seen_round, v_now_seen_drafted, v_now_seen_holding, v_now_seen_open, v_now_seen_digits, v_now_seen_wantsOperand, v_now_seen_draft, v_now_seen_held, v_now_seen_steps)
      else
        some (1, v_errors, 0, w_9, w_10, w_11, w_12, w_13, w_14, w_15, w_16, w_17, w_18, v_now_seen_length, v_now_seen_round, v_now_seen_drafted, v_now_seen_holding, v_now_seen_open, v_now_seen_digits, v_now_seen_wantsOperand, v_now_seen_draft, v_now_seen_held, v_now_seen_steps)
    else
      kb11 (f_X3_read v_now_tapeLength s_now_seen_names v_now_seen_length v_now_seen_round v_now_seen_drafted v_now_seen_holding v_now_seen_open v_now_seen_digits v_now_seen_wantsOperand v_now_seen_draft v_now_seen_held v_now_seen_steps v_now_tape) fun r_21 w_22 w_23 w_24 w_25 w_26 w_27 w_28 w_29 w_30 w_31 =>
      if 0 ≤ r_21 then
        some ((-10) - r_21, v_errors, 0, v_now_moved_length, v_now_moved_round, v_now_moved_drafted, v_now_moved_holding, v_now_moved_open, v_now_moved_digits, v_now_moved_wantsOperand, v_now_moved_draft, v_now_moved_held, v_now_moved_steps, w_22, w_23, w_24, w_25, w_26, w_27, w_28, w_29, w_30, w_31)
      else
        some (1, v_errors, 0, v_now_moved_length, v_now_moved_round, v_now_moved_drafted, v_now_moved_holding, v_now_moved_open, v_now_moved_digits, v_now_moved_wantsOperand, v_now_moved_draft, v_now_moved_held, v_now_moved_steps, w_22, w_23, w_24, w_25, w_26, w_27, w_28, w_29, w_30, w_31)

def f_X11_told (a_1 : Int32) (v_errors : Nat → Int32) : Option (Int32 × (Nat → Int32)) :=
  kb (f_X11_within a_1 1 5) fun r_2 =>
  if r_2 = 0 then
    kb2 (f_X11_error 1 v_errors) fun r_5 w_6 =>
    some (r_5, w_6)
  else
    chi a_1 6 <|
    nm (v_errors a_1.toNatClampNeg : Int32) fun t_8 =>
    some (t_8, v_errors)

def f_X11_tool (a_1 : Int32) (v_errors : Nat → Int32) (v_now_tools : Int32) (v_now_kind : Nat → Int32) (v_now_m : Nat → Int32) : Option (Int32 × (Nat → Int32) × Int32 × (Nat → Int32) × (Nat → Int32)) :=
  kb (f_X11_within a_1 0 69) fun r_2 =>
  if r_2 = 0 then
    kb2 (f_X11_error 1 v_errors) fun r_20 w_21 =>
    some (r_20, w_21, v_now_tools, v_now_kind, v_now_m)
  else
    kb (f_X11_within v_now_tools 0 5) fun r_5 =>
    if r_5 = 0 then
      kb2 (f_X11_error 4 v_errors) fun r_17 w_18 =>
      some (r_17, w_18, v_now_tools, v_now_kind, v_now_m)
    else
      chz 10 <|
      nm (a_1 / 10 : Int32) fun t_8 =>
      chi v_now_tools 6 <|
      nm (upd v_now_kind v_now_tools.toNatClampNeg t_8) fun w_10 =>
      chz 10 <|
      nm (a_1 - a_1 / 10 * 10 : Int32) fun t_12 =>
      chi v_now_tools 6 <|
      nm (upd v_now_m v_now_tools.toNatClampNeg t_12) fun w_14 =>
      nm (v_now_tools + 1 : Int32) fun t_15 =>
      some (v_now_tools, v_errors, t_15, w_10, w_14)

def f_X11_trace_L35 (v_errors : Nat → Int32) : Option (Int32 × (Nat → Int32)) :=
  kb2 (f_X11_error 2 v_errors) fun r_9 w_10 =>
  some (r_9, w_10)

def f_X11_trace (a_1 : Int32) (v_errors : Nat → Int32) (v_voice_length : Int32) (v_voice_bodies : Nat → Int32) : Option (Int32 × (Nat → Int32)) :=
  nm (v_voice_length - 1 : Int32) fun t_1 =>
  kb (f_X11_within a_1 0 t_1) fun r_3 =>
  if r_3 = 0 then
    f_X11_trace_L35 v_errors
  else
    if 40 ≤ a_1 then
      f_X11_trace_L35 v_errors
    else
      chi a_1 40 <|
      nm (v_voice_bodies a_1.toNatClampNeg : Int32) fun t_7 =>
      some (t_7, v_errors)

def f_X9_start (a_1 : Int32) (a_2 : Int32) (v_n : Int32) (v_m : Int32) (v_length : Int32) : Option (Int32 × Int32 × Int32) :=
  some (a_1, a_2, 0)

def f_X8_sayMoves_X8 (a_1 : Int32) (v_p2_n : Int32) (v_p2_m : Int32) (v_p2_length : Int32) (v_p2_bodies : Nat → Int32) : Option (Int32 × Int32 × (Nat → Int32)) :=
  kb2 (f_X9_begin 10 v_p2_length v_p2_bodies) fun w_2 w_3 =>
  some (a_1 + v_p2_n, w_2, w_3)

def f_X8_sayLets_X8 (a_1 : Int32) (v_p2_n : Int32) (v_p2_m : Int32) (v_p2_length : Int32) (v_p2_bodies : Nat → Int32) : Option (Int32 × Int32 × (Nat → Int32)) :=
  kb2 (f_X9_begin 11 v_p2_length v_p2_bodies) fun w_2 w_3 =>
  kb3 (f_X8_sayMoves_X8 a_1 v_p2_n v_p2_m w_2 w_3) fun r_5 w_6 w_7 =>
  some (r_5 * 2, w_6, w_7)

def f_X8_sayLets_X0 (a_1 : Int32) (v_p2_n : Int32) (v_p2_m : Int32) (v_p2_length : Int32) (v_p2_bodies : Nat → Int32) : Option (Int32 × Int32 × (Nat → Int32)) :=
  kb2 (f_X9_begin 11 v_p2_length v_p2_bodies) fun w_2 w_3 =>
  kb3 (f_X0_sayMoves_X0 a_1 v_p2_n v_p2_m w_2 w_3) fun r_5 w_6 w_7 =>
  some (r_5 * 2, w_6, w_7)

def f_X8_sayMoves_X4 (a_1 : Int32) (v_p2_n : Int32) (v_p2_m : Int32) (v_p2_length : Int32) (v_p2_bodies : Nat → Int32) : Option (Int32 × Int32 × (Nat → Int32)) :=
  kb2 (f_X9_begin 10 v_p2_length v_p2_bodies) fun w_2 w_3 =>
  some (a_1 + v_p2_n, w_2, w_3)

def f_X8_sayLets_X4 (a_1 : Int32) (v_p2_n : Int32) (v_p2_m : Int32) (v_p2_length : Int32) (v_p2_bodies : Nat → Int32) : Option (Int32 × Int32 × (Nat → Int32)) :=
  kb2 (f_X9_begin 11 v_p2_length v_p2_bodies) fun w_2 w_3 =>
  kb3 (f_X8_sayMoves_X4 a_1 v_p2_n v_p2_m w_2 w_3) fun r_5 w_6 w_7 =>
  some (r_5 * 2, w_6, w_7)

def f_X8_sayTears_X4 (a_1 : Int32) (v_p2_n : Int32) (v_p2_m : Int32) (v_p2_length : Int32) (v_p2_bodies : Nat → Int32) : Option (Int32 × Int32 × (Nat → Int32)) :=
  kb2 (f_X9_begin 12 v_p2_length v_p2_bodies) fun w_2 w_3 =>
  some (a_1 - v_p2_m, w_2, w_3)

def f_X4_sayLets_X4 (a_1 : Int32) (v_p2_n : Int32) (v_p2_m : Int32) (v_p2_length : Int32) (v_p2_bodies : Nat → Int32) : Option (Int32 × Int32 × (Nat → Int32)) :=
  kb2 (f_X9_begin 30 v_p2_length v_p2_bodies) fun w_2 w_3 =>
  kb3 (f_X8_sayLets_X4 a_1 v_p2_n v_p2_m w_2 w_3) fun r_5 w_6 w_7 =>
  kb3 (f_X8_sayTears_X4 1 v_p2_n v_p2_m w_6 w_7) fun r_9 w_10 w_11 =>
  some (r_5 - r_9, w_10, w_11)

def f_X8_sayMoves_X5 (a_1 : Int32) (v_p2_n : Int32) (v_p2_m : Int32) (v_p2_length : Int32) (v_p2_bodies : Nat → Int32) : Option (Int32 × Int32 × (Nat → Int32)) :=
  kb2 (f_X9_begin 10 v_p2_length v_p2_bodies) fun w_2 w_3 =>
  some (a_1 + v_p2_n, w_2, w_3)

def f_X8_sayLets_X5 (a_1 : Int32) (v_p2_n : Int32) (v_p2_m : Int32) (v_p2_length : Int32) (v_p2_bodies : Nat → Int32) : Option (Int32 × Int32 × (Nat → Int32)) :=
  kb2 (f_X9_begin 11 v_p2_length v_p2_bodies) fun w_2 w_3 =>
  kb3 (f_X8_sayMoves_X5 a_1 v_p2_n v_p2_m w_2 w_3) fun r_5 w_6 w_7 =>
  some (r_5 * 2, w_6, w_7)

def f_X8_sayLets_X6 (a_1 : Int32) (v_p2_n : Int32) (v_p2_m : Int32) (v_p2_length : Int32) (v_p2_bodies : Nat → Int32) : Option (Int32 × Int32 × (Nat → Int32)) :=
  kb2 (f_X9_begin 11 v_p2_length v_p2_bodies) fun w_2 w_3 =>
  kb3 (f_X0_sayMoves_X6 a_1 v_p2_n v_p2_m w_2 w_3) fun r_5 w_6 w_7 =>
  some (r_5 * 2, w_6, w_7)

def f_X8_sayMoves_X2 (a_1 : Int32) (v_p2_n : Int32) (v_p2_m : Int32) (v_p2_length : Int32) (v_p2_bodies : Nat → Int32) : Option (Int32 × Int32 × (Nat → Int32)) :=
  kb2 (f_X9_begin 10 v_p2_length v_p2_bodies) fun w_2 w_3 =>
  some (a_1 + v_p2_n, w_2, w_3)

def f_X8_sayLets_X2 (a_1 : Int32) (v_p2_n : Int32) (v_p2_m : Int32) (v_p2_length : Int32) (v_p2_bodies : Nat → Int32) : Option (Int32 × Int32 × (Nat → Int32)) :=
  kb2 (f_X9_begin 11 v_p2_length v_p2_bodies) fun w_2 w_3 =>
  kb3 (f_X8_sayMoves_X2 a_1 v_p2_n v_p2_m w_2 w_3) fun r_5 w_6 w_7 =>
  some (r_5 * 2, w_6, w_7)

def f_X8_sayTears_X2 (a_1 : Int32) (v_p2_n : Int32) (v_p2_m : Int32) (v_p2_length : Int32) (v_p2_bodies : Nat → Int32) : Option (Int32 × Int32 × (Nat → Int32)) :=
  kb2 (f_X9_begin 12 v_p2_length v_p2_bodies) fun w_2 w_3 =>
  some (a_1 - v_p2_m, w_2, w_3)

def f_X4_sayLets_X2 (a_1 : Int32) (v_p2_n : Int32) (v_p2_m : Int32) (v_p2_length : Int32) (v_p2_bodies : Nat → Int32) : Option (Int32 × Int32 × (Nat → Int32)) :=
  kb2 (f_X9_begin 30 v_p2_length v_p2_bodies) fun w_2 w_3 =>
  kb3 (f_X8_sayLets_X2 a_1 v_p2_n v_p2_m w_2 w_3) fun r_5 w_6 w_7 =>
  kb3 (f_X8_sayTears_X2 1 v_p2_n v_p2_m w_6 w_7) fun r_9 w_10 w_11 =>
  some (r_5 - r_9, w_10, w_11)

def f_X2_sayLets_X2 (a_1 : Int32) (v_p2_n : Int32) (v_p2_m : Int32) (v_p2_length : Int32) (v_p2_bodies : Nat → Int32) : Option (Int32 × Int32 × (Nat → Int32)) :=
  kb2 (f_X9_begin 60 v_p2_length v_p2_bodies) fun w_2 w_3 =>
  nm (a_1 + 1 : Int32) fun t_4 =>
  kb3 (f_X4_sayLets_X2 t_4 v_p2_n v_p2_m w_2 w_3) fun r_6 w_7 w_8 =>
  some (r_6, w_7, w_8)

def f_X8_sayMoves_X1 (a_1 : Int32) (v_p2_n : Int32) (v_p2_m : Int32) (v_p2_length : Int32) (v_p2_bodies : Nat → Int32) : Option (Int32 × Int32 × (Nat → Int32)) :=
  kb2 (f_X9_begin 10 v_p2_length v_p2_bodies) fun w_2 w_3 =>
  some (a_1 + v_p2_n, w_2, w_3)

def f_X8_sayLets_X1 (a_1 : Int32) (v_p2_n : Int32) (v_p2_m : Int32) (v_p2_length : Int32) (v_p2_bodies : Nat → Int32) : Option (Int32 × Int32 × (Nat → Int32)) :=
  kb2 (f_X9_begin 11 v_p2_length v_p2_bodies) fun w_2 w_3 =>
  kb3 (f_X8_sayMoves_X1 a_1 v_p2_n v_p2_m w_2 w_3) fun r_5 w_6 w_7 =>
  some (r_5 * 2, w_6, w_7)

def f_TD_sayLets (k : Int32) (a_1 : Int32) (v_p2_n : Int32) (v_p2_m : Int32) (v_p2_length : Int32) (v_p2_bodies : Nat → Int32) : Option (Int32 × Int32 × (Nat → Int32)) :=
  if k = 0 then f_X8_sayLets_X8 a_1 v_p2_n v_p2_m v_p2_length v_p2_bodies else
  if k = 1 then f_X8_sayLets_X0 a_1 v_p2_n v_p2_m v_p2_length v_p2_bodies else
  if k = 2 then f_X4_sayLets_X4 a_1 v_p2_n v_p2_m v_p2_length v_p2_bodies else
  if k = 3 then f_X8_sayLets_X5 a_1 v_p2_n v_p2_m v_p2_length v_p2_bodies else
  if k = 4 then f_X8_sayLets_X6 a_1 v_p2_n v_p2_m v_p2_length v_p2_bodies else
  if k = 5 then f_X2_sayLets_X2 a_1 v_p2_n v_p2_m v_p2_length v_p2_bodies else
  if k = 6 then f_X8_sayLets_X1 a_1 v_p2_n v_p2_m v_p2_length v_p2_bodies else
  none
def f_TD_sayMoves (k : Int32) (a_1 : Int32) (v_p2_n : Int32) (v_p2_m : Int32) (v_p2_length : Int32) (v_p2_bodies : Nat → Int32) : Option (Int32 × Int32 × (Nat → Int32)) :=
  if k = 0 then f_X8_sayMoves_X8 a_1 v_p2_n v_p2_m v_p2_length v_p2_bodies else
  if k = 1 then f_X0_sayMoves_X0 a_1 v_p2_n v_p2_m v_p2_length v_p2_bodies else
  if k = 2 then f_X8_sayMoves_X4 a_1 v_p2_n v_p2_m v_p2_length v_p2_bodies else
  if k = 3 then f_X8_sayMoves_X5 a_1 v_p2_n v_p2_m v_p2_length v_p2_bodies else
  if k = 4 then f_X0_sayMoves_X6 a_1 v_p2_n v_p2_m v_p2_length v_p2_bodies else
  if k = 5 then f_X8_sayMoves_X2 a_1 v_p2_n v_p2_m v_p2_length v_p2_bodies else
  if k = 6 then f_X8_sayMoves_X1 a_1 v_p2_n v_p2_m v_p2_length v_p2_bodies else
  none
def f_X8_sayTears_X8 (a_1 : Int32) (v_p2_n : Int32) (v_p2_m : Int32) (v_p2_length : Int32) (v_p2_bodies : Nat → Int32) : Option (Int32 × Int32 × (Nat → Int32)) :=
  kb2 (f_X9_begin 12 v_p2_length v_p2_bodies) fun w_2 w_3 =>
  some (a_1 - v_p2_m, w_2, w_3)

def f_X8_sayTears_X0 (a_1 : Int32) (v_p2_n : Int32) (v_p2_m : Int32) (v_p2_length : Int32) (v_p2_bodies : Nat → Int32) : Option (Int32 × Int32 × (Nat → Int32)) :=
  kb2 (f_X9_begin 12 v_p2_length v_p2_bodies) fun w_2 w_3 =>
  some (a_1 - v_p2_m, w_2, w_3)

def f_X8_sayTears_X5 (a_1 : Int32) (v_p2_n : Int32) (v_p2_m : Int32) (v_p2_length : Int32) (v_p2_bodies : Nat → Int32) : Option (Int32 × Int32 × (Nat → Int32)) :=
  kb2 (f_X9_begin 12 v_p2_length v_p2_bodies) fun w_2 w_3 =>
  some (a_1 - v_p2_m, w_2, w_3)

def f_X5_sayTears_X5 (a_1 : Int32) (v_p2_n : Int32) (v_p2_m : Int32) (v_p2_length : Int32) (v_p2_bodies : Nat → Int32) : Option (Int32 × Int32 × (Nat → Int32)) :=
  kb2 (f_X9_begin 40 v_p2_length v_p2_bodies) fun w_2 w_3 =>
  kb3 (f_X8_sayTears_X5 a_1 v_p2_n v_p2_m w_2 w_3) fun r_5 w_6 w_7 =>
  some (-r_5, w_6, w_7)

def f_X8_sayTears_X6 (a_1 : Int32) (v_p2_n : Int32) (v_p2_m : Int32) (v_p2_length : Int32) (v_p2_bodies : Nat → Int32) : Option (Int32 × Int32 × (Nat → Int32)) :=
  kb2 (f_X9_begin 12 v_p2_length v_p2_bodies) fun w_2 w_3 =>
  some (a_1 - v_p2_m, w_2, w_3)

def f_X8_sayTears_X1 (a_1 : Int32) (v_p2_n : Int32) (v_p2_m : Int32) (v_p2_length : Int32) (v_p2_bodies : Nat → Int32) : Option (Int32 × Int32 × (Nat → Int32)) :=
  kb2 (f_X9_begin 12 v_p2_length v_p2_bodies) fun w_2 w_3 =>
  some (a_1 - v_p2_m, w_2, w_3)

def f_X5_sayTears_X1 (a_1 : Int32) (v_p2_n : Int32) (v_p2_m : Int32) (v_p2_length : Int32) (v_p2_bodies : Nat → Int32) : Option (Int32 × Int32 × (Nat → Int32)) :=
  kb2 (f_X9_begin 40 v_p2_length v_p2_bodies) fun w_2 w_3 =>
  kb3 (f_X8_sayTears_X1 a_1 v_p2_n v_p2_m w_2 w_3) fun r_5 w_6 w_7 =>
  some (-r_5, w_6, w_7)

def f_X1_sayTears_X1 (a_1 : Int32) (v_p2_n : Int32) (v_p2_m : Int32) (v_p2_length : Int32) (v_p2_bodies : Nat → Int32) : Option (Int32 × Int32 × (Nat → Int32)) :=
  kb2 (f_X9_begin 70 v_p2_length v_p2_bodies) fun w_2 w_3 =>
  kb3 (f_X5_sayTears_X1 a_1 v_p2_n v_p2_m w_2 w_3) fun r_5 w_6 w_7 =>
  some (r_5 ^^^ v_p2_n, w_6, w_7)

def f_TD_sayTears (k : Int32) (a_1 : Int32) (v_p2_n : Int32) (v_p2_m : Int32) (v_p2_length : Int32) (v_p2_bodies : Nat → Int32) : Option (Int32 × Int32 × (Nat → Int32)) :=
  if k = 0 then f_X8_sayTears_X8 a_1 v_p2_n v_p2_m v_p2_length v_p2_bodies else
  if k = 1 then f_X8_sayTears_X0 a_1 v_p2_n v_p2_m v_p2_length v_p2_bodies else
  if k = 2 then f_X8_sayTears_X4 a_1 v_p2_n v_p2_m v_p2_length v_p2_bodies else
  if k = 3 then f_X5_sayTears_X5 a_1 v_p2_n v_p2_m v_p2_length v_p2_bodies else
  if k = 4 then f_X8_sayTears_X6 a_1 v_p2_n v_p2_m v_p2_length v_p2_bodies else
  if k = 5 then f_X8_sayTears_X2 a_1 v_p2_n v_p2_m v_p2_length v_p2_bodies else
  if k = 6 then f_X1_sayTears_X1 a_1 v_p2_n v_p2_m v_p2_length v_p2_bodies else
  none
def f_X8_sayTells_X8 (a_1 : Int32) (v_p2_n : Int32) (v_p2_m : Int32) (v_p2_length : Int32) (v_p2_bodies : Nat → Int32) : Option (Int32 × Int32 × (Nat → Int32)) :=
  kb2 (f_X9_begin 13 v_p2_length v_p2_bodies) fun w_2 w_3 =>
  kb3 (f_X8_sayLets_X8 a_1 v_p2_n v_p2_m w_2 w_3) fun r_5 w_6 w_7 =>
  kb3 (f_X8_sayTears_X8 a_1 v_p2_n v_p2_m w_6 w_7) fun r_9 w_10 w_11 =>
  some (r_5 ^^^ r_9, w_10, w_11)

def f_X8_sayTells_X0 (a_1 : Int32) (v_p2_n : Int32) (v_p2_m : Int32) (v_p2_length : Int32) (v_p2_bodies : Nat → Int32) : Option (Int32 × Int32 × (Nat → Int32)) :=
  kb2 (f_X9_begin 13 v_p2_length v_p2_bodies) fun w_2 w_3 =>
  kb3 (f_X8_sayLets_X0 a_1 v_p2_n v_p2_m w_2 w_3) fun r_5 w_6 w_7 =>
  kb3 (f_X8_sayTears_X0 a_1 v_p2_n v_p2_m w_6 w_7) fun r_9 w_10 w_11 =>
  some (r_5 ^^^ r_9, w_10, w_11)

def f_X8_sayTells_X4 (a_1 : Int32) (v_p2_n : Int32) (v_p2_m : Int32) (v_p2_length : Int32) (v_p2_bodies : Nat → Int32) : Option (Int32 × Int32 × (Nat → Int32)) :=
  kb2 (f_X9_begin 13 v_p2_length v_p2_bodies) fun w_2 w_3 =>
  kb3 (f_X4_sayLets_X4 a_1 v_p2_n v_p2_m w_2 w_3) fun r_5 w_6 w_7 =>
  kb3 (f_X8_sayTears_X4 a_1 v_p2_n v_p2_m w_6 w_7) fun r_9 w_10 w_11 =>
  some (r_5 ^^^ r_9, w_10, w_11)

def f_X8_sayTells_X5 (a_1 : Int32) (v_p2_n : Int32) (v_p2_m : Int32) (v_p2_length : Int32) (v_p2_bodies : Nat → Int32) : Option (Int32 × Int32 × (Nat → Int32)) :=
  kb2 (f_X9_begin 13 v_p2_length v_p2_bodies) fun w_2 w_3 =>
  kb3 (f_X8_sayLets_X5 a_1 v_p2_n v_p2_m w_2 w_3) fun r_5 w_6 w_7 =>
  kb3 (f_X5_sayTears_X5 a_1 v_p2_n v_p2_m w_6 w_7) fun r_9 w_10 w_11 =>
  some (r_5 ^^^ r_9, w_10, w_11)

def f_X8_sayTells_X6 (a_1 : Int32) (v_p2_n : Int32) (v_p2_m : Int32) (v_p2_length : Int32) (v_p2_bodies : Nat → Int32) : Option (Int32 × Int32 × (Nat → Int32)) :=
  kb2 (f_X9_begin 13 v_p2_length v_p2_bodies) fun w_2 w_3 =>
  kb3 (f_X8_sayLets_X6 a_1 v_p2_n v_p2_m w_2 w_3) fun r_5 w_6 w_7 =>
  kb3 (f_X8_sayTears_X6 a_1 v_p2_n v_p2_m w_6 w_7) fun r_9 w_10 w_11 =>
  some (r_5 ^^^ r_9, w_10, w_11)

def f_X6_sayTells_X6 (a_1 : Int32) (v_p2_n : Int32) (v_p2_m : Int32) (v_p2_length : Int32) (v_p2_bodies : Nat → Int32) : Option (Int32 × Int32 × (Nat → Int32)) :=
  kb2 (f_X9_begin 50 v_p2_length v_p2_bodies) fun w_2 w_3 =>
  kb3 (f_X8_sayTells_X6 a_1 v_p2_n v_p2_m w_2 w_3) fun r_5 w_6 w_7 =>
  kb3 (f_X0_sayMoves_X6 2 v_p2_n v_p2_m w_6 w_7) fun r_9 w_10 w_11 =>
  some (r_5 - r_9, w_10, w_11)

def f_X8_sayTells_X2 (a_1 : Int32) (v_p2_n : Int32) (v_p2_m : Int32) (v_p2_length : Int32) (v_p2_bodies : Nat → Int32) : Option (Int32 × Int32 × (Nat → Int32)) :=
  kb2 (f_X9_begin 13 v_p2_length v_p2_bodies) fun w_2 w_3 =>
  kb3 (f_X2_sayLets_X2 a_1 v_p2_n v_p2_m w_2 w_3) fun r_5 w_6 w_7 =>
  kb3 (f_X8_sayTears_X2 a_1 v_p2_n v_p2_m w_6 w_7) fun r_9 w_10 w_11 =>
  some (r_5 ^^^ r_9, w_10, w_11)

def f_X8_sayTells_X1 (a_1 : Int32) (v_p2_n : Int32) (v_p2_m : Int32) (v_p2_length : Int32) (v_p2_bodies : Nat → Int32) : Option (Int32 × Int32 × (Nat → Int32)) :=
  kb2 (f_X9_begin 13 v_p2_length v_p2_bodies) fun w_2 w_3 =>
  kb3 (f_X8_sayLets_X1 a_1 v_p2_n v_p2_m w_2 w_3) fun r_5 w_6 w_7 =>
  kb3 (f_X1_sayTears_X1 a_1 v_p2_n v_p2_m w_6 w_7) fun r_9 w_10 w_11 =>
  some (r_5 ^^^ r_9, w_10, w_11)

def f_X1_sayTells_X1 (a_1 : Int32) (v_p2_n : Int32) (v_p2_m : Int32) (v_p2_length : Int32) (v_p2_bodies : Nat → Int32) : Option (Int32 × Int32 × (Nat → Int32)) :=
  kb2 (f_X9_begin 71 v_p2_length v_p2_bodies) fun w_2 w_3 =>
  kb3 (f_X8_sayLets_X1 a_1 v_p2_n v_p2_m w_2 w_3) fun r_5 w_6 w_7 =>
  kb3 (f_X8_sayTells_X1 a_1 v_p2_n v_p2_m w_6 w_7) fun r_9 w_10 w_11 =>
  some (r_5 - r_9, w_10, w_11)

def f_TD_sayTells (k : Int32) (a_1 : Int32) (v_p2_n : Int32) (v_p2_m : Int32) (v_p2_length : Int32) (v_p2_bodies : Nat → Int32) : Option (Int32 × Int32 × (Nat → Int32)) :=
  if k = 0 then f_X8_sayTells_X8 a_1 v_p2_n v_p2_m v_p2_length v_p2_bodies else
  if k = 1 then f_X8_sayTells_X0 a_1 v_p2_n v_p2_m v_p2_length v_p2_bodies else
  if k = 2 then f_X8_sayTells_X4 a_1 v_p2_n v_p2_m v_p2_length v_p2_bodies else
  if k = 3 then f_X8_sayTells_X5 a_1 v_p2_n v_p2_m v_p2_length v_p2_bodies else
  if k = 4 then f_X6_sayTells_X6 a_1 v_p2_n v_p2_m v_p2_length v_p2_bodies else
  if k = 5 then f_X8_sayTells_X2 a_1 v_p2_n v_p2_m v_p2_length v_p2_bodies else
  if k = 6 then f_X1_sayTells_X1 a_1 v_p2_n v_p2_m v_p2_length v_p2_bodies else
  none
def f_X11_voice_L17 (v_errors : Nat → Int32) (v_voice_n : Int32) (v_voice_m : Int32) (v_voice_length : Int32) (v_voice_bodies : Nat → Int32) : Option (Int32 × (Nat → Int32) × Int32 × Int32 × Int32 × (Nat → Int32)) :=
  kb2 (f_X11_error 1 v_errors) fun r_35 w_36 =>
  some (r_35, w_36, v_voice_n, v_voice_m, v_voice_length, v_voice_bodies)

def f_X11_voice (a_1 : Int32) (a_2 : Int32) (a_3 : Int32) (v_errors : Nat → Int32) (v_now_tools : Int32) (v_now_kind : Nat → Int32) (v_now_m : Nat → Int32) (v_voice_n : Int32) (v_voice_m : Int32) (v_voice_length : Int32) (v_voice_bodies : Nat → Int32) : Option (Int32 × (Nat → Int32) × Int32 × Int32 × Int32 × (Nat → Int32)) :=
  kb (f_X11_isTool a_1 v_now_tools) fun r_2 =>
  if r_2 = 0 then
    f_X11_voice_L17 v_errors v_voice_n v_voice_m v_voice_length v_voice_bodies
  else
    kb (f_X11_within a_2 0 3) fun r_5 =>
    if r_5 = 0 then
      f_X11_voice_L17 v_errors v_voice_n v_voice_m v_voice_length v_voice_bodies
    else
      chi a_1 6 <|
      nm (v_now_m a_1.toNatClampNeg : Int32) fun t_8 =>
      kb3 (f_X9_start a_1 t_8 v_voice_n v_voice_m v_voice_length) fun w_10 w_11 w_12 =>
      kb (f_X11_kindOf a_1 v_now_tools v_now_kind) fun r_14 =>
      if a_2 = 0 then
        kb3 (f_TD_sayMoves r_14 a_3 w_10 w_11 w_12 v_voice_bodies) fun r_17 w_18 w_19 =>
        some (r_17, v_errors, w_10, w_11, w_18, w_19)
      else
        if a_2 = 1 then
          kb3 (f_TD_sayLets r_14 a_3 w_10 w_11 w_12 v_voice_bodies) fun r_22 w_23 w_24 =>
          some (r_22, v_errors, w_10, w_11, w_23, w_24)
        else
          if a_2 = 2 then
            kb3 (f_TD_sayTears r_14 a_3 w_10 w_11 w_12 v_voice_bodies) fun r_27 w_28 w_29 =>
            some (r_27, v_errors, w_10, w_11, w_28, w_29)
          else
            kb3 (f_TD_sayTells r_14 a_3 w_10 w_11 w_12 v_voice_bodies) fun r_31 w_32 w_33 =>
            some (r_31, v_errors, w_10, w_11, w_32, w_33)

def f_X11_wall_L18 (v_errors : Nat → Int32) (v_now_wall_rows : Int32) (v_now_wall_columns : Int32) (v_now_wall_air : Nat → Int32) (v_now_wall_paste : Nat → Int32) : Option (Int32 × (Nat → Int32) × Int32 × Int32 × (Nat → Int32) × (Nat → Int32)) :=
  kb2 (f_X11_error 1 v_errors) fun r_15 w_16 =>
  some (r_15, w_16, v_now_wall_rows, v_now_wall_columns, v_now_wall_air, v_now_wall_paste)

def f_X11_wall (a_1 : Int32) (a_2 : Int32) (v_errors : Nat → Int32) (v_now_wall_rows : Int32) (v_now_wall_columns : Int32) (v_now_wall_air : Nat → Int32) (v_now_wall_paste : Nat → Int32) : Option (Int32 × (Nat → Int32) × Int32 × Int32 × (Nat → Int32) × (Nat → Int32)) :=
  kb (f_X11_within a_1 1 5) fun r_2 =>
  if r_2 = 0 then
    f_X11_wall_L18 v_errors v_now_wall_rows v_now_wall_columns v_now_wall_air v_now_wall_paste
  else
    kb (f_X11_within a_2 1 5) fun r_5 =>
    if r_5 = 0 then
      f_X11_wall_L18 v_errors v_now_wall_rows v_now_wall_columns v_now_wall_air v_now_wall_paste
    else
      kb4 (f_X10_lay a_1 a_2 v_now_wall_rows v_now_wall_columns v_now_wall_air v_now_wall_paste) fun w_8 w_9 w_10 w_11 =>
      kb (f_X10_cells w_8 w_9) fun r_13 =>
      some (r_13, v_errors, w_8, w_9, w_10, w_11)

def f_X11_wayOut_L19 (a_1 : Int32) (v_now_wall_rows : Int32) (v_now_wall_columns : Int32) (v_now_wall_open : Nat → Int32) : Nat → Int32 → Int32 → (Nat → Int32) → Option (Int32 × (Nat → Int32))
  | 0, _, _, _ => none
  | n + 1, x2, x3, v_errors =>
    if 4 ≤ x3 then
      if 25 ≤ x2 then
        kb2 (f_X11_error 2 v_errors) fun r_10 w_11 =>
        some (r_10, w_11)
      else
        some (x2, v_errors)
    else
      kb (f_X10_isOpen x3 v_now_wall_open) fun r_13 =>
      if r_13 = 0 then
        nm (x3 + 1 : Int32) fun t_15 =>
        f_X11_wayOut_L19 a_1 v_now_wall_rows v_now_wall_columns v_now_wall_open n x2 t_15 v_errors
      else
        kb (f_X10_cellsAhead a_1 x3 v_now_wall_rows v_now_wall_columns) fun r_17 =>
        nm (if r_17 < x2 then r_17 else x2 : Int32) fun t_18 =>
        nm (x3 + 1 : Int32) fun t_19 =>
        f_X11_wayOut_L19 a_1 v_now_wall_rows v_now_wall_columns v_now_wall_open n t_18 t_19 v_errors

def f_X11_wayOut (a_1 : Int32) (v_errors : Nat → Int32) (v_now_wall_rows : Int32) (v_now_wall_columns : Int32) (v_now_wall_open : Nat → Int32) : Option (Int32 × (Nat → Int32)) :=
  kb (f_X11_isCell a_1 v_now_wall_rows v_now_wall_columns) fun r_2 =>
  if r_2 = 0 then
    kb2 (f_X11_error 1 v_errors) fun r_5 w_6 =>
    some (r_5, w_6)
  else
    f_X11_wayOut_L19 a_1 v_now_wall_rows v_now_wall_columns v_now_wall_open gFuel 25 0 v_errors

def f_X12_above (a_0 : Int32) : Option (Int32) :=
  if 4 ≤ a_0 then
    some (a_0 - 3)
  else
    some 0

def f_X12_cells (v_d : Nat → Int32) : Option (Int32) :=
  chi 0 244 <|
  nm (v_d (0 : Int32).toNatClampNeg : Int32) fun t_2 =>
  chi 1 244 <|
  some (t_2 * (v_d (1 : Int32).toNatClampNeg))

def f_X12_finds (a_1 : Int32) (v_found : Nat → Int32) : Option (Int32 × (Nat → Int32)) :=
  chi a_1 6 <|
  nm (v_found a_1.toNatClampNeg : Int32) fun t_2 =>
  nm (t_2 + 1 : Int32) fun t_3 =>
  chi a_1 6 <|
  nm (upd v_found a_1.toNatClampNeg t_3) fun w_5 =>
  some ((-1000000000) - a_1, w_5)

def f_X12_in (a_0 : Int64) (a_2 : Int64) (a_4 : Int64) : Option (Int32) :=
  if (lg_cmp a_0 a_2) < 0 then
    some 0
  else
    if 0 < (lg_cmp a_0 a_4) then
      some 0
    else
      some 1

def f_X12_isSheet (a_0 : Int32) : Option (Int32) :=
  kb (f_X12_in ((a_0 : Int32).toInt64) 0 3) fun r_2 =>
  chb r_2 <|
  some r_2

def f_X12_airs_L30 (a_1 : Int32) (v_number : Nat → Int32) (v_sizeOf : Nat → Int32) : Nat → Int32 → (Nat → Int32) → (Nat → Int32) → Option (Int32 × (Nat → Int32) × (Nat → Int32))
  | 0, _, _, _ => none
  | n + 1, x2, v_d, v_found =>
    chi a_1 4 <|
    if (v_sizeOf a_1.toNatClampNeg) ≤ x2 then
      some (x2, v_d, v_found)
    else
      kb (f_X12_cells v_d) fun r_15 =>
      if r_15 ≤ x2 then
        some (x2, v_d, v_found)
      else
        nm (40 * a_1 : Int32) fun t_17 =>
        nm (t_17 + x2 : Int32) fun t_18 =>
        chi t_18 160 <|
        kb (f_X12_in (((v_number t_18.toNatClampNeg) : Int32).toInt64) 0 99) fun r_21 =>
        if r_21 = 0 then
          some (x2, v_d, v_found)
        else
          nm (10 + x2 : Int32) fun t_23 =>
          nm (40 * a_1 : Int32) fun t_24 =>
          nm (t_24 + x2 : Int32) fun t_25 =>
          chi t_25 160 <|
          nm (v_number t_25.toNatClampNeg : Int32) fun t_27 =>
          chi t_23 244 <|
          nm (upd v_d t_23.toNatClampNeg t_27) fun w_29 =>
          nm (x2 + 1 : Int32) fun t_30 =>
          f_X12_airs_L30 a_1 v_number v_sizeOf n t_30 w_29 v_found

def f_X12_airs (a_1 : Int32) (v_bitsOf : Nat → Int32) (v_d : Nat → Int32) (v_found : Nat → Int32) (v_number : Nat → Int32) (v_sizeOf : Nat → Int32) : Option (Int32 × (Nat → Int32) × (Nat → Int32)) :=
  kb (f_X12_isSheet a_1) fun r_2 =>
  if r_2 = 0 then
    kb2 (f_X12_finds 1 v_found) fun r_10 w_11 =>
    some (r_10, v_d, w_11)
  else
    chi a_1 4 <|
    if (v_bitsOf a_1.toNatClampNeg) = 0 then
      kb2 (f_X12_finds 2 v_found) fun r_7 w_8 =>
      some (r_7, v_d, w_8)
    else
      f_X12_airs_L30 a_1 v_number v_sizeOf gFuel 0 v_d v_found

def f_X12_allAir_L4 (v_d : Nat → Int32) : Nat → Int32 → Int32 → Option (Int32)
  | 0, _, _ => none
  | n + 1, x1, x2 =>
    kb (f_X12_cells v_d) fun r_2 =>
    if r_2 ≤ x2 then
      some x1
    else
      nm (10 + x2 : Int32) fun t_4 =>
      chi t_4 244 <|
      nm (x1 + (v_d t_4.toNatClampNeg) : Int32) fun t_6 =>
      nm (x2 + 1 : Int32) fun t_7 =>
      f_X12_allAir_L4 v_d n t_6 t_7

def f_X12_allAir (v_d : Nat → Int32) : Option (Int32) :=
  f_X12_allAir_L4 v_d gFuel 0 0

def f_X12_isTool (a_1 : Int32) (v_d : Nat → Int32) : Option (Int32) :=
  chi 2 244 <|
  nm (v_d (2 : Int32).toNatClampNeg : Int32) fun t_2 =>
  kb (f_X12_in ((a_1 : Int32).toInt64) 0 (((t_2 - 1) : Int32).toInt64)) fun r_4 =>
  chb r_4 <|
  some r_4

def f_X12_kindOf (a_1 : Int32) (v_d : Nat → Int32) : Option (Int32) :=
  nm (60 + (2 * a_1) : Int32) fun t_1 =>
  chi t_1 244 <|
  some (v_d t_1.toNatClampNeg)

def f_X12_numberOf (a_1 : Int32) (v_d : Nat → Int32) : Option (Int32) :=
  nm (60 + (2 * a_1) : Int32) fun t_1 =>
  nm (t_1 + 1 : Int32) fun t_2 =>
  chi t_2 244 <|
  some (v_d t_2.toNatClampNeg)

def f_X12_as_L20 (v_found : Nat → Int32) : Option (Int32 × (Nat → Int32)) :=
  kb2 (f_X12_finds 1 v_found) fun r_18 w_19 =>
  some (r_18, w_19)

def f_X12_as_L49 (a_1 : Int32) (v_d : Nat → Int32) (v_found : Nat → Int32) : Option (Int32 × (Nat → Int32)) :=
  kb (f_X12_numberOf a_1 v_d) fun r_21 =>
  some (r_21, v_found)

def f_X12_as (a_1 : Int32) (a_2 : Int32) (v_d : Nat → Int32) (v_found : Nat → Int32) : Option (Int32 × (Nat → Int32)) :=
  kb (f_X12_isTool a_1 v_d) fun r_2 =>
  if r_2 = 0 then
    f_X12_as_L20 v_found
  else
    kb (f_X12_in ((a_2 : Int32).toInt64) 0 6) fun r_5 =>
    if r_5 = 0 then
      f_X12_as_L20 v_found
    else
      kb (f_X12_kindOf a_1 v_d) fun r_8 =>
      if a_2 = 0 then
        f_X12_as_L49 a_1 v_d v_found
      else
        if a_2 = r_8 then
          f_X12_as_L49 a_1 v_d v_found
        else
          kb (f_X12_above r_8) fun r_12 =>
          if a_2 = r_12 then
            f_X12_as_L49 a_1 v_d v_found
          else
            kb2 (f_X12_finds 5 v_found) fun r_15 w_16 =>
            some (r_15, w_16)

def f_X12_become_L20 (v_d : Nat → Int32) (v_found : Nat → Int32) : Option (Int32 × (Nat → Int32) × (Nat → Int32)) :=
  kb2 (f_X12_finds 1 v_found) fun r_21 w_22 =>
  some (r_21, v_d, w_22)

def f_X12_become (a_1 : Int32) (a_2 : Int32) (v_d : Nat → Int32) (v_found : Nat → Int32) : Option (Int32 × (Nat → Int32) × (Nat → Int32)) :=
  kb (f_X12_isTool a_1 v_d) fun r_2 =>
  if r_2 = 0 then
    f_X12_become_L20 v_d v_found
  else
    kb (f_X12_in ((a_2 : Int32).toInt64) 0 69) fun r_5 =>
    if r_5 = 0 then
      f_X12_become_L20 v_d v_found
    else
      kb (f_X12_kindOf a_1 v_d) fun r_8 =>
      nm (60 + (2 * a_1) : Int32) fun t_9 =>
      chz 10 <|
      nm (a_2 / 10 : Int32) fun t_11 =>
      chi t_9 244 <|
      nm (upd v_d t_9.toNatClampNeg t_11) fun w_13 =>
      nm (60 + (2 * a_1) : Int32) fun t_14 =>
      nm (t_14 + 1 : Int32) fun t_15 =>
      chz 10 <|
      nm (a_2 - a_2 / 10 * 10 : Int32) fun t_17 =>
      chi t_15 244 <|
      nm (upd w_13 t_15.toNatClampNeg t_17) fun w_19 =>
      some (r_8, w_19, v_found)

def f_X12_keepAside_L2 (a_1 : Int32) (v_d : Nat → Int32) : Nat → Int32 → (Nat → Int32) → Option ((Nat → Int32))
  | 0, _, _ => none
  | n + 1, x2, v_aside =>
    if 60 ≤ x2 then
      some v_aside
    else
      nm (60 * a_1 : Int32) fun t_2 =>
      nm (t_2 + x2 : Int32) fun t_3 =>
      chi x2 244 <|
      nm (v_d x2.toNatClampNeg : Int32) fun t_5 =>
      chi t_3 120 <|
      nm (upd v_aside t_3.toNatClampNeg t_5) fun w_7 =>
      nm (x2 + 1 : Int32) fun t_8 =>
      f_X12_keepAside_L2 a_1 v_d n t_8 w_7

def f_X12_keepAside (a_1 : Int32) (v_aside : Nat → Int32) (v_d : Nat → Int32) : Option ((Nat → Int32)) :=
  f_X12_keepAside_L2 a_1 v_d gFuel 0 v_aside

def f_X12_putBack_L2 (a_1 : Int32) (v_aside : Nat → Int32) : Nat → Int32 → (Nat → Int32) → Option ((Nat → Int32))
  | 0, _, _ => none
  | n + 1, x2, v_d =>
    if 60 ≤ x2 then
      some v_d
    else
      nm (60 * a_1 : Int32) fun t_2 =>
      nm (t_2 + x2 : Int32) fun t_3 =>
      chi t_3 120 <|
      nm (v_aside t_3.toNatClampNeg : Int32) fun t_5 =>
      chi x2 244 <|
      nm (upd v_d x2.toNatClampNeg t_5) fun w_7 =>
      nm (x2 + 1 : Int32) fun t_8 =>
      f_X12_putBack_L2 a_1 v_aside n t_8 w_7

def f_X12_putBack (a_1 : Int32) (v_aside : Nat → Int32) (v_d : Nat → Int32) : Option ((Nat → Int32)) :=
  f_X12_putBack_L2 a_1 v_aside gFuel 0 v_d

def f_X12_held (a_0 : Int32) (a_1 : Int32) (a_2 : Int32) : Option (Int32) :=
  if a_1 ≤ a_0 then
    if a_0 ≤ a_2 then
      some a_0
    else
      some a_2
  else
    some a_1

def f_X12_here (v_base : Int32) (v_at : Int32) (v_size : Int32) (v_fault : Int32) (v_d : Nat → Int32) : Option (Int32) :=
  if v_size ≤ v_at then
    some (-1)
  else
    if 0 ≤ v_fault then
      some (-1)
    else
      nm (v_base + v_at : Int32) fun t_3 =>
      chi t_3 244 <|
      nm (v_d t_3.toNatClampNeg : Int32) fun t_5 =>
      some t_5

def f_X12_takes (a_1 : Int32) (v_base : Int32) (v_at : Int32) (v_size : Int32) (v_fault : Int32) (v_d : Nat → Int32) : Option (Int32 × Int32) :=
  kb (f_X12_here v_base v_at v_size v_fault v_d) fun r_2 =>
  if r_2 = a_1 then
    nm (v_at + 1 : Int32) fun t_4 =>
    some (1, t_4)
  else
    some (0, v_at)

def f_X12_product_L32 (uu : Int32 → Int32 → Int32 → Int32 → Int32 → Int32 → (Nat → Int32) → (Nat → Int32) → Option (Int32 × Int32 × Int32 × Int32)) (kk_L5 : Int32 → Int32 → Int32 → Int32 → Option (Int32 × Int32 × Int32 × Int32)) (v_base : Int32) (v_size : Int32) (v_isSeen : Int32) (v_d : Nat → Int32) (v_names : Nat → Int32) (x1 : Int32) (v_at : Int32) (v_fault : Int32) (v_opened : Int32) : Option (Int32 × Int32 × Int32 × Int32) :=
  kb (f_X12_here v_base v_at v_size v_fault v_d) fun r_16 =>
  nm (v_at + 1 : Int32) fun t_17 =>
  kb4 (uu v_base t_17 v_size v_fault v_opened v_isSeen v_d v_names) fun r_19 w_20 w_21 w_22 =>
  if r_16 = 42 then
    nm (x1 * r_19 : Int32) fun t_30 =>
    kk_L5 t_30 w_20 w_21 w_22
  else
    if r_19 = 0 then
      kk_L5 0 w_20 w_21 w_22
    else
      if r_16 = 47 then
        chz r_19 <|
        nm (x1 / r_19 : Int32) fun t_29 =>
        kk_L5 t_29 w_20 w_21 w_22
      else
        chz r_19 <|
        nm (x1 - x1 / r_19 * r_19 : Int32) fun t_27 =>
        kk_L5 t_27 w_20 w_21 w_22

def f_X12_product_L5 (uu : Int32 → Int32 → Int32 → Int32 → Int32 → Int32 → (Nat → Int32) → (Nat → Int32) → Option (Int32 × Int32 × Int32 × Int32)) (v_base : Int32) (v_size : Int32) (v_isSeen : Int32) (v_d : Nat → Int32) (v_names : Nat → Int32) : Nat → Int32 → Int32 → Int32 → Int32 → Option (Int32 × Int32 × Int32 × Int32)
  | 0, _, _, _, _ => none
  | n + 1, x1, v_at, v_fault, v_opened =>
    kb (f_X12_here v_base v_at v_size v_fault v_d) fun r_7 =>
    if r_7 = 42 then
      f_X12_product_L32 uu (f_X12_product_L5 uu v_base v_size v_isSeen v_d v_names n) v_base v_size v_isSeen v_d v_names x1 v_at v_fault v_opened
    else
      kb (f_X12_here v_base v_at v_size v_fault v_d) fun r_10 =>
      if r_10 = 47 then
        f_X12_product_L32 uu (f_X12_product_L5 uu v_base v_size v_isSeen v_d v_names n) v_base v_size v_isSeen v_d v_names x1 v_at v_fault v_opened
      else
        kb (f_X12_here v_base v_at v_size v_fault v_d) fun r_13 =>
        if r_13 = 37 then
          f_X12_product_L32 uu (f_X12_product_L5 uu v_base v_size v_isSeen v_d v_names n) v_base v_size v_isSeen v_d v_names x1 v_at v_fault v_opened
        else
          some (x1, v_at, v_fault, v_opened)

def f_X12_product (uu : Int32 → Int32 → Int32 → Int32 → Int32 → Int32 → (Nat → Int32) → (Nat → Int32) → Option (Int32 × Int32 × Int32 × Int32)) (v_base : Int32) (v_at : Int32) (v_size : Int32) (v_fault : Int32) (v_opened : Int32) (v_isSeen : Int32) (v_d : Nat → Int32) (v_names : Nat → Int32) : Option (Int32 × Int32 × Int32 × Int32) :=
  kb4 (uu v_base v_at v_size v_fault v_opened v_isSeen v_d v_names) fun r_2 w_3 w_4 w_5 =>
  f_X12_product_L5 uu v_base v_size v_isSeen v_d v_names gFuel r_2 w_3 w_4 w_5

def f_X12_sum_L23 (uu : Int32 → Int32 → Int32 → Int32 → Int32 → Int32 → (Nat → Int32) → (Nat → Int32) → Option (Int32 × Int32 × Int32 × Int32)) (kk_L5 : Int32 → Int32 → Int32 → Int32 → Option (Int32 × Int32 × Int32 × Int32)) (v_base : Int32) (v_size : Int32) (v_isSeen : Int32) (v_d : Nat → Int32) (v_names : Nat → Int32) (x1 : Int32) (v_at : Int32) (v_fault : Int32) (v_opened : Int32) : Option (Int32 × Int32 × Int32 × Int32) :=
  kb (f_X12_here v_base v_at v_size v_fault v_d) fun r_13 =>
  nm (v_at + 1 : Int32) fun t_14 =>
  kb4 (f_X12_product uu v_base t_14 v_size v_fault v_opened v_isSeen v_d v_names) fun r_16 w_17 w_18 w_19 =>
  if r_13 = 43 then
    nm (x1 + r_16 : Int32) fun t_22 =>
    kk_L5 t_22 w_17 w_18 w_19
  else
    nm (x1 - r_16 : Int32) fun t_21 =>
    kk_L5 t_21 w_17 w_18 w_19

def f_X12_sum_L5 (uu : Int32 → Int32 → Int32 → Int32 → Int32 → Int32 → (Nat → Int32) → (Nat → Int32) → Option (Int32 × Int32 × Int32 × Int32)) (v_base : Int32) (v_size : Int32) (v_isSeen : Int32) (v_d : Nat → Int32) (v_names : Nat → Int32) : Nat → Int32 → Int32 → Int32 → Int32 → Option (Int32 × Int32 × Int32 × Int32)
  | 0, _, _, _, _ => none
  | n + 1, x1, v_at, v_fault, v_opened =>
    kb (f_X12_here v_base v_at v_size v_fault v_d) fun r_7 =>
    if r_7 = 43 then
      f_X12_sum_L23 uu (f_X12_sum_L5 uu v_base v_size v_isSeen v_d v_names n) v_base v_size v_isSeen v_d v_names x1 v_at v_fault v_opened
    else
      kb (f_X12_here v_base v_at v_size v_fault v_d) fun r_10 =>
      if r_10 = 45 then
        f_X12_sum_L23 uu (f_X12_sum_L5 uu v_base v_size v_isSeen v_d v_names n) v_base v_size v_isSeen v_d v_names x1 v_at v_fault v_opened
      else
        some (x1, v_at, v_fault, v_opened)

def f_X12_sum (uu : Int32 → Int32 → Int32 → Int32 → Int32 → Int32 → (Nat → Int32) → (Nat → Int32) → Option (Int32 × Int32 × Int32 × Int32)) (v_base : Int32) (v_at : Int32) (v_size : Int32) (v_fault : Int32) (v_opened : Int32) (v_isSeen : Int32) (v_d : Nat → Int32) (v_names : Nat → Int32) : Option (Int32 × Int32 × Int32 × Int32) :=
  kb4 (f_X12_product uu v_base v_at v_size v_fault v_opened v_isSeen v_d v_names) fun r_2 w_3 w_4 w_5 =>
  f_X12_sum_L5 uu v_base v_size v_isSeen v_d v_names gFuel r_2 w_3 w_4 w_5

def f_X12_compared_L30 (uu : Int32 → Int32 → Int32 → Int32 → Int32 → Int32 → (Nat → Int32) → (Nat → Int32) → Option (Int32 × Int32 × Int32 × Int32)) (v_base : Int32) (v_size : Int32) (v_isSeen : Int32) (v_d : Nat → Int32) (v_names : Nat → Int32) (x1 : Int32) (x2 : Int32) (v_at : Int32) (v_fault : Int32) (v_opened : Int32) : Option (Int32 × Int32 × Int32 × Int32) :=
  nm (v_at + 1 : Int32) fun t_11 =>
  kb4 (f_X12_sum uu v_base t_11 v_size v_fault v_opened v_isSeen v_d v_names) fun r_13 w_14 w_15 w_16 =>
  if x2 = 60 then
    if r_13 ≤ x1 then
      some (0, w_14, w_15, w_16)
    else
      some (1, w_14, w_15, w_16)
  else
    if x2 = 61 then
      if x1 = r_13 then
        some (1, w_14, w_15, w_16)
      else
        some (0, w_14, w_15, w_16)
    else
      if x1 ≤ r_13 then
        some (0, w_14, w_15, w_16)
      else
        some (1, w_14, w_15, w_16)

def f_X12_compared (uu : Int32 → Int32 → Int32 → Int32 → Int32 → Int32 → (Nat → Int32) → (Nat → Int32) → Option (Int32 × Int32 × Int32 × Int32)) (v_base : Int32) (v_at : Int32) (v_size : Int32) (v_fault : Int32) (v_opened : Int32) (v_isSeen : Int32) (v_d : Nat → Int32) (v_names : Nat → Int32) : Option (Int32 × Int32 × Int32 × Int32) :=
  kb4 (f_X12_sum uu v_base v_at v_size v_fault v_opened v_isSeen v_d v_names) fun r_2 w_3 w_4 w_5 =>
  kb (f_X12_here v_base w_3 v_size w_4 v_d) fun r_7 =>
  if r_7 = 60 then
    f_X12_compared_L30 uu v_base v_size v_isSeen v_d v_names r_2 r_7 w_3 w_4 w_5
  else
    if r_7 = 61 then
      f_X12_compared_L30 uu v_base v_size v_isSeen v_d v_names r_2 r_7 w_3 w_4 w_5
    else
      if r_7 = 62 then
        f_X12_compared_L30 uu v_base v_size v_isSeen v_d v_names r_2 r_7 w_3 w_4 w_5
      else
        some (r_2, w_3, w_4, w_5)

def f_X12_both_L5 (uu : Int32 → Int32 → Int32 → Int32 → Int32 → Int32 → (Nat → Int32) → (Nat → Int32) → Option (Int32 × Int32 × Int32 × Int32)) (v_base : Int32) (v_size : Int32) (v_isSeen : Int32) (v_d : Nat → Int32) (v_names : Nat → Int32) : Nat → Int32 → Int32 → Int32 → Int32 → Option (Int32 × Int32 × Int32 × Int32)
  | 0, _, _, _, _ => none
  | n + 1, x1, v_at, v_fault, v_opened =>
    kb2 (f_X12_takes 38 v_base v_at v_size v_fault v_d) fun r_7 w_8 =>
    if r_7 = 0 then
      some (x1, w_8, v_fault, v_opened)
    else
      kb4 (f_X12_compared uu v_base w_8 v_size v_fault v_opened v_isSeen v_d v_names) fun r_11 w_12 w_13 w_14 =>
      if x1 = 0 then
        f_X12_both_L5 uu v_base v_size v_isSeen v_d v_names n 0 w_12 w_13 w_14
      else
        if r_11 = 0 then
          f_X12_both_L5 uu v_base v_size v_isSeen v_d v_names n 0 w_12 w_13 w_14
        else
          f_X12_both_L5 uu v_base v_size v_isSeen v_d v_names n 1 w_12 w_13 w_14

def f_X12_both (uu : Int32 → Int32 → Int32 → Int32 → Int32 → Int32 → (Nat → Int32) → (Nat → Int32) → Option (Int32 × Int32 × Int32 × Int32)) (v_base : Int32) (v_at : Int32) (v_size : Int32) (v_fault : Int32) (v_opened : Int32) (v_isSeen : Int32) (v_d : Nat → Int32) (v_names : Nat → Int32) : Option (Int32 × Int32 × Int32 × Int32) :=
  kb4 (f_X12_compared uu v_base v_at v_size v_fault v_opened v_isSeen v_d v_names) fun r_2 w_3 w_4 w_5 =>
  f_X12_both_L5 uu v_base v_size v_isSeen v_d v_names gFuel r_2 w_3 w_4 w_5

def f_X12_either_L5 (uu : Int32 → Int32 → Int32 → Int32 → Int32 → Int32 → (Nat → Int32) → (Nat → Int32) → Option (Int32 × Int32 × Int32 × Int32)) (v_base : Int32) (v_size : Int32) (v_isSeen : Int32) (v_d : Nat → Int32) (v_names : Nat → Int32) : Nat → Int32 → Int32 → Int32 → Int32 → Option (Int32 × Int32 × Int32 × Int32)
  | 0, _, _, _, _ => none
  | n + 1, x1, v_at, v_fault, v_opened =>
    kb2 (f_X12_takes 124 v_base v_at v_size v_fault v_d) fun r_7 w_8 =>
    if r_7 = 0 then
      some (x1, w_8, v_fault, v_opened)
    else
      kb4 (f_X12_both uu v_base w_8 v_size v_fault v_opened v_isSeen v_d v_names) fun r_11 w_12 w_13 w_14 =>
      if x1 = 0 then
        if r_11 = 0 then
          f_X12_either_L5 uu v_base v_size v_isSeen v_d v_names n 0 w_12 w_13 w_14
        else
          f_X12_either_L5 uu v_base v_size v_isSeen v_d v_names n 1 w_12 w_13 w_14
      else
        f_X12_either_L5 uu v_base v_size v_isSeen v_d v_names n 1 w_12 w_13 w_14

def f_X12_either (uu : Int32 → Int32 → Int32 → Int32 → Int32 → Int32 → (Nat → Int32) → (Nat → Int32) → Option (Int32 × Int32 × Int32 × Int32)) (v_base : Int32) (v_at : Int32) (v_size : Int32) (v_fault : Int32) (v_opened : Int32) (v_isSeen : Int32) (v_d : Nat → Int32) (v_names : Nat → Int32) : Option (Int32 × Int32 × Int32 × Int32) :=
  kb4 (f_X12_both uu v_base v_at v_size v_fault v_opened v_isSeen v_d v_names) fun r_2 w_3 w_4 w_5 =>
  f_X12_either_L5 uu v_base v_size v_isSeen v_d v_names gFuel r_2 w_3 w_4 w_5

def f_X12_nameOf (a_1 : Int32) (v_isSeen : Int32) : Option (Int32) :=
  if v_isSeen = 0 then
    if a_1 = 97 then
      some 0
    else
      if a_1 = 112 then
        some 1
      else
        if a_1 = 109 then
          some 2
        else
          some (-1)
  else
    if a_1 = 97 then
      some 0
    else
      if a_1 = 114 then
        some 1
      else
        if a_1 = 99 then
          some 2
        else
          some (-1)

def f_X12_wrong (v_at : Int32) (v_fault : Int32) : Option (Int32 × Int32) :=
  if 0 ≤ v_fault then
    some (0, v_fault)
  else
    some (0, v_at)

def f_X12_unit_L88 (uu : Int32 → Int32 → Int32 → Int32 → Int32 → Int32 → (Nat → Int32) → (Nat → Int32) → Option (Int32 × Int32 × Int32 × Int32)) (x1 : Int32) (x2 : Int32) (v_at : Int32) (v_fault : Int32) (v_opened : Int32) : Option (Int32 × Int32 × Int32 × Int32) :=
  nm (v_opened - 1 : Int32) fun t_52 =>
  if x1 = 40 then
    some (x2, v_at, v_fault, t_52)
  else
    if x2 = 0 then
      some (1, v_at, v_fault, t_52)
    else
      some (0, v_at, v_fault, t_52)

def f_X12_unit_L67 (uu : Int32 → Int32 → Int32 → Int32 → Int32 → Int32 → (Nat → Int32) → (Nat → Int32) → Option (Int32 × Int32 × Int32 × Int32)) (v_base : Int32) (v_size : Int32) (v_d : Nat → Int32) (x1 : Int32) (y0 : Int32) (v_at : Int32) (v_fault : Int32) (v_opened : Int32) : Option (Int32 × Int32 × Int32 × Int32) :=
  if x1 = 40 then
    kb2 (f_X12_takes 41 v_base v_at v_size v_fault v_d) fun r_42 w_43 =>
    if r_42 = 0 then
      kb2 (f_X12_wrong w_43 v_fault) fun r_46 w_47 =>
      some (r_46, w_43, w_47, v_opened)
    else
      f_X12_unit_L88 uu x1 y0 w_43 v_fault v_opened
  else
    f_X12_unit_L88 uu x1 y0 v_at v_fault v_opened

def f_X12_unit_L17 (uu : Int32 → Int32 → Int32 → Int32 → Int32 → Int32 → (Nat → Int32) → (Nat → Int32) → Option (Int32 × Int32 × Int32 × Int32)) (v_base : Int32) (v_size : Int32) (v_isSeen : Int32) (v_d : Nat → Int32) (v_names : Nat → Int32) (x1 : Int32) (v_at : Int32) (v_fault : Int32) (v_opened : Int32) : Option (Int32 × Int32 × Int32 × Int32) :=
  if v_opened = 5 then
    kb2 (f_X12_wrong v_at v_fault) fun r_25 w_26 =>
    some (r_25, v_at, w_26, v_opened)
  else
    nm (v_opened + 1 : Int32) fun t_11 =>
    nm (v_at + 1 : Int32) fun t_12 =>
    if x1 = 40 then
      kb4 (f_X12_either uu v_base t_12 v_size v_fault t_11 v_isSeen v_d v_names) fun r_20 w_21 w_22 w_23 =>
      f_X12_unit_L67 uu v_base v_size v_d x1 r_20 w_21 w_22 w_23
    else
      kb4 (uu v_base t_12 v_size v_fault t_11 v_isSeen v_d v_names) fun r_15 w_16 w_17 w_18 =>
      f_X12_unit_L67 uu v_base v_size v_d x1 r_15 w_16 w_17 w_18

def f_X12_unit_L202 (uu : Int32 → Int32 → Int32 → Int32 → Int32 → Int32 → (Nat → Int32) → (Nat → Int32) → Option (Int32 × Int32 × Int32 × Int32)) (x3 : Int32) (x4 : Int32) (v_at : Int32) (v_fault : Int32) (v_opened : Int32) : Option (Int32 × Int32 × Int32 × Int32) :=
  if x4 = 0 then
    kb2 (f_X12_wrong v_at v_fault) fun r_50 w_51 =>
    some (r_50, v_at, w_51, v_opened)
  else
    some (x3, v_at, v_fault, v_opened)

def f_X12_unit_L150 (uu : Int32 → Int32 → Int32 → Int32 → Int32 → Int32 → (Nat → Int32) → (Nat → Int32) → Option (Int32 × Int32 × Int32 × Int32)) (v_base : Int32) (v_size : Int32) (v_d : Nat → Int32) : Nat → Int32 → Int32 → Int32 → Int32 → Int32 → Option (Int32 × Int32 × Int32 × Int32)
  | 0, _, _, _, _, _ => none
  | n + 1, x3, x4, v_at, v_fault, v_opened =>
    if 4 ≤ x4 then
      f_X12_unit_L202 uu x3 x4 v_at v_fault v_opened
    else
      kb (f_X12_here v_base v_at v_size v_fault v_d) fun r_29 =>
      kb (f_X12_in ((r_29 : Int32).toInt64) 48 57) fun r_31 =>
      if r_31 = 0 then
        f_X12_unit_L202 uu x3 x4 v_at v_fault v_opened
      else
        nm (10 * x3 : Int32) fun t_33 =>
        kb (f_X12_here v_base v_at v_size v_fault v_d) fun r_35 =>
        nm (t_33 + r_35 : Int32) fun t_36 =>
        nm (t_36 - 48 : Int32) fun t_37 =>
        nm (v_at + 1 : Int32) fun t_38 =>
        nm (x4 + 1 : Int32) fun t_39 =>
        f_X12_unit_L150 uu v_base v_size v_d n t_37 t_39 t_38 v_fault v_opened

def f_X12_unit (uu : Int32 → Int32 → Int32 → Int32 → Int32 → Int32 → (Nat → Int32) → (Nat → Int32) → Option (Int32 × Int32 × Int32 × Int32)) (v_base : Int32) (v_at : Int32) (v_size : Int32) (v_fault : Int32) (v_opened : Int32) (v_isSeen : Int32) (v_d : Nat → Int32) (v_names : Nat → Int32) : Option (Int32 × Int32 × Int32 × Int32) :=
  kb (f_X12_here v_base v_at v_size v_fault v_d) fun r_2 =>
  if r_2 = 33 then
    f_X12_unit_L17 uu v_base v_size v_isSeen v_d v_names r_2 v_at v_fault v_opened
  else
    if r_2 = 40 then
      f_X12_unit_L17 uu v_base v_size v_isSeen v_d v_names r_2 v_at v_fault v_opened
    else
      kb (f_X12_nameOf r_2 v_isSeen) fun r_6 =>
      if r_6 < 0 then
        f_X12_unit_L150 uu v_base v_size v_d gFuel 0 0 v_at v_fault v_opened
      else
        nm (v_at + 1 : Int32) fun t_8 =>
        chi r_6 3 <|
        some (v_names r_6.toNatClampNeg, t_8, v_fault, v_opened)

def f_X12_unitN : Nat → Int32 → Int32 → Int32 → Int32 → Int32 → Int32 → (Nat → Int32) → (Nat → Int32) → Option (Int32 × Int32 × Int32 × Int32)
  | 0, _, _, _, _, _, _, _, _ => none
  | n + 1, v_base, v_at, v_size, v_fault, v_opened, v_isSeen, v_d, v_names => f_X12_unit (f_X12_unitN n) v_base v_at v_size v_fault v_opened v_isSeen v_d v_names
def f_X12_worked_L36 (v_d : Nat → Int32) (v_names : Nat → Int32) (y1 : Int32) (v_base : Int32) (v_at : Int32) (v_size : Int32) (v_fault : Int32) (v_opened : Int32) : Option (Int32 × Int32 × Int32 × Int32 × Int32 × Int32 × Int32) :=
  chb y1 <|
  kb4 (f_X12_either (f_X12_unitN 8) v_base v_at v_size v_fault v_opened y1 v_d v_names) fun r_4 w_5 w_6 w_7 =>
  if 0 ≤ w_6 then
    some (r_4, v_base, w_5, v_size, w_6, w_7, y1)
  else
    if v_size ≤ w_5 then
      some (r_4, v_base, w_5, v_size, w_6, w_7, y1)
    else
      kb2 (f_X12_wrong w_5 w_6) fun r_11 w_12 =>
      some (r_11, v_base, w_5, v_size, w_12, w_7, y1)

def f_X12_worked (a_1 : Int32) (a_2 : Int32) (a_3 : Int32) (v_base : Int32) (v_at : Int32) (v_size : Int32) (v_fault : Int32) (v_opened : Int32) (v_isSeen : Int32) (v_d : Nat → Int32) (v_names : Nat → Int32) : Option (Int32 × Int32 × Int32 × Int32 × Int32 × Int32 × Int32) :=
  if a_3 = 1 then
    f_X12_worked_L36 v_d v_names 1 a_1 0 a_2 (-1) 0
  else
    f_X12_worked_L36 v_d v_names 0 a_1 0 a_2 (-1) 0

def f_X12_textGives_L70 (x5 : Int32) (v_base : Int32) (v_at : Int32) (v_size : Int32) (v_fault : Int32) (v_opened : Int32) (v_isSeen : Int32) (v_names : Nat → Int32) : Option (Int32 × Int32 × Int32 × Int32 × Int32 × Int32 × Int32 × (Nat → Int32)) :=
  kb (f_X12_held x5 0 99) fun r_26 =>
  some (r_26, v_base, v_at, v_size, v_fault, v_opened, v_isSeen, v_names)

def f_X12_textGives_L11 (a_1 : Int32) (a_2 : Int32) (a_3 : Int32) (a_4 : Int32) (v_d : Nat → Int32) (y0 : Int32) (v_base : Int32) (v_at : Int32) (v_size : Int32) (v_fault : Int32) (v_opened : Int32) (v_isSeen : Int32) (v_names : Nat → Int32) : Option (Int32 × Int32 × Int32 × Int32 × Int32 × Int32 × Int32 × (Nat → Int32)) :=
  nm (72 + a_1 : Int32) fun t_4 =>
  chi t_4 244 <|
  if (v_d t_4.toNatClampNeg) ≤ 0 then
    f_X12_textGives_L70 y0 v_base v_at v_size v_fault v_opened v_isSeen v_names
  else
    chi 0 3 <|
    nm (upd v_names (0 : Int32).toNatClampNeg a_2) fun w_8 =>
    chi 1 3 <|
    nm (upd w_8 (1 : Int32).toNatClampNeg a_3) fun w_10 =>
    chi 2 3 <|
    nm (upd w_10 (2 : Int32).toNatClampNeg a_4) fun w_12 =>
    nm (94 + (50 * a_1) : Int32) fun t_13 =>
    nm (72 + a_1 : Int32) fun t_14 =>
    chi t_14 244 <|
    nm (v_d t_14.toNatClampNeg : Int32) fun t_16 =>
    kb7 (f_X12_worked t_13 t_16 a_1 v_base v_at v_size v_fault v_opened v_isSeen v_d w_12) fun r_18 w_19 w_20 w_21 w_22 w_23 w_24 =>
    f_X12_textGives_L70 r_18 w_19 w_20 w_21 w_22 w_23 w_24 w_12

def f_X12_textGives (a_1 : Int32) (a_2 : Int32) (a_3 : Int32) (a_4 : Int32) (v_base : Int32) (v_at : Int32) (v_size : Int32) (v_fault : Int32) (v_opened : Int32) (v_isSeen : Int32) (v_d : Nat → Int32) (v_names : Nat → Int32) : Option (Int32 × Int32 × Int32 × Int32 × Int32 × Int32 × Int32 × (Nat → Int32)) :=
  if a_1 = 0 then
    chz 2 <|
    nm (a_2 / 2 : Int32) fun t_3 =>
    f_X12_textGives_L11 a_1 a_2 a_3 a_4 v_d t_3 v_base v_at v_size v_fault v_opened v_isSeen v_names
  else
    f_X12_textGives_L11 a_1 a_2 a_3 a_4 v_d a_2 v_base v_at v_size v_fault v_opened v_isSeen v_names

def f_X12_seenOf_L38 (a_1 : Int32) (v_d : Nat → Int32) (x2 : Int32) (v_base : Int32) (v_at : Int32) (v_size : Int32) (v_fault : Int32) (v_opened : Int32) (v_isSeen : Int32) (v_names : Nat → Int32) (v_seenKept : Nat → Int32) : Option (Int32 × Int32 × Int32 × Int32 × Int32 × Int32 × Int32 × (Nat → Int32) × (Nat → Int32)) :=
  nm (10 + a_1 : Int32) fun t_9 =>
  chi t_9 244 <|
  nm (v_d t_9.toNatClampNeg : Int32) fun t_11 =>
  chi 1 244 <|
  nm (v_d (1 : Int32).toNatClampNeg : Int32) fun t_13 =>
  chz t_13 <|
  nm (a_1 / t_13 : Int32) fun t_15 =>
  chi 1 244 <|
  nm (v_d (1 : Int32).toNatClampNeg : Int32) fun t_17 =>
  chz t_17 <|
  nm (a_1 - a_1 / t_17 * t_17 : Int32) fun t_19 =>
  kb8 (f_X12_textGives 1 t_11 t_15 t_19 v_base v_at v_size v_fault v_opened v_isSeen v_d v_names) fun r_21 w_22 w_23 w_24 w_25 w_26 w_27 w_28 =>
  chi x2 2500 <|
  nm (upd v_seenKept x2.toNatClampNeg r_21) fun w_30 =>
  some (r_21, w_22, w_23, w_24, w_25, w_26, w_27, w_28, w_30)

def f_X12_seenOf (a_1 : Int32) (v_base : Int32) (v_at : Int32) (v_size : Int32) (v_fault : Int32) (v_opened : Int32) (v_isSeen : Int32) (v_isKeeping : Int32) (v_d : Nat → Int32) (v_names : Nat → Int32) (v_seenKept : Nat → Int32) : Option (Int32 × Int32 × Int32 × Int32 × Int32 × Int32 × Int32 × (Nat → Int32) × (Nat → Int32)) :=
  nm (100 * a_1 : Int32) fun t_1 =>
  nm (10 + a_1 : Int32) fun t_2 =>
  chi t_2 244 <|
  nm (t_1 + (v_d t_2.toNatClampNeg) : Int32) fun t_4 =>
  if v_isKeeping = 0 then
    f_X12_seenOf_L38 a_1 v_d t_4 v_base v_at v_size v_fault v_opened v_isSeen v_names v_seenKept
  else
    chi t_4 2500 <|
    if (v_seenKept t_4.toNatClampNeg) < 0 then
      f_X12_seenOf_L38 a_1 v_d t_4 v_base v_at v_size v_fault v_opened v_isSeen v_names v_seenKept
    else
      chi t_4 2500 <|
      some (v_seenKept t_4.toNatClampNeg, v_base, v_at, v_size, v_fault, v_opened, v_isSeen, v_names, v_seenKept)

def f_X12_seen_L4 (v_isKeeping : Int32) (v_d : Nat → Int32) : Nat → Int32 → Int32 → Int32 → Int32 → Int32 → Int32 → Int32 → Int32 → (Nat → Int32) → (Nat → Int32) → Option (Int32 × Int32 × Int32 × Int32 × Int32 × Int32 × Int32 × (Nat → Int32) × (Nat → Int32))
  | 0, _, _, _, _, _, _, _, _, _, _ => none
  | n + 1, x1, x2, v_base, v_at, v_size, v_fault, v_opened, v_isSeen, v_names, v_seenKept =>
    kb (f_X12_cells v_d) fun r_2 =>
    if r_2 ≤ x2 then
      some (x1, v_base, v_at, v_size, v_fault, v_opened, v_isSeen, v_names, v_seenKept)
    else
      kb9 (f_X12_seenOf x2 v_base v_at v_size v_fault v_opened v_isSeen v_isKeeping v_d v_names v_seenKept) fun r_5 w_6 w_7 w_8 w_9 w_10 w_11 w_12 w_13 =>
      nm (x1 + r_5 : Int32) fun t_14 =>
      nm (x2 + 1 : Int32) fun t_15 =>
      f_X12_seen_L4 v_isKeeping v_d n t_14 t_15 w_6 w_7 w_8 w_9 w_10 w_11 w_12 w_13

def f_X12_seen (v_base : Int32) (v_at : Int32) (v_size : Int32) (v_fault : Int32) (v_opened : Int32) (v_isSeen : Int32) (v_isKeeping : Int32) (v_d : Nat → Int32) (v_names : Nat → Int32) (v_seenKept : Nat → Int32) : Option (Int32 × Int32 × Int32 × Int32 × Int32 × Int32 × Int32 × (Nat → Int32) × (Nat → Int32)) :=
  f_X12_seen_L4 v_isKeeping v_d gFuel 0 0 v_base v_at v_size v_fault v_opened v_isSeen v_names v_seenKept

def f_X12_goesOut (a_1 : Int32) (v_d : Nat → Int32) : Option ((Nat → Int32)) :=
  chi 4 244 <|
  nm (v_d (4 : Int32).toNatClampNeg : Int32) fun t_2 =>
  nm (t_2 + a_1 : Int32) fun t_3 =>
  if t_3 ≤ 99999 then
    chi 4 244 <|
    nm (v_d (4 : Int32).toNatClampNeg : Int32) fun t_6 =>
    nm (t_6 + a_1 : Int32) fun t_7 =>
    chi 4 244 <|
    nm (upd v_d (4 : Int32).toNatClampNeg t_7) fun w_9 =>
    some w_9
  else
    chi 4 244 <|
    nm (upd v_d (4 : Int32).toNatClampNeg 99999) fun w_11 =>
    some w_11

def f_X12_isOpen (a_1 : Int32) (v_d : Nat → Int32) : Option (Int32) :=
  chi 9 244 <|
  nm (v_d (9 : Int32).toNatClampNeg : Int32) fun t_2 =>
  nm (t_2 >>> (a_1 &&& 31) : Int32) fun t_3 =>
  nm (t_3 &&& 1 : Int32) fun t_4 =>
  if t_4 = 1 then
    some 1
  else
    some 0

def f_X12_letsOf_L33 (a_2 : Int32) (y0 : Int32) : Option (Int32) :=
  if a_2 ≤ y0 then
    some a_2
  else
    some y0

def f_X12_letsOf (a_1 : Int32) (a_2 : Int32) (v_d : Nat → Int32) : Option (Int32) :=
  kb (f_X12_kindOf a_1 v_d) fun r_2 =>
  if r_2 = 2 then
    kb (f_X12_numberOf a_1 v_d) fun r_8 =>
    nm (r_8 + 1 : Int32) fun t_9 =>
    f_X12_letsOf_L33 a_2 t_9
  else
    kb (f_X12_kindOf a_1 v_d) fun r_5 =>
    if r_5 = 5 then
      f_X12_letsOf_L33 a_2 a_2
    else
      f_X12_letsOf_L33 a_2 0

def f_X12_movedOf_L33 (a_1 : Int32) (a_2 : Int32) (a_3 : Int32) (v_d : Nat → Int32) (x4 : Int32) (v_base : Int32) (v_at : Int32) (v_size : Int32) (v_fault : Int32) (v_opened : Int32) (v_isSeen : Int32) (v_movedKept : Nat → Int32) (v_names : Nat → Int32) : Option (Int32 × Int32 × Int32 × Int32 × Int32 × Int32 × Int32 × (Nat → Int32) × (Nat → Int32)) :=
  kb (f_X12_numberOf a_1 v_d) fun r_8 =>
  kb8 (f_X12_textGives 0 a_2 a_3 r_8 v_base v_at v_size v_fault v_opened v_isSeen v_d v_names) fun r_10 w_11 w_12 w_13 w_14 w_15 w_16 w_17 =>
  chi x4 1000 <|
  nm (upd v_movedKept x4.toNatClampNeg r_10) fun w_19 =>
  some (r_10, w_11, w_12, w_13, w_14, w_15, w_16, w_19, w_17)

def f_X12_movedOf (a_1 : Int32) (a_2 : Int32) (a_3 : Int32) (v_base : Int32) (v_at : Int32) (v_size : Int32) (v_fault : Int32) (v_opened : Int32) (v_isSeen : Int32) (v_isKeeping : Int32) (v_d : Nat → Int32) (v_movedKept : Nat → Int32) (v_names : Nat → Int32) : Option (Int32 × Int32 × Int32 × Int32 × Int32 × Int32 × Int32 × (Nat → Int32) × (Nat → Int32)) :=
  nm (10 * a_2 : Int32) fun t_1 =>
  nm (t_1 + a_3 : Int32) fun t_2 =>
  if v_isKeeping = 0 then
    f_X12_movedOf_L33 a_1 a_2 a_3 v_d t_2 v_base v_at v_size v_fault v_opened v_isSeen v_movedKept v_names
  else
    chi t_2 1000 <|
    if (v_movedKept t_2.toNatClampNeg) < 0 then
      f_X12_movedOf_L33 a_1 a_2 a_3 v_d t_2 v_base v_at v_size v_fault v_opened v_isSeen v_movedKept v_names
    else
      chi t_2 1000 <|
      some (v_movedKept t_2.toNatClampNeg, v_base, v_at, v_size, v_fault, v_opened, v_isSeen, v_movedKept, v_names)

def f_X12_movesOf_L108 (a_2 : Int32) (x5 : Int32) (v_base : Int32) (v_at : Int32) (v_size : Int32) (v_fault : Int32) (v_opened : Int32) (v_isSeen : Int32) (v_movedKept : Nat → Int32) (v_names : Nat → Int32) : Option (Int32 × Int32 × Int32 × Int32 × Int32 × Int32 × Int32 × (Nat → Int32) × (Nat → Int32)) :=
  if a_2 ≤ x5 then
    some (a_2, v_base, v_at, v_size, v_fault, v_opened, v_isSeen, v_movedKept, v_names)
  else
    some (x5, v_base, v_at, v_size, v_fault, v_opened, v_isSeen, v_movedKept, v_names)

def f_X12_movesOf (a_1 : Int32) (a_2 : Int32) (a_3 : Int32) (v_base : Int32) (v_at : Int32) (v_size : Int32) (v_fault : Int32) (v_opened : Int32) (v_isSeen : Int32) (v_isKeeping : Int32) (v_d : Nat → Int32) (v_movedKept : Nat → Int32) (v_names : Nat → Int32) : Option (Int32 × Int32 × Int32 × Int32 × Int32 × Int32 × Int32 × (Nat → Int32) × (Nat → Int32)) :=
  kb (f_X12_numberOf a_1 v_d) fun r_2 =>
  kb9 (f_X12_movedOf a_1 a_2 a_3 v_base v_at v_size v_fault v_opened v_isSeen v_isKeeping v_d v_movedKept v_names) fun r_4 w_5 w_6 w_7 w_8 w_9 w_10 w_11 w_12 =>
  kb (f_X12_kindOf a_1 v_d) fun r_14 =>
  if r_14 = 1 then
    nm (r_4 + 1 : Int32) fun t_16 =>
    f_X12_movesOf_L108 a_2 t_16 w_5 w_6 w_7 w_8 w_9 w_10 w_11 w_12
  else
    if r_14 = 2 then
      f_X12_movesOf_L108 a_2 0 w_5 w_6 w_7 w_8 w_9 w_10 w_11 w_12
    else
      if r_14 = 3 then
        f_X12_movesOf_L108 a_2 a_2 w_5 w_6 w_7 w_8 w_9 w_10 w_11 w_12
      else
        if r_14 = 4 then
          nm (r_4 + 1 : Int32) fun t_20 =>
          chz 2 <|
          nm (t_20 / 2 : Int32) fun t_22 =>
          f_X12_movesOf_L108 a_2 t_22 w_5 w_6 w_7 w_8 w_9 w_10 w_11 w_12
        else
          if r_14 = 5 then
            f_X12_movesOf_L108 a_2 0 w_5 w_6 w_7 w_8 w_9 w_10 w_11 w_12
          else
            if r_14 = 6 then
              if r_2 ≤ a_2 then
                nm (a_2 - r_2 : Int32) fun t_26 =>
                f_X12_movesOf_L108 a_2 t_26 w_5 w_6 w_7 w_8 w_9 w_10 w_11 w_12
              else
                f_X12_movesOf_L108 a_2 0 w_5 w_6 w_7 w_8 w_9 w_10 w_11 w_12
            else
              f_X12_movesOf_L108 a_2 r_4 w_5 w_6 w_7 w_8 w_9 w_10 w_11 w_12

def f_X12_nextTo_L55 (v_d : Nat → Int32) (x3 : Int32) (y0 : Int32) (y1 : Int32) : Option (Int32) :=
  nm (y0 + y1 : Int32) fun t_14 =>
  chi 0 244 <|
  nm (v_d (0 : Int32).toNatClampNeg : Int32) fun t_16 =>
  kb (f_X12_in ((x3 : Int32).toInt64) 0 (((t_16 - 1) : Int32).toInt64)) fun r_18 =>
  if r_18 = 0 then
    some (-1)
  else
    chi 1 244 <|
    nm (v_d (1 : Int32).toNatClampNeg : Int32) fun t_21 =>
    kb (f_X12_in ((t_14 : Int32).toInt64) 0 (((t_21 - 1) : Int32).toInt64)) fun r_23 =>
    if r_23 = 0 then
      some (-1)
    else
      chi 1 244 <|
      nm (x3 * (v_d (1 : Int32).toNatClampNeg) : Int32) fun t_26 =>
      nm (t_26 + t_14 : Int32) fun t_27 =>
      some t_27

def f_X12_nextTo_L26 (a_1 : Int32) (a_2 : Int32) (v_d : Nat → Int32) (y0 : Int32) (y1 : Int32) : Option (Int32) :=
  nm (y0 + y1 : Int32) fun t_7 =>
  chi 1 244 <|
  nm (v_d (1 : Int32).toNatClampNeg : Int32) fun t_9 =>
  chz t_9 <|
  nm (a_1 - a_1 / t_9 * t_9 : Int32) fun t_11 =>
  if a_2 = 1 then
    f_X12_nextTo_L55 v_d t_7 t_11 1
  else
    if a_2 = 3 then
      f_X12_nextTo_L55 v_d t_7 t_11 (-1)
    else
      f_X12_nextTo_L55 v_d t_7 t_11 0

def f_X12_nextTo (a_1 : Int32) (a_2 : Int32) (v_d : Nat → Int32) : Option (Int32) :=
  chi 1 244 <|
  nm (v_d (1 : Int32).toNatClampNeg : Int32) fun t_2 =>
  chz t_2 <|
  nm (a_1 / t_2 : Int32) fun t_4 =>
  if a_2 = 0 then
    f_X12_nextTo_L26 a_1 a_2 v_d t_4 (-1)
  else
    if a_2 = 2 then
      f_X12_nextTo_L26 a_1 a_2 v_d t_4 1
    else
      f_X12_nextTo_L26 a_1 a_2 v_d t_4 0

def f_X12_reachOf (a_1 : Int32) (v_d : Nat → Int32) : Option (Int32) :=
  kb (f_X12_kindOf a_1 v_d) fun r_2 =>
  if r_2 = 3 then
    some 2
  else
    kb (f_X12_kindOf a_1 v_d) fun r_5 =>
    if r_5 = 6 then
      kb (f_X12_numberOf a_1 v_d) fun r_8 =>
      chz 3 <|
      nm (2 + (r_8 - r_8 / 3 * 3) : Int32) fun t_10 =>
      some t_10
    else
      some 1

def f_X12_tearsOf_L10 (a_1 : Int32) (a_2 : Int32) (v_d : Nat → Int32) (y0 : Int32) : Option (Int32) :=
  kb (f_X12_kindOf a_1 v_d) fun r_3 =>
  if r_3 = 2 then
    some y0
  else
    if r_3 = 3 then
      some 0
    else
      if r_3 = 4 then
        some 0
      else
        if r_3 = 5 then
          some (1 + y0)
        else
          if r_3 = 6 then
            if a_2 ≤ 7 then
              some 0
            else
              some 1
          else
            some 0

def f_X12_tearsOf (a_1 : Int32) (a_2 : Int32) (v_d : Nat → Int32) : Option (Int32) :=
  if 3 ≤ a_2 then
    f_X12_tearsOf_L10 a_1 a_2 v_d 0
  else
    f_X12_tearsOf_L10 a_1 a_2 v_d 1

def f_X12_strokes_L96 (a_1 : Int32) (a_3 : Int32) (v_isKeeping : Int32) : Nat → Int32 → Int32 → Int32 → Int32 → Int32 → Int32 → Int32 → Int32 → (Nat → Int32) → (Nat → Int32) → (Nat → Int32) → Option (Int32 × Int32 × Int32 × Int32 × Int32 × Int32 × (Nat → Int32) × (Nat → Int32) × (Nat → Int32))
  | 0, _, _, _, _, _, _, _, _, _, _, _ => none
  | n + 1, x6, x7, v_base, v_at, v_size, v_fault, v_opened, v_isSeen, v_d, v_movedKept, v_names =>
    if x7 ≤ 0 then
      some (v_base, v_at, v_size, v_fault, v_opened, v_isSeen, v_d, v_movedKept, v_names)
    else
      nm (10 + x6 : Int32) fun t_31 =>
      chi t_31 244 <|
      nm (v_d t_31.toNatClampNeg : Int32) fun t_33 =>
      nm (35 + x6 : Int32) fun t_34 =>
      chi t_34 244 <|
      nm (v_d t_34.toNatClampNeg : Int32) fun t_36 =>
      kb9 (f_X12_movesOf a_1 t_33 t_36 v_base v_at v_size v_fault v_opened v_isSeen v_isKeeping v_d v_movedKept v_names) fun r_38 w_39 w_40 w_41 w_42 w_43 w_44 w_45 w_46 =>
      kb (f_X12_nextTo x6 a_3 v_d) fun r_48 =>
      if 0 ≤ r_48 then
        nm (10 + x6 : Int32) fun t_50 =>
        chi t_50 244 <|
        nm (v_d t_50.toNatClampNeg : Int32) fun t_52 =>
        nm (t_52 - r_38 : Int32) fun t_53 =>
        chi t_50 244 <|
        nm (upd v_d t_50.toNatClampNeg t_53) fun w_55 =>
        nm (10 + r_48 : Int32) fun t_56 =>
        chi t_56 244 <|
        nm (w_55 t_56.toNatClampNeg : Int32) fun t_58 =>
        nm (t_58 + r_38 : Int32) fun t_59 =>
        chi t_56 244 <|
        nm (upd w_55 t_56.toNatClampNeg t_59) fun w_61 =>
        nm (10 + r_48 : Int32) fun t_62 =>
        chi t_62 244 <|
        nm (w_61 t_62.toNatClampNeg : Int32) fun t_64 =>
        if t_64 ≤ 99 then
          nm (x7 + (-1) : Int32) fun t_66 =>
          f_X12_strokes_L96 a_1 a_3 v_isKeeping n r_48 t_66 w_39 w_40 w_41 w_42 w_43 w_44 w_61 w_45 w_46
        else
          nm (10 + r_48 : Int32) fun t_67 =>
          chi t_67 244 <|
          nm (w_61 t_67.toNatClampNeg : Int32) fun t_69 =>
          nm (t_69 - 99 : Int32) fun t_70 =>
          kb (f_X12_goesOut t_70 w_61) fun w_72 =>
          nm (10 + r_48 : Int32) fun t_73 =>
          chi t_73 244 <|
          nm (upd w_72 t_73.toNatClampNeg 99) fun w_75 =>
          nm (x7 + (-1) : Int32) fun t_76 =>
          f_X12_strokes_L96 a_1 a_3 v_isKeeping n r_48 t_76 w_39 w_40 w_41 w_42 w_43 w_44 w_75 w_45 w_46
      else
        kb (f_X12_isOpen a_3 v_d) fun r_78 =>
        if r_78 = 0 then
          nm (0 + (-1) : Int32) fun t_80 =>
          f_X12_strokes_L96 a_1 a_3 v_isKeeping n x6 t_80 w_39 w_40 w_41 w_42 w_43 w_44 v_d w_45 w_46
        else
          nm (10 + x6 : Int32) fun t_81 =>
          chi t_81 244 <|
          nm (v_d t_81.toNatClampNeg : Int32) fun t_83 =>
          nm (t_83 - r_38 : Int32) fun t_84 =>
          chi t_81 244 <|
          nm (upd v_d t_81.toNatClampNeg t_84) fun w_86 =>
          kb (f_X12_goesOut r_38 w_86) fun w_88 =>
          nm (0 + (-1) : Int32) fun t_89 =>
          f_X12_strokes_L96 a_1 a_3 v_isKeeping n x6 t_89 w_39 w_40 w_41 w_42 w_43 w_44 w_88 w_45 w_46

def f_X12_strokes_L85 (a_1 : Int32) (a_2 : Int32) (a_3 : Int32) (v_isKeeping : Int32) (y1 : Int32) (y2 : Int32) (v_base : Int32) (v_at : Int32) (v_size : Int32) (v_fault : Int32) (v_opened : Int32) (v_isSeen : Int32) (v_d : Nat → Int32) (v_movedKept : Nat → Int32) (v_names : Nat → Int32) : Option (Int32 × Int32 × Int32 × Int32 × Int32 × Int32 × (Nat → Int32) × (Nat → Int32) × (Nat → Int32)) :=
  chi y1 244 <|
  nm (upd v_d y1.toNatClampNeg y2) fun w_27 =>
  kb (f_X12_reachOf a_1 w_27) fun r_29 =>
  f_X12_strokes_L96 a_1 a_3 v_isKeeping gFuel a_2 r_29 v_base v_at v_size v_fault v_opened v_isSeen w_27 v_movedKept v_names

def f_X12_strokes (a_1 : Int32) (a_2 : Int32) (a_3 : Int32) (v_base : Int32) (v_at : Int32) (v_size : Int32) (v_fault : Int32) (v_opened : Int32) (v_isSeen : Int32) (v_isKeeping : Int32) (v_d : Nat → Int32) (v_movedKept : Nat → Int32) (v_names : Nat → Int32) : Option (Int32 × Int32 × Int32 × Int32 × Int32 × Int32 × (Nat → Int32) × (Nat → Int32) × (Nat → Int32)) :=
  nm (10 + a_2 : Int32) fun t_1 =>
  chi t_1 244 <|
  nm (v_d t_1.toNatClampNeg : Int32) fun t_3 =>
  kb (f_X12_letsOf a_1 t_3 v_d) fun r_5 =>
  nm (10 + a_2 : Int32) fun t_6 =>
  chi t_6 244 <|
  nm (v_d t_6.toNatClampNeg : Int32) fun t_8 =>
  nm (t_8 - r_5 : Int32) fun t_9 =>
  chi t_6 244 <|
  nm (upd v_d t_6.toNatClampNeg t_9) fun w_11 =>
  kb (f_X12_goesOut r_5 w_11) fun w_13 =>
  nm (35 + a_2 : Int32) fun t_14 =>
  chi t_14 244 <|
  nm (w_13 t_14.toNatClampNeg : Int32) fun t_16 =>
  kb (f_X12_tearsOf a_1 t_16 w_13) fun r_18 =>
  chi 3 244 <|
  nm (w_13 (3 : Int32).toNatClampNeg : Int32) fun t_20 =>
  nm (t_20 + r_18 : Int32) fun t_21 =>
  if t_21 ≤ 99999 then
    chi 3 244 <|
    nm (w_13 (3 : Int32).toNatClampNeg : Int32) fun t_24 =>
    nm (t_24 + r_18 : Int32) fun t_25 =>
    f_X12_strokes_L85 a_1 a_2 a_3 v_isKeeping 3 t_25 v_base v_at v_size v_fault v_opened v_isSeen w_13 v_movedKept v_names
  else
    f_X12_strokes_L85 a_1 a_2 a_3 v_isKeeping 3 99999 v_base v_at v_size v_fault v_opened v_isSeen w_13 v_movedKept v_names

def f_X12_bestOf_L66 (kk_L22 : Int32 → Int32 → Int32 → Int32 → Int32 → Int32 → Int32 → Int32 → Int32 → Int32 → (Nat → Int32) → (Nat → Int32) → (Nat → Int32) → (Nat → Int32) → (Nat → Int32) → Option (Int32 × Int32 × Int32 × Int32 × Int32 × Int32 × Int32 × Int32 × (Nat → Int32) × (Nat → Int32) × (Nat → Int32) × (Nat → Int32) × (Nat → Int32))) (a_1 : Int32) (a_2 : Int32) (v_isKeeping : Int32) (x4 : Int32) (x5 : Int32) (x6 : Int32) (v_base : Int32) (v_at : Int32) (v_size : Int32) (v_fault : Int32) (v_opened : Int32) (v_isSeen : Int32) (v_aside : Nat → Int32) (v_d : Nat → Int32) (v_movedKept : Nat → Int32) (v_names : Nat → Int32) (v_seenKept : Nat → Int32) : Option (Int32 × Int32 × Int32 × Int32 × Int32 × Int32 × Int32 × Int32 × (Nat → Int32) × (Nat → Int32) × (Nat → Int32) × (Nat → Int32) × (Nat → Int32)) :=
  nm (10 * x4 : Int32) fun t_33 =>
  nm (t_33 + x5 : Int32) fun t_34 =>
  nm (x5 + 1 : Int32) fun t_35 =>
  kk_L22 t_34 x4 t_35 v_base v_at v_size v_fault v_opened v_isSeen x6 v_aside v_d v_movedKept v_names v_seenKept

def f_X12_bestOf_L22 (kk_L10 : Int32 → Int32 → Int32 → Int32 → Int32 → Int32 → Int32 → Int32 → Int32 → (Nat → Int32) → (Nat → Int32) → (Nat → Int32) → (Nat → Int32) → (Nat → Int32) → Option (Int32 × Int32 × Int32 × Int32 × Int32 × Int32 × Int32 × Int32 × (Nat → Int32) × (Nat → Int32) × (Nat → Int32) × (Nat → Int32) × (Nat → Int32))) (a_1 : Int32) (a_2 : Int32) (v_isKeeping : Int32) : Nat → Int32 → Int32 → Int32 → Int32 → Int32 → Int32 → Int32 → Int32 → Int32 → Int32 → (Nat → Int32) → (Nat → Int32) → (Nat → Int32) → (Nat → Int32) → (Nat → Int32) → Option (Int32 × Int32 × Int32 × Int32 × Int32 × Int32 × Int32 × Int32 × (Nat → Int32) × (Nat → Int32) × (Nat → Int32) × (Nat → Int32) × (Nat → Int32))
  | 0, _, _, _, _, _, _, _, _, _, _, _, _, _, _, _ => none
  | n + 1, x3, x4, x5, v_base, v_at, v_size, v_fault, v_opened, v_isSeen, v_bestShown, v_aside, v_d, v_movedKept, v_names, v_seenKept =>
    if 4 ≤ x5 then
      nm (x4 + 1 : Int32) fun t_5 =>
      kk_L10 x3 t_5 v_base v_at v_size v_fault v_opened v_isSeen v_bestShown v_aside v_d v_movedKept v_names v_seenKept
    else
      kb (f_X12_keepAside a_2 v_aside v_d) fun w_7 =>
      kb9 (f_X12_strokes a_1 x4 x5 v_base v_at v_size v_fault v_opened v_isSeen v_isKeeping v_d v_movedKept v_names) fun w_9 w_10 w_11 w_12 w_13 w_14 w_15 w_16 w_17 =>
      kb9 (f_X12_seen w_9 w_10 w_11 w_12 w_13 w_14 v_isKeeping w_15 w_17 v_seenKept) fun r_19 w_20 w_21 w_22 w_23 w_24 w_25 w_26 w_27 =>
      kb (f_X12_putBack a_2 w_7 w_15) fun w_29 =>
      if x3 < 0 then
        f_X12_bestOf_L66 (f_X12_bestOf_L22 kk_L10 a_1 a_2 v_isKeeping n) a_1 a_2 v_isKeeping x4 x5 r_19 w_20 w_21 w_22 w_23 w_24 w_25 w_7 w_29 w_16 w_26 w_27
      else
        if v_bestShown ≤ r_19 then
          nm (x5 + 1 : Int32) fun t_32 =>
          f_X12_bestOf_L22 kk_L10 a_1 a_2 v_isKeeping n x3 x4 t_32 w_20 w_21 w_22 w_23 w_24 w_25 v_bestShown w_7 w_29 w_16 w_26 w_27
        else
          f_X12_bestOf_L66 (f_X12_bestOf_L22 kk_L10 a_1 a_2 v_isKeeping n) a_1 a_2 v_isKeeping x4 x5 r_19 w_20 w_21 w_22 w_23 w_24 w_25 w_7 w_29 w_16 w_26 w_27

def f_X12_bestOf_L10 (a_1 : Int32) (a_2 : Int32) (v_isKeeping : Int32) : Nat → Int32 → Int32 → Int32 → Int32 → Int32 → Int32 → Int32 → Int32 → Int32 → (Nat → Int32) → (Nat → Int32) → (Nat → Int32) → (Nat → Int32) → (Nat → Int32) → Option (Int32 × Int32 × Int32 × Int32 × Int32 × Int32 × Int32 × Int32 × (Nat → Int32) × (Nat → Int32) × (Nat → Int32) × (Nat → Int32) × (Nat → Int32))
  | 0, _, _, _, _, _, _, _, _, _, _, _, _, _, _ => none
  | n + 1, x3, x4, v_base, v_at, v_size, v_fault, v_opened, v_isSeen, v_bestShown, v_aside, v_d, v_movedKept, v_names, v_seenKept =>
    kb (f_X12_cells v_d) fun r_2 =>
    if r_2 ≤ x4 then
      some (x3, v_base, v_at, v_size, v_fault, v_opened, v_isSeen, v_bestShown, v_aside, v_d, v_movedKept, v_names, v_seenKept)
    else
      f_X12_bestOf_L22 (f_X12_bestOf_L10 a_1 a_2 v_isKeeping n) a_1 a_2 v_isKeeping gFuel x3 x4 0 v_base v_at v_size v_fault v_opened v_isSeen v_bestShown v_aside v_d v_movedKept v_names v_seenKept

def f_X12_bestOf (a_1 : Int32) (a_2 : Int32) (v_base : Int32) (v_at : Int32) (v_size : Int32) (v_fault : Int32) (v_opened : Int32) (v_isSeen : Int32) (v_isKeeping : Int32) (v_bestShown : Int32) (v_aside : Nat → Int32) (v_d : Nat → Int32) (v_movedKept : Nat → Int32) (v_names : Nat → Int32) (v_seenKept : Nat → Int32) : Option (Int32 × Int32 × Int32 × Int32 × Int32 × Int32 × Int32 × Int32 × (Nat → Int32) × (Nat → Int32) × (Nat → Int32) × (Nat → Int32) × (Nat → Int32)) :=
  f_X12_bestOf_L10 a_1 a_2 v_isKeeping gFuel (-1) 0 v_base v_at v_size v_fault v_opened v_isSeen 0 v_aside v_d v_movedKept v_names v_seenKept

def f_X12_best_L18 (v_base : Int32) (v_at : Int32) (v_size : Int32) (v_fault : Int32) (v_opened : Int32) (v_isSeen : Int32) (v_bestShown : Int32) (v_aside : Nat → Int32) (v_d : Nat → Int32) (v_found : Nat → Int32) (v_movedKept : Nat → Int32) (v_names : Nat → Int32) (v_seenKept : Nat → Int32) : Option (Int32 × Int32 × Int32 × Int32 × Int32 × Int32 × Int32 × Int32 × (Nat → Int32) × (Nat → Int32) × (Nat → Int32) × (Nat → Int32) × (Nat → Int32) × (Nat → Int32)) :=
  kb2 (f_X12_finds 1 v_found) fun r_23 w_24 =>
  some (r_23, v_base, v_at, v_size, v_fault, v_opened, v_isSeen, v_bestShown, v_aside, v_d, w_24, v_movedKept, v_names, v_seenKept)

def f_X12_best (a_1 : Int32) (a_2 : Int32) (v_base : Int32) (v_at : Int32) (v_size : Int32) (v_fault : Int32) (v_opened : Int32) (v_isSeen : Int32) (v_isKeeping : Int32) (v_bestShown : Int32) (v_aside : Nat → Int32) (v_d : Nat → Int32) (v_found : Nat → Int32) (v_movedKept : Nat → Int32) (v_names : Nat → Int32) (v_seenKept : Nat → Int32) : Option (Int32 × Int32 × Int32 × Int32 × Int32 × Int32 × Int32 × Int32 × (Nat → Int32) × (Nat → Int32) × (Nat → Int32) × (Nat → Int32) × (Nat → Int32) × (Nat → Int32)) :=
  kb (f_X12_isTool a_1 v_d) fun r_2 =>
  if r_2 = 0 then
    f_X12_best_L18 v_base v_at v_size v_fault v_opened v_isSeen v_bestShown v_aside v_d v_found v_movedKept v_names v_seenKept
  else
    kb (f_X12_in ((a_2 : Int32).toInt64) 0 1) fun r_5 =>
    if r_5 = 0 then
      f_X12_best_L18 v_base v_at v_size v_fault v_opened v_isSeen v_bestShown v_aside v_d v_found v_movedKept v_names v_seenKept
    else
      kb13 (f_X12_bestOf a_1 0 v_base v_at v_size v_fault v_opened v_isSeen v_isKeeping v_bestShown v_aside v_d v_movedKept v_names v_seenKept) fun r_8 w_9 w_10 w_11 w_12 w_13 w_14 w_15 w_16 w_17 w_18 w_19 w_20 =>
      if a_2 = 0 then
        some (r_8, w_9, w_10, w_11, w_12, w_13, w_14, w_15, w_16, w_17, v_found, w_18, w_19, w_20)
      else
        some (w_15, w_9, w_10, w_11, w_12, w_13, w_14, w_15, w_16, w_17, v_found, w_18, w_19, w_20)

def f_X12_keepsAnew_L29 : Nat → Int32 → Int32 → (Nat → Int32) → (Nat → Int32) → Option (Int32 × (Nat → Int32) × (Nat → Int32))
  | 0, _, _, _, _ => none
  | n + 1, x1, v_isKeeping, v_movedKept, v_seenKept =>
    if 1000 ≤ x1 then
      some (v_isKeeping, v_movedKept, v_seenKept)
    else
      chi x1 1000 <|
      nm (upd v_movedKept x1.toNatClampNeg (-1)) fun w_7 =>
      nm (x1 + 1 : Int32) fun t_8 =>
      f_X12_keepsAnew_L29 n t_8 v_isKeeping w_7 v_seenKept

def f_X12_keepsAnew_L7 : Nat → Int32 → Int32 → (Nat → Int32) → (Nat → Int32) → Option (Int32 × (Nat → Int32) × (Nat → Int32))
  | 0, _, _, _, _ => none
  | n + 1, x1, v_isKeeping, v_movedKept, v_seenKept =>
    if 2500 ≤ x1 then
      f_X12_keepsAnew_L29 gFuel 0 v_isKeeping v_movedKept v_seenKept
    else
      chi x1 2500 <|
      nm (upd v_seenKept x1.toNatClampNeg (-1)) fun w_3 =>
      nm (x1 + 1 : Int32) fun t_4 =>
      f_X12_keepsAnew_L7 n t_4 v_isKeeping v_movedKept w_3

def f_X12_keepsAnew (v_isKeeping : Int32) (v_movedKept : Nat → Int32) (v_seenKept : Nat → Int32) : Option (Int32 × (Nat → Int32) × (Nat → Int32)) :=
  f_X12_keepsAnew_L7 gFuel 0 1 v_movedKept v_seenKept

def f_X12_bestTwo_L18 (v_base : Int32) (v_at : Int32) (v_size : Int32) (v_fault : Int32) (v_opened : Int32) (v_isSeen : Int32) (v_isKeeping : Int32) (v_bestShown : Int32) (v_aside : Nat → Int32) (v_d : Nat → Int32) (v_found : Nat → Int32) (v_movedKept : Nat → Int32) (v_names : Nat → Int32) (v_seenKept : Nat → Int32) : Option (Int32 × Int32 × Int32 × Int32 × Int32 × Int32 × Int32 × Int32 × Int32 × (Nat → Int32) × (Nat → Int32) × (Nat → Int32) × (Nat → Int32) × (Nat → Int32) × (Nat → Int32)) :=
  kb2 (f_X12_finds 1 v_found) fun r_12 w_13 =>
  some (r_12, v_base, v_at, v_size, v_fault, v_opened, v_isSeen, v_isKeeping, v_bestShown, v_aside, v_d, w_13, v_movedKept, v_names, v_seenKept)

def f_X12_bestTwo_L99 (kk_L48 : Int32 → Int32 → Int32 → Int32 → Int32 → Int32 → Int32 → Int32 → Int32 → Int32 → Int32 → Int32 → (Nat → Int32) → (Nat → Int32) → (Nat → Int32) → (Nat → Int32) → (Nat → Int32) → (Nat → Int32) → Option (Int32 × Int32 × Int32 × Int32 × Int32 × Int32 × Int32 × Int32 × Int32 × (Nat → Int32) × (Nat → Int32) × (Nat → Int32) × (Nat → Int32) × (Nat → Int32) × (Nat → Int32))) (a_1 : Int32) (a_2 : Int32) (x5 : Int32) (x6 : Int32) (v_base : Int32) (v_at : Int32) (v_size : Int32) (v_fault : Int32) (v_opened : Int32) (v_isSeen : Int32) (v_isKeeping : Int32) (v_bestShown : Int32) (v_aside : Nat → Int32) (v_d : Nat → Int32) (v_found : Nat → Int32) (v_movedKept : Nat → Int32) (v_names : Nat → Int32) (v_seenKept : Nat → Int32) : Option (Int32 × Int32 × Int32 × Int32 × Int32 × Int32 × Int32 × Int32 × Int32 × (Nat → Int32) × (Nat → Int32) × (Nat → Int32) × (Nat → Int32) × (Nat → Int32) × (Nat → Int32)) :=
  nm (10 * x5 : Int32) fun t_53 =>
  nm (t_53 + x6 : Int32) fun t_54 =>
  nm (x6 + 1 : Int32) fun t_55 =>
  kk_L48 t_54 v_bestShown x5 t_55 v_base v_at v_size v_fault v_opened v_isSeen v_isKeeping v_bestShown v_aside v_d v_found v_movedKept v_names v_seenKept

def f_X12_bestTwo_L48 (kk_L36 : Int32 → Int32 → Int32 → Int32 → Int32 → Int32 → Int32 → Int32 → Int32 → Int32 → Int32 → (Nat → Int32) → (Nat → Int32) → (Nat → Int32) → (Nat → Int32) → (Nat → Int32) → (Nat → Int32) → Option (Int32 × Int32 × Int32 × Int32 × Int32 × Int32 × Int32 × Int32 × Int32 × (Nat → Int32) × (Nat → Int32) × (Nat → Int32) × (Nat → Int32) × (Nat → Int32) × (Nat → Int32))) (a_1 : Int32) (a_2 : Int32) : Nat → Int32 → Int32 → Int32 → Int32 → Int32 → Int32 → Int32 → Int32 → Int32 → Int32 → Int32 → Int32 → (Nat → Int32) → (Nat → Int32) → (Nat → Int32) → (Nat → Int32) → (Nat → Int32) → (Nat → Int32) → Option (Int32 × Int32 × Int32 × Int32 × Int32 × Int32 × Int32 × Int32 × Int32 × (Nat → Int32) × (Nat → Int32) × (Nat → Int32) × (Nat → Int32) × (Nat → Int32) × (Nat → Int32))
  | 0, _, _, _, _, _, _, _, _, _, _, _, _, _, _, _, _, _, _ => none
  | n + 1, x3, x4, x5, x6, v_base, v_at, v_size, v_fault, v_opened, v_isSeen, v_isKeeping, v_bestShown, v_aside, v_d, v_found, v_movedKept, v_names, v_seenKept =>
    if 4 ≤ x6 then
      nm (x5 + 1 : Int32) fun t_19 =>
      kk_L36 x3 x4 t_19 v_base v_at v_size v_fault v_opened v_isSeen v_isKeeping v_bestShown v_aside v_d v_found v_movedKept v_names v_seenKept
    else
      kb (f_X12_keepAside 0 v_aside v_d) fun w_21 =>
      kb9 (f_X12_strokes a_1 x5 x6 v_base v_at v_size v_fault v_opened v_isSeen v_isKeeping v_d v_movedKept v_names) fun w_23 w_24 w_25 w_26 w_27 w_28 w_29 w_30 w_31 =>
      kb13 (f_X12_bestOf a_1 1 w_23 w_24 w_25 w_26 w_27 w_28 v_isKeeping v_bestShown w_21 w_29 w_30 w_31 v_seenKept) fun r_33 w_34 w_35 w_36 w_37 w_38 w_39 w_40 w_41 w_42 w_43 w_44 w_45 =>
      kb (f_X12_putBack 0 w_41 w_42) fun w_47 =>
      if r_33 < 0 then
        nm (x6 + 1 : Int32) fun t_49 =>
        f_X12_bestTwo_L48 kk_L36 a_1 a_2 n x3 x4 x5 t_49 w_34 w_35 w_36 w_37 w_38 w_39 v_isKeeping w_40 w_41 w_47 v_found w_43 w_44 w_45
      else
        if x3 < 0 then
          f_X12_bestTwo_L99 (f_X12_bestTwo_L48 kk_L36 a_1 a_2 n) a_1 a_2 x5 x6 w_34 w_35 w_36 w_37 w_38 w_39 v_isKeeping w_40 w_41 w_47 v_found w_43 w_44 w_45
        else
          if x4 ≤ w_40 then
            nm (x6 + 1 : Int32) fun t_52 =>
            f_X12_bestTwo_L48 kk_L36 a_1 a_2 n x3 x4 x5 t_52 w_34 w_35 w_36 w_37 w_38 w_39 v_isKeeping w_40 w_41 w_47 v_found w_43 w_44 w_45
          else
            f_X12_bestTwo_L99 (f_X12_bestTwo_L48 kk_L36 a_1 a_2 n) a_1 a_2 x5 x6 w_34 w_35 w_36 w_37 w_38 w_39 v_isKeeping w_40 w_41 w_47 v_found w_43 w_44 w_45

def f_X12_bestTwo_L36 (a_1 : Int32) (a_2 : Int32) : Nat → Int32 → Int32 → Int32 → Int32 → Int32 → Int32 → Int32 → Int32 → Int32 → Int32 → Int32 → (Nat → Int32) → (Nat → Int32) → (Nat → Int32) → (Nat → Int32) → (Nat → Int32) → (Nat → Int32) → Option (Int32 × Int32 × Int32 × Int32 × Int32 × Int32 × Int32 × Int32 × Int32 × (Nat → Int32) × (Nat → Int32) × (Nat → Int32) × (Nat → Int32) × (Nat → Int32) × (Nat → Int32))
  | 0, _, _, _, _, _, _, _, _, _, _, _, _, _, _, _, _, _ => none
  | n + 1, x3, x4, x5, v_base, v_at, v_size, v_fault, v_opened, v_isSeen, v_isKeeping, v_bestShown, v_aside, v_d, v_found, v_movedKept, v_names, v_seenKept =>
    kb (f_X12_cells v_d) fun r_15 =>
    if r_15 ≤ x5 then
      if a_2 = 0 then
        some (x3, v_base, v_at, v_size, v_fault, v_opened, v_isSeen, 0, v_bestShown, v_aside, v_d, v_found, v_movedKept, v_names, v_seenKept)
      else
        some (x4, v_base, v_at, v_size, v_fault, v_opened, v_isSeen, 0, v_bestShown, v_aside, v_d, v_found, v_movedKept, v_names, v_seenKept)
    else
      f_X12_bestTwo_L48 (f_X12_bestTwo_L36 a_1 a_2 n) a_1 a_2 gFuel x3 x4 x5 0 v_base v_at v_size v_fault v_opened v_isSeen v_isKeeping v_bestShown v_aside v_d v_found v_movedKept v_names v_seenKept

def f_X12_bestTwo (a_1 : Int32) (a_2 : Int32) (v_base : Int32) (v_at : Int32) (v_size : Int32) (v_fault : Int32) (v_opened : Int32) (v_isSeen : Int32) (v_isKeeping : Int32) (v_bestShown : Int32) (v_aside : Nat → Int32) (v_d : Nat → Int32) (v_found : Nat → Int32) (v_movedKept : Nat → Int32) (v_names : Nat → Int32) (v_seenKept : Nat → Int32) : Option (Int32 × Int32 × Int32 × Int32 × Int32 × Int32 × Int32 × Int32 × Int32 × (Nat → Int32) × (Nat → Int32) × (Nat → Int32) × (Nat → Int32) × (Nat → Int32) × (Nat → Int32)) :=
  kb (f_X12_isTool a_1 v_d) fun r_2 =>
  if r_2 = 0 then
    f_X12_bestTwo_L18 v_base v_at v_size v_fault v_opened v_isSeen v_isKeeping v_bestShown v_aside v_d v_found v_movedKept v_names v_seenKept
  else
    kb (f_X12_in ((a_2 : Int32).toInt64) 0 1) fun r_5 =>
    if r_5 = 0 then
      f_X12_bestTwo_L18 v_base v_at v_size v_fault v_opened v_isSeen v_isKeeping v_bestShown v_aside v_d v_found v_movedKept v_names v_seenKept
    else
      kb3 (f_X12_keepsAnew v_isKeeping v_movedKept v_seenKept) fun w_8 w_9 w_10 =>
      f_X12_bestTwo_L36 a_1 a_2 gFuel (-1) 0 0 v_base v_at v_size v_fault v_opened v_isSeen w_8 v_bestShown v_aside v_d v_found w_9 v_names w_10

def f_X12_bubbleOf_L77 (kk_L28 : Int32 → Int32 → Int32 → Int32 → Option (Int32)) (v_d : Nat → Int32) (x3 : Int32) (x4 : Int32) (x5 : Int32) (x6 : Int32) (y0 : Int32) (y2 : Int32) (y3 : Int32) : Option (Int32) :=
  nm (y2 + y3 : Int32) fun t_18 =>
  chi t_18 244 <|
  if (v_d t_18.toNatClampNeg) ≤ 0 then
    nm (y0 ||| 0 : Int32) fun t_21 =>
    nm (x5 + 1 : Int32) fun t_22 =>
    kk_L28 t_21 x3 x4 t_22
  else
    nm (1 <<< (x6 &&& 31) : Int32) fun t_23 =>
    nm (y0 ||| t_23 : Int32) fun t_24 =>
    nm (x5 + 1 : Int32) fun t_25 =>
    kk_L28 t_24 x3 x4 t_25

def f_X12_bubbleOf_L28 (kk_L16 : Int32 → Int32 → Int32 → Option (Int32)) (v_d : Nat → Int32) : Nat → Int32 → Int32 → Int32 → Int32 → Option (Int32)
  | 0, _, _, _, _ => none
  | n + 1, x2, x3, x4, x5 =>
    if 4 ≤ x5 then
      nm (x4 + 1 : Int32) fun t_7 =>
      kk_L16 x2 x3 t_7
    else
      nm (x3 >>> (x4 &&& 31) : Int32) fun t_8 =>
      nm (t_8 &&& 1 : Int32) fun t_9 =>
      if t_9 = 1 then
        kb (f_X12_nextTo x4 x5 v_d) fun r_13 =>
        if r_13 < 0 then
          nm (x2 ||| 0 : Int32) fun t_15 =>
          nm (x5 + 1 : Int32) fun t_16 =>
          f_X12_bubbleOf_L28 kk_L16 v_d n t_15 x3 x4 t_16
        else
          if 0 ≤ r_13 then
            f_X12_bubbleOf_L77 (f_X12_bubbleOf_L28 kk_L16 v_d n) v_d x3 x4 x5 r_13 x2 10 r_13
          else
            f_X12_bubbleOf_L77 (f_X12_bubbleOf_L28 kk_L16 v_d n) v_d x3 x4 x5 r_13 x2 10 0
      else
        nm (x4 + 1 : Int32) fun t_11 =>
        kk_L16 x2 x3 t_11

def f_X12_bubbleOf_L16 (kk_L6 : Int32 → Int32 → Option (Int32)) (v_d : Nat → Int32) : Nat → Int32 → Int32 → Int32 → Option (Int32)
  | 0, _, _, _ => none
  | n + 1, x2, x3, x4 =>
    kb (f_X12_cells v_d) fun r_4 =>
    if r_4 ≤ x4 then
      kk_L6 x2 x3
    else
      f_X12_bubbleOf_L28 (f_X12_bubbleOf_L16 kk_L6 v_d n) v_d gFuel x2 x3 x4 0

def f_X12_bubbleOf_L6 (v_d : Nat → Int32) : Nat → Int32 → Int32 → Option (Int32)
  | 0, _, _ => none
  | n + 1, x2, x3 =>
    if x2 = x3 then
      some x2
    else
      f_X12_bubbleOf_L16 (f_X12_bubbleOf_L6 v_d n) v_d gFuel x2 x2 0

def f_X12_bubbleOf (a_1 : Int32) (v_d : Nat → Int32) : Option (Int32) :=
  nm (1 <<< (a_1 &&& 31) : Int32) fun t_1 =>
  f_X12_bubbleOf_L6 v_d gFuel t_1 0

def f_X12_sizeOf0_L4 (a_1 : Int32) (v_d : Nat → Int32) : Nat → Int32 → Int32 → Option (Int32)
  | 0, _, _ => none
  | n + 1, x2, x3 =>
    kb (f_X12_cells v_d) fun r_2 =>
    if r_2 ≤ x3 then
      some x2
    else
      nm (a_1 >>> (x3 &&& 31) : Int32) fun t_4 =>
      nm (t_4 &&& 1 : Int32) fun t_5 =>
      if t_5 = 1 then
        nm (10 + x3 : Int32) fun t_9 =>
        chi t_9 244 <|
        nm (v_d t_9.toNatClampNeg : Int32) fun t_11 =>
        nm (x2 + t_11 : Int32) fun t_12 =>
        nm (x3 + 1 : Int32) fun t_13 =>
        f_X12_sizeOf0_L4 a_1 v_d n t_12 t_13
      else
        nm (x2 + 0 : Int32) fun t_7 =>
        nm (x3 + 1 : Int32) fun t_8 =>
        f_X12_sizeOf0_L4 a_1 v_d n t_7 t_8

def f_X12_sizeOf0 (a_1 : Int32) (v_d : Nat → Int32) : Option (Int32) :=
  f_X12_sizeOf0_L4 a_1 v_d gFuel 0 0

def f_X12_findBubbles_L19 (v_d : Nat → Int32) : Nat → Int32 → Int32 → Int32 → Int32 → Int32 → Option (Int32 × Int32 × Int32)
  | 0, _, _, _, _, _ => none
  | n + 1, x1, x2, v_bubbleMany, v_bubbleMost, v_bubbleCell =>
    kb (f_X12_cells v_d) fun r_2 =>
    if r_2 ≤ x2 then
      some (v_bubbleMany, v_bubbleMost, v_bubbleCell)
    else
      nm (10 + x2 : Int32) fun t_4 =>
      chi t_4 244 <|
      if (v_d t_4.toNatClampNeg) = 0 then
        nm (x2 + 1 : Int32) fun t_7 =>
        f_X12_findBubbles_L19 v_d n x1 t_7 v_bubbleMany v_bubbleMost v_bubbleCell
      else
        nm (x1 >>> (x2 &&& 31) : Int32) fun t_8 =>
        nm (t_8 &&& 1 : Int32) fun t_9 =>
        if t_9 = 1 then
          nm (x2 + 1 : Int32) fun t_20 =>
          f_X12_findBubbles_L19 v_d n x1 t_20 v_bubbleMany v_bubbleMost v_bubbleCell
        else
          kb (f_X12_bubbleOf x2 v_d) fun r_12 =>
          kb (f_X12_sizeOf0 r_12 v_d) fun r_14 =>
          nm (x1 ||| r_12 : Int32) fun t_15 =>
          nm (v_bubbleMany + 1 : Int32) fun t_16 =>
          if r_14 ≤ v_bubbleMost then
            nm (x2 + 1 : Int32) fun t_18 =>
            f_X12_findBubbles_L19 v_d n t_15 t_18 t_16 v_bubbleMost v_bubbleCell
          else
            nm (x2 + 1 : Int32) fun t_19 =>
            f_X12_findBubbles_L19 v_d n t_15 t_19 t_16 r_14 x2

def f_X12_findBubbles (v_bubbleMany : Int32) (v_bubbleMost : Int32) (v_bubbleCell : Int32) (v_d : Nat → Int32) : Option (Int32 × Int32 × Int32) :=
  f_X12_findBubbles_L19 v_d gFuel 0 0 0 0 0

def f_X12_biggest (a_1 : Int32) (v_bubbleMany : Int32) (v_bubbleMost : Int32) (v_bubbleCell : Int32) (v_d : Nat → Int32) (v_found : Nat → Int32) : Option (Int32 × Int32 × Int32 × Int32 × (Nat → Int32)) :=
  kb (f_X12_in ((a_1 : Int32).toInt64) 0 1) fun r_2 =>
  if r_2 = 0 then
    kb2 (f_X12_finds 1 v_found) fun r_14 w_15 =>
    some (r_14, v_bubbleMany, v_bubbleMost, v_bubbleCell, w_15)
  else
    kb3 (f_X12_findBubbles v_bubbleMany v_bubbleMost v_bubbleCell v_d) fun w_5 w_6 w_7 =>
    if w_5 = 0 then
      kb2 (f_X12_finds 2 v_found) fun r_11 w_12 =>
      some (r_11, w_5, w_6, w_7, w_12)
    else
      if a_1 = 0 then
        some (w_6, w_5, w_6, w_7, v_found)
      else
        some (w_7, w_5, w_6, w_7, v_found)

def f_X12_bubbles (v_bubbleMany : Int32) (v_bubbleMost : Int32) (v_bubbleCell : Int32) (v_d : Nat → Int32) : Option (Int32 × Int32 × Int32 × Int32) :=
  kb3 (f_X12_findBubbles v_bubbleMany v_bubbleMost v_bubbleCell v_d) fun w_2 w_3 w_4 =>
  some (w_2, w_2, w_3, w_4)

def f_X12_builds_L16 : Nat → Int32 → (Nat → Int32) → Option ((Nat → Int32))
  | 0, _, _ => none
  | n + 1, x3, v_d =>
    if 25 ≤ x3 then
      some v_d
    else
      nm (10 + x3 : Int32) fun t_6 =>
      chi t_6 244 <|
      nm (upd v_d t_6.toNatClampNeg 0) fun w_8 =>
      nm (35 + x3 : Int32) fun t_9 =>
      chi t_9 244 <|
      nm (upd w_8 t_9.toNatClampNeg 5) fun w_11 =>
      nm (x3 + 1 : Int32) fun t_12 =>
      f_X12_builds_L16 n t_12 w_11

def f_X12_builds (a_1 : Int32) (a_2 : Int32) (v_d : Nat → Int32) : Option ((Nat → Int32)) :=
  chi 0 244 <|
  nm (upd v_d (0 : Int32).toNatClampNeg a_1) fun w_2 =>
  chi 1 244 <|
  nm (upd w_2 (1 : Int32).toNatClampNeg a_2) fun w_4 =>
  f_X12_builds_L16 gFuel 0 w_4

def f_X12_isAs_L4 (a_1 : Int32) (v_d : Nat → Int32) (v_number : Nat → Int32) : Nat → Int32 → Int32 → Option (Int32)
  | 0, _, _ => none
  | n + 1, x2, x3 =>
    kb (f_X12_cells v_d) fun r_2 =>
    if r_2 ≤ x3 then
      chb x2 <|
      some x2
    else
      if x2 = 0 then
        nm (x3 + 1 : Int32) fun t_6 =>
        f_X12_isAs_L4 a_1 v_d v_number n 0 t_6
      else
        nm (40 * a_1 : Int32) fun t_7 =>
        nm (t_7 + x3 : Int32) fun t_8 =>
        chi t_8 160 <|
        nm (v_number t_8.toNatClampNeg : Int32) fun t_10 =>
        nm (10 + x3 : Int32) fun t_11 =>
        chi t_11 244 <|
        if t_10 = (v_d t_11.toNatClampNeg) then
          nm (x3 + 1 : Int32) fun t_15 =>
          f_X12_isAs_L4 a_1 v_d v_number n 1 t_15
        else
          nm (x3 + 1 : Int32) fun t_14 =>
          f_X12_isAs_L4 a_1 v_d v_number n 0 t_14

def f_X12_isAs (a_1 : Int32) (v_d : Nat → Int32) (v_number : Nat → Int32) : Option (Int32) :=
  f_X12_isAs_L4 a_1 v_d v_number gFuel 1 0

def f_X12_isCell (a_1 : Int32) (v_d : Nat → Int32) : Option (Int32) :=
  kb (f_X12_cells v_d) fun r_2 =>
  kb (f_X12_in ((a_1 : Int32).toInt64) 0 (((r_2 - 1) : Int32).toInt64)) fun r_4 =>
  chb r_4 <|
  some r_4

def f_X12_isWay (a_0 : Int32) : Option (Int32) :=
  kb (f_X12_in ((a_0 : Int32).toInt64) 0 3) fun r_2 =>
  chb r_2 <|
  some r_2

def f_X12_came_L31 (v_base : Int32) (v_at : Int32) (v_size : Int32) (v_fault : Int32) (v_opened : Int32) (v_isSeen : Int32) (v_aside : Nat → Int32) (v_d : Nat → Int32) (v_found : Nat → Int32) (v_movedKept : Nat → Int32) (v_names : Nat → Int32) : Option (Int32 × Int32 × Int32 × Int32 × Int32 × Int32 × Int32 × (Nat → Int32) × (Nat → Int32) × (Nat → Int32) × (Nat → Int32) × (Nat → Int32)) :=
  kb2 (f_X12_finds 1 v_found) fun r_23 w_24 =>
  some (r_23, v_base, v_at, v_size, v_fault, v_opened, v_isSeen, v_aside, v_d, w_24, v_movedKept, v_names)

def f_X12_came_L61 (v_base : Int32) (v_at : Int32) (v_size : Int32) (v_fault : Int32) (v_opened : Int32) (v_isSeen : Int32) (v_aside : Nat → Int32) (v_d : Nat → Int32) (v_found : Nat → Int32) (v_movedKept : Nat → Int32) (v_names : Nat → Int32) : Option (Int32 × Int32 × Int32 × Int32 × Int32 × Int32 × Int32 × (Nat → Int32) × (Nat → Int32) × (Nat → Int32) × (Nat → Int32) × (Nat → Int32)) :=
  kb2 (f_X12_finds 2 v_found) fun r_26 w_27 =>
  some (r_26, v_base, v_at, v_size, v_fault, v_opened, v_isSeen, v_aside, v_d, w_27, v_movedKept, v_names)

def f_X12_came_L145 (a_1 : Int32) (x5 : Int32) (x6 : Int32) (v_base : Int32) (v_at : Int32) (v_size : Int32) (v_fault : Int32) (v_opened : Int32) (v_isSeen : Int32) (v_aside : Nat → Int32) (v_d : Nat → Int32) (v_found : Nat → Int32) (v_movedKept : Nat → Int32) (v_names : Nat → Int32) : Option (Int32 × Int32 × Int32 × Int32 × Int32 × Int32 × Int32 × (Nat → Int32) × (Nat → Int32) × (Nat → Int32) × (Nat → Int32) × (Nat → Int32)) :=
  nm (60 + (2 * a_1) : Int32) fun t_48 =>
  chi t_48 244 <|
  nm (upd v_d t_48.toNatClampNeg x5) fun w_50 =>
  if 0 ≤ x6 then
    some (x6, v_base, v_at, v_size, v_fault, v_opened, v_isSeen, v_aside, w_50, v_found, v_movedKept, v_names)
  else
    kb2 (f_X12_finds 2 v_found) fun r_53 w_54 =>
    some (r_53, v_base, v_at, v_size, v_fault, v_opened, v_isSeen, v_aside, w_50, w_54, v_movedKept, v_names)

def f_X12_came_L132 (kk_L80 : Int32 → Int32 → Int32 → Int32 → Int32 → Int32 → Int32 → Int32 → Int32 → (Nat → Int32) → (Nat → Int32) → (Nat → Int32) → (Nat → Int32) → (Nat → Int32) → Option (Int32 × Int32 × Int32 × Int32 × Int32 × Int32 × Int32 × (Nat → Int32) × (Nat → Int32) × (Nat → Int32) × (Nat → Int32) × (Nat → Int32))) (a_1 : Int32) (a_2 : Int32) (a_3 : Int32) (a_4 : Int32) (v_isKeeping : Int32) (v_number : Nat → Int32) (x5 : Int32) (x7 : Int32) (y0 : Int32) (v_base : Int32) (v_at : Int32) (v_size : Int32) (v_fault : Int32) (v_opened : Int32) (v_isSeen : Int32) (v_aside : Nat → Int32) (v_d : Nat → Int32) (v_found : Nat → Int32) (v_movedKept : Nat → Int32) (v_names : Nat → Int32) : Option (Int32 × Int32 × Int32 × Int32 × Int32 × Int32 × Int32 × (Nat → Int32) × (Nat → Int32) × (Nat → Int32) × (Nat → Int32) × (Nat → Int32)) :=
  kb (f_X12_putBack 0 v_aside v_d) fun w_56 =>
  nm (x7 + 1 : Int32) fun t_57 =>
  kk_L80 x5 y0 t_57 v_base v_at v_size v_fault v_opened v_isSeen v_aside w_56 v_found v_movedKept v_names

def f_X12_came_L80 (a_1 : Int32) (a_2 : Int32) (a_3 : Int32) (a_4 : Int32) (v_isKeeping : Int32) (v_number : Nat → Int32) : Nat → Int32 → Int32 → Int32 → Int32 → Int32 → Int32 → Int32 → Int32 → Int32 → (Nat → Int32) → (Nat → Int32) → (Nat → Int32) → (Nat → Int32) → (Nat → Int32) → Option (Int32 × Int32 × Int32 × Int32 × Int32 × Int32 × Int32 × (Nat → Int32) × (Nat → Int32) × (Nat → Int32) × (Nat → Int32) × (Nat → Int32))
  | 0, _, _, _, _, _, _, _, _, _, _, _, _, _, _ => none
  | n + 1, x5, x6, x7, v_base, v_at, v_size, v_fault, v_opened, v_isSeen, v_aside, v_d, v_found, v_movedKept, v_names =>
    if 6 < x7 then
      f_X12_came_L145 a_1 x5 x6 v_base v_at v_size v_fault v_opened v_isSeen v_aside v_d v_found v_movedKept v_names
    else
      if 0 ≤ x6 then
        f_X12_came_L145 a_1 x5 x6 v_base v_at v_size v_fault v_opened v_isSeen v_aside v_d v_found v_movedKept v_names
      else
        nm (60 + (2 * a_1) : Int32) fun t_30 =>
        chi t_30 244 <|
        nm (upd v_d t_30.toNatClampNeg x7) fun w_32 =>
        kb (f_X12_keepAside 0 v_aside w_32) fun w_34 =>
        kb9 (f_X12_strokes a_1 a_2 a_3 v_base v_at v_size v_fault v_opened v_isSeen v_isKeeping w_32 v_movedKept v_names) fun w_36 w_37 w_38 w_39 w_40 w_41 w_42 w_43 w_44 =>
        kb (f_X12_isAs a_4 w_42 v_number) fun r_46 =>
        if r_46 = 0 then
          f_X12_came_L132 (f_X12_came_L80 a_1 a_2 a_3 a_4 v_isKeeping v_number n) a_1 a_2 a_3 a_4 v_isKeeping v_number x5 x7 (-1) w_36 w_37 w_38 w_39 w_40 w_41 w_34 w_42 v_found w_43 w_44
        else
          f_X12_came_L132 (f_X12_came_L80 a_1 a_2 a_3 a_4 v_isKeeping v_number n) a_1 a_2 a_3 a_4 v_isKeeping v_number x5 x7 x7 w_36 w_37 w_38 w_39 w_40 w_41 w_34 w_42 v_found w_43 w_44

def f_X12_came (a_1 : Int32) (a_2 : Int32) (a_3 : Int32) (a_4 : Int32) (v_base : Int32) (v_at : Int32) (v_size : Int32) (v_fault : Int32) (v_opened : Int32) (v_isSeen : Int32) (v_isKeeping : Int32) (v_aside : Nat → Int32) (v_bitsOf : Nat → Int32) (v_d : Nat → Int32) (v_found : Nat → Int32) (v_movedKept : Nat → Int32) (v_names : Nat → Int32) (v_number : Nat → Int32) (v_sizeOf : Nat → Int32) : Option (Int32 × Int32 × Int32 × Int32 × Int32 × Int32 × Int32 × (Nat → Int32) × (Nat → Int32) × (Nat → Int32) × (Nat → Int32) × (Nat → Int32)) :=
  kb (f_X12_isTool a_1 v_d) fun r_2 =>
  if r_2 = 0 then
    f_X12_came_L31 v_base v_at v_size v_fault v_opened v_isSeen v_aside v_d v_found v_movedKept v_names
  else
    kb (f_X12_isCell a_2 v_d) fun r_5 =>
    if r_5 = 0 then
      f_X12_came_L31 v_base v_at v_size v_fault v_opened v_isSeen v_aside v_d v_found v_movedKept v_names
    else
      kb (f_X12_isWay a_3) fun r_8 =>
      if r_8 = 0 then
        f_X12_came_L31 v_base v_at v_size v_fault v_opened v_isSeen v_aside v_d v_found v_movedKept v_names
      else
        kb (f_X12_isSheet a_4) fun r_11 =>
        if r_11 = 0 then
          f_X12_came_L31 v_base v_at v_size v_fault v_opened v_isSeen v_aside v_d v_found v_movedKept v_names
        else
          chi a_4 4 <|
          if (v_bitsOf a_4.toNatClampNeg) = 0 then
            f_X12_came_L61 v_base v_at v_size v_fault v_opened v_isSeen v_aside v_d v_found v_movedKept v_names
          else
            chi a_4 4 <|
            nm (v_sizeOf a_4.toNatClampNeg : Int32) fun t_16 =>
            kb (f_X12_cells v_d) fun r_18 =>
            if t_16 = r_18 then
              kb (f_X12_kindOf a_1 v_d) fun r_21 =>
              f_X12_came_L80 a_1 a_2 a_3 a_4 v_isKeeping v_number gFuel r_21 (-1) 0 v_base v_at v_size v_fault v_opened v_isSeen v_aside v_d v_found v_movedKept v_names
            else
              f_X12_came_L61 v_base v_at v_size v_fault v_opened v_isSeen v_aside v_d v_found v_movedKept v_names

def f_X12_nightGoes_L47 (kk_L2 : Int32 → (Nat → Int32) → Option ((Nat → Int32))) (x1 : Int32) (y1 : Int32) (y2 : Int32) (v_d : Nat → Int32) : Option ((Nat → Int32)) :=
  chi y1 244 <|
  nm (upd v_d y1.toNatClampNeg y2) fun w_18 =>
  nm (35 + x1 : Int32) fun t_19 =>
  chi t_19 244 <|
  nm (w_18 t_19.toNatClampNeg : Int32) fun t_21 =>
  nm (35 + x1 : Int32) fun t_22 =>
  chi t_22 244 <|
  if (w_18 t_22.toNatClampNeg) ≤ 0 then
    nm (t_21 - 0 : Int32) fun t_25 =>
    chi t_19 244 <|
    nm (upd w_18 t_19.toNatClampNeg t_25) fun w_27 =>
    nm (x1 + 1 : Int32) fun t_28 =>
    kk_L2 t_28 w_27
  else
    nm (t_21 - 1 : Int32) fun t_29 =>
    chi t_19 244 <|
    nm (upd w_18 t_19.toNatClampNeg t_29) fun w_31 =>
    nm (x1 + 1 : Int32) fun t_32 =>
    kk_L2 t_32 w_31

def f_X12_nightGoes_L2 : Nat → Int32 → (Nat → Int32) → Option ((Nat → Int32))
  | 0, _, _ => none
  | n + 1, x1, v_d =>
    kb (f_X12_cells v_d) fun r_2 =>
    if r_2 ≤ x1 then
      chi 5 244 <|
      nm (v_d (5 : Int32).toNatClampNeg : Int32) fun t_5 =>
      nm (t_5 + 1 : Int32) fun t_6 =>
      chi 5 244 <|
      nm (upd v_d (5 : Int32).toNatClampNeg t_6) fun w_8 =>
      some w_8
    else
      nm (10 + x1 : Int32) fun t_9 =>
      chi t_9 244 <|
      nm (v_d t_9.toNatClampNeg : Int32) fun t_11 =>
      nm (35 + x1 : Int32) fun t_12 =>
      chi t_12 244 <|
      nm (t_11 - (v_d t_12.toNatClampNeg) : Int32) fun t_14 =>
      nm (10 + x1 : Int32) fun t_15 =>
      if 0 ≤ t_14 then
        f_X12_nightGoes_L47 (f_X12_nightGoes_L2 n) x1 t_15 t_14 v_d
      else
        f_X12_nightGoes_L47 (f_X12_nightGoes_L2 n) x1 t_15 0 v_d

def f_X12_nightGoes (v_d : Nat → Int32) : Option ((Nat → Int32)) :=
  f_X12_nightGoes_L2 gFuel 0 v_d

def f_X12_check_L68 (x2 : Int32) (v_aside : Nat → Int32) (v_d : Nat → Int32) : Option (Int32 × (Nat → Int32) × (Nat → Int32)) :=
  kb (f_X12_putBack 0 v_aside v_d) fun w_21 =>
  some (x2, v_aside, w_21)

def f_X12_check_L25 : Nat → Int32 → Int32 → Int32 → (Nat → Int32) → (Nat → Int32) → Option (Int32 × (Nat → Int32) × (Nat → Int32))
  | 0, _, _, _, _, _ => none
  | n + 1, x1, x2, x3, v_aside, v_d =>
    if x1 ≤ x3 then
      f_X12_check_L68 x2 v_aside v_d
    else
      if x2 = 0 then
        kb (f_X12_nightGoes v_d) fun w_10 =>
        nm (74 + x3 : Int32) fun t_11 =>
        chi t_11 244 <|
        nm (w_10 t_11.toNatClampNeg : Int32) fun t_13 =>
        kb (f_X12_allAir w_10) fun r_15 =>
        if t_13 = r_15 then
          nm (x3 + 1 : Int32) fun t_19 =>
          f_X12_check_L25 n x1 0 t_19 v_aside w_10
        else
          nm (1 + x3 : Int32) fun t_17 =>
          nm (x3 + 1 : Int32) fun t_18 =>
          f_X12_check_L25 n x1 t_17 t_18 v_aside w_10
      else
        f_X12_check_L68 x2 v_aside v_d

def f_X12_check (v_aside : Nat → Int32) (v_d : Nat → Int32) : Option (Int32 × (Nat → Int32) × (Nat → Int32)) :=
  chi 8 244 <|
  nm (v_d (8 : Int32).toNatClampNeg : Int32) fun t_2 =>
  chi 8 244 <|
  nm (upd v_d (8 : Int32).toNatClampNeg 0) fun w_4 =>
  kb (f_X12_keepAside 0 v_aside w_4) fun w_6 =>
  f_X12_check_L25 gFuel t_2 0 0 w_6 w_4

def f_X12_count_L104 (v_d : Nat → Int32) : Nat → Int32 → Int32 → (Nat → Int32) → Option (Int32 × (Nat → Int32))
  | 0, _, _, _ => none
  | n + 1, x2, x3, v_found =>
    kb (f_X12_cells v_d) fun r_29 =>
    if r_29 ≤ x3 then
      some (x2, v_found)
    else
      nm (10 + x3 : Int32) fun t_31 =>
      chi t_31 244 <|
      if (v_d t_31.toNatClampNeg) ≤ 0 then
        nm (x2 + 0 : Int32) fun t_34 =>
        nm (x3 + 1 : Int32) fun t_35 =>
        f_X12_count_L104 v_d n t_34 t_35 v_found
      else
        nm (x2 + 1 : Int32) fun t_36 =>
        nm (x3 + 1 : Int32) fun t_37 =>
        f_X12_count_L104 v_d n t_36 t_37 v_found

def f_X12_count (a_1 : Int32) (v_traceMany : Int32) (v_d : Nat → Int32) (v_found : Nat → Int32) : Option (Int32 × (Nat → Int32)) :=
  if a_1 = 0 then
    kb (f_X12_cells v_d) fun r_3 =>
    some (r_3, v_found)
  else
    if a_1 = 1 then
      chi 2 244 <|
      some (v_d (2 : Int32).toNatClampNeg, v_found)
    else
      if a_1 = 2 then
        kb (f_X12_allAir v_d) fun r_8 =>
        some (r_8, v_found)
      else
        if a_1 = 3 then
          chi 3 244 <|
          some (v_d (3 : Int32).toNatClampNeg, v_found)
        else
          if a_1 = 4 then
            chi 4 244 <|
            some (v_d (4 : Int32).toNatClampNeg, v_found)
          else
            if a_1 = 5 then
              chi 5 244 <|
              some (v_d (5 : Int32).toNatClampNeg, v_found)
            else
              if a_1 = 6 then
                f_X12_count_L104 v_d gFuel 0 0 v_found
              else
                if a_1 = 7 then
                  chi 9 244 <|
                  some (v_d (9 : Int32).toNatClampNeg, v_found)
                else
                  if a_1 = 8 then
                    chi 7 244 <|
                    some (v_d (7 : Int32).toNatClampNeg, v_found)
                  else
                    if a_1 = 9 then
                      chi 8 244 <|
                      some (v_d (8 : Int32).toNatClampNeg, v_found)
                    else
                      if a_1 = 10 then
                        some (v_traceMany, v_found)
                      else
                        if a_1 = 11 then
                          chi 6 244 <|
                          some (v_d (6 : Int32).toNatClampNeg, v_found)
                        else
                          kb2 (f_X12_finds 1 v_found) fun r_26 w_27 =>
                          some (r_26, w_27)

def f_X12_drawn (v_d : Nat → Int32) : Option (Int32 × (Nat → Int32)) :=
  chi 6 244 <|
  nm (v_d (6 : Int32).toNatClampNeg : Int32) fun t_2 =>
  nm (t_2 * 1103515245 : Int32) fun t_3 =>
  nm (t_3 + 12345 : Int32) fun t_4 =>
  chi 6 244 <|
  nm (upd v_d (6 : Int32).toNatClampNeg t_4) fun w_6 =>
  chi 6 244 <|
  nm (w_6 (6 : Int32).toNatClampNeg : Int32) fun t_8 =>
  some ((t_8.toUInt32 >>> (Int32.toUInt32 8 &&& Int32.toUInt32 31)).toInt32, w_6)

def f_X12_days_L41 (v_base : Int32) (v_at : Int32) (v_size : Int32) (v_fault : Int32) (v_opened : Int32) (v_isSeen : Int32) (v_d : Nat → Int32) (v_found : Nat → Int32) (v_movedKept : Nat → Int32) (v_names : Nat → Int32) : Option (Int32 × Int32 × Int32 × Int32 × Int32 × Int32 × Int32 × (Nat → Int32) × (Nat → Int32) × (Nat → Int32) × (Nat → Int32)) :=
  kb2 (f_X12_finds 3 v_found) fun r_14 w_15 =>
  some (r_14, v_base, v_at, v_size, v_fault, v_opened, v_isSeen, v_d, w_15, v_movedKept, v_names)

def f_X12_days_L49 (a_1 : Int32) (v_isKeeping : Int32) : Nat → Int32 → Int32 → Int32 → Int32 → Int32 → Int32 → Int32 → (Nat → Int32) → (Nat → Int32) → (Nat → Int32) → (Nat → Int32) → Option (Int32 × Int32 × Int32 × Int32 × Int32 × Int32 × Int32 × (Nat → Int32) × (Nat → Int32) × (Nat → Int32) × (Nat → Int32))
  | 0, _, _, _, _, _, _, _, _, _, _, _ => none
  | n + 1, x2, v_base, v_at, v_size, v_fault, v_opened, v_isSeen, v_d, v_found, v_movedKept, v_names =>
    if a_1 ≤ x2 then
      kb (f_X12_allAir v_d) fun r_18 =>
      some (r_18, v_base, v_at, v_size, v_fault, v_opened, v_isSeen, v_d, v_found, v_movedKept, v_names)
    else
      kb2 (f_X12_drawn v_d) fun r_20 w_21 =>
      chi 2 244 <|
      nm (w_21 (2 : Int32).toNatClampNeg : Int32) fun t_23 =>
      chz t_23 <|
      nm (r_20 - r_20 / t_23 * t_23 : Int32) fun t_25 =>
      kb2 (f_X12_drawn w_21) fun r_27 w_28 =>
      kb (f_X12_cells w_28) fun r_30 =>
      chz r_30 <|
      nm (r_27 - r_27 / r_30 * r_30 : Int32) fun t_32 =>
      kb2 (f_X12_drawn w_28) fun r_34 w_35 =>
      chz 4 <|
      nm (r_34 - r_34 / 4 * 4 : Int32) fun t_37 =>
      kb9 (f_X12_strokes t_25 t_32 t_37 v_base v_at v_size v_fault v_opened v_isSeen v_isKeeping w_35 v_movedKept v_names) fun w_39 w_40 w_41 w_42 w_43 w_44 w_45 w_46 w_47 =>
      kb (f_X12_nightGoes w_45) fun w_49 =>
      nm (x2 + 1 : Int32) fun t_50 =>
      f_X12_days_L49 a_1 v_isKeeping n t_50 w_39 w_40 w_41 w_42 w_43 w_44 w_49 v_found w_46 w_47

def f_X12_days (a_1 : Int32) (v_base : Int32) (v_at : Int32) (v_size : Int32) (v_fault : Int32) (v_opened : Int32) (v_isSeen : Int32) (v_isKeeping : Int32) (v_d : Nat → Int32) (v_found : Nat → Int32) (v_movedKept : Nat → Int32) (v_names : Nat → Int32) : Option (Int32 × Int32 × Int32 × Int32 × Int32 × Int32 × Int32 × (Nat → Int32) × (Nat → Int32) × (Nat → Int32) × (Nat → Int32)) :=
  kb (f_X12_in ((a_1 : Int32).toInt64) 1 30) fun r_2 =>
  if r_2 = 0 then
    kb2 (f_X12_finds 1 v_found) fun r_11 w_12 =>
    some (r_11, v_base, v_at, v_size, v_fault, v_opened, v_isSeen, v_d, w_12, v_movedKept, v_names)
  else
    chi 5 244 <|
    nm (v_d (5 : Int32).toNatClampNeg : Int32) fun t_5 =>
    nm (t_5 + a_1 : Int32) fun t_6 =>
    if 999 < t_6 then
      f_X12_days_L41 v_base v_at v_size v_fault v_opened v_isSeen v_d v_found v_movedKept v_names
    else
      chi 2 244 <|
      if (v_d (2 : Int32).toNatClampNeg) = 0 then
        f_X12_days_L41 v_base v_at v_size v_fault v_opened v_isSeen v_d v_found v_movedKept v_names
      else
        f_X12_days_L49 a_1 v_isKeeping gFuel 0 v_base v_at v_size v_fault v_opened v_isSeen v_d v_found v_movedKept v_names

def f_X12_edge_L17 (v_d : Nat → Int32) (v_found : Nat → Int32) : Option (Int32 × (Nat → Int32) × (Nat → Int32)) :=
  kb2 (f_X12_finds 1 v_found) fun r_11 w_12 =>
  some (r_11, v_d, w_12)

def f_X12_edge_L36 (a_1 : Int32) (a_2 : Int32) (y0 : Int32) (v_d : Nat → Int32) (v_found : Nat → Int32) : Option (Int32 × (Nat → Int32) × (Nat → Int32)) :=
  if a_2 = 1 then
    chi 9 244 <|
    nm (v_d (9 : Int32).toNatClampNeg : Int32) fun t_21 =>
    nm (t_21 ||| (1 <<< (a_1 &&& 31)) : Int32) fun t_22 =>
    chi 9 244 <|
    nm (upd v_d (9 : Int32).toNatClampNeg t_22) fun w_24 =>
    some (y0, w_24, v_found)
  else
    chi 9 244 <|
    nm (v_d (9 : Int32).toNatClampNeg : Int32) fun t_15 =>
    nm (1 <<< (a_1 &&& 31) : Int32) fun t_16 =>
    nm (t_15 &&& (t_16 ^^^ (-1)) : Int32) fun t_17 =>
    chi 9 244 <|
    nm (upd v_d (9 : Int32).toNatClampNeg t_17) fun w_19 =>
    some (y0, w_19, v_found)

def f_X12_edge (a_1 : Int32) (a_2 : Int32) (v_d : Nat → Int32) (v_found : Nat → Int32) : Option (Int32 × (Nat → Int32) × (Nat → Int32)) :=
  kb (f_X12_isWay a_1) fun r_2 =>
  if r_2 = 0 then
    f_X12_edge_L17 v_d v_found
  else
    kb (f_X12_in ((a_2 : Int32).toInt64) 0 1) fun r_5 =>
    if r_5 = 0 then
      f_X12_edge_L17 v_d v_found
    else
      kb (f_X12_isOpen a_1 v_d) fun r_8 =>
      if r_8 = 0 then
        f_X12_edge_L36 a_1 a_2 0 v_d v_found
      else
        f_X12_edge_L36 a_1 a_2 1 v_d v_found

def f_X12_feed_L41 (a_1 : Int64) (a_3 : Int32) : Nat → Int32 → (Nat → Int32) → (Nat → Int32) → Option (Int32 × (Nat → Int32) × (Nat → Int32))
  | 0, _, _, _ => none
  | n + 1, x4, v_d, v_found =>
    if a_3 ≤ x4 then
      chi 7 244 <|
      some (v_d (7 : Int32).toNatClampNeg, v_d, v_found)
    else
      chi 7 244 <|
      nm (194 + (v_d (7 : Int32).toNatClampNeg) : Int32) fun t_17 =>
      nm (8 * x4 : Int32) fun t_18 =>
      nm ((((a_1 >>> ((t_18 : Int32).toInt64 &&& 63)) &&& 255) : Int64).toInt32 : Int32) fun t_19 =>
      chi t_17 244 <|
      nm (upd v_d t_17.toNatClampNeg t_19) fun w_21 =>
      chi 7 244 <|
      nm (w_21 (7 : Int32).toNatClampNeg : Int32) fun t_23 =>
      nm (t_23 + 1 : Int32) fun t_24 =>
      chi 7 244 <|
      nm (upd w_21 (7 : Int32).toNatClampNeg t_24) fun w_26 =>
      nm (x4 + 1 : Int32) fun t_27 =>
      f_X12_feed_L41 a_1 a_3 n t_27 w_26 v_found

def f_X12_feed (a_1 : Int64) (a_3 : Int32) (v_d : Nat → Int32) (v_found : Nat → Int32) : Option (Int32 × (Nat → Int32) × (Nat → Int32)) :=
  kb (f_X12_in ((a_3 : Int32).toInt64) 1 8) fun r_2 =>
  if r_2 = 0 then
    kb2 (f_X12_finds 1 v_found) fun r_12 w_13 =>
    some (r_12, v_d, w_13)
  else
    chi 7 244 <|
    nm (v_d (7 : Int32).toNatClampNeg : Int32) fun t_5 =>
    nm (t_5 + a_3 : Int32) fun t_6 =>
    if t_6 ≤ 50 then
      f_X12_feed_L41 a_1 a_3 gFuel 0 v_d v_found
    else
      kb2 (f_X12_finds 4 v_found) fun r_9 w_10 =>
      some (r_9, v_d, w_10)

def f_X12_goneWith_L8 (a_2 : Int32) : Nat → Int32 → Int32 → Int32 → Option (Int32)
  | 0, _, _, _ => none
  | n + 1, x3, x4, x5 =>
    if a_2 < x5 then
      some (-1)
    else
      if 0 < x3 then
        nm (x3 - x4 : Int32) fun t_3 =>
        if x4 ≤ 0 then
          nm (x4 - 0 : Int32) fun t_5 =>
          nm (x5 + 1 : Int32) fun t_6 =>
          f_X12_goneWith_L8 a_2 n t_3 t_5 t_6
        else
          nm (x4 - 1 : Int32) fun t_7 =>
          nm (x5 + 1 : Int32) fun t_8 =>
          f_X12_goneWith_L8 a_2 n t_3 t_7 t_8
      else
        some x5

def f_X12_goneWith (a_0 : Int32) (a_1 : Int32) (a_2 : Int32) : Option (Int32) :=
  f_X12_goneWith_L8 a_2 gFuel a_0 a_1 0

def f_X12_goneBy (a_1 : Int32) (v_d : Nat → Int32) (v_found : Nat → Int32) : Option (Int32 × (Nat → Int32)) :=
  kb (f_X12_isCell a_1 v_d) fun r_2 =>
  if r_2 = 0 then
    kb2 (f_X12_finds 1 v_found) fun r_17 w_18 =>
    some (r_17, w_18)
  else
    nm (10 + a_1 : Int32) fun t_4 =>
    chi t_4 244 <|
    nm (v_d t_4.toNatClampNeg : Int32) fun t_6 =>
    nm (35 + a_1 : Int32) fun t_7 =>
    chi t_7 244 <|
    nm (v_d t_7.toNatClampNeg : Int32) fun t_9 =>
    kb (f_X12_goneWith t_6 t_9 30) fun r_11 =>
    if 0 ≤ r_11 then
      some (r_11, v_found)
    else
      kb2 (f_X12_finds 2 v_found) fun r_14 w_15 =>
      some (r_14, w_15)

def f_X12_image_L2 (v_d : Nat → Int32) : Nat → Int32 → Int32 → (Nat → Int32) → Option (Int32 × Int32 × (Nat → Int32))
  | 0, _, _, _ => none
  | n + 1, x1, v_images, v_kept =>
    if 244 ≤ x1 then
      nm (v_images + 1 : Int32) fun t_2 =>
      some (t_2, t_2, v_kept)
    else
      chi x1 244 <|
      nm (v_d x1.toNatClampNeg : Int32) fun t_4 =>
      chi x1 244 <|
      nm (upd v_kept x1.toNatClampNeg t_4) fun w_6 =>
      nm (x1 + 1 : Int32) fun t_7 =>
      f_X12_image_L2 v_d n t_7 v_images w_6

def f_X12_image (v_images : Int32) (v_d : Nat → Int32) (v_kept : Nat → Int32) : Option (Int32 × Int32 × (Nat → Int32)) :=
  f_X12_image_L2 v_d gFuel 0 v_images v_kept

def f_X12_judge_L77 (a_1 : Int32) (v_d : Nat → Int32) (v_sizeOf : Nat → Int32) (x2 : Int32) (v_found : Nat → Int32) : Option (Int32 × (Nat → Int32)) :=
  chi a_1 4 <|
  if x2 = (v_sizeOf a_1.toNatClampNeg) then
    kb (f_X12_cells v_d) fun r_28 =>
    if x2 = r_28 then
      some ((-1), v_found)
    else
      some (x2, v_found)
  else
    some (x2, v_found)

def f_X12_judge_L30 (a_1 : Int32) (v_d : Nat → Int32) (v_number : Nat → Int32) (v_sizeOf : Nat → Int32) : Nat → Int32 → (Nat → Int32) → Option (Int32 × (Nat → Int32))
  | 0, _, _ => none
  | n + 1, x2, v_found =>
    chi a_1 4 <|
    if (v_sizeOf a_1.toNatClampNeg) ≤ x2 then
      f_X12_judge_L77 a_1 v_d v_sizeOf x2 v_found
    else
      kb (f_X12_cells v_d) fun r_15 =>
      if r_15 ≤ x2 then
        f_X12_judge_L77 a_1 v_d v_sizeOf x2 v_found
      else
        nm (40 * a_1 : Int32) fun t_17 =>
        nm (t_17 + x2 : Int32) fun t_18 =>
        chi t_18 160 <|
        nm (v_number t_18.toNatClampNeg : Int32) fun t_20 =>
        nm (10 + x2 : Int32) fun t_21 =>
        chi t_21 244 <|
        if t_20 = (v_d t_21.toNatClampNeg) then
          nm (x2 + 1 : Int32) fun t_24 =>
          f_X12_judge_L30 a_1 v_d v_number v_sizeOf n t_24 v_found
        else
          f_X12_judge_L77 a_1 v_d v_sizeOf x2 v_found

def f_X12_judge (a_1 : Int32) (v_bitsOf : Nat → Int32) (v_d : Nat → Int32) (v_found : Nat → Int32) (v_number : Nat → Int32) (v_sizeOf : Nat → Int32) : Option (Int32 × (Nat → Int32)) :=
  kb (f_X12_isSheet a_1) fun r_2 =>
  if r_2 = 0 then
    kb2 (f_X12_finds 1 v_found) fun r_10 w_11 =>
    some (r_10, w_11)
  else
    chi a_1 4 <|
    if (v_bitsOf a_1.toNatClampNeg) = 0 then
      kb2 (f_X12_finds 2 v_found) fun r_7 w_8 =>
      some (r_7, w_8)
    else
      f_X12_judge_L30 a_1 v_d v_number v_sizeOf gFuel 0 v_found

def f_X12_lamp_L86 (kk_L56 : Int32 → Int32 → Int32 → Int32 → Int32 → (Nat → Int32) → Option (Int32 × (Nat → Int32))) (a_1 : Int32) (v_d : Nat → Int32) (x2 : Int32) (x3 : Int32) (x4 : Int32) (x6 : Int32) (y0 : Int32) (v_found : Nat → Int32) : Option (Int32 × (Nat → Int32)) :=
  kb (f_X12_nextTo x6 a_1 v_d) fun r_27 =>
  kk_L56 x2 x3 x4 y0 r_27 v_found

def f_X12_lamp_L56 (kk_L17 : Int32 → Int32 → (Nat → Int32) → Option (Int32 × (Nat → Int32))) (a_1 : Int32) (v_d : Nat → Int32) : Nat → Int32 → Int32 → Int32 → Int32 → Int32 → (Nat → Int32) → Option (Int32 × (Nat → Int32))
  | 0, _, _, _, _, _, _ => none
  | n + 1, x2, x3, x4, x5, x6, v_found =>
    if x6 < 0 then
      if x5 = 0 then
        nm (x2 + 0 : Int32) fun t_18 =>
        nm (x3 + 1 : Int32) fun t_19 =>
        kk_L17 t_18 t_19 v_found
      else
        nm (x2 + 1 : Int32) fun t_20 =>
        nm (x3 + 1 : Int32) fun t_21 =>
        kk_L17 t_20 t_21 v_found
    else
      if x5 = 0 then
        f_X12_lamp_L86 (f_X12_lamp_L56 kk_L17 a_1 v_d n) a_1 v_d x2 x3 x4 x6 0 v_found
      else
        nm (10 + x6 : Int32) fun t_23 =>
        chi t_23 244 <|
        if x4 ≤ (v_d t_23.toNatClampNeg) then
          f_X12_lamp_L86 (f_X12_lamp_L56 kk_L17 a_1 v_d n) a_1 v_d x2 x3 x4 x6 0 v_found
        else
          f_X12_lamp_L86 (f_X12_lamp_L56 kk_L17 a_1 v_d n) a_1 v_d x2 x3 x4 x6 1 v_found

def f_X12_lamp_L46 (kk_L17 : Int32 → Int32 → (Nat → Int32) → Option (Int32 × (Nat → Int32))) (a_1 : Int32) (v_d : Nat → Int32) (x2 : Int32) (x3 : Int32) (x4 : Int32) (y0 : Int32) (v_found : Nat → Int32) : Option (Int32 × (Nat → Int32)) :=
  kb (f_X12_nextTo x3 a_1 v_d) fun r_15 =>
  f_X12_lamp_L56 kk_L17 a_1 v_d gFuel x2 x3 x4 y0 r_15 v_found

def f_X12_lamp_L17 (a_1 : Int32) (v_d : Nat → Int32) : Nat → Int32 → Int32 → (Nat → Int32) → Option (Int32 × (Nat → Int32))
  | 0, _, _, _ => none
  | n + 1, x2, x3, v_found =>
    kb (f_X12_cells v_d) fun r_8 =>
    if r_8 ≤ x3 then
      some (x2, v_found)
    else
      nm (10 + x3 : Int32) fun t_10 =>
      chi t_10 244 <|
      nm (v_d t_10.toNatClampNeg : Int32) fun t_12 =>
      if t_12 ≤ 0 then
        f_X12_lamp_L46 (f_X12_lamp_L17 a_1 v_d n) a_1 v_d x2 x3 t_12 0 v_found
      else
        f_X12_lamp_L46 (f_X12_lamp_L17 a_1 v_d n) a_1 v_d x2 x3 t_12 1 v_found

def f_X12_lamp (a_1 : Int32) (v_d : Nat → Int32) (v_found : Nat → Int32) : Option (Int32 × (Nat → Int32)) :=
  kb (f_X12_isWay a_1) fun r_2 =>
  if r_2 = 0 then
    kb2 (f_X12_finds 1 v_found) fun r_5 w_6 =>
    some (r_5, w_6)
  else
    f_X12_lamp_L17 a_1 v_d gFuel 0 0 v_found

def f_X12_law (a_1 : Int32) (a_2 : Int32) (a_3 : Int32) (a_4 : Int32) (v_base : Int32) (v_at : Int32) (v_size : Int32) (v_fault : Int32) (v_opened : Int32) (v_isSeen : Int32) (v_d : Nat → Int32) (v_found : Nat → Int32) (v_names : Nat → Int32) : Option (Int32 × Int32 × Int32 × Int32 × Int32 × Int32 × Int32 × (Nat → Int32) × (Nat → Int32)) :=
  kb (f_X12_in ((a_1 : Int32).toInt64) 0 1) fun r_2 =>
  if r_2 = 0 then
    kb2 (f_X12_finds 1 v_found) fun r_5 w_6 =>
    some (r_5, v_base, v_at, v_size, v_fault, v_opened, v_isSeen, w_6, v_names)
  else
    kb8 (f_X12_textGives a_1 a_2 a_3 a_4 v_base v_at v_size v_fault v_opened v_isSeen v_d v_names) fun r_8 w_9 w_10 w_11 w_12 w_13 w_14 w_15 =>
    some (r_8, w_9, w_10, w_11, w_12, w_13, w_14, v_found, w_15)

def f_X12_ran (a_1 : Int32) (v_traceMany : Int32) (v_traced : Nat → Int32) : Option (Int32 × (Nat → Int32)) :=
  if 40 ≤ v_traceMany then
    some (v_traceMany, v_traced)
  else
    chi v_traceMany 40 <|
    nm (upd v_traced v_traceMany.toNatClampNeg a_1) fun w_3 =>
    nm (v_traceMany + 1 : Int32) fun t_4 =>
    some (t_4, w_3)

def f_X12_movesBy (uu : Int32 → Int32 → Int32 → Int32 → (Nat → Int32) → Option (Int32 × Int32 × (Nat → Int32))) (a_1 : Int32) (a_2 : Int32) (v_traceMany : Int32) (v_who : Int32) (v_traced : Nat → Int32) : Option (Int32 × Int32 × (Nat → Int32)) :=
  if a_1 = 0 then
    kb2 (f_X12_ran 10 v_traceMany v_traced) fun w_3 w_4 =>
    some (a_2 + v_who, w_3, w_4)
  else
    if a_1 = 1 then
      kb2 (f_X12_ran 20 v_traceMany v_traced) fun w_7 w_8 =>
      kb (f_X12_above 1) fun r_10 =>
      kb3 (uu r_10 a_2 w_7 v_who w_8) fun r_12 w_13 w_14 =>
      some (r_12 * 3, w_13, w_14)
    else
      kb (f_X12_above a_1) fun r_16 =>
      kb3 (uu r_16 a_2 v_traceMany v_who v_traced) fun r_18 w_19 w_20 =>
      some (r_18, w_19, w_20)

def f_X12_movesByN : Nat → Int32 → Int32 → Int32 → Int32 → (Nat → Int32) → Option (Int32 × Int32 × (Nat → Int32))
  | 0, _, _, _, _, _ => none
  | n + 1, a_1, a_2, v_traceMany, v_who, v_traced => f_X12_movesBy (f_X12_movesByN n) a_1 a_2 v_traceMany v_who v_traced
def f_X12_own (v_who : Int32) (v_d : Nat → Int32) : Option (Int32) :=
  kb (f_X12_kindOf v_who v_d) fun r_2 =>
  some r_2

def f_X12_tearsBy (uu : Int32 → Int32 → Int32 → Int32 → (Nat → Int32) → (Nat → Int32) → Option (Int32 × Int32 × (Nat → Int32))) (a_1 : Int32) (a_2 : Int32) (v_traceMany : Int32) (v_who : Int32) (v_d : Nat → Int32) (v_traced : Nat → Int32) : Option (Int32 × Int32 × (Nat → Int32)) :=
  if a_1 = 0 then
    kb2 (f_X12_ran 12 v_traceMany v_traced) fun w_3 w_4 =>
    kb (f_X12_numberOf v_who v_d) fun r_6 =>
    some (a_2 - r_6, w_3, w_4)
  else
    if a_1 = 3 then
      kb2 (f_X12_ran 40 v_traceMany v_traced) fun w_9 w_10 =>
      kb (f_X12_above 3) fun r_12 =>
      kb3 (uu r_12 a_2 w_9 v_who v_d w_10) fun r_14 w_15 w_16 =>
      some (-r_14, w_15, w_16)
    else
      if a_1 = 6 then
        kb2 (f_X12_ran 70 v_traceMany v_traced) fun w_19 w_20 =>
        kb (f_X12_above 6) fun r_22 =>
        kb3 (uu r_22 a_2 w_19 v_who v_d w_20) fun r_24 w_25 w_26 =>
        some (r_24 ^^^ v_who, w_25, w_26)
      else
        kb (f_X12_above a_1) fun r_28 =>
        kb3 (uu r_28 a_2 v_traceMany v_who v_d v_traced) fun r_30 w_31 w_32 =>
        some (r_30, w_31, w_32)

def f_X12_tearsByN : Nat → Int32 → Int32 → Int32 → Int32 → (Nat → Int32) → (Nat → Int32) → Option (Int32 × Int32 × (Nat → Int32))
  | 0, _, _, _, _, _, _ => none
  | n + 1, a_1, a_2, v_traceMany, v_who, v_d, v_traced => f_X12_tearsBy (f_X12_tearsByN n) a_1 a_2 v_traceMany v_who v_d v_traced
def f_X12_letsBy (uu : Int32 → Int32 → Int32 → Int32 → (Nat → Int32) → (Nat → Int32) → Option (Int32 × Int32 × (Nat → Int32))) (a_1 : Int32) (a_2 : Int32) (v_traceMany : Int32) (v_who : Int32) (v_d : Nat → Int32) (v_traced : Nat → Int32) : Option (Int32 × Int32 × (Nat → Int32)) :=
  if a_1 = 0 then
    kb2 (f_X12_ran 11 v_traceMany v_traced) fun w_3 w_4 =>
    kb (f_X12_own v_who v_d) fun r_6 =>
    kb3 (f_X12_movesByN 4 r_6 a_2 w_3 v_who w_4) fun r_8 w_9 w_10 =>
    some (r_8 * 2, w_9, w_10)
  else
    if a_1 = 2 then
      kb2 (f_X12_ran 30 v_traceMany v_traced) fun w_13 w_14 =>
      kb (f_X12_above 2) fun r_16 =>
      kb3 (uu r_16 a_2 w_13 v_who v_d w_14) fun r_18 w_19 w_20 =>
      kb (f_X12_own v_who v_d) fun r_22 =>
      kb3 (f_X12_tearsByN 4 r_22 1 w_19 v_who v_d w_20) fun r_24 w_25 w_26 =>
      some (r_18 - r_24, w_25, w_26)
    else
      if a_1 = 5 then
        kb2 (f_X12_ran 60 v_traceMany v_traced) fun w_29 w_30 =>
        kb (f_X12_above 5) fun r_32 =>
        nm (a_2 + 1 : Int32) fun t_33 =>
        kb3 (uu r_32 t_33 w_29 v_who v_d w_30) fun r_35 w_36 w_37 =>
        some (r_35, w_36, w_37)
      else
        kb (f_X12_above a_1) fun r_39 =>
        kb3 (uu r_39 a_2 v_traceMany v_who v_d v_traced) fun r_41 w_42 w_43 =>
        some (r_41, w_42, w_43)

def f_X12_letsByN : Nat → Int32 → Int32 → Int32 → Int32 → (Nat → Int32) → (Nat → Int32) → Option (Int32 × Int32 × (Nat → Int32))
  | 0, _, _, _, _, _, _ => none
  | n + 1, a_1, a_2, v_traceMany, v_who, v_d, v_traced => f_X12_letsBy (f_X12_letsByN n) a_1 a_2 v_traceMany v_who v_d v_traced
def f_X12_move_L14 (v_found : Nat → Int32) (v_lifted : Nat → Int32) (v_number : Nat → Int32) : Option (Int32 × (Nat → Int32) × (Nat → Int32) × (Nat → Int32)) :=
  kb2 (f_X12_finds 1 v_found) fun r_28 w_29 =>
  some (r_28, w_29, v_lifted, v_number)

def f_X12_move_L38 (v_found : Nat → Int32) (v_lifted : Nat → Int32) (v_number : Nat → Int32) : Option (Int32 × (Nat → Int32) × (Nat → Int32) × (Nat → Int32)) :=
  kb2 (f_X12_finds 2 v_found) fun r_31 w_32 =>
  some (r_31, w_32, v_lifted, v_number)

def f_X12_move_L106 (v_found : Nat → Int32) (v_lifted : Nat → Int32) (v_number : Nat → Int32) : Option (Int32 × (Nat → Int32) × (Nat → Int32) × (Nat → Int32)) :=
  kb2 (f_X12_finds 1 v_found) fun r_34 w_35 =>
  some (r_34, w_35, v_lifted, v_number)

def f_X12_move_L152 (a_3 : Int32) (a_4 : Int32) (a_5 : Int32) : Nat → Int32 → (Nat → Int32) → (Nat → Int32) → (Nat → Int32) → Option (Int32 × (Nat → Int32) × (Nat → Int32) × (Nat → Int32))
  | 0, _, _, _, _ => none
  | n + 1, x6, v_found, v_lifted, v_number =>
    if a_5 ≤ x6 then
      some (a_5, v_found, v_lifted, v_number)
    else
      nm (40 * a_3 : Int32) fun t_46 =>
      nm (t_46 + a_4 : Int32) fun t_47 =>
      nm (t_47 + x6 : Int32) fun t_48 =>
      chi x6 40 <|
      nm (v_lifted x6.toNatClampNeg : Int32) fun t_50 =>
      chi t_48 160 <|
      nm (upd v_number t_48.toNatClampNeg t_50) fun w_52 =>
      nm (x6 + 1 : Int32) fun t_53 =>
      f_X12_move_L152 a_3 a_4 a_5 n t_53 v_found v_lifted w_52

def f_X12_move_L115 (a_1 : Int32) (a_2 : Int32) (a_3 : Int32) (a_4 : Int32) (a_5 : Int32) : Nat → Int32 → (Nat → Int32) → (Nat → Int32) → (Nat → Int32) → Option (Int32 × (Nat → Int32) × (Nat → Int32) × (Nat → Int32))
  | 0, _, _, _, _ => none
  | n + 1, x6, v_found, v_lifted, v_number =>
    if a_5 ≤ x6 then
      f_X12_move_L152 a_3 a_4 a_5 gFuel 0 v_found v_lifted v_number
    else
      nm (40 * a_1 : Int32) fun t_37 =>
      nm (t_37 + a_2 : Int32) fun t_38 =>
      nm (t_38 + x6 : Int32) fun t_39 =>
      chi t_39 160 <|
      nm (v_number t_39.toNatClampNeg : Int32) fun t_41 =>
      chi x6 40 <|
      nm (upd v_lifted x6.toNatClampNeg t_41) fun w_43 =>
      nm (x6 + 1 : Int32) fun t_44 =>
      f_X12_move_L115 a_1 a_2 a_3 a_4 a_5 n t_44 v_found w_43 v_number

def f_X12_move (a_1 : Int32) (a_2 : Int32) (a_3 : Int32) (a_4 : Int32) (a_5 : Int32) (v_bitsOf : Nat → Int32) (v_found : Nat → Int32) (v_lifted : Nat → Int32) (v_number : Nat → Int32) (v_sizeOf : Nat → Int32) : Option (Int32 × (Nat → Int32) × (Nat → Int32) × (Nat → Int32)) :=
  kb (f_X12_isSheet a_1) fun r_2 =>
  if r_2 = 0 then
    f_X12_move_L14 v_found v_lifted v_number
  else
    kb (f_X12_isSheet a_3) fun r_5 =>
    if r_5 = 0 then
      f_X12_move_L14 v_found v_lifted v_number
    else
      chi a_1 4 <|
      if (v_bitsOf a_1.toNatClampNeg) = 0 then
        f_X12_move_L38 v_found v_lifted v_number
      else
        chi a_3 4 <|
        if (v_bitsOf a_3.toNatClampNeg) = 0 then
          f_X12_move_L38 v_found v_lifted v_number
        else
          chi a_1 4 <|
          nm (v_bitsOf a_1.toNatClampNeg : Int32) fun t_12 =>
          chi a_3 4 <|
          if t_12 = (v_bitsOf a_3.toNatClampNeg) then
            if a_5 < 0 then
              f_X12_move_L106 v_found v_lifted v_number
            else
              if a_2 < 0 then
                f_X12_move_L106 v_found v_lifted v_number
              else
                if a_4 < 0 then
                  f_X12_move_L106 v_found v_lifted v_number
                else
                  chi a_1 4 <|
                  nm (v_sizeOf a_1.toNatClampNeg : Int32) fun t_19 =>
                  if (t_19 - a_2) < a_5 then
                    f_X12_move_L106 v_found v_lifted v_number
                  else
                    chi a_3 4 <|
                    nm (v_sizeOf a_3.toNatClampNeg : Int32) fun t_22 =>
                    if a_5 ≤ (t_22 - a_4) then
                      f_X12_move_L115 a_1 a_2 a_3 a_4 a_5 gFuel 0 v_found v_lifted v_number
                    else
                      f_X12_move_L106 v_found v_lifted v_number
          else
            kb2 (f_X12_finds 5 v_found) fun r_25 w_26 =>
            some (r_25, w_26, v_lifted, v_number)

def f_X12_needs_L20 (v_found : Nat → Int32) : Option (Int32 × (Nat → Int32)) :=
  kb2 (f_X12_finds 1 v_found) fun r_8 w_9 =>
  some (r_8, w_9)

def f_X12_needs_L28 (a_1 : Int32) (a_2 : Int32) (v_d : Nat → Int32) : Nat → Int32 → (Nat → Int32) → Option (Int32 × (Nat → Int32))
  | 0, _, _ => none
  | n + 1, x3, v_found =>
    if 9 < x3 then
      kb2 (f_X12_finds 2 v_found) fun r_12 w_13 =>
      some (r_12, w_13)
    else
      nm (10 + a_1 : Int32) fun t_14 =>
      chi t_14 244 <|
      nm (v_d t_14.toNatClampNeg : Int32) fun t_16 =>
      kb (f_X12_goneWith t_16 x3 a_2) fun r_18 =>
      if r_18 < 0 then
        nm (x3 + 1 : Int32) fun t_20 =>
        f_X12_needs_L28 a_1 a_2 v_d n t_20 v_found
      else
        some (x3, v_found)

def f_X12_needs (a_1 : Int32) (a_2 : Int32) (v_d : Nat → Int32) (v_found : Nat → Int32) : Option (Int32 × (Nat → Int32)) :=
  kb (f_X12_isCell a_1 v_d) fun r_2 =>
  if r_2 = 0 then
    f_X12_needs_L20 v_found
  else
    kb (f_X12_in ((a_2 : Int32).toInt64) 0 30) fun r_5 =>
    if r_5 = 0 then
      f_X12_needs_L20 v_found
    else
      f_X12_needs_L28 a_1 a_2 v_d gFuel 0 v_found

def f_X12_never_L4 (v_d : Nat → Int32) : Nat → Int32 → Int32 → Option (Int32)
  | 0, _, _ => none
  | n + 1, x1, x2 =>
    kb (f_X12_cells v_d) fun r_2 =>
    if r_2 ≤ x2 then
      some x1
    else
      nm (10 + x2 : Int32) fun t_4 =>
      chi t_4 244 <|
      nm (v_d t_4.toNatClampNeg : Int32) fun t_6 =>
      nm (35 + x2 : Int32) fun t_7 =>
      chi t_7 244 <|
      nm (v_d t_7.toNatClampNeg : Int32) fun t_9 =>
      kb (f_X12_goneWith t_6 t_9 30) fun r_11 =>
      if 0 ≤ r_11 then
        nm (x1 + 0 : Int32) fun t_13 =>
        nm (x2 + 1 : Int32) fun t_14 =>
        f_X12_never_L4 v_d n t_13 t_14
      else
        nm (x1 + 1 : Int32) fun t_15 =>
        nm (x2 + 1 : Int32) fun t_16 =>
        f_X12_never_L4 v_d n t_15 t_16

def f_X12_never (v_d : Nat → Int32) : Option (Int32) :=
  f_X12_never_L4 v_d gFuel 0 0

def f_X12_nights_L40 (a_1 : Int32) : Nat → Int32 → (Nat → Int32) → (Nat → Int32) → Option (Int32 × (Nat → Int32) × (Nat → Int32))
  | 0, _, _, _ => none
  | n + 1, x2, v_d, v_found =>
    if a_1 ≤ x2 then
      kb (f_X12_allAir v_d) fun r_16 =>
      some (r_16, v_d, v_found)
    else
      kb (f_X12_nightGoes v_d) fun w_18 =>
      nm (x2 + 1 : Int32) fun t_19 =>
      f_X12_nights_L40 a_1 n t_19 w_18 v_found

def f_X12_nights (a_1 : Int32) (v_d : Nat → Int32) (v_found : Nat → Int32) : Option (Int32 × (Nat → Int32) × (Nat → Int32)) :=
  kb (f_X12_in ((a_1 : Int32).toInt64) 1 30) fun r_2 =>
  if r_2 = 0 then
    kb2 (f_X12_finds 1 v_found) fun r_12 w_13 =>
    some (r_12, v_d, w_13)
  else
    chi 5 244 <|
    nm (v_d (5 : Int32).toNatClampNeg : Int32) fun t_5 =>
    nm (t_5 + a_1 : Int32) fun t_6 =>
    if t_6 ≤ 999 then
      f_X12_nights_L40 a_1 gFuel 0 v_d v_found
    else
      kb2 (f_X12_finds 3 v_found) fun r_9 w_10 =>
      some (r_9, v_d, w_10)

def f_X12_odds_L39 (v_base : Int32) (v_at : Int32) (v_size : Int32) (v_fault : Int32) (v_opened : Int32) (v_isSeen : Int32) (v_aside : Nat → Int32) (v_d : Nat → Int32) (v_found : Nat → Int32) (v_movedKept : Nat → Int32) (v_names : Nat → Int32) (v_seenKept : Nat → Int32) : Option (Int32 × Int32 × Int32 × Int32 × Int32 × Int32 × Int32 × (Nat → Int32) × (Nat → Int32) × (Nat → Int32) × (Nat → Int32) × (Nat → Int32) × (Nat → Int32)) :=
  kb2 (f_X12_finds 1 v_found) fun r_14 w_15 =>
  some (r_14, v_base, v_at, v_size, v_fault, v_opened, v_isSeen, v_aside, v_d, w_15, v_movedKept, v_names, v_seenKept)

def f_X12_odds_L121 (a_4 : Int32) (x5 : Int32) (y0 : Int32) (v_base : Int32) (v_at : Int32) (v_size : Int32) (v_fault : Int32) (v_opened : Int32) (v_isSeen : Int32) (v_aside : Nat → Int32) (v_d : Nat → Int32) (v_found : Nat → Int32) (v_movedKept : Nat → Int32) (v_names : Nat → Int32) (v_seenKept : Nat → Int32) : Option (Int32 × Int32 × Int32 × Int32 × Int32 × Int32 × Int32 × (Nat → Int32) × (Nat → Int32) × (Nat → Int32) × (Nat → Int32) × (Nat → Int32) × (Nat → Int32)) :=
  if a_4 = 0 then
    chz y0 <|
    some (x5 / y0, v_base, v_at, v_size, v_fault, v_opened, v_isSeen, v_aside, v_d, v_found, v_movedKept, v_names, v_seenKept)
  else
    chz y0 <|
    some (4 / y0, v_base, v_at, v_size, v_fault, v_opened, v_isSeen, v_aside, v_d, v_found, v_movedKept, v_names, v_seenKept)

def f_X12_odds_L85 (kk_L51 : Int32 → Int32 → Int32 → Int32 → Int32 → Int32 → Int32 → Int32 → (Nat → Int32) → (Nat → Int32) → (Nat → Int32) → (Nat → Int32) → (Nat → Int32) → (Nat → Int32) → Option (Int32 × Int32 × Int32 × Int32 × Int32 × Int32 × Int32 × (Nat → Int32) × (Nat → Int32) × (Nat → Int32) × (Nat → Int32) × (Nat → Int32) × (Nat → Int32))) (a_1 : Int32) (a_2 : Int32) (a_3 : Int32) (a_4 : Int32) (v_isKeeping : Int32) (x6 : Int32) (y0 : Int32) (y1 : Int32) (v_base : Int32) (v_at : Int32) (v_size : Int32) (v_fault : Int32) (v_opened : Int32) (v_isSeen : Int32) (v_aside : Nat → Int32) (v_d : Nat → Int32) (v_found : Nat → Int32) (v_movedKept : Nat → Int32) (v_names : Nat → Int32) (v_seenKept : Nat → Int32) : Option (Int32 × Int32 × Int32 × Int32 × Int32 × Int32 × Int32 × (Nat → Int32) × (Nat → Int32) × (Nat → Int32) × (Nat → Int32) × (Nat → Int32) × (Nat → Int32)) :=
  nm (y0 + y1 : Int32) fun t_46 =>
  kb (f_X12_putBack 0 v_aside v_d) fun w_48 =>
  nm (x6 + 1 : Int32) fun t_49 =>
  kk_L51 t_46 t_49 v_base v_at v_size v_fault v_opened v_isSeen v_aside w_48 v_found v_movedKept v_names v_seenKept

def f_X12_odds_L51 (a_1 : Int32) (a_2 : Int32) (a_3 : Int32) (a_4 : Int32) (v_isKeeping : Int32) : Nat → Int32 → Int32 → Int32 → Int32 → Int32 → Int32 → Int32 → Int32 → (Nat → Int32) → (Nat → Int32) → (Nat → Int32) → (Nat → Int32) → (Nat → Int32) → (Nat → Int32) → Option (Int32 × Int32 × Int32 × Int32 × Int32 × Int32 × Int32 × (Nat → Int32) × (Nat → Int32) × (Nat → Int32) × (Nat → Int32) × (Nat → Int32) × (Nat → Int32))
  | 0, _, _, _, _, _, _, _, _, _, _, _, _, _, _ => none
  | n + 1, x5, x6, v_base, v_at, v_size, v_fault, v_opened, v_isSeen, v_aside, v_d, v_found, v_movedKept, v_names, v_seenKept =>
    if 4 ≤ x6 then
      chz 4 <|
      if (x5 - x5 / 4 * 4) = 0 then
        f_X12_odds_L121 a_4 x5 4 v_base v_at v_size v_fault v_opened v_isSeen v_aside v_d v_found v_movedKept v_names v_seenKept
      else
        if x5 = 2 then
          f_X12_odds_L121 a_4 x5 2 v_base v_at v_size v_fault v_opened v_isSeen v_aside v_d v_found v_movedKept v_names v_seenKept
        else
          f_X12_odds_L121 a_4 x5 1 v_base v_at v_size v_fault v_opened v_isSeen v_aside v_d v_found v_movedKept v_names v_seenKept
    else
      kb (f_X12_keepAside 0 v_aside v_d) fun w_21 =>
      kb9 (f_X12_strokes a_1 a_2 x6 v_base v_at v_size v_fault v_opened v_isSeen v_isKeeping v_d v_movedKept v_names) fun w_23 w_24 w_25 w_26 w_27 w_28 w_29 w_30 w_31 =>
      kb9 (f_X12_seen w_23 w_24 w_25 w_26 w_27 w_28 v_isKeeping w_29 w_31 v_seenKept) fun r_33 w_34 w_35 w_36 w_37 w_38 w_39 w_40 w_41 =>
      if a_3 < r_33 then
        f_X12_odds_L85 (f_X12_odds_L51 a_1 a_2 a_3 a_4 v_isKeeping n) a_1 a_2 a_3 a_4 v_isKeeping x6 x5 0 w_34 w_35 w_36 w_37 w_38 w_39 w_21 w_29 v_found w_30 w_40 w_41
      else
        f_X12_odds_L85 (f_X12_odds_L51 a_1 a_2 a_3 a_4 v_isKeeping n) a_1 a_2 a_3 a_4 v_isKeeping x6 x5 1 w_34 w_35 w_36 w_37 w_38 w_39 w_21 w_29 v_found w_30 w_40 w_41

def f_X12_odds (a_1 : Int32) (a_2 : Int32) (a_3 : Int32) (a_4 : Int32) (v_base : Int32) (v_at : Int32) (v_size : Int32) (v_fault : Int32) (v_opened : Int32) (v_isSeen : Int32) (v_isKeeping : Int32) (v_aside : Nat → Int32) (v_d : Nat → Int32) (v_found : Nat → Int32) (v_movedKept : Nat → Int32) (v_names : Nat → Int32) (v_seenKept : Nat → Int32) : Option (Int32 × Int32 × Int32 × Int32 × Int32 × Int32 × Int32 × (Nat → Int32) × (Nat → Int32) × (Nat → Int32) × (Nat → Int32) × (Nat → Int32) × (Nat → Int32)) :=
  kb (f_X12_isTool a_1 v_d) fun r_2 =>
  if r_2 = 0 then
    f_X12_odds_L39 v_base v_at v_size v_fault v_opened v_isSeen v_aside v_d v_found v_movedKept v_names v_seenKept
  else
    kb (f_X12_isCell a_2 v_d) fun r_5 =>
    if r_5 = 0 then
      f_X12_odds_L39 v_base v_at v_size v_fault v_opened v_isSeen v_aside v_d v_found v_movedKept v_names v_seenKept
    else
      kb (f_X12_in ((a_3 : Int32).toInt64) 0 9999) fun r_8 =>
      if r_8 = 0 then
        f_X12_odds_L39 v_base v_at v_size v_fault v_opened v_isSeen v_aside v_d v_found v_movedKept v_names v_seenKept
      else
        kb (f_X12_in ((a_4 : Int32).toInt64) 0 1) fun r_11 =>
        if r_11 = 0 then
          f_X12_odds_L39 v_base v_at v_size v_fault v_opened v_isSeen v_aside v_d v_found v_movedKept v_names v_seenKept
        else
          f_X12_odds_L51 a_1 a_2 a_3 a_4 v_isKeeping gFuel 0 0 v_base v_at v_size v_fault v_opened v_isSeen v_aside v_d v_found v_movedKept v_names v_seenKept

def f_X12_ofCell_L20 (v_base : Int32) (v_at : Int32) (v_size : Int32) (v_fault : Int32) (v_opened : Int32) (v_isSeen : Int32) (v_found : Nat → Int32) (v_names : Nat → Int32) (v_seenKept : Nat → Int32) : Option (Int32 × Int32 × Int32 × Int32 × Int32 × Int32 × Int32 × (Nat → Int32) × (Nat → Int32) × (Nat → Int32)) :=
  kb2 (f_X12_finds 1 v_found) fun r_32 w_33 =>
  some (r_32, v_base, v_at, v_size, v_fault, v_opened, v_isSeen, w_33, v_names, v_seenKept)

def f_X12_ofCell (a_1 : Int32) (a_2 : Int32) (v_base : Int32) (v_at : Int32) (v_size : Int32) (v_fault : Int32) (v_opened : Int32) (v_isSeen : Int32) (v_isKeeping : Int32) (v_d : Nat → Int32) (v_found : Nat → Int32) (v_names : Nat → Int32) (v_seenKept : Nat → Int32) : Option (Int32 × Int32 × Int32 × Int32 × Int32 × Int32 × Int32 × (Nat → Int32) × (Nat → Int32) × (Nat → Int32)) :=
  kb (f_X12_isCell a_1 v_d) fun r_2 =>
  if r_2 = 0 then
    f_X12_ofCell_L20 v_base v_at v_size v_fault v_opened v_isSeen v_found v_names v_seenKept
  else
    kb (f_X12_in ((a_2 : Int32).toInt64) 0 3) fun r_5 =>
    if r_5 = 0 then
      f_X12_ofCell_L20 v_base v_at v_size v_fault v_opened v_isSeen v_found v_names v_seenKept
    else
      if a_2 = 0 then
        nm (10 + a_1 : Int32) fun t_8 =>
        chi t_8 244 <|
        some (v_d t_8.toNatClampNeg, v_base, v_at, v_size, v_fault, v_opened, v_isSeen, v_found, v_names, v_seenKept)
      else
        if a_2 = 1 then
          nm (35 + a_1 : Int32) fun t_11 =>
          chi t_11 244 <|
          some (v_d t_11.toNatClampNeg, v_base, v_at, v_size, v_fault, v_opened, v_isSeen, v_found, v_names, v_seenKept)
        else
          if a_2 = 2 then
            kb9 (f_X12_seenOf a_1 v_base v_at v_size v_fault v_opened v_isSeen v_isKeeping v_d v_names v_seenKept) fun r_15 w_16 w_17 w_18 w_19 w_20 w_21 w_22 w_23 =>
            some (r_15, w_16, w_17, w_18, w_19, w_20, w_21, v_found, w_22, w_23)
          else
            nm (10 + a_1 : Int32) fun t_24 =>
            chi t_24 244 <|
            if (v_d t_24.toNatClampNeg) = 0 then
              some (0, v_base, v_at, v_size, v_fault, v_opened, v_isSeen, v_found, v_names, v_seenKept)
            else
              kb (f_X12_bubbleOf a_1 v_d) fun r_28 =>
              kb (f_X12_sizeOf0 r_28 v_d) fun r_30 =>
              some (r_30, v_base, v_at, v_size, v_fault, v_opened, v_isSeen, v_found, v_names, v_seenKept)

def f_X12_ofTool_L20 (v_base : Int32) (v_at : Int32) (v_size : Int32) (v_fault : Int32) (v_opened : Int32) (v_isSeen : Int32) (v_found : Nat → Int32) (v_movedKept : Nat → Int32) (v_names : Nat → Int32) : Option (Int32 × Int32 × Int32 × Int32 × Int32 × Int32 × Int32 × (Nat → Int32) × (Nat → Int32) × (Nat → Int32)) :=
  kb2 (f_X12_finds 1 v_found) fun r_32 w_33 =>
  some (r_32, v_base, v_at, v_size, v_fault, v_opened, v_isSeen, w_33, v_movedKept, v_names)

def f_X12_ofTool_L108 (v_d : Nat → Int32) (y1 : Int32) (y2 : Int32) (v_base : Int32) (v_at : Int32) (v_size : Int32) (v_fault : Int32) (v_opened : Int32) (v_isSeen : Int32) (v_found : Nat → Int32) (v_movedKept : Nat → Int32) (v_names : Nat → Int32) : Option (Int32 × Int32 × Int32 × Int32 × Int32 × Int32 × Int32 × (Nat → Int32) × (Nat → Int32) × (Nat → Int32)) :=
  kb (f_X12_tearsOf y1 y2 v_d) fun r_35 =>
  some (r_35, v_base, v_at, v_size, v_fault, v_opened, v_isSeen, v_found, v_movedKept, v_names)

def f_X12_ofTool (a_1 : Int32) (a_2 : Int32) (v_base : Int32) (v_at : Int32) (v_size : Int32) (v_fault : Int32) (v_opened : Int32) (v_isSeen : Int32) (v_isKeeping : Int32) (v_d : Nat → Int32) (v_found : Nat → Int32) (v_movedKept : Nat → Int32) (v_names : Nat → Int32) : Option (Int32 × Int32 × Int32 × Int32 × Int32 × Int32 × Int32 × (Nat → Int32) × (Nat → Int32) × (Nat → Int32)) :=
  kb (f_X12_isTool a_1 v_d) fun r_2 =>
  if r_2 = 0 then
    f_X12_ofTool_L20 v_base v_at v_size v_fault v_opened v_isSeen v_found v_movedKept v_names
  else
    kb (f_X12_in ((a_2 : Int32).toInt64) 0 6) fun r_5 =>
    if r_5 = 0 then
      f_X12_ofTool_L20 v_base v_at v_size v_fault v_opened v_isSeen v_found v_movedKept v_names
    else
      if a_2 = 0 then
        kb (f_X12_kindOf a_1 v_d) fun r_9 =>
        some (r_9, v_base, v_at, v_size, v_fault, v_opened, v_isSeen, v_found, v_movedKept, v_names)
      else
        if a_2 = 1 then
          kb (f_X12_numberOf a_1 v_d) fun r_12 =>
          some (r_12, v_base, v_at, v_size, v_fault, v_opened, v_isSeen, v_found, v_movedKept, v_names)
        else
          if a_2 = 2 then
            kb (f_X12_reachOf a_1 v_d) fun r_15 =>
            some (r_15, v_base, v_at, v_size, v_fault, v_opened, v_isSeen, v_found, v_movedKept, v_names)
          else
            if a_2 = 3 then
              kb9 (f_X12_movesOf a_1 20 5 v_base v_at v_size v_fault v_opened v_isSeen v_isKeeping v_d v_movedKept v_names) fun r_18 w_19 w_20 w_21 w_22 w_23 w_24 w_25 w_26 =>
              some (r_18, w_19, w_20, w_21, w_22, w_23, w_24, v_found, w_25, w_26)
            else
              if a_2 = 4 then
                kb (f_X12_letsOf a_1 20 v_d) fun r_29 =>
                some (r_29, v_base, v_at, v_size, v_fault, v_opened, v_isSeen, v_found, v_movedKept, v_names)
              else
                if a_2 = 5 then
                  f_X12_ofTool_L108 v_d a_1 0 v_base v_at v_size v_fault v_opened v_isSeen v_found v_movedKept v_names
                else
                  f_X12_ofTool_L108 v_d a_1 9 v_base v_at v_size v_fault v_opened v_isSeen v_found v_movedKept v_names

def f_X12_put (a_1 : Int32) (a_2 : Int32) (a_3 : Int32) (v_bitsOf : Nat → Int32) (v_found : Nat → Int32) (v_number : Nat → Int32) (v_sizeOf : Nat → Int32) : Option (Int32 × (Nat → Int32) × (Nat → Int32)) :=
  kb (f_X12_isSheet a_1) fun r_2 =>
  if r_2 = 0 then
    kb2 (f_X12_finds 1 v_found) fun r_34 w_35 =>
    some (r_34, w_35, v_number)
  else
    chi a_1 4 <|
    if (v_bitsOf a_1.toNatClampNeg) = 0 then
      kb2 (f_X12_finds 2 v_found) fun r_31 w_32 =>
      some (r_31, w_32, v_number)
    else
      chi a_1 4 <|
      nm (v_sizeOf a_1.toNatClampNeg : Int32) fun t_7 =>
      kb (f_X12_in ((a_2 : Int32).toInt64) 0 (((t_7 - 1) : Int32).toInt64)) fun r_9 =>
      if r_9 = 0 then
        kb2 (f_X12_finds 1 v_found) fun r_28 w_29 =>
        some (r_28, w_29, v_number)
      else
        nm (40 * a_1 : Int32) fun t_11 =>
        nm (t_11 + a_2 : Int32) fun t_12 =>
        chi a_1 4 <|
        nm (v_bitsOf a_1.toNatClampNeg : Int32) fun t_14 =>
        if t_14 = 8 then
          nm (a_3.toInt8.toInt32 : Int32) fun t_24 =>
          chi t_12 160 <|
          nm (upd v_number t_12.toNatClampNeg t_24) fun w_26 =>
          some (1, v_found, w_26)
        else
          chi a_1 4 <|
          nm (v_bitsOf a_1.toNatClampNeg : Int32) fun t_17 =>
          if t_17 = 16 then
            nm (a_3.toInt16.toInt32 : Int32) fun t_21 =>
            chi t_12 160 <|
            nm (upd v_number t_12.toNatClampNeg t_21) fun w_23 =>
            some (1, v_found, w_23)
          else
            chi t_12 160 <|
            nm (upd v_number t_12.toNatClampNeg a_3) fun w_20 =>
            some (1, v_found, w_20)

def f_X12_restore_L15 (v_kept : Nat → Int32) : Nat → Int32 → (Nat → Int32) → (Nat → Int32) → Option (Int32 × (Nat → Int32) × (Nat → Int32))
  | 0, _, _, _ => none
  | n + 1, x1, v_d, v_found =>
    if 244 ≤ x1 then
      chi 5 244 <|
      some (v_d (5 : Int32).toNatClampNeg, v_d, v_found)
    else
      chi x1 244 <|
      nm (v_kept x1.toNatClampNeg : Int32) fun t_8 =>
      chi x1 244 <|
      nm (upd v_d x1.toNatClampNeg t_8) fun w_10 =>
      nm (x1 + 1 : Int32) fun t_11 =>
      f_X12_restore_L15 v_kept n t_11 w_10 v_found

def f_X12_restore (v_images : Int32) (v_d : Nat → Int32) (v_found : Nat → Int32) (v_kept : Nat → Int32) : Option (Int32 × (Nat → Int32) × (Nat → Int32)) :=
  if v_images = 0 then
    kb2 (f_X12_finds 2 v_found) fun r_3 w_4 =>
    some (r_3, v_d, w_4)
  else
    f_X12_restore_L15 v_kept gFuel 0 v_d v_found

def f_X12_seed (a_1 : Int32) (v_d : Nat → Int32) : Option (Int32 × (Nat → Int32)) :=
  chi 6 244 <|
  nm (v_d (6 : Int32).toNatClampNeg : Int32) fun t_2 =>
  chi 6 244 <|
  nm (upd v_d (6 : Int32).toNatClampNeg a_1) fun w_4 =>
  some (t_2, w_4)

def f_X12_set_L40 (v_d : Nat → Int32) (v_found : Nat → Int32) : Option (Int32 × (Nat → Int32) × (Nat → Int32)) :=
  kb2 (f_X12_finds 1 v_found) fun r_9 w_10 =>
  some (r_9, v_d, w_10)

def f_X12_set_L57 (a_1 : Int32) (a_3 : Int32) (y0 : Int32) (v_d : Nat → Int32) (v_found : Nat → Int32) : Option (Int32 × (Nat → Int32) × (Nat → Int32)) :=
  nm (y0 + a_1 : Int32) fun t_15 =>
  chi t_15 244 <|
  nm (v_d t_15.toNatClampNeg : Int32) fun t_17 =>
  chi t_15 244 <|
  nm (upd v_d t_15.toNatClampNeg a_3) fun w_19 =>
  some (t_17, w_19, v_found)

def f_X12_set_L34 (a_1 : Int32) (a_2 : Int32) (a_3 : Int32) (y0 : Int64) (y1 : Int64) (y2 : Int64) (v_d : Nat → Int32) (v_found : Nat → Int32) : Option (Int32 × (Nat → Int32) × (Nat → Int32)) :=
  kb (f_X12_in y0 y1 y2) fun r_12 =>
  if r_12 = 0 then
    f_X12_set_L40 v_d v_found
  else
    if a_2 = 0 then
      f_X12_set_L57 a_1 a_3 10 v_d v_found
    else
      f_X12_set_L57 a_1 a_3 35 v_d v_found

def f_X12_set (a_1 : Int32) (a_2 : Int32) (a_3 : Int32) (v_d : Nat → Int32) (v_found : Nat → Int32) : Option (Int32 × (Nat → Int32) × (Nat → Int32)) :=
  kb (f_X12_isCell a_1 v_d) fun r_2 =>
  if r_2 = 0 then
    f_X12_set_L40 v_d v_found
  else
    kb (f_X12_in ((a_2 : Int32).toInt64) 0 1) fun r_5 =>
    if r_5 = 0 then
      f_X12_set_L40 v_d v_found
    else
      if a_2 = 0 then
        f_X12_set_L34 a_1 a_2 a_3 ((a_3 : Int32).toInt64) 0 99 v_d v_found
      else
        f_X12_set_L34 a_1 a_2 a_3 ((a_3 : Int32).toInt64) 0 9 v_d v_found

def f_X12_sheet_L29 (v_bitsOf : Nat → Int32) (v_found : Nat → Int32) (v_number : Nat → Int32) (v_sizeOf : Nat → Int32) : Option (Int32 × (Nat → Int32) × (Nat → Int32) × (Nat → Int32) × (Nat → Int32)) :=
  kb2 (f_X12_finds 1 v_found) fun r_9 w_10 =>
  some (r_9, v_bitsOf, w_10, v_number, v_sizeOf)

def f_X12_sheet_L90 (a_1 : Int32) : Nat → Int32 → (Nat → Int32) → (Nat → Int32) → (Nat → Int32) → (Nat → Int32) → Option (Int32 × (Nat → Int32) × (Nat → Int32) × (Nat → Int32) × (Nat → Int32))
  | 0, _, _, _, _, _ => none
  | n + 1, x4, v_bitsOf, v_found, v_number, v_sizeOf =>
    if 40 ≤ x4 then
      some (1, v_bitsOf, v_found, v_number, v_sizeOf)
    else
      nm (40 * a_1 : Int32) fun t_29 =>
      nm (t_29 + x4 : Int32) fun t_30 =>
      chi t_30 160 <|
      nm (upd v_number t_30.toNatClampNeg 0) fun w_32 =>
      nm (x4 + 1 : Int32) fun t_33 =>
      f_X12_sheet_L90 a_1 n t_33 v_bitsOf v_found w_32 v_sizeOf

def f_X12_sheet_L65 (a_1 : Int32) (a_2 : Int32) (a_3 : Int32) (v_bitsOf : Nat → Int32) (v_found : Nat → Int32) (v_number : Nat → Int32) (v_sizeOf : Nat → Int32) : Option (Int32 × (Nat → Int32) × (Nat → Int32) × (Nat → Int32) × (Nat → Int32)) :=
  chi a_1 4 <|
  nm (upd v_bitsOf a_1.toNatClampNeg a_2) fun w_22 =>
  if a_2 = 0 then
    chi a_1 4 <|
    nm (upd v_sizeOf a_1.toNatClampNeg 0) fun w_27 =>
    f_X12_sheet_L90 a_1 gFuel 0 w_22 v_found v_number w_27
  else
    chi a_1 4 <|
    nm (upd v_sizeOf a_1.toNatClampNeg a_3) fun w_25 =>
    f_X12_sheet_L90 a_1 gFuel 0 w_22 v_found v_number w_25

def f_X12_sheet_L49 (a_1 : Int32) (a_2 : Int32) (a_3 : Int32) (v_bitsOf : Nat → Int32) (v_found : Nat → Int32) (v_number : Nat → Int32) (v_sizeOf : Nat → Int32) : Option (Int32 × (Nat → Int32) × (Nat → Int32) × (Nat → Int32) × (Nat → Int32)) :=
  if a_2 = 0 then
    f_X12_sheet_L65 a_1 a_2 a_3 v_bitsOf v_found v_number v_sizeOf
  else
    if a_3 ≤ 40 then
      f_X12_sheet_L65 a_1 a_2 a_3 v_bitsOf v_found v_number v_sizeOf
    else
      kb2 (f_X12_finds 1 v_found) fun r_19 w_20 =>
      some (r_19, v_bitsOf, w_20, v_number, v_sizeOf)

def f_X12_sheet_L35 (a_1 : Int32) (a_2 : Int32) (a_3 : Int32) (v_bitsOf : Nat → Int32) (v_found : Nat → Int32) (v_number : Nat → Int32) (v_sizeOf : Nat → Int32) : Option (Int32 × (Nat → Int32) × (Nat → Int32) × (Nat → Int32) × (Nat → Int32)) :=
  if a_2 = 0 then
    f_X12_sheet_L49 a_1 a_2 a_3 v_bitsOf v_found v_number v_sizeOf
  else
    if 0 ≤ a_3 then
      f_X12_sheet_L49 a_1 a_2 a_3 v_bitsOf v_found v_number v_sizeOf
    else
      kb2 (f_X12_finds 3 v_found) fun r_14 w_15 =>
      some (r_14, v_bitsOf, w_15, v_number, v_sizeOf)

def f_X12_sheet (a_1 : Int32) (a_2 : Int32) (a_3 : Int32) (v_bitsOf : Nat → Int32) (v_found : Nat → Int32) (v_number : Nat → Int32) (v_sizeOf : Nat → Int32) : Option (Int32 × (Nat → Int32) × (Nat → Int32) × (Nat → Int32) × (Nat → Int32)) :=
  kb (f_X12_isSheet a_1) fun r_2 =>
  if r_2 = 0 then
    f_X12_sheet_L29 v_bitsOf v_found v_number v_sizeOf
  else
    if a_2 = 0 then
      f_X12_sheet_L35 a_1 a_2 a_3 v_bitsOf v_found v_number v_sizeOf
    else
      if a_2 = 8 then
        f_X12_sheet_L35 a_1 a_2 a_3 v_bitsOf v_found v_number v_sizeOf
      else
        if a_2 = 16 then
          f_X12_sheet_L35 a_1 a_2 a_3 v_bitsOf v_found v_number v_sizeOf
        else
          if a_2 = 32 then
            f_X12_sheet_L35 a_1 a_2 a_3 v_bitsOf v_found v_number v_sizeOf
          else
            f_X12_sheet_L29 v_bitsOf v_found v_number v_sizeOf

def f_X12_shown (v_base : Int32) (v_at : Int32) (v_size : Int32) (v_fault : Int32) (v_opened : Int32) (v_isSeen : Int32) (v_isKeeping : Int32) (v_d : Nat → Int32) (v_names : Nat → Int32) (v_seenKept : Nat → Int32) : Option (Int32 × Int32 × Int32 × Int32 × Int32 × Int32 × Int32 × (Nat → Int32) × (Nat → Int32)) :=
  kb9 (f_X12_seen v_base v_at v_size v_fault v_opened v_isSeen v_isKeeping v_d v_names v_seenKept) fun r_2 w_3 w_4 w_5 w_6 w_7 w_8 w_9 w_10 =>
  some (r_2, w_3, w_4, w_5, w_6, w_7, w_8, w_9, w_10)

def f_X12_stroke_L23 (v_base : Int32) (v_at : Int32) (v_size : Int32) (v_fault : Int32) (v_opened : Int32) (v_isSeen : Int32) (v_d : Nat → Int32) (v_found : Nat → Int32) (v_movedKept : Nat → Int32) (v_names : Nat → Int32) : Option (Int32 × Int32 × Int32 × Int32 × Int32 × Int32 × Int32 × (Nat → Int32) × (Nat → Int32) × (Nat → Int32) × (Nat → Int32)) :=
  kb2 (f_X12_finds 1 v_found) fun r_23 w_24 =>
  some (r_23, v_base, v_at, v_size, v_fault, v_opened, v_isSeen, v_d, w_24, v_movedKept, v_names)

def f_X12_stroke (a_1 : Int32) (a_2 : Int32) (a_3 : Int32) (v_base : Int32) (v_at : Int32) (v_size : Int32) (v_fault : Int32) (v_opened : Int32) (v_isSeen : Int32) (v_isKeeping : Int32) (v_d : Nat → Int32) (v_found : Nat → Int32) (v_movedKept : Nat → Int32) (v_names : Nat → Int32) : Option (Int32 × Int32 × Int32 × Int32 × Int32 × Int32 × Int32 × (Nat → Int32) × (Nat → Int32) × (Nat → Int32) × (Nat → Int32)) :=
  kb (f_X12_isTool a_1 v_d) fun r_2 =>
  if r_2 = 0 then
    f_X12_stroke_L23 v_base v_at v_size v_fault v_opened v_isSeen v_d v_found v_movedKept v_names
  else
    kb (f_X12_isCell a_2 v_d) fun r_5 =>
    if r_5 = 0 then
      f_X12_stroke_L23 v_base v_at v_size v_fault v_opened v_isSeen v_d v_found v_movedKept v_names
    else
      kb (f_X12_isWay a_3) fun r_8 =>
      if r_8 = 0 then
        f_X12_stroke_L23 v_base v_at v_size v_fault v_opened v_isSeen v_d v_found v_movedKept v_names
      else
        kb9 (f_X12_strokes a_1 a_2 a_3 v_base v_at v_size v_fault v_opened v_isSeen v_isKeeping v_d v_movedKept v_names) fun w_11 w_12 w_13 w_14 w_15 w_16 w_17 w_18 w_19 =>
        nm (10 + a_2 : Int32) fun t_20 =>
        chi t_20 244 <|
        some (w_17 t_20.toNatClampNeg, w_11, w_12, w_13, w_14, w_15, w_16, w_17, v_found, w_18, w_19)

def f_X12_tell (a_1 : Int32) (v_d : Nat → Int32) (v_found : Nat → Int32) : Option (Int32 × (Nat → Int32) × (Nat → Int32)) :=
  chi 8 244 <|
  nm (v_d (8 : Int32).toNatClampNeg : Int32) fun t_2 =>
  if t_2 = 20 then
    kb2 (f_X12_finds 4 v_found) fun r_15 w_16 =>
    some (r_15, v_d, w_16)
  else
    chi 8 244 <|
    nm (74 + (v_d (8 : Int32).toNatClampNeg) : Int32) fun t_5 =>
    chi t_5 244 <|
    nm (upd v_d t_5.toNatClampNeg a_1) fun w_7 =>
    chi 8 244 <|
    nm (w_7 (8 : Int32).toNatClampNeg : Int32) fun t_9 =>
    nm (t_9 + 1 : Int32) fun t_10 =>
    chi 8 244 <|
    nm (upd w_7 (8 : Int32).toNatClampNeg t_10) fun w_12 =>
    chi 8 244 <|
    some (w_12 (8 : Int32).toNatClampNeg, w_12, v_found)

def f_X12_tellsBy (uu : Int32 → Int32 → Int32 → Int32 → (Nat → Int32) → (Nat → Int32) → Option (Int32 × Int32 × (Nat → Int32))) (a_1 : Int32) (a_2 : Int32) (v_traceMany : Int32) (v_who : Int32) (v_d : Nat → Int32) (v_traced : Nat → Int32) : Option (Int32 × Int32 × (Nat → Int32)) :=
  if a_1 = 0 then
    kb2 (f_X12_ran 13 v_traceMany v_traced) fun w_3 w_4 =>
    kb (f_X12_own v_who v_d) fun r_6 =>
    kb3 (f_X12_letsByN 4 r_6 a_2 w_3 v_who v_d w_4) fun r_8 w_9 w_10 =>
    kb (f_X12_own v_who v_d) fun r_12 =>
    kb3 (f_X12_tearsByN 4 r_12 a_2 w_9 v_who v_d w_10) fun r_14 w_15 w_16 =>
    some (r_8 ^^^ r_14, w_15, w_16)
  else
    if a_1 = 4 then
      kb2 (f_X12_ran 50 v_traceMany v_traced) fun w_19 w_20 =>
      kb (f_X12_above 4) fun r_22 =>
      kb3 (uu r_22 a_2 w_19 v_who v_d w_20) fun r_24 w_25 w_26 =>
      kb (f_X12_own v_who v_d) fun r_28 =>
      kb3 (f_X12_movesByN 4 r_28 2 w_25 v_who w_26) fun r_30 w_31 w_32 =>
      some (r_24 - r_30, w_31, w_32)
    else
      if a_1 = 6 then
        kb2 (f_X12_ran 71 v_traceMany v_traced) fun w_35 w_36 =>
        kb (f_X12_own v_who v_d) fun r_38 =>
        kb3 (f_X12_letsByN 4 r_38 a_2 w_35 v_who v_d w_36) fun r_40 w_41 w_42 =>
        kb (f_X12_above 6) fun r_44 =>
        kb3 (uu r_44 a_2 w_41 v_who v_d w_42) fun r_46 w_47 w_48 =>
        some (r_40 - r_46, w_47, w_48)
      else
        kb (f_X12_above a_1) fun r_50 =>
        kb3 (uu r_50 a_2 v_traceMany v_who v_d v_traced) fun r_52 w_53 w_54 =>
        some (r_52, w_53, w_54)

def f_X12_tellsByN : Nat → Int32 → Int32 → Int32 → Int32 → (Nat → Int32) → (Nat → Int32) → Option (Int32 × Int32 × (Nat → Int32))
  | 0, _, _, _, _, _, _ => none
  | n + 1, a_1, a_2, v_traceMany, v_who, v_d, v_traced => f_X12_tellsBy (f_X12_tellsByN n) a_1 a_2 v_traceMany v_who v_d v_traced
def f_X12_text_L70 (a_1 : Int32) : Nat → Int32 → Int32 → Int32 → Int32 → Int32 → Int32 → Int32 → Int32 → (Nat → Int32) → (Nat → Int32) → Option (Int32 × Int32 × Int32 × Int32 × Int32 × Int32 × Int32 × (Nat → Int32) × (Nat → Int32))
  | 0, _, _, _, _, _, _, _, _, _, _ => none
  | n + 1, x2, x4, v_base, v_at, v_size, v_fault, v_opened, v_isSeen, v_d, v_found =>
    if x2 ≤ x4 then
      some (1, v_base, v_at, v_size, v_fault, v_opened, v_isSeen, v_d, v_found)
    else
      nm (94 + (50 * a_1) : Int32) fun t_24 =>
      nm (t_24 + x4 : Int32) fun t_25 =>
      nm (194 + x4 : Int32) fun t_26 =>
      chi t_26 244 <|
      nm (v_d t_26.toNatClampNeg : Int32) fun t_28 =>
      chi t_25 244 <|
      nm (upd v_d t_25.toNatClampNeg t_28) fun w_30 =>
      nm (x4 + 1 : Int32) fun t_31 =>
      f_X12_text_L70 a_1 n x2 t_31 v_base v_at v_size v_fault v_opened v_isSeen w_30 v_found

def f_X12_text (a_1 : Int32) (v_base : Int32) (v_at : Int32) (v_size : Int32) (v_fault : Int32) (v_opened : Int32) (v_isSeen : Int32) (v_d : Nat → Int32) (v_found : Nat → Int32) (v_names : Nat → Int32) : Option (Int32 × Int32 × Int32 × Int32 × Int32 × Int32 × Int32 × (Nat → Int32) × (Nat → Int32)) :=
  kb (f_X12_in ((a_1 : Int32).toInt64) 0 1) fun r_2 =>
  if r_2 = 0 then
    kb2 (f_X12_finds 1 v_found) fun r_21 w_22 =>
    some (r_21, v_base, v_at, v_size, v_fault, v_opened, v_isSeen, v_d, w_22)
  else
    chi 7 244 <|
    nm (v_d (7 : Int32).toNatClampNeg : Int32) fun t_5 =>
    chi 7 244 <|
    nm (upd v_d (7 : Int32).toNatClampNeg 0) fun w_7 =>
    kb7 (f_X12_worked 194 t_5 a_1 v_base v_at v_size v_fault v_opened v_isSeen w_7 v_names) fun r_9 w_10 w_11 w_12 w_13 w_14 w_15 =>
    if w_13 < 0 then
      nm (72 + a_1 : Int32) fun t_17 =>
      chi t_17 244 <|
      nm (upd w_7 t_17.toNatClampNeg t_5) fun w_19 =>
      f_X12_text_L70 a_1 gFuel t_5 0 w_10 w_11 w_12 w_13 w_14 w_15 w_19 v_found
    else
      some ((-10) - w_13, w_10, w_11, w_12, w_13, w_14, w_15, w_7, v_found)
