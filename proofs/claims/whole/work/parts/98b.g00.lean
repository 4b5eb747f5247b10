set_option maxRecDepth 20000 in
theorem ggX0_isA_X8_isA : GoodIn wsX0_isA wsX8_isA := goodIn_m ge_X0_isA ge_X8_isA (by decide +kernel) (by decide +kernel)
set_option maxRecDepth 20000 in
theorem gX0_isA_X8_isA_s7 : GoodIn wsX0_isA (va_wsSU RX0 7 yX8_isA wsX8_isA) := goodIn_app (goodIn_m (cs := [8, 9, 10, 11, 2]) ge_X0_isA rfl (by decide +kernel) (by decide +kernel)) ggX0_isA_X8_isA
set_option maxRecDepth 20000 in
theorem ggX0_sayMoves_X9_begin : GoodIn wsX0_sayMoves wsX9_begin := goodIn_m ge_X0_sayMoves ge_X9_begin (by decide +kernel) (by decide +kernel)
set_option maxRecDepth 20000 in
theorem gX0_sayMoves_X9_begin : GoodIn wsX0_sayMoves (wsV RX0 11 RX9 yX9_begin wsX9_begin) := goodIn_app (goodIn_m (cs := [14, 15, 16, 17]) ge_X0_sayMoves rfl (by decide +kernel) (by decide +kernel)) ggX0_sayMoves_X9_begin
set_option maxRecDepth 20000 in
theorem ggX0_sayMoves_X8_sayMoves : GoodIn wsX0_sayMoves wsX8_sayMoves := goodIn_m ge_X0_sayMoves ge_X8_sayMoves (by decide +kernel) (by decide +kernel)
set_option maxRecDepth 20000 in
theorem gX0_sayMoves_X8_sayMoves_s17 : GoodIn wsX0_sayMoves (va_wsSU RX0 17 yX8_sayMoves wsX8_sayMoves) := goodIn_app (goodIn_m (cs := [21, 22, 10, 23, 2]) ge_X0_sayMoves rfl (by decide +kernel) (by decide +kernel)) ggX0_sayMoves_X8_sayMoves
set_option maxRecDepth 20000 in
theorem ggX1_isA_X5_isA : GoodIn wsX1_isA wsX5_isA := goodIn_m ge_X1_isA ge_X5_isA (by decide +kernel) (by decide +kernel)
set_option maxRecDepth 20000 in
theorem gX1_isA_X5_isA_s7 : GoodIn wsX1_isA (va_wsSU RX1 7 yX5_isA wsX5_isA) := goodIn_app (goodIn_m (cs := [35, 36, 37, 38, 32]) ge_X1_isA rfl (by decide +kernel) (by decide +kernel)) ggX1_isA_X5_isA
set_option maxRecDepth 20000 in
theorem ggX1_moves_X5_moves : GoodIn wsX1_moves wsX5_moves := goodIn_m ge_X1_moves ge_X5_moves (by decide +kernel) (by decide +kernel)
set_option maxRecDepth 20000 in
theorem gX1_moves_X5_moves_s11 : GoodIn wsX1_moves (va_wsSU RX1 11 yX5_moves wsX5_moves) := goodIn_app (goodIn_m (cs := [47, 48, 37, 49, 32]) ge_X1_moves rfl (by decide +kernel) (by decide +kernel)) ggX1_moves_X5_moves
set_option maxRecDepth 20000 in
theorem ggX1_reach_X5_reach : GoodIn wsX1_reach wsX5_reach := goodIn_m ge_X1_reach ge_X5_reach (by decide +kernel) (by decide +kernel)
set_option maxRecDepth 20000 in
theorem gX1_reach_X5_reach_s21 : GoodIn wsX1_reach (va_wsSU RX1 21 yX5_reach wsX5_reach) := goodIn_app (goodIn_m (cs := [52, 53, 37, 54, 32]) ge_X1_reach rfl (by decide +kernel) (by decide +kernel)) ggX1_reach_X5_reach
set_option maxRecDepth 20000 in
theorem ggX1_sayTears_X9_begin : GoodIn wsX1_sayTears wsX9_begin := goodIn_m ge_X1_sayTears ge_X9_begin (by decide +kernel) (by decide +kernel)
set_option maxRecDepth 20000 in
theorem gX1_sayTears_X9_begin : GoodIn wsX1_sayTears (wsV RX1 25 RX9 yX9_begin wsX9_begin) := goodIn_app (goodIn_m (cs := [57, 15, 16, 17]) ge_X1_sayTears rfl (by decide +kernel) (by decide +kernel)) ggX1_sayTears_X9_begin
set_option maxRecDepth 20000 in
theorem ggX1_sayTears_X5_sayTears : GoodIn wsX1_sayTears wsX5_sayTears := goodIn_m ge_X1_sayTears ge_X5_sayTears (by decide +kernel) (by decide +kernel)
set_option maxRecDepth 20000 in
theorem gX1_sayTears_X5_sayTears_s31 : GoodIn wsX1_sayTears (va_wsSU RX1 31 yX5_sayTears wsX5_sayTears) := goodIn_app (goodIn_m (cs := [58, 59, 37, 60, 32]) ge_X1_sayTears rfl (by decide +kernel) (by decide +kernel)) ggX1_sayTears_X5_sayTears
set_option maxRecDepth 20000 in
theorem ggX1_sayTells_X9_begin : GoodIn wsX1_sayTells wsX9_begin := goodIn_m ge_X1_sayTells ge_X9_begin (by decide +kernel) (by decide +kernel)
set_option maxRecDepth 20000 in
theorem gX1_sayTells_X9_begin : GoodIn wsX1_sayTells (wsV RX1 25 RX9 yX9_begin wsX9_begin) := goodIn_app (goodIn_m (cs := [57, 15, 16, 17]) ge_X1_sayTells rfl (by decide +kernel) (by decide +kernel)) ggX1_sayTells_X9_begin
set_option maxRecDepth 20000 in
theorem ggX1_sayTells_X8_sayLets : GoodIn wsX1_sayTells wsX8_sayLets := goodIn_m ge_X1_sayTells ge_X8_sayLets (by decide +kernel) (by decide +kernel)
set_option maxRecDepth 20000 in
theorem gX1_sayTells_X8_sayLets_u39X1 : GoodIn wsX1_sayTells (va_wsU RX1 39 RX1 "PaperBubbles$Tool" ⟨"PaperBubbles$Hard", "sayLets", "(ILPaperBubbles$Voice;)I"⟩ yX8_sayLets wsX8_sayLets) := goodIn_app (goodIn_m (cs := [68, 69, 70, 71, 2]) ge_X1_sayTells rfl (by decide +kernel) (by decide +kernel)) ggX1_sayTells_X8_sayLets
set_option maxRecDepth 20000 in
theorem ggX2_isA_X4_isA : GoodIn wsX2_isA wsX4_isA := goodIn_m ge_X2_isA ge_X4_isA (by decide +kernel) (by decide +kernel)
set_option maxRecDepth 20000 in
theorem gX2_isA_X4_isA_s7 : GoodIn wsX2_isA (va_wsSU RX2 7 yX4_isA wsX4_isA) := goodIn_app (goodIn_m (cs := [88, 89, 90, 91, 85]) ge_X2_isA rfl (by decide +kernel) (by decide +kernel)) ggX2_isA_X4_isA
set_option maxRecDepth 20000 in
theorem ggX2_tears_X4_tears : GoodIn wsX2_tears wsX4_tears := goodIn_m ge_X2_tears ge_X4_tears (by decide +kernel) (by decide +kernel)
set_option maxRecDepth 20000 in
theorem gX2_tears_X4_tears_s11 : GoodIn wsX2_tears (va_wsSU RX2 11 yX4_tears wsX4_tears) := goodIn_app (goodIn_m (cs := [96, 97, 90, 98, 85]) ge_X2_tears rfl (by decide +kernel) (by decide +kernel)) ggX2_tears_X4_tears
set_option maxRecDepth 20000 in
theorem ggX2_sayLets_X9_begin : GoodIn wsX2_sayLets wsX9_begin := goodIn_m ge_X2_sayLets ge_X9_begin (by decide +kernel) (by decide +kernel)
set_option maxRecDepth 20000 in
theorem gX2_sayLets_X9_begin : GoodIn wsX2_sayLets (wsV RX2 15 RX9 yX9_begin wsX9_begin) := goodIn_app (goodIn_m (cs := [101, 15, 16, 17]) ge_X2_sayLets rfl (by decide +kernel) (by decide +kernel)) ggX2_sayLets_X9_begin
set_option maxRecDepth 20000 in
theorem ggX2_sayLets_X4_sayLets : GoodIn wsX2_sayLets wsX4_sayLets := goodIn_m ge_X2_sayLets ge_X4_sayLets (by decide +kernel) (by decide +kernel)
set_option maxRecDepth 20000 in
theorem gX2_sayLets_X4_sayLets_s21 : GoodIn wsX2_sayLets (va_wsSU RX2 21 yX4_sayLets wsX4_sayLets) := goodIn_app (goodIn_m (cs := [102, 103, 90, 104, 85]) ge_X2_sayLets rfl (by decide +kernel) (by decide +kernel)) ggX2_sayLets_X4_sayLets
set_option maxRecDepth 20000 in
theorem ggX3_gives_X3_placeOf : GoodIn wsX3_gives wsX3_placeOf := goodIn_m ge_X3_gives ge_X3_placeOf (by decide +kernel) (by decide +kernel)
set_option maxRecDepth 20000 in
theorem gX3_gives_X3_placeOf : GoodIn wsX3_gives (wsV RX3 51 RX3 yX3_placeOf wsX3_placeOf) := goodIn_app (goodIn_m (cs := [116, 117, 118, 119]) ge_X3_gives rfl (by decide +kernel) (by decide +kernel)) ggX3_gives_X3_placeOf
set_option maxRecDepth 20000 in
theorem ggX3_gives_X3_worksOut : GoodIn wsX3_gives wsX3_worksOut := goodIn_m ge_X3_gives ge_X3_worksOut (by decide +kernel) (by decide +kernel)
set_option maxRecDepth 20000 in
theorem gX3_gives_X3_worksOut : GoodIn wsX3_gives (wsV RX3 55 RX3 yX3_worksOut wsX3_worksOut) := goodIn_app (goodIn_m (cs := [125, 126, 127, 119]) ge_X3_gives rfl (by decide +kernel) (by decide +kernel)) ggX3_gives_X3_worksOut
set_option maxRecDepth 20000 in
theorem ggX3_placeOf_X11_within : GoodIn wsX3_placeOf wsX11_within := goodIn_m ge_X3_placeOf ge_X11_within (by decide +kernel) (by decide +kernel)
set_option maxRecDepth 20000 in
theorem gX3_placeOf_X11_within_n58 : GoodIn wsX3_placeOf (wsX11_within) := ggX3_placeOf_X11_within
set_option maxRecDepth 20000 in
theorem ggX3_worksOut_X3_named : GoodIn wsX3_worksOut wsX3_named := goodIn_m ge_X3_worksOut ge_X3_named (by decide +kernel) (by decide +kernel)
set_option maxRecDepth 20000 in
theorem gX3_worksOut_X3_named : GoodIn wsX3_worksOut (va_wsS RX3 62 yX3_named wsX3_named) := goodIn_app (goodIn_m (cs := [136, 137, 119]) ge_X3_worksOut rfl (by decide +kernel) (by decide +kernel)) ggX3_worksOut_X3_named
set_option maxRecDepth 20000 in
theorem ggX3_worksOut_X3_joined : GoodIn wsX3_worksOut wsX3_joined := goodIn_m ge_X3_worksOut ge_X3_joined (by decide +kernel) (by decide +kernel)
set_option maxRecDepth 20000 in
theorem gX3_worksOut_X3_joined : GoodIn wsX3_worksOut (va_wsS RX3 66 yX3_joined wsX3_joined) := goodIn_app (goodIn_m (cs := [139, 140, 119]) ge_X3_worksOut rfl (by decide +kernel) (by decide +kernel)) ggX3_worksOut_X3_joined
set_option maxRecDepth 20000 in
theorem ggX3_read_X3_begins : GoodIn wsX3_read wsX3_begins := goodIn_m ge_X3_read ge_X3_begins (by decide +kernel) (by decide +kernel)
set_option maxRecDepth 20000 in
theorem gX3_read_X3_begins : GoodIn wsX3_read (wsV RX3 94 RX3 yX3_begins wsX3_begins) := goodIn_app (goodIn_m (cs := [167, 168, 169, 119]) ge_X3_read rfl (by decide +kernel) (by decide +kernel)) ggX3_read_X3_begins
set_option maxRecDepth 20000 in
theorem ggX3_read_X3_follows : GoodIn wsX3_read wsX3_follows := goodIn_m ge_X3_read ge_X3_follows (by decide +kernel) (by decide +kernel)
set_option maxRecDepth 20000 in
theorem gX3_read_X3_follows : GoodIn wsX3_read (wsV RX3 98 RX3 yX3_follows wsX3_follows) := goodIn_app (goodIn_m (cs := [268, 269, 270, 119]) ge_X3_read rfl (by decide +kernel) (by decide +kernel)) ggX3_read_X3_follows
set_option maxRecDepth 20000 in
theorem ggX3_read_X3_closeNots : GoodIn wsX3_read wsX3_closeNots := goodIn_m ge_X3_read ge_X3_closeNots (by decide +kernel) (by decide +kernel)
set_option maxRecDepth 20000 in
theorem gX3_read_X3_closeNots : GoodIn wsX3_read (wsV RX3 101 RX3 yX3_closeNots wsX3_closeNots) := goodIn_app (goodIn_m (cs := [276, 277, 278, 119]) ge_X3_read rfl (by decide +kernel) (by decide +kernel)) ggX3_read_X3_closeNots
set_option maxRecDepth 20000 in
theorem ggX3_read_X3_closeFrom : GoodIn wsX3_read wsX3_closeFrom := goodIn_m ge_X3_read ge_X3_closeFrom (by decide +kernel) (by decide +kernel)
set_option maxRecDepth 20000 in
theorem gX3_read_X3_closeFrom : GoodIn wsX3_read (wsV RX3 104 RX3 yX3_closeFrom wsX3_closeFrom) := goodIn_app (goodIn_m (cs := [292, 293, 294, 119]) ge_X3_read rfl (by decide +kernel) (by decide +kernel)) ggX3_read_X3_closeFrom
set_option maxRecDepth 20000 in
theorem ggX3_begins_X3_hold : GoodIn wsX3_begins wsX3_hold := goodIn_m ge_X3_begins ge_X3_hold (by decide +kernel) (by decide +kernel)
set_option maxRecDepth 20000 in
theorem gX3_begins_X3_hold : GoodIn wsX3_begins (wsV RX3 108 RX3 yX3_hold wsX3_hold) := goodIn_app (goodIn_m (cs := [172, 173, 174, 119]) ge_X3_begins rfl (by decide +kernel) (by decide +kernel)) ggX3_begins_X3_hold
set_option maxRecDepth 20000 in
theorem ggX3_begins_J0_indexOf_0f7a4 : GoodIn wsX3_begins wsJ0_indexOf_0f7a4 := goodIn_m ge_X3_begins ge_J0_indexOf_0f7a4 (by decide +kernel) (by decide +kernel)
set_option maxRecDepth 20000 in
theorem gX3_begins_J0_indexOf_0f7a4 : GoodIn wsX3_begins (wsV RX3 111 RJ0 yJ0_indexOf_0f7a4 wsJ0_indexOf_0f7a4) := goodIn_app (goodIn_m (cs := [177, 178, 179, 180]) ge_X3_begins rfl (by decide +kernel) (by decide +kernel)) ggX3_begins_J0_indexOf_0f7a4
set_option maxRecDepth 20000 in
theorem ggX3_begins_X3_isDigit : GoodIn wsX3_begins wsX3_isDigit := goodIn_m ge_X3_begins ge_X3_isDigit (by decide +kernel) (by decide +kernel)
set_option maxRecDepth 20000 in
theorem gX3_begins_X3_isDigit : GoodIn wsX3_begins (va_wsS RX3 117 yX3_isDigit wsX3_isDigit) := goodIn_app (goodIn_m (cs := [261, 262, 119]) ge_X3_begins rfl (by decide +kernel) (by decide +kernel)) ggX3_begins_X3_isDigit
set_option maxRecDepth 20000 in
theorem ggX3_begins_X3_write : GoodIn wsX3_begins wsX3_write := goodIn_m ge_X3_begins ge_X3_write (by decide +kernel) (by decide +kernel)
set_option maxRecDepth 20000 in
theorem gX3_begins_X3_write : GoodIn wsX3_begins (wsV RX3 120 RX3 yX3_write wsX3_write) := goodIn_app (goodIn_m (cs := [264, 265, 266, 119]) ge_X3_begins rfl (by decide +kernel) (by decide +kernel)) ggX3_begins_X3_write
set_option maxRecDepth 20000 in
theorem ggX3_follows_X3_isDigit : GoodIn wsX3_follows wsX3_isDigit := goodIn_m ge_X3_follows ge_X3_isDigit (by decide +kernel) (by decide +kernel)
set_option maxRecDepth 20000 in
theorem gX3_follows_X3_isDigit : GoodIn wsX3_follows (va_wsS RX3 117 yX3_isDigit wsX3_isDigit) := goodIn_app (goodIn_m (cs := [261, 262, 119]) ge_X3_follows rfl (by decide +kernel) (by decide +kernel)) ggX3_follows_X3_isDigit
set_option maxRecDepth 20000 in
theorem ggX3_follows_X3_addDigit : GoodIn wsX3_follows wsX3_addDigit := goodIn_m ge_X3_follows ge_X3_addDigit (by decide +kernel) (by decide +kernel)
set_option maxRecDepth 20000 in
theorem gX3_follows_X3_addDigit : GoodIn wsX3_follows (wsV RX3 123 RX3 yX3_addDigit wsX3_addDigit) := goodIn_app (goodIn_m (cs := [272, 273, 274, 119]) ge_X3_follows rfl (by decide +kernel) (by decide +kernel)) ggX3_follows_X3_addDigit
set_option maxRecDepth 20000 in
theorem ggX3_follows_X3_closeNots : GoodIn wsX3_follows wsX3_closeNots := goodIn_m ge_X3_follows ge_X3_closeNots (by decide +kernel) (by decide +kernel)
set_option maxRecDepth 20000 in
theorem gX3_follows_X3_closeNots : GoodIn wsX3_follows (wsV RX3 101 RX3 yX3_closeNots wsX3_closeNots) := goodIn_app (goodIn_m (cs := [276, 277, 278, 119]) ge_X3_follows rfl (by decide +kernel) (by decide +kernel)) ggX3_follows_X3_closeNots
set_option maxRecDepth 20000 in
theorem ggX3_follows_X3_closeParenthesis : GoodIn wsX3_follows wsX3_closeParenthesis := goodIn_m ge_X3_follows ge_X3_closeParenthesis (by decide +kernel) (by decide +kernel)
set_option maxRecDepth 20000 in
theorem gX3_follows_X3_closeParenthesis : GoodIn wsX3_follows (wsV RX3 126 RX3 yX3_closeParenthesis wsX3_closeParenthesis) := goodIn_app (goodIn_m (cs := [288, 289, 290, 119]) ge_X3_follows rfl (by decide +kernel) (by decide +kernel)) ggX3_follows_X3_closeParenthesis
set_option maxRecDepth 20000 in
theorem ggX3_follows_X3_rankOf : GoodIn wsX3_follows wsX3_rankOf := goodIn_m ge_X3_follows ge_X3_rankOf (by decide +kernel) (by decide +kernel)
set_option maxRecDepth 20000 in
theorem gX3_follows_X3_rankOf : GoodIn wsX3_follows (va_wsS RX3 130 yX3_rankOf wsX3_rankOf) := goodIn_app (goodIn_m (cs := [296, 297, 119]) ge_X3_follows rfl (by decide +kernel) (by decide +kernel)) ggX3_follows_X3_rankOf
set_option maxRecDepth 20000 in
theorem ggX3_follows_X3_closeFrom : GoodIn wsX3_follows wsX3_closeFrom := goodIn_m ge_X3_follows ge_X3_closeFrom (by decide +kernel) (by decide +kernel)
set_option maxRecDepth 20000 in
theorem gX3_follows_X3_closeFrom : GoodIn wsX3_follows (wsV RX3 104 RX3 yX3_closeFrom wsX3_closeFrom) := goodIn_app (goodIn_m (cs := [292, 293, 294, 119]) ge_X3_follows rfl (by decide +kernel) (by decide +kernel)) ggX3_follows_X3_closeFrom
set_option maxRecDepth 20000 in
theorem ggX3_follows_X3_lastHeld : GoodIn wsX3_follows wsX3_lastHeld := goodIn_m ge_X3_follows ge_X3_lastHeld (by decide +kernel) (by decide +kernel)
set_option maxRecDepth 20000 in
theorem gX3_follows_X3_lastHeld : GoodIn wsX3_follows (wsV RX3 133 RX3 yX3_lastHeld wsX3_lastHeld) := goodIn_app (goodIn_m (cs := [280, 281, 282, 119]) ge_X3_follows rfl (by decide +kernel) (by decide +kernel)) ggX3_follows_X3_lastHeld
set_option maxRecDepth 20000 in
theorem ggX3_follows_X3_hold : GoodIn wsX3_follows wsX3_hold := goodIn_m ge_X3_follows ge_X3_hold (by decide +kernel) (by decide +kernel)
set_option maxRecDepth 20000 in
theorem gX3_follows_X3_hold : GoodIn wsX3_follows (wsV RX3 108 RX3 yX3_hold wsX3_hold) := goodIn_app (goodIn_m (cs := [172, 173, 174, 119]) ge_X3_follows rfl (by decide +kernel) (by decide +kernel)) ggX3_follows_X3_hold
set_option maxRecDepth 20000 in
theorem ggX3_addDigit_X11_within : GoodIn wsX3_addDigit wsX11_within := goodIn_m ge_X3_addDigit ge_X11_within (by decide +kernel) (by decide +kernel)
set_option maxRecDepth 20000 in
theorem gX3_addDigit_X11_within_n58 : GoodIn wsX3_addDigit (wsX11_within) := ggX3_addDigit_X11_within
set_option maxRecDepth 20000 in
theorem ggX3_closeParenthesis_X3_closeFrom : GoodIn wsX3_closeParenthesis wsX3_closeFrom := goodIn_m ge_X3_closeParenthesis ge_X3_closeFrom (by decide +kernel) (by decide +kernel)
set_option maxRecDepth 20000 in
theorem gX3_closeParenthesis_X3_closeFrom : GoodIn wsX3_closeParenthesis (wsV RX3 104 RX3 yX3_closeFrom wsX3_closeFrom) := goodIn_app (goodIn_m (cs := [292, 293, 294, 119]) ge_X3_closeParenthesis rfl (by decide +kernel) (by decide +kernel)) ggX3_closeParenthesis_X3_closeFrom
set_option maxRecDepth 20000 in
theorem ggX3_closeParenthesis_X3_lastHeld : GoodIn wsX3_closeParenthesis wsX3_lastHeld := goodIn_m ge_X3_closeParenthesis ge_X3_lastHeld (by decide +kernel) (by decide +kernel)
set_option maxRecDepth 20000 in
theorem gX3_closeParenthesis_X3_lastHeld : GoodIn wsX3_closeParenthesis (wsV RX3 133 RX3 yX3_lastHeld wsX3_lastHeld) := goodIn_app (goodIn_m (cs := [280, 281, 282, 119]) ge_X3_closeParenthesis rfl (by decide +kernel) (by decide +kernel)) ggX3_closeParenthesis_X3_lastHeld
set_option maxRecDepth 20000 in
theorem ggX3_closeNots_X3_lastHeld : GoodIn wsX3_closeNots wsX3_lastHeld := goodIn_m ge_X3_closeNots ge_X3_lastHeld (by decide +kernel) (by decide +kernel)
set_option maxRecDepth 20000 in
theorem gX3_closeNots_X3_lastHeld : GoodIn wsX3_closeNots (wsV RX3 133 RX3 yX3_lastHeld wsX3_lastHeld) := goodIn_app (goodIn_m (cs := [280, 281, 282, 119]) ge_X3_closeNots rfl (by decide +kernel) (by decide +kernel)) ggX3_closeNots_X3_lastHeld
set_option maxRecDepth 20000 in
theorem ggX3_closeNots_X3_writeLastHeld : GoodIn wsX3_closeNots wsX3_writeLastHeld := goodIn_m ge_X3_closeNots ge_X3_writeLastHeld (by decide +kernel) (by decide +kernel)
set_option maxRecDepth 20000 in
theorem gX3_closeNots_X3_writeLastHeld : GoodIn wsX3_closeNots (wsV RX3 137 RX3 yX3_writeLastHeld wsX3_writeLastHeld) := goodIn_app (goodIn_m (cs := [284, 285, 286, 119]) ge_X3_closeNots rfl (by decide +kernel) (by decide +kernel)) ggX3_closeNots_X3_writeLastHeld
set_option maxRecDepth 20000 in
theorem ggX3_closeFrom_X3_lastHeld : GoodIn wsX3_closeFrom wsX3_lastHeld := goodIn_m ge_X3_closeFrom ge_X3_lastHeld (by decide +kernel) (by decide +kernel)
set_option maxRecDepth 20000 in
theorem gX3_closeFrom_X3_lastHeld : GoodIn wsX3_closeFrom (wsV RX3 133 RX3 yX3_lastHeld wsX3_lastHeld) := goodIn_app (goodIn_m (cs := [280, 281, 282, 119]) ge_X3_closeFrom rfl (by decide +kernel) (by decide +kernel)) ggX3_closeFrom_X3_lastHeld
set_option maxRecDepth 20000 in
theorem ggX3_closeFrom_X3_rankOf : GoodIn wsX3_closeFrom wsX3_rankOf := goodIn_m ge_X3_closeFrom ge_X3_rankOf (by decide +kernel) (by decide +kernel)
set_option maxRecDepth 20000 in
theorem gX3_closeFrom_X3_rankOf : GoodIn wsX3_closeFrom (va_wsS RX3 130 yX3_rankOf wsX3_rankOf) := goodIn_app (goodIn_m (cs := [296, 297, 119]) ge_X3_closeFrom rfl (by decide +kernel) (by decide +kernel)) ggX3_closeFrom_X3_rankOf
set_option maxRecDepth 20000 in
theorem ggX3_closeFrom_X3_writeLastHeld : GoodIn wsX3_closeFrom wsX3_writeLastHeld := goodIn_m ge_X3_closeFrom ge_X3_writeLastHeld (by decide +kernel) (by decide +kernel)
set_option maxRecDepth 20000 in
theorem gX3_closeFrom_X3_writeLastHeld : GoodIn wsX3_closeFrom (wsV RX3 137 RX3 yX3_writeLastHeld wsX3_writeLastHeld) := goodIn_app (goodIn_m (cs := [284, 285, 286, 119]) ge_X3_closeFrom rfl (by decide +kernel) (by decide +kernel)) ggX3_closeFrom_X3_writeLastHeld
set_option maxRecDepth 20000 in
theorem ggX3_writeLastHeld_X3_lastHeld : GoodIn wsX3_writeLastHeld wsX3_lastHeld := goodIn_m ge_X3_writeLastHeld ge_X3_lastHeld (by decide +kernel) (by decide +kernel)
set_option maxRecDepth 20000 in
theorem gX3_writeLastHeld_X3_lastHeld : GoodIn wsX3_writeLastHeld (wsV RX3 133 RX3 yX3_lastHeld wsX3_lastHeld) := goodIn_app (goodIn_m (cs := [280, 281, 282, 119]) ge_X3_writeLastHeld rfl (by decide +kernel) (by decide +kernel)) ggX3_writeLastHeld_X3_lastHeld
set_option maxRecDepth 20000 in
theorem ggX3_writeLastHeld_X3_write : GoodIn wsX3_writeLastHeld wsX3_write := goodIn_m ge_X3_writeLastHeld ge_X3_write (by decide +kernel) (by decide +kernel)
set_option maxRecDepth 20000 in
theorem gX3_writeLastHeld_X3_write : GoodIn wsX3_writeLastHeld (wsV RX3 120 RX3 yX3_write wsX3_write) := goodIn_app (goodIn_m (cs := [264, 265, 266, 119]) ge_X3_writeLastHeld rfl (by decide +kernel) (by decide +kernel)) ggX3_writeLastHeld_X3_write
set_option maxRecDepth 20000 in
theorem ggX3_isDigit_X11_within : GoodIn wsX3_isDigit wsX11_within := goodIn_m ge_X3_isDigit ge_X11_within (by decide +kernel) (by decide +kernel)
set_option maxRecDepth 20000 in
theorem gX3_isDigit_X11_within_n58 : GoodIn wsX3_isDigit (wsX11_within) := ggX3_isDigit_X11_within
set_option maxRecDepth 20000 in
theorem ggX4_isA_X8_isA : GoodIn wsX4_isA wsX8_isA := goodIn_m ge_X4_isA ge_X8_isA (by decide +kernel) (by decide +kernel)
set_option maxRecDepth 20000 in
theorem gX4_isA_X8_isA_s7 : GoodIn wsX4_isA (va_wsSU RX4 7 yX8_isA wsX8_isA) := goodIn_app (goodIn_m (cs := [93, 9, 94, 11, 2]) ge_X4_isA rfl (by decide +kernel) (by decide +kernel)) ggX4_isA_X8_isA
set_option maxRecDepth 20000 in
theorem ggX4_sayLets_X9_begin : GoodIn wsX4_sayLets wsX9_begin := goodIn_m ge_X4_sayLets ge_X9_begin (by decide +kernel) (by decide +kernel)
set_option maxRecDepth 20000 in
theorem gX4_sayLets_X9_begin : GoodIn wsX4_sayLets (wsV RX4 11 RX9 yX9_begin wsX9_begin) := goodIn_app (goodIn_m (cs := [106, 15, 16, 17]) ge_X4_sayLets rfl (by decide +kernel) (by decide +kernel)) ggX4_sayLets_X9_begin
set_option maxRecDepth 20000 in
theorem ggX4_sayLets_X8_sayLets : GoodIn wsX4_sayLets wsX8_sayLets := goodIn_m ge_X4_sayLets ge_X8_sayLets (by decide +kernel) (by decide +kernel)
set_option maxRecDepth 20000 in
theorem gX4_sayLets_X8_sayLets_s17 : GoodIn wsX4_sayLets (va_wsSU RX4 17 yX8_sayLets wsX8_sayLets) := goodIn_app (goodIn_m (cs := [107, 108, 94, 71, 2]) ge_X4_sayLets rfl (by decide +kernel) (by decide +kernel)) ggX4_sayLets_X8_sayLets
set_option maxRecDepth 20000 in
theorem ggX4_sayLets_X8_sayTears : GoodIn wsX4_sayLets wsX8_sayTears := goodIn_m ge_X4_sayLets ge_X8_sayTears (by decide +kernel) (by decide +kernel)
set_option maxRecDepth 20000 in
theorem gX4_sayLets_X8_sayTears_u21X2 : GoodIn wsX4_sayLets (va_wsU RX4 21 RX2 "PaperBubbles$Tool" ⟨"PaperBubbles$Needle", "sayTears", "(ILPaperBubbles$Voice;)I"⟩ yX8_sayTears wsX8_sayTears) := goodIn_app (goodIn_m (cs := [109, 110, 111, 65, 2]) ge_X4_sayLets rfl (by decide +kernel) (by decide +kernel)) ggX4_sayLets_X8_sayTears
set_option maxRecDepth 20000 in
theorem gX4_sayLets_X8_sayTears_u21X4 : GoodIn wsX4_sayLets (va_wsU RX4 21 RX4 "PaperBubbles$Tool" ⟨"PaperBubbles$Needle", "sayTears", "(ILPaperBubbles$Voice;)I"⟩ yX8_sayTears wsX8_sayTears) := goodIn_app (goodIn_m (cs := [109, 110, 112, 65, 2]) ge_X4_sayLets rfl (by decide +kernel) (by decide +kernel)) ggX4_sayLets_X8_sayTears
set_option maxRecDepth 20000 in
theorem ggX5_isA_X8_isA : GoodIn wsX5_isA wsX8_isA := goodIn_m ge_X5_isA ge_X8_isA (by decide +kernel) (by decide +kernel)
set_option maxRecDepth 20000 in
theorem gX5_isA_X8_isA_s7 : GoodIn wsX5_isA (va_wsSU RX5 7 yX8_isA wsX8_isA) := goodIn_app (goodIn_m (cs := [40, 9, 41, 11, 2]) ge_X5_isA rfl (by decide +kernel) (by decide +kernel)) ggX5_isA_X8_isA
set_option maxRecDepth 20000 in
theorem ggX5_sayTears_X9_begin : GoodIn wsX5_sayTears wsX9_begin := goodIn_m ge_X5_sayTears ge_X9_begin (by decide +kernel) (by decide +kernel)
set_option maxRecDepth 20000 in
theorem gX5_sayTears_X9_begin : GoodIn wsX5_sayTears (wsV RX5 11 RX9 yX9_begin wsX9_begin) := goodIn_app (goodIn_m (cs := [62, 15, 16, 17]) ge_X5_sayTears rfl (by decide +kernel) (by decide +kernel)) ggX5_sayTears_X9_begin
set_option maxRecDepth 20000 in
theorem ggX5_sayTears_X8_sayTears : GoodIn wsX5_sayTears wsX8_sayTears := goodIn_m ge_X5_sayTears ge_X8_sayTears (by decide +kernel) (by decide +kernel)
set_option maxRecDepth 20000 in
theorem gX5_sayTears_X8_sayTears_s17 : GoodIn wsX5_sayTears (va_wsSU RX5 17 yX8_sayTears wsX8_sayTears) := goodIn_app (goodIn_m (cs := [63, 64, 41, 65, 2]) ge_X5_sayTears rfl (by decide +kernel) (by decide +kernel)) ggX5_sayTears_X8_sayTears
set_option maxRecDepth 20000 in
theorem ggX6_isA_X0_isA : GoodIn wsX6_isA wsX0_isA := goodIn_m ge_X6_isA ge_X0_isA (by decide +kernel) (by decide +kernel)
set_option maxRecDepth 20000 in
theorem gX6_isA_X0_isA_s7 : GoodIn wsX6_isA (va_wsSU RX6 7 yX0_isA wsX0_isA) := goodIn_app (goodIn_m (cs := [302, 303, 304, 305, 76]) ge_X6_isA rfl (by decide +kernel) (by decide +kernel)) ggX6_isA_X0_isA
set_option maxRecDepth 20000 in
theorem ggX6_moves_X0_moves : GoodIn wsX6_moves wsX0_moves := goodIn_m ge_X6_moves ge_X0_moves (by decide +kernel) (by decide +kernel)
set_option maxRecDepth 20000 in
theorem gX6_moves_X0_moves_s11 : GoodIn wsX6_moves (va_wsSU RX6 11 yX0_moves wsX0_moves) := goodIn_app (goodIn_m (cs := [307, 308, 304, 309, 76]) ge_X6_moves rfl (by decide +kernel) (by decide +kernel)) ggX6_moves_X0_moves
set_option maxRecDepth 20000 in
theorem ggX6_sayTells_X9_begin : GoodIn wsX6_sayTells wsX9_begin := goodIn_m ge_X6_sayTells ge_X9_begin (by decide +kernel) (by decide +kernel)
set_option maxRecDepth 20000 in
theorem gX6_sayTells_X9_begin : GoodIn wsX6_sayTells (wsV RX6 15 RX9 yX9_begin wsX9_begin) := goodIn_app (goodIn_m (cs := [312, 15, 16, 17]) ge_X6_sayTells rfl (by decide +kernel) (by decide +kernel)) ggX6_sayTells_X9_begin
set_option maxRecDepth 20000 in
theorem ggX6_sayTells_X0_sayMoves : GoodIn wsX6_sayTells wsX0_sayMoves := goodIn_m ge_X6_sayTells ge_X0_sayMoves (by decide +kernel) (by decide +kernel)
set_option maxRecDepth 20000 in
theorem gX6_sayTells_X0_sayMoves_u25X6 : GoodIn wsX6_sayTells (va_wsU RX6 25 RX6 "PaperBubbles$Brush" ⟨"PaperBubbles$Soft", "sayMoves", "(ILPaperBubbles$Voice;)I"⟩ yX0_sayMoves wsX0_sayMoves) := goodIn_app (goodIn_m (cs := [313, 314, 315, 75, 76]) ge_X6_sayTells rfl (by decide +kernel) (by decide +kernel)) ggX6_sayTells_X0_sayMoves
set_option maxRecDepth 20000 in
theorem ggX7_copy_X10_copy : GoodIn wsX7_copy wsX10_copy := goodIn_m ge_X7_copy ge_X10_copy (by decide +kernel) (by decide +kernel)
set_option maxRecDepth 20000 in
theorem gX7_copy_X10_copy : GoodIn wsX7_copy (wsV RX7 47 RX10 yX10_copy wsX10_copy) := goodIn_app (goodIn_m (cs := [378, 379, 380, 320]) ge_X7_copy rfl (by decide +kernel) (by decide +kernel)) ggX7_copy_X10_copy
set_option maxRecDepth 20000 in
theorem ggX7_copy_X3_copy : GoodIn wsX7_copy wsX3_copy := goodIn_m ge_X7_copy ge_X3_copy (by decide +kernel) (by decide +kernel)
set_option maxRecDepth 20000 in
theorem gX7_copy_X3_copy : GoodIn wsX7_copy (wsV RX7 63 RX3 yX3_copy wsX3_copy) := goodIn_app (goodIn_m (cs := [390, 391, 392, 119]) ge_X7_copy rfl (by decide +kernel) (by decide +kernel)) ggX7_copy_X3_copy
set_option maxRecDepth 20000 in
theorem ggX7_addByte_X11_within : GoodIn wsX7_addByte wsX11_within := goodIn_m ge_X7_addByte ge_X11_within (by decide +kernel) (by decide +kernel)
set_option maxRecDepth 20000 in
theorem gX7_addByte_X11_within_n69 : GoodIn wsX7_addByte (wsX11_within) := ggX7_addByte_X11_within
set_option maxRecDepth 20000 in
theorem ggX8_sayMoves_X9_begin : GoodIn wsX8_sayMoves wsX9_begin := goodIn_m ge_X8_sayMoves ge_X9_begin (by decide +kernel) (by decide +kernel)
set_option maxRecDepth 20000 in
theorem gX8_sayMoves_X9_begin : GoodIn wsX8_sayMoves (wsV RX8 7 RX9 yX9_begin wsX9_begin) := goodIn_app (goodIn_m (cs := [25, 15, 16, 17]) ge_X8_sayMoves rfl (by decide +kernel) (by decide +kernel)) ggX8_sayMoves_X9_begin
set_option maxRecDepth 20000 in
theorem ggX8_sayLets_X9_begin : GoodIn wsX8_sayLets wsX9_begin := goodIn_m ge_X8_sayLets ge_X9_begin (by decide +kernel) (by decide +kernel)
set_option maxRecDepth 20000 in
theorem gX8_sayLets_X9_begin : GoodIn wsX8_sayLets (wsV RX8 7 RX9 yX9_begin wsX9_begin) := goodIn_app (goodIn_m (cs := [25, 15, 16, 17]) ge_X8_sayLets rfl (by decide +kernel) (by decide +kernel)) ggX8_sayLets_X9_begin
set_option maxRecDepth 20000 in
theorem ggX8_sayLets_X0_sayMoves : GoodIn wsX8_sayLets wsX0_sayMoves := goodIn_m ge_X8_sayLets ge_X0_sayMoves (by decide +kernel) (by decide +kernel)
set_option maxRecDepth 20000 in
theorem gX8_sayLets_X0_sayMoves_u17X0 : GoodIn wsX8_sayLets (va_wsO RX8 17 RX0 "PaperBubbles$Tool" ⟨"PaperBubbles$Tool", "sayMoves", "(ILPaperBubbles$Voice;)I"⟩ yX0_sayMoves wsX0_sayMoves) := goodIn_app (goodIn_m (cs := [73, 22, 23, 74, 75, 76]) ge_X8_sayLets rfl (by decide +kernel) (by decide +kernel)) ggX8_sayLets_X0_sayMoves
set_option maxRecDepth 20000 in
theorem ggX8_sayLets_X8_sayMoves : GoodIn wsX8_sayLets wsX8_sayMoves := goodIn_m ge_X8_sayLets ge_X8_sayMoves (by decide +kernel) (by decide +kernel)
set_option maxRecDepth 20000 in
theorem gX8_sayLets_X8_sayMoves_u17X1 : GoodIn wsX8_sayLets (va_wsU RX8 17 RX1 "PaperBubbles$Tool" ⟨"PaperBubbles$Tool", "sayMoves", "(ILPaperBubbles$Voice;)I"⟩ yX8_sayMoves wsX8_sayMoves) := goodIn_app (goodIn_m (cs := [73, 22, 77, 23, 2]) ge_X8_sayLets rfl (by decide +kernel) (by decide +kernel)) ggX8_sayLets_X8_sayMoves
set_option maxRecDepth 20000 in
theorem gX8_sayLets_X8_sayMoves_u17X2 : GoodIn wsX8_sayLets (va_wsU RX8 17 RX2 "PaperBubbles$Tool" ⟨"PaperBubbles$Tool", "sayMoves", "(ILPaperBubbles$Voice;)I"⟩ yX8_sayMoves wsX8_sayMoves) := goodIn_app (goodIn_m (cs := [73, 22, 78, 23, 2]) ge_X8_sayLets rfl (by decide +kernel) (by decide +kernel)) ggX8_sayLets_X8_sayMoves
set_option maxRecDepth 20000 in
theorem gX8_sayLets_X8_sayMoves_u17X4 : GoodIn wsX8_sayLets (va_wsU RX8 17 RX4 "PaperBubbles$Tool" ⟨"PaperBubbles$Tool", "sayMoves", "(ILPaperBubbles$Voice;)I"⟩ yX8_sayMoves wsX8_sayMoves) := goodIn_app (goodIn_m (cs := [73, 22, 79, 23, 2]) ge_X8_sayLets rfl (by decide +kernel) (by decide +kernel)) ggX8_sayLets_X8_sayMoves
set_option maxRecDepth 20000 in
theorem gX8_sayLets_X8_sayMoves_u17X5 : GoodIn wsX8_sayLets (va_wsU RX8 17 RX5 "PaperBubbles$Tool" ⟨"PaperBubbles$Tool", "sayMoves", "(ILPaperBubbles$Voice;)I"⟩ yX8_sayMoves wsX8_sayMoves) := goodIn_app (goodIn_m (cs := [73, 22, 80, 23, 2]) ge_X8_sayLets rfl (by decide +kernel) (by decide +kernel)) ggX8_sayLets_X8_sayMoves
set_option maxRecDepth 20000 in
theorem gX8_sayLets_X0_sayMoves_u17X6 : GoodIn wsX8_sayLets (va_wsO RX8 17 RX6 "PaperBubbles$Tool" ⟨"PaperBubbles$Tool", "sayMoves", "(ILPaperBubbles$Voice;)I"⟩ yX0_sayMoves wsX0_sayMoves) := goodIn_app (goodIn_m (cs := [73, 22, 23, 81, 75, 76]) ge_X8_sayLets rfl (by decide +kernel) (by decide +kernel)) ggX8_sayLets_X0_sayMoves
set_option maxRecDepth 20000 in
theorem gX8_sayLets_X8_sayMoves : GoodIn wsX8_sayLets (wsV RX8 17 RX8 yX8_sayMoves wsX8_sayMoves) := goodIn_app (goodIn_m (cs := [73, 23, 82, 2]) ge_X8_sayLets rfl (by decide +kernel) (by decide +kernel)) ggX8_sayLets_X8_sayMoves
set_option maxRecDepth 20000 in
theorem ggX8_sayTears_X9_begin : GoodIn wsX8_sayTears wsX9_begin := goodIn_m ge_X8_sayTears ge_X9_begin (by decide +kernel) (by decide +kernel)
set_option maxRecDepth 20000 in
theorem gX8_sayTears_X9_begin : GoodIn wsX8_sayTears (wsV RX8 7 RX9 yX9_begin wsX9_begin) := goodIn_app (goodIn_m (cs := [25, 15, 16, 17]) ge_X8_sayTears rfl (by decide +kernel) (by decide +kernel)) ggX8_sayTears_X9_begin
set_option maxRecDepth 20000 in
theorem ggX8_sayTells_X9_begin : GoodIn wsX8_sayTells wsX9_begin := goodIn_m ge_X8_sayTells ge_X9_begin (by decide +kernel) (by decide +kernel)
set_option maxRecDepth 20000 in
theorem gX8_sayTells_X9_begin : GoodIn wsX8_sayTells (wsV RX8 7 RX9 yX9_begin wsX9_begin) := goodIn_app (goodIn_m (cs := [25, 15, 16, 17]) ge_X8_sayTells rfl (by decide +kernel) (by decide +kernel)) ggX8_sayTells_X9_begin
set_option maxRecDepth 20000 in
theorem ggX8_sayTells_X8_sayLets : GoodIn wsX8_sayTells wsX8_sayLets := goodIn_m ge_X8_sayTells ge_X8_sayLets (by decide +kernel) (by decide +kernel)
set_option maxRecDepth 20000 in
theorem gX8_sayTells_X8_sayLets_u26X0 : GoodIn wsX8_sayTells (va_wsU RX8 26 RX0 "PaperBubbles$Tool" ⟨"PaperBubbles$Tool", "sayLets", "(ILPaperBubbles$Voice;)I"⟩ yX8_sayLets wsX8_sayLets) := goodIn_app (goodIn_m (cs := [396, 108, 397, 71, 2]) ge_X8_sayTells rfl (by decide +kernel) (by decide +kernel)) ggX8_sayTells_X8_sayLets
set_option maxRecDepth 20000 in
theorem gX8_sayTells_X8_sayLets_u26X1 : GoodIn wsX8_sayTells (va_wsU RX8 26 RX1 "PaperBubbles$Tool" ⟨"PaperBubbles$Tool", "sayLets", "(ILPaperBubbles$Voice;)I"⟩ yX8_sayLets wsX8_sayLets) := goodIn_app (goodIn_m (cs := [396, 108, 398, 71, 2]) ge_X8_sayTells rfl (by decide +kernel) (by decide +kernel)) ggX8_sayTells_X8_sayLets
set_option maxRecDepth 20000 in
theorem ggX8_sayTells_X2_sayLets : GoodIn wsX8_sayTells wsX2_sayLets := goodIn_m ge_X8_sayTells ge_X2_sayLets (by decide +kernel) (by decide +kernel)
set_option maxRecDepth 20000 in
theorem gX8_sayTells_X2_sayLets_u26X2 : GoodIn wsX8_sayTells (va_wsO RX8 26 RX2 "PaperBubbles$Tool" ⟨"PaperBubbles$Tool", "sayLets", "(ILPaperBubbles$Voice;)I"⟩ yX2_sayLets wsX2_sayLets) := goodIn_app (goodIn_m (cs := [396, 108, 71, 399, 400, 401]) ge_X8_sayTells rfl (by decide +kernel) (by decide +kernel)) ggX8_sayTells_X2_sayLets
set_option maxRecDepth 20000 in
theorem ggX8_sayTells_X4_sayLets : GoodIn wsX8_sayTells wsX4_sayLets := goodIn_m ge_X8_sayTells ge_X4_sayLets (by decide +kernel) (by decide +kernel)
set_option maxRecDepth 20000 in
theorem gX8_sayTells_X4_sayLets_u26X4 : GoodIn wsX8_sayTells (va_wsO RX8 26 RX4 "PaperBubbles$Tool" ⟨"PaperBubbles$Tool", "sayLets", "(ILPaperBubbles$Voice;)I"⟩ yX4_sayLets wsX4_sayLets) := goodIn_app (goodIn_m (cs := [396, 108, 71, 402, 104, 85]) ge_X8_sayTells rfl (by decide +kernel) (by decide +kernel)) ggX8_sayTells_X4_sayLets
set_option maxRecDepth 20000 in
theorem gX8_sayTells_X8_sayLets_u26X5 : GoodIn wsX8_sayTells (va_wsU RX8 26 RX5 "PaperBubbles$Tool" ⟨"PaperBubbles$Tool", "sayLets", "(ILPaperBubbles$Voice;)I"⟩ yX8_sayLets wsX8_sayLets) := goodIn_app (goodIn_m (cs := [396, 108, 403, 71, 2]) ge_X8_sayTells rfl (by decide +kernel) (by decide +kernel)) ggX8_sayTells_X8_sayLets
set_option maxRecDepth 20000 in
theorem gX8_sayTells_X8_sayLets_u26X6 : GoodIn wsX8_sayTells (va_wsU RX8 26 RX6 "PaperBubbles$Tool" ⟨"PaperBubbles$Tool", "sayLets", "(ILPaperBubbles$Voice;)I"⟩ yX8_sayLets wsX8_sayLets) := goodIn_app (goodIn_m (cs := [396, 108, 404, 71, 2]) ge_X8_sayTells rfl (by decide +kernel) (by decide +kernel)) ggX8_sayTells_X8_sayLets
set_option maxRecDepth 20000 in
theorem gX8_sayTells_X8_sayLets : GoodIn wsX8_sayTells (wsV RX8 26 RX8 yX8_sayLets wsX8_sayLets) := goodIn_app (goodIn_m (cs := [396, 71, 405, 2]) ge_X8_sayTells rfl (by decide +kernel) (by decide +kernel)) ggX8_sayTells_X8_sayLets
set_option maxRecDepth 20000 in
theorem ggX8_sayTells_X8_sayTears : GoodIn wsX8_sayTells wsX8_sayTears := goodIn_m ge_X8_sayTells ge_X8_sayTears (by decide +kernel) (by decide +kernel)
set_option maxRecDepth 20000 in
theorem gX8_sayTells_X8_sayTears_u29X0 : GoodIn wsX8_sayTells (va_wsU RX8 29 RX0 "PaperBubbles$Tool" ⟨"PaperBubbles$Tool", "sayTears", "(ILPaperBubbles$Voice;)I"⟩ yX8_sayTears wsX8_sayTears) := goodIn_app (goodIn_m (cs := [406, 64, 407, 65, 2]) ge_X8_sayTells rfl (by decide +kernel) (by decide +kernel)) ggX8_sayTells_X8_sayTears
set_option maxRecDepth 20000 in
theorem ggX8_sayTells_X1_sayTears : GoodIn wsX8_sayTells wsX1_sayTears := goodIn_m ge_X8_sayTells ge_X1_sayTears (by decide +kernel) (by decide +kernel)
set_option maxRecDepth 20000 in
theorem gX8_sayTells_X1_sayTears_u29X1 : GoodIn wsX8_sayTells (va_wsO RX8 29 RX1 "PaperBubbles$Tool" ⟨"PaperBubbles$Tool", "sayTears", "(ILPaperBubbles$Voice;)I"⟩ yX1_sayTears wsX1_sayTears) := goodIn_app (goodIn_m (cs := [406, 64, 65, 408, 409, 410]) ge_X8_sayTells rfl (by decide +kernel) (by decide +kernel)) ggX8_sayTells_X1_sayTears
set_option maxRecDepth 20000 in
theorem gX8_sayTells_X8_sayTears_u29X2 : GoodIn wsX8_sayTells (va_wsU RX8 29 RX2 "PaperBubbles$Tool" ⟨"PaperBubbles$Tool", "sayTears", "(ILPaperBubbles$Voice;)I"⟩ yX8_sayTears wsX8_sayTears) := goodIn_app (goodIn_m (cs := [406, 64, 411, 65, 2]) ge_X8_sayTells rfl (by decide +kernel) (by decide +kernel)) ggX8_sayTells_X8_sayTears
set_option maxRecDepth 20000 in
theorem gX8_sayTells_X8_sayTears_u29X4 : GoodIn wsX8_sayTells (va_wsU RX8 29 RX4 "PaperBubbles$Tool" ⟨"PaperBubbles$Tool", "sayTears", "(ILPaperBubbles$Voice;)I"⟩ yX8_sayTears wsX8_sayTears) := goodIn_app (goodIn_m (cs := [406, 64, 412, 65, 2]) ge_X8_sayTells rfl (by decide +kernel) (by decide +kernel)) ggX8_sayTells_X8_sayTears
set_option maxRecDepth 20000 in
theorem ggX8_sayTells_X5_sayTears : GoodIn wsX8_sayTells wsX5_sayTears := goodIn_m ge_X8_sayTells ge_X5_sayTears (by decide +kernel) (by decide +kernel)
set_option maxRecDepth 20000 in
theorem gX8_sayTells_X5_sayTears_u29X5 : GoodIn wsX8_sayTells (va_wsO RX8 29 RX5 "PaperBubbles$Tool" ⟨"PaperBubbles$Tool", "sayTears", "(ILPaperBubbles$Voice;)I"⟩ yX5_sayTears wsX5_sayTears) := goodIn_app (goodIn_m (cs := [406, 64, 65, 413, 60, 32]) ge_X8_sayTells rfl (by decide +kernel) (by decide +kernel)) ggX8_sayTells_X5_sayTears
set_option maxRecDepth 20000 in
theorem gX8_sayTells_X8_sayTears_u29X6 : GoodIn wsX8_sayTells (va_wsU RX8 29 RX6 "PaperBubbles$Tool" ⟨"PaperBubbles$Tool", "sayTears", "(ILPaperBubbles$Voice;)I"⟩ yX8_sayTears wsX8_sayTears) := goodIn_app (goodIn_m (cs := [406, 64, 414, 65, 2]) ge_X8_sayTells rfl (by decide +kernel) (by decide +kernel)) ggX8_sayTells_X8_sayTears
set_option maxRecDepth 20000 in
theorem gX8_sayTells_X8_sayTears : GoodIn wsX8_sayTells (wsV RX8 29 RX8 yX8_sayTears wsX8_sayTears) := goodIn_app (goodIn_m (cs := [406, 65, 415, 2]) ge_X8_sayTells rfl (by decide +kernel) (by decide +kernel)) ggX8_sayTells_X8_sayTears
set_option maxRecDepth 20000 in
theorem ggX10_lay_J7_fill_53178 : GoodIn wsX10_lay wsJ7_fill_53178 := goodIn_m ge_X10_lay ge_J7_fill_53178 (by decide +kernel) (by decide +kernel)
set_option maxRecDepth 20000 in
theorem gX10_lay_J7_fill_53178 : GoodIn wsX10_lay (va_wsS RX10 34 yJ7_fill_53178 wsJ7_fill_53178) := goodIn_app (goodIn_m (cs := [343, 344, 345]) ge_X10_lay rfl (by decide +kernel) (by decide +kernel)) ggX10_lay_J7_fill_53178
set_option maxRecDepth 20000 in
theorem ggX10_copy_X10_airAs : GoodIn wsX10_copy wsX10_airAs := goodIn_m ge_X10_copy ge_X10_airAs (by decide +kernel) (by decide +kernel)
set_option maxRecDepth 20000 in
theorem gX10_copy_X10_airAs : GoodIn wsX10_copy (wsV RX10 40 RX10 yX10_airAs wsX10_airAs) := goodIn_app (goodIn_m (cs := [386, 387, 388, 320]) ge_X10_copy rfl (by decide +kernel) (by decide +kernel)) ggX10_copy_X10_airAs
set_option maxRecDepth 20000 in
theorem ggX10_isOpen_X11_isWay : GoodIn wsX10_isOpen wsX11_isWay := goodIn_m ge_X10_isOpen ge_X11_isWay (by decide +kernel) (by decide +kernel)
set_option maxRecDepth 20000 in
theorem gX10_isOpen_X11_isWay_n59 : GoodIn wsX10_isOpen (wsX11_isWay) := ggX10_isOpen_X11_isWay
set_option maxRecDepth 20000 in
theorem ggX10_cellsAhead_X10_rowOf : GoodIn wsX10_cellsAhead wsX10_rowOf := goodIn_m ge_X10_cellsAhead ge_X10_rowOf (by decide +kernel) (by decide +kernel)
set_option maxRecDepth 20000 in
theorem gX10_cellsAhead_X10_rowOf : GoodIn wsX10_cellsAhead (wsV RX10 63 RX10 yX10_rowOf wsX10_rowOf) := goodIn_app (goodIn_m (cs := [422, 423, 424, 320]) ge_X10_cellsAhead rfl (by decide +kernel) (by decide +kernel)) ggX10_cellsAhead_X10_rowOf
set_option maxRecDepth 20000 in
theorem ggX10_cellsAhead_X10_columnOf : GoodIn wsX10_cellsAhead wsX10_columnOf := goodIn_m ge_X10_cellsAhead ge_X10_columnOf (by decide +kernel) (by decide +kernel)
set_option maxRecDepth 20000 in
theorem gX10_cellsAhead_X10_columnOf : GoodIn wsX10_cellsAhead (wsV RX10 67 RX10 yX10_columnOf wsX10_columnOf) := goodIn_app (goodIn_m (cs := [426, 427, 428, 320]) ge_X10_cellsAhead rfl (by decide +kernel) (by decide +kernel)) ggX10_cellsAhead_X10_columnOf
set_option maxRecDepth 20000 in
theorem ggX10_beside_X10_cellsAhead : GoodIn wsX10_beside wsX10_cellsAhead := goodIn_m ge_X10_beside ge_X10_cellsAhead (by decide +kernel) (by decide +kernel)
set_option maxRecDepth 20000 in
theorem gX10_beside_X10_cellsAhead : GoodIn wsX10_beside (wsV RX10 70 RX10 yX10_cellsAhead wsX10_cellsAhead) := goodIn_app (goodIn_m (cs := [431, 432, 433, 320]) ge_X10_beside rfl (by decide +kernel) (by decide +kernel)) ggX10_beside_X10_cellsAhead
set_option maxRecDepth 20000 in
theorem ggX10_strike_X10_has : GoodIn wsX10_strike wsX10_has := goodIn_m ge_X10_strike ge_X10_has (by decide +kernel) (by decide +kernel)
set_option maxRecDepth 20000 in
theorem gX10_strike_X10_has : GoodIn wsX10_strike (wsV RX10 74 RX10 yX10_has wsX10_has) := goodIn_app (goodIn_m (cs := [437, 438, 439, 320]) ge_X10_strike rfl (by decide +kernel) (by decide +kernel)) ggX10_strike_X10_has
set_option maxRecDepth 20000 in
theorem ggX10_strike_X8_lets : GoodIn wsX10_strike wsX8_lets := goodIn_m ge_X10_strike ge_X8_lets (by decide +kernel) (by decide +kernel)
set_option maxRecDepth 20000 in
theorem gX10_strike_X8_lets_u77X0 : GoodIn wsX10_strike (va_wsU RX10 77 RX0 "PaperBubbles$Tool" ⟨"PaperBubbles$Tool", "lets", "(II)I"⟩ yX8_lets wsX8_lets) := goodIn_app (goodIn_m (cs := [441, 442, 443, 444, 2]) ge_X10_strike rfl (by decide +kernel) (by decide +kernel)) ggX10_strike_X8_lets
set_option maxRecDepth 20000 in
theorem gX10_strike_X8_lets_u77X1 : GoodIn wsX10_strike (va_wsU RX10 77 RX1 "PaperBubbles$Tool" ⟨"PaperBubbles$Tool", "lets", "(II)I"⟩ yX8_lets wsX8_lets) := goodIn_app (goodIn_m (cs := [441, 442, 446, 444, 2]) ge_X10_strike rfl (by decide +kernel) (by decide +kernel)) ggX10_strike_X8_lets
set_option maxRecDepth 20000 in
theorem ggX10_strike_X2_lets : GoodIn wsX10_strike wsX2_lets := goodIn_m ge_X10_strike ge_X2_lets (by decide +kernel) (by decide +kernel)
set_option maxRecDepth 20000 in
theorem gX10_strike_X2_lets_u77X2 : GoodIn wsX10_strike (va_wsO RX10 77 RX2 "PaperBubbles$Tool" ⟨"PaperBubbles$Tool", "lets", "(II)I"⟩ yX2_lets wsX2_lets) := goodIn_app (goodIn_m (cs := [441, 442, 444, 447, 448, 401]) ge_X10_strike rfl (by decide +kernel) (by decide +kernel)) ggX10_strike_X2_lets
set_option maxRecDepth 20000 in
theorem ggX10_strike_X4_lets : GoodIn wsX10_strike wsX4_lets := goodIn_m ge_X10_strike ge_X4_lets (by decide +kernel) (by decide +kernel)
set_option maxRecDepth 20000 in
theorem gX10_strike_X4_lets_u77X4 : GoodIn wsX10_strike (va_wsO RX10 77 RX4 "PaperBubbles$Tool" ⟨"PaperBubbles$Tool", "lets", "(II)I"⟩ yX4_lets wsX4_lets) := goodIn_app (goodIn_m (cs := [441, 442, 444, 450, 451, 85]) ge_X10_strike rfl (by decide +kernel) (by decide +kernel)) ggX10_strike_X4_lets
set_option maxRecDepth 20000 in
theorem gX10_strike_X8_lets_u77X5 : GoodIn wsX10_strike (va_wsU RX10 77 RX5 "PaperBubbles$Tool" ⟨"PaperBubbles$Tool", "lets", "(II)I"⟩ yX8_lets wsX8_lets) := goodIn_app (goodIn_m (cs := [441, 442, 453, 444, 2]) ge_X10_strike rfl (by decide +kernel) (by decide +kernel)) ggX10_strike_X8_lets
set_option maxRecDepth 20000 in
theorem gX10_strike_X8_lets_u77X6 : GoodIn wsX10_strike (va_wsU RX10 77 RX6 "PaperBubbles$Tool" ⟨"PaperBubbles$Tool", "lets", "(II)I"⟩ yX8_lets wsX8_lets) := goodIn_app (goodIn_m (cs := [441, 442, 454, 444, 2]) ge_X10_strike rfl (by decide +kernel) (by decide +kernel)) ggX10_strike_X8_lets
set_option maxRecDepth 20000 in
theorem gX10_strike_X8_lets : GoodIn wsX10_strike (wsV RX10 77 RX8 yX8_lets wsX8_lets) := goodIn_app (goodIn_m (cs := [441, 444, 455, 2]) ge_X10_strike rfl (by decide +kernel) (by decide +kernel)) ggX10_strike_X8_lets
set_option maxRecDepth 20000 in
theorem ggX10_strike_X10_goesOut : GoodIn wsX10_strike wsX10_goesOut := goodIn_m ge_X10_strike ge_X10_goesOut (by decide +kernel) (by decide +kernel)
set_option maxRecDepth 20000 in
theorem gX10_strike_X10_goesOut : GoodIn wsX10_strike (wsV RX10 87 RX10 yX10_goesOut wsX10_goesOut) := goodIn_app (goodIn_m (cs := [456, 457, 458, 320]) ge_X10_strike rfl (by decide +kernel) (by decide +kernel)) ggX10_strike_X10_goesOut
set_option maxRecDepth 20000 in
theorem ggX10_strike_X8_tears : GoodIn wsX10_strike wsX8_tears := goodIn_m ge_X10_strike ge_X8_tears (by decide +kernel) (by decide +kernel)
set_option maxRecDepth 20000 in
theorem gX10_strike_X8_tears_u92X0 : GoodIn wsX10_strike (va_wsU RX10 92 RX0 "PaperBubbles$Tool" ⟨"PaperBubbles$Tool", "tears", "(I)I"⟩ yX8_tears wsX8_tears) := goodIn_app (goodIn_m (cs := [460, 461, 462, 463, 2]) ge_X10_strike rfl (by decide +kernel) (by decide +kernel)) ggX10_strike_X8_tears
set_option maxRecDepth 20000 in
theorem ggX10_strike_X1_tears : GoodIn wsX10_strike wsX1_tears := goodIn_m ge_X10_strike ge_X1_tears (by decide +kernel) (by decide +kernel)
set_option maxRecDepth 20000 in
theorem gX10_strike_X1_tears_u92X1 : GoodIn wsX10_strike (va_wsO RX10 92 RX1 "PaperBubbles$Tool" ⟨"PaperBubbles$Tool", "tears", "(I)I"⟩ yX1_tears wsX1_tears) := goodIn_app (goodIn_m (cs := [460, 461, 463, 465, 466, 410]) ge_X10_strike rfl (by decide +kernel) (by decide +kernel)) ggX10_strike_X1_tears
set_option maxRecDepth 20000 in
theorem ggX10_strike_X2_tears : GoodIn wsX10_strike wsX2_tears := goodIn_m ge_X10_strike ge_X2_tears (by decide +kernel) (by decide +kernel)
set_option maxRecDepth 20000 in
theorem gX10_strike_X2_tears_u92X2 : GoodIn wsX10_strike (va_wsO RX10 92 RX2 "PaperBubbles$Tool" ⟨"PaperBubbles$Tool", "tears", "(I)I"⟩ yX2_tears wsX2_tears) := goodIn_app (goodIn_m (cs := [460, 461, 463, 468, 469, 401]) ge_X10_strike rfl (by decide +kernel) (by decide +kernel)) ggX10_strike_X2_tears
set_option maxRecDepth 20000 in
theorem ggX10_strike_X4_tears : GoodIn wsX10_strike wsX4_tears := goodIn_m ge_X10_strike ge_X4_tears (by decide +kernel) (by decide +kernel)
set_option maxRecDepth 20000 in
theorem gX10_strike_X4_tears_u92X4 : GoodIn wsX10_strike (va_wsO RX10 92 RX4 "PaperBubbles$Tool" ⟨"PaperBubbles$Tool", "tears", "(I)I"⟩ yX4_tears wsX4_tears) := goodIn_app (goodIn_m (cs := [460, 461, 463, 470, 98, 85]) ge_X10_strike rfl (by decide +kernel) (by decide +kernel)) ggX10_strike_X4_tears
set_option maxRecDepth 20000 in
theorem gX10_strike_X8_tears_u92X5 : GoodIn wsX10_strike (va_wsU RX10 92 RX5 "PaperBubbles$Tool" ⟨"PaperBubbles$Tool", "tears", "(I)I"⟩ yX8_tears wsX8_tears) := goodIn_app (goodIn_m (cs := [460, 461, 471, 463, 2]) ge_X10_strike rfl (by decide +kernel) (by decide +kernel)) ggX10_strike_X8_tears
set_option maxRecDepth 20000 in
theorem gX10_strike_X8_tears_u92X6 : GoodIn wsX10_strike (va_wsU RX10 92 RX6 "PaperBubbles$Tool" ⟨"PaperBubbles$Tool", "tears", "(I)I"⟩ yX8_tears wsX8_tears) := goodIn_app (goodIn_m (cs := [460, 461, 472, 463, 2]) ge_X10_strike rfl (by decide +kernel) (by decide +kernel)) ggX10_strike_X8_tears
set_option maxRecDepth 20000 in
theorem gX10_strike_X8_tears : GoodIn wsX10_strike (wsV RX10 92 RX8 yX8_tears wsX8_tears) := goodIn_app (goodIn_m (cs := [460, 463, 473, 2]) ge_X10_strike rfl (by decide +kernel) (by decide +kernel)) ggX10_strike_X8_tears
set_option maxRecDepth 20000 in
theorem ggX10_strike_X8_reach : GoodIn wsX10_strike wsX8_reach := goodIn_m ge_X10_strike ge_X8_reach (by decide +kernel) (by decide +kernel)
set_option maxRecDepth 20000 in
theorem gX10_strike_X8_reach_u95X0 : GoodIn wsX10_strike (va_wsU RX10 95 RX0 "PaperBubbles$Tool" ⟨"PaperBubbles$Tool", "reach", "(I)I"⟩ yX8_reach wsX8_reach) := goodIn_app (goodIn_m (cs := [474, 475, 476, 477, 2]) ge_X10_strike rfl (by decide +kernel) (by decide +kernel)) ggX10_strike_X8_reach
set_option maxRecDepth 20000 in
theorem ggX10_strike_X1_reach : GoodIn wsX10_strike wsX1_reach := goodIn_m ge_X10_strike ge_X1_reach (by decide +kernel) (by decide +kernel)
set_option maxRecDepth 20000 in
theorem gX10_strike_X1_reach_u95X1 : GoodIn wsX10_strike (va_wsO RX10 95 RX1 "PaperBubbles$Tool" ⟨"PaperBubbles$Tool", "reach", "(I)I"⟩ yX1_reach wsX1_reach) := goodIn_app (goodIn_m (cs := [474, 475, 477, 479, 480, 410]) ge_X10_strike rfl (by decide +kernel) (by decide +kernel)) ggX10_strike_X1_reach
set_option maxRecDepth 20000 in
theorem gX10_strike_X8_reach_u95X2 : GoodIn wsX10_strike (va_wsU RX10 95 RX2 "PaperBubbles$Tool" ⟨"PaperBubbles$Tool", "reach", "(I)I"⟩ yX8_reach wsX8_reach) := goodIn_app (goodIn_m (cs := [474, 475, 481, 477, 2]) ge_X10_strike rfl (by decide +kernel) (by decide +kernel)) ggX10_strike_X8_reach
set_option maxRecDepth 20000 in
theorem gX10_strike_X8_reach_u95X4 : GoodIn wsX10_strike (va_wsU RX10 95 RX4 "PaperBubbles$Tool" ⟨"PaperBubbles$Tool", "reach", "(I)I"⟩ yX8_reach wsX8_reach) := goodIn_app (goodIn_m (cs := [474, 475, 482, 477, 2]) ge_X10_strike rfl (by decide +kernel) (by decide +kernel)) ggX10_strike_X8_reach
set_option maxRecDepth 20000 in
theorem ggX10_strike_X5_reach : GoodIn wsX10_strike wsX5_reach := goodIn_m ge_X10_strike ge_X5_reach (by decide +kernel) (by decide +kernel)
set_option maxRecDepth 20000 in
theorem gX10_strike_X5_reach_u95X5 : GoodIn wsX10_strike (va_wsO RX10 95 RX5 "PaperBubbles$Tool" ⟨"PaperBubbles$Tool", "reach", "(I)I"⟩ yX5_reach wsX5_reach) := goodIn_app (goodIn_m (cs := [474, 475, 477, 483, 54, 32]) ge_X10_strike rfl (by decide +kernel) (by decide +kernel)) ggX10_strike_X5_reach
set_option maxRecDepth 20000 in
theorem gX10_strike_X8_reach_u95X6 : GoodIn wsX10_strike (va_wsU RX10 95 RX6 "PaperBubbles$Tool" ⟨"PaperBubbles$Tool", "reach", "(I)I"⟩ yX8_reach wsX8_reach) := goodIn_app (goodIn_m (cs := [474, 475, 484, 477, 2]) ge_X10_strike rfl (by decide +kernel) (by decide +kernel)) ggX10_strike_X8_reach
set_option maxRecDepth 20000 in
theorem gX10_strike_X8_reach : GoodIn wsX10_strike (wsV RX10 95 RX8 yX8_reach wsX8_reach) := goodIn_app (goodIn_m (cs := [474, 477, 485, 2]) ge_X10_strike rfl (by decide +kernel) (by decide +kernel)) ggX10_strike_X8_reach
set_option maxRecDepth 20000 in
theorem ggX10_strike_X10_pushOn : GoodIn wsX10_strike wsX10_pushOn := goodIn_m ge_X10_strike ge_X10_pushOn (by decide +kernel) (by decide +kernel)
set_option maxRecDepth 20000 in
theorem gX10_strike_X10_pushOn : GoodIn wsX10_strike (wsV RX10 98 RX10 yX10_pushOn wsX10_pushOn) := goodIn_app (goodIn_m (cs := [486, 487, 488, 320]) ge_X10_strike rfl (by decide +kernel) (by decide +kernel)) ggX10_strike_X10_pushOn
set_option maxRecDepth 20000 in
theorem ggX10_pushOn_X3_gives : GoodIn wsX10_pushOn wsX3_gives := goodIn_m ge_X10_pushOn ge_X3_gives (by decide +kernel) (by decide +kernel)
set_option maxRecDepth 20000 in
theorem gX10_pushOn_X3_gives : GoodIn wsX10_pushOn (wsV RX10 102 RX3 yX3_gives wsX3_gives) := goodIn_app (goodIn_m (cs := [490, 491, 492, 119]) ge_X10_pushOn rfl (by decide +kernel) (by decide +kernel)) ggX10_pushOn_X3_gives
set_option maxRecDepth 20000 in
theorem ggX10_pushOn_X0_moves : GoodIn wsX10_pushOn wsX0_moves := goodIn_m ge_X10_pushOn ge_X0_moves (by decide +kernel) (by decide +kernel)
set_option maxRecDepth 20000 in
theorem gX10_pushOn_X0_moves_u108X0 : GoodIn wsX10_pushOn (va_wsO RX10 108 RX0 "PaperBubbles$Tool" ⟨"PaperBubbles$Tool", "moves", "(III)I"⟩ yX0_moves wsX0_moves) := goodIn_app (goodIn_m (cs := [493, 494, 495, 496, 309, 76]) ge_X10_pushOn rfl (by decide +kernel) (by decide +kernel)) ggX10_pushOn_X0_moves
set_option maxRecDepth 20000 in
theorem ggX10_pushOn_X1_moves : GoodIn wsX10_pushOn wsX1_moves := goodIn_m ge_X10_pushOn ge_X1_moves (by decide +kernel) (by decide +kernel)
set_option maxRecDepth 20000 in
theorem gX10_pushOn_X1_moves_u108X1 : GoodIn wsX10_pushOn (va_wsO RX10 108 RX1 "PaperBubbles$Tool" ⟨"PaperBubbles$Tool", "moves", "(III)I"⟩ yX1_moves wsX1_moves) := goodIn_app (goodIn_m (cs := [493, 494, 495, 498, 499, 410]) ge_X10_pushOn rfl (by decide +kernel) (by decide +kernel)) ggX10_pushOn_X1_moves
set_option maxRecDepth 20000 in
theorem ggX10_pushOn_X4_moves : GoodIn wsX10_pushOn wsX4_moves := goodIn_m ge_X10_pushOn ge_X4_moves (by decide +kernel) (by decide +kernel)
set_option maxRecDepth 20000 in
theorem gX10_pushOn_X4_moves_u108X2 : GoodIn wsX10_pushOn (va_wsO RX10 108 RX2 "PaperBubbles$Tool" ⟨"PaperBubbles$Tool", "moves", "(III)I"⟩ yX4_moves wsX4_moves) := goodIn_app (goodIn_m (cs := [493, 494, 495, 500, 501, 85]) ge_X10_pushOn rfl (by decide +kernel) (by decide +kernel)) ggX10_pushOn_X4_moves
set_option maxRecDepth 20000 in
theorem gX10_pushOn_X4_moves_u108X4 : GoodIn wsX10_pushOn (va_wsO RX10 108 RX4 "PaperBubbles$Tool" ⟨"PaperBubbles$Tool", "moves", "(III)I"⟩ yX4_moves wsX4_moves) := goodIn_app (goodIn_m (cs := [493, 494, 495, 503, 501, 85]) ge_X10_pushOn rfl (by decide +kernel) (by decide +kernel)) ggX10_pushOn_X4_moves
set_option maxRecDepth 20000 in
theorem ggX10_pushOn_X5_moves : GoodIn wsX10_pushOn wsX5_moves := goodIn_m ge_X10_pushOn ge_X5_moves (by decide +kernel) (by decide +kernel)
set_option maxRecDepth 20000 in
theorem gX10_pushOn_X5_moves_u108X5 : GoodIn wsX10_pushOn (va_wsO RX10 108 RX5 "PaperBubbles$Tool" ⟨"PaperBubbles$Tool", "moves", "(III)I"⟩ yX5_moves wsX5_moves) := goodIn_app (goodIn_m (cs := [493, 494, 495, 504, 49, 32]) ge_X10_pushOn rfl (by decide +kernel) (by decide +kernel)) ggX10_pushOn_X5_moves
set_option maxRecDepth 20000 in
theorem ggX10_pushOn_X6_moves : GoodIn wsX10_pushOn wsX6_moves := goodIn_m ge_X10_pushOn ge_X6_moves (by decide +kernel) (by decide +kernel)
set_option maxRecDepth 20000 in
theorem gX10_pushOn_X6_moves_u108X6 : GoodIn wsX10_pushOn (va_wsO RX10 108 RX6 "PaperBubbles$Tool" ⟨"PaperBubbles$Tool", "moves", "(III)I"⟩ yX6_moves wsX6_moves) := goodIn_app (goodIn_m (cs := [493, 494, 495, 505, 506, 507]) ge_X10_pushOn rfl (by decide +kernel) (by decide +kernel)) ggX10_pushOn_X6_moves
set_option maxRecDepth 20000 in
theorem ggX10_pushOn_X8_moves : GoodIn wsX10_pushOn wsX8_moves := goodIn_m ge_X10_pushOn ge_X8_moves (by decide +kernel) (by decide +kernel)
set_option maxRecDepth 20000 in
theorem gX10_pushOn_X8_moves : GoodIn wsX10_pushOn (wsV RX10 108 RX8 yX8_moves wsX8_moves) := goodIn_app (goodIn_m (cs := [493, 495, 508, 2]) ge_X10_pushOn rfl (by decide +kernel) (by decide +kernel)) ggX10_pushOn_X8_moves
set_option maxRecDepth 20000 in
theorem ggX10_pushOn_X10_beside : GoodIn wsX10_pushOn wsX10_beside := goodIn_m ge_X10_pushOn ge_X10_beside (by decide +kernel) (by decide +kernel)
set_option maxRecDepth 20000 in
theorem gX10_pushOn_X10_beside : GoodIn wsX10_pushOn (wsV RX10 111 RX10 yX10_beside wsX10_beside) := goodIn_app (goodIn_m (cs := [509, 510, 511, 320]) ge_X10_pushOn rfl (by decide +kernel) (by decide +kernel)) ggX10_pushOn_X10_beside
set_option maxRecDepth 20000 in
theorem ggX10_pushOn_X10_has : GoodIn wsX10_pushOn wsX10_has := goodIn_m ge_X10_pushOn ge_X10_has (by decide +kernel) (by decide +kernel)
set_option maxRecDepth 20000 in
theorem gX10_pushOn_X10_has : GoodIn wsX10_pushOn (wsV RX10 74 RX10 yX10_has wsX10_has) := goodIn_app (goodIn_m (cs := [437, 438, 439, 320]) ge_X10_pushOn rfl (by decide +kernel) (by decide +kernel)) ggX10_pushOn_X10_has
set_option maxRecDepth 20000 in
theorem ggX10_pushOn_X10_goesOut : GoodIn wsX10_pushOn wsX10_goesOut := goodIn_m ge_X10_pushOn ge_X10_goesOut (by decide +kernel) (by decide +kernel)
set_option maxRecDepth 20000 in
theorem gX10_pushOn_X10_goesOut : GoodIn wsX10_pushOn (wsV RX10 87 RX10 yX10_goesOut wsX10_goesOut) := goodIn_app (goodIn_m (cs := [456, 457, 458, 320]) ge_X10_pushOn rfl (by decide +kernel) (by decide +kernel)) ggX10_pushOn_X10_goesOut
set_option maxRecDepth 20000 in
theorem ggX10_pushOn_X10_isOpen : GoodIn wsX10_pushOn wsX10_isOpen := goodIn_m ge_X10_pushOn ge_X10_isOpen (by decide +kernel) (by decide +kernel)
set_option maxRecDepth 20000 in
theorem gX10_pushOn_X10_isOpen : GoodIn wsX10_pushOn (wsV RX10 114 RX10 yX10_isOpen wsX10_isOpen) := goodIn_app (goodIn_m (cs := [512, 513, 514, 320]) ge_X10_pushOn rfl (by decide +kernel) (by decide +kernel)) ggX10_pushOn_X10_isOpen
set_option maxRecDepth 20000 in
theorem ggX10_passNight_X10_has : GoodIn wsX10_passNight wsX10_has := goodIn_m ge_X10_passNight ge_X10_has (by decide +kernel) (by decide +kernel)
set_option maxRecDepth 20000 in
theorem gX10_passNight_X10_has : GoodIn wsX10_passNight (wsV RX10 74 RX10 yX10_has wsX10_has) := goodIn_app (goodIn_m (cs := [437, 438, 439, 320]) ge_X10_passNight rfl (by decide +kernel) (by decide +kernel)) ggX10_passNight_X10_has
set_option maxRecDepth 20000 in
theorem ggX10_allAir_X10_has : GoodIn wsX10_allAir wsX10_has := goodIn_m ge_X10_allAir ge_X10_has (by decide +kernel) (by decide +kernel)
set_option maxRecDepth 20000 in
theorem gX10_allAir_X10_has : GoodIn wsX10_allAir (wsV RX10 74 RX10 yX10_has wsX10_has) := goodIn_app (goodIn_m (cs := [437, 438, 439, 320]) ge_X10_allAir rfl (by decide +kernel) (by decide +kernel)) ggX10_allAir_X10_has
set_option maxRecDepth 20000 in
theorem ggX10_cellsWithAir_X10_has : GoodIn wsX10_cellsWithAir wsX10_has := goodIn_m ge_X10_cellsWithAir ge_X10_has (by decide +kernel) (by decide +kernel)
set_option maxRecDepth 20000 in
theorem gX10_cellsWithAir_X10_has : GoodIn wsX10_cellsWithAir (wsV RX10 74 RX10 yX10_has wsX10_has) := goodIn_app (goodIn_m (cs := [437, 438, 439, 320]) ge_X10_cellsWithAir rfl (by decide +kernel) (by decide +kernel)) ggX10_cellsWithAir_X10_has
set_option maxRecDepth 20000 in
theorem ggX10_shownBy_X10_has : GoodIn wsX10_shownBy wsX10_has := goodIn_m ge_X10_shownBy ge_X10_has (by decide +kernel) (by decide +kernel)
set_option maxRecDepth 20000 in
theorem gX10_shownBy_X10_has : GoodIn wsX10_shownBy (wsV RX10 74 RX10 yX10_has wsX10_has) := goodIn_app (goodIn_m (cs := [437, 438, 439, 320]) ge_X10_shownBy rfl (by decide +kernel) (by decide +kernel)) ggX10_shownBy_X10_has
set_option maxRecDepth 20000 in
theorem ggX10_shownBy_X3_gives : GoodIn wsX10_shownBy wsX3_gives := goodIn_m ge_X10_shownBy ge_X3_gives (by decide +kernel) (by decide +kernel)
set_option maxRecDepth 20000 in
theorem gX10_shownBy_X3_gives : GoodIn wsX10_shownBy (wsV RX10 102 RX3 yX3_gives wsX3_gives) := goodIn_app (goodIn_m (cs := [490, 491, 492, 119]) ge_X10_shownBy rfl (by decide +kernel) (by decide +kernel)) ggX10_shownBy_X3_gives
set_option maxRecDepth 20000 in
theorem ggX10_isLit_X10_beside : GoodIn wsX10_isLit wsX10_beside := goodIn_m ge_X10_isLit ge_X10_beside (by decide +kernel) (by decide +kernel)
set_option maxRecDepth 20000 in
theorem gX10_isLit_X10_beside : GoodIn wsX10_isLit (wsV RX10 111 RX10 yX10_beside wsX10_beside) := goodIn_app (goodIn_m (cs := [509, 510, 511, 320]) ge_X10_isLit rfl (by decide +kernel) (by decide +kernel)) ggX10_isLit_X10_beside
set_option maxRecDepth 20000 in
theorem ggX10_isLit_X10_has : GoodIn wsX10_isLit wsX10_has := goodIn_m ge_X10_isLit ge_X10_has (by decide +kernel) (by decide +kernel)
set_option maxRecDepth 20000 in
theorem gX10_isLit_X10_has : GoodIn wsX10_isLit (wsV RX10 74 RX10 yX10_has wsX10_has) := goodIn_app (goodIn_m (cs := [437, 438, 439, 320]) ge_X10_isLit rfl (by decide +kernel) (by decide +kernel)) ggX10_isLit_X10_has
set_option maxRecDepth 20000 in
theorem ggX10_sizeOfBubble_J7_fill_53178 : GoodIn wsX10_sizeOfBubble wsJ7_fill_53178 := goodIn_m ge_X10_sizeOfBubble ge_J7_fill_53178 (by decide +kernel) (by decide +kernel)
set_option maxRecDepth 20000 in
theorem gX10_sizeOfBubble_J7_fill_53178 : GoodIn wsX10_sizeOfBubble (va_wsS RX10 34 yJ7_fill_53178 wsJ7_fill_53178) := goodIn_app (goodIn_m (cs := [343, 344, 345]) ge_X10_sizeOfBubble rfl (by decide +kernel) (by decide +kernel)) ggX10_sizeOfBubble_J7_fill_53178
set_option maxRecDepth 20000 in
theorem ggX10_sizeOfBubble_X10_meetBubble : GoodIn wsX10_sizeOfBubble wsX10_meetBubble := goodIn_m ge_X10_sizeOfBubble ge_X10_meetBubble (by decide +kernel) (by decide +kernel)
set_option maxRecDepth 20000 in
theorem gX10_sizeOfBubble_X10_meetBubble : GoodIn wsX10_sizeOfBubble (wsV RX10 120 RX10 yX10_meetBubble wsX10_meetBubble) := goodIn_app (goodIn_m (cs := [522, 523, 524, 320]) ge_X10_sizeOfBubble rfl (by decide +kernel) (by decide +kernel)) ggX10_sizeOfBubble_X10_meetBubble
set_option maxRecDepth 20000 in
theorem ggX10_countBubbles_J7_fill_53178 : GoodIn wsX10_countBubbles wsJ7_fill_53178 := goodIn_m ge_X10_countBubbles ge_J7_fill_53178 (by decide +kernel) (by decide +kernel)
set_option maxRecDepth 20000 in
theorem gX10_countBubbles_J7_fill_53178 : GoodIn wsX10_countBubbles (va_wsS RX10 34 yJ7_fill_53178 wsJ7_fill_53178) := goodIn_app (goodIn_m (cs := [343, 344, 345]) ge_X10_countBubbles rfl (by decide +kernel) (by decide +kernel)) ggX10_countBubbles_J7_fill_53178
set_option maxRecDepth 20000 in
theorem ggX10_countBubbles_X10_has : GoodIn wsX10_countBubbles wsX10_has := goodIn_m ge_X10_countBubbles ge_X10_has (by decide +kernel) (by decide +kernel)
set_option maxRecDepth 20000 in
theorem gX10_countBubbles_X10_has : GoodIn wsX10_countBubbles (wsV RX10 74 RX10 yX10_has wsX10_has) := goodIn_app (goodIn_m (cs := [437, 438, 439, 320]) ge_X10_countBubbles rfl (by decide +kernel) (by decide +kernel)) ggX10_countBubbles_X10_has
set_option maxRecDepth 20000 in
theorem ggX10_countBubbles_X10_meetBubble : GoodIn wsX10_countBubbles wsX10_meetBubble := goodIn_m ge_X10_countBubbles ge_X10_meetBubble (by decide +kernel) (by decide +kernel)
set_option maxRecDepth 20000 in
theorem gX10_countBubbles_X10_meetBubble : GoodIn wsX10_countBubbles (wsV RX10 120 RX10 yX10_meetBubble wsX10_meetBubble) := goodIn_app (goodIn_m (cs := [522, 523, 524, 320]) ge_X10_countBubbles rfl (by decide +kernel) (by decide +kernel)) ggX10_countBubbles_X10_meetBubble
set_option maxRecDepth 20000 in
theorem ggX10_cellOfBiggest_J7_fill_53178 : GoodIn wsX10_cellOfBiggest wsJ7_fill_53178 := goodIn_m ge_X10_cellOfBiggest ge_J7_fill_53178 (by decide +kernel) (by decide +kernel)
set_option maxRecDepth 20000 in
theorem gX10_cellOfBiggest_J7_fill_53178 : GoodIn wsX10_cellOfBiggest (va_wsS RX10 34 yJ7_fill_53178 wsJ7_fill_53178) := goodIn_app (goodIn_m (cs := [343, 344, 345]) ge_X10_cellOfBiggest rfl (by decide +kernel) (by decide +kernel)) ggX10_cellOfBiggest_J7_fill_53178
set_option maxRecDepth 20000 in
theorem ggX10_cellOfBiggest_X10_has : GoodIn wsX10_cellOfBiggest wsX10_has := goodIn_m ge_X10_cellOfBiggest ge_X10_has (by decide +kernel) (by decide +kernel)
set_option maxRecDepth 20000 in
theorem gX10_cellOfBiggest_X10_has : GoodIn wsX10_cellOfBiggest (wsV RX10 74 RX10 yX10_has wsX10_has) := goodIn_app (goodIn_m (cs := [437, 438, 439, 320]) ge_X10_cellOfBiggest rfl (by decide +kernel) (by decide +kernel)) ggX10_cellOfBiggest_X10_has
set_option maxRecDepth 20000 in
theorem ggX10_cellOfBiggest_X10_meetBubble : GoodIn wsX10_cellOfBiggest wsX10_meetBubble := goodIn_m ge_X10_cellOfBiggest ge_X10_meetBubble (by decide +kernel) (by decide +kernel)
set_option maxRecDepth 20000 in
theorem gX10_cellOfBiggest_X10_meetBubble : GoodIn wsX10_cellOfBiggest (wsV RX10 120 RX10 yX10_meetBubble wsX10_meetBubble) := goodIn_app (goodIn_m (cs := [522, 523, 524, 320]) ge_X10_cellOfBiggest rfl (by decide +kernel) (by decide +kernel)) ggX10_cellOfBiggest_X10_meetBubble
set_option maxRecDepth 20000 in
theorem ggX10_meetBubble_X10_meet : GoodIn wsX10_meetBubble wsX10_meet := goodIn_m ge_X10_meetBubble ge_X10_meet (by decide +kernel) (by decide +kernel)
set_option maxRecDepth 20000 in
theorem gX10_meetBubble_X10_meet : GoodIn wsX10_meetBubble (wsV RX10 126 RX10 yX10_meet wsX10_meet) := goodIn_app (goodIn_m (cs := [527, 528, 529, 320]) ge_X10_meetBubble rfl (by decide +kernel) (by decide +kernel)) ggX10_meetBubble_X10_meet
set_option maxRecDepth 20000 in
theorem ggX10_meetBubble_X10_beside : GoodIn wsX10_meetBubble wsX10_beside := goodIn_m ge_X10_meetBubble ge_X10_beside (by decide +kernel) (by decide +kernel)
set_option maxRecDepth 20000 in
theorem gX10_meetBubble_X10_beside : GoodIn wsX10_meetBubble (wsV RX10 111 RX10 yX10_beside wsX10_beside) := goodIn_app (goodIn_m (cs := [509, 510, 511, 320]) ge_X10_meetBubble rfl (by decide +kernel) (by decide +kernel)) ggX10_meetBubble_X10_beside
set_option maxRecDepth 20000 in
theorem ggX10_meet_X10_has : GoodIn wsX10_meet wsX10_has := goodIn_m ge_X10_meet ge_X10_has (by decide +kernel) (by decide +kernel)
set_option maxRecDepth 20000 in
theorem gX10_meet_X10_has : GoodIn wsX10_meet (wsV RX10 74 RX10 yX10_has wsX10_has) := goodIn_app (goodIn_m (cs := [437, 438, 439, 320]) ge_X10_meet rfl (by decide +kernel) (by decide +kernel)) ggX10_meet_X10_has
set_option maxRecDepth 20000 in
theorem ggX11_wall_X11_within : GoodIn wsX11_wall wsX11_within := goodIn_m ge_X11_wall ge_X11_within (by decide +kernel) (by decide +kernel)
set_option maxRecDepth 20000 in
theorem gX11_wall_X11_within : GoodIn wsX11_wall (va_wsS RX11 78 yX11_within wsX11_within) := goodIn_app (goodIn_m (cs := [420, 122, 123]) ge_X11_wall rfl (by decide +kernel) (by decide +kernel)) ggX11_wall_X11_within
set_option maxRecDepth 20000 in
theorem ggX11_wall_X11_error : GoodIn wsX11_wall wsX11_error := goodIn_m ge_X11_wall ge_X11_error (by decide +kernel) (by decide +kernel)
set_option maxRecDepth 20000 in
theorem gX11_wall_X11_error : GoodIn wsX11_wall (wsV RX11 82 RX11 yX11_error wsX11_error) := goodIn_app (goodIn_m (cs := [587, 588, 589, 123]) ge_X11_wall rfl (by decide +kernel) (by decide +kernel)) ggX11_wall_X11_error
set_option maxRecDepth 20000 in
theorem ggX11_wall_X10_lay : GoodIn wsX11_wall wsX10_lay := goodIn_m ge_X11_wall ge_X10_lay (by decide +kernel) (by decide +kernel)
set_option maxRecDepth 20000 in
theorem gX11_wall_X10_lay : GoodIn wsX11_wall (wsV RX11 89 RX10 yX10_lay wsX10_lay) := goodIn_app (goodIn_m (cs := [592, 593, 594, 320]) ge_X11_wall rfl (by decide +kernel) (by decide +kernel)) ggX11_wall_X10_lay
set_option maxRecDepth 20000 in
theorem ggX11_wall_X10_cells : GoodIn wsX11_wall wsX10_cells := goodIn_m ge_X11_wall ge_X10_cells (by decide +kernel) (by decide +kernel)
set_option maxRecDepth 20000 in
theorem gX11_wall_X10_cells : GoodIn wsX11_wall (wsV RX11 93 RX10 yX10_cells wsX10_cells) := goodIn_app (goodIn_m (cs := [595, 596, 597, 320]) ge_X11_wall rfl (by decide +kernel) (by decide +kernel)) ggX11_wall_X10_cells
set_option maxRecDepth 20000 in
theorem ggX11_set_X11_isCell : GoodIn wsX11_set wsX11_isCell := goodIn_m ge_X11_set ge_X11_isCell (by decide +kernel) (by decide +kernel)
set_option maxRecDepth 20000 in
theorem gX11_set_X11_isCell : GoodIn wsX11_set (wsV RX11 97 RX11 yX11_isCell wsX11_isCell) := goodIn_app (goodIn_m (cs := [600, 601, 602, 123]) ge_X11_set rfl (by decide +kernel) (by decide +kernel)) ggX11_set_X11_isCell
set_option maxRecDepth 20000 in
theorem ggX11_set_X11_within : GoodIn wsX11_set wsX11_within := goodIn_m ge_X11_set ge_X11_within (by decide +kernel) (by decide +kernel)
set_option maxRecDepth 20000 in
theorem gX11_set_X11_within : GoodIn wsX11_set (va_wsS RX11 78 yX11_within wsX11_within) := goodIn_app (goodIn_m (cs := [420, 122, 123]) ge_X11_set rfl (by decide +kernel) (by decide +kernel)) ggX11_set_X11_within
set_option maxRecDepth 20000 in
theorem ggX11_set_X11_error : GoodIn wsX11_set wsX11_error := goodIn_m ge_X11_set ge_X11_error (by decide +kernel) (by decide +kernel)
set_option maxRecDepth 20000 in
theorem gX11_set_X11_error : GoodIn wsX11_set (wsV RX11 82 RX11 yX11_error wsX11_error) := goodIn_app (goodIn_m (cs := [587, 588, 589, 123]) ge_X11_set rfl (by decide +kernel) (by decide +kernel)) ggX11_set_X11_error
set_option maxRecDepth 20000 in
theorem ggX11_ofCell_X11_isCell : GoodIn wsX11_ofCell wsX11_isCell := goodIn_m ge_X11_ofCell ge_X11_isCell (by decide +kernel) (by decide +kernel)
set_option maxRecDepth 20000 in
theorem gX11_ofCell_X11_isCell : GoodIn wsX11_ofCell (wsV RX11 97 RX11 yX11_isCell wsX11_isCell) := goodIn_app (goodIn_m (cs := [600, 601, 602, 123]) ge_X11_ofCell rfl (by decide +kernel) (by decide +kernel)) ggX11_ofCell_X11_isCell
set_option maxRecDepth 20000 in
theorem ggX11_ofCell_X11_error : GoodIn wsX11_ofCell wsX11_error := goodIn_m ge_X11_ofCell ge_X11_error (by decide +kernel) (by decide +kernel)
set_option maxRecDepth 20000 in
theorem gX11_ofCell_X11_error : GoodIn wsX11_ofCell (wsV RX11 82 RX11 yX11_error wsX11_error) := goodIn_app (goodIn_m (cs := [587, 588, 589, 123]) ge_X11_ofCell rfl (by decide +kernel) (by decide +kernel)) ggX11_ofCell_X11_error
set_option maxRecDepth 20000 in
theorem ggX11_ofCell_X10_rowOf : GoodIn wsX11_ofCell wsX10_rowOf := goodIn_m ge_X11_ofCell ge_X10_rowOf (by decide +kernel) (by decide +kernel)
set_option maxRecDepth 20000 in
theorem gX11_ofCell_X10_rowOf : GoodIn wsX11_ofCell (wsV RX11 111 RX10 yX10_rowOf wsX10_rowOf) := goodIn_app (goodIn_m (cs := [606, 423, 424, 320]) ge_X11_ofCell rfl (by decide +kernel) (by decide +kernel)) ggX11_ofCell_X10_rowOf
set_option maxRecDepth 20000 in
theorem ggX11_ofCell_X10_columnOf : GoodIn wsX11_ofCell wsX10_columnOf := goodIn_m ge_X11_ofCell ge_X10_columnOf (by decide +kernel) (by decide +kernel)
set_option maxRecDepth 20000 in
theorem gX11_ofCell_X10_columnOf : GoodIn wsX11_ofCell (wsV RX11 114 RX10 yX10_columnOf wsX10_columnOf) := goodIn_app (goodIn_m (cs := [607, 427, 428, 320]) ge_X11_ofCell rfl (by decide +kernel) (by decide +kernel)) ggX11_ofCell_X10_columnOf
set_option maxRecDepth 20000 in
theorem ggX11_ofCell_X3_gives : GoodIn wsX11_ofCell wsX3_gives := goodIn_m ge_X11_ofCell ge_X3_gives (by decide +kernel) (by decide +kernel)
set_option maxRecDepth 20000 in
theorem gX11_ofCell_X3_gives : GoodIn wsX11_ofCell (wsV RX11 117 RX3 yX3_gives wsX3_gives) := goodIn_app (goodIn_m (cs := [608, 491, 492, 119]) ge_X11_ofCell rfl (by decide +kernel) (by decide +kernel)) ggX11_ofCell_X3_gives
set_option maxRecDepth 20000 in
theorem ggX11_ofCell_X10_sizeOfBubble : GoodIn wsX11_ofCell wsX10_sizeOfBubble := goodIn_m ge_X11_ofCell ge_X10_sizeOfBubble (by decide +kernel) (by decide +kernel)
set_option maxRecDepth 20000 in
theorem gX11_ofCell_X10_sizeOfBubble : GoodIn wsX11_ofCell (wsV RX11 123 RX10 yX10_sizeOfBubble wsX10_sizeOfBubble) := goodIn_app (goodIn_m (cs := [609, 610, 611, 320]) ge_X11_ofCell rfl (by decide +kernel) (by decide +kernel)) ggX11_ofCell_X10_sizeOfBubble
set_option maxRecDepth 20000 in
theorem ggX11_edge_X11_isWay : GoodIn wsX11_edge wsX11_isWay := goodIn_m ge_X11_edge ge_X11_isWay (by decide +kernel) (by decide +kernel)
set_option maxRecDepth 20000 in
theorem gX11_edge_X11_isWay : GoodIn wsX11_edge (va_wsS RX11 126 yX11_isWay wsX11_isWay) := goodIn_app (goodIn_m (cs := [613, 418, 123]) ge_X11_edge rfl (by decide +kernel) (by decide +kernel)) ggX11_edge_X11_isWay
set_option maxRecDepth 20000 in
theorem ggX11_edge_X11_within : GoodIn wsX11_edge wsX11_within := goodIn_m ge_X11_edge ge_X11_within (by decide +kernel) (by decide +kernel)
set_option maxRecDepth 20000 in
theorem gX11_edge_X11_within : GoodIn wsX11_edge (va_wsS RX11 78 yX11_within wsX11_within) := goodIn_app (goodIn_m (cs := [420, 122, 123]) ge_X11_edge rfl (by decide +kernel) (by decide +kernel)) ggX11_edge_X11_within
set_option maxRecDepth 20000 in
theorem ggX11_edge_X11_error : GoodIn wsX11_edge wsX11_error := goodIn_m ge_X11_edge ge_X11_error (by decide +kernel) (by decide +kernel)
set_option maxRecDepth 20000 in
theorem gX11_edge_X11_error : GoodIn wsX11_edge (wsV RX11 82 RX11 yX11_error wsX11_error) := goodIn_app (goodIn_m (cs := [587, 588, 589, 123]) ge_X11_edge rfl (by decide +kernel) (by decide +kernel)) ggX11_edge_X11_error
set_option maxRecDepth 20000 in
theorem ggX11_tool_X11_within : GoodIn wsX11_tool wsX11_within := goodIn_m ge_X11_tool ge_X11_within (by decide +kernel) (by decide +kernel)
set_option maxRecDepth 20000 in
theorem gX11_tool_X11_within : GoodIn wsX11_tool (va_wsS RX11 78 yX11_within wsX11_within) := goodIn_app (goodIn_m (cs := [420, 122, 123]) ge_X11_tool rfl (by decide +kernel) (by decide +kernel)) ggX11_tool_X11_within
set_option maxRecDepth 20000 in
theorem ggX11_tool_X11_error : GoodIn wsX11_tool wsX11_error := goodIn_m ge_X11_tool ge_X11_error (by decide +kernel) (by decide +kernel)
set_option maxRecDepth 20000 in
theorem gX11_tool_X11_error : GoodIn wsX11_tool (wsV RX11 82 RX11 yX11_error wsX11_error) := goodIn_app (goodIn_m (cs := [587, 588, 589, 123]) ge_X11_tool rfl (by decide +kernel) (by decide +kernel)) ggX11_tool_X11_error
set_option maxRecDepth 20000 in
theorem ggX11_ofTool_X11_isTool : GoodIn wsX11_ofTool wsX11_isTool := goodIn_m ge_X11_ofTool ge_X11_isTool (by decide +kernel) (by decide +kernel)
set_option maxRecDepth 20000 in
theorem gX11_ofTool_X11_isTool : GoodIn wsX11_ofTool (wsV RX11 142 RX11 yX11_isTool wsX11_isTool) := goodIn_app (goodIn_m (cs := [617, 618, 619, 123]) ge_X11_ofTool rfl (by decide +kernel) (by decide +kernel)) ggX11_ofTool_X11_isTool
set_option maxRecDepth 20000 in
theorem ggX11_ofTool_X11_error : GoodIn wsX11_ofTool wsX11_error := goodIn_m ge_X11_ofTool ge_X11_error (by decide +kernel) (by decide +kernel)
set_option maxRecDepth 20000 in
theorem gX11_ofTool_X11_error : GoodIn wsX11_ofTool (wsV RX11 82 RX11 yX11_error wsX11_error) := goodIn_app (goodIn_m (cs := [587, 588, 589, 123]) ge_X11_ofTool rfl (by decide +kernel) (by decide +kernel)) ggX11_ofTool_X11_error
set_option maxRecDepth 20000 in
theorem ggX11_ofTool_X11_kindOf : GoodIn wsX11_ofTool wsX11_kindOf := goodIn_m ge_X11_ofTool ge_X11_kindOf (by decide +kernel) (by decide +kernel)
set_option maxRecDepth 20000 in
theorem gX11_ofTool_X11_kindOf : GoodIn wsX11_ofTool (wsV RX11 145 RX11 yX11_kindOf wsX11_kindOf) := goodIn_app (goodIn_m (cs := [621, 622, 623, 123]) ge_X11_ofTool rfl (by decide +kernel) (by decide +kernel)) ggX11_ofTool_X11_kindOf
set_option maxRecDepth 20000 in
theorem ggX11_ofTool_X8_reach : GoodIn wsX11_ofTool wsX8_reach := goodIn_m ge_X11_ofTool ge_X8_reach (by decide +kernel) (by decide +kernel)
set_option maxRecDepth 20000 in
theorem gX11_ofTool_X8_reach_u149X0 : GoodIn wsX11_ofTool (va_wsU RX11 149 RX0 "PaperBubbles$Tool" ⟨"PaperBubbles$Tool", "reach", "(I)I"⟩ yX8_reach wsX8_reach) := goodIn_app (goodIn_m (cs := [629, 475, 476, 477, 2]) ge_X11_ofTool rfl (by decide +kernel) (by decide +kernel)) ggX11_ofTool_X8_reach
set_option maxRecDepth 20000 in
theorem ggX11_ofTool_X1_reach : GoodIn wsX11_ofTool wsX1_reach := goodIn_m ge_X11_ofTool ge_X1_reach (by decide +kernel) (by decide +kernel)
set_option maxRecDepth 20000 in
theorem gX11_ofTool_X1_reach_u149X1 : GoodIn wsX11_ofTool (va_wsO RX11 149 RX1 "PaperBubbles$Tool" ⟨"PaperBubbles$Tool", "reach", "(I)I"⟩ yX1_reach wsX1_reach) := goodIn_app (goodIn_m (cs := [629, 475, 477, 479, 480, 410]) ge_X11_ofTool rfl (by decide +kernel) (by decide +kernel)) ggX11_ofTool_X1_reach
set_option maxRecDepth 20000 in
theorem gX11_ofTool_X8_reach_u149X2 : GoodIn wsX11_ofTool (va_wsU RX11 149 RX2 "PaperBubbles$Tool" ⟨"PaperBubbles$Tool", "reach", "(I)I"⟩ yX8_reach wsX8_reach) := goodIn_app (goodIn_m (cs := [629, 475, 481, 477, 2]) ge_X11_ofTool rfl (by decide +kernel) (by decide +kernel)) ggX11_ofTool_X8_reach
set_option maxRecDepth 20000 in
theorem gX11_ofTool_X8_reach_u149X4 : GoodIn wsX11_ofTool (va_wsU RX11 149 RX4 "PaperBubbles$Tool" ⟨"PaperBubbles$Tool", "reach", "(I)I"⟩ yX8_reach wsX8_reach) := goodIn_app (goodIn_m (cs := [629, 475, 482, 477, 2]) ge_X11_ofTool rfl (by decide +kernel) (by decide +kernel)) ggX11_ofTool_X8_reach
set_option maxRecDepth 20000 in
theorem ggX11_ofTool_X5_reach : GoodIn wsX11_ofTool wsX5_reach := goodIn_m ge_X11_ofTool ge_X5_reach (by decide +kernel) (by decide +kernel)
set_option maxRecDepth 20000 in
theorem gX11_ofTool_X5_reach_u149X5 : GoodIn wsX11_ofTool (va_wsO RX11 149 RX5 "PaperBubbles$Tool" ⟨"PaperBubbles$Tool", "reach", "(I)I"⟩ yX5_reach wsX5_reach) := goodIn_app (goodIn_m (cs := [629, 475, 477, 483, 54, 32]) ge_X11_ofTool rfl (by decide +kernel) (by decide +kernel)) ggX11_ofTool_X5_reach
set_option maxRecDepth 20000 in
theorem gX11_ofTool_X8_reach_u149X6 : GoodIn wsX11_ofTool (va_wsU RX11 149 RX6 "PaperBubbles$Tool" ⟨"PaperBubbles$Tool", "reach", "(I)I"⟩ yX8_reach wsX8_reach) := goodIn_app (goodIn_m (cs := [629, 475, 484, 477, 2]) ge_X11_ofTool rfl (by decide +kernel) (by decide +kernel)) ggX11_ofTool_X8_reach
set_option maxRecDepth 20000 in
theorem gX11_ofTool_X8_reach : GoodIn wsX11_ofTool (wsV RX11 149 RX8 yX8_reach wsX8_reach) := goodIn_app (goodIn_m (cs := [629, 477, 485, 2]) ge_X11_ofTool rfl (by decide +kernel) (by decide +kernel)) ggX11_ofTool_X8_reach
set_option maxRecDepth 20000 in
theorem ggX11_ofTool_X3_gives : GoodIn wsX11_ofTool wsX3_gives := goodIn_m ge_X11_ofTool ge_X3_gives (by decide +kernel) (by decide +kernel)
set_option maxRecDepth 20000 in
theorem gX11_ofTool_X3_gives : GoodIn wsX11_ofTool (wsV RX11 117 RX3 yX3_gives wsX3_gives) := goodIn_app (goodIn_m (cs := [608, 491, 492, 119]) ge_X11_ofTool rfl (by decide +kernel) (by decide +kernel)) ggX11_ofTool_X3_gives
set_option maxRecDepth 20000 in
theorem ggX11_ofTool_X0_moves : GoodIn wsX11_ofTool wsX0_moves := goodIn_m ge_X11_ofTool ge_X0_moves (by decide +kernel) (by decide +kernel)
set_option maxRecDepth 20000 in
theorem gX11_ofTool_X0_moves_u155X0 : GoodIn wsX11_ofTool (va_wsO RX11 155 RX0 "PaperBubbles$Tool" ⟨"PaperBubbles$Tool", "moves", "(III)I"⟩ yX0_moves wsX0_moves) := goodIn_app (goodIn_m (cs := [630, 494, 495, 496, 309, 76]) ge_X11_ofTool rfl (by decide +kernel) (by decide +kernel)) ggX11_ofTool_X0_moves
set_option maxRecDepth 20000 in
theorem ggX11_ofTool_X1_moves : GoodIn wsX11_ofTool wsX1_moves := goodIn_m ge_X11_ofTool ge_X1_moves (by decide +kernel) (by decide +kernel)
set_option maxRecDepth 20000 in
theorem gX11_ofTool_X1_moves_u155X1 : GoodIn wsX11_ofTool (va_wsO RX11 155 RX1 "PaperBubbles$Tool" ⟨"PaperBubbles$Tool", "moves", "(III)I"⟩ yX1_moves wsX1_moves) := goodIn_app (goodIn_m (cs := [630, 494, 495, 498, 499, 410]) ge_X11_ofTool rfl (by decide +kernel) (by decide +kernel)) ggX11_ofTool_X1_moves
set_option maxRecDepth 20000 in
theorem ggX11_ofTool_X4_moves : GoodIn wsX11_ofTool wsX4_moves := goodIn_m ge_X11_ofTool ge_X4_moves (by decide +kernel) (by decide +kernel)
set_option maxRecDepth 20000 in
theorem gX11_ofTool_X4_moves_u155X2 : GoodIn wsX11_ofTool (va_wsO RX11 155 RX2 "PaperBubbles$Tool" ⟨"PaperBubbles$Tool", "moves", "(III)I"⟩ yX4_moves wsX4_moves) := goodIn_app (goodIn_m (cs := [630, 494, 495, 500, 501, 85]) ge_X11_ofTool rfl (by decide +kernel) (by decide +kernel)) ggX11_ofTool_X4_moves
set_option maxRecDepth 20000 in
theorem gX11_ofTool_X4_moves_u155X4 : GoodIn wsX11_ofTool (va_wsO RX11 155 RX4 "PaperBubbles$Tool" ⟨"PaperBubbles$Tool", "moves", "(III)I"⟩ yX4_moves wsX4_moves) := goodIn_app (goodIn_m (cs := [630, 494, 495, 503, 501, 85]) ge_X11_ofTool rfl (by decide +kernel) (by decide +kernel)) ggX11_ofTool_X4_moves
set_option maxRecDepth 20000 in
theorem ggX11_ofTool_X5_moves : GoodIn wsX11_ofTool wsX5_moves := goodIn_m ge_X11_ofTool ge_X5_moves (by decide +kernel) (by decide +kernel)
set_option maxRecDepth 20000 in
theorem gX11_ofTool_X5_moves_u155X5 : GoodIn wsX11_ofTool (va_wsO RX11 155 RX5 "PaperBubbles$Tool" ⟨"PaperBubbles$Tool", "moves", "(III)I"⟩ yX5_moves wsX5_moves) := goodIn_app (goodIn_m (cs := [630, 494, 495, 504, 49, 32]) ge_X11_ofTool rfl (by decide +kernel) (by decide +kernel)) ggX11_ofTool_X5_moves
set_option maxRecDepth 20000 in
theorem ggX11_ofTool_X6_moves : GoodIn wsX11_ofTool wsX6_moves := goodIn_m ge_X11_ofTool ge_X6_moves (by decide +kernel) (by decide +kernel)
set_option maxRecDepth 20000 in
theorem gX11_ofTool_X6_moves_u155X6 : GoodIn wsX11_ofTool (va_wsO RX11 155 RX6 "PaperBubbles$Tool" ⟨"PaperBubbles$Tool", "moves", "(III)I"⟩ yX6_moves wsX6_moves) := goodIn_app (goodIn_m (cs := [630, 494, 495, 505, 506, 507]) ge_X11_ofTool rfl (by decide +kernel) (by decide +kernel)) ggX11_ofTool_X6_moves
set_option maxRecDepth 20000 in
theorem ggX11_ofTool_X8_moves : GoodIn wsX11_ofTool wsX8_moves := goodIn_m ge_X11_ofTool ge_X8_moves (by decide +kernel) (by decide +kernel)
set_option maxRecDepth 20000 in
theorem gX11_ofTool_X8_moves : GoodIn wsX11_ofTool (wsV RX11 155 RX8 yX8_moves wsX8_moves) := goodIn_app (goodIn_m (cs := [630, 495, 508, 2]) ge_X11_ofTool rfl (by decide +kernel) (by decide +kernel)) ggX11_ofTool_X8_moves
set_option maxRecDepth 20000 in
theorem ggX11_ofTool_X8_lets : GoodIn wsX11_ofTool wsX8_lets := goodIn_m ge_X11_ofTool ge_X8_lets (by decide +kernel) (by decide +kernel)
set_option maxRecDepth 20000 in
theorem gX11_ofTool_X8_lets_u164X0 : GoodIn wsX11_ofTool (va_wsU RX11 164 RX0 "PaperBubbles$Tool" ⟨"PaperBubbles$Tool", "lets", "(II)I"⟩ yX8_lets wsX8_lets) := goodIn_app (goodIn_m (cs := [631, 442, 443, 444, 2]) ge_X11_ofTool rfl (by decide +kernel) (by decide +kernel)) ggX11_ofTool_X8_lets
set_option maxRecDepth 20000 in
theorem gX11_ofTool_X8_lets_u164X1 : GoodIn wsX11_ofTool (va_wsU RX11 164 RX1 "PaperBubbles$Tool" ⟨"PaperBubbles$Tool", "lets", "(II)I"⟩ yX8_lets wsX8_lets) := goodIn_app (goodIn_m (cs := [631, 442, 446, 444, 2]) ge_X11_ofTool rfl (by decide +kernel) (by decide +kernel)) ggX11_ofTool_X8_lets
set_option maxRecDepth 20000 in
theorem ggX11_ofTool_X2_lets : GoodIn wsX11_ofTool wsX2_lets := goodIn_m ge_X11_ofTool ge_X2_lets (by decide +kernel) (by decide +kernel)
set_option maxRecDepth 20000 in
theorem gX11_ofTool_X2_lets_u164X2 : GoodIn wsX11_ofTool (va_wsO RX11 164 RX2 "PaperBubbles$Tool" ⟨"PaperBubbles$Tool", "lets", "(II)I"⟩ yX2_lets wsX2_lets) := goodIn_app (goodIn_m (cs := [631, 442, 444, 447, 448, 401]) ge_X11_ofTool rfl (by decide +kernel) (by decide +kernel)) ggX11_ofTool_X2_lets
set_option maxRecDepth 20000 in
theorem ggX11_ofTool_X4_lets : GoodIn wsX11_ofTool wsX4_lets := goodIn_m ge_X11_ofTool ge_X4_lets (by decide +kernel) (by decide +kernel)
set_option maxRecDepth 20000 in
theorem gX11_ofTool_X4_lets_u164X4 : GoodIn wsX11_ofTool (va_wsO RX11 164 RX4 "PaperBubbles$Tool" ⟨"PaperBubbles$Tool", "lets", "(II)I"⟩ yX4_lets wsX4_lets) := goodIn_app (goodIn_m (cs := [631, 442, 444, 450, 451, 85]) ge_X11_ofTool rfl (by decide +kernel) (by decide +kernel)) ggX11_ofTool_X4_lets
set_option maxRecDepth 20000 in
theorem gX11_ofTool_X8_lets_u164X5 : GoodIn wsX11_ofTool (va_wsU RX11 164 RX5 "PaperBubbles$Tool" ⟨"PaperBubbles$Tool", "lets", "(II)I"⟩ yX8_lets wsX8_lets) := goodIn_app (goodIn_m (cs := [631, 442, 453, 444, 2]) ge_X11_ofTool rfl (by decide +kernel) (by decide +kernel)) ggX11_ofTool_X8_lets
set_option maxRecDepth 20000 in
theorem gX11_ofTool_X8_lets_u164X6 : GoodIn wsX11_ofTool (va_wsU RX11 164 RX6 "PaperBubbles$Tool" ⟨"PaperBubbles$Tool", "lets", "(II)I"⟩ yX8_lets wsX8_lets) := goodIn_app (goodIn_m (cs := [631, 442, 454, 444, 2]) ge_X11_ofTool rfl (by decide +kernel) (by decide +kernel)) ggX11_ofTool_X8_lets
set_option maxRecDepth 20000 in
theorem gX11_ofTool_X8_lets : GoodIn wsX11_ofTool (wsV RX11 164 RX8 yX8_lets wsX8_lets) := goodIn_app (goodIn_m (cs := [631, 444, 455, 2]) ge_X11_ofTool rfl (by decide +kernel) (by decide +kernel)) ggX11_ofTool_X8_lets
set_option maxRecDepth 20000 in
theorem ggX11_ofTool_X8_tears : GoodIn wsX11_ofTool wsX8_tears := goodIn_m ge_X11_ofTool ge_X8_tears (by decide +kernel) (by decide +kernel)
set_option maxRecDepth 20000 in
theorem gX11_ofTool_X8_tears_u167X0 : GoodIn wsX11_ofTool (va_wsU RX11 167 RX0 "PaperBubbles$Tool" ⟨"PaperBubbles$Tool", "tears", "(I)I"⟩ yX8_tears wsX8_tears) := goodIn_app (goodIn_m (cs := [632, 461, 462, 463, 2]) ge_X11_ofTool rfl (by decide +kernel) (by decide +kernel)) ggX11_ofTool_X8_tears
set_option maxRecDepth 20000 in
theorem ggX11_ofTool_X1_tears : GoodIn wsX11_ofTool wsX1_tears := goodIn_m ge_X11_ofTool ge_X1_tears (by decide +kernel) (by decide +kernel)
set_option maxRecDepth 20000 in
theorem gX11_ofTool_X1_tears_u167X1 : GoodIn wsX11_ofTool (va_wsO RX11 167 RX1 "PaperBubbles$Tool" ⟨"PaperBubbles$Tool", "tears", "(I)I"⟩ yX1_tears wsX1_tears) := goodIn_app (goodIn_m (cs := [632, 461, 463, 465, 466, 410]) ge_X11_ofTool rfl (by decide +kernel) (by decide +kernel)) ggX11_ofTool_X1_tears
set_option maxRecDepth 20000 in
theorem ggX11_ofTool_X2_tears : GoodIn wsX11_ofTool wsX2_tears := goodIn_m ge_X11_ofTool ge_X2_tears (by decide +kernel) (by decide +kernel)
set_option maxRecDepth 20000 in
theorem gX11_ofTool_X2_tears_u167X2 : GoodIn wsX11_ofTool (va_wsO RX11 167 RX2 "PaperBubbles$Tool" ⟨"PaperBubbles$Tool", "tears", "(I)I"⟩ yX2_tears wsX2_tears) := goodIn_app (goodIn_m (cs := [632, 461, 463, 468, 469, 401]) ge_X11_ofTool rfl (by decide +kernel) (by decide +kernel)) ggX11_ofTool_X2_tears
set_option maxRecDepth 20000 in
theorem ggX11_ofTool_X4_tears : GoodIn wsX11_ofTool wsX4_tears := goodIn_m ge_X11_ofTool ge_X4_tears (by decide +kernel) (by decide +kernel)
set_option maxRecDepth 20000 in
theorem gX11_ofTool_X4_tears_u167X4 : GoodIn wsX11_ofTool (va_wsO RX11 167 RX4 "PaperBubbles$Tool" ⟨"PaperBubbles$Tool", "tears", "(I)I"⟩ yX4_tears wsX4_tears) := goodIn_app (goodIn_m (cs := [632, 461, 463, 470, 98, 85]) ge_X11_ofTool rfl (by decide +kernel) (by decide +kernel)) ggX11_ofTool_X4_tears
set_option maxRecDepth 20000 in
theorem gX11_ofTool_X8_tears_u167X5 : GoodIn wsX11_ofTool (va_wsU RX11 167 RX5 "PaperBubbles$Tool" ⟨"PaperBubbles$Tool", "tears", "(I)I"⟩ yX8_tears wsX8_tears) := goodIn_app (goodIn_m (cs := [632, 461, 471, 463, 2]) ge_X11_ofTool rfl (by decide +kernel) (by decide +kernel)) ggX11_ofTool_X8_tears
set_option maxRecDepth 20000 in
theorem gX11_ofTool_X8_tears_u167X6 : GoodIn wsX11_ofTool (va_wsU RX11 167 RX6 "PaperBubbles$Tool" ⟨"PaperBubbles$Tool", "tears", "(I)I"⟩ yX8_tears wsX8_tears) := goodIn_app (goodIn_m (cs := [632, 461, 472, 463, 2]) ge_X11_ofTool rfl (by decide +kernel) (by decide +kernel)) ggX11_ofTool_X8_tears
set_option maxRecDepth 20000 in
theorem gX11_ofTool_X8_tears : GoodIn wsX11_ofTool (wsV RX11 167 RX8 yX8_tears wsX8_tears) := goodIn_app (goodIn_m (cs := [632, 463, 473, 2]) ge_X11_ofTool rfl (by decide +kernel) (by decide +kernel)) ggX11_ofTool_X8_tears
set_option maxRecDepth 20000 in
theorem ggX11_become_X11_isTool : GoodIn wsX11_become wsX11_isTool := goodIn_m ge_X11_become ge_X11_isTool (by decide +kernel) (by decide +kernel)
set_option maxRecDepth 20000 in
theorem gX11_become_X11_isTool : GoodIn wsX11_become (wsV RX11 142 RX11 yX11_isTool wsX11_isTool) := goodIn_app (goodIn_m (cs := [617, 618, 619, 123]) ge_X11_become rfl (by decide +kernel) (by decide +kernel)) ggX11_become_X11_isTool
set_option maxRecDepth 20000 in
theorem ggX11_become_X11_within : GoodIn wsX11_become wsX11_within := goodIn_m ge_X11_become ge_X11_within (by decide +kernel) (by decide +kernel)
set_option maxRecDepth 20000 in
theorem gX11_become_X11_within : GoodIn wsX11_become (va_wsS RX11 78 yX11_within wsX11_within) := goodIn_app (goodIn_m (cs := [420, 122, 123]) ge_X11_become rfl (by decide +kernel) (by decide +kernel)) ggX11_become_X11_within
set_option maxRecDepth 20000 in
theorem ggX11_become_X11_error : GoodIn wsX11_become wsX11_error := goodIn_m ge_X11_become ge_X11_error (by decide +kernel) (by decide +kernel)
set_option maxRecDepth 20000 in
theorem gX11_become_X11_error : GoodIn wsX11_become (wsV RX11 82 RX11 yX11_error wsX11_error) := goodIn_app (goodIn_m (cs := [587, 588, 589, 123]) ge_X11_become rfl (by decide +kernel) (by decide +kernel)) ggX11_become_X11_error
set_option maxRecDepth 20000 in
theorem ggX11_as_X11_isTool : GoodIn wsX11_as wsX11_isTool := goodIn_m ge_X11_as ge_X11_isTool (by decide +kernel) (by decide +kernel)
set_option maxRecDepth 20000 in
theorem gX11_as_X11_isTool : GoodIn wsX11_as (wsV RX11 142 RX11 yX11_isTool wsX11_isTool) := goodIn_app (goodIn_m (cs := [617, 618, 619, 123]) ge_X11_as rfl (by decide +kernel) (by decide +kernel)) ggX11_as_X11_isTool
set_option maxRecDepth 20000 in
theorem ggX11_as_X11_within : GoodIn wsX11_as wsX11_within := goodIn_m ge_X11_as ge_X11_within (by decide +kernel) (by decide +kernel)
set_option maxRecDepth 20000 in
theorem gX11_as_X11_within : GoodIn wsX11_as (va_wsS RX11 78 yX11_within wsX11_within) := goodIn_app (goodIn_m (cs := [420, 122, 123]) ge_X11_as rfl (by decide +kernel) (by decide +kernel)) ggX11_as_X11_within
set_option maxRecDepth 20000 in
theorem ggX11_as_X11_error : GoodIn wsX11_as wsX11_error := goodIn_m ge_X11_as ge_X11_error (by decide +kernel) (by decide +kernel)
set_option maxRecDepth 20000 in
theorem gX11_as_X11_error : GoodIn wsX11_as (wsV RX11 82 RX11 yX11_error wsX11_error) := goodIn_app (goodIn_m (cs := [587, 588, 589, 123]) ge_X11_as rfl (by decide +kernel) (by decide +kernel)) ggX11_as_X11_error
set_option maxRecDepth 20000 in
theorem ggX11_as_X11_kindOf : GoodIn wsX11_as wsX11_kindOf := goodIn_m ge_X11_as ge_X11_kindOf (by decide +kernel) (by decide +kernel)
set_option maxRecDepth 20000 in
theorem gX11_as_X11_kindOf : GoodIn wsX11_as (wsV RX11 145 RX11 yX11_kindOf wsX11_kindOf) := goodIn_app (goodIn_m (cs := [621, 622, 623, 123]) ge_X11_as rfl (by decide +kernel) (by decide +kernel)) ggX11_as_X11_kindOf
set_option maxRecDepth 20000 in
theorem ggX11_as_X0_isA : GoodIn wsX11_as wsX0_isA := goodIn_m ge_X11_as ge_X0_isA (by decide +kernel) (by decide +kernel)
set_option maxRecDepth 20000 in
theorem gX11_as_X0_isA_u170X0 : GoodIn wsX11_as (va_wsO RX11 170 RX0 "PaperBubbles$Tool" ⟨"PaperBubbles$Tool", "isA", "(I)Z"⟩ yX0_isA wsX0_isA) := goodIn_app (goodIn_m (cs := [635, 9, 11, 636, 305, 76]) ge_X11_as rfl (by decide +kernel) (by decide +kernel)) ggX11_as_X0_isA
set_option maxRecDepth 20000 in
theorem ggX11_as_X1_isA : GoodIn wsX11_as wsX1_isA := goodIn_m ge_X11_as ge_X1_isA (by decide +kernel) (by decide +kernel)
set_option maxRecDepth 20000 in
theorem gX11_as_X1_isA_u170X1 : GoodIn wsX11_as (va_wsO RX11 170 RX1 "PaperBubbles$Tool" ⟨"PaperBubbles$Tool", "isA", "(I)Z"⟩ yX1_isA wsX1_isA) := goodIn_app (goodIn_m (cs := [635, 9, 11, 637, 638, 410]) ge_X11_as rfl (by decide +kernel) (by decide +kernel)) ggX11_as_X1_isA
set_option maxRecDepth 20000 in
theorem ggX11_as_X2_isA : GoodIn wsX11_as wsX2_isA := goodIn_m ge_X11_as ge_X2_isA (by decide +kernel) (by decide +kernel)
set_option maxRecDepth 20000 in
theorem gX11_as_X2_isA_u170X2 : GoodIn wsX11_as (va_wsO RX11 170 RX2 "PaperBubbles$Tool" ⟨"PaperBubbles$Tool", "isA", "(I)Z"⟩ yX2_isA wsX2_isA) := goodIn_app (goodIn_m (cs := [635, 9, 11, 639, 640, 401]) ge_X11_as rfl (by decide +kernel) (by decide +kernel)) ggX11_as_X2_isA
set_option maxRecDepth 20000 in
theorem ggX11_as_X4_isA : GoodIn wsX11_as wsX4_isA := goodIn_m ge_X11_as ge_X4_isA (by decide +kernel) (by decide +kernel)
set_option maxRecDepth 20000 in
theorem gX11_as_X4_isA_u170X4 : GoodIn wsX11_as (va_wsO RX11 170 RX4 "PaperBubbles$Tool" ⟨"PaperBubbles$Tool", "isA", "(I)Z"⟩ yX4_isA wsX4_isA) := goodIn_app (goodIn_m (cs := [635, 9, 11, 641, 91, 85]) ge_X11_as rfl (by decide +kernel) (by decide +kernel)) ggX11_as_X4_isA
set_option maxRecDepth 20000 in
theorem ggX11_as_X5_isA : GoodIn wsX11_as wsX5_isA := goodIn_m ge_X11_as ge_X5_isA (by decide +kernel) (by decide +kernel)
set_option maxRecDepth 20000 in
theorem gX11_as_X5_isA_u170X5 : GoodIn wsX11_as (va_wsO RX11 170 RX5 "PaperBubbles$Tool" ⟨"PaperBubbles$Tool", "isA", "(I)Z"⟩ yX5_isA wsX5_isA) := goodIn_app (goodIn_m (cs := [635, 9, 11, 642, 38, 32]) ge_X11_as rfl (by decide +kernel) (by decide +kernel)) ggX11_as_X5_isA
set_option maxRecDepth 20000 in
theorem ggX11_as_X6_isA : GoodIn wsX11_as wsX6_isA := goodIn_m ge_X11_as ge_X6_isA (by decide +kernel) (by decide +kernel)
set_option maxRecDepth 20000 in
theorem gX11_as_X6_isA_u170X6 : GoodIn wsX11_as (va_wsO RX11 170 RX6 "PaperBubbles$Tool" ⟨"PaperBubbles$Tool", "isA", "(I)Z"⟩ yX6_isA wsX6_isA) := goodIn_app (goodIn_m (cs := [635, 9, 11, 643, 644, 507]) ge_X11_as rfl (by decide +kernel) (by decide +kernel)) ggX11_as_X6_isA
set_option maxRecDepth 20000 in
theorem ggX11_as_X8_isA : GoodIn wsX11_as wsX8_isA := goodIn_m ge_X11_as ge_X8_isA (by decide +kernel) (by decide +kernel)
set_option maxRecDepth 20000 in
theorem gX11_as_X8_isA : GoodIn wsX11_as (wsV RX11 170 RX8 yX8_isA wsX8_isA) := goodIn_app (goodIn_m (cs := [635, 11, 645, 2]) ge_X11_as rfl (by decide +kernel) (by decide +kernel)) ggX11_as_X8_isA
set_option maxRecDepth 20000 in
theorem ggX11_feed_X11_within : GoodIn wsX11_feed wsX11_within := goodIn_m ge_X11_feed ge_X11_within (by decide +kernel) (by decide +kernel)
set_option maxRecDepth 20000 in
theorem gX11_feed_X11_within : GoodIn wsX11_feed (va_wsS RX11 78 yX11_within wsX11_within) := goodIn_app (goodIn_m (cs := [420, 122, 123]) ge_X11_feed rfl (by decide +kernel) (by decide +kernel)) ggX11_feed_X11_within
set_option maxRecDepth 20000 in
theorem ggX11_feed_X11_error : GoodIn wsX11_feed wsX11_error := goodIn_m ge_X11_feed ge_X11_error (by decide +kernel) (by decide +kernel)
set_option maxRecDepth 20000 in
theorem gX11_feed_X11_error : GoodIn wsX11_feed (wsV RX11 82 RX11 yX11_error wsX11_error) := goodIn_app (goodIn_m (cs := [587, 588, 589, 123]) ge_X11_feed rfl (by decide +kernel) (by decide +kernel)) ggX11_feed_X11_error
set_option maxRecDepth 20000 in
theorem ggX11_feed_X7_addByte : GoodIn wsX11_feed wsX7_addByte := goodIn_m ge_X11_feed ge_X7_addByte (by decide +kernel) (by decide +kernel)
set_option maxRecDepth 20000 in
theorem gX11_feed_X7_addByte : GoodIn wsX11_feed (wsV RX11 176 RX7 yX7_addByte wsX7_addByte) := goodIn_app (goodIn_m (cs := [647, 648, 649, 537]) ge_X11_feed rfl (by decide +kernel) (by decide +kernel)) ggX11_feed_X7_addByte
set_option maxRecDepth 20000 in
theorem ggX11_text_X11_isUse : GoodIn wsX11_text wsX11_isUse := goodIn_m ge_X11_text ge_X11_isUse (by decide +kernel) (by decide +kernel)
set_option maxRecDepth 20000 in
theorem gX11_text_X11_isUse : GoodIn wsX11_text (va_wsS RX11 180 yX11_isUse wsX11_isUse) := goodIn_app (goodIn_m (cs := [651, 652, 123]) ge_X11_text rfl (by decide +kernel) (by decide +kernel)) ggX11_text_X11_isUse
set_option maxRecDepth 20000 in
theorem ggX11_text_X11_error : GoodIn wsX11_text wsX11_error := goodIn_m ge_X11_text ge_X11_error (by decide +kernel) (by decide +kernel)
set_option maxRecDepth 20000 in
theorem gX11_text_X11_error : GoodIn wsX11_text (wsV RX11 82 RX11 yX11_error wsX11_error) := goodIn_app (goodIn_m (cs := [587, 588, 589, 123]) ge_X11_text rfl (by decide +kernel) (by decide +kernel)) ggX11_text_X11_error
set_option maxRecDepth 20000 in
theorem ggX11_text_X11_lawOf : GoodIn wsX11_text wsX11_lawOf := goodIn_m ge_X11_text ge_X11_lawOf (by decide +kernel) (by decide +kernel)
set_option maxRecDepth 20000 in
theorem gX11_text_X11_lawOf : GoodIn wsX11_text (wsV RX11 183 RX11 yX11_lawOf wsX11_lawOf) := goodIn_app (goodIn_m (cs := [654, 655, 656, 123]) ge_X11_text rfl (by decide +kernel) (by decide +kernel)) ggX11_text_X11_lawOf
set_option maxRecDepth 20000 in
theorem ggX11_text_X3_read : GoodIn wsX11_text wsX3_read := goodIn_m ge_X11_text ge_X3_read (by decide +kernel) (by decide +kernel)
set_option maxRecDepth 20000 in
theorem gX11_text_X3_read : GoodIn wsX11_text (wsV RX11 190 RX3 yX3_read wsX3_read) := goodIn_app (goodIn_m (cs := [658, 659, 660, 119]) ge_X11_text rfl (by decide +kernel) (by decide +kernel)) ggX11_text_X3_read
set_option maxRecDepth 20000 in
theorem ggX11_law_X11_isUse : GoodIn wsX11_law wsX11_isUse := goodIn_m ge_X11_law ge_X11_isUse (by decide +kernel) (by decide +kernel)
set_option maxRecDepth 20000 in
theorem gX11_law_X11_isUse : GoodIn wsX11_law (va_wsS RX11 180 yX11_isUse wsX11_isUse) := goodIn_app (goodIn_m (cs := [651, 652, 123]) ge_X11_law rfl (by decide +kernel) (by decide +kernel)) ggX11_law_X11_isUse
set_option maxRecDepth 20000 in
theorem ggX11_law_X11_error : GoodIn wsX11_law wsX11_error := goodIn_m ge_X11_law ge_X11_error (by decide +kernel) (by decide +kernel)
set_option maxRecDepth 20000 in
theorem gX11_law_X11_error : GoodIn wsX11_law (wsV RX11 82 RX11 yX11_error wsX11_error) := goodIn_app (goodIn_m (cs := [587, 588, 589, 123]) ge_X11_law rfl (by decide +kernel) (by decide +kernel)) ggX11_law_X11_error
set_option maxRecDepth 20000 in
theorem ggX11_law_X11_lawOf : GoodIn wsX11_law wsX11_lawOf := goodIn_m ge_X11_law ge_X11_lawOf (by decide +kernel) (by decide +kernel)
set_option maxRecDepth 20000 in
theorem gX11_law_X11_lawOf : GoodIn wsX11_law (wsV RX11 183 RX11 yX11_lawOf wsX11_lawOf) := goodIn_app (goodIn_m (cs := [654, 655, 656, 123]) ge_X11_law rfl (by decide +kernel) (by decide +kernel)) ggX11_law_X11_lawOf
set_option maxRecDepth 20000 in
theorem ggX11_law_X3_gives : GoodIn wsX11_law wsX3_gives := goodIn_m ge_X11_law ge_X3_gives (by decide +kernel) (by decide +kernel)
set_option maxRecDepth 20000 in
theorem gX11_law_X3_gives : GoodIn wsX11_law (wsV RX11 117 RX3 yX3_gives wsX3_gives) := goodIn_app (goodIn_m (cs := [608, 491, 492, 119]) ge_X11_law rfl (by decide +kernel) (by decide +kernel)) ggX11_law_X3_gives
set_option maxRecDepth 20000 in
theorem ggX11_stroke_X11_isTool : GoodIn wsX11_stroke wsX11_isTool := goodIn_m ge_X11_stroke ge_X11_isTool (by decide +kernel) (by decide +kernel)
set_option maxRecDepth 20000 in
theorem gX11_stroke_X11_isTool : GoodIn wsX11_stroke (wsV RX11 142 RX11 yX11_isTool wsX11_isTool) := goodIn_app (goodIn_m (cs := [617, 618, 619, 123]) ge_X11_stroke rfl (by decide +kernel) (by decide +kernel)) ggX11_stroke_X11_isTool
set_option maxRecDepth 20000 in
theorem ggX11_stroke_X11_isCell : GoodIn wsX11_stroke wsX11_isCell := goodIn_m ge_X11_stroke ge_X11_isCell (by decide +kernel) (by decide +kernel)
set_option maxRecDepth 20000 in
theorem gX11_stroke_X11_isCell : GoodIn wsX11_stroke (wsV RX11 97 RX11 yX11_isCell wsX11_isCell) := goodIn_app (goodIn_m (cs := [600, 601, 602, 123]) ge_X11_stroke rfl (by decide +kernel) (by decide +kernel)) ggX11_stroke_X11_isCell
set_option maxRecDepth 20000 in
theorem ggX11_stroke_X11_isWay : GoodIn wsX11_stroke wsX11_isWay := goodIn_m ge_X11_stroke ge_X11_isWay (by decide +kernel) (by decide +kernel)
set_option maxRecDepth 20000 in
theorem gX11_stroke_X11_isWay : GoodIn wsX11_stroke (va_wsS RX11 126 yX11_isWay wsX11_isWay) := goodIn_app (goodIn_m (cs := [613, 418, 123]) ge_X11_stroke rfl (by decide +kernel) (by decide +kernel)) ggX11_stroke_X11_isWay
set_option maxRecDepth 20000 in
theorem ggX11_stroke_X11_error : GoodIn wsX11_stroke wsX11_error := goodIn_m ge_X11_stroke ge_X11_error (by decide +kernel) (by decide +kernel)
set_option maxRecDepth 20000 in
theorem gX11_stroke_X11_error : GoodIn wsX11_stroke (wsV RX11 82 RX11 yX11_error wsX11_error) := goodIn_app (goodIn_m (cs := [587, 588, 589, 123]) ge_X11_stroke rfl (by decide +kernel) (by decide +kernel)) ggX11_stroke_X11_error
set_option maxRecDepth 20000 in
theorem ggX11_stroke_X11_kindOf : GoodIn wsX11_stroke wsX11_kindOf := goodIn_m ge_X11_stroke ge_X11_kindOf (by decide +kernel) (by decide +kernel)
set_option maxRecDepth 20000 in
theorem gX11_stroke_X11_kindOf : GoodIn wsX11_stroke (wsV RX11 145 RX11 yX11_kindOf wsX11_kindOf) := goodIn_app (goodIn_m (cs := [621, 622, 623, 123]) ge_X11_stroke rfl (by decide +kernel) (by decide +kernel)) ggX11_stroke_X11_kindOf
set_option maxRecDepth 20000 in
theorem ggX11_stroke_X10_strike : GoodIn wsX11_stroke wsX10_strike := goodIn_m ge_X11_stroke ge_X10_strike (by decide +kernel) (by decide +kernel)
set_option maxRecDepth 20000 in
theorem gX11_stroke_X10_strike : GoodIn wsX11_stroke (wsV RX11 194 RX10 yX10_strike wsX10_strike) := goodIn_app (goodIn_m (cs := [663, 664, 665, 320]) ge_X11_stroke rfl (by decide +kernel) (by decide +kernel)) ggX11_stroke_X10_strike
set_option maxRecDepth 20000 in
theorem ggX11_nights_X11_within : GoodIn wsX11_nights wsX11_within := goodIn_m ge_X11_nights ge_X11_within (by decide +kernel) (by decide +kernel)
set_option maxRecDepth 20000 in
theorem gX11_nights_X11_within : GoodIn wsX11_nights (va_wsS RX11 78 yX11_within wsX11_within) := goodIn_app (goodIn_m (cs := [420, 122, 123]) ge_X11_nights rfl (by decide +kernel) (by decide +kernel)) ggX11_nights_X11_within
set_option maxRecDepth 20000 in
theorem ggX11_nights_X11_error : GoodIn wsX11_nights wsX11_error := goodIn_m ge_X11_nights ge_X11_error (by decide +kernel) (by decide +kernel)
set_option maxRecDepth 20000 in
theorem gX11_nights_X11_error : GoodIn wsX11_nights (wsV RX11 82 RX11 yX11_error wsX11_error) := goodIn_app (goodIn_m (cs := [587, 588, 589, 123]) ge_X11_nights rfl (by decide +kernel) (by decide +kernel)) ggX11_nights_X11_error
set_option maxRecDepth 20000 in
theorem ggX11_nights_X10_passNight : GoodIn wsX11_nights wsX10_passNight := goodIn_m ge_X11_nights ge_X10_passNight (by decide +kernel) (by decide +kernel)
set_option maxRecDepth 20000 in
theorem gX11_nights_X10_passNight : GoodIn wsX11_nights (wsV RX11 201 RX10 yX10_passNight wsX10_passNight) := goodIn_app (goodIn_m (cs := [667, 668, 669, 320]) ge_X11_nights rfl (by decide +kernel) (by decide +kernel)) ggX11_nights_X10_passNight
set_option maxRecDepth 20000 in
theorem ggX11_nights_X10_allAir : GoodIn wsX11_nights wsX10_allAir := goodIn_m ge_X11_nights ge_X10_allAir (by decide +kernel) (by decide +kernel)
set_option maxRecDepth 20000 in
theorem gX11_nights_X10_allAir : GoodIn wsX11_nights (wsV RX11 204 RX10 yX10_allAir wsX10_allAir) := goodIn_app (goodIn_m (cs := [670, 671, 672, 320]) ge_X11_nights rfl (by decide +kernel) (by decide +kernel)) ggX11_nights_X10_allAir
set_option maxRecDepth 20000 in
theorem ggX11_days_X11_within : GoodIn wsX11_days wsX11_within := goodIn_m ge_X11_days ge_X11_within (by decide +kernel) (by decide +kernel)
set_option maxRecDepth 20000 in
theorem gX11_days_X11_within : GoodIn wsX11_days (va_wsS RX11 78 yX11_within wsX11_within) := goodIn_app (goodIn_m (cs := [420, 122, 123]) ge_X11_days rfl (by decide +kernel) (by decide +kernel)) ggX11_days_X11_within
set_option maxRecDepth 20000 in
theorem ggX11_days_X11_error : GoodIn wsX11_days wsX11_error := goodIn_m ge_X11_days ge_X11_error (by decide +kernel) (by decide +kernel)
set_option maxRecDepth 20000 in
theorem gX11_days_X11_error : GoodIn wsX11_days (wsV RX11 82 RX11 yX11_error wsX11_error) := goodIn_app (goodIn_m (cs := [587, 588, 589, 123]) ge_X11_days rfl (by decide +kernel) (by decide +kernel)) ggX11_days_X11_error
set_option maxRecDepth 20000 in
theorem ggX11_days_X7_draw : GoodIn wsX11_days wsX7_draw := goodIn_m ge_X11_days ge_X7_draw (by decide +kernel) (by decide +kernel)
set_option maxRecDepth 20000 in
theorem gX11_days_X7_draw : GoodIn wsX11_days (wsV RX11 207 RX7 yX7_draw wsX7_draw) := goodIn_app (goodIn_m (cs := [674, 675, 676, 537]) ge_X11_days rfl (by decide +kernel) (by decide +kernel)) ggX11_days_X7_draw
set_option maxRecDepth 20000 in
theorem ggX11_days_X10_cells : GoodIn wsX11_days wsX10_cells := goodIn_m ge_X11_days ge_X10_cells (by decide +kernel) (by decide +kernel)
set_option maxRecDepth 20000 in
theorem gX11_days_X10_cells : GoodIn wsX11_days (wsV RX11 93 RX10 yX10_cells wsX10_cells) := goodIn_app (goodIn_m (cs := [595, 596, 597, 320]) ge_X11_days rfl (by decide +kernel) (by decide +kernel)) ggX11_days_X10_cells
set_option maxRecDepth 20000 in
theorem ggX11_days_X11_kindOf : GoodIn wsX11_days wsX11_kindOf := goodIn_m ge_X11_days ge_X11_kindOf (by decide +kernel) (by decide +kernel)
set_option maxRecDepth 20000 in
theorem gX11_days_X11_kindOf : GoodIn wsX11_days (wsV RX11 145 RX11 yX11_kindOf wsX11_kindOf) := goodIn_app (goodIn_m (cs := [621, 622, 623, 123]) ge_X11_days rfl (by decide +kernel) (by decide +kernel)) ggX11_days_X11_kindOf
set_option maxRecDepth 20000 in
theorem ggX11_days_X10_strike : GoodIn wsX11_days wsX10_strike := goodIn_m ge_X11_days ge_X10_strike (by decide +kernel) (by decide +kernel)
set_option maxRecDepth 20000 in
theorem gX11_days_X10_strike : GoodIn wsX11_days (wsV RX11 194 RX10 yX10_strike wsX10_strike) := goodIn_app (goodIn_m (cs := [663, 664, 665, 320]) ge_X11_days rfl (by decide +kernel) (by decide +kernel)) ggX11_days_X10_strike
set_option maxRecDepth 20000 in
theorem ggX11_days_X10_passNight : GoodIn wsX11_days wsX10_passNight := goodIn_m ge_X11_days ge_X10_passNight (by decide +kernel) (by decide +kernel)
set_option maxRecDepth 20000 in
theorem gX11_days_X10_passNight : GoodIn wsX11_days (wsV RX11 201 RX10 yX10_passNight wsX10_passNight) := goodIn_app (goodIn_m (cs := [667, 668, 669, 320]) ge_X11_days rfl (by decide +kernel) (by decide +kernel)) ggX11_days_X10_passNight
set_option maxRecDepth 20000 in
theorem ggX11_days_X10_allAir : GoodIn wsX11_days wsX10_allAir := goodIn_m ge_X11_days ge_X10_allAir (by decide +kernel) (by decide +kernel)
set_option maxRecDepth 20000 in
theorem gX11_days_X10_allAir : GoodIn wsX11_days (wsV RX11 204 RX10 yX10_allAir wsX10_allAir) := goodIn_app (goodIn_m (cs := [670, 671, 672, 320]) ge_X11_days rfl (by decide +kernel) (by decide +kernel)) ggX11_days_X10_allAir
set_option maxRecDepth 20000 in
theorem ggX11_shown_X10_shownBy : GoodIn wsX11_shown wsX10_shownBy := goodIn_m ge_X11_shown ge_X10_shownBy (by decide +kernel) (by decide +kernel)
set_option maxRecDepth 20000 in
theorem gX11_shown_X10_shownBy : GoodIn wsX11_shown (wsV RX11 210 RX10 yX10_shownBy wsX10_shownBy) := goodIn_app (goodIn_m (cs := [680, 681, 682, 320]) ge_X11_shown rfl (by decide +kernel) (by decide +kernel)) ggX11_shown_X10_shownBy
set_option maxRecDepth 20000 in
theorem ggX11_bubbles_X10_countBubbles : GoodIn wsX11_bubbles wsX10_countBubbles := goodIn_m ge_X11_bubbles ge_X10_countBubbles (by decide +kernel) (by decide +kernel)
set_option maxRecDepth 20000 in
theorem gX11_bubbles_X10_countBubbles : GoodIn wsX11_bubbles (wsV RX11 214 RX10 yX10_countBubbles wsX10_countBubbles) := goodIn_app (goodIn_m (cs := [684, 685, 686, 320]) ge_X11_bubbles rfl (by decide +kernel) (by decide +kernel)) ggX11_bubbles_X10_countBubbles
set_option maxRecDepth 20000 in
theorem ggX11_biggest_X11_within : GoodIn wsX11_biggest wsX11_within := goodIn_m ge_X11_biggest ge_X11_within (by decide +kernel) (by decide +kernel)
set_option maxRecDepth 20000 in
theorem gX11_biggest_X11_within : GoodIn wsX11_biggest (va_wsS RX11 78 yX11_within wsX11_within) := goodIn_app (goodIn_m (cs := [420, 122, 123]) ge_X11_biggest rfl (by decide +kernel) (by decide +kernel)) ggX11_biggest_X11_within
set_option maxRecDepth 20000 in
theorem ggX11_biggest_X11_error : GoodIn wsX11_biggest wsX11_error := goodIn_m ge_X11_biggest ge_X11_error (by decide +kernel) (by decide +kernel)
set_option maxRecDepth 20000 in
theorem gX11_biggest_X11_error : GoodIn wsX11_biggest (wsV RX11 82 RX11 yX11_error wsX11_error) := goodIn_app (goodIn_m (cs := [587, 588, 589, 123]) ge_X11_biggest rfl (by decide +kernel) (by decide +kernel)) ggX11_biggest_X11_error
set_option maxRecDepth 20000 in
theorem ggX11_biggest_X10_cellOfBiggest : GoodIn wsX11_biggest wsX10_cellOfBiggest := goodIn_m ge_X11_biggest ge_X10_cellOfBiggest (by decide +kernel) (by decide +kernel)
set_option maxRecDepth 20000 in
theorem gX11_biggest_X10_cellOfBiggest : GoodIn wsX11_biggest (wsV RX11 217 RX10 yX10_cellOfBiggest wsX10_cellOfBiggest) := goodIn_app (goodIn_m (cs := [688, 689, 690, 320]) ge_X11_biggest rfl (by decide +kernel) (by decide +kernel)) ggX11_biggest_X10_cellOfBiggest
set_option maxRecDepth 20000 in
theorem ggX11_biggest_X10_sizeOfBubble : GoodIn wsX11_biggest wsX10_sizeOfBubble := goodIn_m ge_X11_biggest ge_X10_sizeOfBubble (by decide +kernel) (by decide +kernel)
set_option maxRecDepth 20000 in
theorem gX11_biggest_X10_sizeOfBubble : GoodIn wsX11_biggest (wsV RX11 123 RX10 yX10_sizeOfBubble wsX10_sizeOfBubble) := goodIn_app (goodIn_m (cs := [609, 610, 611, 320]) ge_X11_biggest rfl (by decide +kernel) (by decide +kernel)) ggX11_biggest_X10_sizeOfBubble
set_option maxRecDepth 20000 in
theorem ggX11_wayOut_X11_isCell : GoodIn wsX11_wayOut wsX11_isCell := goodIn_m ge_X11_wayOut ge_X11_isCell (by decide +kernel) (by decide +kernel)
set_option maxRecDepth 20000 in
theorem gX11_wayOut_X11_isCell : GoodIn wsX11_wayOut (wsV RX11 97 RX11 yX11_isCell wsX11_isCell) := goodIn_app (goodIn_m (cs := [600, 601, 602, 123]) ge_X11_wayOut rfl (by decide +kernel) (by decide +kernel)) ggX11_wayOut_X11_isCell
set_option maxRecDepth 20000 in
theorem ggX11_wayOut_X11_error : GoodIn wsX11_wayOut wsX11_error := goodIn_m ge_X11_wayOut ge_X11_error (by decide +kernel) (by decide +kernel)
set_option maxRecDepth 20000 in
theorem gX11_wayOut_X11_error : GoodIn wsX11_wayOut (wsV RX11 82 RX11 yX11_error wsX11_error) := goodIn_app (goodIn_m (cs := [587, 588, 589, 123]) ge_X11_wayOut rfl (by decide +kernel) (by decide +kernel)) ggX11_wayOut_X11_error
set_option maxRecDepth 20000 in
theorem ggX11_wayOut_X10_isOpen : GoodIn wsX11_wayOut wsX10_isOpen := goodIn_m ge_X11_wayOut ge_X10_isOpen (by decide +kernel) (by decide +kernel)
set_option maxRecDepth 20000 in
theorem gX11_wayOut_X10_isOpen : GoodIn wsX11_wayOut (wsV RX11 220 RX10 yX10_isOpen wsX10_isOpen) := goodIn_app (goodIn_m (cs := [692, 513, 514, 320]) ge_X11_wayOut rfl (by decide +kernel) (by decide +kernel)) ggX11_wayOut_X10_isOpen
set_option maxRecDepth 20000 in
theorem ggX11_wayOut_X10_cellsAhead : GoodIn wsX11_wayOut wsX10_cellsAhead := goodIn_m ge_X11_wayOut ge_X10_cellsAhead (by decide +kernel) (by decide +kernel)
set_option maxRecDepth 20000 in
theorem gX11_wayOut_X10_cellsAhead : GoodIn wsX11_wayOut (wsV RX11 223 RX10 yX10_cellsAhead wsX10_cellsAhead) := goodIn_app (goodIn_m (cs := [693, 432, 433, 320]) ge_X11_wayOut rfl (by decide +kernel) (by decide +kernel)) ggX11_wayOut_X10_cellsAhead
set_option maxRecDepth 20000 in
theorem ggX11_best_X11_isTool : GoodIn wsX11_best wsX11_isTool := goodIn_m ge_X11_best ge_X11_isTool (by decide +kernel) (by decide +kernel)
set_option maxRecDepth 20000 in
theorem gX11_best_X11_isTool : GoodIn wsX11_best (wsV RX11 142 RX11 yX11_isTool wsX11_isTool) := goodIn_app (goodIn_m (cs := [617, 618, 619, 123]) ge_X11_best rfl (by decide +kernel) (by decide +kernel)) ggX11_best_X11_isTool
