set_option maxRecDepth 20000 in
theorem ggX0_isA_X8_isA : GoodIn wsX0_isA wsX8_isA := goodIn_r _ [6] (by decide +kernel) (by decide +kernel)
set_option maxRecDepth 20000 in
theorem gX0_isA_X8_isA_s7 : GoodIn wsX0_isA (va_wsSU RX0 7 yX8_isA wsX8_isA) := goodIn_app (goodIn_of _ (by decide +kernel)) ggX0_isA_X8_isA
set_option maxRecDepth 20000 in
theorem ggX0_sayMoves_X9_begin : GoodIn wsX0_sayMoves wsX9_begin := goodIn_r _ [5, 6, 7, 15, 16, 17, 18] (by decide +kernel) (by decide +kernel)
set_option maxRecDepth 20000 in
theorem gX0_sayMoves_X9_begin : GoodIn wsX0_sayMoves (wsV RX0 11 RX9 yX9_begin wsX9_begin) := goodIn_app (goodIn_of _ (by decide +kernel)) ggX0_sayMoves_X9_begin
set_option maxRecDepth 20000 in
theorem ggX0_sayMoves_X8_sayMoves : GoodIn wsX0_sayMoves wsX8_sayMoves := goodIn_r _ [13, 14, 2, 3, 4, 5, 6, 7, 15, 16, 17, 18] (by decide +kernel) (by decide +kernel)
set_option maxRecDepth 20000 in
theorem gX0_sayMoves_X8_sayMoves_s17 : GoodIn wsX0_sayMoves (va_wsSU RX0 17 yX8_sayMoves wsX8_sayMoves) := goodIn_app (goodIn_of _ (by decide +kernel)) ggX0_sayMoves_X8_sayMoves
set_option maxRecDepth 20000 in
theorem ggX1_isA_X5_isA : GoodIn wsX1_isA wsX5_isA := goodIn_r _ [6, 7, 8, 9, 10, 11, 12] (by decide +kernel) (by decide +kernel)
set_option maxRecDepth 20000 in
theorem gX1_isA_X5_isA_s7 : GoodIn wsX1_isA (va_wsSU RX1 7 yX5_isA wsX5_isA) := goodIn_app (goodIn_of _ (by decide +kernel)) ggX1_isA_X5_isA
set_option maxRecDepth 20000 in
theorem ggX1_moves_X5_moves : GoodIn wsX1_moves wsX5_moves := goodIn_r _ [10] (by decide +kernel) (by decide +kernel)
set_option maxRecDepth 20000 in
theorem gX1_moves_X5_moves_s11 : GoodIn wsX1_moves (va_wsSU RX1 11 yX5_moves wsX5_moves) := goodIn_app (goodIn_of _ (by decide +kernel)) ggX1_moves_X5_moves
set_option maxRecDepth 20000 in
theorem ggX1_reach_X5_reach : GoodIn wsX1_reach wsX5_reach := goodIn_r _ [6] (by decide +kernel) (by decide +kernel)
set_option maxRecDepth 20000 in
theorem gX1_reach_X5_reach_s21 : GoodIn wsX1_reach (va_wsSU RX1 21 yX5_reach wsX5_reach) := goodIn_app (goodIn_of _ (by decide +kernel)) ggX1_reach_X5_reach
set_option maxRecDepth 20000 in
theorem ggX1_sayTears_X9_begin : GoodIn wsX1_sayTears wsX9_begin := goodIn_r _ [5, 6, 7, 22, 23, 24, 25] (by decide +kernel) (by decide +kernel)
set_option maxRecDepth 20000 in
theorem gX1_sayTears_X9_begin : GoodIn wsX1_sayTears (wsV RX1 25 RX9 yX9_begin wsX9_begin) := goodIn_app (goodIn_of _ (by decide +kernel)) ggX1_sayTears_X9_begin
set_option maxRecDepth 20000 in
theorem ggX1_sayTears_X5_sayTears : GoodIn wsX1_sayTears wsX5_sayTears := goodIn_r _ [13, 14, 2, 3, 4, 5, 6, 7, 15, 16, 17, 18, 19, 20, 21, 22, 23, 24, 25] (by decide +kernel) (by decide +kernel)
set_option maxRecDepth 20000 in
theorem gX1_sayTears_X5_sayTears_s31 : GoodIn wsX1_sayTears (va_wsSU RX1 31 yX5_sayTears wsX5_sayTears) := goodIn_app (goodIn_of _ (by decide +kernel)) ggX1_sayTears_X5_sayTears
set_option maxRecDepth 20000 in
theorem ggX1_sayTells_X9_begin : GoodIn wsX1_sayTells wsX9_begin := goodIn_r _ [5, 6, 7, 34, 35, 36, 37] (by decide +kernel) (by decide +kernel)
set_option maxRecDepth 20000 in
theorem gX1_sayTells_X9_begin : GoodIn wsX1_sayTells (wsV RX1 25 RX9 yX9_begin wsX9_begin) := goodIn_app (goodIn_of _ (by decide +kernel)) ggX1_sayTells_X9_begin
set_option maxRecDepth 20000 in
theorem ggX1_sayTells_X8_sayLets : GoodIn wsX1_sayTells wsX8_sayLets := goodIn_r _ [13, 14, 2, 3, 4, 5, 6, 7, 15, 16, 17, 18, 19, 20, 21, 22, 23, 24, 25, 12, 26, 27, 28, 29, 30, 31, 32, 33, 34, 35, 36, 37] (by decide +kernel) (by decide +kernel)
set_option maxRecDepth 20000 in
theorem gX1_sayTells_X8_sayLets_u39X1 : GoodIn wsX1_sayTells (va_wsU RX1 39 RX1 "PaperBubbles$Tool" ⟨"PaperBubbles$Hard", "sayLets", "(ILPaperBubbles$Voice;)I"⟩ yX8_sayLets wsX8_sayLets) := goodIn_app (goodIn_of _ (by decide +kernel)) ggX1_sayTells_X8_sayLets
set_option maxRecDepth 20000 in
theorem ggX2_isA_X4_isA : GoodIn wsX2_isA wsX4_isA := goodIn_r _ [6, 7, 8, 9, 10, 11, 12] (by decide +kernel) (by decide +kernel)
set_option maxRecDepth 20000 in
theorem gX2_isA_X4_isA_s7 : GoodIn wsX2_isA (va_wsSU RX2 7 yX4_isA wsX4_isA) := goodIn_app (goodIn_of _ (by decide +kernel)) ggX2_isA_X4_isA
set_option maxRecDepth 20000 in
theorem ggX2_tears_X4_tears : GoodIn wsX2_tears wsX4_tears := goodIn_r _ [6] (by decide +kernel) (by decide +kernel)
set_option maxRecDepth 20000 in
theorem gX2_tears_X4_tears_s11 : GoodIn wsX2_tears (va_wsSU RX2 11 yX4_tears wsX4_tears) := goodIn_app (goodIn_of _ (by decide +kernel)) ggX2_tears_X4_tears
set_option maxRecDepth 20000 in
theorem ggX2_sayLets_X9_begin : GoodIn wsX2_sayLets wsX9_begin := goodIn_r _ [5, 6, 7, 47, 48, 49, 50] (by decide +kernel) (by decide +kernel)
set_option maxRecDepth 20000 in
theorem gX2_sayLets_X9_begin : GoodIn wsX2_sayLets (wsV RX2 15 RX9 yX9_begin wsX9_begin) := goodIn_app (goodIn_of _ (by decide +kernel)) ggX2_sayLets_X9_begin
set_option maxRecDepth 20000 in
theorem ggX2_sayLets_X4_sayLets : GoodIn wsX2_sayLets wsX4_sayLets := goodIn_r _ [13, 14, 2, 3, 4, 5, 6, 7, 15, 16, 17, 18, 19, 20, 21, 22, 23, 24, 25, 26, 27, 28, 29, 30, 31, 32, 33, 34, 35, 36, 37, 38, 39, 40, 41, 42, 43, 44, 45, 46, 47, 48, 49, 50] (by decide +kernel) (by decide +kernel)
set_option maxRecDepth 20000 in
theorem gX2_sayLets_X4_sayLets_s21 : GoodIn wsX2_sayLets (va_wsSU RX2 21 yX4_sayLets wsX4_sayLets) := goodIn_app (goodIn_of _ (by decide +kernel)) ggX2_sayLets_X4_sayLets
set_option maxRecDepth 20000 in
theorem ggX3_gives_X3_placeOf : GoodIn wsX3_gives wsX3_placeOf := goodIn_r _ [7, 8, 9, 10, 11, 32, 33, 34, 35, 36, 37, 38, 39, 40, 41, 42, 43, 44, 45] (by decide +kernel) (by decide +kernel)
set_option maxRecDepth 20000 in
theorem gX3_gives_X3_placeOf : GoodIn wsX3_gives (wsV RX3 51 RX3 yX3_placeOf wsX3_placeOf) := goodIn_app (goodIn_of _ (by decide +kernel)) ggX3_gives_X3_placeOf
set_option maxRecDepth 20000 in
theorem ggX3_gives_X3_worksOut : GoodIn wsX3_gives wsX3_worksOut := goodIn_r _ [15, 16, 17, 18, 19, 20, 21, 22, 23, 24, 25, 26, 27, 6, 28, 29, 30, 31, 32, 33, 34, 35, 36, 37, 38, 39, 40, 41, 42, 43, 44, 45] (by decide +kernel) (by decide +kernel)
set_option maxRecDepth 20000 in
theorem gX3_gives_X3_worksOut : GoodIn wsX3_gives (wsV RX3 55 RX3 yX3_worksOut wsX3_worksOut) := goodIn_app (goodIn_of _ (by decide +kernel)) ggX3_gives_X3_worksOut
set_option maxRecDepth 20000 in
theorem ggX3_placeOf_X11_within : GoodIn wsX3_placeOf wsX11_within := goodIn_r _ [4] (by decide +kernel) (by decide +kernel)
set_option maxRecDepth 20000 in
theorem gX3_placeOf_X11_within_n58 : GoodIn wsX3_placeOf (wsX11_within) := ggX3_placeOf_X11_within
set_option maxRecDepth 20000 in
theorem ggX3_worksOut_X3_named : GoodIn wsX3_worksOut wsX3_named := goodIn_r _ [14] (by decide +kernel) (by decide +kernel)
set_option maxRecDepth 20000 in
theorem gX3_worksOut_X3_named : GoodIn wsX3_worksOut (va_wsS RX3 62 yX3_named wsX3_named) := goodIn_app (goodIn_of _ (by decide +kernel)) ggX3_worksOut_X3_named
set_option maxRecDepth 20000 in
theorem ggX3_worksOut_X3_joined : GoodIn wsX3_worksOut wsX3_joined := goodIn_r _ [17] (by decide +kernel) (by decide +kernel)
set_option maxRecDepth 20000 in
theorem gX3_worksOut_X3_joined : GoodIn wsX3_worksOut (va_wsS RX3 66 yX3_joined wsX3_joined) := goodIn_app (goodIn_of _ (by decide +kernel)) ggX3_worksOut_X3_joined
set_option maxRecDepth 20000 in
theorem ggX3_read_X3_begins : GoodIn wsX3_read wsX3_begins := goodIn_r _ [18, 3, 19, 4, 5, 20, 21, 22, 17, 23, 2, 24, 25, 26, 27, 28, 29, 30, 31, 32, 33, 34, 35, 36, 37, 38, 39, 40, 41, 42, 43, 44, 45, 46, 47, 48, 49, 50, 51, 52, 53, 54, 55, 56, 57, 58, 59, 60, 61, 62, 63, 64, 65, 66, 67, 68, 69, 70, 71, 72, 73, 74, 75, 76, 77, 78, 79, 80, 81, 82, 83, 84, 85, 86, 87, 88, 89, 90, 91, 92, 93, 94, 95, 96, 97, 98, 99, 100, 101, 102, 103, 104, 105, 106, 107, 108, 109, 110, 111, 112, 113, 114, 115, 116, 117, 118, 119, 120, 121, 122, 123, 1, 7, 155, 156, 157, 158, 159, 160, 161, 162, 163, 164, 165, 166, 167, 168] (by decide +kernel) (by decide +kernel)
set_option maxRecDepth 20000 in
theorem gX3_read_X3_begins : GoodIn wsX3_read (wsV RX3 94 RX3 yX3_begins wsX3_begins) := goodIn_app (goodIn_of _ (by decide +kernel)) ggX3_read_X3_begins
set_option maxRecDepth 20000 in
theorem ggX3_read_X3_follows : GoodIn wsX3_read wsX3_follows := goodIn_r _ [127, 4, 5, 114, 115, 17, 116, 117, 118, 119, 128, 129, 130, 131, 1, 7, 132, 133, 134, 135, 3, 136, 137, 138, 139, 2, 24, 140, 141, 142, 143, 120, 121, 122, 123, 144, 145, 146, 147, 148, 149, 150, 151, 152, 153, 154, 20, 21, 22, 23, 155, 156, 157, 158, 159, 160, 161, 162, 163, 164, 165, 166, 167, 168] (by decide +kernel) (by decide +kernel)
set_option maxRecDepth 20000 in
theorem gX3_read_X3_follows : GoodIn wsX3_read (wsV RX3 98 RX3 yX3_follows wsX3_follows) := goodIn_app (goodIn_of _ (by decide +kernel)) ggX3_read_X3_follows
set_option maxRecDepth 20000 in
theorem ggX3_read_X3_closeNots : GoodIn wsX3_read wsX3_closeNots := goodIn_r _ [135, 3, 136, 137, 138, 17, 139, 2, 24, 140, 141, 142, 143, 120, 121, 122, 123, 1, 7, 155, 156, 157, 158, 159, 160, 161, 162, 163, 164, 165, 166, 167, 168] (by decide +kernel) (by decide +kernel)
set_option maxRecDepth 20000 in
theorem gX3_read_X3_closeNots : GoodIn wsX3_read (wsV RX3 101 RX3 yX3_closeNots wsX3_closeNots) := goodIn_app (goodIn_of _ (by decide +kernel)) ggX3_read_X3_closeNots
set_option maxRecDepth 20000 in
theorem ggX3_read_X3_closeFrom : GoodIn wsX3_read wsX3_closeFrom := goodIn_r _ [151, 136, 137, 138, 17, 139, 2, 24, 152, 153, 154, 140, 141, 142, 143, 120, 121, 122, 123, 1, 7, 155, 156, 157, 158, 159, 160, 161, 162, 163, 164, 165, 166, 167, 168] (by decide +kernel) (by decide +kernel)
set_option maxRecDepth 20000 in
theorem gX3_read_X3_closeFrom : GoodIn wsX3_read (wsV RX3 104 RX3 yX3_closeFrom wsX3_closeFrom) := goodIn_app (goodIn_of _ (by decide +kernel)) ggX3_read_X3_closeFrom
set_option maxRecDepth 20000 in
theorem ggX3_begins_X3_hold : GoodIn wsX3_begins wsX3_hold := goodIn_r _ [9, 10, 11, 113, 114, 115, 116, 117, 118, 119, 120, 121, 122, 123, 124, 125, 126] (by decide +kernel) (by decide +kernel)
set_option maxRecDepth 20000 in
theorem gX3_begins_X3_hold : GoodIn wsX3_begins (wsV RX3 108 RX3 yX3_hold wsX3_hold) := goodIn_app (goodIn_of _ (by decide +kernel)) ggX3_begins_X3_hold
set_option maxRecDepth 20000 in
theorem ggX3_begins_J0_indexOf_0f7a4 : GoodIn wsX3_begins wsJ0_indexOf_0f7a4 := goodIn_r _ [16, 17, 18, 19, 15, 20, 21, 22, 23, 24, 25, 26, 27, 28, 29, 30, 31, 32, 33, 34, 35, 36, 37, 38, 39, 40, 41, 42, 43, 44, 45, 46, 47, 48, 49, 50, 51, 52, 53, 54, 55, 56, 57, 58, 59, 60, 61, 62, 63, 64, 65, 66, 67, 68, 69, 70, 71, 72, 73, 74, 75, 76, 77, 78, 79, 80, 81, 82, 83, 84, 85, 86, 87, 88, 89, 90, 91, 92, 93, 94, 95, 96, 97, 98, 99, 100] (by decide +kernel) (by decide +kernel)
set_option maxRecDepth 20000 in
theorem gX3_begins_J0_indexOf_0f7a4 : GoodIn wsX3_begins (wsV RX3 111 RJ0 yJ0_indexOf_0f7a4 wsJ0_indexOf_0f7a4) := goodIn_app (goodIn_of _ (by decide +kernel)) ggX3_begins_J0_indexOf_0f7a4
set_option maxRecDepth 20000 in
theorem ggX3_begins_X3_isDigit : GoodIn wsX3_begins wsX3_isDigit := goodIn_r _ [103, 104, 105, 106] (by decide +kernel) (by decide +kernel)
set_option maxRecDepth 20000 in
theorem gX3_begins_X3_isDigit : GoodIn wsX3_begins (va_wsS RX3 117 yX3_isDigit wsX3_isDigit) := goodIn_app (goodIn_of _ (by decide +kernel)) ggX3_begins_X3_isDigit
set_option maxRecDepth 20000 in
theorem ggX3_begins_X3_write : GoodIn wsX3_begins wsX3_write := goodIn_r _ [110, 111, 112, 113, 114, 115, 116, 117, 118, 119, 120, 121, 122, 123, 124, 125, 126] (by decide +kernel) (by decide +kernel)
set_option maxRecDepth 20000 in
theorem gX3_begins_X3_write : GoodIn wsX3_begins (wsV RX3 120 RX3 yX3_write wsX3_write) := goodIn_app (goodIn_of _ (by decide +kernel)) ggX3_begins_X3_write
set_option maxRecDepth 20000 in
theorem ggX3_follows_X3_isDigit : GoodIn wsX3_follows wsX3_isDigit := goodIn_r _ [6, 7, 8, 9] (by decide +kernel) (by decide +kernel)
set_option maxRecDepth 20000 in
theorem gX3_follows_X3_isDigit : GoodIn wsX3_follows (va_wsS RX3 117 yX3_isDigit wsX3_isDigit) := goodIn_app (goodIn_of _ (by decide +kernel)) ggX3_follows_X3_isDigit
set_option maxRecDepth 20000 in
theorem ggX3_follows_X3_addDigit : GoodIn wsX3_follows wsX3_addDigit := goodIn_r _ [13, 1, 14, 15, 7, 8, 9, 50, 51, 52, 53, 54, 55, 56, 57, 58, 59, 60, 61, 62, 63] (by decide +kernel) (by decide +kernel)
set_option maxRecDepth 20000 in
theorem gX3_follows_X3_addDigit : GoodIn wsX3_follows (wsV RX3 123 RX3 yX3_addDigit wsX3_addDigit) := goodIn_app (goodIn_of _ (by decide +kernel)) ggX3_follows_X3_addDigit
set_option maxRecDepth 20000 in
theorem ggX3_follows_X3_closeNots : GoodIn wsX3_follows wsX3_closeNots := goodIn_r _ [19, 20, 21, 22, 23, 5, 24, 25, 26, 27, 28, 29, 30, 31, 32, 33, 34, 14, 15, 50, 51, 52, 53, 54, 55, 56, 57, 58, 59, 60, 61, 62, 63] (by decide +kernel) (by decide +kernel)
set_option maxRecDepth 20000 in
theorem gX3_follows_X3_closeNots : GoodIn wsX3_follows (wsV RX3 101 RX3 yX3_closeNots wsX3_closeNots) := goodIn_app (goodIn_of _ (by decide +kernel)) ggX3_follows_X3_closeNots
set_option maxRecDepth 20000 in
theorem ggX3_follows_X3_closeParenthesis : GoodIn wsX3_follows wsX3_closeParenthesis := goodIn_r _ [38, 25, 20, 39, 40, 41, 5, 42, 21, 22, 23, 24, 26, 43, 44, 45, 27, 28, 29, 30, 31, 32, 33, 34, 14, 15, 50, 51, 52, 53, 54, 55, 56, 57, 58, 59, 60, 61, 62, 63] (by decide +kernel) (by decide +kernel)
set_option maxRecDepth 20000 in
theorem gX3_follows_X3_closeParenthesis : GoodIn wsX3_follows (wsV RX3 126 RX3 yX3_closeParenthesis wsX3_closeParenthesis) := goodIn_app (goodIn_of _ (by decide +kernel)) ggX3_follows_X3_closeParenthesis
set_option maxRecDepth 20000 in
theorem ggX3_follows_X3_rankOf : GoodIn wsX3_follows wsX3_rankOf := goodIn_r _ [45] (by decide +kernel) (by decide +kernel)
set_option maxRecDepth 20000 in
theorem gX3_follows_X3_rankOf : GoodIn wsX3_follows (va_wsS RX3 130 yX3_rankOf wsX3_rankOf) := goodIn_app (goodIn_of _ (by decide +kernel)) ggX3_follows_X3_rankOf
set_option maxRecDepth 20000 in
theorem ggX3_follows_X3_closeFrom : GoodIn wsX3_follows wsX3_closeFrom := goodIn_r _ [42, 21, 22, 23, 5, 24, 25, 26, 43, 44, 45, 27, 28, 29, 30, 31, 32, 33, 34, 14, 15, 50, 51, 52, 53, 54, 55, 56, 57, 58, 59, 60, 61, 62, 63] (by decide +kernel) (by decide +kernel)
set_option maxRecDepth 20000 in
theorem gX3_follows_X3_closeFrom : GoodIn wsX3_follows (wsV RX3 104 RX3 yX3_closeFrom wsX3_closeFrom) := goodIn_app (goodIn_of _ (by decide +kernel)) ggX3_follows_X3_closeFrom
set_option maxRecDepth 20000 in
theorem ggX3_follows_X3_lastHeld : GoodIn wsX3_follows wsX3_lastHeld := goodIn_r _ [24, 25, 26, 50, 51, 52, 53, 54, 55, 56, 57, 58, 59, 60, 61, 62, 63] (by decide +kernel) (by decide +kernel)
set_option maxRecDepth 20000 in
theorem gX3_follows_X3_lastHeld : GoodIn wsX3_follows (wsV RX3 133 RX3 yX3_lastHeld wsX3_lastHeld) := goodIn_app (goodIn_of _ (by decide +kernel)) ggX3_follows_X3_lastHeld
set_option maxRecDepth 20000 in
theorem ggX3_follows_X3_hold : GoodIn wsX3_follows wsX3_hold := goodIn_r _ [49, 25, 26, 50, 51, 52, 53, 54, 55, 56, 57, 58, 59, 60, 61, 62, 63] (by decide +kernel) (by decide +kernel)
set_option maxRecDepth 20000 in
theorem gX3_follows_X3_hold : GoodIn wsX3_follows (wsV RX3 108 RX3 yX3_hold wsX3_hold) := goodIn_app (goodIn_of _ (by decide +kernel)) ggX3_follows_X3_hold
set_option maxRecDepth 20000 in
theorem ggX3_addDigit_X11_within : GoodIn wsX3_addDigit wsX11_within := goodIn_r _ [6] (by decide +kernel) (by decide +kernel)
set_option maxRecDepth 20000 in
theorem gX3_addDigit_X11_within_n58 : GoodIn wsX3_addDigit (wsX11_within) := ggX3_addDigit_X11_within
set_option maxRecDepth 20000 in
theorem ggX3_closeParenthesis_X3_closeFrom : GoodIn wsX3_closeParenthesis wsX3_closeFrom := goodIn_r _ [7, 8, 9, 10, 6, 11, 1, 12, 13, 14, 15, 16, 17, 18, 19, 20, 21, 22, 23, 24, 25, 26, 27, 28, 29, 30, 31, 32, 33, 34, 35, 36, 37, 38, 39] (by decide +kernel) (by decide +kernel)
set_option maxRecDepth 20000 in
theorem gX3_closeParenthesis_X3_closeFrom : GoodIn wsX3_closeParenthesis (wsV RX3 104 RX3 yX3_closeFrom wsX3_closeFrom) := goodIn_app (goodIn_of _ (by decide +kernel)) ggX3_closeParenthesis_X3_closeFrom
set_option maxRecDepth 20000 in
theorem ggX3_closeParenthesis_X3_lastHeld : GoodIn wsX3_closeParenthesis wsX3_lastHeld := goodIn_r _ [11, 1, 12, 26, 27, 28, 29, 30, 31, 32, 33, 34, 35, 36, 37, 38, 39] (by decide +kernel) (by decide +kernel)
set_option maxRecDepth 20000 in
theorem gX3_closeParenthesis_X3_lastHeld : GoodIn wsX3_closeParenthesis (wsV RX3 133 RX3 yX3_lastHeld wsX3_lastHeld) := goodIn_app (goodIn_of _ (by decide +kernel)) ggX3_closeParenthesis_X3_lastHeld
set_option maxRecDepth 20000 in
theorem ggX3_closeNots_X3_lastHeld : GoodIn wsX3_closeNots wsX3_lastHeld := goodIn_r _ [6, 7, 8, 19, 20, 21, 22, 23, 24, 25, 26, 27, 28, 29, 30, 31, 32] (by decide +kernel) (by decide +kernel)
set_option maxRecDepth 20000 in
theorem gX3_closeNots_X3_lastHeld : GoodIn wsX3_closeNots (wsV RX3 133 RX3 yX3_lastHeld wsX3_lastHeld) := goodIn_app (goodIn_of _ (by decide +kernel)) ggX3_closeNots_X3_lastHeld
set_option maxRecDepth 20000 in
theorem ggX3_closeNots_X3_writeLastHeld : GoodIn wsX3_closeNots wsX3_writeLastHeld := goodIn_r _ [12, 7, 2, 3, 4, 5, 6, 8, 13, 14, 15, 16, 17, 18, 19, 20, 21, 22, 23, 24, 25, 26, 27, 28, 29, 30, 31, 32] (by decide +kernel) (by decide +kernel)
set_option maxRecDepth 20000 in
theorem gX3_closeNots_X3_writeLastHeld : GoodIn wsX3_closeNots (wsV RX3 137 RX3 yX3_writeLastHeld wsX3_writeLastHeld) := goodIn_app (goodIn_of _ (by decide +kernel)) ggX3_closeNots_X3_writeLastHeld
set_option maxRecDepth 20000 in
theorem ggX3_closeFrom_X3_lastHeld : GoodIn wsX3_closeFrom wsX3_lastHeld := goodIn_r _ [5, 6, 7, 21, 22, 23, 24, 25, 26, 27, 28, 29, 30, 31, 32, 33, 34] (by decide +kernel) (by decide +kernel)
set_option maxRecDepth 20000 in
theorem gX3_closeFrom_X3_lastHeld : GoodIn wsX3_closeFrom (wsV RX3 133 RX3 yX3_lastHeld wsX3_lastHeld) := goodIn_app (goodIn_of _ (by decide +kernel)) ggX3_closeFrom_X3_lastHeld
set_option maxRecDepth 20000 in
theorem ggX3_closeFrom_X3_rankOf : GoodIn wsX3_closeFrom wsX3_rankOf := goodIn_r _ [10] (by decide +kernel) (by decide +kernel)
set_option maxRecDepth 20000 in
theorem gX3_closeFrom_X3_rankOf : GoodIn wsX3_closeFrom (va_wsS RX3 130 yX3_rankOf wsX3_rankOf) := goodIn_app (goodIn_of _ (by decide +kernel)) ggX3_closeFrom_X3_rankOf
set_option maxRecDepth 20000 in
theorem ggX3_closeFrom_X3_writeLastHeld : GoodIn wsX3_closeFrom wsX3_writeLastHeld := goodIn_r _ [14, 6, 1, 2, 3, 4, 5, 7, 15, 16, 17, 18, 19, 20, 21, 22, 23, 24, 25, 26, 27, 28, 29, 30, 31, 32, 33, 34] (by decide +kernel) (by decide +kernel)
set_option maxRecDepth 20000 in
theorem gX3_closeFrom_X3_writeLastHeld : GoodIn wsX3_closeFrom (wsV RX3 137 RX3 yX3_writeLastHeld wsX3_writeLastHeld) := goodIn_app (goodIn_of _ (by decide +kernel)) ggX3_closeFrom_X3_writeLastHeld
set_option maxRecDepth 20000 in
theorem ggX3_writeLastHeld_X3_lastHeld : GoodIn wsX3_writeLastHeld wsX3_lastHeld := goodIn_r _ [6, 1, 7, 14, 15, 16, 17, 18, 19, 20, 21, 22, 23, 24, 25, 26, 27] (by decide +kernel) (by decide +kernel)
set_option maxRecDepth 20000 in
theorem gX3_writeLastHeld_X3_lastHeld : GoodIn wsX3_writeLastHeld (wsV RX3 133 RX3 yX3_lastHeld wsX3_lastHeld) := goodIn_app (goodIn_of _ (by decide +kernel)) ggX3_writeLastHeld_X3_lastHeld
set_option maxRecDepth 20000 in
theorem ggX3_writeLastHeld_X3_write : GoodIn wsX3_writeLastHeld wsX3_write := goodIn_r _ [11, 12, 13, 14, 15, 16, 17, 18, 19, 20, 21, 22, 23, 24, 25, 26, 27] (by decide +kernel) (by decide +kernel)
set_option maxRecDepth 20000 in
theorem gX3_writeLastHeld_X3_write : GoodIn wsX3_writeLastHeld (wsV RX3 120 RX3 yX3_write wsX3_write) := goodIn_app (goodIn_of _ (by decide +kernel)) ggX3_writeLastHeld_X3_write
set_option maxRecDepth 20000 in
theorem ggX3_isDigit_X11_within : GoodIn wsX3_isDigit wsX11_within := goodIn_r _ [3] (by decide +kernel) (by decide +kernel)
set_option maxRecDepth 20000 in
theorem gX3_isDigit_X11_within_n58 : GoodIn wsX3_isDigit (wsX11_within) := ggX3_isDigit_X11_within
set_option maxRecDepth 20000 in
theorem ggX4_isA_X8_isA : GoodIn wsX4_isA wsX8_isA := goodIn_r _ [6] (by decide +kernel) (by decide +kernel)
set_option maxRecDepth 20000 in
theorem gX4_isA_X8_isA_s7 : GoodIn wsX4_isA (va_wsSU RX4 7 yX8_isA wsX8_isA) := goodIn_app (goodIn_of _ (by decide +kernel)) ggX4_isA_X8_isA
set_option maxRecDepth 20000 in
theorem ggX4_sayLets_X9_begin : GoodIn wsX4_sayLets wsX9_begin := goodIn_r _ [5, 6, 7, 40, 41, 42, 43] (by decide +kernel) (by decide +kernel)
set_option maxRecDepth 20000 in
theorem gX4_sayLets_X9_begin : GoodIn wsX4_sayLets (wsV RX4 11 RX9 yX9_begin wsX9_begin) := goodIn_app (goodIn_of _ (by decide +kernel)) ggX4_sayLets_X9_begin
set_option maxRecDepth 20000 in
theorem ggX4_sayLets_X8_sayLets : GoodIn wsX4_sayLets wsX8_sayLets := goodIn_r _ [13, 14, 2, 3, 4, 5, 6, 7, 15, 16, 17, 18, 19, 20, 21, 22, 23, 24, 25, 12, 26, 27, 28, 29, 30, 31, 32, 33, 40, 41, 42, 43] (by decide +kernel) (by decide +kernel)
set_option maxRecDepth 20000 in
theorem gX4_sayLets_X8_sayLets_s17 : GoodIn wsX4_sayLets (va_wsSU RX4 17 yX8_sayLets wsX8_sayLets) := goodIn_app (goodIn_of _ (by decide +kernel)) ggX4_sayLets_X8_sayLets
set_option maxRecDepth 20000 in
theorem ggX4_sayLets_X8_sayTears : GoodIn wsX4_sayLets wsX8_sayTears := goodIn_r _ [38, 14, 2, 3, 4, 5, 6, 7, 40, 41, 42, 43] (by decide +kernel) (by decide +kernel)
set_option maxRecDepth 20000 in
theorem gX4_sayLets_X8_sayTears_u21X2 : GoodIn wsX4_sayLets (va_wsU RX4 21 RX2 "PaperBubbles$Tool" ⟨"PaperBubbles$Needle", "sayTears", "(ILPaperBubbles$Voice;)I"⟩ yX8_sayTears wsX8_sayTears) := goodIn_app (goodIn_of _ (by decide +kernel)) ggX4_sayLets_X8_sayTears
set_option maxRecDepth 20000 in
theorem gX4_sayLets_X8_sayTears_u21X4 : GoodIn wsX4_sayLets (va_wsU RX4 21 RX4 "PaperBubbles$Tool" ⟨"PaperBubbles$Needle", "sayTears", "(ILPaperBubbles$Voice;)I"⟩ yX8_sayTears wsX8_sayTears) := goodIn_app (goodIn_of _ (by decide +kernel)) ggX4_sayLets_X8_sayTears
set_option maxRecDepth 20000 in
theorem ggX5_isA_X8_isA : GoodIn wsX5_isA wsX8_isA := goodIn_r _ [6] (by decide +kernel) (by decide +kernel)
set_option maxRecDepth 20000 in
theorem gX5_isA_X8_isA_s7 : GoodIn wsX5_isA (va_wsSU RX5 7 yX8_isA wsX8_isA) := goodIn_app (goodIn_of _ (by decide +kernel)) ggX5_isA_X8_isA
set_option maxRecDepth 20000 in
theorem ggX5_sayTears_X9_begin : GoodIn wsX5_sayTears wsX9_begin := goodIn_r _ [5, 6, 7, 15, 16, 17, 18] (by decide +kernel) (by decide +kernel)
set_option maxRecDepth 20000 in
theorem gX5_sayTears_X9_begin : GoodIn wsX5_sayTears (wsV RX5 11 RX9 yX9_begin wsX9_begin) := goodIn_app (goodIn_of _ (by decide +kernel)) ggX5_sayTears_X9_begin
set_option maxRecDepth 20000 in
theorem ggX5_sayTears_X8_sayTears : GoodIn wsX5_sayTears wsX8_sayTears := goodIn_r _ [13, 14, 2, 3, 4, 5, 6, 7, 15, 16, 17, 18] (by decide +kernel) (by decide +kernel)
set_option maxRecDepth 20000 in
theorem gX5_sayTears_X8_sayTears_s17 : GoodIn wsX5_sayTears (va_wsSU RX5 17 yX8_sayTears wsX8_sayTears) := goodIn_app (goodIn_of _ (by decide +kernel)) ggX5_sayTears_X8_sayTears
set_option maxRecDepth 20000 in
theorem ggX6_isA_X0_isA : GoodIn wsX6_isA wsX0_isA := goodIn_r _ [6, 7, 8, 9, 10, 11, 12] (by decide +kernel) (by decide +kernel)
set_option maxRecDepth 20000 in
theorem gX6_isA_X0_isA_s7 : GoodIn wsX6_isA (va_wsSU RX6 7 yX0_isA wsX0_isA) := goodIn_app (goodIn_of _ (by decide +kernel)) ggX6_isA_X0_isA
set_option maxRecDepth 20000 in
theorem ggX6_moves_X0_moves : GoodIn wsX6_moves wsX0_moves := goodIn_r _ [6] (by decide +kernel) (by decide +kernel)
set_option maxRecDepth 20000 in
theorem gX6_moves_X0_moves_s11 : GoodIn wsX6_moves (va_wsSU RX6 11 yX0_moves wsX0_moves) := goodIn_app (goodIn_of _ (by decide +kernel)) ggX6_moves_X0_moves
set_option maxRecDepth 20000 in
theorem ggX6_sayTells_X9_begin : GoodIn wsX6_sayTells wsX9_begin := goodIn_r _ [5, 6, 7, 22, 23, 24, 25] (by decide +kernel) (by decide +kernel)
set_option maxRecDepth 20000 in
theorem gX6_sayTells_X9_begin : GoodIn wsX6_sayTells (wsV RX6 15 RX9 yX9_begin wsX9_begin) := goodIn_app (goodIn_of _ (by decide +kernel)) ggX6_sayTells_X9_begin
set_option maxRecDepth 20000 in
theorem ggX6_sayTells_X0_sayMoves : GoodIn wsX6_sayTells wsX0_sayMoves := goodIn_r _ [13, 14, 2, 3, 4, 5, 6, 7, 15, 16, 17, 18, 19, 20, 21, 22, 23, 24, 25] (by decide +kernel) (by decide +kernel)
set_option maxRecDepth 20000 in
theorem gX6_sayTells_X0_sayMoves_u25X6 : GoodIn wsX6_sayTells (va_wsU RX6 25 RX6 "PaperBubbles$Brush" ⟨"PaperBubbles$Soft", "sayMoves", "(ILPaperBubbles$Voice;)I"⟩ yX0_sayMoves wsX0_sayMoves) := goodIn_app (goodIn_of _ (by decide +kernel)) ggX6_sayTells_X0_sayMoves
set_option maxRecDepth 20000 in
theorem ggX7_copy_X10_copy : GoodIn wsX7_copy wsX10_copy := goodIn_r _ [20, 21, 22, 23, 24, 5, 6, 7, 25, 26, 27, 28, 29, 30, 31, 19, 32, 33, 54, 55, 56, 57, 58, 59, 60, 61, 62, 63, 64] (by decide +kernel) (by decide +kernel)
set_option maxRecDepth 20000 in
theorem gX7_copy_X10_copy : GoodIn wsX7_copy (wsV RX7 47 RX10 yX10_copy wsX10_copy) := goodIn_app (goodIn_of _ (by decide +kernel)) ggX7_copy_X10_copy
set_option maxRecDepth 20000 in
theorem ggX7_copy_X3_copy : GoodIn wsX7_copy wsX3_copy := goodIn_r _ [38, 39, 40, 41, 5, 6, 7, 42, 65, 66, 67, 68, 69, 70, 71, 72, 73, 74, 75, 76, 77, 78] (by decide +kernel) (by decide +kernel)
set_option maxRecDepth 20000 in
theorem gX7_copy_X3_copy : GoodIn wsX7_copy (wsV RX7 63 RX3 yX3_copy wsX3_copy) := goodIn_app (goodIn_of _ (by decide +kernel)) ggX7_copy_X3_copy
set_option maxRecDepth 20000 in
theorem ggX7_addByte_X11_within : GoodIn wsX7_addByte wsX11_within := goodIn_r _ [5] (by decide +kernel) (by decide +kernel)
set_option maxRecDepth 20000 in
theorem gX7_addByte_X11_within_n69 : GoodIn wsX7_addByte (wsX11_within) := ggX7_addByte_X11_within
set_option maxRecDepth 20000 in
theorem ggX8_sayMoves_X9_begin : GoodIn wsX8_sayMoves wsX9_begin := goodIn_r _ [5, 6, 7, 8, 9, 10, 11] (by decide +kernel) (by decide +kernel)
set_option maxRecDepth 20000 in
theorem gX8_sayMoves_X9_begin : GoodIn wsX8_sayMoves (wsV RX8 7 RX9 yX9_begin wsX9_begin) := goodIn_app (goodIn_of _ (by decide +kernel)) ggX8_sayMoves_X9_begin
set_option maxRecDepth 20000 in
theorem ggX8_sayLets_X9_begin : GoodIn wsX8_sayLets wsX9_begin := goodIn_r _ [5, 6, 7, 28, 29, 30, 31] (by decide +kernel) (by decide +kernel)
set_option maxRecDepth 20000 in
theorem gX8_sayLets_X9_begin : GoodIn wsX8_sayLets (wsV RX8 7 RX9 yX9_begin wsX9_begin) := goodIn_app (goodIn_of _ (by decide +kernel)) ggX8_sayLets_X9_begin
set_option maxRecDepth 20000 in
theorem ggX8_sayLets_X0_sayMoves : GoodIn wsX8_sayLets wsX0_sayMoves := goodIn_r _ [14, 15, 2, 3, 4, 5, 6, 7, 16, 9, 17, 18, 19, 20, 1, 28, 29, 30, 31] (by decide +kernel) (by decide +kernel)
set_option maxRecDepth 20000 in
theorem gX8_sayLets_X0_sayMoves_u17X0 : GoodIn wsX8_sayLets (va_wsO RX8 17 RX0 "PaperBubbles$Tool" ⟨"PaperBubbles$Tool", "sayMoves", "(ILPaperBubbles$Voice;)I"⟩ yX0_sayMoves wsX0_sayMoves) := goodIn_app (goodIn_of _ (by decide +kernel)) ggX8_sayLets_X0_sayMoves
set_option maxRecDepth 20000 in
theorem ggX8_sayLets_X8_sayMoves : GoodIn wsX8_sayLets wsX8_sayMoves := goodIn_r _ [20, 1, 2, 3, 4, 5, 6, 7, 28, 29, 30, 31] (by decide +kernel) (by decide +kernel)
set_option maxRecDepth 20000 in
theorem gX8_sayLets_X8_sayMoves_u17X1 : GoodIn wsX8_sayLets (va_wsU RX8 17 RX1 "PaperBubbles$Tool" ⟨"PaperBubbles$Tool", "sayMoves", "(ILPaperBubbles$Voice;)I"⟩ yX8_sayMoves wsX8_sayMoves) := goodIn_app (goodIn_of _ (by decide +kernel)) ggX8_sayLets_X8_sayMoves
set_option maxRecDepth 20000 in
theorem gX8_sayLets_X8_sayMoves_u17X2 : GoodIn wsX8_sayLets (va_wsU RX8 17 RX2 "PaperBubbles$Tool" ⟨"PaperBubbles$Tool", "sayMoves", "(ILPaperBubbles$Voice;)I"⟩ yX8_sayMoves wsX8_sayMoves) := goodIn_app (goodIn_of _ (by decide +kernel)) ggX8_sayLets_X8_sayMoves
set_option maxRecDepth 20000 in
theorem gX8_sayLets_X8_sayMoves_u17X4 : GoodIn wsX8_sayLets (va_wsU RX8 17 RX4 "PaperBubbles$Tool" ⟨"PaperBubbles$Tool", "sayMoves", "(ILPaperBubbles$Voice;)I"⟩ yX8_sayMoves wsX8_sayMoves) := goodIn_app (goodIn_of _ (by decide +kernel)) ggX8_sayLets_X8_sayMoves
set_option maxRecDepth 20000 in
theorem gX8_sayLets_X8_sayMoves_u17X5 : GoodIn wsX8_sayLets (va_wsU RX8 17 RX5 "PaperBubbles$Tool" ⟨"PaperBubbles$Tool", "sayMoves", "(ILPaperBubbles$Voice;)I"⟩ yX8_sayMoves wsX8_sayMoves) := goodIn_app (goodIn_of _ (by decide +kernel)) ggX8_sayLets_X8_sayMoves
set_option maxRecDepth 20000 in
theorem gX8_sayLets_X0_sayMoves_u17X6 : GoodIn wsX8_sayLets (va_wsO RX8 17 RX6 "PaperBubbles$Tool" ⟨"PaperBubbles$Tool", "sayMoves", "(ILPaperBubbles$Voice;)I"⟩ yX0_sayMoves wsX0_sayMoves) := goodIn_app (goodIn_of _ (by decide +kernel)) ggX8_sayLets_X0_sayMoves
set_option maxRecDepth 20000 in
theorem gX8_sayLets_X8_sayMoves : GoodIn wsX8_sayLets (wsV RX8 17 RX8 yX8_sayMoves wsX8_sayMoves) := goodIn_app (goodIn_of _ (by decide +kernel)) ggX8_sayLets_X8_sayMoves
set_option maxRecDepth 20000 in
theorem ggX8_sayTears_X9_begin : GoodIn wsX8_sayTears wsX9_begin := goodIn_r _ [5, 6, 7, 8, 9, 10, 11] (by decide +kernel) (by decide +kernel)
set_option maxRecDepth 20000 in
theorem gX8_sayTears_X9_begin : GoodIn wsX8_sayTears (wsV RX8 7 RX9 yX9_begin wsX9_begin) := goodIn_app (goodIn_of _ (by decide +kernel)) ggX8_sayTears_X9_begin
set_option maxRecDepth 20000 in
theorem ggX8_sayTells_X9_begin : GoodIn wsX8_sayTells wsX9_begin := goodIn_r _ [5, 6, 7, 84, 85, 86, 87] (by decide +kernel) (by decide +kernel)
set_option maxRecDepth 20000 in
theorem gX8_sayTells_X9_begin : GoodIn wsX8_sayTells (wsV RX8 7 RX9 yX9_begin wsX9_begin) := goodIn_app (goodIn_of _ (by decide +kernel)) ggX8_sayTells_X9_begin
set_option maxRecDepth 20000 in
theorem ggX8_sayTells_X8_sayLets : GoodIn wsX8_sayTells wsX8_sayLets := goodIn_r _ [13, 1, 2, 3, 4, 5, 6, 7, 14, 15, 16, 17, 18, 19, 20, 21, 22, 23, 24, 12, 25, 26, 27, 28, 29, 30, 31, 32, 84, 85, 86, 87] (by decide +kernel) (by decide +kernel)
set_option maxRecDepth 20000 in
theorem gX8_sayTells_X8_sayLets_u26X0 : GoodIn wsX8_sayTells (va_wsU RX8 26 RX0 "PaperBubbles$Tool" ⟨"PaperBubbles$Tool", "sayLets", "(ILPaperBubbles$Voice;)I"⟩ yX8_sayLets wsX8_sayLets) := goodIn_app (goodIn_of _ (by decide +kernel)) ggX8_sayTells_X8_sayLets
set_option maxRecDepth 20000 in
theorem gX8_sayTells_X8_sayLets_u26X1 : GoodIn wsX8_sayTells (va_wsU RX8 26 RX1 "PaperBubbles$Tool" ⟨"PaperBubbles$Tool", "sayLets", "(ILPaperBubbles$Voice;)I"⟩ yX8_sayLets wsX8_sayLets) := goodIn_app (goodIn_of _ (by decide +kernel)) ggX8_sayTells_X8_sayLets
set_option maxRecDepth 20000 in
theorem ggX8_sayTells_X2_sayLets : GoodIn wsX8_sayTells wsX2_sayLets := goodIn_r _ [38, 39, 2, 3, 4, 5, 6, 7, 40, 41, 42, 43, 44, 45, 46, 47, 9, 48, 11, 12, 13, 1, 14, 15, 16, 17, 18, 19, 20, 21, 22, 23, 24, 25, 26, 27, 28, 29, 30, 31, 32, 49, 50, 51, 52, 53, 54, 84, 85, 86, 87] (by decide +kernel) (by decide +kernel)
set_option maxRecDepth 20000 in
theorem gX8_sayTells_X2_sayLets_u26X2 : GoodIn wsX8_sayTells (va_wsO RX8 26 RX2 "PaperBubbles$Tool" ⟨"PaperBubbles$Tool", "sayLets", "(ILPaperBubbles$Voice;)I"⟩ yX2_sayLets wsX2_sayLets) := goodIn_app (goodIn_of _ (by decide +kernel)) ggX8_sayTells_X2_sayLets
set_option maxRecDepth 20000 in
theorem ggX8_sayTells_X4_sayLets : GoodIn wsX8_sayTells wsX4_sayLets := goodIn_r _ [45, 46, 2, 3, 4, 5, 6, 7, 47, 9, 48, 11, 12, 13, 1, 14, 15, 16, 17, 18, 19, 20, 21, 22, 23, 24, 25, 26, 27, 28, 29, 30, 31, 32, 49, 50, 51, 52, 53, 54, 84, 85, 86, 87] (by decide +kernel) (by decide +kernel)
set_option maxRecDepth 20000 in
theorem gX8_sayTells_X4_sayLets_u26X4 : GoodIn wsX8_sayTells (va_wsO RX8 26 RX4 "PaperBubbles$Tool" ⟨"PaperBubbles$Tool", "sayLets", "(ILPaperBubbles$Voice;)I"⟩ yX4_sayLets wsX4_sayLets) := goodIn_app (goodIn_of _ (by decide +kernel)) ggX8_sayTells_X4_sayLets
set_option maxRecDepth 20000 in
theorem gX8_sayTells_X8_sayLets_u26X5 : GoodIn wsX8_sayTells (va_wsU RX8 26 RX5 "PaperBubbles$Tool" ⟨"PaperBubbles$Tool", "sayLets", "(ILPaperBubbles$Voice;)I"⟩ yX8_sayLets wsX8_sayLets) := goodIn_app (goodIn_of _ (by decide +kernel)) ggX8_sayTells_X8_sayLets
set_option maxRecDepth 20000 in
theorem gX8_sayTells_X8_sayLets_u26X6 : GoodIn wsX8_sayTells (va_wsU RX8 26 RX6 "PaperBubbles$Tool" ⟨"PaperBubbles$Tool", "sayLets", "(ILPaperBubbles$Voice;)I"⟩ yX8_sayLets wsX8_sayLets) := goodIn_app (goodIn_of _ (by decide +kernel)) ggX8_sayTells_X8_sayLets
set_option maxRecDepth 20000 in
theorem gX8_sayTells_X8_sayLets : GoodIn wsX8_sayTells (wsV RX8 26 RX8 yX8_sayLets wsX8_sayLets) := goodIn_app (goodIn_of _ (by decide +kernel)) ggX8_sayTells_X8_sayLets
set_option maxRecDepth 20000 in
theorem ggX8_sayTells_X8_sayTears : GoodIn wsX8_sayTells wsX8_sayTears := goodIn_r _ [53, 1, 2, 3, 4, 5, 6, 7, 84, 85, 86, 87] (by decide +kernel) (by decide +kernel)
set_option maxRecDepth 20000 in
theorem gX8_sayTells_X8_sayTears_u29X0 : GoodIn wsX8_sayTells (va_wsU RX8 29 RX0 "PaperBubbles$Tool" ⟨"PaperBubbles$Tool", "sayTears", "(ILPaperBubbles$Voice;)I"⟩ yX8_sayTears wsX8_sayTears) := goodIn_app (goodIn_of _ (by decide +kernel)) ggX8_sayTells_X8_sayTears
set_option maxRecDepth 20000 in
theorem ggX8_sayTells_X1_sayTears : GoodIn wsX8_sayTells wsX1_sayTears := goodIn_r _ [67, 68, 2, 3, 4, 5, 6, 7, 69, 70, 71, 72, 73, 74, 75, 76, 61, 77, 52, 12, 53, 1, 84, 85, 86, 87] (by decide +kernel) (by decide +kernel)
set_option maxRecDepth 20000 in
theorem gX8_sayTells_X1_sayTears_u29X1 : GoodIn wsX8_sayTells (va_wsO RX8 29 RX1 "PaperBubbles$Tool" ⟨"PaperBubbles$Tool", "sayTears", "(ILPaperBubbles$Voice;)I"⟩ yX1_sayTears wsX1_sayTears) := goodIn_app (goodIn_of _ (by decide +kernel)) ggX8_sayTells_X1_sayTears
set_option maxRecDepth 20000 in
theorem gX8_sayTells_X8_sayTears_u29X2 : GoodIn wsX8_sayTells (va_wsU RX8 29 RX2 "PaperBubbles$Tool" ⟨"PaperBubbles$Tool", "sayTears", "(ILPaperBubbles$Voice;)I"⟩ yX8_sayTears wsX8_sayTears) := goodIn_app (goodIn_of _ (by decide +kernel)) ggX8_sayTells_X8_sayTears
set_option maxRecDepth 20000 in
theorem gX8_sayTells_X8_sayTears_u29X4 : GoodIn wsX8_sayTells (va_wsU RX8 29 RX4 "PaperBubbles$Tool" ⟨"PaperBubbles$Tool", "sayTears", "(ILPaperBubbles$Voice;)I"⟩ yX8_sayTears wsX8_sayTears) := goodIn_app (goodIn_of _ (by decide +kernel)) ggX8_sayTells_X8_sayTears
set_option maxRecDepth 20000 in
theorem ggX8_sayTells_X5_sayTears : GoodIn wsX8_sayTells wsX5_sayTears := goodIn_r _ [74, 75, 2, 3, 4, 5, 6, 7, 76, 61, 77, 52, 12, 53, 1, 84, 85, 86, 87] (by decide +kernel) (by decide +kernel)
set_option maxRecDepth 20000 in
theorem gX8_sayTells_X5_sayTears_u29X5 : GoodIn wsX8_sayTells (va_wsO RX8 29 RX5 "PaperBubbles$Tool" ⟨"PaperBubbles$Tool", "sayTears", "(ILPaperBubbles$Voice;)I"⟩ yX5_sayTears wsX5_sayTears) := goodIn_app (goodIn_of _ (by decide +kernel)) ggX8_sayTells_X5_sayTears
set_option maxRecDepth 20000 in
theorem gX8_sayTells_X8_sayTears_u29X6 : GoodIn wsX8_sayTells (va_wsU RX8 29 RX6 "PaperBubbles$Tool" ⟨"PaperBubbles$Tool", "sayTears", "(ILPaperBubbles$Voice;)I"⟩ yX8_sayTears wsX8_sayTears) := goodIn_app (goodIn_of _ (by decide +kernel)) ggX8_sayTells_X8_sayTears
set_option maxRecDepth 20000 in
theorem gX8_sayTells_X8_sayTears : GoodIn wsX8_sayTells (wsV RX8 29 RX8 yX8_sayTears wsX8_sayTears) := goodIn_app (goodIn_of _ (by decide +kernel)) ggX8_sayTells_X8_sayTears
set_option maxRecDepth 20000 in
theorem ggX10_lay_J7_fill_53178 : GoodIn wsX10_lay wsJ7_fill_53178 := goodIn_r _ [8] (by decide +kernel) (by decide +kernel)
set_option maxRecDepth 20000 in
theorem gX10_lay_J7_fill_53178 : GoodIn wsX10_lay (va_wsS RX10 34 yJ7_fill_53178 wsJ7_fill_53178) := goodIn_app (goodIn_of _ (by decide +kernel)) ggX10_lay_J7_fill_53178
set_option maxRecDepth 20000 in
theorem ggX10_copy_X10_airAs : GoodIn wsX10_copy wsX10_airAs := goodIn_r _ [16, 17, 4, 5, 6, 7, 18, 19, 20, 21, 22, 23, 24, 25, 26, 27, 28] (by decide +kernel) (by decide +kernel)
set_option maxRecDepth 20000 in
theorem gX10_copy_X10_airAs : GoodIn wsX10_copy (wsV RX10 40 RX10 yX10_airAs wsX10_airAs) := goodIn_app (goodIn_of _ (by decide +kernel)) ggX10_copy_X10_airAs
set_option maxRecDepth 20000 in
theorem ggX10_isOpen_X11_isWay : GoodIn wsX10_isOpen wsX11_isWay := goodIn_r _ [4, 5, 6, 3, 7] (by decide +kernel) (by decide +kernel)
set_option maxRecDepth 20000 in
theorem gX10_isOpen_X11_isWay_n59 : GoodIn wsX10_isOpen (wsX11_isWay) := ggX10_isOpen_X11_isWay
set_option maxRecDepth 20000 in
theorem ggX10_cellsAhead_X10_rowOf : GoodIn wsX10_cellsAhead wsX10_rowOf := goodIn_r _ [7, 1, 12, 13, 14, 15, 16, 17, 18, 19, 20, 21, 22] (by decide +kernel) (by decide +kernel)
set_option maxRecDepth 20000 in
theorem gX10_cellsAhead_X10_rowOf : GoodIn wsX10_cellsAhead (wsV RX10 63 RX10 yX10_rowOf wsX10_rowOf) := goodIn_app (goodIn_of _ (by decide +kernel)) ggX10_cellsAhead_X10_rowOf
set_option maxRecDepth 20000 in
theorem ggX10_cellsAhead_X10_columnOf : GoodIn wsX10_cellsAhead wsX10_columnOf := goodIn_r _ [11, 1, 12, 13, 14, 15, 16, 17, 18, 19, 20, 21, 22] (by decide +kernel) (by decide +kernel)
set_option maxRecDepth 20000 in
theorem gX10_cellsAhead_X10_columnOf : GoodIn wsX10_cellsAhead (wsV RX10 67 RX10 yX10_columnOf wsX10_columnOf) := goodIn_app (goodIn_of _ (by decide +kernel)) ggX10_cellsAhead_X10_columnOf
set_option maxRecDepth 20000 in
theorem ggX10_beside_X10_cellsAhead : GoodIn wsX10_beside wsX10_cellsAhead := goodIn_r _ [6, 1, 7, 8, 9, 10, 5, 11, 12, 13, 14, 15, 16, 17, 18, 19, 20, 21, 22, 23, 24, 25, 26] (by decide +kernel) (by decide +kernel)
set_option maxRecDepth 20000 in
theorem gX10_beside_X10_cellsAhead : GoodIn wsX10_beside (wsV RX10 70 RX10 yX10_cellsAhead wsX10_cellsAhead) := goodIn_app (goodIn_of _ (by decide +kernel)) ggX10_beside_X10_cellsAhead
set_option maxRecDepth 20000 in
theorem ggX10_strike_X10_has : GoodIn wsX10_strike wsX10_has := goodIn_r _ [13, 14, 15, 176, 177, 178, 179, 180, 181, 182, 183, 184, 185, 186] (by decide +kernel) (by decide +kernel)
set_option maxRecDepth 20000 in
theorem gX10_strike_X10_has : GoodIn wsX10_strike (wsV RX10 74 RX10 yX10_has wsX10_has) := goodIn_app (goodIn_of _ (by decide +kernel)) ggX10_strike_X10_has
set_option maxRecDepth 20000 in
theorem ggX10_strike_X8_lets : GoodIn wsX10_strike wsX8_lets := goodIn_r _ [21] (by decide +kernel) (by decide +kernel)
set_option maxRecDepth 20000 in
theorem gX10_strike_X8_lets_u77X0 : GoodIn wsX10_strike (va_wsU RX10 77 RX0 "PaperBubbles$Tool" ⟨"PaperBubbles$Tool", "lets", "(II)I"⟩ yX8_lets wsX8_lets) := goodIn_app (goodIn_of _ (by decide +kernel)) ggX10_strike_X8_lets
set_option maxRecDepth 20000 in
theorem gX10_strike_X8_lets_u77X1 : GoodIn wsX10_strike (va_wsU RX10 77 RX1 "PaperBubbles$Tool" ⟨"PaperBubbles$Tool", "lets", "(II)I"⟩ yX8_lets wsX8_lets) := goodIn_app (goodIn_of _ (by decide +kernel)) ggX10_strike_X8_lets
set_option maxRecDepth 20000 in
theorem ggX10_strike_X2_lets : GoodIn wsX10_strike wsX2_lets := goodIn_r _ [27] (by decide +kernel) (by decide +kernel)
set_option maxRecDepth 20000 in
theorem gX10_strike_X2_lets_u77X2 : GoodIn wsX10_strike (va_wsO RX10 77 RX2 "PaperBubbles$Tool" ⟨"PaperBubbles$Tool", "lets", "(II)I"⟩ yX2_lets wsX2_lets) := goodIn_app (goodIn_of _ (by decide +kernel)) ggX10_strike_X2_lets
set_option maxRecDepth 20000 in
theorem ggX10_strike_X4_lets : GoodIn wsX10_strike wsX4_lets := goodIn_r _ [31] (by decide +kernel) (by decide +kernel)
set_option maxRecDepth 20000 in
theorem gX10_strike_X4_lets_u77X4 : GoodIn wsX10_strike (va_wsO RX10 77 RX4 "PaperBubbles$Tool" ⟨"PaperBubbles$Tool", "lets", "(II)I"⟩ yX4_lets wsX4_lets) := goodIn_app (goodIn_of _ (by decide +kernel)) ggX10_strike_X4_lets
set_option maxRecDepth 20000 in
theorem gX10_strike_X8_lets_u77X5 : GoodIn wsX10_strike (va_wsU RX10 77 RX5 "PaperBubbles$Tool" ⟨"PaperBubbles$Tool", "lets", "(II)I"⟩ yX8_lets wsX8_lets) := goodIn_app (goodIn_of _ (by decide +kernel)) ggX10_strike_X8_lets
set_option maxRecDepth 20000 in
theorem gX10_strike_X8_lets_u77X6 : GoodIn wsX10_strike (va_wsU RX10 77 RX6 "PaperBubbles$Tool" ⟨"PaperBubbles$Tool", "lets", "(II)I"⟩ yX8_lets wsX8_lets) := goodIn_app (goodIn_of _ (by decide +kernel)) ggX10_strike_X8_lets
set_option maxRecDepth 20000 in
theorem gX10_strike_X8_lets : GoodIn wsX10_strike (wsV RX10 77 RX8 yX8_lets wsX8_lets) := goodIn_app (goodIn_of _ (by decide +kernel)) ggX10_strike_X8_lets
set_option maxRecDepth 20000 in
theorem ggX10_strike_X10_goesOut : GoodIn wsX10_strike wsX10_goesOut := goodIn_r _ [39, 6, 40, 2, 3, 4, 5, 176, 177, 178, 179, 180, 181, 182, 183, 184, 185, 186] (by decide +kernel) (by decide +kernel)
set_option maxRecDepth 20000 in
theorem gX10_strike_X10_goesOut : GoodIn wsX10_strike (wsV RX10 87 RX10 yX10_goesOut wsX10_goesOut) := goodIn_app (goodIn_of _ (by decide +kernel)) ggX10_strike_X10_goesOut
set_option maxRecDepth 20000 in
theorem ggX10_strike_X8_tears : GoodIn wsX10_strike wsX8_tears := goodIn_r _ [45] (by decide +kernel) (by decide +kernel)
set_option maxRecDepth 20000 in
theorem gX10_strike_X8_tears_u92X0 : GoodIn wsX10_strike (va_wsU RX10 92 RX0 "PaperBubbles$Tool" ⟨"PaperBubbles$Tool", "tears", "(I)I"⟩ yX8_tears wsX8_tears) := goodIn_app (goodIn_of _ (by decide +kernel)) ggX10_strike_X8_tears
set_option maxRecDepth 20000 in
theorem ggX10_strike_X1_tears : GoodIn wsX10_strike wsX1_tears := goodIn_r _ [50] (by decide +kernel) (by decide +kernel)
set_option maxRecDepth 20000 in
theorem gX10_strike_X1_tears_u92X1 : GoodIn wsX10_strike (va_wsO RX10 92 RX1 "PaperBubbles$Tool" ⟨"PaperBubbles$Tool", "tears", "(I)I"⟩ yX1_tears wsX1_tears) := goodIn_app (goodIn_of _ (by decide +kernel)) ggX10_strike_X1_tears
set_option maxRecDepth 20000 in
theorem ggX10_strike_X2_tears : GoodIn wsX10_strike wsX2_tears := goodIn_r _ [53, 54, 55, 56, 57, 30, 58] (by decide +kernel) (by decide +kernel)
set_option maxRecDepth 20000 in
theorem gX10_strike_X2_tears_u92X2 : GoodIn wsX10_strike (va_wsO RX10 92 RX2 "PaperBubbles$Tool" ⟨"PaperBubbles$Tool", "tears", "(I)I"⟩ yX2_tears wsX2_tears) := goodIn_app (goodIn_of _ (by decide +kernel)) ggX10_strike_X2_tears
set_option maxRecDepth 20000 in
theorem ggX10_strike_X4_tears : GoodIn wsX10_strike wsX4_tears := goodIn_r _ [58] (by decide +kernel) (by decide +kernel)
set_option maxRecDepth 20000 in
theorem gX10_strike_X4_tears_u92X4 : GoodIn wsX10_strike (va_wsO RX10 92 RX4 "PaperBubbles$Tool" ⟨"PaperBubbles$Tool", "tears", "(I)I"⟩ yX4_tears wsX4_tears) := goodIn_app (goodIn_of _ (by decide +kernel)) ggX10_strike_X4_tears
set_option maxRecDepth 20000 in
theorem gX10_strike_X8_tears_u92X5 : GoodIn wsX10_strike (va_wsU RX10 92 RX5 "PaperBubbles$Tool" ⟨"PaperBubbles$Tool", "tears", "(I)I"⟩ yX8_tears wsX8_tears) := goodIn_app (goodIn_of _ (by decide +kernel)) ggX10_strike_X8_tears
set_option maxRecDepth 20000 in
theorem gX10_strike_X8_tears_u92X6 : GoodIn wsX10_strike (va_wsU RX10 92 RX6 "PaperBubbles$Tool" ⟨"PaperBubbles$Tool", "tears", "(I)I"⟩ yX8_tears wsX8_tears) := goodIn_app (goodIn_of _ (by decide +kernel)) ggX10_strike_X8_tears
set_option maxRecDepth 20000 in
theorem gX10_strike_X8_tears : GoodIn wsX10_strike (wsV RX10 92 RX8 yX8_tears wsX8_tears) := goodIn_app (goodIn_of _ (by decide +kernel)) ggX10_strike_X8_tears
set_option maxRecDepth 20000 in
theorem ggX10_strike_X8_reach : GoodIn wsX10_strike wsX8_reach := goodIn_r _ [68] (by decide +kernel) (by decide +kernel)
set_option maxRecDepth 20000 in
theorem gX10_strike_X8_reach_u95X0 : GoodIn wsX10_strike (va_wsU RX10 95 RX0 "PaperBubbles$Tool" ⟨"PaperBubbles$Tool", "reach", "(I)I"⟩ yX8_reach wsX8_reach) := goodIn_app (goodIn_of _ (by decide +kernel)) ggX10_strike_X8_reach
set_option maxRecDepth 20000 in
theorem ggX10_strike_X1_reach : GoodIn wsX10_strike wsX1_reach := goodIn_r _ [72, 73, 74, 75, 76, 77, 78] (by decide +kernel) (by decide +kernel)
set_option maxRecDepth 20000 in
theorem gX10_strike_X1_reach_u95X1 : GoodIn wsX10_strike (va_wsO RX10 95 RX1 "PaperBubbles$Tool" ⟨"PaperBubbles$Tool", "reach", "(I)I"⟩ yX1_reach wsX1_reach) := goodIn_app (goodIn_of _ (by decide +kernel)) ggX10_strike_X1_reach
set_option maxRecDepth 20000 in
theorem gX10_strike_X8_reach_u95X2 : GoodIn wsX10_strike (va_wsU RX10 95 RX2 "PaperBubbles$Tool" ⟨"PaperBubbles$Tool", "reach", "(I)I"⟩ yX8_reach wsX8_reach) := goodIn_app (goodIn_of _ (by decide +kernel)) ggX10_strike_X8_reach
set_option maxRecDepth 20000 in
theorem gX10_strike_X8_reach_u95X4 : GoodIn wsX10_strike (va_wsU RX10 95 RX4 "PaperBubbles$Tool" ⟨"PaperBubbles$Tool", "reach", "(I)I"⟩ yX8_reach wsX8_reach) := goodIn_app (goodIn_of _ (by decide +kernel)) ggX10_strike_X8_reach
set_option maxRecDepth 20000 in
theorem ggX10_strike_X5_reach : GoodIn wsX10_strike wsX5_reach := goodIn_r _ [78] (by decide +kernel) (by decide +kernel)
set_option maxRecDepth 20000 in
theorem gX10_strike_X5_reach_u95X5 : GoodIn wsX10_strike (va_wsO RX10 95 RX5 "PaperBubbles$Tool" ⟨"PaperBubbles$Tool", "reach", "(I)I"⟩ yX5_reach wsX5_reach) := goodIn_app (goodIn_of _ (by decide +kernel)) ggX10_strike_X5_reach
set_option maxRecDepth 20000 in
theorem gX10_strike_X8_reach_u95X6 : GoodIn wsX10_strike (va_wsU RX10 95 RX6 "PaperBubbles$Tool" ⟨"PaperBubbles$Tool", "reach", "(I)I"⟩ yX8_reach wsX8_reach) := goodIn_app (goodIn_of _ (by decide +kernel)) ggX10_strike_X8_reach
set_option maxRecDepth 20000 in
theorem gX10_strike_X8_reach : GoodIn wsX10_strike (wsV RX10 95 RX8 yX8_reach wsX8_reach) := goodIn_app (goodIn_of _ (by decide +kernel)) ggX10_strike_X8_reach
set_option maxRecDepth 20000 in
theorem ggX10_strike_X10_pushOn : GoodIn wsX10_strike wsX10_pushOn := goodIn_r _ [88, 1, 8, 2, 3, 4, 5, 89, 90, 91, 92, 93, 94, 95, 96, 97, 98, 99, 100, 101, 102, 103, 104, 105, 106, 107, 108, 109, 110, 111, 112, 113, 114, 115, 116, 117, 118, 119, 120, 121, 122, 123, 124, 125, 126, 127, 128, 129, 130, 49, 131, 132, 133, 134, 75, 135, 77, 136, 137, 138, 30, 139, 140, 141, 142, 143, 144, 145, 146, 147, 148, 149, 150, 151, 20, 152, 153, 154, 12, 155, 15, 156, 157, 158, 159, 14, 160, 161, 162, 163, 164, 165, 166, 167, 9, 10, 11, 13, 36, 37, 38, 39, 6, 40, 168, 169, 170, 171, 172, 173, 174, 175, 176, 177, 178, 179, 180, 181, 182, 183, 184, 185, 186, 187, 188, 189, 190, 191, 192, 193, 194, 195, 196, 197, 198, 199, 200] (by decide +kernel) (by decide +kernel)
set_option maxRecDepth 20000 in
theorem gX10_strike_X10_pushOn : GoodIn wsX10_strike (wsV RX10 98 RX10 yX10_pushOn wsX10_pushOn) := goodIn_app (goodIn_of _ (by decide +kernel)) ggX10_strike_X10_pushOn
set_option maxRecDepth 20000 in
theorem ggX10_pushOn_X3_gives : GoodIn wsX10_pushOn wsX3_gives := goodIn_r _ [11, 12, 13, 14, 15, 16, 10, 17, 18, 19, 20, 21, 22, 23, 24, 25, 26, 27, 28, 29, 4, 5, 6, 30, 31, 32, 33, 34, 35, 36, 37, 38, 123, 124, 125, 126, 127, 128, 129, 130, 131, 132, 133, 134, 135, 136] (by decide +kernel) (by decide +kernel)
set_option maxRecDepth 20000 in
theorem gX10_pushOn_X3_gives : GoodIn wsX10_pushOn (wsV RX10 102 RX3 yX3_gives wsX3_gives) := goodIn_app (goodIn_of _ (by decide +kernel)) ggX10_pushOn_X3_gives
set_option maxRecDepth 20000 in
theorem ggX10_pushOn_X0_moves : GoodIn wsX10_pushOn wsX0_moves := goodIn_r _ [45] (by decide +kernel) (by decide +kernel)
set_option maxRecDepth 20000 in
theorem gX10_pushOn_X0_moves_u108X0 : GoodIn wsX10_pushOn (va_wsO RX10 108 RX0 "PaperBubbles$Tool" ⟨"PaperBubbles$Tool", "moves", "(III)I"⟩ yX0_moves wsX0_moves) := goodIn_app (goodIn_of _ (by decide +kernel)) ggX10_pushOn_X0_moves
set_option maxRecDepth 20000 in
theorem ggX10_pushOn_X1_moves : GoodIn wsX10_pushOn wsX1_moves := goodIn_r _ [50, 51, 31, 5, 32, 52, 53, 54, 55, 56, 57] (by decide +kernel) (by decide +kernel)
set_option maxRecDepth 20000 in
theorem gX10_pushOn_X1_moves_u108X1 : GoodIn wsX10_pushOn (va_wsO RX10 108 RX1 "PaperBubbles$Tool" ⟨"PaperBubbles$Tool", "moves", "(III)I"⟩ yX1_moves wsX1_moves) := goodIn_app (goodIn_of _ (by decide +kernel)) ggX10_pushOn_X1_moves
set_option maxRecDepth 20000 in
theorem ggX10_pushOn_X4_moves : GoodIn wsX10_pushOn wsX4_moves := goodIn_r _ [61] (by decide +kernel) (by decide +kernel)
set_option maxRecDepth 20000 in
theorem gX10_pushOn_X4_moves_u108X2 : GoodIn wsX10_pushOn (va_wsO RX10 108 RX2 "PaperBubbles$Tool" ⟨"PaperBubbles$Tool", "moves", "(III)I"⟩ yX4_moves wsX4_moves) := goodIn_app (goodIn_of _ (by decide +kernel)) ggX10_pushOn_X4_moves
set_option maxRecDepth 20000 in
theorem gX10_pushOn_X4_moves_u108X4 : GoodIn wsX10_pushOn (va_wsO RX10 108 RX4 "PaperBubbles$Tool" ⟨"PaperBubbles$Tool", "moves", "(III)I"⟩ yX4_moves wsX4_moves) := goodIn_app (goodIn_of _ (by decide +kernel)) ggX10_pushOn_X4_moves
set_option maxRecDepth 20000 in
theorem ggX10_pushOn_X5_moves : GoodIn wsX10_pushOn wsX5_moves := goodIn_r _ [57] (by decide +kernel) (by decide +kernel)
set_option maxRecDepth 20000 in
theorem gX10_pushOn_X5_moves_u108X5 : GoodIn wsX10_pushOn (va_wsO RX10 108 RX5 "PaperBubbles$Tool" ⟨"PaperBubbles$Tool", "moves", "(III)I"⟩ yX5_moves wsX5_moves) := goodIn_app (goodIn_of _ (by decide +kernel)) ggX10_pushOn_X5_moves
set_option maxRecDepth 20000 in
theorem ggX10_pushOn_X6_moves : GoodIn wsX10_pushOn wsX6_moves := goodIn_r _ [67, 68, 69, 70, 43, 44, 45] (by decide +kernel) (by decide +kernel)
set_option maxRecDepth 20000 in
theorem gX10_pushOn_X6_moves_u108X6 : GoodIn wsX10_pushOn (va_wsO RX10 108 RX6 "PaperBubbles$Tool" ⟨"PaperBubbles$Tool", "moves", "(III)I"⟩ yX6_moves wsX6_moves) := goodIn_app (goodIn_of _ (by decide +kernel)) ggX10_pushOn_X6_moves
set_option maxRecDepth 20000 in
theorem ggX10_pushOn_X8_moves : GoodIn wsX10_pushOn wsX8_moves := goodIn_r _ [46] (by decide +kernel) (by decide +kernel)
set_option maxRecDepth 20000 in
theorem gX10_pushOn_X8_moves : GoodIn wsX10_pushOn (wsV RX10 108 RX8 yX8_moves wsX8_moves) := goodIn_app (goodIn_of _ (by decide +kernel)) ggX10_pushOn_X8_moves
set_option maxRecDepth 20000 in
theorem ggX10_pushOn_X10_beside : GoodIn wsX10_pushOn wsX10_beside := goodIn_r _ [79, 80, 81, 82, 83, 78, 84, 85, 86, 87, 88, 89, 90, 91, 92, 93, 112, 113, 114, 115, 116, 117, 118, 119, 120, 121, 122] (by decide +kernel) (by decide +kernel)
set_option maxRecDepth 20000 in
theorem gX10_pushOn_X10_beside : GoodIn wsX10_pushOn (wsV RX10 111 RX10 yX10_beside wsX10_beside) := goodIn_app (goodIn_of _ (by decide +kernel)) ggX10_pushOn_X10_beside
set_option maxRecDepth 20000 in
theorem ggX10_pushOn_X10_has : GoodIn wsX10_pushOn wsX10_has := goodIn_r _ [97, 85, 80, 112, 113, 114, 115, 116, 117, 118, 119, 120, 121, 122] (by decide +kernel) (by decide +kernel)
set_option maxRecDepth 20000 in
theorem gX10_pushOn_X10_has : GoodIn wsX10_pushOn (wsV RX10 74 RX10 yX10_has wsX10_has) := goodIn_app (goodIn_of _ (by decide +kernel)) ggX10_pushOn_X10_has
set_option maxRecDepth 20000 in
theorem ggX10_pushOn_X10_goesOut : GoodIn wsX10_pushOn wsX10_goesOut := goodIn_r _ [101, 102, 103, 3, 4, 5, 6, 112, 113, 114, 115, 116, 117, 118, 119, 120, 121, 122] (by decide +kernel) (by decide +kernel)
set_option maxRecDepth 20000 in
theorem gX10_pushOn_X10_goesOut : GoodIn wsX10_pushOn (wsV RX10 87 RX10 yX10_goesOut wsX10_goesOut) := goodIn_app (goodIn_of _ (by decide +kernel)) ggX10_pushOn_X10_goesOut
set_option maxRecDepth 20000 in
theorem ggX10_pushOn_X10_isOpen : GoodIn wsX10_pushOn wsX10_isOpen := goodIn_r _ [107, 108, 109, 20, 110, 111, 19, 21, 112, 113, 114, 115, 116, 117, 118, 119, 120, 121, 122] (by decide +kernel) (by decide +kernel)
set_option maxRecDepth 20000 in
theorem gX10_pushOn_X10_isOpen : GoodIn wsX10_pushOn (wsV RX10 114 RX10 yX10_isOpen wsX10_isOpen) := goodIn_app (goodIn_of _ (by decide +kernel)) ggX10_pushOn_X10_isOpen
set_option maxRecDepth 20000 in
theorem ggX10_passNight_X10_has : GoodIn wsX10_passNight wsX10_has := goodIn_r _ [12, 13, 14, 15, 16, 17, 18, 19, 20, 21, 22, 23, 24, 25] (by decide +kernel) (by decide +kernel)
set_option maxRecDepth 20000 in
theorem gX10_passNight_X10_has : GoodIn wsX10_passNight (wsV RX10 74 RX10 yX10_has wsX10_has) := goodIn_app (goodIn_of _ (by decide +kernel)) ggX10_passNight_X10_has
set_option maxRecDepth 20000 in
theorem ggX10_allAir_X10_has : GoodIn wsX10_allAir wsX10_has := goodIn_r _ [6, 7, 8, 9, 10, 11, 12, 13, 14, 15, 16, 17, 18, 19] (by decide +kernel) (by decide +kernel)
set_option maxRecDepth 20000 in
theorem gX10_allAir_X10_has : GoodIn wsX10_allAir (wsV RX10 74 RX10 yX10_has wsX10_has) := goodIn_app (goodIn_of _ (by decide +kernel)) ggX10_allAir_X10_has
set_option maxRecDepth 20000 in
theorem ggX10_cellsWithAir_X10_has : GoodIn wsX10_cellsWithAir wsX10_has := goodIn_r _ [6, 7, 8, 9, 10, 11, 12, 13, 14, 15, 16, 17, 18, 19] (by decide +kernel) (by decide +kernel)
set_option maxRecDepth 20000 in
theorem gX10_cellsWithAir_X10_has : GoodIn wsX10_cellsWithAir (wsV RX10 74 RX10 yX10_has wsX10_has) := goodIn_app (goodIn_of _ (by decide +kernel)) ggX10_cellsWithAir_X10_has
set_option maxRecDepth 20000 in
theorem ggX10_shownBy_X10_has : GoodIn wsX10_shownBy wsX10_has := goodIn_r _ [8, 1, 2, 44, 45, 46, 47, 48, 49, 50, 51, 52, 53, 54] (by decide +kernel) (by decide +kernel)
set_option maxRecDepth 20000 in
theorem gX10_shownBy_X10_has : GoodIn wsX10_shownBy (wsV RX10 74 RX10 yX10_has wsX10_has) := goodIn_app (goodIn_of _ (by decide +kernel)) ggX10_shownBy_X10_has
set_option maxRecDepth 20000 in
theorem ggX10_shownBy_X3_gives : GoodIn wsX10_shownBy wsX3_gives := goodIn_r _ [13, 14, 15, 16, 17, 18, 12, 19, 20, 21, 22, 23, 24, 25, 26, 27, 28, 29, 30, 31, 32, 33, 34, 35, 36, 37, 38, 39, 40, 41, 42, 43, 55, 56, 57, 58, 59, 60, 61, 62, 63, 64, 65, 66, 67, 68] (by decide +kernel) (by decide +kernel)
set_option maxRecDepth 20000 in
theorem gX10_shownBy_X3_gives : GoodIn wsX10_shownBy (wsV RX10 102 RX3 yX3_gives wsX3_gives) := goodIn_app (goodIn_of _ (by decide +kernel)) ggX10_shownBy_X3_gives
set_option maxRecDepth 20000 in
theorem ggX10_isLit_X10_beside : GoodIn wsX10_isLit wsX10_beside := goodIn_r _ [6, 7, 8, 9, 10, 5, 11, 12, 13, 14, 15, 16, 17, 18, 19, 20, 25, 26, 27, 28, 29, 30, 31, 32, 33, 34, 35] (by decide +kernel) (by decide +kernel)
set_option maxRecDepth 20000 in
theorem gX10_isLit_X10_beside : GoodIn wsX10_isLit (wsV RX10 111 RX10 yX10_beside wsX10_beside) := goodIn_app (goodIn_of _ (by decide +kernel)) ggX10_isLit_X10_beside
set_option maxRecDepth 20000 in
theorem ggX10_isLit_X10_has : GoodIn wsX10_isLit wsX10_has := goodIn_r _ [24, 12, 7, 25, 26, 27, 28, 29, 30, 31, 32, 33, 34, 35] (by decide +kernel) (by decide +kernel)
set_option maxRecDepth 20000 in
theorem gX10_isLit_X10_has : GoodIn wsX10_isLit (wsV RX10 74 RX10 yX10_has wsX10_has) := goodIn_app (goodIn_of _ (by decide +kernel)) ggX10_isLit_X10_has
set_option maxRecDepth 20000 in
theorem ggX10_sizeOfBubble_J7_fill_53178 : GoodIn wsX10_sizeOfBubble wsJ7_fill_53178 := goodIn_r _ [5] (by decide +kernel) (by decide +kernel)
set_option maxRecDepth 20000 in
theorem gX10_sizeOfBubble_J7_fill_53178 : GoodIn wsX10_sizeOfBubble (va_wsS RX10 34 yJ7_fill_53178 wsJ7_fill_53178) := goodIn_app (goodIn_of _ (by decide +kernel)) ggX10_sizeOfBubble_J7_fill_53178
set_option maxRecDepth 20000 in
theorem ggX10_sizeOfBubble_X10_meetBubble : GoodIn wsX10_sizeOfBubble wsX10_meetBubble := goodIn_r _ [10, 11, 12, 13, 14, 15, 16, 9, 17, 1, 18, 19, 20, 21, 22, 23, 24, 25, 26, 27, 28, 29, 30, 31, 32, 33, 34, 35, 36, 37, 38, 39, 40, 41, 42, 43, 44, 45, 46, 47, 48, 49, 50] (by decide +kernel) (by decide +kernel)
set_option maxRecDepth 20000 in
theorem gX10_sizeOfBubble_X10_meetBubble : GoodIn wsX10_sizeOfBubble (wsV RX10 120 RX10 yX10_meetBubble wsX10_meetBubble) := goodIn_app (goodIn_of _ (by decide +kernel)) ggX10_sizeOfBubble_X10_meetBubble
set_option maxRecDepth 20000 in
theorem ggX10_countBubbles_J7_fill_53178 : GoodIn wsX10_countBubbles wsJ7_fill_53178 := goodIn_r _ [5] (by decide +kernel) (by decide +kernel)
set_option maxRecDepth 20000 in
theorem gX10_countBubbles_J7_fill_53178 : GoodIn wsX10_countBubbles (va_wsS RX10 34 yJ7_fill_53178 wsJ7_fill_53178) := goodIn_app (goodIn_of _ (by decide +kernel)) ggX10_countBubbles_J7_fill_53178
set_option maxRecDepth 20000 in
theorem ggX10_countBubbles_X10_has : GoodIn wsX10_countBubbles wsX10_has := goodIn_r _ [10, 11, 12, 40, 41, 42, 43, 44, 45, 46, 47, 48, 49, 50] (by decide +kernel) (by decide +kernel)
set_option maxRecDepth 20000 in
theorem gX10_countBubbles_X10_has : GoodIn wsX10_countBubbles (wsV RX10 74 RX10 yX10_has wsX10_has) := goodIn_app (goodIn_of _ (by decide +kernel)) ggX10_countBubbles_X10_has
set_option maxRecDepth 20000 in
theorem ggX10_countBubbles_X10_meetBubble : GoodIn wsX10_countBubbles wsX10_meetBubble := goodIn_r _ [16, 17, 18, 19, 20, 21, 22, 9, 23, 1, 6, 7, 8, 10, 11, 12, 24, 25, 26, 27, 28, 29, 30, 31, 32, 33, 34, 35, 36, 37, 38, 39, 40, 41, 42, 43, 44, 45, 46, 47, 48, 49, 50] (by decide +kernel) (by decide +kernel)
set_option maxRecDepth 20000 in
theorem gX10_countBubbles_X10_meetBubble : GoodIn wsX10_countBubbles (wsV RX10 120 RX10 yX10_meetBubble wsX10_meetBubble) := goodIn_app (goodIn_of _ (by decide +kernel)) ggX10_countBubbles_X10_meetBubble
set_option maxRecDepth 20000 in
theorem ggX10_cellOfBiggest_J7_fill_53178 : GoodIn wsX10_cellOfBiggest wsJ7_fill_53178 := goodIn_r _ [5] (by decide +kernel) (by decide +kernel)
set_option maxRecDepth 20000 in
theorem gX10_cellOfBiggest_J7_fill_53178 : GoodIn wsX10_cellOfBiggest (va_wsS RX10 34 yJ7_fill_53178 wsJ7_fill_53178) := goodIn_app (goodIn_of _ (by decide +kernel)) ggX10_cellOfBiggest_J7_fill_53178
set_option maxRecDepth 20000 in
theorem ggX10_cellOfBiggest_X10_has : GoodIn wsX10_cellOfBiggest wsX10_has := goodIn_r _ [10, 11, 12, 40, 41, 42, 43, 44, 45, 46, 47, 48, 49, 50] (by decide +kernel) (by decide +kernel)
set_option maxRecDepth 20000 in
theorem gX10_cellOfBiggest_X10_has : GoodIn wsX10_cellOfBiggest (wsV RX10 74 RX10 yX10_has wsX10_has) := goodIn_app (goodIn_of _ (by decide +kernel)) ggX10_cellOfBiggest_X10_has
set_option maxRecDepth 20000 in
theorem ggX10_cellOfBiggest_X10_meetBubble : GoodIn wsX10_cellOfBiggest wsX10_meetBubble := goodIn_r _ [16, 17, 18, 19, 20, 21, 22, 9, 23, 1, 6, 7, 8, 10, 11, 12, 24, 25, 26, 27, 28, 29, 30, 31, 32, 33, 34, 35, 36, 37, 38, 39, 40, 41, 42, 43, 44, 45, 46, 47, 48, 49, 50] (by decide +kernel) (by decide +kernel)
set_option maxRecDepth 20000 in
theorem gX10_cellOfBiggest_X10_meetBubble : GoodIn wsX10_cellOfBiggest (wsV RX10 120 RX10 yX10_meetBubble wsX10_meetBubble) := goodIn_app (goodIn_of _ (by decide +kernel)) ggX10_cellOfBiggest_X10_meetBubble
set_option maxRecDepth 20000 in
theorem ggX10_meetBubble_X10_meet : GoodIn wsX10_meetBubble wsX10_meet := goodIn_r _ [8, 2, 9, 1, 3, 10, 11, 12, 7, 13, 14, 15, 32, 33, 34, 35, 36, 37, 38, 39, 40, 41, 42] (by decide +kernel) (by decide +kernel)
set_option maxRecDepth 20000 in
theorem gX10_meetBubble_X10_meet : GoodIn wsX10_meetBubble (wsV RX10 126 RX10 yX10_meet wsX10_meet) := goodIn_app (goodIn_of _ (by decide +kernel)) ggX10_meetBubble_X10_meet
set_option maxRecDepth 20000 in
theorem ggX10_meetBubble_X10_beside : GoodIn wsX10_meetBubble wsX10_beside := goodIn_r _ [19, 15, 20, 21, 22, 7, 23, 14, 24, 25, 26, 27, 28, 29, 30, 31, 32, 33, 34, 35, 36, 37, 38, 39, 40, 41, 42] (by decide +kernel) (by decide +kernel)
set_option maxRecDepth 20000 in
theorem gX10_meetBubble_X10_beside : GoodIn wsX10_meetBubble (wsV RX10 111 RX10 yX10_beside wsX10_beside) := goodIn_app (goodIn_of _ (by decide +kernel)) ggX10_meetBubble_X10_beside
set_option maxRecDepth 20000 in
theorem ggX10_meet_X10_has : GoodIn wsX10_meet wsX10_has := goodIn_r _ [9, 10, 11, 12, 13, 14, 15, 16, 17, 18, 19, 20, 21, 22] (by decide +kernel) (by decide +kernel)
set_option maxRecDepth 20000 in
theorem gX10_meet_X10_has : GoodIn wsX10_meet (wsV RX10 74 RX10 yX10_has wsX10_has) := goodIn_app (goodIn_of _ (by decide +kernel)) ggX10_meet_X10_has
set_option maxRecDepth 20000 in
theorem ggX11_wall_X11_within : GoodIn wsX11_wall wsX11_within := goodIn_r _ [5] (by decide +kernel) (by decide +kernel)
set_option maxRecDepth 20000 in
theorem gX11_wall_X11_within : GoodIn wsX11_wall (va_wsS RX11 78 yX11_within wsX11_within) := goodIn_app (goodIn_of _ (by decide +kernel)) ggX11_wall_X11_within
set_option maxRecDepth 20000 in
theorem ggX11_wall_X11_error : GoodIn wsX11_wall wsX11_error := goodIn_r _ [9, 10, 11, 2, 3, 4, 5, 29, 30, 31, 32, 33, 34, 35, 36, 37, 38, 39] (by decide +kernel) (by decide +kernel)
set_option maxRecDepth 20000 in
theorem gX11_wall_X11_error : GoodIn wsX11_wall (wsV RX11 82 RX11 yX11_error wsX11_error) := goodIn_app (goodIn_of _ (by decide +kernel)) ggX11_wall_X11_error
set_option maxRecDepth 20000 in
theorem ggX11_wall_X10_lay : GoodIn wsX11_wall wsX10_lay := goodIn_r _ [16, 17, 18, 19, 20, 21, 22, 23, 24, 51, 52, 53, 54, 55, 56, 57, 58, 59, 60, 61] (by decide +kernel) (by decide +kernel)
set_option maxRecDepth 20000 in
theorem gX11_wall_X10_lay : GoodIn wsX11_wall (wsV RX11 89 RX10 yX10_lay wsX10_lay) := goodIn_app (goodIn_of _ (by decide +kernel)) ggX11_wall_X10_lay
set_option maxRecDepth 20000 in
theorem ggX11_wall_X10_cells : GoodIn wsX11_wall wsX10_cells := goodIn_r _ [28, 17, 18, 51, 52, 53, 54, 55, 56, 57, 58, 59, 60, 61] (by decide +kernel) (by decide +kernel)
set_option maxRecDepth 20000 in
theorem gX11_wall_X10_cells : GoodIn wsX11_wall (wsV RX11 93 RX10 yX10_cells wsX10_cells) := goodIn_app (goodIn_of _ (by decide +kernel)) ggX11_wall_X10_cells
set_option maxRecDepth 20000 in
theorem ggX11_set_X11_isCell : GoodIn wsX11_set wsX11_isCell := goodIn_r _ [6, 1, 7, 8, 9, 10, 11, 12, 13, 23, 24, 25, 26, 27, 28, 29, 30, 31, 32, 33, 34, 35, 36, 37, 38, 39, 40, 41, 42, 43, 44, 45, 46, 47, 48, 49, 50, 51, 52, 53, 54, 55] (by decide +kernel) (by decide +kernel)
set_option maxRecDepth 20000 in
theorem gX11_set_X11_isCell : GoodIn wsX11_set (wsV RX11 97 RX11 yX11_isCell wsX11_isCell) := goodIn_app (goodIn_of _ (by decide +kernel)) ggX11_set_X11_isCell
set_option maxRecDepth 20000 in
theorem ggX11_set_X11_within : GoodIn wsX11_set wsX11_within := goodIn_r _ [16] (by decide +kernel) (by decide +kernel)
set_option maxRecDepth 20000 in
theorem gX11_set_X11_within : GoodIn wsX11_set (va_wsS RX11 78 yX11_within wsX11_within) := goodIn_app (goodIn_of _ (by decide +kernel)) ggX11_set_X11_within
set_option maxRecDepth 20000 in
theorem ggX11_set_X11_error : GoodIn wsX11_set wsX11_error := goodIn_r _ [20, 21, 22, 14, 15, 5, 16, 23, 24, 25, 26, 27, 28, 29, 30, 31, 32, 33] (by decide +kernel) (by decide +kernel)
set_option maxRecDepth 20000 in
theorem gX11_set_X11_error : GoodIn wsX11_set (wsV RX11 82 RX11 yX11_error wsX11_error) := goodIn_app (goodIn_of _ (by decide +kernel)) ggX11_set_X11_error
set_option maxRecDepth 20000 in
theorem ggX11_ofCell_X11_isCell : GoodIn wsX11_ofCell wsX11_isCell := goodIn_r _ [6, 1, 7, 8, 9, 10, 11, 12, 13, 94, 95, 96, 97, 98, 99, 100, 101, 102, 103, 104, 105, 106, 107, 108, 109, 110, 111, 112, 113, 114, 115, 116, 117, 118, 119, 120, 121, 122, 123, 124, 125, 126] (by decide +kernel) (by decide +kernel)
set_option maxRecDepth 20000 in
theorem gX11_ofCell_X11_isCell : GoodIn wsX11_ofCell (wsV RX11 97 RX11 yX11_isCell wsX11_isCell) := goodIn_app (goodIn_of _ (by decide +kernel)) ggX11_ofCell_X11_isCell
set_option maxRecDepth 20000 in
theorem ggX11_ofCell_X11_error : GoodIn wsX11_ofCell wsX11_error := goodIn_r _ [17, 18, 19, 20, 21, 5, 22, 94, 95, 96, 97, 98, 99, 100, 101, 102, 103, 104] (by decide +kernel) (by decide +kernel)
set_option maxRecDepth 20000 in
theorem gX11_ofCell_X11_error : GoodIn wsX11_ofCell (wsV RX11 82 RX11 yX11_error wsX11_error) := goodIn_app (goodIn_of _ (by decide +kernel)) ggX11_ofCell_X11_error
set_option maxRecDepth 20000 in
theorem ggX11_ofCell_X10_rowOf : GoodIn wsX11_ofCell wsX10_rowOf := goodIn_r _ [26, 13, 116, 117, 118, 119, 120, 121, 122, 123, 124, 125, 126] (by decide +kernel) (by decide +kernel)
set_option maxRecDepth 20000 in
theorem gX11_ofCell_X10_rowOf : GoodIn wsX11_ofCell (wsV RX11 111 RX10 yX10_rowOf wsX10_rowOf) := goodIn_app (goodIn_of _ (by decide +kernel)) ggX11_ofCell_X10_rowOf
set_option maxRecDepth 20000 in
theorem ggX11_ofCell_X10_columnOf : GoodIn wsX11_ofCell wsX10_columnOf := goodIn_r _ [30, 13, 116, 117, 118, 119, 120, 121, 122, 123, 124, 125, 126] (by decide +kernel) (by decide +kernel)
set_option maxRecDepth 20000 in
theorem gX11_ofCell_X10_columnOf : GoodIn wsX11_ofCell (wsV RX11 114 RX10 yX10_columnOf wsX10_columnOf) := goodIn_app (goodIn_of _ (by decide +kernel)) ggX11_ofCell_X10_columnOf
set_option maxRecDepth 20000 in
theorem ggX11_ofCell_X3_gives : GoodIn wsX11_ofCell wsX3_gives := goodIn_r _ [35, 36, 37, 38, 39, 40, 34, 41, 42, 21, 5, 22, 43, 44, 45, 46, 47, 48, 49, 50, 51, 52, 53, 54, 55, 56, 57, 58, 59, 60, 61, 62, 127, 128, 129, 130, 131, 132, 133, 134, 135, 136, 137, 138, 139, 140] (by decide +kernel) (by decide +kernel)
set_option maxRecDepth 20000 in
theorem gX11_ofCell_X3_gives : GoodIn wsX11_ofCell (wsV RX11 117 RX3 yX3_gives wsX3_gives) := goodIn_app (goodIn_of _ (by decide +kernel)) ggX11_ofCell_X3_gives
set_option maxRecDepth 20000 in
theorem ggX11_ofCell_X10_sizeOfBubble : GoodIn wsX11_ofCell wsX10_sizeOfBubble := goodIn_r _ [66, 67, 68, 69, 70, 71, 72, 73, 74, 10, 75, 76, 77, 78, 79, 80, 81, 82, 83, 8, 9, 11, 12, 13, 84, 85, 86, 87, 88, 89, 90, 91, 92, 24, 25, 26, 93, 28, 29, 30, 116, 117, 118, 119, 120, 121, 122, 123, 124, 125, 126] (by decide +kernel) (by decide +kernel)
set_option maxRecDepth 20000 in
theorem gX11_ofCell_X10_sizeOfBubble : GoodIn wsX11_ofCell (wsV RX11 123 RX10 yX10_sizeOfBubble wsX10_sizeOfBubble) := goodIn_app (goodIn_of _ (by decide +kernel)) ggX11_ofCell_X10_sizeOfBubble
set_option maxRecDepth 20000 in
theorem ggX11_edge_X11_isWay : GoodIn wsX11_edge wsX11_isWay := goodIn_r _ [5, 6, 7, 4, 8] (by decide +kernel) (by decide +kernel)
set_option maxRecDepth 20000 in
theorem gX11_edge_X11_isWay : GoodIn wsX11_edge (va_wsS RX11 126 yX11_isWay wsX11_isWay) := goodIn_app (goodIn_of _ (by decide +kernel)) ggX11_edge_X11_isWay
set_option maxRecDepth 20000 in
theorem ggX11_edge_X11_within : GoodIn wsX11_edge wsX11_within := goodIn_r _ [8] (by decide +kernel) (by decide +kernel)
set_option maxRecDepth 20000 in
theorem gX11_edge_X11_within : GoodIn wsX11_edge (va_wsS RX11 78 yX11_within wsX11_within) := goodIn_app (goodIn_of _ (by decide +kernel)) ggX11_edge_X11_within
set_option maxRecDepth 20000 in
theorem ggX11_edge_X11_error : GoodIn wsX11_edge wsX11_error := goodIn_r _ [12, 13, 14, 6, 7, 4, 8, 15, 16, 17, 18, 19, 20, 21, 22, 23, 24, 25] (by decide +kernel) (by decide +kernel)
set_option maxRecDepth 20000 in
theorem gX11_edge_X11_error : GoodIn wsX11_edge (wsV RX11 82 RX11 yX11_error wsX11_error) := goodIn_app (goodIn_of _ (by decide +kernel)) ggX11_edge_X11_error
set_option maxRecDepth 20000 in
theorem ggX11_tool_X11_within : GoodIn wsX11_tool wsX11_within := goodIn_r _ [5] (by decide +kernel) (by decide +kernel)
set_option maxRecDepth 20000 in
theorem gX11_tool_X11_within : GoodIn wsX11_tool (va_wsS RX11 78 yX11_within wsX11_within) := goodIn_app (goodIn_of _ (by decide +kernel)) ggX11_tool_X11_within
set_option maxRecDepth 20000 in
theorem ggX11_tool_X11_error : GoodIn wsX11_tool wsX11_error := goodIn_r _ [9, 10, 11, 2, 3, 4, 5, 12, 13, 14, 15, 16, 17, 18, 19, 20, 21, 22] (by decide +kernel) (by decide +kernel)
set_option maxRecDepth 20000 in
theorem gX11_tool_X11_error : GoodIn wsX11_tool (wsV RX11 82 RX11 yX11_error wsX11_error) := goodIn_app (goodIn_of _ (by decide +kernel)) ggX11_tool_X11_error
set_option maxRecDepth 20000 in
theorem ggX11_ofTool_X11_isTool : GoodIn wsX11_ofTool wsX11_isTool := goodIn_r _ [10, 1, 11, 12, 9, 13, 153, 154, 155, 156, 157, 158, 159, 160, 161, 162, 163, 164, 165, 166, 167, 168, 169, 170, 171, 172, 173, 174] (by decide +kernel) (by decide +kernel)
set_option maxRecDepth 20000 in
theorem gX11_ofTool_X11_isTool : GoodIn wsX11_ofTool (wsV RX11 142 RX11 yX11_isTool wsX11_isTool) := goodIn_app (goodIn_of _ (by decide +kernel)) ggX11_ofTool_X11_isTool
set_option maxRecDepth 20000 in
theorem ggX11_ofTool_X11_error : GoodIn wsX11_ofTool wsX11_error := goodIn_r _ [17, 18, 19, 11, 12, 9, 13, 153, 154, 155, 156, 157, 158, 159, 160, 161, 162, 163] (by decide +kernel) (by decide +kernel)
set_option maxRecDepth 20000 in
theorem gX11_ofTool_X11_error : GoodIn wsX11_ofTool (wsV RX11 82 RX11 yX11_error wsX11_error) := goodIn_app (goodIn_of _ (by decide +kernel)) ggX11_ofTool_X11_error
set_option maxRecDepth 20000 in
theorem ggX11_ofTool_X11_kindOf : GoodIn wsX11_ofTool wsX11_kindOf := goodIn_r _ [23, 1, 6, 7, 8, 9, 10, 11, 12, 13, 24, 25, 26, 27, 28, 153, 154, 155, 156, 157, 158, 159, 160, 161, 162, 163, 164, 165, 166, 167, 168, 169, 170, 171, 172, 173, 174] (by decide +kernel) (by decide +kernel)
set_option maxRecDepth 20000 in
theorem gX11_ofTool_X11_kindOf : GoodIn wsX11_ofTool (wsV RX11 145 RX11 yX11_kindOf wsX11_kindOf) := goodIn_app (goodIn_of _ (by decide +kernel)) ggX11_ofTool_X11_kindOf
set_option maxRecDepth 20000 in
theorem ggX11_ofTool_X8_reach : GoodIn wsX11_ofTool wsX8_reach := goodIn_r _ [34] (by decide +kernel) (by decide +kernel)
set_option maxRecDepth 20000 in
theorem gX11_ofTool_X8_reach_u149X0 : GoodIn wsX11_ofTool (va_wsU RX11 149 RX0 "PaperBubbles$Tool" ⟨"PaperBubbles$Tool", "reach", "(I)I"⟩ yX8_reach wsX8_reach) := goodIn_app (goodIn_of _ (by decide +kernel)) ggX11_ofTool_X8_reach
set_option maxRecDepth 20000 in
theorem ggX11_ofTool_X1_reach : GoodIn wsX11_ofTool wsX1_reach := goodIn_r _ [39, 40, 41, 42, 43, 44, 45] (by decide +kernel) (by decide +kernel)
set_option maxRecDepth 20000 in
theorem gX11_ofTool_X1_reach_u149X1 : GoodIn wsX11_ofTool (va_wsO RX11 149 RX1 "PaperBubbles$Tool" ⟨"PaperBubbles$Tool", "reach", "(I)I"⟩ yX1_reach wsX1_reach) := goodIn_app (goodIn_of _ (by decide +kernel)) ggX11_ofTool_X1_reach
set_option maxRecDepth 20000 in
theorem gX11_ofTool_X8_reach_u149X2 : GoodIn wsX11_ofTool (va_wsU RX11 149 RX2 "PaperBubbles$Tool" ⟨"PaperBubbles$Tool", "reach", "(I)I"⟩ yX8_reach wsX8_reach) := goodIn_app (goodIn_of _ (by decide +kernel)) ggX11_ofTool_X8_reach
set_option maxRecDepth 20000 in
theorem gX11_ofTool_X8_reach_u149X4 : GoodIn wsX11_ofTool (va_wsU RX11 149 RX4 "PaperBubbles$Tool" ⟨"PaperBubbles$Tool", "reach", "(I)I"⟩ yX8_reach wsX8_reach) := goodIn_app (goodIn_of _ (by decide +kernel)) ggX11_ofTool_X8_reach
set_option maxRecDepth 20000 in
theorem ggX11_ofTool_X5_reach : GoodIn wsX11_ofTool wsX5_reach := goodIn_r _ [45] (by decide +kernel) (by decide +kernel)
set_option maxRecDepth 20000 in
theorem gX11_ofTool_X5_reach_u149X5 : GoodIn wsX11_ofTool (va_wsO RX11 149 RX5 "PaperBubbles$Tool" ⟨"PaperBubbles$Tool", "reach", "(I)I"⟩ yX5_reach wsX5_reach) := goodIn_app (goodIn_of _ (by decide +kernel)) ggX11_ofTool_X5_reach
set_option maxRecDepth 20000 in
theorem gX11_ofTool_X8_reach_u149X6 : GoodIn wsX11_ofTool (va_wsU RX11 149 RX6 "PaperBubbles$Tool" ⟨"PaperBubbles$Tool", "reach", "(I)I"⟩ yX8_reach wsX8_reach) := goodIn_app (goodIn_of _ (by decide +kernel)) ggX11_ofTool_X8_reach
set_option maxRecDepth 20000 in
theorem gX11_ofTool_X8_reach : GoodIn wsX11_ofTool (wsV RX11 149 RX8 yX8_reach wsX8_reach) := goodIn_app (goodIn_of _ (by decide +kernel)) ggX11_ofTool_X8_reach
set_option maxRecDepth 20000 in
theorem ggX11_ofTool_X3_gives : GoodIn wsX11_ofTool wsX3_gives := goodIn_r _ [56, 57, 58, 59, 60, 61, 55, 62, 63, 12, 9, 13, 64, 65, 66, 67, 68, 69, 70, 71, 3, 4, 5, 72, 73, 74, 75, 76, 77, 78, 79, 80, 175, 176, 177, 178, 179, 180, 181, 182, 183, 184, 185, 186, 187, 188] (by decide +kernel) (by decide +kernel)
set_option maxRecDepth 20000 in
theorem gX11_ofTool_X3_gives : GoodIn wsX11_ofTool (wsV RX11 117 RX3 yX3_gives wsX3_gives) := goodIn_app (goodIn_of _ (by decide +kernel)) ggX11_ofTool_X3_gives
set_option maxRecDepth 20000 in
theorem ggX11_ofTool_X0_moves : GoodIn wsX11_ofTool wsX0_moves := goodIn_r _ [87] (by decide +kernel) (by decide +kernel)
set_option maxRecDepth 20000 in
theorem gX11_ofTool_X0_moves_u155X0 : GoodIn wsX11_ofTool (va_wsO RX11 155 RX0 "PaperBubbles$Tool" ⟨"PaperBubbles$Tool", "moves", "(III)I"⟩ yX0_moves wsX0_moves) := goodIn_app (goodIn_of _ (by decide +kernel)) ggX11_ofTool_X0_moves
set_option maxRecDepth 20000 in
theorem ggX11_ofTool_X1_moves : GoodIn wsX11_ofTool wsX1_moves := goodIn_r _ [91, 92, 73, 4, 74, 93, 94, 42, 95, 44, 96] (by decide +kernel) (by decide +kernel)
set_option maxRecDepth 20000 in
theorem gX11_ofTool_X1_moves_u155X1 : GoodIn wsX11_ofTool (va_wsO RX11 155 RX1 "PaperBubbles$Tool" ⟨"PaperBubbles$Tool", "moves", "(III)I"⟩ yX1_moves wsX1_moves) := goodIn_app (goodIn_of _ (by decide +kernel)) ggX11_ofTool_X1_moves
set_option maxRecDepth 20000 in
theorem ggX11_ofTool_X4_moves : GoodIn wsX11_ofTool wsX4_moves := goodIn_r _ [100] (by decide +kernel) (by decide +kernel)
set_option maxRecDepth 20000 in
theorem gX11_ofTool_X4_moves_u155X2 : GoodIn wsX11_ofTool (va_wsO RX11 155 RX2 "PaperBubbles$Tool" ⟨"PaperBubbles$Tool", "moves", "(III)I"⟩ yX4_moves wsX4_moves) := goodIn_app (goodIn_of _ (by decide +kernel)) ggX11_ofTool_X4_moves
set_option maxRecDepth 20000 in
theorem gX11_ofTool_X4_moves_u155X4 : GoodIn wsX11_ofTool (va_wsO RX11 155 RX4 "PaperBubbles$Tool" ⟨"PaperBubbles$Tool", "moves", "(III)I"⟩ yX4_moves wsX4_moves) := goodIn_app (goodIn_of _ (by decide +kernel)) ggX11_ofTool_X4_moves
set_option maxRecDepth 20000 in
theorem ggX11_ofTool_X5_moves : GoodIn wsX11_ofTool wsX5_moves := goodIn_r _ [96] (by decide +kernel) (by decide +kernel)
set_option maxRecDepth 20000 in
theorem gX11_ofTool_X5_moves_u155X5 : GoodIn wsX11_ofTool (va_wsO RX11 155 RX5 "PaperBubbles$Tool" ⟨"PaperBubbles$Tool", "moves", "(III)I"⟩ yX5_moves wsX5_moves) := goodIn_app (goodIn_of _ (by decide +kernel)) ggX11_ofTool_X5_moves
set_option maxRecDepth 20000 in
theorem ggX11_ofTool_X6_moves : GoodIn wsX11_ofTool wsX6_moves := goodIn_r _ [106, 107, 108, 109, 85, 86, 87] (by decide +kernel) (by decide +kernel)
set_option maxRecDepth 20000 in
theorem gX11_ofTool_X6_moves_u155X6 : GoodIn wsX11_ofTool (va_wsO RX11 155 RX6 "PaperBubbles$Tool" ⟨"PaperBubbles$Tool", "moves", "(III)I"⟩ yX6_moves wsX6_moves) := goodIn_app (goodIn_of _ (by decide +kernel)) ggX11_ofTool_X6_moves
set_option maxRecDepth 20000 in
theorem ggX11_ofTool_X8_moves : GoodIn wsX11_ofTool wsX8_moves := goodIn_r _ [88] (by decide +kernel) (by decide +kernel)
set_option maxRecDepth 20000 in
theorem gX11_ofTool_X8_moves : GoodIn wsX11_ofTool (wsV RX11 155 RX8 yX8_moves wsX8_moves) := goodIn_app (goodIn_of _ (by decide +kernel)) ggX11_ofTool_X8_moves
set_option maxRecDepth 20000 in
theorem ggX11_ofTool_X8_lets : GoodIn wsX11_ofTool wsX8_lets := goodIn_r _ [117] (by decide +kernel) (by decide +kernel)
set_option maxRecDepth 20000 in
theorem gX11_ofTool_X8_lets_u164X0 : GoodIn wsX11_ofTool (va_wsU RX11 164 RX0 "PaperBubbles$Tool" ⟨"PaperBubbles$Tool", "lets", "(II)I"⟩ yX8_lets wsX8_lets) := goodIn_app (goodIn_of _ (by decide +kernel)) ggX11_ofTool_X8_lets
set_option maxRecDepth 20000 in
theorem gX11_ofTool_X8_lets_u164X1 : GoodIn wsX11_ofTool (va_wsU RX11 164 RX1 "PaperBubbles$Tool" ⟨"PaperBubbles$Tool", "lets", "(II)I"⟩ yX8_lets wsX8_lets) := goodIn_app (goodIn_of _ (by decide +kernel)) ggX11_ofTool_X8_lets
set_option maxRecDepth 20000 in
theorem ggX11_ofTool_X2_lets : GoodIn wsX11_ofTool wsX2_lets := goodIn_r _ [123] (by decide +kernel) (by decide +kernel)
set_option maxRecDepth 20000 in
theorem gX11_ofTool_X2_lets_u164X2 : GoodIn wsX11_ofTool (va_wsO RX11 164 RX2 "PaperBubbles$Tool" ⟨"PaperBubbles$Tool", "lets", "(II)I"⟩ yX2_lets wsX2_lets) := goodIn_app (goodIn_of _ (by decide +kernel)) ggX11_ofTool_X2_lets
set_option maxRecDepth 20000 in
theorem ggX11_ofTool_X4_lets : GoodIn wsX11_ofTool wsX4_lets := goodIn_r _ [126] (by decide +kernel) (by decide +kernel)
set_option maxRecDepth 20000 in
theorem gX11_ofTool_X4_lets_u164X4 : GoodIn wsX11_ofTool (va_wsO RX11 164 RX4 "PaperBubbles$Tool" ⟨"PaperBubbles$Tool", "lets", "(II)I"⟩ yX4_lets wsX4_lets) := goodIn_app (goodIn_of _ (by decide +kernel)) ggX11_ofTool_X4_lets
set_option maxRecDepth 20000 in
theorem gX11_ofTool_X8_lets_u164X5 : GoodIn wsX11_ofTool (va_wsU RX11 164 RX5 "PaperBubbles$Tool" ⟨"PaperBubbles$Tool", "lets", "(II)I"⟩ yX8_lets wsX8_lets) := goodIn_app (goodIn_of _ (by decide +kernel)) ggX11_ofTool_X8_lets
set_option maxRecDepth 20000 in
theorem gX11_ofTool_X8_lets_u164X6 : GoodIn wsX11_ofTool (va_wsU RX11 164 RX6 "PaperBubbles$Tool" ⟨"PaperBubbles$Tool", "lets", "(II)I"⟩ yX8_lets wsX8_lets) := goodIn_app (goodIn_of _ (by decide +kernel)) ggX11_ofTool_X8_lets
set_option maxRecDepth 20000 in
theorem gX11_ofTool_X8_lets : GoodIn wsX11_ofTool (wsV RX11 164 RX8 yX8_lets wsX8_lets) := goodIn_app (goodIn_of _ (by decide +kernel)) ggX11_ofTool_X8_lets
set_option maxRecDepth 20000 in
theorem ggX11_ofTool_X8_tears : GoodIn wsX11_ofTool wsX8_tears := goodIn_r _ [135] (by decide +kernel) (by decide +kernel)
set_option maxRecDepth 20000 in
theorem gX11_ofTool_X8_tears_u167X0 : GoodIn wsX11_ofTool (va_wsU RX11 167 RX0 "PaperBubbles$Tool" ⟨"PaperBubbles$Tool", "tears", "(I)I"⟩ yX8_tears wsX8_tears) := goodIn_app (goodIn_of _ (by decide +kernel)) ggX11_ofTool_X8_tears
set_option maxRecDepth 20000 in
theorem ggX11_ofTool_X1_tears : GoodIn wsX11_ofTool wsX1_tears := goodIn_r _ [139] (by decide +kernel) (by decide +kernel)
set_option maxRecDepth 20000 in
theorem gX11_ofTool_X1_tears_u167X1 : GoodIn wsX11_ofTool (va_wsO RX11 167 RX1 "PaperBubbles$Tool" ⟨"PaperBubbles$Tool", "tears", "(I)I"⟩ yX1_tears wsX1_tears) := goodIn_app (goodIn_of _ (by decide +kernel)) ggX11_ofTool_X1_tears
set_option maxRecDepth 20000 in
theorem ggX11_ofTool_X2_tears : GoodIn wsX11_ofTool wsX2_tears := goodIn_r _ [142, 143, 144, 145, 146, 99, 147] (by decide +kernel) (by decide +kernel)
set_option maxRecDepth 20000 in
theorem gX11_ofTool_X2_tears_u167X2 : GoodIn wsX11_ofTool (va_wsO RX11 167 RX2 "PaperBubbles$Tool" ⟨"PaperBubbles$Tool", "tears", "(I)I"⟩ yX2_tears wsX2_tears) := goodIn_app (goodIn_of _ (by decide +kernel)) ggX11_ofTool_X2_tears
set_option maxRecDepth 20000 in
theorem ggX11_ofTool_X4_tears : GoodIn wsX11_ofTool wsX4_tears := goodIn_r _ [147] (by decide +kernel) (by decide +kernel)
set_option maxRecDepth 20000 in
theorem gX11_ofTool_X4_tears_u167X4 : GoodIn wsX11_ofTool (va_wsO RX11 167 RX4 "PaperBubbles$Tool" ⟨"PaperBubbles$Tool", "tears", "(I)I"⟩ yX4_tears wsX4_tears) := goodIn_app (goodIn_of _ (by decide +kernel)) ggX11_ofTool_X4_tears
set_option maxRecDepth 20000 in
theorem gX11_ofTool_X8_tears_u167X5 : GoodIn wsX11_ofTool (va_wsU RX11 167 RX5 "PaperBubbles$Tool" ⟨"PaperBubbles$Tool", "tears", "(I)I"⟩ yX8_tears wsX8_tears) := goodIn_app (goodIn_of _ (by decide +kernel)) ggX11_ofTool_X8_tears
set_option maxRecDepth 20000 in
theorem gX11_ofTool_X8_tears_u167X6 : GoodIn wsX11_ofTool (va_wsU RX11 167 RX6 "PaperBubbles$Tool" ⟨"PaperBubbles$Tool", "tears", "(I)I"⟩ yX8_tears wsX8_tears) := goodIn_app (goodIn_of _ (by decide +kernel)) ggX11_ofTool_X8_tears
set_option maxRecDepth 20000 in
theorem gX11_ofTool_X8_tears : GoodIn wsX11_ofTool (wsV RX11 167 RX8 yX8_tears wsX8_tears) := goodIn_app (goodIn_of _ (by decide +kernel)) ggX11_ofTool_X8_tears
set_option maxRecDepth 20000 in
theorem ggX11_become_X11_isTool : GoodIn wsX11_become wsX11_isTool := goodIn_r _ [6, 1, 7, 8, 5, 9, 16, 17, 18, 19, 20, 21, 22, 23, 24, 25, 26, 27, 28, 29, 30, 31, 32, 33, 34, 35, 36, 37] (by decide +kernel) (by decide +kernel)
set_option maxRecDepth 20000 in
theorem gX11_become_X11_isTool : GoodIn wsX11_become (wsV RX11 142 RX11 yX11_isTool wsX11_isTool) := goodIn_app (goodIn_of _ (by decide +kernel)) ggX11_become_X11_isTool
set_option maxRecDepth 20000 in
theorem ggX11_become_X11_within : GoodIn wsX11_become wsX11_within := goodIn_r _ [9] (by decide +kernel) (by decide +kernel)
set_option maxRecDepth 20000 in
theorem gX11_become_X11_within : GoodIn wsX11_become (va_wsS RX11 78 yX11_within wsX11_within) := goodIn_app (goodIn_of _ (by decide +kernel)) ggX11_become_X11_within
set_option maxRecDepth 20000 in
theorem ggX11_become_X11_error : GoodIn wsX11_become wsX11_error := goodIn_r _ [13, 14, 15, 7, 8, 5, 9, 16, 17, 18, 19, 20, 21, 22, 23, 24, 25, 26] (by decide +kernel) (by decide +kernel)
set_option maxRecDepth 20000 in
theorem gX11_become_X11_error : GoodIn wsX11_become (wsV RX11 82 RX11 yX11_error wsX11_error) := goodIn_app (goodIn_of _ (by decide +kernel)) ggX11_become_X11_error
set_option maxRecDepth 20000 in
theorem ggX11_as_X11_isTool : GoodIn wsX11_as wsX11_isTool := goodIn_r _ [6, 1, 7, 8, 5, 9, 72, 73, 74, 75, 76, 77, 78, 79, 80, 81, 82, 83, 84, 85, 86, 87, 88, 89, 90, 91, 92, 93] (by decide +kernel) (by decide +kernel)
set_option maxRecDepth 20000 in
theorem gX11_as_X11_isTool : GoodIn wsX11_as (wsV RX11 142 RX11 yX11_isTool wsX11_isTool) := goodIn_app (goodIn_of _ (by decide +kernel)) ggX11_as_X11_isTool
set_option maxRecDepth 20000 in
theorem ggX11_as_X11_within : GoodIn wsX11_as wsX11_within := goodIn_r _ [9] (by decide +kernel) (by decide +kernel)
set_option maxRecDepth 20000 in
theorem gX11_as_X11_within : GoodIn wsX11_as (va_wsS RX11 78 yX11_within wsX11_within) := goodIn_app (goodIn_of _ (by decide +kernel)) ggX11_as_X11_within
set_option maxRecDepth 20000 in
theorem ggX11_as_X11_error : GoodIn wsX11_as wsX11_error := goodIn_r _ [13, 14, 15, 7, 8, 5, 9, 72, 73, 74, 75, 76, 77, 78, 79, 80, 81, 82] (by decide +kernel) (by decide +kernel)
set_option maxRecDepth 20000 in
theorem gX11_as_X11_error : GoodIn wsX11_as (wsV RX11 82 RX11 yX11_error wsX11_error) := goodIn_app (goodIn_of _ (by decide +kernel)) ggX11_as_X11_error
set_option maxRecDepth 20000 in
theorem ggX11_as_X11_kindOf : GoodIn wsX11_as wsX11_kindOf := goodIn_r _ [19, 1, 2, 3, 4, 5, 6, 7, 8, 9, 20, 21, 22, 23, 24, 72, 73, 74, 75, 76, 77, 78, 79, 80, 81, 82, 83, 84, 85, 86, 87, 88, 89, 90, 91, 92, 93] (by decide +kernel) (by decide +kernel)
set_option maxRecDepth 20000 in
theorem gX11_as_X11_kindOf : GoodIn wsX11_as (wsV RX11 145 RX11 yX11_kindOf wsX11_kindOf) := goodIn_app (goodIn_of _ (by decide +kernel)) ggX11_as_X11_kindOf
set_option maxRecDepth 20000 in
theorem ggX11_as_X0_isA : GoodIn wsX11_as wsX0_isA := goodIn_r _ [31, 32, 26, 33, 34, 35, 36] (by decide +kernel) (by decide +kernel)
set_option maxRecDepth 20000 in
theorem gX11_as_X0_isA_u170X0 : GoodIn wsX11_as (va_wsO RX11 170 RX0 "PaperBubbles$Tool" ⟨"PaperBubbles$Tool", "isA", "(I)Z"⟩ yX0_isA wsX0_isA) := goodIn_app (goodIn_of _ (by decide +kernel)) ggX11_as_X0_isA
set_option maxRecDepth 20000 in
theorem ggX11_as_X1_isA : GoodIn wsX11_as wsX1_isA := goodIn_r _ [40, 41, 42, 43, 44, 45, 46, 47, 26, 48, 34, 35, 36] (by decide +kernel) (by decide +kernel)
set_option maxRecDepth 20000 in
theorem gX11_as_X1_isA_u170X1 : GoodIn wsX11_as (va_wsO RX11 170 RX1 "PaperBubbles$Tool" ⟨"PaperBubbles$Tool", "isA", "(I)Z"⟩ yX1_isA wsX1_isA) := goodIn_app (goodIn_of _ (by decide +kernel)) ggX11_as_X1_isA
set_option maxRecDepth 20000 in
theorem ggX11_as_X2_isA : GoodIn wsX11_as wsX2_isA := goodIn_r _ [52, 53, 54, 55, 56, 57, 58, 59, 26, 60, 34, 35, 36] (by decide +kernel) (by decide +kernel)
set_option maxRecDepth 20000 in
theorem gX11_as_X2_isA_u170X2 : GoodIn wsX11_as (va_wsO RX11 170 RX2 "PaperBubbles$Tool" ⟨"PaperBubbles$Tool", "isA", "(I)Z"⟩ yX2_isA wsX2_isA) := goodIn_app (goodIn_of _ (by decide +kernel)) ggX11_as_X2_isA
set_option maxRecDepth 20000 in
theorem ggX11_as_X4_isA : GoodIn wsX11_as wsX4_isA := goodIn_r _ [58, 59, 26, 60, 34, 35, 36] (by decide +kernel) (by decide +kernel)
set_option maxRecDepth 20000 in
theorem gX11_as_X4_isA_u170X4 : GoodIn wsX11_as (va_wsO RX11 170 RX4 "PaperBubbles$Tool" ⟨"PaperBubbles$Tool", "isA", "(I)Z"⟩ yX4_isA wsX4_isA) := goodIn_app (goodIn_of _ (by decide +kernel)) ggX11_as_X4_isA
set_option maxRecDepth 20000 in
theorem ggX11_as_X5_isA : GoodIn wsX11_as wsX5_isA := goodIn_r _ [46, 47, 26, 48, 34, 35, 36] (by decide +kernel) (by decide +kernel)
set_option maxRecDepth 20000 in
theorem gX11_as_X5_isA_u170X5 : GoodIn wsX11_as (va_wsO RX11 170 RX5 "PaperBubbles$Tool" ⟨"PaperBubbles$Tool", "isA", "(I)Z"⟩ yX5_isA wsX5_isA) := goodIn_app (goodIn_of _ (by decide +kernel)) ggX11_as_X5_isA
set_option maxRecDepth 20000 in
theorem ggX11_as_X6_isA : GoodIn wsX11_as wsX6_isA := goodIn_r _ [66, 67, 68, 69, 29, 30, 31, 32, 26, 33, 34, 35, 36] (by decide +kernel) (by decide +kernel)
set_option maxRecDepth 20000 in
theorem gX11_as_X6_isA_u170X6 : GoodIn wsX11_as (va_wsO RX11 170 RX6 "PaperBubbles$Tool" ⟨"PaperBubbles$Tool", "isA", "(I)Z"⟩ yX6_isA wsX6_isA) := goodIn_app (goodIn_of _ (by decide +kernel)) ggX11_as_X6_isA
set_option maxRecDepth 20000 in
theorem ggX11_as_X8_isA : GoodIn wsX11_as wsX8_isA := goodIn_r _ [36] (by decide +kernel) (by decide +kernel)
set_option maxRecDepth 20000 in
theorem gX11_as_X8_isA : GoodIn wsX11_as (wsV RX11 170 RX8 yX8_isA wsX8_isA) := goodIn_app (goodIn_of _ (by decide +kernel)) ggX11_as_X8_isA
set_option maxRecDepth 20000 in
theorem ggX11_feed_X11_within : GoodIn wsX11_feed wsX11_within := goodIn_r _ [5] (by decide +kernel) (by decide +kernel)
set_option maxRecDepth 20000 in
theorem gX11_feed_X11_within : GoodIn wsX11_feed (va_wsS RX11 78 yX11_within wsX11_within) := goodIn_app (goodIn_of _ (by decide +kernel)) ggX11_feed_X11_within
set_option maxRecDepth 20000 in
theorem ggX11_feed_X11_error : GoodIn wsX11_feed wsX11_error := goodIn_r _ [9, 10, 11, 2, 3, 4, 5, 19, 20, 21, 22, 23, 24, 25, 26, 27, 28, 29] (by decide +kernel) (by decide +kernel)
set_option maxRecDepth 20000 in
theorem gX11_feed_X11_error : GoodIn wsX11_feed (wsV RX11 82 RX11 yX11_error wsX11_error) := goodIn_app (goodIn_of _ (by decide +kernel)) ggX11_feed_X11_error
set_option maxRecDepth 20000 in
theorem ggX11_feed_X7_addByte : GoodIn wsX11_feed wsX7_addByte := goodIn_r _ [16, 17, 18, 3, 4, 5, 30, 31, 32, 33, 34, 35, 36, 37, 38, 39, 40] (by decide +kernel) (by decide +kernel)
set_option maxRecDepth 20000 in
theorem gX11_feed_X7_addByte : GoodIn wsX11_feed (wsV RX11 176 RX7 yX7_addByte wsX7_addByte) := goodIn_app (goodIn_of _ (by decide +kernel)) ggX11_feed_X7_addByte
set_option maxRecDepth 20000 in
theorem ggX11_text_X11_isUse : GoodIn wsX11_text wsX11_isUse := goodIn_r _ [5] (by decide +kernel) (by decide +kernel)
set_option maxRecDepth 20000 in
theorem gX11_text_X11_isUse : GoodIn wsX11_text (va_wsS RX11 180 yX11_isUse wsX11_isUse) := goodIn_app (goodIn_of _ (by decide +kernel)) ggX11_text_X11_isUse
set_option maxRecDepth 20000 in
theorem ggX11_text_X11_error : GoodIn wsX11_text wsX11_error := goodIn_r _ [9, 10, 11, 12, 13, 4, 14, 174, 175, 176, 177, 178, 179, 180, 181, 182, 183, 184] (by decide +kernel) (by decide +kernel)
set_option maxRecDepth 20000 in
theorem gX11_text_X11_error : GoodIn wsX11_text (wsV RX11 82 RX11 yX11_error wsX11_error) := goodIn_app (goodIn_of _ (by decide +kernel)) ggX11_text_X11_error
set_option maxRecDepth 20000 in
theorem ggX11_text_X11_lawOf : GoodIn wsX11_text wsX11_lawOf := goodIn_r _ [18, 1, 174, 175, 176, 177, 178, 179, 180, 181, 182, 183, 184, 185, 186, 187, 188, 189, 190, 191, 192, 193, 194, 195] (by decide +kernel) (by decide +kernel)
set_option maxRecDepth 20000 in
theorem gX11_text_X11_lawOf : GoodIn wsX11_text (wsV RX11 183 RX11 yX11_lawOf wsX11_lawOf) := goodIn_app (goodIn_of _ (by decide +kernel)) ggX11_text_X11_lawOf
set_option maxRecDepth 20000 in
theorem ggX11_text_X3_read : GoodIn wsX11_text wsX3_read := goodIn_r _ [23, 24, 25, 26, 27, 28, 29, 30, 31, 32, 33, 34, 35, 36, 37, 38, 39, 22, 40, 41, 42, 43, 44, 45, 46, 47, 48, 49, 50, 51, 52, 53, 54, 55, 56, 57, 58, 59, 60, 61, 62, 63, 64, 65, 66, 67, 68, 69, 70, 71, 72, 73, 74, 75, 76, 77, 78, 79, 80, 81, 82, 83, 84, 85, 86, 87, 88, 89, 90, 91, 92, 93, 94, 95, 96, 97, 98, 99, 100, 101, 102, 103, 104, 105, 106, 107, 108, 109, 110, 111, 112, 113, 114, 115, 116, 117, 118, 119, 120, 121, 122, 123, 124, 125, 126, 127, 128, 129, 130, 131, 132, 133, 134, 135, 136, 137, 138, 13, 4, 14, 139, 140, 141, 142, 143, 144, 145, 146, 147, 148, 149, 150, 151, 152, 153, 154, 155, 156, 157, 158, 159, 160, 161, 162, 163, 164, 165, 166, 167, 168, 169, 170, 171, 172, 173, 196, 197, 198, 199, 200, 201, 202, 203, 204, 205, 206, 207, 208, 209] (by decide +kernel) (by decide +kernel)
set_option maxRecDepth 20000 in
theorem gX11_text_X3_read : GoodIn wsX11_text (wsV RX11 190 RX3 yX3_read wsX3_read) := goodIn_app (goodIn_of _ (by decide +kernel)) ggX11_text_X3_read
set_option maxRecDepth 20000 in
theorem ggX11_law_X11_isUse : GoodIn wsX11_law wsX11_isUse := goodIn_r _ [4] (by decide +kernel) (by decide +kernel)
set_option maxRecDepth 20000 in
theorem gX11_law_X11_isUse : GoodIn wsX11_law (va_wsS RX11 180 yX11_isUse wsX11_isUse) := goodIn_app (goodIn_of _ (by decide +kernel)) ggX11_law_X11_isUse
set_option maxRecDepth 20000 in
theorem ggX11_law_X11_error : GoodIn wsX11_law wsX11_error := goodIn_r _ [8, 9, 10, 11, 12, 3, 13, 51, 52, 53, 54, 55, 56, 57, 58, 59, 60, 61] (by decide +kernel) (by decide +kernel)
set_option maxRecDepth 20000 in
theorem gX11_law_X11_error : GoodIn wsX11_law (wsV RX11 82 RX11 yX11_error wsX11_error) := goodIn_app (goodIn_of _ (by decide +kernel)) ggX11_law_X11_error
set_option maxRecDepth 20000 in
theorem ggX11_law_X11_lawOf : GoodIn wsX11_law wsX11_lawOf := goodIn_r _ [17, 18, 51, 52, 53, 54, 55, 56, 57, 58, 59, 60, 61, 62, 63, 64, 65, 66, 67, 68, 69, 70, 71, 72] (by decide +kernel) (by decide +kernel)
set_option maxRecDepth 20000 in
theorem gX11_law_X11_lawOf : GoodIn wsX11_law (wsV RX11 183 RX11 yX11_lawOf wsX11_lawOf) := goodIn_app (goodIn_of _ (by decide +kernel)) ggX11_law_X11_lawOf
set_option maxRecDepth 20000 in
theorem ggX11_law_X3_gives : GoodIn wsX11_law wsX3_gives := goodIn_r _ [23, 24, 25, 26, 27, 28, 22, 29, 30, 12, 3, 13, 31, 32, 33, 34, 35, 36, 37, 38, 39, 40, 41, 42, 43, 44, 45, 46, 47, 48, 49, 50, 73, 74, 75, 76, 77, 78, 79, 80, 81, 82, 83, 84, 85, 86] (by decide +kernel) (by decide +kernel)
set_option maxRecDepth 20000 in
theorem gX11_law_X3_gives : GoodIn wsX11_law (wsV RX11 117 RX3 yX3_gives wsX3_gives) := goodIn_app (goodIn_of _ (by decide +kernel)) ggX11_law_X3_gives
set_option maxRecDepth 20000 in
theorem ggX11_stroke_X11_isTool : GoodIn wsX11_stroke wsX11_isTool := goodIn_r _ [6, 1, 7, 8, 5, 9, 206, 207, 208, 209, 210, 211, 212, 213, 214, 215, 216, 217, 218, 219, 220, 221, 222, 223, 224, 225, 226, 227] (by decide +kernel) (by decide +kernel)
set_option maxRecDepth 20000 in
theorem gX11_stroke_X11_isTool : GoodIn wsX11_stroke (wsV RX11 142 RX11 yX11_isTool wsX11_isTool) := goodIn_app (goodIn_of _ (by decide +kernel)) ggX11_stroke_X11_isTool
set_option maxRecDepth 20000 in
theorem ggX11_stroke_X11_isCell : GoodIn wsX11_stroke wsX11_isCell := goodIn_r _ [13, 1, 14, 15, 16, 17, 18, 19, 20, 206, 207, 208, 209, 210, 211, 212, 213, 214, 215, 216, 217, 218, 219, 220, 221, 222, 223, 224, 225, 226, 227, 228, 229, 230, 231, 232, 233, 234, 235, 236, 237, 238] (by decide +kernel) (by decide +kernel)
set_option maxRecDepth 20000 in
theorem gX11_stroke_X11_isCell : GoodIn wsX11_stroke (wsV RX11 97 RX11 yX11_isCell wsX11_isCell) := goodIn_app (goodIn_of _ (by decide +kernel)) ggX11_stroke_X11_isCell
set_option maxRecDepth 20000 in
theorem ggX11_stroke_X11_isWay : GoodIn wsX11_stroke wsX11_isWay := goodIn_r _ [23, 7, 8, 5, 9] (by decide +kernel) (by decide +kernel)
set_option maxRecDepth 20000 in
theorem gX11_stroke_X11_isWay : GoodIn wsX11_stroke (va_wsS RX11 126 yX11_isWay wsX11_isWay) := goodIn_app (goodIn_of _ (by decide +kernel)) ggX11_stroke_X11_isWay
set_option maxRecDepth 20000 in
theorem ggX11_stroke_X11_error : GoodIn wsX11_stroke wsX11_error := goodIn_r _ [27, 28, 29, 7, 8, 5, 9, 206, 207, 208, 209, 210, 211, 212, 213, 214, 215, 216] (by decide +kernel) (by decide +kernel)
set_option maxRecDepth 20000 in
theorem gX11_stroke_X11_error : GoodIn wsX11_stroke (wsV RX11 82 RX11 yX11_error wsX11_error) := goodIn_app (goodIn_of _ (by decide +kernel)) ggX11_stroke_X11_error
set_option maxRecDepth 20000 in
theorem ggX11_stroke_X11_kindOf : GoodIn wsX11_stroke wsX11_kindOf := goodIn_r _ [33, 1, 2, 3, 4, 5, 6, 7, 8, 9, 34, 35, 36, 37, 38, 206, 207, 208, 209, 210, 211, 212, 213, 214, 215, 216, 217, 218, 219, 220, 221, 222, 223, 224, 225, 226, 227] (by decide +kernel) (by decide +kernel)
set_option maxRecDepth 20000 in
theorem gX11_stroke_X11_kindOf : GoodIn wsX11_stroke (wsV RX11 145 RX11 yX11_kindOf wsX11_kindOf) := goodIn_app (goodIn_of _ (by decide +kernel)) ggX11_stroke_X11_kindOf
set_option maxRecDepth 20000 in
theorem ggX11_stroke_X10_strike : GoodIn wsX11_stroke wsX10_strike := goodIn_r _ [42, 43, 44, 45, 46, 47, 48, 49, 50, 51, 15, 16, 17, 18, 19, 20, 52, 53, 54, 55, 56, 57, 58, 59, 60, 61, 62, 63, 64, 65, 66, 67, 68, 69, 70, 71, 72, 73, 74, 75, 76, 77, 78, 79, 80, 81, 82, 83, 84, 85, 86, 87, 88, 89, 90, 91, 92, 93, 94, 95, 96, 97, 98, 99, 100, 101, 102, 103, 104, 105, 106, 107, 108, 109, 110, 111, 112, 113, 114, 115, 116, 117, 118, 119, 120, 121, 122, 123, 124, 125, 126, 127, 128, 129, 130, 131, 132, 133, 134, 135, 136, 8, 5, 9, 137, 138, 139, 140, 141, 142, 143, 144, 145, 146, 147, 148, 149, 150, 151, 152, 153, 154, 155, 156, 157, 158, 159, 160, 161, 162, 163, 164, 165, 166, 167, 168, 169, 170, 171, 172, 173, 174, 175, 176, 177, 178, 179, 180, 181, 182, 183, 184, 185, 186, 187, 188, 189, 190, 191, 192, 193, 194, 195, 196, 197, 198, 199, 200, 201, 202, 203, 204, 205, 22, 23, 7, 228, 229, 230, 231, 232, 233, 234, 235, 236, 237, 238, 239, 240, 241, 242, 243, 244, 245, 246, 247, 248, 249, 250, 251, 252] (by decide +kernel) (by decide +kernel)
set_option maxRecDepth 20000 in
theorem gX11_stroke_X10_strike : GoodIn wsX11_stroke (wsV RX11 194 RX10 yX10_strike wsX10_strike) := goodIn_app (goodIn_of _ (by decide +kernel)) ggX11_stroke_X10_strike
set_option maxRecDepth 20000 in
theorem ggX11_nights_X11_within : GoodIn wsX11_nights wsX11_within := goodIn_r _ [5] (by decide +kernel) (by decide +kernel)
set_option maxRecDepth 20000 in
theorem gX11_nights_X11_within : GoodIn wsX11_nights (va_wsS RX11 78 yX11_within wsX11_within) := goodIn_app (goodIn_of _ (by decide +kernel)) ggX11_nights_X11_within
set_option maxRecDepth 20000 in
theorem ggX11_nights_X11_error : GoodIn wsX11_nights wsX11_error := goodIn_r _ [9, 10, 11, 2, 3, 4, 5, 34, 35, 36, 37, 38, 39, 40, 41, 42, 43, 44] (by decide +kernel) (by decide +kernel)
set_option maxRecDepth 20000 in
theorem gX11_nights_X11_error : GoodIn wsX11_nights (wsV RX11 82 RX11 yX11_error wsX11_error) := goodIn_app (goodIn_of _ (by decide +kernel)) ggX11_nights_X11_error
set_option maxRecDepth 20000 in
theorem ggX11_nights_X10_passNight : GoodIn wsX11_nights wsX10_passNight := goodIn_r _ [16, 17, 18, 19, 20, 21, 22, 23, 24, 25, 26, 15, 27, 28, 29, 56, 57, 58, 59, 60, 61, 62, 63, 64, 65, 66] (by decide +kernel) (by decide +kernel)
set_option maxRecDepth 20000 in
theorem gX11_nights_X10_passNight : GoodIn wsX11_nights (wsV RX11 201 RX10 yX10_passNight wsX10_passNight) := goodIn_app (goodIn_of _ (by decide +kernel)) ggX11_nights_X10_passNight
set_option maxRecDepth 20000 in
theorem ggX11_nights_X10_allAir : GoodIn wsX11_nights wsX10_allAir := goodIn_r _ [33, 17, 24, 25, 26, 15, 27, 28, 29, 56, 57, 58, 59, 60, 61, 62, 63, 64, 65, 66] (by decide +kernel) (by decide +kernel)
set_option maxRecDepth 20000 in
theorem gX11_nights_X10_allAir : GoodIn wsX11_nights (wsV RX11 204 RX10 yX10_allAir wsX10_allAir) := goodIn_app (goodIn_of _ (by decide +kernel)) ggX11_nights_X10_allAir
set_option maxRecDepth 20000 in
theorem ggX11_days_X11_within : GoodIn wsX11_days wsX11_within := goodIn_r _ [5] (by decide +kernel) (by decide +kernel)
set_option maxRecDepth 20000 in
theorem gX11_days_X11_within : GoodIn wsX11_days (va_wsS RX11 78 yX11_within wsX11_within) := goodIn_app (goodIn_of _ (by decide +kernel)) ggX11_days_X11_within
set_option maxRecDepth 20000 in
theorem ggX11_days_X11_error : GoodIn wsX11_days wsX11_error := goodIn_r _ [9, 10, 11, 2, 3, 4, 5, 221, 222, 223, 224, 225, 226, 227, 228, 229, 230, 231] (by decide +kernel) (by decide +kernel)
set_option maxRecDepth 20000 in
theorem gX11_days_X11_error : GoodIn wsX11_days (wsV RX11 82 RX11 yX11_error wsX11_error) := goodIn_app (goodIn_of _ (by decide +kernel)) ggX11_days_X11_error
set_option maxRecDepth 20000 in
theorem ggX11_days_X7_draw : GoodIn wsX11_days wsX7_draw := goodIn_r _ [16, 17, 18, 232, 233, 234, 235, 236, 237, 238, 239, 240, 241, 242] (by decide +kernel) (by decide +kernel)
set_option maxRecDepth 20000 in
theorem gX11_days_X7_draw : GoodIn wsX11_days (wsV RX11 207 RX7 yX7_draw wsX7_draw) := goodIn_app (goodIn_of _ (by decide +kernel)) ggX11_days_X7_draw
set_option maxRecDepth 20000 in
theorem ggX11_days_X10_cells : GoodIn wsX11_days wsX10_cells := goodIn_r _ [23, 24, 25, 243, 244, 245, 246, 247, 248, 249, 250, 251, 252, 253] (by decide +kernel) (by decide +kernel)
set_option maxRecDepth 20000 in
theorem gX11_days_X10_cells : GoodIn wsX11_days (wsV RX11 93 RX10 yX10_cells wsX10_cells) := goodIn_app (goodIn_of _ (by decide +kernel)) ggX11_days_X10_cells
set_option maxRecDepth 20000 in
theorem ggX11_days_X11_kindOf : GoodIn wsX11_days wsX11_kindOf := goodIn_r _ [29, 1, 30, 31, 32, 4, 33, 2, 3, 5, 34, 35, 36, 37, 38, 221, 222, 223, 224, 225, 226, 227, 228, 229, 230, 231, 232, 233, 234, 235, 236, 237, 238, 239, 240, 241, 242] (by decide +kernel) (by decide +kernel)
set_option maxRecDepth 20000 in
theorem gX11_days_X11_kindOf : GoodIn wsX11_days (wsV RX11 145 RX11 yX11_kindOf wsX11_kindOf) := goodIn_app (goodIn_of _ (by decide +kernel)) ggX11_days_X11_kindOf
set_option maxRecDepth 20000 in
theorem ggX11_days_X10_strike : GoodIn wsX11_days wsX10_strike := goodIn_r _ [42, 43, 44, 45, 46, 47, 48, 49, 50, 51, 52, 53, 22, 54, 24, 25, 55, 56, 57, 58, 59, 60, 61, 62, 63, 64, 65, 66, 67, 68, 69, 70, 71, 72, 73, 74, 75, 76, 77, 78, 79, 80, 81, 82, 83, 84, 85, 86, 87, 88, 89, 90, 91, 92, 93, 94, 95, 96, 97, 98, 99, 100, 101, 102, 103, 104, 105, 106, 107, 108, 109, 110, 111, 112, 113, 114, 115, 116, 117, 118, 119, 120, 121, 122, 123, 124, 125, 126, 127, 128, 129, 130, 131, 132, 133, 134, 135, 136, 137, 138, 139, 3, 4, 5, 140, 141, 142, 143, 144, 145, 146, 147, 148, 149, 150, 151, 152, 153, 154, 155, 156, 157, 158, 159, 160, 161, 162, 163, 164, 165, 166, 167, 168, 169, 170, 171, 172, 173, 174, 175, 176, 177, 178, 179, 180, 181, 182, 183, 184, 185, 186, 187, 188, 189, 190, 191, 192, 193, 194, 195, 196, 197, 198, 199, 200, 201, 202, 203, 204, 205, 206, 207, 208, 209, 210, 2, 243, 244, 245, 246, 247, 248, 249, 250, 251, 252, 253, 254, 255, 256, 257, 258, 259, 260, 261, 262, 263, 264, 265, 266, 267] (by decide +kernel) (by decide +kernel)
set_option maxRecDepth 20000 in
theorem gX11_days_X10_strike : GoodIn wsX11_days (wsV RX11 194 RX10 yX10_strike wsX10_strike) := goodIn_app (goodIn_of _ (by decide +kernel)) ggX11_days_X10_strike
set_option maxRecDepth 20000 in
theorem ggX11_days_X10_passNight : GoodIn wsX11_days wsX10_passNight := goodIn_r _ [214, 43, 50, 215, 149, 46, 150, 216, 51, 52, 53, 22, 54, 24, 25, 243, 244, 245, 246, 247, 248, 249, 250, 251, 252, 253] (by decide +kernel) (by decide +kernel)
set_option maxRecDepth 20000 in
theorem gX11_days_X10_passNight : GoodIn wsX11_days (wsV RX11 201 RX10 yX10_passNight wsX10_passNight) := goodIn_app (goodIn_of _ (by decide +kernel)) ggX11_days_X10_passNight
set_option maxRecDepth 20000 in
theorem ggX11_days_X10_allAir : GoodIn wsX11_days wsX10_allAir := goodIn_r _ [220, 43, 51, 52, 53, 22, 54, 24, 25, 243, 244, 245, 246, 247, 248, 249, 250, 251, 252, 253] (by decide +kernel) (by decide +kernel)
set_option maxRecDepth 20000 in
theorem gX11_days_X10_allAir : GoodIn wsX11_days (wsV RX11 204 RX10 yX10_allAir wsX10_allAir) := goodIn_app (goodIn_of _ (by decide +kernel)) ggX11_days_X10_allAir
set_option maxRecDepth 20000 in
theorem ggX11_shown_X10_shownBy : GoodIn wsX11_shown wsX10_shownBy := goodIn_r _ [6, 7, 8, 9, 10, 11, 12, 5, 13, 14, 15, 16, 17, 18, 19, 20, 21, 22, 23, 24, 25, 26, 27, 28, 29, 30, 31, 32, 33, 34, 35, 36, 37, 38, 39, 40, 41, 42, 43, 44, 45, 46, 47, 48, 71, 72, 73, 74, 75, 76, 77, 78, 79, 80, 81, 82, 83, 84, 85, 86, 87, 88, 89, 90, 91, 92, 93, 94, 95] (by decide +kernel) (by decide +kernel)
set_option maxRecDepth 20000 in
theorem gX11_shown_X10_shownBy : GoodIn wsX11_shown (wsV RX11 210 RX10 yX10_shownBy wsX10_shownBy) := goodIn_app (goodIn_of _ (by decide +kernel)) ggX11_shown_X10_shownBy
set_option maxRecDepth 20000 in
theorem ggX11_bubbles_X10_countBubbles : GoodIn wsX11_bubbles wsX10_countBubbles := goodIn_r _ [6, 7, 8, 9, 10, 11, 12, 13, 14, 5, 15, 16, 17, 18, 19, 20, 21, 22, 23, 24, 25, 26, 27, 28, 29, 30, 31, 32, 33, 34, 35, 36, 37, 38, 39, 40, 41, 42, 43, 44, 67, 68, 69, 70, 71, 72, 73, 74, 75, 76, 77] (by decide +kernel) (by decide +kernel)
set_option maxRecDepth 20000 in
theorem gX11_bubbles_X10_countBubbles : GoodIn wsX11_bubbles (wsV RX11 214 RX10 yX10_countBubbles wsX10_countBubbles) := goodIn_app (goodIn_of _ (by decide +kernel)) ggX11_bubbles_X10_countBubbles
set_option maxRecDepth 20000 in
theorem ggX11_biggest_X11_within : GoodIn wsX11_biggest wsX11_within := goodIn_r _ [5] (by decide +kernel) (by decide +kernel)
set_option maxRecDepth 20000 in
theorem gX11_biggest_X11_within : GoodIn wsX11_biggest (va_wsS RX11 78 yX11_within wsX11_within) := goodIn_app (goodIn_of _ (by decide +kernel)) ggX11_biggest_X11_within
set_option maxRecDepth 20000 in
theorem ggX11_biggest_X11_error : GoodIn wsX11_biggest wsX11_error := goodIn_r _ [9, 10, 11, 2, 3, 4, 5, 59, 60, 61, 62, 63, 64, 65, 66, 67, 68, 69] (by decide +kernel) (by decide +kernel)
set_option maxRecDepth 20000 in
theorem gX11_biggest_X11_error : GoodIn wsX11_biggest (wsV RX11 82 RX11 yX11_error wsX11_error) := goodIn_app (goodIn_of _ (by decide +kernel)) ggX11_biggest_X11_error
set_option maxRecDepth 20000 in
theorem ggX11_biggest_X10_cellOfBiggest : GoodIn wsX11_biggest wsX10_cellOfBiggest := goodIn_r _ [16, 17, 18, 19, 20, 21, 22, 23, 24, 15, 25, 26, 27, 28, 29, 30, 31, 32, 33, 34, 35, 36, 37, 38, 39, 40, 41, 42, 43, 44, 45, 46, 47, 48, 49, 50, 51, 52, 53, 54, 81, 82, 83, 84, 85, 86, 87, 88, 89, 90, 91] (by decide +kernel) (by decide +kernel)
set_option maxRecDepth 20000 in
theorem gX11_biggest_X10_cellOfBiggest : GoodIn wsX11_biggest (wsV RX11 217 RX10 yX10_cellOfBiggest wsX10_cellOfBiggest) := goodIn_app (goodIn_of _ (by decide +kernel)) ggX11_biggest_X10_cellOfBiggest
set_option maxRecDepth 20000 in
theorem ggX11_biggest_X10_sizeOfBubble : GoodIn wsX11_biggest wsX10_sizeOfBubble := goodIn_r _ [58, 17, 18, 19, 20, 21, 28, 29, 30, 15, 31, 32, 33, 34, 35, 36, 37, 38, 22, 23, 24, 25, 26, 27, 39, 40, 41, 42, 43, 44, 45, 46, 47, 48, 49, 50, 51, 52, 53, 54, 81, 82, 83, 84, 85, 86, 87, 88, 89, 90, 91] (by decide +kernel) (by decide +kernel)
set_option maxRecDepth 20000 in
theorem gX11_biggest_X10_sizeOfBubble : GoodIn wsX11_biggest (wsV RX11 123 RX10 yX10_sizeOfBubble wsX10_sizeOfBubble) := goodIn_app (goodIn_of _ (by decide +kernel)) ggX11_biggest_X10_sizeOfBubble
set_option maxRecDepth 20000 in
theorem ggX11_wayOut_X11_isCell : GoodIn wsX11_wayOut wsX11_isCell := goodIn_r _ [10, 1, 11, 12, 13, 14, 15, 16, 17, 46, 47, 48, 49, 50, 51, 52, 53, 54, 55, 56, 57, 58, 59, 60, 61, 62, 63, 64, 65, 66, 67, 68, 69, 70, 71, 72, 73, 74, 75, 76, 77, 78] (by decide +kernel) (by decide +kernel)
set_option maxRecDepth 20000 in
theorem gX11_wayOut_X11_isCell : GoodIn wsX11_wayOut (wsV RX11 97 RX11 yX11_isCell wsX11_isCell) := goodIn_app (goodIn_of _ (by decide +kernel)) ggX11_wayOut_X11_isCell
set_option maxRecDepth 20000 in
theorem ggX11_wayOut_X11_error : GoodIn wsX11_wayOut wsX11_error := goodIn_r _ [21, 22, 23, 24, 25, 9, 26, 46, 47, 48, 49, 50, 51, 52, 53, 54, 55, 56] (by decide +kernel) (by decide +kernel)
set_option maxRecDepth 20000 in
theorem gX11_wayOut_X11_error : GoodIn wsX11_wayOut (wsV RX11 82 RX11 yX11_error wsX11_error) := goodIn_app (goodIn_of _ (by decide +kernel)) ggX11_wayOut_X11_error
set_option maxRecDepth 20000 in
theorem ggX11_wayOut_X10_isOpen : GoodIn wsX11_wayOut wsX10_isOpen := goodIn_r _ [30, 31, 32, 9, 33, 24, 25, 26, 68, 69, 70, 71, 72, 73, 74, 75, 76, 77, 78] (by decide +kernel) (by decide +kernel)
set_option maxRecDepth 20000 in
theorem gX11_wayOut_X10_isOpen : GoodIn wsX11_wayOut (wsV RX11 220 RX10 yX10_isOpen wsX10_isOpen) := goodIn_app (goodIn_of _ (by decide +kernel)) ggX11_wayOut_X10_isOpen
set_option maxRecDepth 20000 in
theorem ggX11_wayOut_X10_cellsAhead : GoodIn wsX11_wayOut wsX10_cellsAhead := goodIn_r _ [37, 17, 16, 38, 39, 40, 14, 41, 42, 43, 44, 45, 68, 69, 70, 71, 72, 73, 74, 75, 76, 77, 78] (by decide +kernel) (by decide +kernel)
set_option maxRecDepth 20000 in
theorem gX11_wayOut_X10_cellsAhead : GoodIn wsX11_wayOut (wsV RX11 223 RX10 yX10_cellsAhead wsX10_cellsAhead) := goodIn_app (goodIn_of _ (by decide +kernel)) ggX11_wayOut_X10_cellsAhead
set_option maxRecDepth 20000 in
theorem ggX11_best_X11_isTool : GoodIn wsX11_best wsX11_isTool := goodIn_r _ [6, 1, 7, 8, 5, 9, 232, 233, 234, 235, 236, 237, 238, 239, 240, 241, 242, 243, 244, 245, 246, 247, 248, 249, 250, 251, 252, 253] (by decide +kernel) (by decide +kernel)
set_option maxRecDepth 20000 in
theorem gX11_best_X11_isTool : GoodIn wsX11_best (wsV RX11 142 RX11 yX11_isTool wsX11_isTool) := goodIn_app (goodIn_of _ (by decide +kernel)) ggX11_best_X11_isTool
