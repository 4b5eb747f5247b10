/-! every word of the lists has a number -/
def gwT0 : List Cond := [.code yX0_init cX0_init 1 none, .instanceMethod yX8_init, .initialized RX8, .code yX8_init cX8_init 1 none, .methodLink RX8 1 objectInit, .instanceMethod objectInit, .code objectInit ⟨#[0xb1]⟩ 1 none, .code yX0_isA cX0_isA 2 (some .boolean), .methodLink RX0 7 yX8_isA, .sameMethod "PaperBubbles$Tool" "PaperBubbles$Tool" "isA" "(I)Z", .superclass RX0 RX8, .instanceMethod yX8_isA, .code yX8_isA cX8_isA 2 (some .boolean), .code yX0_sayMoves cX0_sayMoves 3 (some .int), .methodLink RX0 11 yX9_begin, .instanceMethod yX9_begin, .selects RX9 yX9_begin yX9_begin, .initialized RX9, .code yX9_begin cX9_begin 2 none, .fieldLink RX9 22 "PaperBubbles$Voice" "length" "I", .fieldLink RX9 9 "PaperBubbles$Voice" "bodies" "[I", .methodLink RX0 17 yX8_sayMoves, .sameMethod "PaperBubbles$Tool" "PaperBubbles$Tool" "sayMoves" "(ILPaperBubbles$Voice;)I", .instanceMethod yX8_sayMoves, .code yX8_sayMoves cX8_sayMoves 3 (some .int), .methodLink RX8 7 yX9_begin, ((wsX90).getD 0 (.initialized "")), ((wsX90).getD 1 (.initialized "")), ((wsX90).getD 2 (.initialized "")), ((wsX90).getD 3 (.initialized "")), .code yX1_init cX1_init 1 none, .instanceMethod yX5_init]
def gwT1 : List Cond := [.initialized RX5, .code yX5_init cX5_init 1 none, .code yX1_isA cX1_isA 2 (some .boolean), .methodLink RX1 7 yX5_isA, .sameMethod "PaperBubbles$Roller" "PaperBubbles$Roller" "isA" "(I)Z", .superclass RX1 RX5, .instanceMethod yX5_isA, .code yX5_isA cX5_isA 2 (some .boolean), .methodLink RX5 7 yX8_isA, .superclass RX5 RX8, .code yX1_moves cX1_moves 4 (some .int), .methodLink RX1 15 Lib.Math.max.name, .static Lib.Math.max.name, .initialized "java/lang/Math", .code Lib.Math.max.name Lib.Math.max.code 2 (some .int), .methodLink RX1 11 yX5_moves, .sameMethod "PaperBubbles$Roller" "PaperBubbles$Roller" "moves" "(III)I", .instanceMethod yX5_moves, .code yX5_moves cX5_moves 4 (some .int), .code yX1_reach cX1_reach 2 (some .int), .methodLink RX1 21 yX5_reach, .sameMethod "PaperBubbles$Roller" "PaperBubbles$Roller" "reach" "(I)I", .instanceMethod yX5_reach, .code yX5_reach cX5_reach 2 (some .int), .code yX1_sayTears cX1_sayTears 3 (some .int), .methodLink RX1 25 yX9_begin, .methodLink RX1 31 yX5_sayTears, .sameMethod "PaperBubbles$Roller" "PaperBubbles$Roller" "sayTears" "(ILPaperBubbles$Voice;)I", .instanceMethod yX5_sayTears, .code yX5_sayTears cX5_sayTears 3 (some .int), .methodLink RX5 11 yX9_begin, .methodLink RX5 17 yX8_sayTears]
def gwT2 : List Cond := [.sameMethod "PaperBubbles$Tool" "PaperBubbles$Tool" "sayTears" "(ILPaperBubbles$Voice;)I", .instanceMethod yX8_sayTears, .code yX8_sayTears cX8_sayTears 3 (some .int), .code yX1_sayTells cX1_sayTells 3 (some .int), .methodLink RX1 39 ⟨"PaperBubbles$Hard", "sayLets", "(ILPaperBubbles$Voice;)I"⟩, .sameMethod "PaperBubbles$Hard" "PaperBubbles$Tool" "sayLets" "(ILPaperBubbles$Voice;)I", .selects RX1 ⟨"PaperBubbles$Hard", "sayLets", "(ILPaperBubbles$Voice;)I"⟩ yX8_sayLets, .instanceMethod yX8_sayLets, .code yX8_sayLets cX8_sayLets 3 (some .int), .methodLink RX8 17 ⟨"PaperBubbles$Tool", "sayMoves", "(ILPaperBubbles$Voice;)I"⟩, .selects RX0 ⟨"PaperBubbles$Tool", "sayMoves", "(ILPaperBubbles$Voice;)I"⟩ yX0_sayMoves, .instanceMethod yX0_sayMoves, .initialized RX0, .selects RX1 ⟨"PaperBubbles$Tool", "sayMoves", "(ILPaperBubbles$Voice;)I"⟩ yX8_sayMoves, .selects RX2 ⟨"PaperBubbles$Tool", "sayMoves", "(ILPaperBubbles$Voice;)I"⟩ yX8_sayMoves, .selects RX4 ⟨"PaperBubbles$Tool", "sayMoves", "(ILPaperBubbles$Voice;)I"⟩ yX8_sayMoves, .selects RX5 ⟨"PaperBubbles$Tool", "sayMoves", "(ILPaperBubbles$Voice;)I"⟩ yX8_sayMoves, .selects RX6 ⟨"PaperBubbles$Tool", "sayMoves", "(ILPaperBubbles$Voice;)I"⟩ yX0_sayMoves, .selects RX8 yX8_sayMoves yX8_sayMoves, .code yX2_init cX2_init 1 none, .instanceMethod yX4_init, .initialized RX4, .code yX4_init cX4_init 1 none, .code yX2_isA cX2_isA 2 (some .boolean), .methodLink RX2 7 yX4_isA, .sameMethod "PaperBubbles$Needle" "PaperBubbles$Needle" "isA" "(I)Z", .superclass RX2 RX4, .instanceMethod yX4_isA, .code yX4_isA cX4_isA 2 (some .boolean), .methodLink RX4 7 yX8_isA, .superclass RX4 RX8, .code yX2_tears cX2_tears 2 (some .int)]
def gwT3 : List Cond := [.methodLink RX2 11 yX4_tears, .sameMethod "PaperBubbles$Needle" "PaperBubbles$Needle" "tears" "(I)I", .instanceMethod yX4_tears, .code yX4_tears cX4_tears 2 (some .int), .code yX2_sayLets cX2_sayLets 3 (some .int), .methodLink RX2 15 yX9_begin, .methodLink RX2 21 yX4_sayLets, .sameMethod "PaperBubbles$Needle" "PaperBubbles$Needle" "sayLets" "(ILPaperBubbles$Voice;)I", .instanceMethod yX4_sayLets, .code yX4_sayLets cX4_sayLets 3 (some .int), .methodLink RX4 11 yX9_begin, .methodLink RX4 17 yX8_sayLets, .sameMethod "PaperBubbles$Tool" "PaperBubbles$Tool" "sayLets" "(ILPaperBubbles$Voice;)I", .methodLink RX4 21 ⟨"PaperBubbles$Needle", "sayTears", "(ILPaperBubbles$Voice;)I"⟩, .sameMethod "PaperBubbles$Needle" "PaperBubbles$Tool" "sayTears" "(ILPaperBubbles$Voice;)I", .selects RX2 ⟨"PaperBubbles$Needle", "sayTears", "(ILPaperBubbles$Voice;)I"⟩ yX8_sayTears, .selects RX4 ⟨"PaperBubbles$Needle", "sayTears", "(ILPaperBubbles$Voice;)I"⟩ yX8_sayTears, .code yX3_gives cX3_gives 5 (some .int), .fieldLink RX3 42 "PaperBubbles$Law" "answers" "[I", .fieldLink RX3 18 "PaperBubbles$Law" "round" "I", .methodLink RX3 51 yX3_placeOf, .instanceMethod yX3_placeOf, .selects RX3 yX3_placeOf yX3_placeOf, .initialized RX3, .code yX3_placeOf cX3_placeOf 4 (some .int), .fieldLink RX3 39 "PaperBubbles$Law" "side" "I", .static yX11_within, .initialized RX11, .code yX11_within cX11_within 3 (some .boolean), .methodLink RX3 55 yX3_worksOut, .instanceMethod yX3_worksOut, .selects RX3 yX3_worksOut yX3_worksOut]
def gwT4 : List Cond := [.code yX3_worksOut cX3_worksOut 7 (some .int), .fieldLink RX3 36 "PaperBubbles$Law" "length" "I", .fieldLink RX3 9 "PaperBubbles$Law" "steps" "[I", .fieldLink RX3 15 "PaperBubbles$Law" "stack" "[I", .methodLink RX3 69 Lib.Math.min.name, .static Lib.Math.min.name, .code Lib.Math.min.name Lib.Math.min.code 2 (some .int), .methodLink RX3 75 Lib.Math.max.name, .methodLink RX3 62 yX3_named, .static yX3_named, .code yX3_named cX3_named 4 (some .int), .methodLink RX3 66 yX3_joined, .static yX3_joined, .code yX3_joined cX3_joined 3 (some .int), ((wsX30).getD 0 (.initialized "")), ((wsX30).getD 1 (.initialized "")), ((wsX30).getD 2 (.initialized "")), ((wsX30).getD 3 (.initialized "")), ((wsX30).getD 4 (.initialized "")), ((wsX30).getD 5 (.initialized "")), ((wsX30).getD 6 (.initialized "")), ((wsX30).getD 7 (.initialized "")), ((wsX30).getD 8 (.initialized "")), ((wsX30).getD 9 (.initialized "")), ((wsX30).getD 10 (.initialized "")), ((wsX30).getD 11 (.initialized "")), ((wsX30).getD 12 (.initialized "")), ((wsX30).getD 13 (.initialized "")), .code yX3_read cX3_read 5 (some .int), .fieldLink RX3 78 "PaperBubbles$Law" "drafted" "I", .fieldLink RX3 81 "PaperBubbles$Law" "holding" "I", .fieldLink RX3 84 "PaperBubbles$Law" "open" "I"]
def gwT5 : List Cond := [.fieldLink RX3 87 "PaperBubbles$Law" "digits" "I", .fieldLink RX3 90 "PaperBubbles$Law" "wantsOperand" "Z", .fieldLink RX3 22 "PaperBubbles$Law" "draft" "[I", .methodLink RX3 45 arraycopyName, .native arraycopyName, .static arraycopyName, .initialized "java/lang/System", .methodLink RX3 94 yX3_begins, .instanceMethod yX3_begins, .selects RX3 yX3_begins yX3_begins, .code yX3_begins cX3_begins 3 (some .boolean), .fieldLink RX3 32 "PaperBubbles$Law" "names" "Ljava/lang/String;", .methodLink RX3 108 yX3_hold, .instanceMethod yX3_hold, .selects RX3 yX3_hold yX3_hold, .code yX3_hold cX3_hold 2 none, .fieldLink RX3 25 "PaperBubbles$Law" "held" "[I", .methodLink RX3 111 yJ0_indexOf_0f7a4, .instanceMethod yJ0_indexOf_0f7a4, .selects RJ0 yJ0_indexOf_0f7a4 yJ0_indexOf_0f7a4, .initialized RJ0, .code yJ0_indexOf_0f7a4 cJ0_indexOf_0f7a4 2 (some .int), .methodLink RJ0 633 yJ0_indexOf_7cf53, .instanceMethod yJ0_indexOf_7cf53, .selects RJ0 yJ0_indexOf_7cf53 yJ0_indexOf_7cf53, .code yJ0_indexOf_7cf53 cJ0_indexOf_7cf53 3 (some .int), .fieldLink RJ0 9 "java/lang/String" "value" "[B", .methodLink RJ0 492 yJ0_isLatin1_aae02, .instanceMethod yJ0_isLatin1_aae02, .selects RJ0 yJ0_isLatin1_aae02 yJ0_isLatin1_aae02, .code yJ0_isLatin1_aae02 cJ0_isLatin1_aae02 1 (some .boolean), .fieldLink RJ0 38 "java/lang/String" "COMPACT_STRINGS" "Z"]
def gwT6 : List Cond := [.fieldLink RJ0 15 "java/lang/String" "coder" "B", .methodLink RJ0 505 yJ0_length_8abf5, .instanceMethod yJ0_length_8abf5, .selects RJ0 yJ0_length_8abf5 yJ0_length_8abf5, .code yJ0_length_8abf5 cJ0_length_8abf5 1 (some .int), .methodLink RJ0 335 yJ0_coder_7d493, .instanceMethod yJ0_coder_7d493, .selects RJ0 yJ0_coder_7d493 yJ0_coder_7d493, .code yJ0_coder_7d493 cJ0_coder_7d493 1 (some .byte), .methodLink RJ0 637 yJ1_indexOf_4cfef, .static yJ1_indexOf_4cfef, .initialized RJ1, .code yJ1_indexOf_4cfef cJ1_indexOf_4cfef 4 (some .int), .methodLink RJ1 92 Lib.Math.max.name, .methodLink RJ1 38 Lib.Math.min.name, .methodLink RJ1 88 yJ1_canEncode_9a6ad, .static yJ1_canEncode_9a6ad, .code yJ1_canEncode_9a6ad cJ1_canEncode_9a6ad 1 (some .boolean), .methodLink RJ1 95 yJ1_indexOfChar_4cfef, .static yJ1_indexOfChar_4cfef, .code yJ1_indexOfChar_4cfef cJ1_indexOfChar_4cfef 6 (some .int), .methodLink RJ0 640 yJ2_indexOf_4cfef, .static yJ2_indexOf_4cfef, .initialized RJ2, .code yJ2_indexOf_4cfef cJ2_indexOf_4cfef 4 (some .int), .methodLink RJ2 224 Lib.Math.max.name, .methodLink RJ2 183 Lib.Math.min.name, .constant RJ2 227 (65536), .methodLink RJ2 228 yJ2_indexOfChar_4cfef, .static yJ2_indexOfChar_4cfef, .code yJ2_indexOfChar_4cfef cJ2_indexOfChar_4cfef 4 (some .int), .methodLink RJ2 96 yJ2_checkBoundsBeginEnd_d044e]
def gwT7 : List Cond := [.static yJ2_checkBoundsBeginEnd_d044e, .code yJ2_checkBoundsBeginEnd_d044e cJ2_checkBoundsBeginEnd_d044e 3 none, .methodLink RJ2 48 yJ2_length_9d52b, .static yJ2_length_9d52b, .code yJ2_length_9d52b cJ2_length_9d52b 1 (some .int), .methodLink RJ2 241 yJ0_checkBoundsBeginEnd_23922, .static yJ0_checkBoundsBeginEnd_23922, .code yJ0_checkBoundsBeginEnd_23922 cJ0_checkBoundsBeginEnd_23922 3 none, .fieldLink RJ0 1053 "jdk/internal/util/Preconditions" "SIOOBE_FORMATTER" "Ljava/util/function/BiFunction;", .methodLink RJ0 1062 yJ3_checkFromToIndex_8c36e, .static yJ3_checkFromToIndex_8c36e, .initialized RJ3, .code yJ3_checkFromToIndex_8c36e cJ3_checkFromToIndex_8c36e 4 (some .int), .methodLink RJ2 244 yJ2_indexOfCharUnsafe_4cfef, .static yJ2_indexOfCharUnsafe_4cfef, .code yJ2_indexOfCharUnsafe_4cfef cJ2_indexOfCharUnsafe_4cfef 5 (some .int), .methodLink RJ2 71 yJ2_getChar_3b067, .static yJ2_getChar_3b067, .code yJ2_getChar_3b067 cJ2_getChar_3b067 2 (some .char), .fieldLink RJ2 44 "java/lang/StringUTF16" "$assertionsDisabled" "Z", .fieldLink RJ2 59 "java/lang/StringUTF16" "HI_BYTE_SHIFT" "I", .fieldLink RJ2 63 "java/lang/StringUTF16" "LO_BYTE_SHIFT" "I", .methodLink RJ2 232 yJ2_indexOfSupplementary_4cfef, .static yJ2_indexOfSupplementary_4cfef, .code yJ2_indexOfSupplementary_4cfef cJ2_indexOfSupplementary_4cfef 7 (some .int), .methodLink RJ2 164 yJ11_isValidCodePoint_9a6ad, .static yJ11_isValidCodePoint_9a6ad, .initialized RJ11, .code yJ11_isValidCodePoint_9a6ad cJ11_isValidCodePoint_9a6ad 2 (some .boolean), .methodLink RJ2 157 yJ11_highSurrogate_5068e, .static yJ11_highSurrogate_5068e, .code yJ11_highSurrogate_5068e cJ11_highSurrogate_5068e 1 (some .char)]
def gwT8 : List Cond := [.constant RJ11 110 (55232), .methodLink RJ2 161 yJ11_lowSurrogate_5068e, .static yJ11_lowSurrogate_5068e, .code yJ11_lowSurrogate_5068e cJ11_lowSurrogate_5068e 1 (some .char), .constant RJ11 76 (56320), .methodLink RX3 117 yX3_isDigit, .static yX3_isDigit, .code yX3_isDigit cX3_isDigit 1 (some .boolean), .methodLink RX3 120 yX3_write, .instanceMethod yX3_write, .selects RX3 yX3_write yX3_write, .code yX3_write cX3_write 2 none, .methodLink RX3 98 yX3_follows, .instanceMethod yX3_follows, .selects RX3 yX3_follows yX3_follows, .code yX3_follows cX3_follows 3 (some .boolean), .methodLink RX3 123 yX3_addDigit, .instanceMethod yX3_addDigit, .selects RX3 yX3_addDigit yX3_addDigit, .code yX3_addDigit cX3_addDigit 2 (some .boolean), .methodLink RX3 101 yX3_closeNots, .instanceMethod yX3_closeNots, .selects RX3 yX3_closeNots yX3_closeNots, .code yX3_closeNots cX3_closeNots 2 none, .methodLink RX3 133 yX3_lastHeld, .instanceMethod yX3_lastHeld, .selects RX3 yX3_lastHeld yX3_lastHeld, .code yX3_lastHeld cX3_lastHeld 1 (some .int), .methodLink RX3 137 yX3_writeLastHeld, .instanceMethod yX3_writeLastHeld, .selects RX3 yX3_writeLastHeld yX3_writeLastHeld, .code yX3_writeLastHeld cX3_writeLastHeld 1 none]
def gwT9 : List Cond := [.methodLink RX3 126 yX3_closeParenthesis, .instanceMethod yX3_closeParenthesis, .selects RX3 yX3_closeParenthesis yX3_closeParenthesis, .code yX3_closeParenthesis cX3_closeParenthesis 1 (some .boolean), .methodLink RX3 104 yX3_closeFrom, .instanceMethod yX3_closeFrom, .selects RX3 yX3_closeFrom yX3_closeFrom, .code yX3_closeFrom cX3_closeFrom 3 none, .methodLink RX3 130 yX3_rankOf, .static yX3_rankOf, .code yX3_rankOf cX3_rankOf 1 (some .int), .code yX6_init cX6_init 1 none, .instanceMethod yX0_init, .code yX6_isA cX6_isA 2 (some .boolean), .methodLink RX6 7 yX0_isA, .sameMethod "PaperBubbles$Brush" "PaperBubbles$Brush" "isA" "(I)Z", .superclass RX6 RX0, .instanceMethod yX0_isA, .code yX6_moves cX6_moves 4 (some .int), .methodLink RX6 11 yX0_moves, .sameMethod "PaperBubbles$Brush" "PaperBubbles$Brush" "moves" "(III)I", .instanceMethod yX0_moves, .code yX0_moves cX0_moves 4 (some .int), .code yX6_sayTells cX6_sayTells 3 (some .int), .methodLink RX6 15 yX9_begin, .methodLink RX6 25 ⟨"PaperBubbles$Soft", "sayMoves", "(ILPaperBubbles$Voice;)I"⟩, .sameMethod "PaperBubbles$Soft" "PaperBubbles$Brush" "sayMoves" "(ILPaperBubbles$Voice;)I", .selects RX6 ⟨"PaperBubbles$Soft", "sayMoves", "(ILPaperBubbles$Voice;)I"⟩ yX0_sayMoves, .code yX7_init cX7_init 2 none, .methodLink RX7 3 objectInit, .classLink RX7 9 RX10, .instantiable RX10 11]
def gwT10 : List Cond := [.initialized RX10, .fieldLink RX7 12 "PaperBubbles$State" "wall" "LPaperBubbles$Wall;", .arrayClass .int, .fieldLink RX7 18 "PaperBubbles$State" "kind" "[I", .fieldLink RX7 22 "PaperBubbles$State" "m" "[I", .fieldLink RX7 25 "PaperBubbles$State" "tape" "[I", .fieldLink RX7 28 "PaperBubbles$State" "z" "I", .fieldLink RX7 32 "PaperBubbles$State" "told" "[I", .classLink RX7 35 RX3, .instantiable RX3 14, .fieldLink RX7 40 "PaperBubbles$State" "moved" "LPaperBubbles$Law;", .fieldLink RX7 44 "PaperBubbles$State" "seen" "LPaperBubbles$Law;", .methodLink RX7 11 yX10_init, .instanceMethod yX10_init, .code yX10_init cX10_init 1 none, .methodLink RX10 3 objectInit, .fieldLink RX10 9 "PaperBubbles$Wall" "rows" "I", .fieldLink RX10 15 "PaperBubbles$Wall" "columns" "I", .fieldLink RX10 18 "PaperBubbles$Wall" "air" "[I", .fieldLink RX10 22 "PaperBubbles$Wall" "paste" "[I", .fieldLink RX10 25 "PaperBubbles$Wall" "open" "[I", .fieldLink RX10 28 "PaperBubbles$Wall" "met" "[I", .fieldLink RX10 31 "PaperBubbles$Wall" "line" "[I", .methodLink RX10 34 yJ7_fill_53178, .static yJ7_fill_53178, .initialized RJ7, .code yJ7_fill_53178 cJ7_fill_53178 4 none, .methodLink RX7 37 yX3_init, .instanceMethod yX3_init, .code yX3_init cX3_init 3 none, .methodLink RX3 3 objectInit, ((wsX100).getD 0 (.initialized ""))]
def gwT11 : List Cond := [((wsX100).getD 1 (.initialized "")), ((wsX100).getD 2 (.initialized "")), ((wsX100).getD 3 (.initialized "")), ((wsX100).getD 4 (.initialized "")), ((wsX100).getD 5 (.initialized "")), ((wsX100).getD 6 (.initialized "")), ((wsX100).getD 7 (.initialized "")), ((wsX100).getD 8 (.initialized "")), ((wsX100).getD 9 (.initialized "")), ((wsX100).getD 10 (.initialized "")), ((wsX70).getD 0 (.initialized "")), ((wsX70).getD 1 (.initialized "")), ((wsX70).getD 2 (.initialized "")), ((wsX70).getD 3 (.initialized "")), ((wsX70).getD 4 (.initialized "")), ((wsX70).getD 5 (.initialized "")), ((wsX70).getD 6 (.initialized "")), ((wsX70).getD 7 (.initialized "")), ((wsX70).getD 8 (.initialized "")), ((wsX70).getD 9 (.initialized "")), ((wsX70).getD 10 (.initialized "")), .code yX7_copy cX7_copy 2 none, .fieldLink RX7 51 "PaperBubbles$State" "tools" "I", .methodLink RX7 54 arraycopyName, .fieldLink RX7 60 "PaperBubbles$State" "tapeLength" "I", .fieldLink RX7 66 "PaperBubbles$State" "waiting" "I", .methodLink RX7 47 yX10_copy, .instanceMethod yX10_copy, .selects RX10 yX10_copy yX10_copy, .code yX10_copy cX10_copy 2 none, .methodLink RX10 44 arraycopyName, .fieldLink RX10 50 "PaperBubbles$Wall" "holes" "I"]
def gwT12 : List Cond := [.fieldLink RX10 53 "PaperBubbles$Wall" "out" "I", .fieldLink RX10 56 "PaperBubbles$Wall" "night" "I", .methodLink RX10 40 yX10_airAs, .instanceMethod yX10_airAs, .selects RX10 yX10_airAs yX10_airAs, .code yX10_airAs cX10_airAs 2 none, .methodLink RX7 63 yX3_copy, .instanceMethod yX3_copy, .selects RX3 yX3_copy yX3_copy, .code yX3_copy cX3_copy 2 none, .code yX7_addByte cX7_addByte 2 none, .code yX8_sayTells cX8_sayTells 3 (some .int), .methodLink RX8 26 ⟨"PaperBubbles$Tool", "sayLets", "(ILPaperBubbles$Voice;)I"⟩, .selects RX0 ⟨"PaperBubbles$Tool", "sayLets", "(ILPaperBubbles$Voice;)I"⟩ yX8_sayLets, .selects RX1 ⟨"PaperBubbles$Tool", "sayLets", "(ILPaperBubbles$Voice;)I"⟩ yX8_sayLets, .selects RX2 ⟨"PaperBubbles$Tool", "sayLets", "(ILPaperBubbles$Voice;)I"⟩ yX2_sayLets, .instanceMethod yX2_sayLets, .initialized RX2, .selects RX4 ⟨"PaperBubbles$Tool", "sayLets", "(ILPaperBubbles$Voice;)I"⟩ yX4_sayLets, .selects RX5 ⟨"PaperBubbles$Tool", "sayLets", "(ILPaperBubbles$Voice;)I"⟩ yX8_sayLets, .selects RX6 ⟨"PaperBubbles$Tool", "sayLets", "(ILPaperBubbles$Voice;)I"⟩ yX8_sayLets, .selects RX8 yX8_sayLets yX8_sayLets, .methodLink RX8 29 ⟨"PaperBubbles$Tool", "sayTears", "(ILPaperBubbles$Voice;)I"⟩, .selects RX0 ⟨"PaperBubbles$Tool", "sayTears", "(ILPaperBubbles$Voice;)I"⟩ yX8_sayTears, .selects RX1 ⟨"PaperBubbles$Tool", "sayTears", "(ILPaperBubbles$Voice;)I"⟩ yX1_sayTears, .instanceMethod yX1_sayTears, .initialized RX1, .selects RX2 ⟨"PaperBubbles$Tool", "sayTears", "(ILPaperBubbles$Voice;)I"⟩ yX8_sayTears, .selects RX4 ⟨"PaperBubbles$Tool", "sayTears", "(ILPaperBubbles$Voice;)I"⟩ yX8_sayTears, .selects RX5 ⟨"PaperBubbles$Tool", "sayTears", "(ILPaperBubbles$Voice;)I"⟩ yX5_sayTears, .selects RX6 ⟨"PaperBubbles$Tool", "sayTears", "(ILPaperBubbles$Voice;)I"⟩ yX8_sayTears, .selects RX8 yX8_sayTears yX8_sayTears]
def gwT13 : List Cond := [.code yX10_lay cX10_lay 3 none, .code yX10_isOpen cX10_isOpen 2 (some .boolean), .static yX11_isWay, .code yX11_isWay cX11_isWay 1 (some .boolean), .methodLink RX11 78 yX11_within, .code yX10_cellsAhead cX10_cellsAhead 3 (some .int), .methodLink RX10 63 yX10_rowOf, .instanceMethod yX10_rowOf, .selects RX10 yX10_rowOf yX10_rowOf, .code yX10_rowOf cX10_rowOf 2 (some .int), .methodLink RX10 67 yX10_columnOf, .instanceMethod yX10_columnOf, .selects RX10 yX10_columnOf yX10_columnOf, .code yX10_columnOf cX10_columnOf 2 (some .int), .code yX10_beside cX10_beside 3 (some .int), .methodLink RX10 70 yX10_cellsAhead, .instanceMethod yX10_cellsAhead, .selects RX10 yX10_cellsAhead yX10_cellsAhead, .code yX10_strike cX10_strike 10 none, .methodLink RX10 82 Lib.Math.min.name, .constant RX10 91 (99999), .methodLink RX10 74 yX10_has, .instanceMethod yX10_has, .selects RX10 yX10_has yX10_has, .code yX10_has cX10_has 2 (some .boolean), .methodLink RX10 77 ⟨"PaperBubbles$Tool", "lets", "(II)I"⟩, .sameMethod "PaperBubbles$Tool" "PaperBubbles$Tool" "lets" "(II)I", .selects RX0 ⟨"PaperBubbles$Tool", "lets", "(II)I"⟩ yX8_lets, .instanceMethod yX8_lets, .code yX8_lets cX8_lets 3 (some .int), .selects RX1 ⟨"PaperBubbles$Tool", "lets", "(II)I"⟩ yX8_lets, .selects RX2 ⟨"PaperBubbles$Tool", "lets", "(II)I"⟩ yX2_lets]
def gwT14 : List Cond := [.instanceMethod yX2_lets, .code yX2_lets cX2_lets 3 (some .int), .selects RX4 ⟨"PaperBubbles$Tool", "lets", "(II)I"⟩ yX4_lets, .instanceMethod yX4_lets, .code yX4_lets cX4_lets 3 (some .int), .selects RX5 ⟨"PaperBubbles$Tool", "lets", "(II)I"⟩ yX8_lets, .selects RX6 ⟨"PaperBubbles$Tool", "lets", "(II)I"⟩ yX8_lets, .selects RX8 yX8_lets yX8_lets, .methodLink RX10 87 yX10_goesOut, .instanceMethod yX10_goesOut, .selects RX10 yX10_goesOut yX10_goesOut, .code yX10_goesOut cX10_goesOut 2 none, .methodLink RX10 92 ⟨"PaperBubbles$Tool", "tears", "(I)I"⟩, .sameMethod "PaperBubbles$Tool" "PaperBubbles$Tool" "tears" "(I)I", .selects RX0 ⟨"PaperBubbles$Tool", "tears", "(I)I"⟩ yX8_tears, .instanceMethod yX8_tears, .code yX8_tears cX8_tears 2 (some .int), .selects RX1 ⟨"PaperBubbles$Tool", "tears", "(I)I"⟩ yX1_tears, .instanceMethod yX1_tears, .code yX1_tears cX1_tears 2 (some .int), .selects RX2 ⟨"PaperBubbles$Tool", "tears", "(I)I"⟩ yX2_tears, .instanceMethod yX2_tears, .selects RX4 ⟨"PaperBubbles$Tool", "tears", "(I)I"⟩ yX4_tears, .selects RX5 ⟨"PaperBubbles$Tool", "tears", "(I)I"⟩ yX8_tears, .selects RX6 ⟨"PaperBubbles$Tool", "tears", "(I)I"⟩ yX8_tears, .selects RX8 yX8_tears yX8_tears, .methodLink RX10 95 ⟨"PaperBubbles$Tool", "reach", "(I)I"⟩, .sameMethod "PaperBubbles$Tool" "PaperBubbles$Tool" "reach" "(I)I", .selects RX0 ⟨"PaperBubbles$Tool", "reach", "(I)I"⟩ yX8_reach, .instanceMethod yX8_reach, .code yX8_reach cX8_reach 2 (some .int), .selects RX1 ⟨"PaperBubbles$Tool", "reach", "(I)I"⟩ yX1_reach]
def gwT15 : List Cond := [.instanceMethod yX1_reach, .selects RX2 ⟨"PaperBubbles$Tool", "reach", "(I)I"⟩ yX8_reach, .selects RX4 ⟨"PaperBubbles$Tool", "reach", "(I)I"⟩ yX8_reach, .selects RX5 ⟨"PaperBubbles$Tool", "reach", "(I)I"⟩ yX5_reach, .selects RX6 ⟨"PaperBubbles$Tool", "reach", "(I)I"⟩ yX8_reach, .selects RX8 yX8_reach yX8_reach, .methodLink RX10 98 yX10_pushOn, .instanceMethod yX10_pushOn, .selects RX10 yX10_pushOn yX10_pushOn, .code yX10_pushOn cX10_pushOn 9 (some .int), .methodLink RX10 102 yX3_gives, .instanceMethod yX3_gives, .selects RX3 yX3_gives yX3_gives, .methodLink RX10 108 ⟨"PaperBubbles$Tool", "moves", "(III)I"⟩, .sameMethod "PaperBubbles$Tool" "PaperBubbles$Tool" "moves" "(III)I", .instanceMethod ⟨"PaperBubbles$Tool", "moves", "(III)I"⟩, .selects RX0 ⟨"PaperBubbles$Tool", "moves", "(III)I"⟩ yX0_moves, .code yX8_moves cX8_moves 4 (some .int), .selects RX1 ⟨"PaperBubbles$Tool", "moves", "(III)I"⟩ yX1_moves, .instanceMethod yX1_moves, .selects RX2 ⟨"PaperBubbles$Tool", "moves", "(III)I"⟩ yX4_moves, .instanceMethod yX4_moves, .code yX4_moves cX4_moves 4 (some .int), .selects RX4 ⟨"PaperBubbles$Tool", "moves", "(III)I"⟩ yX4_moves, .selects RX5 ⟨"PaperBubbles$Tool", "moves", "(III)I"⟩ yX5_moves, .selects RX6 ⟨"PaperBubbles$Tool", "moves", "(III)I"⟩ yX6_moves, .instanceMethod yX6_moves, .initialized RX6, .selects RX8 yX8_moves yX8_moves, .methodLink RX10 111 yX10_beside, .instanceMethod yX10_beside, .selects RX10 yX10_beside yX10_beside]
def gwT16 : List Cond := [.methodLink RX10 114 yX10_isOpen, .instanceMethod yX10_isOpen, .selects RX10 yX10_isOpen yX10_isOpen, .code yX10_passNight cX10_passNight 2 none, .methodLink RX10 117 Lib.Math.max.name, .code yX10_allAir cX10_allAir 3 (some .int), .code yX10_cellsWithAir cX10_cellsWithAir 3 (some .int), .code yX10_shownBy cX10_shownBy 6 (some .int), .code yX10_isLit cX10_isLit 5 (some .boolean), .code yX10_sizeOfBubble cX10_sizeOfBubble 2 (some .int), .methodLink RX10 120 yX10_meetBubble, .instanceMethod yX10_meetBubble, .selects RX10 yX10_meetBubble yX10_meetBubble, .code yX10_meetBubble cX10_meetBubble 5 (some .int), .fieldLink RX10 123 "PaperBubbles$Wall" "inLine" "I", .methodLink RX10 126 yX10_meet, .instanceMethod yX10_meet, .selects RX10 yX10_meet yX10_meet, .code yX10_meet cX10_meet 2 none, .code yX10_countBubbles cX10_countBubbles 3 (some .int), .code yX10_cellOfBiggest cX10_cellOfBiggest 5 (some .int), .code yX11_init cX11_init 1 none, .methodLink RX11 3 objectInit, .classLink RX11 9 RX7, .instantiable RX7 11, .initialized RX7, .fieldLink RX11 14 "PaperBubbles" "now" "LPaperBubbles$State;", .fieldLink RX11 18 "PaperBubbles" "kept" "LPaperBubbles$State;", .classLink RX11 21 RX8, .instantiable RX8 0, .classLink RX11 24 RX0, .instantiable RX0 0]
def gwT17 : List Cond := [.classLink RX11 27 RX4, .instantiable RX4 0, .classLink RX11 30 RX5, .instantiable RX5 0, .classLink RX11 33 RX6, .instantiable RX6 0, .classLink RX11 36 RX2, .instantiable RX2 0, .classLink RX11 39 RX1, .instantiable RX1 0, .fieldLink RX11 42 "PaperBubbles" "kinds" "[LPaperBubbles$Tool;", .classLink RX11 46 RX9, .instantiable RX9 4, .fieldLink RX11 49 "PaperBubbles" "voice" "LPaperBubbles$Voice;", .classLink RX11 53 RX10, .fieldLink RX11 56 "PaperBubbles" "thought" "LPaperBubbles$Wall;", .fieldLink RX11 60 "PaperBubbles" "further" "LPaperBubbles$Wall;", .fieldLink RX11 63 "PaperBubbles" "errors" "[I", .fieldLink RX11 67 "PaperBubbles" "sheetBits" "[I", .fieldLink RX11 70 "PaperBubbles" "sheetLength" "[I", .classLink RX11 73 "[[I", .fieldLink RX11 75 "PaperBubbles" "numbers" "[[I", .methodLink RX11 11 yX7_init, .instanceMethod yX7_init, .instanceMethod yX6_init, .instanceMethod yX2_init, .instanceMethod yX1_init, .instanceMethod yX9_init, .code yX9_init cX9_init 1 none, .methodLink RX9 3 objectInit, .methodLink RX11 55 yX10_init, ((wsX110).getD 0 (.initialized ""))]
def gwT18 : List Cond := [((wsX110).getD 1 (.initialized "")), ((wsX110).getD 2 (.initialized "")), ((wsX110).getD 3 (.initialized "")), ((wsX110).getD 4 (.initialized "")), ((wsX110).getD 5 (.initialized "")), ((wsX110).getD 6 (.initialized "")), ((wsX110).getD 7 (.initialized "")), ((wsX110).getD 8 (.initialized "")), ((wsX110).getD 9 (.initialized "")), ((wsX110).getD 10 (.initialized "")), .code yX11_wall cX11_wall 3 (some .int), .methodLink RX11 82 yX11_error, .instanceMethod yX11_error, .selects RX11 yX11_error yX11_error, .code yX11_error cX11_error 2 (some .int), .constant RX11 324 (-1000000000), .methodLink RX11 89 yX10_lay, .instanceMethod yX10_lay, .selects RX10 yX10_lay yX10_lay, .methodLink RX11 93 yX10_cells, .instanceMethod yX10_cells, .selects RX10 yX10_cells yX10_cells, .code yX10_cells cX10_cells 1 (some .int), .code yX11_set cX11_set 6 (some .int), .methodLink RX11 97 yX11_isCell, .instanceMethod yX11_isCell, .selects RX11 yX11_isCell yX11_isCell, .code yX11_isCell cX11_isCell 2 (some .boolean), .methodLink RX11 325 yX10_has, .code yX11_ofCell cX11_ofCell 3 (some .int), .methodLink RX11 111 yX10_rowOf, .methodLink RX11 114 yX10_columnOf]
def gwT19 : List Cond := [.methodLink RX11 117 yX3_gives, .methodLink RX11 123 yX10_sizeOfBubble, .instanceMethod yX10_sizeOfBubble, .selects RX10 yX10_sizeOfBubble yX10_sizeOfBubble, .code yX11_edge cX11_edge 4 (some .int), .methodLink RX11 126 yX11_isWay, .code yX11_tool cX11_tool 3 (some .int), .code yX11_ofTool cX11_ofTool 6 (some .int), .methodLink RX11 158 Lib.Math.min.name, .methodLink RX11 142 yX11_isTool, .instanceMethod yX11_isTool, .selects RX11 yX11_isTool yX11_isTool, .code yX11_isTool cX11_isTool 2 (some .boolean), .methodLink RX11 145 yX11_kindOf, .instanceMethod yX11_kindOf, .selects RX11 yX11_kindOf yX11_kindOf, .code yX11_kindOf cX11_kindOf 2 (some (.object "PaperBubbles$Tool")), .methodLink RX11 253 yX11_kindAt, .instanceMethod yX11_kindAt, .selects RX11 yX11_kindAt yX11_kindAt, .code yX11_kindAt cX11_kindAt 2 (some (.object "PaperBubbles$Tool")), .methodLink RX11 149 ⟨"PaperBubbles$Tool", "reach", "(I)I"⟩, .methodLink RX11 155 ⟨"PaperBubbles$Tool", "moves", "(III)I"⟩, .methodLink RX11 164 ⟨"PaperBubbles$Tool", "lets", "(II)I"⟩, .methodLink RX11 167 ⟨"PaperBubbles$Tool", "tears", "(I)I"⟩, .code yX11_become cX11_become 4 (some .int), .code yX11_as cX11_as 3 (some .int), .methodLink RX11 170 ⟨"PaperBubbles$Tool", "isA", "(I)Z"⟩, .selects RX0 ⟨"PaperBubbles$Tool", "isA", "(I)Z"⟩ yX0_isA, .selects RX1 ⟨"PaperBubbles$Tool", "isA", "(I)Z"⟩ yX1_isA, .instanceMethod yX1_isA, .selects RX2 ⟨"PaperBubbles$Tool", "isA", "(I)Z"⟩ yX2_isA]
def gwT20 : List Cond := [.instanceMethod yX2_isA, .selects RX4 ⟨"PaperBubbles$Tool", "isA", "(I)Z"⟩ yX4_isA, .selects RX5 ⟨"PaperBubbles$Tool", "isA", "(I)Z"⟩ yX5_isA, .selects RX6 ⟨"PaperBubbles$Tool", "isA", "(I)Z"⟩ yX6_isA, .instanceMethod yX6_isA, .selects RX8 yX8_isA yX8_isA, .code yX11_feed cX11_feed 5 (some .int), .methodLink RX11 176 yX7_addByte, .instanceMethod yX7_addByte, .selects RX7 yX7_addByte yX7_addByte, .code yX11_text cX11_text 3 (some .int), .methodLink RX11 180 yX11_isUse, .static yX11_isUse, .code yX11_isUse cX11_isUse 1 (some .boolean), .methodLink RX11 183 yX11_lawOf, .instanceMethod yX11_lawOf, .selects RX11 yX11_lawOf yX11_lawOf, .code yX11_lawOf cX11_lawOf 2 (some (.object "PaperBubbles$Law")), .methodLink RX11 190 yX3_read, .instanceMethod yX3_read, .selects RX3 yX3_read yX3_read, .code yX11_law cX11_law 5 (some .int), .code yX11_stroke cX11_stroke 4 (some .int), .methodLink RX11 194 yX10_strike, .instanceMethod yX10_strike, .selects RX10 yX10_strike yX10_strike, .code yX11_nights cX11_nights 3 (some .int), .methodLink RX11 201 yX10_passNight, .instanceMethod yX10_passNight, .selects RX10 yX10_passNight yX10_passNight, .methodLink RX11 204 yX10_allAir, .instanceMethod yX10_allAir]
def gwT21 : List Cond := [.selects RX10 yX10_allAir yX10_allAir, .code yX11_days cX11_days 6 (some .int), .methodLink RX11 207 yX7_draw, .instanceMethod yX7_draw, .selects RX7 yX7_draw yX7_draw, .code yX7_draw cX7_draw 2 (some .int), .constant RX7 73 (1103515245), .code yX11_shown cX11_shown 1 (some .int), .methodLink RX11 210 yX10_shownBy, .instanceMethod yX10_shownBy, .selects RX10 yX10_shownBy yX10_shownBy, .code yX11_bubbles cX11_bubbles 1 (some .int), .methodLink RX11 214 yX10_countBubbles, .instanceMethod yX10_countBubbles, .selects RX10 yX10_countBubbles yX10_countBubbles, .code yX11_biggest cX11_biggest 3 (some .int), .methodLink RX11 217 yX10_cellOfBiggest, .instanceMethod yX10_cellOfBiggest, .selects RX10 yX10_cellOfBiggest yX10_cellOfBiggest, .code yX11_wayOut cX11_wayOut 4 (some .int), .methodLink RX11 220 yX10_isOpen, .methodLink RX11 223 yX10_cellsAhead, .code yX11_best cX11_best 3 (some .int), .methodLink RX11 226 yX11_bestFrom, .instanceMethod yX11_bestFrom, .selects RX11 yX11_bestFrom yX11_bestFrom, .code yX11_bestFrom cX11_bestFrom 8 (some .int), .constant RX11 235 (2147483647), .methodLink RX11 236 yX10_copy, .methodLink RX11 331 yX10_airAs, .methodLink RX11 230 yX11_partOfBest, .static yX11_partOfBest]
def gwT22 : List Cond := [.code yX11_partOfBest cX11_partOfBest 2 (some .int), .code yX11_bestTwo cX11_bestTwo 10 (some .int), .code yX11_goneBy cX11_goneBy 3 (some .int), .methodLink RX11 240 yX11_nightsToGo, .static yX11_nightsToGo, .code yX11_nightsToGo cX11_nightsToGo 4 (some .int), .methodLink RX11 328 Lib.Math.max.name, .code yX11_never cX11_never 4 (some .int), .code yX11_needs cX11_needs 4 (some .int), .code yX11_lamp cX11_lamp 5 (some .int), .methodLink RX11 243 yX10_isLit, .instanceMethod yX10_isLit, .selects RX10 yX10_isLit yX10_isLit, .code yX11_came cX11_came 6 (some .int), .methodLink RX11 247 yX11_isSheet, .static yX11_isSheet, .code yX11_isSheet cX11_isSheet 1 (some .boolean), .methodLink RX11 250 yX11_isMissing, .instanceMethod yX11_isMissing, .selects RX11 yX11_isMissing yX11_isMissing, .code yX11_isMissing cX11_isMissing 2 (some .boolean), .methodLink RX11 256 yX11_firstUnlike, .instanceMethod yX11_firstUnlike, .selects RX11 yX11_firstUnlike yX11_firstUnlike, .code yX11_firstUnlike cX11_firstUnlike 5 (some .int), .code yX11_odds cX11_odds 8 (some .int), .code yX11_voice cX11_voice 5 (some .int), .methodLink RX11 263 yX9_start, .instanceMethod yX9_start, .selects RX9 yX9_start yX9_start, .code yX9_start cX9_start 3 none, .fieldLink RX9 15 "PaperBubbles$Voice" "n" "I"]
def gwT23 : List Cond := [.fieldLink RX9 19 "PaperBubbles$Voice" "m" "I", .methodLink RX11 266 ⟨"PaperBubbles$Tool", "sayMoves", "(ILPaperBubbles$Voice;)I"⟩, .methodLink RX11 270 ⟨"PaperBubbles$Tool", "sayLets", "(ILPaperBubbles$Voice;)I"⟩, .methodLink RX11 273 ⟨"PaperBubbles$Tool", "sayTears", "(ILPaperBubbles$Voice;)I"⟩, .methodLink RX11 276 ⟨"PaperBubbles$Tool", "sayTells", "(ILPaperBubbles$Voice;)I"⟩, .sameMethod "PaperBubbles$Tool" "PaperBubbles$Tool" "sayTells" "(ILPaperBubbles$Voice;)I", .selects RX0 ⟨"PaperBubbles$Tool", "sayTells", "(ILPaperBubbles$Voice;)I"⟩ yX8_sayTells, .instanceMethod yX8_sayTells, .selects RX1 ⟨"PaperBubbles$Tool", "sayTells", "(ILPaperBubbles$Voice;)I"⟩ yX1_sayTells, .instanceMethod yX1_sayTells, .selects RX2 ⟨"PaperBubbles$Tool", "sayTells", "(ILPaperBubbles$Voice;)I"⟩ yX8_sayTells, .selects RX4 ⟨"PaperBubbles$Tool", "sayTells", "(ILPaperBubbles$Voice;)I"⟩ yX8_sayTells, .selects RX5 ⟨"PaperBubbles$Tool", "sayTells", "(ILPaperBubbles$Voice;)I"⟩ yX8_sayTells, .selects RX6 ⟨"PaperBubbles$Tool", "sayTells", "(ILPaperBubbles$Voice;)I"⟩ yX6_sayTells, .instanceMethod yX6_sayTells, .selects RX8 yX8_sayTells yX8_sayTells, .code yX11_trace cX11_trace 2 (some .int), .code yX11_sheet cX11_sheet 4 (some .int), .methodLink RX11 285 yJ7_fill_53178, .code yX11_put cX11_put 5 (some .int), .code yX11_move cX11_move 6 (some .int), .methodLink RX11 294 arraycopyName, .methodLink RX11 291 yX11_standsOn, .instanceMethod yX11_standsOn, .selects RX11 yX11_standsOn yX11_standsOn, .code yX11_standsOn cX11_standsOn 4 (some .boolean), .code yX11_airs cX11_airs 4 (some .int), .code yX11_judge cX11_judge 2 (some .int), .code yX11_image cX11_image 1 (some .int), .fieldLink RX11 303 "PaperBubbles" "images" "I", .methodLink RX11 300 yX7_copy, .instanceMethod yX7_copy]
def gwT24 : List Cond := [.selects RX7 yX7_copy yX7_copy, .code yX11_restore cX11_restore 1 (some .int), .code yX11_tell cX11_tell 2 (some .int), .code yX11_check cX11_check 3 (some .int), .code yX11_count cX11_count 2 (some .int), .methodLink RX11 318 yX10_cellsWithAir, .instanceMethod yX10_cellsWithAir, .selects RX10 yX10_cellsWithAir yX10_cellsWithAir, .methodLink RX11 321 yX10_openBits, .instanceMethod yX10_openBits, .selects RX10 yX10_openBits yX10_openBits, .code yX10_openBits cX10_openBits 3 (some .int), .code yX11_told cX11_told 2 (some .int), .code yX12_init cX12_init 1 none, .methodLink RX12 1 objectInit, .fieldLink RX12 7 "PaperBubblesModel" "d" "[I", .fieldLink RX12 13 "PaperBubblesModel" "kept" "[I", .fieldLink RX12 16 "PaperBubblesModel" "found" "[I", .fieldLink RX12 19 "PaperBubblesModel" "aside" "[I", .fieldLink RX12 22 "PaperBubblesModel" "names" "[I", .fieldLink RX12 25 "PaperBubblesModel" "seenKept" "[I", .fieldLink RX12 28 "PaperBubblesModel" "movedKept" "[I", .fieldLink RX12 31 "PaperBubblesModel" "traced" "[I", .fieldLink RX12 34 "PaperBubblesModel" "bitsOf" "[I", .fieldLink RX12 37 "PaperBubblesModel" "sizeOf" "[I", .fieldLink RX12 40 "PaperBubblesModel" "number" "[I", .fieldLink RX12 43 "PaperBubblesModel" "lifted" "[I", .methodLink RX12 46 yX12_builds, .instanceMethod yX12_builds, .selects RX12 yX12_builds yX12_builds, .initialized RX12, .code yX12_builds cX12_builds 4 none]
def gwT25 : List Cond := [((wsX120).getD 0 (.initialized "")), ((wsX120).getD 1 (.initialized "")), ((wsX120).getD 2 (.initialized "")), ((wsX120).getD 3 (.initialized "")), ((wsX120).getD 4 (.initialized "")), ((wsX120).getD 5 (.initialized "")), ((wsX120).getD 6 (.initialized "")), ((wsX120).getD 7 (.initialized "")), ((wsX120).getD 8 (.initialized "")), ((wsX120).getD 9 (.initialized "")), ((wsX120).getD 10 (.initialized "")), ((wsX120).getD 11 (.initialized "")), ((wsX120).getD 12 (.initialized "")), ((wsX120).getD 13 (.initialized "")), ((wsX120).getD 14 (.initialized "")), ((wsX120).getD 15 (.initialized "")), ((wsX120).getD 16 (.initialized "")), ((wsX120).getD 17 (.initialized "")), ((wsX120).getD 18 (.initialized "")), ((wsX120).getD 19 (.initialized "")), ((wsX120).getD 20 (.initialized "")), ((wsX120).getD 21 (.initialized "")), ((wsX120).getD 22 (.initialized "")), ((wsX120).getD 23 (.initialized "")), ((wsX120).getD 24 (.initialized "")), ((wsX120).getD 25 (.initialized "")), .code yX12_isCell cX12_isCell 2 (some .boolean), .methodLink RX12 51 yX12_cells, .instanceMethod yX12_cells, .selects RX12 yX12_cells yX12_cells, .code yX12_cells cX12_cells 1 (some .int), .methodLink RX12 55 yX12_in]
def gwT26 : List Cond := [.static yX12_in, .code yX12_in cX12_in 6 (some .boolean), .code yX12_isTool cX12_isTool 2 (some .boolean), .code yX12_isWay cX12_isWay 1 (some .boolean), .constantLong RX12 59 (3), .code yX12_takes cX12_takes 2 (some .boolean), .fieldLink RX12 61 "PaperBubblesModel" "at" "I", .methodLink RX12 74 yX12_here, .instanceMethod yX12_here, .selects RX12 yX12_here yX12_here, .code yX12_here cX12_here 1 (some .int), .fieldLink RX12 65 "PaperBubblesModel" "size" "I", .fieldLink RX12 68 "PaperBubblesModel" "fault" "I", .fieldLink RX12 71 "PaperBubblesModel" "base" "I", .code yX12_either cX12_either 3 (some .int), .methodLink RX12 81 yX12_both, .instanceMethod yX12_both, .selects RX12 yX12_both yX12_both, .methodLink RX12 84 yX12_takes, .instanceMethod yX12_takes, .selects RX12 yX12_takes yX12_takes, .code yX12_both cX12_both 3 (some .int), .methodLink RX12 88 yX12_compared, .instanceMethod yX12_compared, .selects RX12 yX12_compared yX12_compared, .code yX12_compared cX12_compared 4 (some .int), .methodLink RX12 91 yX12_sum, .instanceMethod yX12_sum, .selects RX12 yX12_sum yX12_sum, .code yX12_product cX12_product 4 (some .int), .methodLink RX12 97 yX12_unit, .instanceMethod yX12_unit]
def gwT27 : List Cond := [.selects RX12 yX12_unit yX12_unit, .code yX12_sum cX12_sum 4 (some .int), .methodLink RX12 94 yX12_product, .instanceMethod yX12_product, .selects RX12 yX12_product yX12_product, .code yX12_unit cX12_unit 5 (some .int), .fieldLink RX12 100 "PaperBubblesModel" "opened" "I", .constantLong RX12 113 (48), .constantLong RX12 115 (57), .methodLink RX12 103 yX12_wrong, .instanceMethod yX12_wrong, .selects RX12 yX12_wrong yX12_wrong, .code yX12_wrong cX12_wrong 1 (some .int), .methodLink RX12 106 yX12_either, .instanceMethod yX12_either, .selects RX12 yX12_either yX12_either, .methodLink RX12 109 yX12_nameOf, .instanceMethod yX12_nameOf, .selects RX12 yX12_nameOf yX12_nameOf, .code yX12_nameOf cX12_nameOf 2 (some .int), .fieldLink RX12 77 "PaperBubblesModel" "isSeen" "Z", .code yX12_worked cX12_worked 5 (some .int), .code yX12_feed cX12_feed 5 (some .int), .constantLong RX12 117 (8), .constantLong RX12 122 (255), .methodLink RX12 119 yX12_finds, .instanceMethod yX12_finds, .selects RX12 yX12_finds yX12_finds, .code yX12_finds cX12_finds 2 (some .int), .constant RX12 50 (-1000000000), .code yX12_text cX12_text 5 (some .int), .methodLink RX12 124 yX12_worked]
def gwT28 : List Cond := [.instanceMethod yX12_worked, .selects RX12 yX12_worked yX12_worked, .code yX12_textGives cX12_textGives 6 (some .int), .methodLink RX12 128 yX12_held, .static yX12_held, .code yX12_held cX12_held 3 (some .int), .code yX12_law cX12_law 5 (some .int), .methodLink RX12 131 yX12_textGives, .instanceMethod yX12_textGives, .selects RX12 yX12_textGives yX12_textGives, .code yX12_wall cX12_wall 3 (some .int), .constantLong RX12 135 (5), .code yX12_set cX12_set 6 (some .int), .constantLong RX12 140 (99), .constantLong RX12 142 (9), .methodLink RX12 137 yX12_isCell, .instanceMethod yX12_isCell, .selects RX12 yX12_isCell yX12_isCell, .code yX12_seenOf cX12_seenOf 4 (some .int), .fieldLink RX12 144 "PaperBubblesModel" "isKeeping" "Z", .code yX12_movedOf cX12_movedOf 6 (some .int), .methodLink RX12 147 yX12_numberOf, .instanceMethod yX12_numberOf, .selects RX12 yX12_numberOf yX12_numberOf, .code yX12_numberOf cX12_numberOf 2 (some .int), .code yX12_seen cX12_seen 3 (some .int), .methodLink RX12 150 yX12_seenOf, .instanceMethod yX12_seenOf, .selects RX12 yX12_seenOf yX12_seenOf, .code yX12_shown cX12_shown 1 (some .int), .methodLink RX12 153 yX12_seen, .instanceMethod yX12_seen]
def gwT29 : List Cond := [.selects RX12 yX12_seen yX12_seen, .code yX12_allAir cX12_allAir 3 (some .int), .code yX12_nextTo cX12_nextTo 5 (some .int), .code yX12_bubbleOf cX12_bubbleOf 7 (some .int), .methodLink RX12 156 yX12_nextTo, .instanceMethod yX12_nextTo, .selects RX12 yX12_nextTo yX12_nextTo, .code yX12_sizeOf0 cX12_sizeOf0 4 (some .int), .code yX12_ofCell cX12_ofCell 3 (some .int), .methodLink RX12 160 yX12_bubbleOf, .instanceMethod yX12_bubbleOf, .selects RX12 yX12_bubbleOf yX12_bubbleOf, .methodLink RX12 163 yX12_sizeOf0, .instanceMethod yX12_sizeOf0, .selects RX12 yX12_sizeOf0 yX12_sizeOf0, .code yX12_edge cX12_edge 4 (some .int), .methodLink RX12 166 yX12_isWay, .static yX12_isWay, .methodLink RX12 169 yX12_isOpen, .instanceMethod yX12_isOpen, .selects RX12 yX12_isOpen yX12_isOpen, .code yX12_isOpen cX12_isOpen 2 (some .boolean), .code yX12_movesOf cX12_movesOf 6 (some .int), .methodLink RX12 172 yX12_movedOf, .instanceMethod yX12_movedOf, .selects RX12 yX12_movedOf yX12_movedOf, .methodLink RX12 175 yX12_kindOf, .instanceMethod yX12_kindOf, .selects RX12 yX12_kindOf yX12_kindOf, .code yX12_kindOf cX12_kindOf 2 (some .int), .code yX12_reachOf cX12_reachOf 2 (some .int), .code yX12_letsOf cX12_letsOf 4 (some .int)]
def gwT30 : List Cond := [.code yX12_tearsOf cX12_tearsOf 4 (some .int), .code yX12_tool cX12_tool 2 (some .int), .constantLong RX12 178 (69), .code yX12_ofTool cX12_ofTool 3 (some .int), .constantLong RX12 183 (6), .methodLink RX12 180 yX12_isTool, .instanceMethod yX12_isTool, .selects RX12 yX12_isTool yX12_isTool, .methodLink RX12 185 yX12_reachOf, .instanceMethod yX12_reachOf, .selects RX12 yX12_reachOf yX12_reachOf, .methodLink RX12 188 yX12_movesOf, .instanceMethod yX12_movesOf, .selects RX12 yX12_movesOf yX12_movesOf, .methodLink RX12 191 yX12_letsOf, .instanceMethod yX12_letsOf, .selects RX12 yX12_letsOf yX12_letsOf, .methodLink RX12 194 yX12_tearsOf, .instanceMethod yX12_tearsOf, .selects RX12 yX12_tearsOf yX12_tearsOf, .code yX12_become cX12_become 4 (some .int), .code yX12_as cX12_as 4 (some .int), .methodLink RX12 197 yX12_above, .static yX12_above, .code yX12_above cX12_above 1 (some .int), .code yX12_strokes cX12_strokes 10 none, .constant RX12 200 (99999), .methodLink RX12 201 yX12_goesOut, .instanceMethod yX12_goesOut, .selects RX12 yX12_goesOut yX12_goesOut, .code yX12_goesOut cX12_goesOut 2 none, .code yX12_stroke cX12_stroke 4 (some .int)]
def gwT31 : List Cond := [.methodLink RX12 205 yX12_strokes, .instanceMethod yX12_strokes, .selects RX12 yX12_strokes yX12_strokes, .code yX12_nightGoes cX12_nightGoes 3 none, .code yX12_nights cX12_nights 3 (some .int), .constantLong RX12 209 (30), .methodLink RX12 211 yX12_nightGoes, .instanceMethod yX12_nightGoes, .selects RX12 yX12_nightGoes yX12_nightGoes, .methodLink RX12 214 yX12_allAir, .instanceMethod yX12_allAir, .selects RX12 yX12_allAir yX12_allAir, .code yX12_days cX12_days 6 (some .int), .methodLink RX12 218 yX12_drawn, .instanceMethod yX12_drawn, .selects RX12 yX12_drawn yX12_drawn, .code yX12_drawn cX12_drawn 1 (some .int), .constant RX12 217 (1103515245), .code yX12_findBubbles cX12_findBubbles 5 none, .fieldLink RX12 221 "PaperBubblesModel" "bubbleMany" "I", .fieldLink RX12 224 "PaperBubblesModel" "bubbleMost" "I", .fieldLink RX12 227 "PaperBubblesModel" "bubbleCell" "I", .code yX12_bubbles cX12_bubbles 1 (some .int), .methodLink RX12 230 yX12_findBubbles, .instanceMethod yX12_findBubbles, .selects RX12 yX12_findBubbles yX12_findBubbles, .code yX12_biggest cX12_biggest 2 (some .int), .code yX12_wayOut cX12_wayOut 7 (some .int), .code yX12_bestOf cX12_bestOf 7 (some .int), .fieldLink RX12 233 "PaperBubblesModel" "bestShown" "I", .methodLink RX12 236 yX12_keepAside, .instanceMethod yX12_keepAside]
def gwT32 : List Cond := [.selects RX12 yX12_keepAside yX12_keepAside, .code yX12_keepAside cX12_keepAside 3 none, .methodLink RX12 239 yX12_putBack, .instanceMethod yX12_putBack, .selects RX12 yX12_putBack yX12_putBack, .code yX12_putBack cX12_putBack 3 none, .code yX12_best cX12_best 4 (some .int), .methodLink RX12 242 yX12_bestOf, .instanceMethod yX12_bestOf, .selects RX12 yX12_bestOf yX12_bestOf, .code yX12_bestTwo cX12_bestTwo 8 (some .int), .methodLink RX12 245 yX12_keepsAnew, .instanceMethod yX12_keepsAnew, .selects RX12 yX12_keepsAnew yX12_keepsAnew, .code yX12_keepsAnew cX12_keepsAnew 2 none, .code yX12_goneBy cX12_goneBy 3 (some .int), .methodLink RX12 248 yX12_goneWith, .static yX12_goneWith, .code yX12_goneWith cX12_goneWith 6 (some .int), .code yX12_never cX12_never 3 (some .int), .code yX12_needs cX12_needs 4 (some .int), .code yX12_lamp cX12_lamp 7 (some .int), .code yX12_isAs cX12_isAs 4 (some .boolean), .code yX12_came cX12_came 8 (some .int), .methodLink RX12 251 yX12_isSheet, .static yX12_isSheet, .code yX12_isSheet cX12_isSheet 1 (some .boolean), .methodLink RX12 254 yX12_isAs, .instanceMethod yX12_isAs, .selects RX12 yX12_isAs yX12_isAs, .code yX12_odds cX12_odds 7 (some .int), .constantLong RX12 257 (9999)]
def gwT33 : List Cond := [.code yX12_own cX12_own 1 (some .int), .fieldLink RX12 262 "PaperBubblesModel" "who" "I", .code yX12_movesBy cX12_movesBy 3 (some .int), .methodLink RX12 265 yX12_ran, .instanceMethod yX12_ran, .selects RX12 yX12_ran yX12_ran, .code yX12_ran cX12_ran 2 none, .fieldLink RX12 259 "PaperBubblesModel" "traceMany" "I", .methodLink RX12 268 yX12_movesBy, .instanceMethod yX12_movesBy, .selects RX12 yX12_movesBy yX12_movesBy, .code yX12_letsBy cX12_letsBy 4 (some .int), .methodLink RX12 271 yX12_own, .instanceMethod yX12_own, .selects RX12 yX12_own yX12_own, .methodLink RX12 274 yX12_letsBy, .instanceMethod yX12_letsBy, .selects RX12 yX12_letsBy yX12_letsBy, .methodLink RX12 277 yX12_tearsBy, .instanceMethod yX12_tearsBy, .selects RX12 yX12_tearsBy yX12_tearsBy, .code yX12_tearsBy cX12_tearsBy 3 (some .int), .code yX12_tellsBy cX12_tellsBy 4 (some .int), .methodLink RX12 280 yX12_tellsBy, .instanceMethod yX12_tellsBy, .selects RX12 yX12_tellsBy yX12_tellsBy, .code yX12_voice cX12_voice 5 (some .int), .code yX12_trace cX12_trace 2 (some .int), .code yX12_sheet cX12_sheet 5 (some .int), .code yX12_put cX12_put 4 (some .int), .code yX12_move cX12_move 7 (some .int), .code yX12_airs cX12_airs 3 (some .int)]
def gwT34 : List Cond := [.code yX12_judge cX12_judge 3 (some .int), .code yX12_restore cX12_restore 2 (some .int), .fieldLink RX12 283 "PaperBubblesModel" "images" "I", .code yX12_tell cX12_tell 2 (some .int), .code yX12_check cX12_check 4 (some .int), .code yX12_count cX12_count 4 (some .int), .code yX12_told cX12_told 2 (some .int), .methodLink RL 13 yX11_wall, .instanceMethod yX11_wall, .selects RX11 yX11_wall yX11_wall, .methodLink RL 17 yX12_wall, .instanceMethod yX12_wall, .selects RX12 yX12_wall yX12_wall, .methodLink RL 18 yX11_set, .instanceMethod yX11_set, .selects RX11 yX11_set yX11_set, .methodLink RL 22 yX12_set, .instanceMethod yX12_set, .selects RX12 yX12_set yX12_set, .methodLink RL 23 yX11_ofCell, .instanceMethod yX11_ofCell, .selects RX11 yX11_ofCell yX11_ofCell, .methodLink RL 26 yX12_ofCell, .instanceMethod yX12_ofCell, .selects RX12 yX12_ofCell yX12_ofCell, .methodLink RL 27 yX11_edge, .instanceMethod yX11_edge, .selects RX11 yX11_edge yX11_edge, .methodLink RL 30 yX12_edge, .instanceMethod yX12_edge, .selects RX12 yX12_edge yX12_edge, .methodLink RL 31 yX11_tool]
def gwT35 : List Cond := [.instanceMethod yX11_tool, .selects RX11 yX11_tool yX11_tool, .methodLink RL 35 yX12_tool, .instanceMethod yX12_tool, .selects RX12 yX12_tool yX12_tool, .methodLink RL 36 yX11_ofTool, .instanceMethod yX11_ofTool, .selects RX11 yX11_ofTool yX11_ofTool, .methodLink RL 39 yX12_ofTool, .instanceMethod yX12_ofTool, .selects RX12 yX12_ofTool yX12_ofTool, .methodLink RL 40 yX11_become, .instanceMethod yX11_become, .selects RX11 yX11_become yX11_become, .methodLink RL 43 yX12_become, .instanceMethod yX12_become, .selects RX12 yX12_become yX12_become, .methodLink RL 44 yX11_as, .instanceMethod yX11_as, .selects RX11 yX11_as yX11_as, .methodLink RL 47 yX12_as, .instanceMethod yX12_as, .selects RX12 yX12_as yX12_as, .methodLink RL 50 yX11_feed, .instanceMethod yX11_feed, .selects RX11 yX11_feed yX11_feed, .methodLink RL 54 yX12_feed, .instanceMethod yX12_feed, .selects RX12 yX12_feed yX12_feed, .methodLink RL 55 yX11_text, .instanceMethod yX11_text, .selects RX11 yX11_text yX11_text]
def gwT36 : List Cond := [.methodLink RL 58 yX12_text, .instanceMethod yX12_text, .selects RX12 yX12_text yX12_text, .methodLink RL 59 yX11_law, .instanceMethod yX11_law, .selects RX11 yX11_law yX11_law, .methodLink RL 63 yX12_law, .instanceMethod yX12_law, .selects RX12 yX12_law yX12_law, .methodLink RL 64 yX11_stroke, .instanceMethod yX11_stroke, .selects RX11 yX11_stroke yX11_stroke, .methodLink RL 67 yX12_stroke, .instanceMethod yX12_stroke, .selects RX12 yX12_stroke yX12_stroke, .methodLink RL 68 yX11_nights, .instanceMethod yX11_nights, .selects RX11 yX11_nights yX11_nights, .methodLink RL 71 yX12_nights, .instanceMethod yX12_nights, .selects RX12 yX12_nights yX12_nights, .methodLink RL 72 yX11_days, .instanceMethod yX11_days, .selects RX11 yX11_days yX11_days, .methodLink RL 75 yX12_days, .instanceMethod yX12_days, .selects RX12 yX12_days yX12_days, .methodLink RL 76 yX11_shown, .instanceMethod yX11_shown, .selects RX11 yX11_shown yX11_shown, .methodLink RL 80 yX12_shown, .instanceMethod yX12_shown]
def gwT37 : List Cond := [.selects RX12 yX12_shown yX12_shown, .methodLink RL 81 yX11_bubbles, .instanceMethod yX11_bubbles, .selects RX11 yX11_bubbles yX11_bubbles, .methodLink RL 84 yX12_bubbles, .instanceMethod yX12_bubbles, .selects RX12 yX12_bubbles yX12_bubbles, .methodLink RL 85 yX11_biggest, .instanceMethod yX11_biggest, .selects RX11 yX11_biggest yX11_biggest, .methodLink RL 88 yX12_biggest, .instanceMethod yX12_biggest, .selects RX12 yX12_biggest yX12_biggest, .methodLink RL 89 yX11_wayOut, .instanceMethod yX11_wayOut, .selects RX11 yX11_wayOut yX11_wayOut, .methodLink RL 92 yX12_wayOut, .instanceMethod yX12_wayOut, .selects RX12 yX12_wayOut yX12_wayOut, .methodLink RL 93 yX11_best, .instanceMethod yX11_best, .selects RX11 yX11_best yX11_best, .methodLink RL 96 yX12_best, .instanceMethod yX12_best, .selects RX12 yX12_best yX12_best, .methodLink RL 97 yX11_bestTwo, .instanceMethod yX11_bestTwo, .selects RX11 yX11_bestTwo yX11_bestTwo, .methodLink RL 100 yX12_bestTwo, .instanceMethod yX12_bestTwo, .selects RX12 yX12_bestTwo yX12_bestTwo, .methodLink RL 101 yX11_goneBy]
def gwT38 : List Cond := [.instanceMethod yX11_goneBy, .selects RX11 yX11_goneBy yX11_goneBy, .methodLink RL 104 yX12_goneBy, .instanceMethod yX12_goneBy, .selects RX12 yX12_goneBy yX12_goneBy, .methodLink RL 105 yX11_never, .instanceMethod yX11_never, .selects RX11 yX11_never yX11_never, .methodLink RL 108 yX12_never, .instanceMethod yX12_never, .selects RX12 yX12_never yX12_never, .methodLink RL 109 yX11_needs, .instanceMethod yX11_needs, .selects RX11 yX11_needs yX11_needs, .methodLink RL 112 yX12_needs, .instanceMethod yX12_needs, .selects RX12 yX12_needs yX12_needs, .methodLink RL 113 yX11_lamp, .instanceMethod yX11_lamp, .selects RX11 yX11_lamp yX11_lamp, .methodLink RL 116 yX12_lamp, .instanceMethod yX12_lamp, .selects RX12 yX12_lamp yX12_lamp, .methodLink RL 117 yX11_came, .instanceMethod yX11_came, .selects RX11 yX11_came yX11_came, .methodLink RL 120 yX12_came, .instanceMethod yX12_came, .selects RX12 yX12_came yX12_came, .methodLink RL 121 yX11_odds, .instanceMethod yX11_odds, .selects RX11 yX11_odds yX11_odds]
def gwT39 : List Cond := [.methodLink RL 124 yX12_odds, .instanceMethod yX12_odds, .selects RX12 yX12_odds yX12_odds, .methodLink RL 125 yX11_seed, .instanceMethod yX11_seed, .selects RX11 yX11_seed yX11_seed, .code yX11_seed cX11_seed 3 (some .int), .methodLink RL 128 yX12_seed, .instanceMethod yX12_seed, .selects RX12 yX12_seed yX12_seed, .code yX12_seed cX12_seed 3 (some .int), .methodLink RL 129 yX11_voice, .instanceMethod yX11_voice, .selects RX11 yX11_voice yX11_voice, .methodLink RL 132 yX12_voice, .instanceMethod yX12_voice, .selects RX12 yX12_voice yX12_voice, .methodLink RL 133 yX11_trace, .instanceMethod yX11_trace, .selects RX11 yX11_trace yX11_trace, .methodLink RL 136 yX12_trace, .instanceMethod yX12_trace, .selects RX12 yX12_trace yX12_trace, .methodLink RL 137 yX11_sheet, .instanceMethod yX11_sheet, .selects RX11 yX11_sheet yX11_sheet, .methodLink RL 140 yX12_sheet, .instanceMethod yX12_sheet, .selects RX12 yX12_sheet yX12_sheet, .methodLink RL 141 yX11_put, .instanceMethod yX11_put, .selects RX11 yX11_put yX11_put]
def gwT40 : List Cond := [.methodLink RL 144 yX12_put, .instanceMethod yX12_put, .selects RX12 yX12_put yX12_put, .methodLink RL 145 yX11_move, .instanceMethod yX11_move, .selects RX11 yX11_move yX11_move, .methodLink RL 149 yX12_move, .instanceMethod yX12_move, .selects RX12 yX12_move yX12_move, .methodLink RL 150 yX11_airs, .instanceMethod yX11_airs, .selects RX11 yX11_airs yX11_airs, .methodLink RL 153 yX12_airs, .instanceMethod yX12_airs, .selects RX12 yX12_airs yX12_airs, .methodLink RL 154 yX11_judge, .instanceMethod yX11_judge, .selects RX11 yX11_judge yX11_judge, .methodLink RL 157 yX12_judge, .instanceMethod yX12_judge, .selects RX12 yX12_judge yX12_judge, .methodLink RL 158 yX11_image, .instanceMethod yX11_image, .selects RX11 yX11_image yX11_image, .methodLink RL 161 yX12_image, .instanceMethod yX12_image, .selects RX12 yX12_image yX12_image, .code yX12_image cX12_image 2 (some .int), .methodLink RL 162 yX11_restore, .instanceMethod yX11_restore, .selects RX11 yX11_restore yX11_restore, .methodLink RL 165 yX12_restore]
def gwT41 : List Cond := [.instanceMethod yX12_restore, .selects RX12 yX12_restore yX12_restore, .methodLink RL 166 yX11_tell, .instanceMethod yX11_tell, .selects RX11 yX11_tell yX11_tell, .methodLink RL 169 yX12_tell, .instanceMethod yX12_tell, .selects RX12 yX12_tell yX12_tell, .methodLink RL 170 yX11_check, .instanceMethod yX11_check, .selects RX11 yX11_check yX11_check, .methodLink RL 173 yX12_check, .instanceMethod yX12_check, .selects RX12 yX12_check yX12_check, .methodLink RL 174 yX11_count, .instanceMethod yX11_count, .selects RX11 yX11_count yX11_count, .methodLink RL 177 yX12_count, .instanceMethod yX12_count, .selects RX12 yX12_count yX12_count, .methodLink RL 178 yX11_told, .instanceMethod yX11_told, .selects RX11 yX11_told yX11_told, .methodLink RL 181 yX12_told, .instanceMethod yX12_told, .selects RX12 yX12_told yX12_told, .code yX0_init cX0_init 1 none, .code yX0_init cX0_init 1 none, .code yX0_init cX0_init 1 none, .code yX0_init cX0_init 1 none, .code yX0_init cX0_init 1 none, .code yX0_init cX0_init 1 none]
def gwT42 : List Cond := [.classLink RL 7 RX11, .instantiable RX11 11, .classLink RL 10 RX12, .instantiable RX12 26, .constantLong RL 48 (4294967295), .methodLink RL 9 yX11_init, .instanceMethod yX11_init, .methodLink RL 12 yX12_init, .instanceMethod yX12_init]
def gwT : List (List Cond) := [gwT0, gwT1, gwT2, gwT3, gwT4, gwT5, gwT6, gwT7, gwT8, gwT9, gwT10, gwT11, gwT12, gwT13, gwT14, gwT15, gwT16, gwT17, gwT18, gwT19, gwT20, gwT21, gwT22, gwT23, gwT24, gwT25, gwT26, gwT27, gwT28, gwT29, gwT30, gwT31, gwT32, gwT33, gwT34, gwT35, gwT36, gwT37, gwT38, gwT39, gwT40, gwT41, gwT42]
def gw (n : Nat) : Cond := (gwT.getD (n / 32) []).getD (n % 32) (.initialized "")
def gmask : List Nat → Nat
  | [] => 0
  | x :: l => 2 ^ x ||| gmask l
theorem gmask_mem : ∀ {l : List Nat} {x : Nat}, (gmask l).testBit x = true ↔ x ∈ l
  | [], x => by simp [gmask]
  | y :: l, x => by
    rw [gmask, Nat.testBit_or, Bool.or_eq_true, gmask_mem (l := l), Nat.testBit_two_pow, decide_eq_true_eq, List.mem_cons]
    exact or_congr_left eq_comm
set_option maxRecDepth 20000 in
theorem gw_good : ∀ x, x < 1344 → goodWord (gw x) = true := by decide +kernel
theorem gIn_m {big ws : List Cond} {cb cs : List Nat} (hb : big = cb.map gw) (hs : ws = cs.map gw) (h : gmask cs &&& gmask cb = gmask cs) : ∀ w ∈ ws, w ∈ big := by
  intro w hw
  rw [hs] at hw
  obtain ⟨x, hx, rfl⟩ := List.mem_map.mp hw
  have h1 : (gmask cs).testBit x = true := gmask_mem.mpr hx
  rw [← h, Nat.testBit_and, Bool.and_eq_true] at h1
  rw [hb]
  exact List.mem_map.mpr ⟨x, gmask_mem.mp h1.2, rfl⟩
theorem goodIn_m {big ws : List Cond} {cb cs : List Nat} (hb : big = cb.map gw) (hs : ws = cs.map gw) (h : gmask cs &&& gmask cb = gmask cs) (h2 : gmask cs < 2 ^ 1344) : GoodIn big ws := by
  intro w hw
  refine ⟨gIn_m hb hs h w hw, ?_⟩
  rw [hs] at hw
  obtain ⟨x, hx, rfl⟩ := List.mem_map.mp hw
  refine good_of_word (gw_good x ?_)
  rcases Nat.lt_or_ge x 1344 with q | q
  · exact q
  · have h1 : (gmask cs).testBit x = true := gmask_mem.mpr hx
    rw [Nat.testBit_lt_two_pow (Nat.lt_of_lt_of_le h2 (Nat.pow_le_pow_right (by decide) q))] at h1
    cases h1
def gc_X0_init : List Nat := [0, 1, 2, 3, 4, 5, 6]
set_option maxRecDepth 20000 in
theorem ge_X0_init : wsX0_init = gc_X0_init.map gw := rfl
def gc_X8_init : List Nat := [3, 4, 5, 6]
set_option maxRecDepth 20000 in
theorem ge_X8_init : wsX8_init = gc_X8_init.map gw := rfl
def gc_X0_isA : List Nat := [7, 8, 9, 10, 11, 2, 12]
set_option maxRecDepth 20000 in
theorem ge_X0_isA : wsX0_isA = gc_X0_isA.map gw := rfl
def gc_X8_isA : List Nat := [12]
set_option maxRecDepth 20000 in
theorem ge_X8_isA : wsX8_isA = gc_X8_isA.map gw := rfl
def gc_X0_sayMoves : List Nat := [13, 14, 15, 16, 17, 18, 19, 20, 21, 22, 10, 23, 2, 24, 25, 26, 27, 28, 29]
set_option maxRecDepth 20000 in
theorem ge_X0_sayMoves : wsX0_sayMoves = gc_X0_sayMoves.map gw := rfl
def gc_X9_begin : List Nat := [18, 19, 20, 26, 27, 28, 29]
set_option maxRecDepth 20000 in
theorem ge_X9_begin : wsX9_begin = gc_X9_begin.map gw := rfl
def gc_X8_sayMoves : List Nat := [24, 25, 15, 16, 17, 18, 19, 20, 26, 27, 28, 29]
set_option maxRecDepth 20000 in
theorem ge_X8_sayMoves : wsX8_sayMoves = gc_X8_sayMoves.map gw := rfl
def gc_X1_init : List Nat := [30, 31, 32, 33, 1, 2, 3, 4, 5, 6]
set_option maxRecDepth 20000 in
theorem ge_X1_init : wsX1_init = gc_X1_init.map gw := rfl
def gc_X5_init : List Nat := [33, 1, 2, 3, 4, 5, 6]
set_option maxRecDepth 20000 in
theorem ge_X5_init : wsX5_init = gc_X5_init.map gw := rfl
def gc_X1_isA : List Nat := [34, 35, 36, 37, 38, 32, 39, 40, 9, 41, 11, 2, 12]
set_option maxRecDepth 20000 in
theorem ge_X1_isA : wsX1_isA = gc_X1_isA.map gw := rfl
def gc_X5_isA : List Nat := [39, 40, 9, 41, 11, 2, 12]
set_option maxRecDepth 20000 in
theorem ge_X5_isA : wsX5_isA = gc_X5_isA.map gw := rfl
def gc_X1_moves : List Nat := [42, 43, 44, 45, 46, 47, 48, 37, 49, 32, 50]
set_option maxRecDepth 20000 in
theorem ge_X1_moves : wsX1_moves = gc_X1_moves.map gw := rfl
def gc_X5_moves : List Nat := [50]
set_option maxRecDepth 20000 in
theorem ge_X5_moves : wsX5_moves = gc_X5_moves.map gw := rfl
def gc_X1_reach : List Nat := [51, 52, 53, 37, 54, 32, 55]
set_option maxRecDepth 20000 in
theorem ge_X1_reach : wsX1_reach = gc_X1_reach.map gw := rfl
def gc_X5_reach : List Nat := [55]
set_option maxRecDepth 20000 in
theorem ge_X5_reach : wsX5_reach = gc_X5_reach.map gw := rfl
def gc_X1_sayTears : List Nat := [56, 57, 15, 16, 17, 18, 19, 20, 58, 59, 37, 60, 32, 61, 62, 63, 64, 41, 65, 2, 66, 25, 26, 27, 28, 29]
set_option maxRecDepth 20000 in
theorem ge_X1_sayTears : wsX1_sayTears = gc_X1_sayTears.map gw := rfl
def gc_X5_sayTears : List Nat := [61, 62, 15, 16, 17, 18, 19, 20, 63, 64, 41, 65, 2, 66, 25, 26, 27, 28, 29]
set_option maxRecDepth 20000 in
theorem ge_X5_sayTears : wsX5_sayTears = gc_X5_sayTears.map gw := rfl
def gc_X1_sayTells : List Nat := [67, 57, 15, 16, 17, 18, 19, 20, 68, 69, 70, 71, 2, 72, 25, 73, 22, 23, 74, 75, 76, 13, 14, 21, 10, 23, 24, 77, 78, 79, 80, 81, 73, 82, 26, 27, 28, 29]
set_option maxRecDepth 20000 in
theorem ge_X1_sayTells : wsX1_sayTells = gc_X1_sayTells.map gw := rfl
def gc_X8_sayLets : List Nat := [72, 25, 15, 16, 17, 18, 19, 20, 73, 22, 23, 74, 75, 76, 13, 14, 21, 10, 23, 2, 24, 77, 78, 79, 80, 81, 73, 82, 26, 27, 28, 29]
set_option maxRecDepth 20000 in
theorem ge_X8_sayLets : wsX8_sayLets = gc_X8_sayLets.map gw := rfl
def gc_X2_init : List Nat := [83, 84, 85, 86, 1, 2, 3, 4, 5, 6]
set_option maxRecDepth 20000 in
theorem ge_X2_init : wsX2_init = gc_X2_init.map gw := rfl
def gc_X4_init : List Nat := [86, 1, 2, 3, 4, 5, 6]
set_option maxRecDepth 20000 in
theorem ge_X4_init : wsX4_init = gc_X4_init.map gw := rfl
def gc_X2_isA : List Nat := [87, 88, 89, 90, 91, 85, 92, 93, 9, 94, 11, 2, 12]
set_option maxRecDepth 20000 in
theorem ge_X2_isA : wsX2_isA = gc_X2_isA.map gw := rfl
def gc_X4_isA : List Nat := [92, 93, 9, 94, 11, 2, 12]
set_option maxRecDepth 20000 in
theorem ge_X4_isA : wsX4_isA = gc_X4_isA.map gw := rfl
def gc_X2_tears : List Nat := [95, 96, 97, 90, 98, 85, 99]
set_option maxRecDepth 20000 in
theorem ge_X2_tears : wsX2_tears = gc_X2_tears.map gw := rfl
def gc_X4_tears : List Nat := [99]
set_option maxRecDepth 20000 in
theorem ge_X4_tears : wsX4_tears = gc_X4_tears.map gw := rfl
def gc_X2_sayLets : List Nat := [100, 101, 15, 16, 17, 18, 19, 20, 102, 103, 90, 104, 85, 105, 106, 107, 108, 94, 71, 2, 72, 25, 73, 22, 23, 74, 75, 76, 13, 14, 21, 10, 23, 24, 77, 78, 79, 80, 81, 73, 82, 109, 110, 111, 65, 66, 112, 26, 27, 28, 29]
set_option maxRecDepth 20000 in
theorem ge_X2_sayLets : wsX2_sayLets = gc_X2_sayLets.map gw := rfl
def gc_X4_sayLets : List Nat := [105, 106, 15, 16, 17, 18, 19, 20, 107, 108, 94, 71, 2, 72, 25, 73, 22, 23, 74, 75, 76, 13, 14, 21, 10, 23, 24, 77, 78, 79, 80, 81, 73, 82, 109, 110, 111, 65, 66, 112, 26, 27, 28, 29]
set_option maxRecDepth 20000 in
theorem ge_X4_sayLets : wsX4_sayLets = gc_X4_sayLets.map gw := rfl
def gc_X3_gives : List Nat := [113, 114, 115, 116, 117, 118, 119, 120, 121, 122, 123, 124, 125, 126, 127, 128, 129, 130, 131, 132, 133, 45, 134, 135, 44, 46, 136, 137, 138, 139, 140, 141, 142, 143, 144, 145, 146, 147, 148, 149, 150, 151, 152, 153, 154, 155]
set_option maxRecDepth 20000 in
theorem ge_X3_gives : wsX3_gives = gc_X3_gives.map gw := rfl
def gc_X3_placeOf : List Nat := [120, 121, 122, 123, 124, 142, 143, 144, 145, 146, 147, 148, 149, 150, 151, 152, 153, 154, 155]
set_option maxRecDepth 20000 in
theorem ge_X3_placeOf : wsX3_placeOf = gc_X3_placeOf.map gw := rfl
def gc_X3_worksOut : List Nat := [128, 129, 130, 131, 132, 133, 45, 134, 135, 44, 46, 136, 137, 119, 138, 139, 140, 141, 142, 143, 144, 145, 146, 147, 148, 149, 150, 151, 152, 153, 154, 155]
set_option maxRecDepth 20000 in
theorem ge_X3_worksOut : wsX3_worksOut = gc_X3_worksOut.map gw := rfl
def gc_X11_within : List Nat := [124]
set_option maxRecDepth 20000 in
theorem ge_X11_within : wsX11_within = gc_X11_within.map gw := rfl
def gc_X3_named : List Nat := [138]
set_option maxRecDepth 20000 in
theorem ge_X3_named : wsX3_named = gc_X3_named.map gw := rfl
def gc_X3_joined : List Nat := [141]
set_option maxRecDepth 20000 in
theorem ge_X3_joined : wsX3_joined = gc_X3_joined.map gw := rfl
def gc_X3_read : List Nat := [156, 157, 158, 159, 160, 161, 129, 162, 130, 163, 164, 165, 166, 115, 167, 168, 169, 119, 170, 171, 172, 173, 174, 175, 176, 177, 178, 179, 180, 181, 182, 183, 184, 185, 186, 187, 188, 189, 190, 191, 192, 193, 194, 195, 196, 197, 198, 199, 200, 201, 202, 203, 204, 205, 44, 45, 46, 206, 133, 134, 207, 208, 209, 210, 211, 212, 213, 214, 215, 216, 217, 218, 219, 220, 221, 222, 223, 224, 225, 226, 227, 228, 229, 230, 231, 232, 233, 234, 235, 236, 237, 238, 239, 240, 241, 242, 243, 244, 245, 246, 247, 248, 249, 250, 251, 252, 253, 254, 255, 256, 257, 258, 259, 260, 261, 262, 263, 122, 123, 124, 264, 265, 266, 267, 268, 269, 270, 271, 272, 273, 274, 275, 276, 277, 278, 279, 280, 281, 282, 283, 284, 285, 286, 287, 288, 289, 290, 291, 292, 293, 294, 295, 296, 297, 298, 142, 143, 144, 145, 146, 147, 148, 149, 150, 151, 152, 153, 154, 155]
set_option maxRecDepth 20000 in
theorem ge_X3_read : wsX3_read = gc_X3_read.map gw := rfl
def gc_X3_begins : List Nat := [170, 159, 171, 160, 161, 172, 173, 174, 119, 175, 158, 176, 177, 178, 179, 180, 181, 182, 183, 184, 185, 186, 187, 188, 189, 190, 191, 192, 193, 194, 195, 196, 197, 198, 199, 200, 201, 202, 203, 204, 205, 44, 45, 46, 206, 133, 134, 207, 208, 209, 210, 211, 212, 213, 214, 215, 216, 217, 218, 219, 220, 221, 222, 223, 224, 225, 226, 227, 228, 229, 230, 231, 232, 233, 234, 235, 236, 237, 238, 239, 240, 241, 242, 243, 244, 245, 246, 247, 248, 249, 250, 251, 252, 253, 254, 255, 256, 257, 258, 259, 260, 261, 262, 263, 122, 123, 124, 264, 265, 266, 267, 157, 162, 142, 143, 144, 145, 146, 147, 148, 149, 150, 151, 152, 153, 154, 155]
set_option maxRecDepth 20000 in
theorem ge_X3_begins : wsX3_begins = gc_X3_begins.map gw := rfl
def gc_X3_follows : List Nat := [271, 160, 161, 261, 262, 119, 263, 122, 123, 124, 272, 273, 274, 275, 157, 162, 276, 277, 278, 279, 159, 280, 281, 282, 283, 158, 176, 284, 285, 286, 287, 264, 265, 266, 267, 288, 289, 290, 291, 292, 293, 294, 295, 296, 297, 298, 172, 173, 174, 175, 142, 143, 144, 145, 146, 147, 148, 149, 150, 151, 152, 153, 154, 155]
set_option maxRecDepth 20000 in
theorem ge_X3_follows : wsX3_follows = gc_X3_follows.map gw := rfl
def gc_X3_closeNots : List Nat := [279, 159, 280, 281, 282, 119, 283, 158, 176, 284, 285, 286, 287, 264, 265, 266, 267, 157, 162, 142, 143, 144, 145, 146, 147, 148, 149, 150, 151, 152, 153, 154, 155]
set_option maxRecDepth 20000 in
theorem ge_X3_closeNots : wsX3_closeNots = gc_X3_closeNots.map gw := rfl
def gc_X3_closeFrom : List Nat := [295, 280, 281, 282, 119, 283, 158, 176, 296, 297, 298, 284, 285, 286, 287, 264, 265, 266, 267, 157, 162, 142, 143, 144, 145, 146, 147, 148, 149, 150, 151, 152, 153, 154, 155]
set_option maxRecDepth 20000 in
theorem ge_X3_closeFrom : wsX3_closeFrom = gc_X3_closeFrom.map gw := rfl
def gc_X3_hold : List Nat := [175, 158, 176, 142, 143, 144, 145, 146, 147, 148, 149, 150, 151, 152, 153, 154, 155]
set_option maxRecDepth 20000 in
theorem ge_X3_hold : wsX3_hold = gc_X3_hold.map gw := rfl
def gc_J0_indexOf_0f7a4 : List Nat := [181, 182, 183, 184, 180, 185, 186, 187, 188, 189, 190, 191, 192, 193, 194, 195, 196, 197, 198, 199, 200, 201, 202, 203, 204, 205, 44, 45, 46, 206, 133, 134, 207, 208, 209, 210, 211, 212, 213, 214, 215, 216, 217, 218, 219, 220, 221, 222, 223, 224, 225, 226, 227, 228, 229, 230, 231, 232, 233, 234, 235, 236, 237, 238, 239, 240, 241, 242, 243, 244, 245, 246, 247, 248, 249, 250, 251, 252, 253, 254, 255, 256, 257, 258, 259, 260]
set_option maxRecDepth 20000 in
theorem ge_J0_indexOf_0f7a4 : wsJ0_indexOf_0f7a4 = gc_J0_indexOf_0f7a4.map gw := rfl
def gc_X3_isDigit : List Nat := [263, 122, 123, 124]
set_option maxRecDepth 20000 in
theorem ge_X3_isDigit : wsX3_isDigit = gc_X3_isDigit.map gw := rfl
def gc_X3_write : List Nat := [267, 157, 162, 142, 143, 144, 145, 146, 147, 148, 149, 150, 151, 152, 153, 154, 155]
set_option maxRecDepth 20000 in
theorem ge_X3_write : wsX3_write = gc_X3_write.map gw := rfl
def gc_X3_addDigit : List Nat := [275, 160, 157, 162, 122, 123, 124, 142, 143, 144, 145, 146, 147, 148, 149, 150, 151, 152, 153, 154, 155]
set_option maxRecDepth 20000 in
theorem ge_X3_addDigit : wsX3_addDigit = gc_X3_addDigit.map gw := rfl
def gc_X3_closeParenthesis : List Nat := [291, 158, 159, 292, 293, 294, 119, 295, 280, 281, 282, 283, 176, 296, 297, 298, 284, 285, 286, 287, 264, 265, 266, 267, 157, 162, 142, 143, 144, 145, 146, 147, 148, 149, 150, 151, 152, 153, 154, 155]
set_option maxRecDepth 20000 in
theorem ge_X3_closeParenthesis : wsX3_closeParenthesis = gc_X3_closeParenthesis.map gw := rfl
def gc_X3_rankOf : List Nat := [298]
set_option maxRecDepth 20000 in
theorem ge_X3_rankOf : wsX3_rankOf = gc_X3_rankOf.map gw := rfl
def gc_X3_lastHeld : List Nat := [283, 158, 176, 142, 143, 144, 145, 146, 147, 148, 149, 150, 151, 152, 153, 154, 155]
set_option maxRecDepth 20000 in
theorem ge_X3_lastHeld : wsX3_lastHeld = gc_X3_lastHeld.map gw := rfl
def gc_X3_writeLastHeld : List Nat := [287, 158, 280, 281, 282, 119, 283, 176, 264, 265, 266, 267, 157, 162, 142, 143, 144, 145, 146, 147, 148, 149, 150, 151, 152, 153, 154, 155]
set_option maxRecDepth 20000 in
theorem ge_X3_writeLastHeld : wsX3_writeLastHeld = gc_X3_writeLastHeld.map gw := rfl
def gc_X8_sayTears : List Nat := [66, 25, 15, 16, 17, 18, 19, 20, 26, 27, 28, 29]
set_option maxRecDepth 20000 in
theorem ge_X8_sayTears : wsX8_sayTears = gc_X8_sayTears.map gw := rfl
def gc_X6_init : List Nat := [299, 300, 76, 0, 1, 2, 3, 4, 5, 6]
set_option maxRecDepth 20000 in
theorem ge_X6_init : wsX6_init = gc_X6_init.map gw := rfl
def gc_X6_isA : List Nat := [301, 302, 303, 304, 305, 76, 7, 8, 9, 10, 11, 2, 12]
set_option maxRecDepth 20000 in
theorem ge_X6_isA : wsX6_isA = gc_X6_isA.map gw := rfl
def gc_X6_moves : List Nat := [306, 307, 308, 304, 309, 76, 310]
set_option maxRecDepth 20000 in
theorem ge_X6_moves : wsX6_moves = gc_X6_moves.map gw := rfl
def gc_X0_moves : List Nat := [310]
set_option maxRecDepth 20000 in
theorem ge_X0_moves : wsX0_moves = gc_X0_moves.map gw := rfl
def gc_X6_sayTells : List Nat := [311, 312, 15, 16, 17, 18, 19, 20, 313, 314, 315, 75, 76, 13, 14, 21, 22, 10, 23, 2, 24, 25, 26, 27, 28, 29]
set_option maxRecDepth 20000 in
theorem ge_X6_sayTells : wsX6_sayTells = gc_X6_sayTells.map gw := rfl
def gc_X7_init : List Nat := [316, 317, 5, 6, 318, 319, 320, 321, 322, 323, 324, 325, 326, 327, 328, 329, 119, 330, 331, 332, 333, 334, 335, 336, 337, 338, 339, 340, 341, 342, 343, 344, 345, 346, 347, 348, 349, 350, 130, 131, 115, 162, 176, 171, 129, 121, 114, 351, 352, 353, 354, 355, 356, 357, 358, 359, 360, 361, 362, 363, 364, 365, 366, 367, 368, 369, 370, 371, 372, 142, 143, 144, 145, 146, 147, 148, 149, 150, 151, 152, 153, 154, 155]
set_option maxRecDepth 20000 in
theorem ge_X7_init : wsX7_init = gc_X7_init.map gw := rfl
def gc_X10_init : List Nat := [334, 335, 5, 6, 336, 337, 322, 338, 339, 340, 341, 342, 343, 344, 345, 346, 351, 352, 353, 354, 355, 356, 357, 358, 359, 360, 361]
set_option maxRecDepth 20000 in
theorem ge_X10_init : wsX10_init = gc_X10_init.map gw := rfl
def gc_X3_init : List Nat := [349, 350, 5, 6, 322, 130, 131, 115, 162, 176, 171, 129, 121, 114, 142, 143, 144, 145, 146, 147, 148, 149, 150, 151, 152, 153, 154, 155]
set_option maxRecDepth 20000 in
theorem ge_X3_init : wsX3_init = gc_X3_init.map gw := rfl
def gc_X7_copy : List Nat := [373, 321, 374, 323, 375, 164, 165, 166, 324, 325, 376, 330, 331, 326, 327, 377, 378, 379, 380, 320, 381, 336, 337, 339, 382, 340, 383, 384, 385, 386, 387, 388, 389, 338, 390, 391, 392, 119, 393, 129, 130, 163, 115, 362, 363, 364, 365, 366, 367, 368, 369, 370, 371, 372, 351, 352, 353, 354, 355, 356, 357, 358, 359, 360, 361, 142, 143, 144, 145, 146, 147, 148, 149, 150, 151, 152, 153, 154, 155]
set_option maxRecDepth 20000 in
theorem ge_X7_copy : wsX7_copy = gc_X7_copy.map gw := rfl
def gc_X10_copy : List Nat := [381, 336, 337, 339, 382, 164, 165, 166, 340, 383, 384, 385, 386, 387, 388, 320, 389, 338, 351, 352, 353, 354, 355, 356, 357, 358, 359, 360, 361]
set_option maxRecDepth 20000 in
theorem ge_X10_copy : wsX10_copy = gc_X10_copy.map gw := rfl
def gc_X3_copy : List Nat := [393, 129, 130, 163, 164, 165, 166, 115, 142, 143, 144, 145, 146, 147, 148, 149, 150, 151, 152, 153, 154, 155]
set_option maxRecDepth 20000 in
theorem ge_X3_copy : wsX3_copy = gc_X3_copy.map gw := rfl
def gc_X7_addByte : List Nat := [394, 376, 325, 122, 123, 124, 362, 363, 364, 365, 366, 367, 368, 369, 370, 371, 372]
set_option maxRecDepth 20000 in
theorem ge_X7_addByte : wsX7_addByte = gc_X7_addByte.map gw := rfl
def gc_X8_sayTells : List Nat := [395, 25, 15, 16, 17, 18, 19, 20, 396, 108, 397, 71, 2, 72, 73, 22, 23, 74, 75, 76, 13, 14, 21, 10, 23, 24, 77, 78, 79, 80, 81, 73, 82, 398, 71, 399, 400, 401, 100, 101, 102, 103, 90, 104, 85, 105, 106, 107, 94, 109, 110, 111, 65, 66, 112, 402, 403, 404, 396, 405, 406, 64, 407, 65, 408, 409, 410, 56, 57, 58, 59, 37, 60, 32, 61, 62, 63, 41, 411, 412, 413, 414, 406, 415, 26, 27, 28, 29]
set_option maxRecDepth 20000 in
theorem ge_X8_sayTells : wsX8_sayTells = gc_X8_sayTells.map gw := rfl
def gc_J7_fill_53178 : List Nat := [346]
set_option maxRecDepth 20000 in
theorem ge_J7_fill_53178 : wsJ7_fill_53178 = gc_J7_fill_53178.map gw := rfl
def gc_X10_lay : List Nat := [416, 336, 337, 338, 339, 343, 344, 345, 346, 351, 352, 353, 354, 355, 356, 357, 358, 359, 360, 361]
set_option maxRecDepth 20000 in
theorem ge_X10_lay : wsX10_lay = gc_X10_lay.map gw := rfl
def gc_X10_airAs : List Nat := [389, 338, 382, 164, 165, 166, 351, 352, 353, 354, 355, 356, 357, 358, 359, 360, 361]
set_option maxRecDepth 20000 in
theorem ge_X10_airAs : wsX10_airAs = gc_X10_airAs.map gw := rfl
def gc_X10_isOpen : List Nat := [417, 340, 418, 123, 419, 420, 122, 124, 351, 352, 353, 354, 355, 356, 357, 358, 359, 360, 361]
set_option maxRecDepth 20000 in
theorem ge_X10_isOpen : wsX10_isOpen = gc_X10_isOpen.map gw := rfl
def gc_X11_isWay : List Nat := [419, 420, 122, 123, 124]
set_option maxRecDepth 20000 in
theorem ge_X11_isWay : wsX11_isWay = gc_X11_isWay.map gw := rfl
def gc_X10_cellsAhead : List Nat := [421, 337, 336, 422, 423, 424, 320, 425, 426, 427, 428, 429, 351, 352, 353, 354, 355, 356, 357, 358, 359, 360, 361]
set_option maxRecDepth 20000 in
theorem ge_X10_cellsAhead : wsX10_cellsAhead = gc_X10_cellsAhead.map gw := rfl
def gc_X10_rowOf : List Nat := [425, 337, 351, 352, 353, 354, 355, 356, 357, 358, 359, 360, 361]
set_option maxRecDepth 20000 in
theorem ge_X10_rowOf : wsX10_rowOf = gc_X10_rowOf.map gw := rfl
def gc_X10_columnOf : List Nat := [429, 337, 351, 352, 353, 354, 355, 356, 357, 358, 359, 360, 361]
set_option maxRecDepth 20000 in
theorem ge_X10_columnOf : wsX10_columnOf = gc_X10_columnOf.map gw := rfl
def gc_X10_beside : List Nat := [430, 337, 431, 432, 433, 320, 421, 336, 422, 423, 424, 425, 426, 427, 428, 429, 351, 352, 353, 354, 355, 356, 357, 358, 359, 360, 361]
set_option maxRecDepth 20000 in
theorem ge_X10_beside : wsX10_beside = gc_X10_beside.map gw := rfl
def gc_X10_strike : List Nat := [434, 338, 435, 133, 45, 134, 436, 383, 339, 437, 438, 439, 320, 440, 336, 337, 441, 442, 443, 444, 2, 445, 446, 444, 447, 448, 401, 449, 450, 451, 85, 452, 453, 454, 441, 455, 456, 457, 458, 459, 384, 460, 461, 462, 463, 464, 463, 465, 466, 410, 467, 468, 469, 95, 96, 97, 90, 98, 99, 470, 471, 472, 460, 473, 474, 475, 476, 477, 478, 477, 479, 480, 51, 52, 53, 37, 54, 32, 55, 481, 482, 483, 484, 474, 485, 486, 487, 488, 489, 490, 491, 492, 119, 113, 114, 115, 116, 117, 118, 120, 121, 122, 123, 124, 125, 126, 127, 128, 129, 130, 131, 132, 135, 44, 46, 136, 137, 138, 139, 140, 141, 493, 494, 495, 496, 309, 76, 310, 497, 498, 499, 42, 43, 47, 48, 49, 50, 500, 501, 502, 503, 504, 505, 506, 507, 306, 307, 308, 304, 493, 495, 508, 509, 510, 511, 430, 431, 432, 433, 421, 422, 423, 424, 425, 426, 427, 428, 429, 512, 513, 514, 417, 340, 418, 419, 420, 351, 352, 353, 354, 355, 356, 357, 358, 359, 360, 361, 142, 143, 144, 145, 146, 147, 148, 149, 150, 151, 152, 153, 154, 155]
set_option maxRecDepth 20000 in
theorem ge_X10_strike : wsX10_strike = gc_X10_strike.map gw := rfl
def gc_X10_has : List Nat := [440, 336, 337, 351, 352, 353, 354, 355, 356, 357, 358, 359, 360, 361]
set_option maxRecDepth 20000 in
theorem ge_X10_has : wsX10_has = gc_X10_has.map gw := rfl
def gc_X8_lets : List Nat := [445]
set_option maxRecDepth 20000 in
theorem ge_X8_lets : wsX8_lets = gc_X8_lets.map gw := rfl
def gc_X2_lets : List Nat := [449]
set_option maxRecDepth 20000 in
theorem ge_X2_lets : wsX2_lets = gc_X2_lets.map gw := rfl
def gc_X4_lets : List Nat := [452]
set_option maxRecDepth 20000 in
theorem ge_X4_lets : wsX4_lets = gc_X4_lets.map gw := rfl
def gc_X10_goesOut : List Nat := [459, 436, 384, 435, 133, 45, 134, 351, 352, 353, 354, 355, 356, 357, 358, 359, 360, 361]
set_option maxRecDepth 20000 in
theorem ge_X10_goesOut : wsX10_goesOut = gc_X10_goesOut.map gw := rfl
def gc_X8_tears : List Nat := [464]
set_option maxRecDepth 20000 in
theorem ge_X8_tears : wsX8_tears = gc_X8_tears.map gw := rfl
def gc_X1_tears : List Nat := [467]
set_option maxRecDepth 20000 in
theorem ge_X1_tears : wsX1_tears = gc_X1_tears.map gw := rfl
def gc_X8_reach : List Nat := [478]
set_option maxRecDepth 20000 in
theorem ge_X8_reach : wsX8_reach = gc_X8_reach.map gw := rfl
def gc_X10_pushOn : List Nat := [489, 338, 339, 435, 133, 45, 134, 490, 491, 492, 119, 113, 114, 115, 116, 117, 118, 120, 121, 122, 123, 124, 125, 126, 127, 128, 129, 130, 131, 132, 135, 44, 46, 136, 137, 138, 139, 140, 141, 493, 494, 495, 496, 309, 76, 310, 497, 498, 499, 410, 42, 43, 47, 48, 37, 49, 32, 50, 500, 501, 85, 502, 503, 504, 505, 506, 507, 306, 307, 308, 304, 493, 495, 508, 2, 509, 510, 511, 320, 430, 337, 431, 432, 433, 421, 336, 422, 423, 424, 425, 426, 427, 428, 429, 437, 438, 439, 440, 456, 457, 458, 459, 436, 384, 512, 513, 514, 417, 340, 418, 419, 420, 351, 352, 353, 354, 355, 356, 357, 358, 359, 360, 361, 142, 143, 144, 145, 146, 147, 148, 149, 150, 151, 152, 153, 154, 155]
set_option maxRecDepth 20000 in
theorem ge_X10_pushOn : wsX10_pushOn = gc_X10_pushOn.map gw := rfl
def gc_X4_moves : List Nat := [502]
set_option maxRecDepth 20000 in
theorem ge_X4_moves : wsX4_moves = gc_X4_moves.map gw := rfl
def gc_X8_moves : List Nat := [497]
set_option maxRecDepth 20000 in
theorem ge_X8_moves : wsX8_moves = gc_X8_moves.map gw := rfl
def gc_X10_passNight : List Nat := [515, 338, 339, 516, 44, 45, 46, 385, 437, 438, 439, 320, 440, 336, 337, 351, 352, 353, 354, 355, 356, 357, 358, 359, 360, 361]
set_option maxRecDepth 20000 in
theorem ge_X10_passNight : wsX10_passNight = gc_X10_passNight.map gw := rfl
def gc_X10_allAir : List Nat := [517, 338, 437, 438, 439, 320, 440, 336, 337, 351, 352, 353, 354, 355, 356, 357, 358, 359, 360, 361]
set_option maxRecDepth 20000 in
theorem ge_X10_allAir : wsX10_allAir = gc_X10_allAir.map gw := rfl
def gc_X10_cellsWithAir : List Nat := [518, 338, 437, 438, 439, 320, 440, 336, 337, 351, 352, 353, 354, 355, 356, 357, 358, 359, 360, 361]
set_option maxRecDepth 20000 in
theorem ge_X10_cellsWithAir : wsX10_cellsWithAir = gc_X10_cellsWithAir.map gw := rfl
def gc_X10_shownBy : List Nat := [519, 336, 337, 338, 437, 438, 439, 320, 440, 490, 491, 492, 119, 113, 114, 115, 116, 117, 118, 120, 121, 122, 123, 124, 125, 126, 127, 128, 129, 130, 131, 132, 133, 45, 134, 135, 44, 46, 136, 137, 138, 139, 140, 141, 351, 352, 353, 354, 355, 356, 357, 358, 359, 360, 361, 142, 143, 144, 145, 146, 147, 148, 149, 150, 151, 152, 153, 154, 155]
set_option maxRecDepth 20000 in
theorem ge_X10_shownBy : wsX10_shownBy = gc_X10_shownBy.map gw := rfl
def gc_X10_isLit : List Nat := [520, 338, 509, 510, 511, 320, 430, 337, 431, 432, 433, 421, 336, 422, 423, 424, 425, 426, 427, 428, 429, 437, 438, 439, 440, 351, 352, 353, 354, 355, 356, 357, 358, 359, 360, 361]
set_option maxRecDepth 20000 in
theorem ge_X10_isLit : wsX10_isLit = gc_X10_isLit.map gw := rfl
def gc_X10_sizeOfBubble : List Nat := [521, 341, 343, 344, 345, 346, 522, 523, 524, 320, 525, 526, 338, 342, 527, 528, 529, 530, 437, 438, 439, 440, 336, 337, 509, 510, 511, 430, 431, 432, 433, 421, 422, 423, 424, 425, 426, 427, 428, 429, 351, 352, 353, 354, 355, 356, 357, 358, 359, 360, 361]
set_option maxRecDepth 20000 in
theorem ge_X10_sizeOfBubble : wsX10_sizeOfBubble = gc_X10_sizeOfBubble.map gw := rfl
def gc_X10_meetBubble : List Nat := [525, 526, 338, 342, 527, 528, 529, 320, 530, 341, 437, 438, 439, 440, 336, 337, 509, 510, 511, 430, 431, 432, 433, 421, 422, 423, 424, 425, 426, 427, 428, 429, 351, 352, 353, 354, 355, 356, 357, 358, 359, 360, 361]
set_option maxRecDepth 20000 in
theorem ge_X10_meetBubble : wsX10_meetBubble = gc_X10_meetBubble.map gw := rfl
def gc_X10_countBubbles : List Nat := [531, 341, 343, 344, 345, 346, 437, 438, 439, 320, 440, 336, 337, 522, 523, 524, 525, 526, 338, 342, 527, 528, 529, 530, 509, 510, 511, 430, 431, 432, 433, 421, 422, 423, 424, 425, 426, 427, 428, 429, 351, 352, 353, 354, 355, 356, 357, 358, 359, 360, 361]
set_option maxRecDepth 20000 in
theorem ge_X10_countBubbles : wsX10_countBubbles = gc_X10_countBubbles.map gw := rfl
def gc_X10_cellOfBiggest : List Nat := [532, 341, 343, 344, 345, 346, 437, 438, 439, 320, 440, 336, 337, 522, 523, 524, 525, 526, 338, 342, 527, 528, 529, 530, 509, 510, 511, 430, 431, 432, 433, 421, 422, 423, 424, 425, 426, 427, 428, 429, 351, 352, 353, 354, 355, 356, 357, 358, 359, 360, 361]
set_option maxRecDepth 20000 in
theorem ge_X10_cellOfBiggest : wsX10_cellOfBiggest = gc_X10_cellOfBiggest.map gw := rfl
def gc_X10_meet : List Nat := [530, 338, 341, 526, 342, 437, 438, 439, 320, 440, 336, 337, 351, 352, 353, 354, 355, 356, 357, 358, 359, 360, 361]
set_option maxRecDepth 20000 in
theorem ge_X10_meet : wsX10_meet = gc_X10_meet.map gw := rfl
def gc_X11_init : List Nat := [533, 534, 5, 6, 535, 536, 537, 538, 539, 540, 541, 2, 542, 543, 76, 544, 545, 85, 546, 547, 32, 548, 549, 507, 550, 551, 401, 552, 553, 410, 554, 555, 556, 17, 557, 558, 319, 320, 559, 560, 322, 561, 562, 563, 564, 565, 566, 567, 316, 317, 318, 321, 323, 324, 325, 326, 327, 328, 329, 119, 330, 331, 332, 333, 334, 335, 336, 337, 338, 339, 340, 341, 342, 343, 344, 345, 346, 347, 348, 349, 350, 130, 131, 115, 162, 176, 171, 129, 121, 114, 1, 3, 4, 300, 0, 84, 86, 31, 33, 568, 299, 569, 83, 570, 30, 571, 572, 573, 20, 574, 362, 363, 364, 365, 366, 367, 368, 369, 370, 371, 372, 575, 576, 577, 578, 579, 580, 581, 582, 583, 584, 585, 26, 27, 28, 29, 351, 352, 353, 354, 355, 356, 357, 358, 359, 360, 361, 142, 143, 144, 145, 146, 147, 148, 149, 150, 151, 152, 153, 154, 155]
set_option maxRecDepth 20000 in
theorem ge_X11_init : wsX11_init = gc_X11_init.map gw := rfl
def gc_X9_init : List Nat := [572, 573, 5, 6, 322, 20, 26, 27, 28, 29]
set_option maxRecDepth 20000 in
theorem ge_X9_init : wsX9_init = gc_X9_init.map gw := rfl
def gc_X11_wall : List Nat := [586, 538, 420, 122, 123, 124, 587, 588, 589, 590, 561, 591, 592, 593, 594, 320, 416, 336, 337, 338, 339, 343, 344, 345, 346, 595, 596, 597, 598, 575, 576, 577, 578, 579, 580, 581, 582, 583, 584, 585, 362, 363, 364, 365, 366, 367, 368, 369, 370, 371, 372, 351, 352, 353, 354, 355, 356, 357, 358, 359, 360, 361]
set_option maxRecDepth 20000 in
theorem ge_X11_wall : wsX11_wall = gc_X11_wall.map gw := rfl
def gc_X11_error : List Nat := [590, 561, 591, 420, 122, 123, 124, 575, 576, 577, 578, 579, 580, 581, 582, 583, 584, 585]
set_option maxRecDepth 20000 in
theorem ge_X11_error : wsX11_error = gc_X11_error.map gw := rfl
def gc_X10_cells : List Nat := [598, 336, 337, 351, 352, 353, 354, 355, 356, 357, 358, 359, 360, 361]
set_option maxRecDepth 20000 in
theorem ge_X10_cells : wsX10_cells = gc_X10_cells.map gw := rfl
def gc_X11_set : List Nat := [599, 538, 600, 601, 602, 123, 603, 604, 438, 439, 320, 440, 336, 337, 420, 122, 124, 587, 588, 589, 590, 561, 591, 575, 576, 577, 578, 579, 580, 581, 582, 583, 584, 585, 362, 363, 364, 365, 366, 367, 368, 369, 370, 371, 372, 351, 352, 353, 354, 355, 356, 357, 358, 359, 360, 361]
set_option maxRecDepth 20000 in
theorem ge_X11_set : wsX11_set = gc_X11_set.map gw := rfl
def gc_X11_isCell : List Nat := [603, 538, 604, 438, 439, 320, 440, 336, 337, 575, 576, 577, 578, 579, 580, 581, 582, 583, 584, 585, 362, 363, 364, 365, 366, 367, 368, 369, 370, 371, 372, 351, 352, 353, 354, 355, 356, 357, 358, 359, 360, 361]
set_option maxRecDepth 20000 in
theorem ge_X11_isCell : wsX11_isCell = gc_X11_isCell.map gw := rfl
def gc_X11_ofCell : List Nat := [605, 538, 600, 601, 602, 123, 603, 604, 438, 439, 320, 440, 336, 337, 587, 588, 589, 590, 561, 591, 420, 122, 124, 606, 423, 424, 425, 607, 427, 428, 429, 608, 491, 492, 119, 113, 114, 115, 116, 117, 118, 120, 121, 125, 126, 127, 128, 129, 130, 131, 132, 133, 45, 134, 135, 44, 46, 136, 137, 138, 139, 140, 141, 609, 610, 611, 521, 341, 343, 344, 345, 346, 522, 523, 524, 525, 526, 338, 342, 527, 528, 529, 530, 437, 509, 510, 511, 430, 431, 432, 433, 421, 422, 426, 575, 576, 577, 578, 579, 580, 581, 582, 583, 584, 585, 362, 363, 364, 365, 366, 367, 368, 369, 370, 371, 372, 351, 352, 353, 354, 355, 356, 357, 358, 359, 360, 361, 142, 143, 144, 145, 146, 147, 148, 149, 150, 151, 152, 153, 154, 155]
set_option maxRecDepth 20000 in
theorem ge_X11_ofCell : wsX11_ofCell = gc_X11_ofCell.map gw := rfl
def gc_X11_edge : List Nat := [612, 538, 613, 418, 123, 419, 420, 122, 124, 587, 588, 589, 590, 561, 591, 575, 576, 577, 578, 579, 580, 581, 582, 583, 584, 585, 362, 363, 364, 365, 366, 367, 368, 369, 370, 371, 372, 351, 352, 353, 354, 355, 356, 357, 358, 359, 360, 361]
set_option maxRecDepth 20000 in
theorem ge_X11_edge : wsX11_edge = gc_X11_edge.map gw := rfl
def gc_X11_tool : List Nat := [614, 538, 420, 122, 123, 124, 587, 588, 589, 590, 561, 591, 575, 576, 577, 578, 579, 580, 581, 582, 583, 584, 585, 362, 363, 364, 365, 366, 367, 368, 369, 370, 371, 372]
set_option maxRecDepth 20000 in
theorem ge_X11_tool : wsX11_tool = gc_X11_tool.map gw := rfl
def gc_X11_ofTool : List Nat := [615, 538, 616, 133, 45, 134, 617, 618, 619, 123, 620, 420, 122, 124, 587, 588, 589, 590, 561, 591, 621, 622, 623, 624, 625, 626, 627, 628, 554, 629, 475, 476, 477, 2, 478, 477, 479, 480, 410, 51, 52, 53, 37, 54, 32, 55, 481, 482, 483, 484, 629, 485, 608, 491, 492, 119, 113, 114, 115, 116, 117, 118, 120, 121, 125, 126, 127, 128, 129, 130, 131, 132, 135, 44, 46, 136, 137, 138, 139, 140, 141, 630, 494, 495, 496, 309, 76, 310, 497, 498, 499, 42, 43, 47, 48, 49, 50, 500, 501, 85, 502, 503, 504, 505, 506, 507, 306, 307, 308, 304, 630, 495, 508, 631, 442, 443, 444, 445, 446, 444, 447, 448, 401, 449, 450, 451, 452, 453, 454, 631, 455, 632, 461, 462, 463, 464, 463, 465, 466, 467, 468, 469, 95, 96, 97, 90, 98, 99, 470, 471, 472, 632, 473, 575, 576, 577, 578, 579, 580, 581, 582, 583, 584, 585, 362, 363, 364, 365, 366, 367, 368, 369, 370, 371, 372, 142, 143, 144, 145, 146, 147, 148, 149, 150, 151, 152, 153, 154, 155]
set_option maxRecDepth 20000 in
theorem ge_X11_ofTool : wsX11_ofTool = gc_X11_ofTool.map gw := rfl
def gc_X11_isTool : List Nat := [620, 538, 420, 122, 123, 124, 575, 576, 577, 578, 579, 580, 581, 582, 583, 584, 585, 362, 363, 364, 365, 366, 367, 368, 369, 370, 371, 372]
set_option maxRecDepth 20000 in
theorem ge_X11_isTool : wsX11_isTool = gc_X11_isTool.map gw := rfl
def gc_X11_kindOf : List Nat := [624, 538, 617, 618, 619, 123, 620, 420, 122, 124, 625, 626, 627, 628, 554, 575, 576, 577, 578, 579, 580, 581, 582, 583, 584, 585, 362, 363, 364, 365, 366, 367, 368, 369, 370, 371, 372]
set_option maxRecDepth 20000 in
theorem ge_X11_kindOf : wsX11_kindOf = gc_X11_kindOf.map gw := rfl
def gc_X11_become : List Nat := [633, 538, 617, 618, 619, 123, 620, 420, 122, 124, 587, 588, 589, 590, 561, 591, 575, 576, 577, 578, 579, 580, 581, 582, 583, 584, 585, 362, 363, 364, 365, 366, 367, 368, 369, 370, 371, 372]
set_option maxRecDepth 20000 in
theorem ge_X11_become : wsX11_become = gc_X11_become.map gw := rfl
def gc_X11_as : List Nat := [634, 538, 617, 618, 619, 123, 620, 420, 122, 124, 587, 588, 589, 590, 561, 591, 621, 622, 623, 624, 625, 626, 627, 628, 554, 635, 9, 11, 636, 305, 76, 7, 8, 10, 11, 2, 12, 637, 638, 410, 34, 35, 36, 37, 38, 32, 39, 40, 41, 639, 640, 401, 87, 88, 89, 90, 91, 85, 92, 93, 94, 641, 642, 643, 644, 507, 301, 302, 303, 304, 635, 645, 575, 576, 577, 578, 579, 580, 581, 582, 583, 584, 585, 362, 363, 364, 365, 366, 367, 368, 369, 370, 371, 372]
set_option maxRecDepth 20000 in
theorem ge_X11_as : wsX11_as = gc_X11_as.map gw := rfl
def gc_X11_feed : List Nat := [646, 538, 420, 122, 123, 124, 587, 588, 589, 590, 561, 591, 647, 648, 649, 537, 394, 376, 325, 575, 576, 577, 578, 579, 580, 581, 582, 583, 584, 585, 362, 363, 364, 365, 366, 367, 368, 369, 370, 371, 372]
set_option maxRecDepth 20000 in
theorem ge_X11_feed : wsX11_feed = gc_X11_feed.map gw := rfl
def gc_X11_text : List Nat := [650, 538, 651, 652, 123, 653, 587, 588, 589, 590, 561, 591, 420, 122, 124, 654, 655, 656, 657, 658, 659, 660, 119, 156, 157, 158, 159, 160, 161, 129, 162, 130, 163, 164, 165, 166, 115, 167, 168, 169, 170, 171, 172, 173, 174, 175, 176, 177, 178, 179, 180, 181, 182, 183, 184, 185, 186, 187, 188, 189, 190, 191, 192, 193, 194, 195, 196, 197, 198, 199, 200, 201, 202, 203, 204, 205, 44, 45, 46, 206, 133, 134, 207, 208, 209, 210, 211, 212, 213, 214, 215, 216, 217, 218, 219, 220, 221, 222, 223, 224, 225, 226, 227, 228, 229, 230, 231, 232, 233, 234, 235, 236, 237, 238, 239, 240, 241, 242, 243, 244, 245, 246, 247, 248, 249, 250, 251, 252, 253, 254, 255, 256, 257, 258, 259, 260, 261, 262, 263, 264, 265, 266, 267, 268, 269, 270, 271, 272, 273, 274, 275, 276, 277, 278, 279, 280, 281, 282, 283, 284, 285, 286, 287, 288, 289, 290, 291, 292, 293, 294, 295, 296, 297, 298, 575, 576, 577, 578, 579, 580, 581, 582, 583, 584, 585, 362, 363, 364, 365, 366, 367, 368, 369, 370, 371, 372, 142, 143, 144, 145, 146, 147, 148, 149, 150, 151, 152, 153, 154, 155]
set_option maxRecDepth 20000 in
theorem ge_X11_text : wsX11_text = gc_X11_text.map gw := rfl
def gc_X11_isUse : List Nat := [653]
set_option maxRecDepth 20000 in
theorem ge_X11_isUse : wsX11_isUse = gc_X11_isUse.map gw := rfl
def gc_X11_lawOf : List Nat := [657, 538, 575, 576, 577, 578, 579, 580, 581, 582, 583, 584, 585, 362, 363, 364, 365, 366, 367, 368, 369, 370, 371, 372]
set_option maxRecDepth 20000 in
theorem ge_X11_lawOf : wsX11_lawOf = gc_X11_lawOf.map gw := rfl
def gc_X11_law : List Nat := [661, 651, 652, 123, 653, 587, 588, 589, 590, 561, 591, 420, 122, 124, 654, 655, 656, 657, 538, 608, 491, 492, 119, 113, 114, 115, 116, 117, 118, 120, 121, 125, 126, 127, 128, 129, 130, 131, 132, 133, 45, 134, 135, 44, 46, 136, 137, 138, 139, 140, 141, 575, 576, 577, 578, 579, 580, 581, 582, 583, 584, 585, 362, 363, 364, 365, 366, 367, 368, 369, 370, 371, 372, 142, 143, 144, 145, 146, 147, 148, 149, 150, 151, 152, 153, 154, 155]
set_option maxRecDepth 20000 in
theorem ge_X11_law : wsX11_law = gc_X11_law.map gw := rfl
def gc_X11_stroke : List Nat := [662, 538, 617, 618, 619, 123, 620, 420, 122, 124, 600, 601, 602, 603, 604, 438, 439, 320, 440, 336, 337, 613, 418, 419, 587, 588, 589, 590, 561, 591, 621, 622, 623, 624, 625, 626, 627, 628, 554, 663, 664, 665, 434, 338, 435, 133, 45, 134, 436, 383, 339, 437, 441, 442, 443, 444, 2, 445, 446, 444, 447, 448, 401, 449, 450, 451, 85, 452, 453, 454, 441, 455, 456, 457, 458, 459, 384, 460, 461, 462, 463, 464, 463, 465, 466, 410, 467, 468, 469, 95, 96, 97, 90, 98, 99, 470, 471, 472, 460, 473, 474, 475, 476, 477, 478, 477, 479, 480, 51, 52, 53, 37, 54, 32, 55, 481, 482, 483, 484, 474, 485, 486, 487, 488, 489, 490, 491, 492, 119, 113, 114, 115, 116, 117, 118, 120, 121, 125, 126, 127, 128, 129, 130, 131, 132, 135, 44, 46, 136, 137, 138, 139, 140, 141, 493, 494, 495, 496, 309, 76, 310, 497, 498, 499, 42, 43, 47, 48, 49, 50, 500, 501, 502, 503, 504, 505, 506, 507, 306, 307, 308, 304, 493, 495, 508, 509, 510, 511, 430, 431, 432, 433, 421, 422, 423, 424, 425, 426, 427, 428, 429, 512, 513, 514, 417, 340, 575, 576, 577, 578, 579, 580, 581, 582, 583, 584, 585, 362, 363, 364, 365, 366, 367, 368, 369, 370, 371, 372, 351, 352, 353, 354, 355, 356, 357, 358, 359, 360, 361, 142, 143, 144, 145, 146, 147, 148, 149, 150, 151, 152, 153, 154, 155]
set_option maxRecDepth 20000 in
theorem ge_X11_stroke : wsX11_stroke = gc_X11_stroke.map gw := rfl
def gc_X11_nights : List Nat := [666, 538, 420, 122, 123, 124, 587, 588, 589, 590, 561, 591, 667, 668, 669, 320, 515, 338, 339, 516, 44, 45, 46, 385, 437, 438, 439, 440, 336, 337, 670, 671, 672, 517, 575, 576, 577, 578, 579, 580, 581, 582, 583, 584, 585, 362, 363, 364, 365, 366, 367, 368, 369, 370, 371, 372, 351, 352, 353, 354, 355, 356, 357, 358, 359, 360, 361]
set_option maxRecDepth 20000 in
theorem ge_X11_nights : wsX11_nights = gc_X11_nights.map gw := rfl
def gc_X11_days : List Nat := [673, 538, 420, 122, 123, 124, 587, 588, 589, 590, 561, 591, 674, 675, 676, 537, 677, 326, 678, 595, 596, 597, 320, 598, 336, 337, 621, 622, 623, 624, 617, 618, 619, 620, 625, 626, 627, 628, 554, 663, 664, 665, 434, 338, 435, 133, 45, 134, 436, 383, 339, 437, 438, 439, 440, 441, 442, 443, 444, 2, 445, 446, 444, 447, 448, 401, 449, 450, 451, 85, 452, 453, 454, 441, 455, 456, 457, 458, 459, 384, 460, 461, 462, 463, 464, 463, 465, 466, 410, 467, 468, 469, 95, 96, 97, 90, 98, 99, 470, 471, 472, 460, 473, 474, 475, 476, 477, 478, 477, 479, 480, 51, 52, 53, 37, 54, 32, 55, 481, 482, 483, 484, 474, 485, 486, 487, 488, 489, 490, 491, 492, 119, 113, 114, 115, 116, 117, 118, 120, 121, 125, 126, 127, 128, 129, 130, 131, 132, 135, 44, 46, 136, 137, 138, 139, 140, 141, 493, 494, 495, 496, 309, 76, 310, 497, 498, 499, 42, 43, 47, 48, 49, 50, 500, 501, 502, 503, 504, 505, 506, 507, 306, 307, 308, 304, 493, 495, 508, 509, 510, 511, 430, 431, 432, 433, 421, 422, 423, 424, 425, 426, 427, 428, 429, 512, 513, 514, 417, 340, 418, 419, 667, 668, 669, 515, 516, 385, 670, 671, 672, 517, 575, 576, 577, 578, 579, 580, 581, 582, 583, 584, 585, 362, 363, 364, 365, 366, 367, 368, 369, 370, 371, 372, 351, 352, 353, 354, 355, 356, 357, 358, 359, 360, 361, 142, 143, 144, 145, 146, 147, 148, 149, 150, 151, 152, 153, 154, 155]
set_option maxRecDepth 20000 in
theorem ge_X11_days : wsX11_days = gc_X11_days.map gw := rfl
def gc_X7_draw : List Nat := [677, 326, 678, 362, 363, 364, 365, 366, 367, 368, 369, 370, 371, 372]
set_option maxRecDepth 20000 in
theorem ge_X7_draw : wsX7_draw = gc_X7_draw.map gw := rfl
def gc_X11_shown : List Nat := [679, 538, 680, 681, 682, 320, 519, 336, 337, 338, 437, 438, 439, 440, 490, 491, 492, 119, 113, 114, 115, 116, 117, 118, 120, 121, 122, 123, 124, 125, 126, 127, 128, 129, 130, 131, 132, 133, 45, 134, 135, 44, 46, 136, 137, 138, 139, 140, 141, 575, 576, 577, 578, 579, 580, 581, 582, 583, 584, 585, 362, 363, 364, 365, 366, 367, 368, 369, 370, 371, 372, 351, 352, 353, 354, 355, 356, 357, 358, 359, 360, 361, 142, 143, 144, 145, 146, 147, 148, 149, 150, 151, 152, 153, 154, 155]
set_option maxRecDepth 20000 in
theorem ge_X11_shown : wsX11_shown = gc_X11_shown.map gw := rfl
def gc_X11_bubbles : List Nat := [683, 538, 684, 685, 686, 320, 531, 341, 343, 344, 345, 346, 437, 438, 439, 440, 336, 337, 522, 523, 524, 525, 526, 338, 342, 527, 528, 529, 530, 509, 510, 511, 430, 431, 432, 433, 421, 422, 423, 424, 425, 426, 427, 428, 429, 575, 576, 577, 578, 579, 580, 581, 582, 583, 584, 585, 362, 363, 364, 365, 366, 367, 368, 369, 370, 371, 372, 351, 352, 353, 354, 355, 356, 357, 358, 359, 360, 361]
set_option maxRecDepth 20000 in
theorem ge_X11_bubbles : wsX11_bubbles = gc_X11_bubbles.map gw := rfl
def gc_X11_biggest : List Nat := [687, 538, 420, 122, 123, 124, 587, 588, 589, 590, 561, 591, 688, 689, 690, 320, 532, 341, 343, 344, 345, 346, 437, 438, 439, 440, 336, 337, 522, 523, 524, 525, 526, 338, 342, 527, 528, 529, 530, 509, 510, 511, 430, 431, 432, 433, 421, 422, 423, 424, 425, 426, 427, 428, 429, 609, 610, 611, 521, 575, 576, 577, 578, 579, 580, 581, 582, 583, 584, 585, 362, 363, 364, 365, 366, 367, 368, 369, 370, 371, 372, 351, 352, 353, 354, 355, 356, 357, 358, 359, 360, 361]
set_option maxRecDepth 20000 in
theorem ge_X11_biggest : wsX11_biggest = gc_X11_biggest.map gw := rfl
def gc_X11_wayOut : List Nat := [691, 538, 616, 133, 45, 134, 600, 601, 602, 123, 603, 604, 438, 439, 320, 440, 336, 337, 587, 588, 589, 590, 561, 591, 420, 122, 124, 692, 513, 514, 417, 340, 418, 419, 693, 432, 433, 421, 422, 423, 424, 425, 426, 427, 428, 429, 575, 576, 577, 578, 579, 580, 581, 582, 583, 584, 585, 362, 363, 364, 365, 366, 367, 368, 369, 370, 371, 372, 351, 352, 353, 354, 355, 356, 357, 358, 359, 360, 361]
set_option maxRecDepth 20000 in
theorem ge_X11_wayOut : wsX11_wayOut = gc_X11_wayOut.map gw := rfl
def gc_X11_best : List Nat := [694, 538, 617, 618, 619, 123, 620, 420, 122, 124, 587, 588, 589, 590, 561, 591, 621, 622, 623, 624, 625, 626, 627, 628, 554, 695, 696, 697, 698, 699, 560, 616, 133, 45, 134, 595, 596, 597, 320, 598, 336, 337, 700, 379, 380, 381, 339, 382, 164, 165, 166, 340, 383, 384, 385, 386, 387, 388, 389, 338, 701, 663, 664, 665, 434, 435, 436, 437, 438, 439, 440, 441, 442, 443, 444, 2, 445, 446, 444, 447, 448, 401, 449, 450, 451, 85, 452, 453, 454, 441, 455, 456, 457, 458, 459, 460, 461, 462, 463, 464, 463, 465, 466, 410, 467, 468, 469, 95, 96, 97, 90, 98, 99, 470, 471, 472, 460, 473, 474, 475, 476, 477, 478, 477, 479, 480, 51, 52, 53, 37, 54, 32, 55, 481, 482, 483, 484, 474, 485, 486, 487, 488, 489, 490, 491, 492, 119, 113, 114, 115, 116, 117, 118, 120, 121, 125, 126, 127, 128, 129, 130, 131, 132, 135, 44, 46, 136, 137, 138, 139, 140, 141, 493, 494, 495, 496, 309, 76, 310, 497, 498, 499, 42, 43, 47, 48, 49, 50, 500, 501, 502, 503, 504, 505, 506, 507, 306, 307, 308, 304, 493, 495, 508, 509, 510, 511, 430, 431, 432, 433, 421, 422, 423, 424, 425, 426, 427, 428, 429, 512, 513, 514, 417, 418, 419, 680, 681, 682, 519, 702, 703, 704, 575, 576, 577, 578, 579, 580, 581, 582, 583, 584, 585, 362, 363, 364, 365, 366, 367, 368, 369, 370, 371, 372, 351, 352, 353, 354, 355, 356, 357, 358, 359, 360, 361, 142, 143, 144, 145, 146, 147, 148, 149, 150, 151, 152, 153, 154, 155]
set_option maxRecDepth 20000 in
theorem ge_X11_best : wsX11_best = gc_X11_best.map gw := rfl
def gc_X11_bestFrom : List Nat := [698, 699, 560, 538, 616, 133, 45, 134, 595, 596, 597, 320, 598, 336, 337, 700, 379, 380, 381, 339, 382, 164, 165, 166, 340, 383, 384, 385, 386, 387, 388, 389, 338, 701, 663, 664, 665, 434, 435, 436, 437, 438, 439, 440, 441, 442, 443, 444, 2, 445, 446, 444, 447, 448, 401, 449, 450, 451, 85, 452, 453, 454, 441, 455, 456, 457, 458, 459, 460, 461, 462, 463, 464, 463, 465, 466, 410, 467, 468, 469, 95, 96, 97, 90, 98, 99, 470, 471, 472, 460, 473, 474, 475, 476, 477, 478, 477, 479, 480, 51, 52, 53, 37, 54, 32, 55, 481, 482, 483, 484, 474, 485, 486, 487, 488, 489, 490, 491, 492, 119, 113, 114, 115, 116, 117, 118, 120, 121, 122, 123, 124, 125, 126, 127, 128, 129, 130, 131, 132, 135, 44, 46, 136, 137, 138, 139, 140, 141, 493, 494, 495, 496, 309, 76, 310, 497, 498, 499, 42, 43, 47, 48, 49, 50, 500, 501, 502, 503, 504, 505, 506, 507, 306, 307, 308, 304, 493, 495, 508, 509, 510, 511, 430, 431, 432, 433, 421, 422, 423, 424, 425, 426, 427, 428, 429, 512, 513, 514, 417, 418, 419, 420, 680, 681, 682, 519, 575, 576, 577, 578, 579, 580, 581, 582, 583, 584, 585, 362, 363, 364, 365, 366, 367, 368, 369, 370, 371, 372, 351, 352, 353, 354, 355, 356, 357, 358, 359, 360, 361, 142, 143, 144, 145, 146, 147, 148, 149, 150, 151, 152, 153, 154, 155]
set_option maxRecDepth 20000 in
theorem ge_X11_bestFrom : wsX11_bestFrom = gc_X11_bestFrom.map gw := rfl
def gc_X11_partOfBest : List Nat := [704]
set_option maxRecDepth 20000 in
theorem ge_X11_partOfBest : wsX11_partOfBest = gc_X11_partOfBest.map gw := rfl
def gc_X11_bestTwo : List Nat := [705, 538, 699, 559, 616, 133, 45, 134, 617, 618, 619, 123, 620, 420, 122, 124, 587, 588, 589, 590, 561, 591, 621, 622, 623, 624, 625, 626, 627, 628, 554, 595, 596, 597, 320, 598, 336, 337, 700, 379, 380, 381, 339, 382, 164, 165, 166, 340, 383, 384, 385, 386, 387, 388, 389, 338, 663, 664, 665, 434, 435, 436, 437, 438, 439, 440, 441, 442, 443, 444, 2, 445, 446, 444, 447, 448, 401, 449, 450, 451, 85, 452, 453, 454, 441, 455, 456, 457, 458, 459, 460, 461, 462, 463, 464, 463, 465, 466, 410, 467, 468, 469, 95, 96, 97, 90, 98, 99, 470, 471, 472, 460, 473, 474, 475, 476, 477, 478, 477, 479, 480, 51, 52, 53, 37, 54, 32, 55, 481, 482, 483, 484, 474, 485, 486, 487, 488, 489, 490, 491, 492, 119, 113, 114, 115, 116, 117, 118, 120, 121, 125, 126, 127, 128, 129, 130, 131, 132, 135, 44, 46, 136, 137, 138, 139, 140, 141, 493, 494, 495, 496, 309, 76, 310, 497, 498, 499, 42, 43, 47, 48, 49, 50, 500, 501, 502, 503, 504, 505, 506, 507, 306, 307, 308, 304, 493, 495, 508, 509, 510, 511, 430, 431, 432, 433, 421, 422, 423, 424, 425, 426, 427, 428, 429, 512, 513, 514, 417, 418, 419, 695, 696, 697, 698, 560, 701, 680, 681, 682, 519, 702, 703, 704, 575, 576, 577, 578, 579, 580, 581, 582, 583, 584, 585, 362, 363, 364, 365, 366, 367, 368, 369, 370, 371, 372, 351, 352, 353, 354, 355, 356, 357, 358, 359, 360, 361, 142, 143, 144, 145, 146, 147, 148, 149, 150, 151, 152, 153, 154, 155]
set_option maxRecDepth 20000 in
theorem ge_X11_bestTwo : wsX11_bestTwo = gc_X11_bestTwo.map gw := rfl
def gc_X11_goneBy : List Nat := [706, 538, 600, 601, 602, 123, 603, 604, 438, 439, 320, 440, 336, 337, 587, 588, 589, 590, 561, 591, 420, 122, 124, 707, 708, 709, 710, 44, 45, 46, 575, 576, 577, 578, 579, 580, 581, 582, 583, 584, 585, 362, 363, 364, 365, 366, 367, 368, 369, 370, 371, 372, 351, 352, 353, 354, 355, 356, 357, 358, 359, 360, 361]
set_option maxRecDepth 20000 in
theorem ge_X11_goneBy : wsX11_goneBy = gc_X11_goneBy.map gw := rfl
def gc_X11_nightsToGo : List Nat := [709, 710, 44, 45, 46]
set_option maxRecDepth 20000 in
theorem ge_X11_nightsToGo : wsX11_nightsToGo = gc_X11_nightsToGo.map gw := rfl
def gc_X11_never : List Nat := [711, 538, 595, 596, 597, 320, 598, 336, 337, 707, 708, 123, 709, 710, 44, 45, 46, 575, 576, 577, 578, 579, 580, 581, 582, 583, 584, 585, 362, 363, 364, 365, 366, 367, 368, 369, 370, 371, 372, 351, 352, 353, 354, 355, 356, 357, 358, 359, 360, 361]
set_option maxRecDepth 20000 in
theorem ge_X11_never : wsX11_never = gc_X11_never.map gw := rfl
def gc_X11_needs : List Nat := [712, 538, 600, 601, 602, 123, 603, 604, 438, 439, 320, 440, 336, 337, 420, 122, 124, 587, 588, 589, 590, 561, 591, 707, 708, 709, 710, 44, 45, 46, 575, 576, 577, 578, 579, 580, 581, 582, 583, 584, 585, 362, 363, 364, 365, 366, 367, 368, 369, 370, 371, 372, 351, 352, 353, 354, 355, 356, 357, 358, 359, 360, 361]
set_option maxRecDepth 20000 in
theorem ge_X11_needs : wsX11_needs = gc_X11_needs.map gw := rfl
def gc_X11_lamp : List Nat := [713, 538, 613, 418, 123, 419, 420, 122, 124, 587, 588, 589, 590, 561, 591, 595, 596, 597, 320, 598, 336, 337, 714, 715, 716, 520, 338, 509, 510, 511, 430, 431, 432, 433, 421, 422, 423, 424, 425, 426, 427, 428, 429, 437, 438, 439, 440, 575, 576, 577, 578, 579, 580, 581, 582, 583, 584, 585, 362, 363, 364, 365, 366, 367, 368, 369, 370, 371, 372, 351, 352, 353, 354, 355, 356, 357, 358, 359, 360, 361]
set_option maxRecDepth 20000 in
theorem ge_X11_lamp : wsX11_lamp = gc_X11_lamp.map gw := rfl
def gc_X11_came : List Nat := [717, 559, 538, 617, 618, 619, 123, 620, 420, 122, 124, 600, 601, 602, 603, 604, 438, 439, 320, 440, 336, 337, 613, 418, 419, 718, 719, 720, 587, 588, 589, 590, 561, 591, 721, 722, 723, 724, 562, 700, 379, 380, 381, 339, 382, 164, 165, 166, 340, 383, 384, 385, 386, 387, 388, 389, 338, 625, 626, 627, 628, 554, 663, 664, 665, 434, 435, 133, 45, 134, 436, 437, 441, 442, 443, 444, 2, 445, 446, 444, 447, 448, 401, 449, 450, 451, 85, 452, 453, 454, 441, 455, 456, 457, 458, 459, 460, 461, 462, 463, 464, 463, 465, 466, 410, 467, 468, 469, 95, 96, 97, 90, 98, 99, 470, 471, 472, 460, 473, 474, 475, 476, 477, 478, 477, 479, 480, 51, 52, 53, 37, 54, 32, 55, 481, 482, 483, 484, 474, 485, 486, 487, 488, 489, 490, 491, 492, 119, 113, 114, 115, 116, 117, 118, 120, 121, 125, 126, 127, 128, 129, 130, 131, 132, 135, 44, 46, 136, 137, 138, 139, 140, 141, 493, 494, 495, 496, 309, 76, 310, 497, 498, 499, 42, 43, 47, 48, 49, 50, 500, 501, 502, 503, 504, 505, 506, 507, 306, 307, 308, 304, 493, 495, 508, 509, 510, 511, 430, 431, 432, 433, 421, 422, 423, 424, 425, 426, 427, 428, 429, 512, 513, 514, 417, 725, 726, 727, 728, 563, 710, 565, 595, 596, 597, 598, 575, 576, 577, 578, 579, 580, 581, 582, 583, 584, 585, 362, 363, 364, 365, 366, 367, 368, 369, 370, 371, 372, 351, 352, 353, 354, 355, 356, 357, 358, 359, 360, 361, 142, 143, 144, 145, 146, 147, 148, 149, 150, 151, 152, 153, 154, 155]
set_option maxRecDepth 20000 in
theorem ge_X11_came : wsX11_came = gc_X11_came.map gw := rfl
def gc_X11_isSheet : List Nat := [720, 420, 122, 123, 124]
set_option maxRecDepth 20000 in
theorem ge_X11_isSheet : wsX11_isSheet = gc_X11_isSheet.map gw := rfl
def gc_X11_isMissing : List Nat := [724, 562, 575, 576, 577, 578, 579, 580, 581, 582, 583, 584, 585]
set_option maxRecDepth 20000 in
theorem ge_X11_isMissing : wsX11_isMissing = gc_X11_isMissing.map gw := rfl
def gc_X11_kindAt : List Nat := [628, 554, 420, 122, 123, 124, 575, 576, 577, 578, 579, 580, 581, 582, 583, 584, 585]
set_option maxRecDepth 20000 in
theorem ge_X11_kindAt : wsX11_kindAt = gc_X11_kindAt.map gw := rfl
def gc_X11_firstUnlike : List Nat := [728, 563, 710, 44, 45, 46, 565, 595, 596, 597, 320, 598, 336, 337, 604, 438, 439, 440, 575, 576, 577, 578, 579, 580, 581, 582, 583, 584, 585, 351, 352, 353, 354, 355, 356, 357, 358, 359, 360, 361]
set_option maxRecDepth 20000 in
theorem ge_X11_firstUnlike : wsX11_firstUnlike = gc_X11_firstUnlike.map gw := rfl
def gc_X11_odds : List Nat := [729, 559, 538, 617, 618, 619, 123, 620, 420, 122, 124, 600, 601, 602, 603, 604, 438, 439, 320, 440, 336, 337, 587, 588, 589, 590, 561, 591, 700, 379, 380, 381, 339, 382, 164, 165, 166, 340, 383, 384, 385, 386, 387, 388, 389, 338, 621, 622, 623, 624, 625, 626, 627, 628, 554, 663, 664, 665, 434, 435, 133, 45, 134, 436, 437, 441, 442, 443, 444, 2, 445, 446, 444, 447, 448, 401, 449, 450, 451, 85, 452, 453, 454, 441, 455, 456, 457, 458, 459, 460, 461, 462, 463, 464, 463, 465, 466, 410, 467, 468, 469, 95, 96, 97, 90, 98, 99, 470, 471, 472, 460, 473, 474, 475, 476, 477, 478, 477, 479, 480, 51, 52, 53, 37, 54, 32, 55, 481, 482, 483, 484, 474, 485, 486, 487, 488, 489, 490, 491, 492, 119, 113, 114, 115, 116, 117, 118, 120, 121, 125, 126, 127, 128, 129, 130, 131, 132, 135, 44, 46, 136, 137, 138, 139, 140, 141, 493, 494, 495, 496, 309, 76, 310, 497, 498, 499, 42, 43, 47, 48, 49, 50, 500, 501, 502, 503, 504, 505, 506, 507, 306, 307, 308, 304, 493, 495, 508, 509, 510, 511, 430, 431, 432, 433, 421, 422, 423, 424, 425, 426, 427, 428, 429, 512, 513, 514, 417, 418, 419, 680, 681, 682, 519, 575, 576, 577, 578, 579, 580, 581, 582, 583, 584, 585, 362, 363, 364, 365, 366, 367, 368, 369, 370, 371, 372, 351, 352, 353, 354, 355, 356, 357, 358, 359, 360, 361, 142, 143, 144, 145, 146, 147, 148, 149, 150, 151, 152, 153, 154, 155]
set_option maxRecDepth 20000 in
theorem ge_X11_odds : wsX11_odds = gc_X11_odds.map gw := rfl
def gc_X11_voice : List Nat := [730, 557, 538, 617, 618, 619, 123, 620, 420, 122, 124, 587, 588, 589, 590, 561, 591, 731, 732, 733, 17, 734, 735, 736, 19, 621, 622, 623, 624, 625, 626, 627, 628, 554, 737, 22, 23, 74, 75, 76, 13, 14, 15, 16, 18, 20, 21, 10, 23, 2, 24, 25, 77, 78, 79, 80, 81, 737, 82, 738, 108, 397, 71, 72, 73, 73, 398, 71, 399, 400, 401, 100, 101, 102, 103, 90, 104, 85, 105, 106, 107, 94, 109, 110, 111, 65, 66, 112, 402, 403, 404, 738, 405, 739, 64, 407, 65, 408, 409, 410, 56, 57, 58, 59, 37, 60, 32, 61, 62, 63, 41, 411, 412, 413, 414, 739, 415, 740, 741, 742, 743, 395, 396, 396, 406, 406, 743, 744, 745, 67, 68, 69, 70, 746, 747, 748, 749, 750, 507, 311, 312, 313, 314, 315, 740, 751, 575, 576, 577, 578, 579, 580, 581, 582, 583, 584, 585, 362, 363, 364, 365, 366, 367, 368, 369, 370, 371, 372, 26, 27, 28, 29]
set_option maxRecDepth 20000 in
theorem ge_X11_voice : wsX11_voice = gc_X11_voice.map gw := rfl
def gc_X9_start : List Nat := [734, 735, 736, 19, 26, 27, 28, 29]
set_option maxRecDepth 20000 in
theorem ge_X9_start : wsX9_start = gc_X9_start.map gw := rfl
def gc_X11_trace : List Nat := [752, 557, 420, 122, 123, 124, 587, 588, 589, 590, 561, 591, 575, 576, 577, 578, 579, 580, 581, 582, 583, 584, 585, 26, 27, 28, 29]
set_option maxRecDepth 20000 in
theorem ge_X11_trace : wsX11_trace = gc_X11_trace.map gw := rfl
def gc_X11_sheet : List Nat := [753, 562, 563, 565, 718, 719, 123, 720, 420, 122, 124, 587, 588, 589, 590, 561, 591, 754, 344, 345, 346, 575, 576, 577, 578, 579, 580, 581, 582, 583, 584, 585]
set_option maxRecDepth 20000 in
theorem ge_X11_sheet : wsX11_sheet = gc_X11_sheet.map gw := rfl
def gc_X11_put : List Nat := [755, 563, 562, 565, 718, 719, 123, 720, 420, 122, 124, 587, 588, 589, 590, 561, 591, 721, 722, 723, 724, 575, 576, 577, 578, 579, 580, 581, 582, 583, 584, 585]
set_option maxRecDepth 20000 in
theorem ge_X11_put : wsX11_put = gc_X11_put.map gw := rfl
def gc_X11_move : List Nat := [756, 562, 565, 757, 164, 165, 166, 718, 719, 123, 720, 420, 122, 124, 587, 588, 589, 590, 561, 591, 721, 722, 723, 724, 758, 759, 760, 761, 563, 575, 576, 577, 578, 579, 580, 581, 582, 583, 584, 585]
set_option maxRecDepth 20000 in
theorem ge_X11_move : wsX11_move = gc_X11_move.map gw := rfl
def gc_X11_standsOn : List Nat := [761, 563, 575, 576, 577, 578, 579, 580, 581, 582, 583, 584, 585]
set_option maxRecDepth 20000 in
theorem ge_X11_standsOn : wsX11_standsOn = gc_X11_standsOn.map gw := rfl
def gc_X11_airs : List Nat := [762, 563, 538, 616, 133, 45, 134, 565, 718, 719, 123, 720, 420, 122, 124, 587, 588, 589, 590, 561, 591, 721, 722, 723, 724, 562, 595, 596, 597, 320, 598, 336, 337, 575, 576, 577, 578, 579, 580, 581, 582, 583, 584, 585, 362, 363, 364, 365, 366, 367, 368, 369, 370, 371, 372, 351, 352, 353, 354, 355, 356, 357, 358, 359, 360, 361]
set_option maxRecDepth 20000 in
theorem ge_X11_airs : wsX11_airs = gc_X11_airs.map gw := rfl
def gc_X11_judge : List Nat := [763, 538, 718, 719, 123, 720, 420, 122, 124, 587, 588, 589, 590, 561, 591, 721, 722, 723, 724, 562, 725, 726, 727, 728, 563, 710, 44, 45, 46, 565, 595, 596, 597, 320, 598, 336, 337, 604, 438, 439, 440, 575, 576, 577, 578, 579, 580, 581, 582, 583, 584, 585, 362, 363, 364, 365, 366, 367, 368, 369, 370, 371, 372, 351, 352, 353, 354, 355, 356, 357, 358, 359, 360, 361]
set_option maxRecDepth 20000 in
theorem ge_X11_judge : wsX11_judge = gc_X11_judge.map gw := rfl
def gc_X11_image : List Nat := [764, 539, 538, 765, 766, 767, 768, 537, 373, 321, 374, 323, 375, 164, 165, 166, 324, 325, 376, 330, 331, 326, 327, 377, 378, 379, 380, 320, 381, 336, 337, 339, 382, 340, 383, 384, 385, 386, 387, 388, 389, 338, 390, 391, 392, 119, 393, 129, 130, 163, 115, 575, 576, 577, 578, 579, 580, 581, 582, 583, 584, 585, 362, 363, 364, 365, 366, 367, 368, 369, 370, 371, 372, 351, 352, 353, 354, 355, 356, 357, 358, 359, 360, 361, 142, 143, 144, 145, 146, 147, 148, 149, 150, 151, 152, 153, 154, 155]
set_option maxRecDepth 20000 in
theorem ge_X11_image : wsX11_image = gc_X11_image.map gw := rfl
def gc_X11_restore : List Nat := [769, 765, 538, 539, 587, 588, 589, 123, 590, 561, 591, 420, 122, 124, 766, 767, 768, 537, 373, 321, 374, 323, 375, 164, 165, 166, 324, 325, 376, 330, 331, 326, 327, 377, 378, 379, 380, 320, 381, 336, 337, 339, 382, 340, 383, 384, 385, 386, 387, 388, 389, 338, 390, 391, 392, 119, 393, 129, 130, 163, 115, 575, 576, 577, 578, 579, 580, 581, 582, 583, 584, 585, 362, 363, 364, 365, 366, 367, 368, 369, 370, 371, 372, 351, 352, 353, 354, 355, 356, 357, 358, 359, 360, 361, 142, 143, 144, 145, 146, 147, 148, 149, 150, 151, 152, 153, 154, 155]
set_option maxRecDepth 20000 in
theorem ge_X11_restore : wsX11_restore = gc_X11_restore.map gw := rfl
def gc_X11_tell : List Nat := [770, 538, 420, 122, 123, 124, 587, 588, 589, 590, 561, 591, 575, 576, 577, 578, 579, 580, 581, 582, 583, 584, 585, 362, 363, 364, 365, 366, 367, 368, 369, 370, 371, 372]
set_option maxRecDepth 20000 in
theorem ge_X11_tell : wsX11_tell = gc_X11_tell.map gw := rfl
def gc_X11_check : List Nat := [771, 538, 559, 700, 379, 380, 320, 381, 336, 337, 339, 382, 164, 165, 166, 340, 383, 384, 385, 386, 387, 388, 389, 338, 667, 668, 669, 515, 516, 44, 45, 46, 437, 438, 439, 440, 670, 671, 672, 517, 575, 576, 577, 578, 579, 580, 581, 582, 583, 584, 585, 362, 363, 364, 365, 366, 367, 368, 369, 370, 371, 372, 351, 352, 353, 354, 355, 356, 357, 358, 359, 360, 361]
set_option maxRecDepth 20000 in
theorem ge_X11_check : wsX11_check = gc_X11_check.map gw := rfl
def gc_X11_count : List Nat := [772, 538, 557, 595, 596, 597, 320, 598, 336, 337, 670, 671, 672, 517, 338, 437, 438, 439, 440, 773, 774, 775, 518, 776, 777, 778, 779, 340, 587, 588, 589, 123, 590, 561, 591, 420, 122, 124, 575, 576, 577, 578, 579, 580, 581, 582, 583, 584, 585, 362, 363, 364, 365, 366, 367, 368, 369, 370, 371, 372, 351, 352, 353, 354, 355, 356, 357, 358, 359, 360, 361, 26, 27, 28, 29]
set_option maxRecDepth 20000 in
theorem ge_X11_count : wsX11_count = gc_X11_count.map gw := rfl
def gc_X10_openBits : List Nat := [779, 340, 351, 352, 353, 354, 355, 356, 357, 358, 359, 360, 361]
set_option maxRecDepth 20000 in
theorem ge_X10_openBits : wsX10_openBits = gc_X10_openBits.map gw := rfl
def gc_X11_told : List Nat := [780, 561, 420, 122, 123, 124, 587, 588, 589, 590, 591, 575, 576, 577, 578, 579, 580, 581, 582, 583, 584, 585]
set_option maxRecDepth 20000 in
theorem ge_X11_told : wsX11_told = gc_X11_told.map gw := rfl
def gc_X12_init : List Nat := [781, 782, 5, 6, 322, 783, 784, 785, 786, 787, 788, 789, 790, 791, 792, 793, 794, 795, 796, 797, 798, 799, 800, 801, 802, 803, 804, 805, 806, 807, 808, 809, 810, 811, 812, 813, 814, 815, 816, 817, 818, 819, 820, 821, 822, 823, 824, 825]
set_option maxRecDepth 20000 in
theorem ge_X12_init : wsX12_init = gc_X12_init.map gw := rfl
def gc_X12_builds : List Nat := [799, 783, 800, 801, 802, 803, 804, 805, 806, 807, 808, 809, 810, 811, 812, 813, 814, 815, 816, 817, 818, 819, 820, 821, 822, 823, 824, 825]
set_option maxRecDepth 20000 in
theorem ge_X12_builds : wsX12_builds = gc_X12_builds.map gw := rfl
def gc_X12_isCell : List Nat := [826, 827, 828, 829, 798, 830, 783, 831, 832, 833, 800, 801, 802, 803, 804, 805, 806, 807, 808, 809, 810, 811, 812, 813, 814, 815, 816, 817, 818, 819, 820, 821, 822, 823, 824, 825]
set_option maxRecDepth 20000 in
theorem ge_X12_isCell : wsX12_isCell = gc_X12_isCell.map gw := rfl
def gc_X12_cells : List Nat := [830, 783, 800, 801, 802, 803, 804, 805, 806, 807, 808, 809, 810, 811, 812, 813, 814, 815, 816, 817, 818, 819, 820, 821, 822, 823, 824, 825]
set_option maxRecDepth 20000 in
theorem ge_X12_cells : wsX12_cells = gc_X12_cells.map gw := rfl
def gc_X12_in : List Nat := [833]
set_option maxRecDepth 20000 in
theorem ge_X12_in : wsX12_in = gc_X12_in.map gw := rfl
def gc_X12_isTool : List Nat := [834, 783, 831, 832, 798, 833, 800, 801, 802, 803, 804, 805, 806, 807, 808, 809, 810, 811, 812, 813, 814, 815, 816, 817, 818, 819, 820, 821, 822, 823, 824, 825]
set_option maxRecDepth 20000 in
theorem ge_X12_isTool : wsX12_isTool = gc_X12_isTool.map gw := rfl
def gc_X12_isWay : List Nat := [835, 836, 831, 832, 798, 833]
set_option maxRecDepth 20000 in
theorem ge_X12_isWay : wsX12_isWay = gc_X12_isWay.map gw := rfl
def gc_X12_takes : List Nat := [837, 838, 839, 840, 841, 798, 842, 843, 844, 783, 845, 800, 801, 802, 803, 804, 805, 806, 807, 808, 809, 810, 811, 812, 813, 814, 815, 816, 817, 818, 819, 820, 821, 822, 823, 824, 825]
set_option maxRecDepth 20000 in
theorem ge_X12_takes : wsX12_takes = gc_X12_takes.map gw := rfl
def gc_X12_here : List Nat := [842, 838, 843, 844, 783, 845, 800, 801, 802, 803, 804, 805, 806, 807, 808, 809, 810, 811, 812, 813, 814, 815, 816, 817, 818, 819, 820, 821, 822, 823, 824, 825]
set_option maxRecDepth 20000 in
theorem ge_X12_here : wsX12_here = gc_X12_here.map gw := rfl
def gc_X12_either : List Nat := [846, 847, 848, 849, 798, 850, 851, 852, 837, 838, 839, 840, 841, 842, 843, 844, 783, 845, 853, 854, 855, 856, 857, 858, 859, 860, 861, 862, 863, 864, 865, 866, 867, 868, 869, 870, 787, 871, 872, 873, 874, 875, 876, 877, 878, 879, 880, 881, 882, 883, 884, 831, 832, 833, 800, 801, 802, 803, 804, 805, 806, 807, 808, 809, 810, 811, 812, 813, 814, 815, 816, 817, 818, 819, 820, 821, 822, 823, 824, 825]
set_option maxRecDepth 20000 in
theorem ge_X12_either : wsX12_either = gc_X12_either.map gw := rfl
def gc_X12_both : List Nat := [853, 854, 855, 856, 798, 850, 851, 852, 837, 838, 839, 840, 841, 842, 843, 844, 783, 845, 857, 858, 859, 860, 846, 847, 848, 849, 861, 862, 863, 864, 865, 866, 867, 868, 869, 870, 787, 871, 872, 873, 874, 875, 876, 877, 878, 879, 880, 881, 882, 883, 884, 831, 832, 833, 800, 801, 802, 803, 804, 805, 806, 807, 808, 809, 810, 811, 812, 813, 814, 815, 816, 817, 818, 819, 820, 821, 822, 823, 824, 825]
set_option maxRecDepth 20000 in
theorem ge_X12_both : wsX12_both = gc_X12_both.map gw := rfl
def gc_X12_compared : List Nat := [857, 838, 858, 859, 860, 798, 839, 840, 841, 842, 843, 844, 783, 845, 853, 854, 855, 856, 850, 851, 852, 837, 846, 847, 848, 849, 861, 862, 863, 864, 865, 866, 867, 868, 869, 870, 787, 871, 872, 873, 874, 875, 876, 877, 878, 879, 880, 881, 882, 883, 884, 831, 832, 833, 800, 801, 802, 803, 804, 805, 806, 807, 808, 809, 810, 811, 812, 813, 814, 815, 816, 817, 818, 819, 820, 821, 822, 823, 824, 825]
set_option maxRecDepth 20000 in
theorem ge_X12_compared : wsX12_compared = gc_X12_compared.map gw := rfl
def gc_X12_sum : List Nat := [865, 838, 866, 867, 868, 798, 839, 840, 841, 842, 843, 844, 783, 845, 853, 854, 855, 856, 850, 851, 852, 837, 857, 858, 859, 860, 846, 847, 848, 849, 861, 862, 863, 864, 869, 870, 787, 871, 872, 873, 874, 875, 876, 877, 878, 879, 880, 881, 882, 883, 884, 831, 832, 833, 800, 801, 802, 803, 804, 805, 806, 807, 808, 809, 810, 811, 812, 813, 814, 815, 816, 817, 818, 819, 820, 821, 822, 823, 824, 825]
set_option maxRecDepth 20000 in
theorem ge_X12_sum : wsX12_sum = gc_X12_sum.map gw := rfl
def gc_X12_product : List Nat := [861, 838, 862, 863, 864, 798, 839, 840, 841, 842, 843, 844, 783, 845, 853, 854, 855, 856, 850, 851, 852, 837, 857, 858, 859, 860, 846, 847, 848, 849, 865, 866, 867, 868, 869, 870, 787, 871, 872, 873, 874, 875, 876, 877, 878, 879, 880, 881, 882, 883, 884, 831, 832, 833, 800, 801, 802, 803, 804, 805, 806, 807, 808, 809, 810, 811, 812, 813, 814, 815, 816, 817, 818, 819, 820, 821, 822, 823, 824, 825]
set_option maxRecDepth 20000 in
theorem ge_X12_product : wsX12_product = gc_X12_product.map gw := rfl
def gc_X12_unit : List Nat := [869, 870, 838, 787, 871, 872, 839, 840, 841, 798, 842, 843, 844, 783, 845, 873, 874, 875, 876, 877, 878, 879, 862, 863, 864, 850, 851, 852, 837, 880, 881, 882, 883, 884, 831, 832, 833, 853, 854, 855, 856, 857, 858, 859, 860, 846, 847, 848, 849, 861, 865, 866, 867, 868, 800, 801, 802, 803, 804, 805, 806, 807, 808, 809, 810, 811, 812, 813, 814, 815, 816, 817, 818, 819, 820, 821, 822, 823, 824, 825]
set_option maxRecDepth 20000 in
theorem ge_X12_unit : wsX12_unit = gc_X12_unit.map gw := rfl
def gc_X12_wrong : List Nat := [876, 844, 838, 800, 801, 802, 803, 804, 805, 806, 807, 808, 809, 810, 811, 812, 813, 814, 815, 816, 817, 818, 819, 820, 821, 822, 823, 824, 825]
set_option maxRecDepth 20000 in
theorem ge_X12_wrong : wsX12_wrong = gc_X12_wrong.map gw := rfl
def gc_X12_nameOf : List Nat := [883, 884, 800, 801, 802, 803, 804, 805, 806, 807, 808, 809, 810, 811, 812, 813, 814, 815, 816, 817, 818, 819, 820, 821, 822, 823, 824, 825]
set_option maxRecDepth 20000 in
theorem ge_X12_nameOf : wsX12_nameOf = gc_X12_nameOf.map gw := rfl
def gc_X12_worked : List Nat := [885, 845, 838, 843, 844, 870, 884, 877, 878, 879, 798, 846, 847, 848, 849, 850, 851, 852, 837, 839, 840, 841, 842, 783, 853, 854, 855, 856, 857, 858, 859, 860, 861, 862, 863, 864, 865, 866, 867, 868, 869, 787, 871, 872, 873, 874, 875, 876, 880, 881, 882, 883, 831, 832, 833, 800, 801, 802, 803, 804, 805, 806, 807, 808, 809, 810, 811, 812, 813, 814, 815, 816, 817, 818, 819, 820, 821, 822, 823, 824, 825]
set_option maxRecDepth 20000 in
theorem ge_X12_worked : wsX12_worked = gc_X12_worked.map gw := rfl
def gc_X12_feed : List Nat := [886, 887, 783, 888, 831, 832, 798, 833, 889, 890, 891, 892, 785, 893, 800, 801, 802, 803, 804, 805, 806, 807, 808, 809, 810, 811, 812, 813, 814, 815, 816, 817, 818, 819, 820, 821, 822, 823, 824, 825]
set_option maxRecDepth 20000 in
theorem ge_X12_feed : wsX12_feed = gc_X12_feed.map gw := rfl
def gc_X12_finds : List Nat := [892, 785, 893, 800, 801, 802, 803, 804, 805, 806, 807, 808, 809, 810, 811, 812, 813, 814, 815, 816, 817, 818, 819, 820, 821, 822, 823, 824, 825]
set_option maxRecDepth 20000 in
theorem ge_X12_finds : wsX12_finds = gc_X12_finds.map gw := rfl
def gc_X12_text : List Nat := [894, 783, 844, 831, 832, 798, 833, 889, 890, 891, 892, 785, 893, 895, 896, 897, 885, 845, 838, 843, 870, 884, 877, 878, 879, 846, 847, 848, 849, 850, 851, 852, 837, 839, 840, 841, 842, 853, 854, 855, 856, 857, 858, 859, 860, 861, 862, 863, 864, 865, 866, 867, 868, 869, 787, 871, 872, 873, 874, 875, 876, 880, 881, 882, 883, 800, 801, 802, 803, 804, 805, 806, 807, 808, 809, 810, 811, 812, 813, 814, 815, 816, 817, 818, 819, 820, 821, 822, 823, 824, 825]
set_option maxRecDepth 20000 in
theorem ge_X12_text : wsX12_text = gc_X12_text.map gw := rfl
def gc_X12_textGives : List Nat := [898, 783, 787, 895, 896, 897, 798, 885, 845, 838, 843, 844, 870, 884, 877, 878, 879, 846, 847, 848, 849, 850, 851, 852, 837, 839, 840, 841, 842, 853, 854, 855, 856, 857, 858, 859, 860, 861, 862, 863, 864, 865, 866, 867, 868, 869, 871, 872, 873, 874, 875, 876, 880, 881, 882, 883, 831, 832, 833, 899, 900, 901, 800, 801, 802, 803, 804, 805, 806, 807, 808, 809, 810, 811, 812, 813, 814, 815, 816, 817, 818, 819, 820, 821, 822, 823, 824, 825]
set_option maxRecDepth 20000 in
theorem ge_X12_textGives : wsX12_textGives = gc_X12_textGives.map gw := rfl
def gc_X12_held : List Nat := [901]
set_option maxRecDepth 20000 in
theorem ge_X12_held : wsX12_held = gc_X12_held.map gw := rfl
def gc_X12_law : List Nat := [902, 831, 832, 798, 833, 903, 904, 905, 898, 783, 787, 895, 896, 897, 885, 845, 838, 843, 844, 870, 884, 877, 878, 879, 846, 847, 848, 849, 850, 851, 852, 837, 839, 840, 841, 842, 853, 854, 855, 856, 857, 858, 859, 860, 861, 862, 863, 864, 865, 866, 867, 868, 869, 871, 872, 873, 874, 875, 876, 880, 881, 882, 883, 899, 900, 901, 889, 890, 891, 892, 785, 893, 800, 801, 802, 803, 804, 805, 806, 807, 808, 809, 810, 811, 812, 813, 814, 815, 816, 817, 818, 819, 820, 821, 822, 823, 824, 825]
set_option maxRecDepth 20000 in
theorem ge_X12_law : wsX12_law = gc_X12_law.map gw := rfl
def gc_X12_wall : List Nat := [906, 907, 831, 832, 798, 833, 889, 890, 891, 892, 785, 893, 795, 796, 797, 799, 783, 800, 801, 802, 803, 804, 805, 806, 807, 808, 809, 810, 811, 812, 813, 814, 815, 816, 817, 818, 819, 820, 821, 822, 823, 824, 825]
set_option maxRecDepth 20000 in
theorem ge_X12_wall : wsX12_wall = gc_X12_wall.map gw := rfl
def gc_X12_set : List Nat := [908, 909, 910, 783, 911, 912, 913, 798, 826, 827, 828, 829, 830, 831, 832, 833, 889, 890, 891, 892, 785, 893, 800, 801, 802, 803, 804, 805, 806, 807, 808, 809, 810, 811, 812, 813, 814, 815, 816, 817, 818, 819, 820, 821, 822, 823, 824, 825]
set_option maxRecDepth 20000 in
theorem ge_X12_set : wsX12_set = gc_X12_set.map gw := rfl
def gc_X12_seenOf : List Nat := [914, 783, 915, 788, 903, 904, 905, 798, 898, 787, 895, 896, 897, 885, 845, 838, 843, 844, 870, 884, 877, 878, 879, 846, 847, 848, 849, 850, 851, 852, 837, 839, 840, 841, 842, 853, 854, 855, 856, 857, 858, 859, 860, 861, 862, 863, 864, 865, 866, 867, 868, 869, 871, 872, 873, 874, 875, 876, 880, 881, 882, 883, 831, 832, 833, 899, 900, 901, 800, 801, 802, 803, 804, 805, 806, 807, 808, 809, 810, 811, 812, 813, 814, 815, 816, 817, 818, 819, 820, 821, 822, 823, 824, 825]
set_option maxRecDepth 20000 in
theorem ge_X12_seenOf : wsX12_seenOf = gc_X12_seenOf.map gw := rfl
def gc_X12_movedOf : List Nat := [916, 915, 789, 917, 918, 919, 798, 920, 783, 903, 904, 905, 898, 787, 895, 896, 897, 885, 845, 838, 843, 844, 870, 884, 877, 878, 879, 846, 847, 848, 849, 850, 851, 852, 837, 839, 840, 841, 842, 853, 854, 855, 856, 857, 858, 859, 860, 861, 862, 863, 864, 865, 866, 867, 868, 869, 871, 872, 873, 874, 875, 876, 880, 881, 882, 883, 831, 832, 833, 899, 900, 901, 800, 801, 802, 803, 804, 805, 806, 807, 808, 809, 810, 811, 812, 813, 814, 815, 816, 817, 818, 819, 820, 821, 822, 823, 824, 825]
set_option maxRecDepth 20000 in
theorem ge_X12_movedOf : wsX12_movedOf = gc_X12_movedOf.map gw := rfl
def gc_X12_numberOf : List Nat := [920, 783, 800, 801, 802, 803, 804, 805, 806, 807, 808, 809, 810, 811, 812, 813, 814, 815, 816, 817, 818, 819, 820, 821, 822, 823, 824, 825]
set_option maxRecDepth 20000 in
theorem ge_X12_numberOf : wsX12_numberOf = gc_X12_numberOf.map gw := rfl
def gc_X12_seen : List Nat := [921, 827, 828, 829, 798, 830, 783, 922, 923, 924, 914, 915, 788, 903, 904, 905, 898, 787, 895, 896, 897, 885, 845, 838, 843, 844, 870, 884, 877, 878, 879, 846, 847, 848, 849, 850, 851, 852, 837, 839, 840, 841, 842, 853, 854, 855, 856, 857, 858, 859, 860, 861, 862, 863, 864, 865, 866, 867, 868, 869, 871, 872, 873, 874, 875, 876, 880, 881, 882, 883, 831, 832, 833, 899, 900, 901, 800, 801, 802, 803, 804, 805, 806, 807, 808, 809, 810, 811, 812, 813, 814, 815, 816, 817, 818, 819, 820, 821, 822, 823, 824, 825]
set_option maxRecDepth 20000 in
theorem ge_X12_seen : wsX12_seen = gc_X12_seen.map gw := rfl
def gc_X12_shown : List Nat := [925, 926, 927, 928, 798, 921, 827, 828, 829, 830, 783, 922, 923, 924, 914, 915, 788, 903, 904, 905, 898, 787, 895, 896, 897, 885, 845, 838, 843, 844, 870, 884, 877, 878, 879, 846, 847, 848, 849, 850, 851, 852, 837, 839, 840, 841, 842, 853, 854, 855, 856, 857, 858, 859, 860, 861, 862, 863, 864, 865, 866, 867, 868, 869, 871, 872, 873, 874, 875, 876, 880, 881, 882, 883, 831, 832, 833, 899, 900, 901, 800, 801, 802, 803, 804, 805, 806, 807, 808, 809, 810, 811, 812, 813, 814, 815, 816, 817, 818, 819, 820, 821, 822, 823, 824, 825]
set_option maxRecDepth 20000 in
theorem ge_X12_shown : wsX12_shown = gc_X12_shown.map gw := rfl
def gc_X12_allAir : List Nat := [929, 783, 827, 828, 829, 798, 830, 800, 801, 802, 803, 804, 805, 806, 807, 808, 809, 810, 811, 812, 813, 814, 815, 816, 817, 818, 819, 820, 821, 822, 823, 824, 825]
set_option maxRecDepth 20000 in
theorem ge_X12_allAir : wsX12_allAir = gc_X12_allAir.map gw := rfl
def gc_X12_nextTo : List Nat := [930, 783, 831, 832, 798, 833, 800, 801, 802, 803, 804, 805, 806, 807, 808, 809, 810, 811, 812, 813, 814, 815, 816, 817, 818, 819, 820, 821, 822, 823, 824, 825]
set_option maxRecDepth 20000 in
theorem ge_X12_nextTo : wsX12_nextTo = gc_X12_nextTo.map gw := rfl
def gc_X12_bubbleOf : List Nat := [931, 783, 827, 828, 829, 798, 830, 932, 933, 934, 930, 831, 832, 833, 800, 801, 802, 803, 804, 805, 806, 807, 808, 809, 810, 811, 812, 813, 814, 815, 816, 817, 818, 819, 820, 821, 822, 823, 824, 825]
set_option maxRecDepth 20000 in
theorem ge_X12_bubbleOf : wsX12_bubbleOf = gc_X12_bubbleOf.map gw := rfl
def gc_X12_sizeOf0 : List Nat := [935, 783, 827, 828, 829, 798, 830, 800, 801, 802, 803, 804, 805, 806, 807, 808, 809, 810, 811, 812, 813, 814, 815, 816, 817, 818, 819, 820, 821, 822, 823, 824, 825]
set_option maxRecDepth 20000 in
theorem ge_X12_sizeOf0 : wsX12_sizeOf0 = gc_X12_sizeOf0.map gw := rfl
def gc_X12_ofCell : List Nat := [936, 836, 783, 911, 912, 913, 798, 826, 827, 828, 829, 830, 831, 832, 833, 889, 890, 891, 892, 785, 893, 922, 923, 924, 914, 915, 788, 903, 904, 905, 898, 787, 895, 896, 897, 885, 845, 838, 843, 844, 870, 884, 877, 878, 879, 846, 847, 848, 849, 850, 851, 852, 837, 839, 840, 841, 842, 853, 854, 855, 856, 857, 858, 859, 860, 861, 862, 863, 864, 865, 866, 867, 868, 869, 871, 872, 873, 874, 875, 876, 880, 881, 882, 883, 899, 900, 901, 937, 938, 939, 931, 932, 933, 934, 930, 940, 941, 942, 935, 800, 801, 802, 803, 804, 805, 806, 807, 808, 809, 810, 811, 812, 813, 814, 815, 816, 817, 818, 819, 820, 821, 822, 823, 824, 825]
set_option maxRecDepth 20000 in
theorem ge_X12_ofCell : wsX12_ofCell = gc_X12_ofCell.map gw := rfl
def gc_X12_edge : List Nat := [943, 783, 944, 945, 798, 835, 836, 831, 832, 833, 889, 890, 891, 892, 785, 893, 946, 947, 948, 949, 800, 801, 802, 803, 804, 805, 806, 807, 808, 809, 810, 811, 812, 813, 814, 815, 816, 817, 818, 819, 820, 821, 822, 823, 824, 825]
set_option maxRecDepth 20000 in
theorem ge_X12_edge : wsX12_edge = gc_X12_edge.map gw := rfl
def gc_X12_isOpen : List Nat := [949, 783, 800, 801, 802, 803, 804, 805, 806, 807, 808, 809, 810, 811, 812, 813, 814, 815, 816, 817, 818, 819, 820, 821, 822, 823, 824, 825]
set_option maxRecDepth 20000 in
theorem ge_X12_isOpen : wsX12_isOpen = gc_X12_isOpen.map gw := rfl
def gc_X12_movesOf : List Nat := [950, 917, 918, 919, 798, 920, 783, 951, 952, 953, 916, 915, 789, 903, 904, 905, 898, 787, 895, 896, 897, 885, 845, 838, 843, 844, 870, 884, 877, 878, 879, 846, 847, 848, 849, 850, 851, 852, 837, 839, 840, 841, 842, 853, 854, 855, 856, 857, 858, 859, 860, 861, 862, 863, 864, 865, 866, 867, 868, 869, 871, 872, 873, 874, 875, 876, 880, 881, 882, 883, 831, 832, 833, 899, 900, 901, 954, 955, 956, 957, 800, 801, 802, 803, 804, 805, 806, 807, 808, 809, 810, 811, 812, 813, 814, 815, 816, 817, 818, 819, 820, 821, 822, 823, 824, 825]
set_option maxRecDepth 20000 in
theorem ge_X12_movesOf : wsX12_movesOf = gc_X12_movesOf.map gw := rfl
def gc_X12_kindOf : List Nat := [957, 783, 800, 801, 802, 803, 804, 805, 806, 807, 808, 809, 810, 811, 812, 813, 814, 815, 816, 817, 818, 819, 820, 821, 822, 823, 824, 825]
set_option maxRecDepth 20000 in
theorem ge_X12_kindOf : wsX12_kindOf = gc_X12_kindOf.map gw := rfl
def gc_X12_reachOf : List Nat := [958, 954, 955, 956, 798, 957, 783, 917, 918, 919, 920, 800, 801, 802, 803, 804, 805, 806, 807, 808, 809, 810, 811, 812, 813, 814, 815, 816, 817, 818, 819, 820, 821, 822, 823, 824, 825]
set_option maxRecDepth 20000 in
theorem ge_X12_reachOf : wsX12_reachOf = gc_X12_reachOf.map gw := rfl
def gc_X12_letsOf : List Nat := [959, 954, 955, 956, 798, 957, 783, 917, 918, 919, 920, 800, 801, 802, 803, 804, 805, 806, 807, 808, 809, 810, 811, 812, 813, 814, 815, 816, 817, 818, 819, 820, 821, 822, 823, 824, 825]
set_option maxRecDepth 20000 in
theorem ge_X12_letsOf : wsX12_letsOf = gc_X12_letsOf.map gw := rfl
def gc_X12_tearsOf : List Nat := [960, 954, 955, 956, 798, 957, 783, 800, 801, 802, 803, 804, 805, 806, 807, 808, 809, 810, 811, 812, 813, 814, 815, 816, 817, 818, 819, 820, 821, 822, 823, 824, 825]
set_option maxRecDepth 20000 in
theorem ge_X12_tearsOf : wsX12_tearsOf = gc_X12_tearsOf.map gw := rfl
def gc_X12_tool : List Nat := [961, 962, 783, 831, 832, 798, 833, 889, 890, 891, 892, 785, 893, 800, 801, 802, 803, 804, 805, 806, 807, 808, 809, 810, 811, 812, 813, 814, 815, 816, 817, 818, 819, 820, 821, 822, 823, 824, 825]
set_option maxRecDepth 20000 in
theorem ge_X12_tool : wsX12_tool = gc_X12_tool.map gw := rfl
def gc_X12_ofTool : List Nat := [963, 964, 965, 966, 967, 798, 834, 783, 831, 832, 833, 889, 890, 891, 892, 785, 893, 954, 955, 956, 957, 917, 918, 919, 920, 968, 969, 970, 958, 971, 972, 973, 950, 951, 952, 953, 916, 915, 789, 903, 904, 905, 898, 787, 895, 896, 897, 885, 845, 838, 843, 844, 870, 884, 877, 878, 879, 846, 847, 848, 849, 850, 851, 852, 837, 839, 840, 841, 842, 853, 854, 855, 856, 857, 858, 859, 860, 861, 862, 863, 864, 865, 866, 867, 868, 869, 871, 872, 873, 874, 875, 876, 880, 881, 882, 883, 899, 900, 901, 974, 975, 976, 959, 977, 978, 979, 960, 800, 801, 802, 803, 804, 805, 806, 807, 808, 809, 810, 811, 812, 813, 814, 815, 816, 817, 818, 819, 820, 821, 822, 823, 824, 825]
set_option maxRecDepth 20000 in
theorem ge_X12_ofTool : wsX12_ofTool = gc_X12_ofTool.map gw := rfl
def gc_X12_become : List Nat := [980, 962, 783, 965, 966, 967, 798, 834, 831, 832, 833, 889, 890, 891, 892, 785, 893, 954, 955, 956, 957, 800, 801, 802, 803, 804, 805, 806, 807, 808, 809, 810, 811, 812, 813, 814, 815, 816, 817, 818, 819, 820, 821, 822, 823, 824, 825]
set_option maxRecDepth 20000 in
theorem ge_X12_become : wsX12_become = gc_X12_become.map gw := rfl
def gc_X12_as : List Nat := [981, 964, 965, 966, 967, 798, 834, 783, 831, 832, 833, 889, 890, 891, 892, 785, 893, 954, 955, 956, 957, 982, 983, 984, 917, 918, 919, 920, 800, 801, 802, 803, 804, 805, 806, 807, 808, 809, 810, 811, 812, 813, 814, 815, 816, 817, 818, 819, 820, 821, 822, 823, 824, 825]
set_option maxRecDepth 20000 in
theorem ge_X12_as : wsX12_as = gc_X12_as.map gw := rfl
def gc_X12_above : List Nat := [984]
set_option maxRecDepth 20000 in
theorem ge_X12_above : wsX12_above = gc_X12_above.map gw := rfl
def gc_X12_strokes : List Nat := [985, 783, 986, 974, 975, 976, 798, 959, 954, 955, 956, 957, 917, 918, 919, 920, 987, 988, 989, 990, 977, 978, 979, 960, 968, 969, 970, 958, 971, 972, 973, 950, 951, 952, 953, 916, 915, 789, 903, 904, 905, 898, 787, 895, 896, 897, 885, 845, 838, 843, 844, 870, 884, 877, 878, 879, 846, 847, 848, 849, 850, 851, 852, 837, 839, 840, 841, 842, 853, 854, 855, 856, 857, 858, 859, 860, 861, 862, 863, 864, 865, 866, 867, 868, 869, 871, 872, 873, 874, 875, 876, 880, 881, 882, 883, 831, 832, 833, 899, 900, 901, 932, 933, 934, 930, 946, 947, 948, 949, 800, 801, 802, 803, 804, 805, 806, 807, 808, 809, 810, 811, 812, 813, 814, 815, 816, 817, 818, 819, 820, 821, 822, 823, 824, 825]
set_option maxRecDepth 20000 in
theorem ge_X12_strokes : wsX12_strokes = gc_X12_strokes.map gw := rfl
def gc_X12_goesOut : List Nat := [990, 783, 986, 800, 801, 802, 803, 804, 805, 806, 807, 808, 809, 810, 811, 812, 813, 814, 815, 816, 817, 818, 819, 820, 821, 822, 823, 824, 825]
set_option maxRecDepth 20000 in
theorem ge_X12_goesOut : wsX12_goesOut = gc_X12_goesOut.map gw := rfl
def gc_X12_stroke : List Nat := [991, 783, 965, 966, 967, 798, 834, 831, 832, 833, 911, 912, 913, 826, 827, 828, 829, 830, 944, 945, 835, 836, 889, 890, 891, 892, 785, 893, 992, 993, 994, 985, 986, 974, 975, 976, 959, 954, 955, 956, 957, 917, 918, 919, 920, 987, 988, 989, 990, 977, 978, 979, 960, 968, 969, 970, 958, 971, 972, 973, 950, 951, 952, 953, 916, 915, 789, 903, 904, 905, 898, 787, 895, 896, 897, 885, 845, 838, 843, 844, 870, 884, 877, 878, 879, 846, 847, 848, 849, 850, 851, 852, 837, 839, 840, 841, 842, 853, 854, 855, 856, 857, 858, 859, 860, 861, 862, 863, 864, 865, 866, 867, 868, 869, 871, 872, 873, 874, 875, 876, 880, 881, 882, 883, 899, 900, 901, 932, 933, 934, 930, 946, 947, 948, 949, 800, 801, 802, 803, 804, 805, 806, 807, 808, 809, 810, 811, 812, 813, 814, 815, 816, 817, 818, 819, 820, 821, 822, 823, 824, 825]
set_option maxRecDepth 20000 in
theorem ge_X12_stroke : wsX12_stroke = gc_X12_stroke.map gw := rfl
def gc_X12_nightGoes : List Nat := [995, 783, 827, 828, 829, 798, 830, 800, 801, 802, 803, 804, 805, 806, 807, 808, 809, 810, 811, 812, 813, 814, 815, 816, 817, 818, 819, 820, 821, 822, 823, 824, 825]
set_option maxRecDepth 20000 in
theorem ge_X12_nightGoes : wsX12_nightGoes = gc_X12_nightGoes.map gw := rfl
def gc_X12_nights : List Nat := [996, 997, 783, 831, 832, 798, 833, 889, 890, 891, 892, 785, 893, 998, 999, 1000, 995, 827, 828, 829, 830, 1001, 1002, 1003, 929, 800, 801, 802, 803, 804, 805, 806, 807, 808, 809, 810, 811, 812, 813, 814, 815, 816, 817, 818, 819, 820, 821, 822, 823, 824, 825]
set_option maxRecDepth 20000 in
theorem ge_X12_nights : wsX12_nights = gc_X12_nights.map gw := rfl
def gc_X12_days : List Nat := [1004, 997, 783, 831, 832, 798, 833, 889, 890, 891, 892, 785, 893, 1005, 1006, 1007, 1008, 1009, 827, 828, 829, 830, 992, 993, 994, 985, 986, 974, 975, 976, 959, 954, 955, 956, 957, 917, 918, 919, 920, 987, 988, 989, 990, 977, 978, 979, 960, 968, 969, 970, 958, 971, 972, 973, 950, 951, 952, 953, 916, 915, 789, 903, 904, 905, 898, 787, 895, 896, 897, 885, 845, 838, 843, 844, 870, 884, 877, 878, 879, 846, 847, 848, 849, 850, 851, 852, 837, 839, 840, 841, 842, 853, 854, 855, 856, 857, 858, 859, 860, 861, 862, 863, 864, 865, 866, 867, 868, 869, 871, 872, 873, 874, 875, 876, 880, 881, 882, 883, 899, 900, 901, 932, 933, 934, 930, 946, 947, 948, 949, 998, 999, 1000, 995, 1001, 1002, 1003, 929, 800, 801, 802, 803, 804, 805, 806, 807, 808, 809, 810, 811, 812, 813, 814, 815, 816, 817, 818, 819, 820, 821, 822, 823, 824, 825]
set_option maxRecDepth 20000 in
theorem ge_X12_days : wsX12_days = gc_X12_days.map gw := rfl
def gc_X12_drawn : List Nat := [1008, 783, 1009, 800, 801, 802, 803, 804, 805, 806, 807, 808, 809, 810, 811, 812, 813, 814, 815, 816, 817, 818, 819, 820, 821, 822, 823, 824, 825]
set_option maxRecDepth 20000 in
theorem ge_X12_drawn : wsX12_drawn = gc_X12_drawn.map gw := rfl
def gc_X12_findBubbles : List Nat := [1010, 1011, 1012, 1013, 783, 827, 828, 829, 798, 830, 937, 938, 939, 931, 932, 933, 934, 930, 831, 832, 833, 940, 941, 942, 935, 800, 801, 802, 803, 804, 805, 806, 807, 808, 809, 810, 811, 812, 813, 814, 815, 816, 817, 818, 819, 820, 821, 822, 823, 824, 825]
set_option maxRecDepth 20000 in
theorem ge_X12_findBubbles : wsX12_findBubbles = gc_X12_findBubbles.map gw := rfl
def gc_X12_bubbles : List Nat := [1014, 1011, 1015, 1016, 1017, 798, 1010, 1012, 1013, 783, 827, 828, 829, 830, 937, 938, 939, 931, 932, 933, 934, 930, 831, 832, 833, 940, 941, 942, 935, 800, 801, 802, 803, 804, 805, 806, 807, 808, 809, 810, 811, 812, 813, 814, 815, 816, 817, 818, 819, 820, 821, 822, 823, 824, 825]
set_option maxRecDepth 20000 in
theorem ge_X12_bubbles : wsX12_bubbles = gc_X12_bubbles.map gw := rfl
def gc_X12_biggest : List Nat := [1018, 1011, 1012, 1013, 831, 832, 798, 833, 889, 890, 891, 892, 785, 893, 1015, 1016, 1017, 1010, 783, 827, 828, 829, 830, 937, 938, 939, 931, 932, 933, 934, 930, 940, 941, 942, 935, 800, 801, 802, 803, 804, 805, 806, 807, 808, 809, 810, 811, 812, 813, 814, 815, 816, 817, 818, 819, 820, 821, 822, 823, 824, 825]
set_option maxRecDepth 20000 in
theorem ge_X12_biggest : wsX12_biggest = gc_X12_biggest.map gw := rfl
def gc_X12_wayOut : List Nat := [1019, 783, 911, 912, 913, 798, 826, 827, 828, 829, 830, 831, 832, 833, 889, 890, 891, 892, 785, 893, 946, 947, 948, 949, 800, 801, 802, 803, 804, 805, 806, 807, 808, 809, 810, 811, 812, 813, 814, 815, 816, 817, 818, 819, 820, 821, 822, 823, 824, 825]
set_option maxRecDepth 20000 in
theorem ge_X12_wayOut : wsX12_wayOut = gc_X12_wayOut.map gw := rfl
def gc_X12_bestOf : List Nat := [1020, 1021, 827, 828, 829, 798, 830, 783, 1022, 1023, 1024, 1025, 786, 992, 993, 994, 985, 986, 974, 975, 976, 959, 954, 955, 956, 957, 917, 918, 919, 920, 987, 988, 989, 990, 977, 978, 979, 960, 968, 969, 970, 958, 971, 972, 973, 950, 951, 952, 953, 916, 915, 789, 903, 904, 905, 898, 787, 895, 896, 897, 885, 845, 838, 843, 844, 870, 884, 877, 878, 879, 846, 847, 848, 849, 850, 851, 852, 837, 839, 840, 841, 842, 853, 854, 855, 856, 857, 858, 859, 860, 861, 862, 863, 864, 865, 866, 867, 868, 869, 871, 872, 873, 874, 875, 876, 880, 881, 882, 883, 831, 832, 833, 899, 900, 901, 932, 933, 934, 930, 946, 947, 948, 949, 926, 927, 928, 921, 922, 923, 924, 914, 788, 1026, 1027, 1028, 1029, 800, 801, 802, 803, 804, 805, 806, 807, 808, 809, 810, 811, 812, 813, 814, 815, 816, 817, 818, 819, 820, 821, 822, 823, 824, 825]
set_option maxRecDepth 20000 in
theorem ge_X12_bestOf : wsX12_bestOf = gc_X12_bestOf.map gw := rfl
def gc_X12_keepAside : List Nat := [1025, 786, 783, 800, 801, 802, 803, 804, 805, 806, 807, 808, 809, 810, 811, 812, 813, 814, 815, 816, 817, 818, 819, 820, 821, 822, 823, 824, 825]
set_option maxRecDepth 20000 in
theorem ge_X12_keepAside : wsX12_keepAside = gc_X12_keepAside.map gw := rfl
def gc_X12_putBack : List Nat := [1029, 783, 786, 800, 801, 802, 803, 804, 805, 806, 807, 808, 809, 810, 811, 812, 813, 814, 815, 816, 817, 818, 819, 820, 821, 822, 823, 824, 825]
set_option maxRecDepth 20000 in
theorem ge_X12_putBack : wsX12_putBack = gc_X12_putBack.map gw := rfl
def gc_X12_best : List Nat := [1030, 1021, 965, 966, 967, 798, 834, 783, 831, 832, 833, 889, 890, 891, 892, 785, 893, 1031, 1032, 1033, 1020, 827, 828, 829, 830, 1022, 1023, 1024, 1025, 786, 992, 993, 994, 985, 986, 974, 975, 976, 959, 954, 955, 956, 957, 917, 918, 919, 920, 987, 988, 989, 990, 977, 978, 979, 960, 968, 969, 970, 958, 971, 972, 973, 950, 951, 952, 953, 916, 915, 789, 903, 904, 905, 898, 787, 895, 896, 897, 885, 845, 838, 843, 844, 870, 884, 877, 878, 879, 846, 847, 848, 849, 850, 851, 852, 837, 839, 840, 841, 842, 853, 854, 855, 856, 857, 858, 859, 860, 861, 862, 863, 864, 865, 866, 867, 868, 869, 871, 872, 873, 874, 875, 876, 880, 881, 882, 883, 899, 900, 901, 932, 933, 934, 930, 946, 947, 948, 949, 926, 927, 928, 921, 922, 923, 924, 914, 788, 1026, 1027, 1028, 1029, 800, 801, 802, 803, 804, 805, 806, 807, 808, 809, 810, 811, 812, 813, 814, 815, 816, 817, 818, 819, 820, 821, 822, 823, 824, 825]
set_option maxRecDepth 20000 in
theorem ge_X12_best : wsX12_best = gc_X12_best.map gw := rfl
def gc_X12_bestTwo : List Nat := [1034, 1021, 915, 965, 966, 967, 798, 834, 783, 831, 832, 833, 889, 890, 891, 892, 785, 893, 1035, 1036, 1037, 1038, 788, 789, 827, 828, 829, 830, 1022, 1023, 1024, 1025, 786, 992, 993, 994, 985, 986, 974, 975, 976, 959, 954, 955, 956, 957, 917, 918, 919, 920, 987, 988, 989, 990, 977, 978, 979, 960, 968, 969, 970, 958, 971, 972, 973, 950, 951, 952, 953, 916, 903, 904, 905, 898, 787, 895, 896, 897, 885, 845, 838, 843, 844, 870, 884, 877, 878, 879, 846, 847, 848, 849, 850, 851, 852, 837, 839, 840, 841, 842, 853, 854, 855, 856, 857, 858, 859, 860, 861, 862, 863, 864, 865, 866, 867, 868, 869, 871, 872, 873, 874, 875, 876, 880, 881, 882, 883, 899, 900, 901, 932, 933, 934, 930, 946, 947, 948, 949, 1031, 1032, 1033, 1020, 926, 927, 928, 921, 922, 923, 924, 914, 1026, 1027, 1028, 1029, 800, 801, 802, 803, 804, 805, 806, 807, 808, 809, 810, 811, 812, 813, 814, 815, 816, 817, 818, 819, 820, 821, 822, 823, 824, 825]
set_option maxRecDepth 20000 in
theorem ge_X12_bestTwo : wsX12_bestTwo = gc_X12_bestTwo.map gw := rfl
def gc_X12_keepsAnew : List Nat := [1038, 915, 788, 789, 800, 801, 802, 803, 804, 805, 806, 807, 808, 809, 810, 811, 812, 813, 814, 815, 816, 817, 818, 819, 820, 821, 822, 823, 824, 825]
set_option maxRecDepth 20000 in
theorem ge_X12_keepsAnew : wsX12_keepsAnew = gc_X12_keepsAnew.map gw := rfl
def gc_X12_goneBy : List Nat := [1039, 783, 911, 912, 913, 798, 826, 827, 828, 829, 830, 831, 832, 833, 889, 890, 891, 892, 785, 893, 1040, 1041, 1042, 800, 801, 802, 803, 804, 805, 806, 807, 808, 809, 810, 811, 812, 813, 814, 815, 816, 817, 818, 819, 820, 821, 822, 823, 824, 825]
set_option maxRecDepth 20000 in
theorem ge_X12_goneBy : wsX12_goneBy = gc_X12_goneBy.map gw := rfl
def gc_X12_goneWith : List Nat := [1042]
set_option maxRecDepth 20000 in
theorem ge_X12_goneWith : wsX12_goneWith = gc_X12_goneWith.map gw := rfl
def gc_X12_never : List Nat := [1043, 783, 827, 828, 829, 798, 830, 1040, 1041, 1042, 800, 801, 802, 803, 804, 805, 806, 807, 808, 809, 810, 811, 812, 813, 814, 815, 816, 817, 818, 819, 820, 821, 822, 823, 824, 825]
set_option maxRecDepth 20000 in
theorem ge_X12_never : wsX12_never = gc_X12_never.map gw := rfl
def gc_X12_needs : List Nat := [1044, 997, 783, 911, 912, 913, 798, 826, 827, 828, 829, 830, 831, 832, 833, 889, 890, 891, 892, 785, 893, 1040, 1041, 1042, 800, 801, 802, 803, 804, 805, 806, 807, 808, 809, 810, 811, 812, 813, 814, 815, 816, 817, 818, 819, 820, 821, 822, 823, 824, 825]
set_option maxRecDepth 20000 in
theorem ge_X12_needs : wsX12_needs = gc_X12_needs.map gw := rfl
def gc_X12_lamp : List Nat := [1045, 783, 944, 945, 798, 835, 836, 831, 832, 833, 889, 890, 891, 892, 785, 893, 827, 828, 829, 830, 932, 933, 934, 930, 800, 801, 802, 803, 804, 805, 806, 807, 808, 809, 810, 811, 812, 813, 814, 815, 816, 817, 818, 819, 820, 821, 822, 823, 824, 825]
set_option maxRecDepth 20000 in
theorem ge_X12_lamp : wsX12_lamp = gc_X12_lamp.map gw := rfl
def gc_X12_isAs : List Nat := [1046, 793, 783, 827, 828, 829, 798, 830, 800, 801, 802, 803, 804, 805, 806, 807, 808, 809, 810, 811, 812, 813, 814, 815, 816, 817, 818, 819, 820, 821, 822, 823, 824, 825]
set_option maxRecDepth 20000 in
theorem ge_X12_isAs : wsX12_isAs = gc_X12_isAs.map gw := rfl
def gc_X12_came : List Nat := [1047, 791, 792, 783, 965, 966, 967, 798, 834, 831, 832, 833, 911, 912, 913, 826, 827, 828, 829, 830, 944, 945, 835, 836, 1048, 1049, 1050, 889, 890, 891, 892, 785, 893, 954, 955, 956, 957, 1022, 1023, 1024, 1025, 786, 992, 993, 994, 985, 986, 974, 975, 976, 959, 917, 918, 919, 920, 987, 988, 989, 990, 977, 978, 979, 960, 968, 969, 970, 958, 971, 972, 973, 950, 951, 952, 953, 916, 915, 789, 903, 904, 905, 898, 787, 895, 896, 897, 885, 845, 838, 843, 844, 870, 884, 877, 878, 879, 846, 847, 848, 849, 850, 851, 852, 837, 839, 840, 841, 842, 853, 854, 855, 856, 857, 858, 859, 860, 861, 862, 863, 864, 865, 866, 867, 868, 869, 871, 872, 873, 874, 875, 876, 880, 881, 882, 883, 899, 900, 901, 932, 933, 934, 930, 946, 947, 948, 949, 1051, 1052, 1053, 1046, 793, 1026, 1027, 1028, 1029, 800, 801, 802, 803, 804, 805, 806, 807, 808, 809, 810, 811, 812, 813, 814, 815, 816, 817, 818, 819, 820, 821, 822, 823, 824, 825]
set_option maxRecDepth 20000 in
theorem ge_X12_came : wsX12_came = gc_X12_came.map gw := rfl
def gc_X12_isSheet : List Nat := [1050, 836, 831, 832, 798, 833]
set_option maxRecDepth 20000 in
theorem ge_X12_isSheet : wsX12_isSheet = gc_X12_isSheet.map gw := rfl
def gc_X12_odds : List Nat := [1054, 1055, 965, 966, 967, 798, 834, 783, 831, 832, 833, 911, 912, 913, 826, 827, 828, 829, 830, 889, 890, 891, 892, 785, 893, 1022, 1023, 1024, 1025, 786, 992, 993, 994, 985, 986, 974, 975, 976, 959, 954, 955, 956, 957, 917, 918, 919, 920, 987, 988, 989, 990, 977, 978, 979, 960, 968, 969, 970, 958, 971, 972, 973, 950, 951, 952, 953, 916, 915, 789, 903, 904, 905, 898, 787, 895, 896, 897, 885, 845, 838, 843, 844, 870, 884, 877, 878, 879, 846, 847, 848, 849, 850, 851, 852, 837, 839, 840, 841, 842, 853, 854, 855, 856, 857, 858, 859, 860, 861, 862, 863, 864, 865, 866, 867, 868, 869, 871, 872, 873, 874, 875, 876, 880, 881, 882, 883, 899, 900, 901, 932, 933, 934, 930, 946, 947, 948, 949, 926, 927, 928, 921, 922, 923, 924, 914, 788, 1026, 1027, 1028, 1029, 800, 801, 802, 803, 804, 805, 806, 807, 808, 809, 810, 811, 812, 813, 814, 815, 816, 817, 818, 819, 820, 821, 822, 823, 824, 825]
set_option maxRecDepth 20000 in
theorem ge_X12_odds : wsX12_odds = gc_X12_odds.map gw := rfl
def gc_X12_own : List Nat := [1056, 1057, 954, 955, 956, 798, 957, 783, 800, 801, 802, 803, 804, 805, 806, 807, 808, 809, 810, 811, 812, 813, 814, 815, 816, 817, 818, 819, 820, 821, 822, 823, 824, 825]
set_option maxRecDepth 20000 in
theorem ge_X12_own : wsX12_own = gc_X12_own.map gw := rfl
def gc_X12_movesBy : List Nat := [1058, 1057, 1059, 1060, 1061, 798, 1062, 1063, 790, 982, 983, 984, 1064, 1065, 1066, 800, 801, 802, 803, 804, 805, 806, 807, 808, 809, 810, 811, 812, 813, 814, 815, 816, 817, 818, 819, 820, 821, 822, 823, 824, 825]
set_option maxRecDepth 20000 in
theorem ge_X12_movesBy : wsX12_movesBy = gc_X12_movesBy.map gw := rfl
def gc_X12_ran : List Nat := [1062, 1063, 790, 800, 801, 802, 803, 804, 805, 806, 807, 808, 809, 810, 811, 812, 813, 814, 815, 816, 817, 818, 819, 820, 821, 822, 823, 824, 825]
set_option maxRecDepth 20000 in
theorem ge_X12_ran : wsX12_ran = gc_X12_ran.map gw := rfl
def gc_X12_letsBy : List Nat := [1067, 1059, 1060, 1061, 798, 1062, 1063, 790, 1068, 1069, 1070, 1056, 1057, 954, 955, 956, 957, 783, 1064, 1065, 1066, 1058, 982, 983, 984, 1071, 1072, 1073, 1074, 1075, 1076, 1077, 917, 918, 919, 920, 800, 801, 802, 803, 804, 805, 806, 807, 808, 809, 810, 811, 812, 813, 814, 815, 816, 817, 818, 819, 820, 821, 822, 823, 824, 825]
set_option maxRecDepth 20000 in
theorem ge_X12_letsBy : wsX12_letsBy = gc_X12_letsBy.map gw := rfl
def gc_X12_tearsBy : List Nat := [1077, 1057, 1059, 1060, 1061, 798, 1062, 1063, 790, 917, 918, 919, 920, 783, 982, 983, 984, 1074, 1075, 1076, 800, 801, 802, 803, 804, 805, 806, 807, 808, 809, 810, 811, 812, 813, 814, 815, 816, 817, 818, 819, 820, 821, 822, 823, 824, 825]
set_option maxRecDepth 20000 in
theorem ge_X12_tearsBy : wsX12_tearsBy = gc_X12_tearsBy.map gw := rfl
def gc_X12_tellsBy : List Nat := [1078, 1059, 1060, 1061, 798, 1062, 1063, 790, 1068, 1069, 1070, 1056, 1057, 954, 955, 956, 957, 783, 1071, 1072, 1073, 1067, 1064, 1065, 1066, 1058, 982, 983, 984, 1074, 1075, 1076, 1077, 917, 918, 919, 920, 1079, 1080, 1081, 800, 801, 802, 803, 804, 805, 806, 807, 808, 809, 810, 811, 812, 813, 814, 815, 816, 817, 818, 819, 820, 821, 822, 823, 824, 825]
set_option maxRecDepth 20000 in
theorem ge_X12_tellsBy : wsX12_tellsBy = gc_X12_tellsBy.map gw := rfl
def gc_X12_voice : List Nat := [1082, 836, 1063, 1057, 965, 966, 967, 798, 834, 783, 831, 832, 833, 889, 890, 891, 892, 785, 893, 1068, 1069, 1070, 1056, 954, 955, 956, 957, 1064, 1065, 1066, 1058, 1059, 1060, 1061, 1062, 790, 982, 983, 984, 1071, 1072, 1073, 1067, 1074, 1075, 1076, 1077, 917, 918, 919, 920, 1079, 1080, 1081, 1078, 800, 801, 802, 803, 804, 805, 806, 807, 808, 809, 810, 811, 812, 813, 814, 815, 816, 817, 818, 819, 820, 821, 822, 823, 824, 825]
set_option maxRecDepth 20000 in
theorem ge_X12_voice : wsX12_voice = gc_X12_voice.map gw := rfl
def gc_X12_trace : List Nat := [1083, 1063, 790, 831, 832, 798, 833, 889, 890, 891, 892, 785, 893, 800, 801, 802, 803, 804, 805, 806, 807, 808, 809, 810, 811, 812, 813, 814, 815, 816, 817, 818, 819, 820, 821, 822, 823, 824, 825]
set_option maxRecDepth 20000 in
theorem ge_X12_trace : wsX12_trace = gc_X12_trace.map gw := rfl
def gc_X12_sheet : List Nat := [1084, 791, 792, 793, 1048, 1049, 798, 1050, 836, 831, 832, 833, 889, 890, 891, 892, 785, 893, 800, 801, 802, 803, 804, 805, 806, 807, 808, 809, 810, 811, 812, 813, 814, 815, 816, 817, 818, 819, 820, 821, 822, 823, 824, 825]
set_option maxRecDepth 20000 in
theorem ge_X12_sheet : wsX12_sheet = gc_X12_sheet.map gw := rfl
def gc_X12_put : List Nat := [1085, 791, 792, 793, 1048, 1049, 798, 1050, 836, 831, 832, 833, 889, 890, 891, 892, 785, 893, 800, 801, 802, 803, 804, 805, 806, 807, 808, 809, 810, 811, 812, 813, 814, 815, 816, 817, 818, 819, 820, 821, 822, 823, 824, 825]
set_option maxRecDepth 20000 in
theorem ge_X12_put : wsX12_put = gc_X12_put.map gw := rfl
def gc_X12_move : List Nat := [1086, 791, 792, 794, 793, 1048, 1049, 798, 1050, 836, 831, 832, 833, 889, 890, 891, 892, 785, 893, 800, 801, 802, 803, 804, 805, 806, 807, 808, 809, 810, 811, 812, 813, 814, 815, 816, 817, 818, 819, 820, 821, 822, 823, 824, 825]
set_option maxRecDepth 20000 in
theorem ge_X12_move : wsX12_move = gc_X12_move.map gw := rfl
def gc_X12_airs : List Nat := [1087, 791, 792, 793, 909, 783, 1048, 1049, 798, 1050, 836, 831, 832, 833, 889, 890, 891, 892, 785, 893, 827, 828, 829, 830, 800, 801, 802, 803, 804, 805, 806, 807, 808, 809, 810, 811, 812, 813, 814, 815, 816, 817, 818, 819, 820, 821, 822, 823, 824, 825]
set_option maxRecDepth 20000 in
theorem ge_X12_airs : wsX12_airs = gc_X12_airs.map gw := rfl
def gc_X12_judge : List Nat := [1088, 791, 792, 793, 783, 1048, 1049, 798, 1050, 836, 831, 832, 833, 889, 890, 891, 892, 785, 893, 827, 828, 829, 830, 800, 801, 802, 803, 804, 805, 806, 807, 808, 809, 810, 811, 812, 813, 814, 815, 816, 817, 818, 819, 820, 821, 822, 823, 824, 825]
set_option maxRecDepth 20000 in
theorem ge_X12_judge : wsX12_judge = gc_X12_judge.map gw := rfl
def gc_X12_restore : List Nat := [1089, 1090, 783, 784, 889, 890, 891, 798, 892, 785, 893, 800, 801, 802, 803, 804, 805, 806, 807, 808, 809, 810, 811, 812, 813, 814, 815, 816, 817, 818, 819, 820, 821, 822, 823, 824, 825]
set_option maxRecDepth 20000 in
theorem ge_X12_restore : wsX12_restore = gc_X12_restore.map gw := rfl
def gc_X12_tell : List Nat := [1091, 783, 889, 890, 891, 798, 892, 785, 893, 800, 801, 802, 803, 804, 805, 806, 807, 808, 809, 810, 811, 812, 813, 814, 815, 816, 817, 818, 819, 820, 821, 822, 823, 824, 825]
set_option maxRecDepth 20000 in
theorem ge_X12_tell : wsX12_tell = gc_X12_tell.map gw := rfl
def gc_X12_check : List Nat := [1092, 783, 1022, 1023, 1024, 798, 1025, 786, 998, 999, 1000, 995, 827, 828, 829, 830, 1001, 1002, 1003, 929, 1026, 1027, 1028, 1029, 800, 801, 802, 803, 804, 805, 806, 807, 808, 809, 810, 811, 812, 813, 814, 815, 816, 817, 818, 819, 820, 821, 822, 823, 824, 825]
set_option maxRecDepth 20000 in
theorem ge_X12_check : wsX12_check = gc_X12_check.map gw := rfl
def gc_X12_count : List Nat := [1093, 783, 1063, 827, 828, 829, 798, 830, 1001, 1002, 1003, 929, 889, 890, 891, 892, 785, 893, 800, 801, 802, 803, 804, 805, 806, 807, 808, 809, 810, 811, 812, 813, 814, 815, 816, 817, 818, 819, 820, 821, 822, 823, 824, 825]
set_option maxRecDepth 20000 in
theorem ge_X12_count : wsX12_count = gc_X12_count.map gw := rfl
def gc_X12_told : List Nat := [1094, 907, 785, 831, 832, 798, 833, 889, 890, 891, 892, 893, 800, 801, 802, 803, 804, 805, 806, 807, 808, 809, 810, 811, 812, 813, 814, 815, 816, 817, 818, 819, 820, 821, 822, 823, 824, 825]
set_option maxRecDepth 20000 in
theorem ge_X12_told : wsX12_told = gc_X12_told.map gw := rfl
def gc_J0_length_8abf5 : List Nat := [196, 186, 197, 198, 199, 180, 200, 191, 192]
set_option maxRecDepth 20000 in
theorem ge_J0_length_8abf5 : wsJ0_length_8abf5 = gc_J0_length_8abf5.map gw := rfl
def gc_J0_coder_7d493 : List Nat := [200, 191, 192]
set_option maxRecDepth 20000 in
theorem ge_J0_coder_7d493 : wsJ0_coder_7d493 = gc_J0_coder_7d493.map gw := rfl
def gc_J0_indexOf_7cf53 : List Nat := [185, 186, 187, 188, 189, 180, 190, 191, 192, 193, 194, 195, 196, 197, 198, 199, 200, 201, 202, 203, 204, 205, 44, 45, 46, 206, 133, 134, 207, 208, 209, 210, 211, 212, 213, 214, 215, 216, 217, 218, 219, 220, 221, 222, 223, 224, 225, 226, 227, 228, 229, 230, 231, 232, 233, 234, 235, 236, 237, 238, 239, 240, 241, 242, 243, 244, 245, 246, 247, 248, 249, 250, 251, 252, 253, 254, 255, 256, 257, 258, 259, 260]
set_option maxRecDepth 20000 in
theorem ge_J0_indexOf_7cf53 : wsJ0_indexOf_7cf53 = gc_J0_indexOf_7cf53.map gw := rfl
def gc_J0_isLatin1_aae02 : List Nat := [190, 191, 192]
set_option maxRecDepth 20000 in
theorem ge_J0_isLatin1_aae02 : wsJ0_isLatin1_aae02 = gc_J0_isLatin1_aae02.map gw := rfl
def gc_J1_indexOf_4cfef : List Nat := [204, 205, 44, 45, 46, 206, 133, 134, 207, 208, 203, 209, 210, 211, 212]
set_option maxRecDepth 20000 in
theorem ge_J1_indexOf_4cfef : wsJ1_indexOf_4cfef = gc_J1_indexOf_4cfef.map gw := rfl
def gc_J2_indexOf_4cfef : List Nat := [216, 217, 44, 45, 46, 218, 133, 134, 219, 220, 221, 215, 222, 223, 224, 225, 226, 227, 228, 229, 230, 180, 231, 232, 233, 234, 235, 236, 237, 238, 239, 240, 241, 242, 243, 244, 245, 246, 247, 248, 249, 250, 251, 252, 253, 254, 255, 256, 257, 258, 259, 260]
set_option maxRecDepth 20000 in
theorem ge_J2_indexOf_4cfef : wsJ2_indexOf_4cfef = gc_J2_indexOf_4cfef.map gw := rfl
def gc_J0_checkBoundsBeginEnd_23922 : List Nat := [231, 232, 233, 234, 235, 236]
set_option maxRecDepth 20000 in
theorem ge_J0_checkBoundsBeginEnd_23922 : wsJ0_checkBoundsBeginEnd_23922 = gc_J0_checkBoundsBeginEnd_23922.map gw := rfl
def gc_J3_checkFromToIndex_8c36e : List Nat := [236]
set_option maxRecDepth 20000 in
theorem ge_J3_checkFromToIndex_8c36e : wsJ3_checkFromToIndex_8c36e = gc_J3_checkFromToIndex_8c36e.map gw := rfl
def gc_J1_canEncode_9a6ad : List Nat := [209]
set_option maxRecDepth 20000 in
theorem ge_J1_canEncode_9a6ad : wsJ1_canEncode_9a6ad = gc_J1_canEncode_9a6ad.map gw := rfl
def gc_J1_indexOfChar_4cfef : List Nat := [212]
set_option maxRecDepth 20000 in
theorem ge_J1_indexOfChar_4cfef : wsJ1_indexOfChar_4cfef = gc_J1_indexOfChar_4cfef.map gw := rfl
def gc_J2_getChar_3b067 : List Nat := [242, 243, 244, 245, 226, 227, 215, 228]
set_option maxRecDepth 20000 in
theorem ge_J2_getChar_3b067 : wsJ2_getChar_3b067 = gc_J2_getChar_3b067.map gw := rfl
def gc_J2_length_9d52b : List Nat := [228]
set_option maxRecDepth 20000 in
theorem ge_J2_length_9d52b : wsJ2_length_9d52b = gc_J2_length_9d52b.map gw := rfl
def gc_J2_indexOfChar_4cfef : List Nat := [222, 223, 224, 215, 225, 226, 227, 228, 229, 230, 180, 231, 232, 233, 234, 235, 236, 237, 238, 239, 240, 241, 242, 243, 244, 245]
set_option maxRecDepth 20000 in
theorem ge_J2_indexOfChar_4cfef : wsJ2_indexOfChar_4cfef = gc_J2_indexOfChar_4cfef.map gw := rfl
def gc_J2_indexOfSupplementary_4cfef : List Nat := [248, 249, 250, 251, 252, 253, 254, 255, 256, 257, 258, 259, 260, 223, 224, 215, 225, 226, 227, 228, 229, 230, 180, 231, 232, 233, 234, 235, 236, 240, 241, 242, 243, 244, 245]
set_option maxRecDepth 20000 in
theorem ge_J2_indexOfSupplementary_4cfef : wsJ2_indexOfSupplementary_4cfef = gc_J2_indexOfSupplementary_4cfef.map gw := rfl
def gc_J2_checkBoundsBeginEnd_d044e : List Nat := [225, 226, 227, 215, 228, 229, 230, 180, 231, 232, 233, 234, 235, 236]
set_option maxRecDepth 20000 in
theorem ge_J2_checkBoundsBeginEnd_d044e : wsJ2_checkBoundsBeginEnd_d044e = gc_J2_checkBoundsBeginEnd_d044e.map gw := rfl
def gc_J2_indexOfCharUnsafe_4cfef : List Nat := [239, 240, 241, 215, 242, 243, 244, 245, 226, 227, 228]
set_option maxRecDepth 20000 in
theorem ge_J2_indexOfCharUnsafe_4cfef : wsJ2_indexOfCharUnsafe_4cfef = gc_J2_indexOfCharUnsafe_4cfef.map gw := rfl
def gc_J11_isValidCodePoint_9a6ad : List Nat := [252]
set_option maxRecDepth 20000 in
theorem ge_J11_isValidCodePoint_9a6ad : wsJ11_isValidCodePoint_9a6ad = gc_J11_isValidCodePoint_9a6ad.map gw := rfl
def gc_J11_highSurrogate_5068e : List Nat := [255, 256]
set_option maxRecDepth 20000 in
theorem ge_J11_highSurrogate_5068e : wsJ11_highSurrogate_5068e = gc_J11_highSurrogate_5068e.map gw := rfl
def gc_J11_lowSurrogate_5068e : List Nat := [259, 260]
set_option maxRecDepth 20000 in
theorem ge_J11_lowSurrogate_5068e : wsJ11_lowSurrogate_5068e = gc_J11_lowSurrogate_5068e.map gw := rfl
def gc_L_law : List Nat := [1344, 1345, 123, 1346, 1347, 798, 1348, 1349, 1350, 533, 534, 5, 6, 535, 536, 537, 538, 539, 540, 541, 2, 542, 543, 76, 544, 545, 85, 546, 547, 32, 548, 549, 507, 550, 551, 401, 552, 553, 410, 554, 555, 556, 17, 557, 558, 319, 320, 559, 560, 322, 561, 562, 563, 564, 565, 566, 567, 316, 317, 318, 321, 323, 324, 325, 326, 327, 328, 329, 119, 330, 331, 332, 333, 334, 335, 336, 337, 338, 339, 340, 341, 342, 343, 344, 345, 346, 347, 348, 349, 350, 130, 131, 115, 162, 176, 171, 129, 121, 114, 1, 3, 4, 300, 0, 84, 86, 31, 33, 568, 299, 569, 83, 570, 30, 571, 572, 573, 20, 574, 1351, 1352, 781, 782, 783, 784, 785, 786, 787, 788, 789, 790, 791, 792, 793, 794, 795, 796, 797, 799, 1095, 1096, 1097, 586, 420, 122, 124, 587, 588, 589, 590, 591, 592, 593, 594, 416, 595, 596, 597, 598, 1098, 1099, 1100, 906, 907, 831, 832, 833, 889, 890, 891, 892, 893, 1101, 1102, 1103, 599, 600, 601, 602, 603, 604, 438, 439, 440, 1104, 1105, 1106, 908, 909, 910, 911, 912, 913, 826, 827, 828, 829, 830, 1107, 1108, 1109, 605, 606, 423, 424, 425, 607, 427, 428, 429, 608, 491, 492, 113, 116, 117, 118, 120, 125, 126, 127, 128, 132, 133, 45, 134, 135, 44, 46, 136, 137, 138, 139, 140, 141, 609, 610, 611, 521, 522, 523, 524, 525, 526, 527, 528, 529, 530, 437, 509, 510, 511, 430, 431, 432, 433, 421, 422, 426, 1110, 1111, 1112, 936, 836, 922, 923, 924, 914, 915, 903, 904, 905, 898, 895, 896, 897, 885, 845, 838, 843, 844, 870, 884, 877, 878, 879, 846, 847, 848, 849, 850, 851, 852, 837, 839, 840, 841, 842, 853, 854, 855, 856, 857, 858, 859, 860, 861, 862, 863, 864, 865, 866, 867, 868, 869, 871, 872, 873, 874, 875, 876, 880, 881, 882, 883, 899, 900, 901, 937, 938, 939, 931, 932, 933, 934, 930, 940, 941, 942, 935, 1113, 1114, 1115, 612, 613, 418, 419, 1116, 1117, 1118, 943, 944, 945, 835, 946, 947, 948, 949, 1119, 1120, 1121, 614, 1122, 1123, 1124, 961, 962, 1125, 1126, 1127, 615, 616, 617, 618, 619, 620, 621, 622, 623, 624, 625, 626, 627, 628, 629, 475, 476, 477, 478, 477, 479, 480, 51, 52, 53, 37, 54, 55, 481, 482, 483, 484, 629, 485, 630, 494, 495, 496, 309, 310, 497, 498, 499, 42, 43, 47, 48, 49, 50, 500, 501, 502, 503, 504, 505, 506, 306, 307, 308, 304, 630, 495, 508, 631, 442, 443, 444, 445, 446, 444, 447, 448, 449, 450, 451, 452, 453, 454, 631, 455, 632, 461, 462, 463, 464, 463, 465, 466, 467, 468, 469, 95, 96, 97, 90, 98, 99, 470, 471, 472, 632, 473, 1128, 1129, 1130, 963, 964, 965, 966, 967, 834, 954, 955, 956, 957, 917, 918, 919, 920, 968, 969, 970, 958, 971, 972, 973, 950, 951, 952, 953, 916, 974, 975, 976, 959, 977, 978, 979, 960, 1131, 1132, 1133, 633, 1134, 1135, 1136, 980, 1137, 1138, 1139, 634, 635, 9, 11, 636, 305, 7, 8, 10, 11, 12, 637, 638, 34, 35, 36, 38, 39, 40, 41, 639, 640, 87, 88, 89, 91, 92, 93, 94, 641, 642, 643, 644, 301, 302, 303, 635, 645, 1140, 1141, 1142, 981, 982, 983, 984, 1143, 1144, 1145, 646, 647, 648, 649, 394, 376, 1146, 1147, 1148, 886, 887, 888, 1149, 1150, 1151, 650, 651, 652, 653, 654, 655, 656, 657, 658, 659, 660, 156, 157, 158, 159, 160, 161, 163, 164, 165, 166, 167, 168, 169, 170, 172, 173, 174, 175, 177, 178, 179, 180, 181, 182, 183, 184, 185, 186, 187, 188, 189, 190, 191, 192, 193, 194, 195, 196, 197, 198, 199, 200, 201, 202, 203, 204, 205, 206, 207, 208, 209, 210, 211, 212, 213, 214, 215, 216, 217, 218, 219, 220, 221, 222, 223, 224, 225, 226, 227, 228, 229, 230, 231, 232, 233, 234, 235, 236, 237, 238, 239, 240, 241, 242, 243, 244, 245, 246, 247, 248, 249, 250, 251, 252, 253, 254, 255, 256, 257, 258, 259, 260, 261, 262, 263, 264, 265, 266, 267, 268, 269, 270, 271, 272, 273, 274, 275, 276, 277, 278, 279, 280, 281, 282, 283, 284, 285, 286, 287, 288, 289, 290, 291, 292, 293, 294, 295, 296, 297, 298, 1152, 1153, 1154, 894, 1155, 1156, 1157, 661, 1158, 1159, 1160, 902, 1161, 1162, 1163, 662, 663, 664, 665, 434, 435, 436, 383, 441, 441, 456, 457, 458, 459, 384, 460, 460, 474, 474, 486, 487, 488, 489, 490, 493, 493, 512, 513, 514, 417, 1164, 1165, 1166, 991, 992, 993, 994, 985, 986, 987, 988, 989, 990, 1167, 1168, 1169, 666, 667, 668, 669, 515, 516, 385, 670, 671, 672, 517, 1170, 1171, 1172, 996, 997, 998, 999, 1000, 995, 1001, 1002, 1003, 929, 1173, 1174, 1175, 673, 674, 675, 676, 677, 678, 1176, 1177, 1178, 1004, 1005, 1006, 1007, 1008, 1009, 1179, 1180, 1181, 679, 680, 681, 682, 519, 1182, 1183, 1184, 925, 926, 927, 928, 921, 1185, 1186, 1187, 683, 684, 685, 686, 531, 1188, 1189, 1190, 1014, 1011, 1015, 1016, 1017, 1010, 1012, 1013, 1191, 1192, 1193, 687, 688, 689, 690, 532, 1194, 1195, 1196, 1018, 1197, 1198, 1199, 691, 692, 693, 1200, 1201, 1202, 1019, 1203, 1204, 1205, 694, 695, 696, 697, 698, 699, 700, 379, 380, 381, 382, 386, 387, 388, 389, 701, 702, 703, 704, 1206, 1207, 1208, 1030, 1021, 1031, 1032, 1033, 1020, 1022, 1023, 1024, 1025, 1026, 1027, 1028, 1029, 1209, 1210, 1211, 705, 1212, 1213, 1214, 1034, 1035, 1036, 1037, 1038, 1215, 1216, 1217, 706, 707, 708, 709, 710, 1218, 1219, 1220, 1039, 1040, 1041, 1042, 1221, 1222, 1223, 711, 1224, 1225, 1226, 1043, 1227, 1228, 1229, 712, 1230, 1231, 1232, 1044, 1233, 1234, 1235, 713, 714, 715, 716, 520, 1236, 1237, 1238, 1045, 1239, 1240, 1241, 717, 718, 719, 720, 721, 722, 723, 724, 725, 726, 727, 728, 1242, 1243, 1244, 1047, 1048, 1049, 1050, 1051, 1052, 1053, 1046, 1245, 1246, 1247, 729, 1248, 1249, 1250, 1054, 1055, 1251, 1252, 1253, 1254, 1255, 1256, 1257, 1258, 1259, 1260, 1261, 730, 731, 732, 733, 734, 735, 736, 19, 737, 22, 23, 74, 75, 13, 14, 15, 16, 18, 21, 23, 24, 25, 77, 78, 79, 80, 81, 737, 82, 738, 108, 397, 71, 72, 73, 73, 398, 71, 399, 400, 100, 101, 102, 103, 104, 105, 106, 107, 109, 110, 111, 65, 66, 112, 402, 403, 404, 738, 405, 739, 64, 407, 65, 408, 409, 56, 57, 58, 59, 60, 61, 62, 63, 411, 412, 413, 414, 739, 415, 740, 741, 742, 743, 395, 396, 396, 406, 406, 743, 744, 745, 67, 68, 69, 70, 746, 747, 748, 749, 750, 311, 312, 313, 314, 315, 740, 751, 1262, 1263, 1264, 1082, 1063, 1057, 1068, 1069, 1070, 1056, 1064, 1065, 1066, 1058, 1059, 1060, 1061, 1062, 1071, 1072, 1073, 1067, 1074, 1075, 1076, 1077, 1079, 1080, 1081, 1078, 1265, 1266, 1267, 752, 1268, 1269, 1270, 1083, 1271, 1272, 1273, 753, 754, 1274, 1275, 1276, 1084, 1277, 1278, 1279, 755, 1280, 1281, 1282, 1085, 1283, 1284, 1285, 756, 757, 758, 759, 760, 761, 1286, 1287, 1288, 1086, 1289, 1290, 1291, 762, 1292, 1293, 1294, 1087, 1295, 1296, 1297, 763, 1298, 1299, 1300, 1088, 1301, 1302, 1303, 764, 765, 766, 767, 768, 373, 374, 375, 377, 378, 390, 391, 392, 393, 1304, 1305, 1306, 1307, 1090, 1308, 1309, 1310, 769, 1311, 1312, 1313, 1089, 1314, 1315, 1316, 770, 1317, 1318, 1319, 1091, 1320, 1321, 1322, 771, 1323, 1324, 1325, 1092, 1326, 1327, 1328, 772, 773, 774, 775, 518, 776, 777, 778, 779, 1329, 1330, 1331, 1093, 1332, 1333, 1334, 780, 1335, 1336, 1337, 1094, 575, 576, 577, 578, 579, 580, 581, 582, 583, 584, 585, 800, 801, 802, 803, 804, 805, 806, 807, 808, 809, 810, 811, 812, 813, 814, 815, 816, 817, 818, 819, 820, 821, 822, 823, 824, 825, 362, 363, 364, 365, 366, 367, 368, 369, 370, 371, 372, 26, 27, 28, 29, 351, 352, 353, 354, 355, 356, 357, 358, 359, 360, 361, 142, 143, 144, 145, 146, 147, 148, 149, 150, 151, 152, 153, 154, 155]
set_option maxRecDepth 20000 in
theorem ge_L_law : wsL_law = gc_L_law.map gw := rfl
def gc_X11_seed : List Nat := [1254, 538, 575, 576, 577, 578, 579, 580, 581, 582, 583, 584, 585, 362, 363, 364, 365, 366, 367, 368, 369, 370, 371, 372]
set_option maxRecDepth 20000 in
theorem ge_X11_seed : wsX11_seed = gc_X11_seed.map gw := rfl
def gc_X12_seed : List Nat := [1258, 783, 800, 801, 802, 803, 804, 805, 806, 807, 808, 809, 810, 811, 812, 813, 814, 815, 816, 817, 818, 819, 820, 821, 822, 823, 824, 825]
set_option maxRecDepth 20000 in
theorem ge_X12_seed : wsX12_seed = gc_X12_seed.map gw := rfl
def gc_X12_image : List Nat := [1307, 784, 783, 1090, 800, 801, 802, 803, 804, 805, 806, 807, 808, 809, 810, 811, 812, 813, 814, 815, 816, 817, 818, 819, 820, 821, 822, 823, 824, 825]
set_option maxRecDepth 20000 in
theorem ge_X12_image : wsX12_image = gc_X12_image.map gw := rfl
