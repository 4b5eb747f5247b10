set_option maxRecDepth 20000 in
theorem ggX11_best_X11_within : GoodIn wsX11_best wsX11_within := goodIn_r _ [9] (by decide +kernel) (by decide +kernel)
set_option maxRecDepth 20000 in
theorem gX11_best_X11_within : GoodIn wsX11_best (va_wsS RX11 78 yX11_within wsX11_within) := goodIn_app (goodIn_of _ (by decide +kernel)) ggX11_best_X11_within
set_option maxRecDepth 20000 in
theorem ggX11_best_X11_error : GoodIn wsX11_best wsX11_error := goodIn_r _ [13, 14, 15, 7, 8, 5, 9, 232, 233, 234, 235, 236, 237, 238, 239, 240, 241, 242] (by decide +kernel) (by decide +kernel)
set_option maxRecDepth 20000 in
theorem gX11_best_X11_error : GoodIn wsX11_best (wsV RX11 82 RX11 yX11_error wsX11_error) := goodIn_app (goodIn_of _ (by decide +kernel)) ggX11_best_X11_error
set_option maxRecDepth 20000 in
theorem ggX11_best_X11_kindOf : GoodIn wsX11_best wsX11_kindOf := goodIn_r _ [19, 1, 2, 3, 4, 5, 6, 7, 8, 9, 20, 21, 22, 23, 24, 232, 233, 234, 235, 236, 237, 238, 239, 240, 241, 242, 243, 244, 245, 246, 247, 248, 249, 250, 251, 252, 253] (by decide +kernel) (by decide +kernel)
set_option maxRecDepth 20000 in
theorem gX11_best_X11_kindOf : GoodIn wsX11_best (wsV RX11 145 RX11 yX11_kindOf wsX11_kindOf) := goodIn_app (goodIn_of _ (by decide +kernel)) ggX11_best_X11_kindOf
set_option maxRecDepth 20000 in
theorem ggX11_best_X11_bestFrom : GoodIn wsX11_best wsX11_bestFrom := goodIn_r _ [28, 29, 30, 1, 31, 32, 33, 34, 35, 36, 37, 38, 39, 40, 41, 42, 43, 44, 45, 46, 47, 48, 49, 50, 51, 52, 53, 54, 55, 56, 57, 58, 59, 60, 61, 62, 63, 64, 65, 66, 67, 68, 69, 70, 71, 72, 73, 74, 75, 76, 77, 78, 79, 80, 81, 82, 83, 84, 85, 86, 87, 88, 89, 90, 91, 92, 93, 94, 95, 96, 97, 98, 99, 100, 101, 102, 103, 104, 105, 106, 107, 108, 109, 110, 111, 112, 113, 114, 115, 116, 117, 118, 119, 120, 121, 122, 123, 124, 125, 126, 127, 128, 129, 130, 131, 132, 133, 134, 135, 136, 137, 138, 139, 140, 141, 142, 143, 144, 145, 146, 147, 148, 149, 150, 151, 152, 153, 154, 8, 5, 9, 155, 156, 157, 158, 159, 160, 161, 162, 163, 164, 165, 166, 167, 168, 169, 170, 171, 172, 173, 174, 175, 176, 177, 178, 179, 180, 181, 182, 183, 184, 185, 186, 187, 188, 189, 190, 191, 192, 193, 194, 195, 196, 197, 198, 199, 200, 201, 202, 203, 204, 205, 206, 207, 208, 209, 210, 211, 212, 213, 214, 215, 216, 217, 218, 219, 220, 221, 222, 223, 224, 7, 225, 226, 227, 228, 232, 233, 234, 235, 236, 237, 238, 239, 240, 241, 242, 243, 244, 245, 246, 247, 248, 249, 250, 251, 252, 253, 254, 255, 256, 257, 258, 259, 260, 261, 262, 263, 264, 265, 266, 267, 268, 269, 270, 271, 272, 273, 274, 275, 276, 277, 278] (by decide +kernel) (by decide +kernel)
set_option maxRecDepth 20000 in
theorem gX11_best_X11_bestFrom : GoodIn wsX11_best (wsV RX11 226 RX11 yX11_bestFrom wsX11_bestFrom) := goodIn_app (goodIn_of _ (by decide +kernel)) ggX11_best_X11_bestFrom
set_option maxRecDepth 20000 in
theorem ggX11_best_X11_partOfBest : GoodIn wsX11_best wsX11_partOfBest := goodIn_r _ [231] (by decide +kernel) (by decide +kernel)
set_option maxRecDepth 20000 in
theorem gX11_best_X11_partOfBest : GoodIn wsX11_best (va_wsS RX11 230 yX11_partOfBest wsX11_partOfBest) := goodIn_app (goodIn_of _ (by decide +kernel)) ggX11_best_X11_partOfBest
set_option maxRecDepth 20000 in
theorem ggX11_bestTwo_X11_isTool : GoodIn wsX11_bestTwo wsX11_isTool := goodIn_r _ [12, 1, 13, 14, 11, 15, 233, 234, 235, 236, 237, 238, 239, 240, 241, 242, 243, 244, 245, 246, 247, 248, 249, 250, 251, 252, 253, 254] (by decide +kernel) (by decide +kernel)
set_option maxRecDepth 20000 in
theorem gX11_bestTwo_X11_isTool : GoodIn wsX11_bestTwo (wsV RX11 142 RX11 yX11_isTool wsX11_isTool) := goodIn_app (goodIn_of _ (by decide +kernel)) ggX11_bestTwo_X11_isTool
set_option maxRecDepth 20000 in
theorem ggX11_bestTwo_X11_within : GoodIn wsX11_bestTwo wsX11_within := goodIn_r _ [15] (by decide +kernel) (by decide +kernel)
set_option maxRecDepth 20000 in
theorem gX11_bestTwo_X11_within : GoodIn wsX11_bestTwo (va_wsS RX11 78 yX11_within wsX11_within) := goodIn_app (goodIn_of _ (by decide +kernel)) ggX11_bestTwo_X11_within
set_option maxRecDepth 20000 in
theorem ggX11_bestTwo_X11_error : GoodIn wsX11_bestTwo wsX11_error := goodIn_r _ [19, 20, 21, 13, 14, 11, 15, 233, 234, 235, 236, 237, 238, 239, 240, 241, 242, 243] (by decide +kernel) (by decide +kernel)
set_option maxRecDepth 20000 in
theorem gX11_bestTwo_X11_error : GoodIn wsX11_bestTwo (wsV RX11 82 RX11 yX11_error wsX11_error) := goodIn_app (goodIn_of _ (by decide +kernel)) ggX11_bestTwo_X11_error
set_option maxRecDepth 20000 in
theorem ggX11_bestTwo_X11_kindOf : GoodIn wsX11_bestTwo wsX11_kindOf := goodIn_r _ [25, 1, 8, 9, 10, 11, 12, 13, 14, 15, 26, 27, 28, 29, 30, 233, 234, 235, 236, 237, 238, 239, 240, 241, 242, 243, 244, 245, 246, 247, 248, 249, 250, 251, 252, 253, 254] (by decide +kernel) (by decide +kernel)
set_option maxRecDepth 20000 in
theorem gX11_bestTwo_X11_kindOf : GoodIn wsX11_bestTwo (wsV RX11 145 RX11 yX11_kindOf wsX11_kindOf) := goodIn_app (goodIn_of _ (by decide +kernel)) ggX11_bestTwo_X11_kindOf
set_option maxRecDepth 20000 in
theorem ggX11_bestTwo_X10_cells : GoodIn wsX11_bestTwo wsX10_cells := goodIn_r _ [35, 36, 37, 255, 256, 257, 258, 259, 260, 261, 262, 263, 264, 265] (by decide +kernel) (by decide +kernel)
set_option maxRecDepth 20000 in
theorem gX11_bestTwo_X10_cells : GoodIn wsX11_bestTwo (wsV RX11 93 RX10 yX10_cells wsX10_cells) := goodIn_app (goodIn_of _ (by decide +kernel)) ggX11_bestTwo_X10_cells
set_option maxRecDepth 20000 in
theorem ggX11_bestTwo_X10_copy : GoodIn wsX11_bestTwo wsX10_copy := goodIn_r _ [41, 36, 37, 42, 43, 44, 45, 46, 47, 48, 49, 50, 51, 52, 53, 34, 54, 55, 255, 256, 257, 258, 259, 260, 261, 262, 263, 264, 265] (by decide +kernel) (by decide +kernel)
set_option maxRecDepth 20000 in
theorem gX11_bestTwo_X10_copy : GoodIn wsX11_bestTwo (wsV RX11 236 RX10 yX10_copy wsX10_copy) := goodIn_app (goodIn_of _ (by decide +kernel)) ggX11_bestTwo_X10_copy
set_option maxRecDepth 20000 in
theorem ggX11_bestTwo_X10_strike : GoodIn wsX11_bestTwo wsX10_strike := goodIn_r _ [59, 55, 60, 5, 6, 7, 61, 48, 42, 62, 63, 64, 34, 65, 36, 37, 66, 67, 68, 69, 70, 71, 72, 73, 74, 75, 76, 77, 78, 79, 80, 81, 82, 83, 84, 85, 86, 87, 88, 89, 49, 90, 91, 92, 93, 94, 95, 96, 97, 98, 99, 100, 101, 102, 103, 104, 105, 106, 107, 108, 109, 110, 111, 112, 113, 114, 115, 116, 117, 118, 119, 120, 121, 122, 123, 124, 125, 126, 127, 128, 129, 130, 131, 132, 133, 134, 135, 136, 137, 138, 139, 140, 141, 142, 143, 144, 145, 146, 147, 148, 149, 14, 11, 15, 150, 151, 152, 153, 154, 155, 156, 157, 158, 159, 160, 161, 162, 163, 164, 165, 166, 167, 168, 169, 170, 171, 172, 173, 174, 175, 176, 177, 178, 179, 180, 181, 182, 183, 184, 185, 186, 187, 188, 189, 190, 191, 192, 193, 194, 195, 196, 197, 198, 199, 200, 201, 202, 203, 204, 205, 206, 207, 208, 209, 210, 211, 212, 213, 214, 215, 216, 217, 47, 218, 219, 13, 255, 256, 257, 258, 259, 260, 261, 262, 263, 264, 265, 266, 267, 268, 269, 270, 271, 272, 273, 274, 275, 276, 277, 278, 279] (by decide +kernel) (by decide +kernel)
set_option maxRecDepth 20000 in
theorem gX11_bestTwo_X10_strike : GoodIn wsX11_bestTwo (wsV RX11 194 RX10 yX10_strike wsX10_strike) := goodIn_app (goodIn_of _ (by decide +kernel)) ggX11_bestTwo_X10_strike
set_option maxRecDepth 20000 in
theorem ggX11_bestTwo_X11_bestFrom : GoodIn wsX11_bestTwo wsX11_bestFrom := goodIn_r _ [223, 2, 224, 1, 4, 5, 6, 7, 31, 32, 33, 34, 35, 36, 37, 38, 39, 40, 41, 42, 43, 44, 45, 46, 47, 48, 49, 50, 51, 52, 53, 54, 55, 225, 56, 57, 58, 59, 60, 61, 62, 63, 64, 65, 66, 67, 68, 69, 70, 71, 72, 73, 74, 75, 76, 77, 78, 79, 80, 81, 82, 83, 84, 85, 86, 87, 88, 89, 90, 91, 92, 93, 94, 95, 96, 97, 98, 99, 100, 101, 102, 103, 104, 105, 106, 107, 108, 109, 110, 111, 112, 113, 114, 115, 116, 117, 118, 119, 120, 121, 122, 123, 124, 125, 126, 127, 128, 129, 130, 131, 132, 133, 134, 135, 136, 137, 138, 139, 140, 141, 142, 143, 144, 145, 146, 147, 148, 149, 14, 11, 15, 150, 151, 152, 153, 154, 155, 156, 157, 158, 159, 160, 161, 162, 163, 164, 165, 166, 167, 168, 169, 170, 171, 172, 173, 174, 175, 176, 177, 178, 179, 180, 181, 182, 183, 184, 185, 186, 187, 188, 189, 190, 191, 192, 193, 194, 195, 196, 197, 198, 199, 200, 201, 202, 203, 204, 205, 206, 207, 208, 209, 210, 211, 212, 213, 214, 215, 216, 217, 218, 219, 13, 226, 227, 228, 229, 233, 234, 235, 236, 237, 238, 239, 240, 241, 242, 243, 244, 245, 246, 247, 248, 249, 250, 251, 252, 253, 254, 255, 256, 257, 258, 259, 260, 261, 262, 263, 264, 265, 266, 267, 268, 269, 270, 271, 272, 273, 274, 275, 276, 277, 278, 279] (by decide +kernel) (by decide +kernel)
set_option maxRecDepth 20000 in
theorem gX11_bestTwo_X11_bestFrom : GoodIn wsX11_bestTwo (wsV RX11 226 RX11 yX11_bestFrom wsX11_bestFrom) := goodIn_app (goodIn_of _ (by decide +kernel)) ggX11_bestTwo_X11_bestFrom
set_option maxRecDepth 20000 in
theorem ggX11_bestTwo_X11_partOfBest : GoodIn wsX11_bestTwo wsX11_partOfBest := goodIn_r _ [232] (by decide +kernel) (by decide +kernel)
set_option maxRecDepth 20000 in
theorem gX11_bestTwo_X11_partOfBest : GoodIn wsX11_bestTwo (va_wsS RX11 230 yX11_partOfBest wsX11_partOfBest) := goodIn_app (goodIn_of _ (by decide +kernel)) ggX11_bestTwo_X11_partOfBest
set_option maxRecDepth 20000 in
theorem ggX11_goneBy_X11_isCell : GoodIn wsX11_goneBy wsX11_isCell := goodIn_r _ [6, 1, 7, 8, 9, 10, 11, 12, 13, 30, 31, 32, 33, 34, 35, 36, 37, 38, 39, 40, 41, 42, 43, 44, 45, 46, 47, 48, 49, 50, 51, 52, 53, 54, 55, 56, 57, 58, 59, 60, 61, 62] (by decide +kernel) (by decide +kernel)
set_option maxRecDepth 20000 in
theorem gX11_goneBy_X11_isCell : GoodIn wsX11_goneBy (wsV RX11 97 RX11 yX11_isCell wsX11_isCell) := goodIn_app (goodIn_of _ (by decide +kernel)) ggX11_goneBy_X11_isCell
set_option maxRecDepth 20000 in
theorem ggX11_goneBy_X11_error : GoodIn wsX11_goneBy wsX11_error := goodIn_r _ [17, 18, 19, 20, 21, 5, 22, 30, 31, 32, 33, 34, 35, 36, 37, 38, 39, 40] (by decide +kernel) (by decide +kernel)
set_option maxRecDepth 20000 in
theorem gX11_goneBy_X11_error : GoodIn wsX11_goneBy (wsV RX11 82 RX11 yX11_error wsX11_error) := goodIn_app (goodIn_of _ (by decide +kernel)) ggX11_goneBy_X11_error
set_option maxRecDepth 20000 in
theorem ggX11_goneBy_X11_nightsToGo : GoodIn wsX11_goneBy wsX11_nightsToGo := goodIn_r _ [25, 26, 27, 28, 29] (by decide +kernel) (by decide +kernel)
set_option maxRecDepth 20000 in
theorem gX11_goneBy_X11_nightsToGo : GoodIn wsX11_goneBy (va_wsS RX11 240 yX11_nightsToGo wsX11_nightsToGo) := goodIn_app (goodIn_of _ (by decide +kernel)) ggX11_goneBy_X11_nightsToGo
set_option maxRecDepth 20000 in
theorem ggX11_never_X10_cells : GoodIn wsX11_never wsX10_cells := goodIn_r _ [6, 7, 8, 39, 40, 41, 42, 43, 44, 45, 46, 47, 48, 49] (by decide +kernel) (by decide +kernel)
set_option maxRecDepth 20000 in
theorem gX11_never_X10_cells : GoodIn wsX11_never (wsV RX11 93 RX10 yX10_cells wsX10_cells) := goodIn_app (goodIn_of _ (by decide +kernel)) ggX11_never_X10_cells
set_option maxRecDepth 20000 in
theorem ggX11_never_X11_nightsToGo : GoodIn wsX11_never wsX11_nightsToGo := goodIn_r _ [12, 13, 14, 15, 16] (by decide +kernel) (by decide +kernel)
set_option maxRecDepth 20000 in
theorem gX11_never_X11_nightsToGo : GoodIn wsX11_never (va_wsS RX11 240 yX11_nightsToGo wsX11_nightsToGo) := goodIn_app (goodIn_of _ (by decide +kernel)) ggX11_never_X11_nightsToGo
set_option maxRecDepth 20000 in
theorem ggX11_needs_X11_isCell : GoodIn wsX11_needs wsX11_isCell := goodIn_r _ [6, 1, 7, 8, 9, 10, 11, 12, 13, 30, 31, 32, 33, 34, 35, 36, 37, 38, 39, 40, 41, 42, 43, 44, 45, 46, 47, 48, 49, 50, 51, 52, 53, 54, 55, 56, 57, 58, 59, 60, 61, 62] (by decide +kernel) (by decide +kernel)
set_option maxRecDepth 20000 in
theorem gX11_needs_X11_isCell : GoodIn wsX11_needs (wsV RX11 97 RX11 yX11_isCell wsX11_isCell) := goodIn_app (goodIn_of _ (by decide +kernel)) ggX11_needs_X11_isCell
set_option maxRecDepth 20000 in
theorem ggX11_needs_X11_within : GoodIn wsX11_needs wsX11_within := goodIn_r _ [16] (by decide +kernel) (by decide +kernel)
set_option maxRecDepth 20000 in
theorem gX11_needs_X11_within : GoodIn wsX11_needs (va_wsS RX11 78 yX11_within wsX11_within) := goodIn_app (goodIn_of _ (by decide +kernel)) ggX11_needs_X11_within
set_option maxRecDepth 20000 in
theorem ggX11_needs_X11_error : GoodIn wsX11_needs wsX11_error := goodIn_r _ [20, 21, 22, 14, 15, 5, 16, 30, 31, 32, 33, 34, 35, 36, 37, 38, 39, 40] (by decide +kernel) (by decide +kernel)
set_option maxRecDepth 20000 in
theorem gX11_needs_X11_error : GoodIn wsX11_needs (wsV RX11 82 RX11 yX11_error wsX11_error) := goodIn_app (goodIn_of _ (by decide +kernel)) ggX11_needs_X11_error
set_option maxRecDepth 20000 in
theorem ggX11_needs_X11_nightsToGo : GoodIn wsX11_needs wsX11_nightsToGo := goodIn_r _ [25, 26, 27, 28, 29] (by decide +kernel) (by decide +kernel)
set_option maxRecDepth 20000 in
theorem gX11_needs_X11_nightsToGo : GoodIn wsX11_needs (va_wsS RX11 240 yX11_nightsToGo wsX11_nightsToGo) := goodIn_app (goodIn_of _ (by decide +kernel)) ggX11_needs_X11_nightsToGo
set_option maxRecDepth 20000 in
theorem ggX11_lamp_X11_isWay : GoodIn wsX11_lamp wsX11_isWay := goodIn_r _ [5, 6, 7, 4, 8] (by decide +kernel) (by decide +kernel)
set_option maxRecDepth 20000 in
theorem gX11_lamp_X11_isWay : GoodIn wsX11_lamp (va_wsS RX11 126 yX11_isWay wsX11_isWay) := goodIn_app (goodIn_of _ (by decide +kernel)) ggX11_lamp_X11_isWay
set_option maxRecDepth 20000 in
theorem ggX11_lamp_X11_error : GoodIn wsX11_lamp wsX11_error := goodIn_r _ [12, 13, 14, 6, 7, 4, 8, 47, 48, 49, 50, 51, 52, 53, 54, 55, 56, 57] (by decide +kernel) (by decide +kernel)
set_option maxRecDepth 20000 in
theorem gX11_lamp_X11_error : GoodIn wsX11_lamp (wsV RX11 82 RX11 yX11_error wsX11_error) := goodIn_app (goodIn_of _ (by decide +kernel)) ggX11_lamp_X11_error
set_option maxRecDepth 20000 in
theorem ggX11_lamp_X10_cells : GoodIn wsX11_lamp wsX10_cells := goodIn_r _ [19, 20, 21, 69, 70, 71, 72, 73, 74, 75, 76, 77, 78, 79] (by decide +kernel) (by decide +kernel)
set_option maxRecDepth 20000 in
theorem gX11_lamp_X10_cells : GoodIn wsX11_lamp (wsV RX11 93 RX10 yX10_cells wsX10_cells) := goodIn_app (goodIn_of _ (by decide +kernel)) ggX11_lamp_X10_cells
set_option maxRecDepth 20000 in
theorem ggX11_lamp_X10_isLit : GoodIn wsX11_lamp wsX10_isLit := goodIn_r _ [25, 26, 27, 28, 29, 18, 30, 21, 31, 32, 33, 34, 20, 35, 36, 37, 38, 39, 40, 41, 42, 43, 44, 45, 46, 69, 70, 71, 72, 73, 74, 75, 76, 77, 78, 79] (by decide +kernel) (by decide +kernel)
set_option maxRecDepth 20000 in
theorem gX11_lamp_X10_isLit : GoodIn wsX11_lamp (wsV RX11 243 RX10 yX10_isLit wsX10_isLit) := goodIn_app (goodIn_of _ (by decide +kernel)) ggX11_lamp_X10_isLit
set_option maxRecDepth 20000 in
theorem ggX11_came_X11_isTool : GoodIn wsX11_came wsX11_isTool := goodIn_r _ [7, 2, 8, 9, 6, 10, 235, 236, 237, 238, 239, 240, 241, 242, 243, 244, 245, 246, 247, 248, 249, 250, 251, 252, 253, 254, 255, 256] (by decide +kernel) (by decide +kernel)
set_option maxRecDepth 20000 in
theorem gX11_came_X11_isTool : GoodIn wsX11_came (wsV RX11 142 RX11 yX11_isTool wsX11_isTool) := goodIn_app (goodIn_of _ (by decide +kernel)) ggX11_came_X11_isTool
set_option maxRecDepth 20000 in
theorem ggX11_came_X11_isCell : GoodIn wsX11_came wsX11_isCell := goodIn_r _ [14, 2, 15, 16, 17, 18, 19, 20, 21, 235, 236, 237, 238, 239, 240, 241, 242, 243, 244, 245, 246, 247, 248, 249, 250, 251, 252, 253, 254, 255, 256, 257, 258, 259, 260, 261, 262, 263, 264, 265, 266, 267] (by decide +kernel) (by decide +kernel)
set_option maxRecDepth 20000 in
theorem gX11_came_X11_isCell : GoodIn wsX11_came (wsV RX11 97 RX11 yX11_isCell wsX11_isCell) := goodIn_app (goodIn_of _ (by decide +kernel)) ggX11_came_X11_isCell
set_option maxRecDepth 20000 in
theorem ggX11_came_X11_isWay : GoodIn wsX11_came wsX11_isWay := goodIn_r _ [24, 8, 9, 6, 10] (by decide +kernel) (by decide +kernel)
set_option maxRecDepth 20000 in
theorem gX11_came_X11_isWay : GoodIn wsX11_came (va_wsS RX11 126 yX11_isWay wsX11_isWay) := goodIn_app (goodIn_of _ (by decide +kernel)) ggX11_came_X11_isWay
set_option maxRecDepth 20000 in
theorem ggX11_came_X11_isSheet : GoodIn wsX11_came wsX11_isSheet := goodIn_r _ [27, 8, 9, 6, 10] (by decide +kernel) (by decide +kernel)
set_option maxRecDepth 20000 in
theorem gX11_came_X11_isSheet : GoodIn wsX11_came (va_wsS RX11 247 yX11_isSheet wsX11_isSheet) := goodIn_app (goodIn_of _ (by decide +kernel)) ggX11_came_X11_isSheet
set_option maxRecDepth 20000 in
theorem ggX11_came_X11_error : GoodIn wsX11_came wsX11_error := goodIn_r _ [31, 32, 33, 8, 9, 6, 10, 235, 236, 237, 238, 239, 240, 241, 242, 243, 244, 245] (by decide +kernel) (by decide +kernel)
set_option maxRecDepth 20000 in
theorem gX11_came_X11_error : GoodIn wsX11_came (wsV RX11 82 RX11 yX11_error wsX11_error) := goodIn_app (goodIn_of _ (by decide +kernel)) ggX11_came_X11_error
set_option maxRecDepth 20000 in
theorem ggX11_came_X11_isMissing : GoodIn wsX11_came wsX11_isMissing := goodIn_r _ [37, 38, 235, 236, 237, 238, 239, 240, 241, 242, 243, 244, 245] (by decide +kernel) (by decide +kernel)
set_option maxRecDepth 20000 in
theorem gX11_came_X11_isMissing : GoodIn wsX11_came (wsV RX11 250 RX11 yX11_isMissing wsX11_isMissing) := goodIn_app (goodIn_of _ (by decide +kernel)) ggX11_came_X11_isMissing
set_option maxRecDepth 20000 in
theorem ggX11_came_X10_copy : GoodIn wsX11_came wsX10_copy := goodIn_r _ [42, 20, 21, 43, 44, 45, 46, 47, 48, 49, 50, 51, 52, 53, 54, 18, 55, 56, 257, 258, 259, 260, 261, 262, 263, 264, 265, 266, 267] (by decide +kernel) (by decide +kernel)
set_option maxRecDepth 20000 in
theorem gX11_came_X10_copy : GoodIn wsX11_came (wsV RX11 236 RX10 yX10_copy wsX10_copy) := goodIn_app (goodIn_of _ (by decide +kernel)) ggX11_came_X10_copy
set_option maxRecDepth 20000 in
theorem ggX11_came_X11_kindAt : GoodIn wsX11_came wsX11_kindAt := goodIn_r _ [60, 61, 8, 9, 6, 10, 235, 236, 237, 238, 239, 240, 241, 242, 243, 244, 245] (by decide +kernel) (by decide +kernel)
set_option maxRecDepth 20000 in
theorem gX11_came_X11_kindAt : GoodIn wsX11_came (wsV RX11 253 RX11 yX11_kindAt wsX11_kindAt) := goodIn_app (goodIn_of _ (by decide +kernel)) ggX11_came_X11_kindAt
set_option maxRecDepth 20000 in
theorem ggX11_came_X10_strike : GoodIn wsX11_came wsX10_strike := goodIn_r _ [65, 56, 66, 67, 68, 69, 70, 49, 43, 71, 16, 17, 18, 19, 20, 21, 72, 73, 74, 75, 76, 77, 78, 79, 80, 81, 82, 83, 84, 85, 86, 87, 88, 89, 90, 91, 92, 93, 94, 95, 50, 96, 97, 98, 99, 100, 101, 102, 103, 104, 105, 106, 107, 108, 109, 110, 111, 112, 113, 114, 115, 116, 117, 118, 119, 120, 121, 122, 123, 124, 125, 126, 127, 128, 129, 130, 131, 132, 133, 134, 135, 136, 137, 138, 139, 140, 141, 142, 143, 144, 145, 146, 147, 148, 149, 150, 151, 152, 153, 154, 155, 9, 6, 10, 156, 157, 158, 159, 160, 161, 162, 163, 164, 165, 166, 167, 168, 169, 170, 171, 172, 173, 174, 175, 176, 177, 178, 179, 180, 181, 182, 183, 184, 185, 186, 187, 188, 189, 190, 191, 192, 193, 194, 195, 196, 197, 198, 199, 200, 201, 202, 203, 204, 205, 206, 207, 208, 209, 210, 211, 212, 213, 214, 215, 216, 217, 218, 219, 220, 221, 222, 223, 48, 23, 24, 8, 257, 258, 259, 260, 261, 262, 263, 264, 265, 266, 267, 268, 269, 270, 271, 272, 273, 274, 275, 276, 277, 278, 279, 280, 281] (by decide +kernel) (by decide +kernel)
set_option maxRecDepth 20000 in
theorem gX11_came_X10_strike : GoodIn wsX11_came (wsV RX11 194 RX10 yX10_strike wsX10_strike) := goodIn_app (goodIn_of _ (by decide +kernel)) ggX11_came_X10_strike
set_option maxRecDepth 20000 in
theorem ggX11_came_X11_firstUnlike : GoodIn wsX11_came wsX11_firstUnlike := goodIn_r _ [227, 228, 229, 165, 68, 166, 230, 231, 232, 233, 18, 234, 20, 21, 15, 16, 17, 19, 235, 236, 237, 238, 239, 240, 241, 242, 243, 244, 245, 257, 258, 259, 260, 261, 262, 263, 264, 265, 266, 267] (by decide +kernel) (by decide +kernel)
set_option maxRecDepth 20000 in
theorem gX11_came_X11_firstUnlike : GoodIn wsX11_came (wsV RX11 256 RX11 yX11_firstUnlike wsX11_firstUnlike) := goodIn_app (goodIn_of _ (by decide +kernel)) ggX11_came_X11_firstUnlike
set_option maxRecDepth 20000 in
theorem ggX11_odds_X11_isTool : GoodIn wsX11_odds wsX11_isTool := goodIn_r _ [7, 2, 8, 9, 6, 10, 223, 224, 225, 226, 227, 228, 229, 230, 231, 232, 233, 234, 235, 236, 237, 238, 239, 240, 241, 242, 243, 244] (by decide +kernel) (by decide +kernel)
set_option maxRecDepth 20000 in
theorem gX11_odds_X11_isTool : GoodIn wsX11_odds (wsV RX11 142 RX11 yX11_isTool wsX11_isTool) := goodIn_app (goodIn_of _ (by decide +kernel)) ggX11_odds_X11_isTool
set_option maxRecDepth 20000 in
theorem ggX11_odds_X11_isCell : GoodIn wsX11_odds wsX11_isCell := goodIn_r _ [14, 2, 15, 16, 17, 18, 19, 20, 21, 223, 224, 225, 226, 227, 228, 229, 230, 231, 232, 233, 234, 235, 236, 237, 238, 239, 240, 241, 242, 243, 244, 245, 246, 247, 248, 249, 250, 251, 252, 253, 254, 255] (by decide +kernel) (by decide +kernel)
set_option maxRecDepth 20000 in
theorem gX11_odds_X11_isCell : GoodIn wsX11_odds (wsV RX11 97 RX11 yX11_isCell wsX11_isCell) := goodIn_app (goodIn_of _ (by decide +kernel)) ggX11_odds_X11_isCell
set_option maxRecDepth 20000 in
theorem ggX11_odds_X11_within : GoodIn wsX11_odds wsX11_within := goodIn_r _ [10] (by decide +kernel) (by decide +kernel)
set_option maxRecDepth 20000 in
theorem gX11_odds_X11_within : GoodIn wsX11_odds (va_wsS RX11 78 yX11_within wsX11_within) := goodIn_app (goodIn_of _ (by decide +kernel)) ggX11_odds_X11_within
set_option maxRecDepth 20000 in
theorem ggX11_odds_X11_error : GoodIn wsX11_odds wsX11_error := goodIn_r _ [25, 26, 27, 8, 9, 6, 10, 223, 224, 225, 226, 227, 228, 229, 230, 231, 232, 233] (by decide +kernel) (by decide +kernel)
set_option maxRecDepth 20000 in
theorem gX11_odds_X11_error : GoodIn wsX11_odds (wsV RX11 82 RX11 yX11_error wsX11_error) := goodIn_app (goodIn_of _ (by decide +kernel)) ggX11_odds_X11_error
set_option maxRecDepth 20000 in
theorem ggX11_odds_X10_copy : GoodIn wsX11_odds wsX10_copy := goodIn_r _ [31, 20, 21, 32, 33, 34, 35, 36, 37, 38, 39, 40, 41, 42, 43, 18, 44, 45, 245, 246, 247, 248, 249, 250, 251, 252, 253, 254, 255] (by decide +kernel) (by decide +kernel)
set_option maxRecDepth 20000 in
theorem gX11_odds_X10_copy : GoodIn wsX11_odds (wsV RX11 236 RX10 yX10_copy wsX10_copy) := goodIn_app (goodIn_of _ (by decide +kernel)) ggX11_odds_X10_copy
set_option maxRecDepth 20000 in
theorem ggX11_odds_X11_kindOf : GoodIn wsX11_odds wsX11_kindOf := goodIn_r _ [49, 2, 3, 4, 5, 6, 7, 8, 9, 10, 50, 51, 52, 53, 54, 223, 224, 225, 226, 227, 228, 229, 230, 231, 232, 233, 234, 235, 236, 237, 238, 239, 240, 241, 242, 243, 244] (by decide +kernel) (by decide +kernel)
set_option maxRecDepth 20000 in
theorem gX11_odds_X11_kindOf : GoodIn wsX11_odds (wsV RX11 145 RX11 yX11_kindOf wsX11_kindOf) := goodIn_app (goodIn_of _ (by decide +kernel)) ggX11_odds_X11_kindOf
set_option maxRecDepth 20000 in
theorem ggX11_odds_X10_strike : GoodIn wsX11_odds wsX10_strike := goodIn_r _ [58, 45, 59, 60, 61, 62, 63, 38, 32, 64, 16, 17, 18, 19, 20, 21, 65, 66, 67, 68, 69, 70, 71, 72, 73, 74, 75, 76, 77, 78, 79, 80, 81, 82, 83, 84, 85, 86, 87, 88, 39, 89, 90, 91, 92, 93, 94, 95, 96, 97, 98, 99, 100, 101, 102, 103, 104, 105, 106, 107, 108, 109, 110, 111, 112, 113, 114, 115, 116, 117, 118, 119, 120, 121, 122, 123, 124, 125, 126, 127, 128, 129, 130, 131, 132, 133, 134, 135, 136, 137, 138, 139, 140, 141, 142, 143, 144, 145, 146, 147, 148, 9, 6, 10, 149, 150, 151, 152, 153, 154, 155, 156, 157, 158, 159, 160, 161, 162, 163, 164, 165, 166, 167, 168, 169, 170, 171, 172, 173, 174, 175, 176, 177, 178, 179, 180, 181, 182, 183, 184, 185, 186, 187, 188, 189, 190, 191, 192, 193, 194, 195, 196, 197, 198, 199, 200, 201, 202, 203, 204, 205, 206, 207, 208, 209, 210, 211, 212, 213, 214, 215, 216, 37, 217, 218, 8, 245, 246, 247, 248, 249, 250, 251, 252, 253, 254, 255, 256, 257, 258, 259, 260, 261, 262, 263, 264, 265, 266, 267, 268, 269] (by decide +kernel) (by decide +kernel)
set_option maxRecDepth 20000 in
theorem gX11_odds_X10_strike : GoodIn wsX11_odds (wsV RX11 194 RX10 yX10_strike wsX10_strike) := goodIn_app (goodIn_of _ (by decide +kernel)) ggX11_odds_X10_strike
set_option maxRecDepth 20000 in
theorem ggX11_odds_X10_shownBy : GoodIn wsX11_odds wsX10_shownBy := goodIn_r _ [222, 20, 21, 45, 64, 16, 17, 18, 19, 137, 138, 139, 140, 141, 142, 143, 144, 145, 146, 147, 148, 9, 6, 10, 149, 150, 151, 152, 153, 154, 155, 156, 60, 61, 62, 157, 158, 159, 160, 161, 162, 163, 164, 165, 245, 246, 247, 248, 249, 250, 251, 252, 253, 254, 255, 256, 257, 258, 259, 260, 261, 262, 263, 264, 265, 266, 267, 268, 269] (by decide +kernel) (by decide +kernel)
set_option maxRecDepth 20000 in
theorem gX11_odds_X10_shownBy : GoodIn wsX11_odds (wsV RX11 210 RX10 yX10_shownBy wsX10_shownBy) := goodIn_app (goodIn_of _ (by decide +kernel)) ggX11_odds_X10_shownBy
set_option maxRecDepth 20000 in
theorem ggX11_voice_X11_isTool : GoodIn wsX11_voice wsX11_isTool := goodIn_r _ [7, 2, 8, 9, 6, 10, 146, 147, 148, 149, 150, 151, 152, 153, 154, 155, 156, 157, 158, 159, 160, 161, 162, 163, 164, 165, 166, 167] (by decide +kernel) (by decide +kernel)
set_option maxRecDepth 20000 in
theorem gX11_voice_X11_isTool : GoodIn wsX11_voice (wsV RX11 142 RX11 yX11_isTool wsX11_isTool) := goodIn_app (goodIn_of _ (by decide +kernel)) ggX11_voice_X11_isTool
set_option maxRecDepth 20000 in
theorem ggX11_voice_X11_within : GoodIn wsX11_voice wsX11_within := goodIn_r _ [10] (by decide +kernel) (by decide +kernel)
set_option maxRecDepth 20000 in
theorem gX11_voice_X11_within : GoodIn wsX11_voice (va_wsS RX11 78 yX11_within wsX11_within) := goodIn_app (goodIn_of _ (by decide +kernel)) ggX11_voice_X11_within
set_option maxRecDepth 20000 in
theorem ggX11_voice_X11_error : GoodIn wsX11_voice wsX11_error := goodIn_r _ [14, 15, 16, 8, 9, 6, 10, 146, 147, 148, 149, 150, 151, 152, 153, 154, 155, 156] (by decide +kernel) (by decide +kernel)
set_option maxRecDepth 20000 in
theorem gX11_voice_X11_error : GoodIn wsX11_voice (wsV RX11 82 RX11 yX11_error wsX11_error) := goodIn_app (goodIn_of _ (by decide +kernel)) ggX11_voice_X11_error
set_option maxRecDepth 20000 in
theorem ggX11_voice_X9_start : GoodIn wsX11_voice wsX9_start := goodIn_r _ [21, 22, 23, 24, 168, 169, 170, 171] (by decide +kernel) (by decide +kernel)
set_option maxRecDepth 20000 in
theorem gX11_voice_X9_start : GoodIn wsX11_voice (wsV RX11 263 RX9 yX9_start wsX9_start) := goodIn_app (goodIn_of _ (by decide +kernel)) ggX11_voice_X9_start
set_option maxRecDepth 20000 in
theorem ggX11_voice_X11_kindOf : GoodIn wsX11_voice wsX11_kindOf := goodIn_r _ [28, 2, 3, 4, 5, 6, 7, 8, 9, 10, 29, 30, 31, 32, 33, 146, 147, 148, 149, 150, 151, 152, 153, 154, 155, 156, 157, 158, 159, 160, 161, 162, 163, 164, 165, 166, 167] (by decide +kernel) (by decide +kernel)
set_option maxRecDepth 20000 in
theorem gX11_voice_X11_kindOf : GoodIn wsX11_voice (wsV RX11 145 RX11 yX11_kindOf wsX11_kindOf) := goodIn_app (goodIn_of _ (by decide +kernel)) ggX11_voice_X11_kindOf
set_option maxRecDepth 20000 in
theorem ggX11_voice_X0_sayMoves : GoodIn wsX11_voice wsX0_sayMoves := goodIn_r _ [40, 41, 42, 43, 20, 44, 24, 45, 46, 35, 47, 48, 49, 50, 51, 168, 169, 170, 171] (by decide +kernel) (by decide +kernel)
set_option maxRecDepth 20000 in
theorem gX11_voice_X0_sayMoves_u266X0 : GoodIn wsX11_voice (va_wsO RX11 266 RX0 "PaperBubbles$Tool" ⟨"PaperBubbles$Tool", "sayMoves", "(ILPaperBubbles$Voice;)I"⟩ yX0_sayMoves wsX0_sayMoves) := goodIn_app (goodIn_of _ (by decide +kernel)) ggX11_voice_X0_sayMoves
set_option maxRecDepth 20000 in
theorem ggX11_voice_X8_sayMoves : GoodIn wsX11_voice wsX8_sayMoves := goodIn_r _ [50, 51, 42, 43, 20, 44, 24, 45, 168, 169, 170, 171] (by decide +kernel) (by decide +kernel)
set_option maxRecDepth 20000 in
theorem gX11_voice_X8_sayMoves_u266X1 : GoodIn wsX11_voice (va_wsU RX11 266 RX1 "PaperBubbles$Tool" ⟨"PaperBubbles$Tool", "sayMoves", "(ILPaperBubbles$Voice;)I"⟩ yX8_sayMoves wsX8_sayMoves) := goodIn_app (goodIn_of _ (by decide +kernel)) ggX11_voice_X8_sayMoves
set_option maxRecDepth 20000 in
theorem gX11_voice_X8_sayMoves_u266X2 : GoodIn wsX11_voice (va_wsU RX11 266 RX2 "PaperBubbles$Tool" ⟨"PaperBubbles$Tool", "sayMoves", "(ILPaperBubbles$Voice;)I"⟩ yX8_sayMoves wsX8_sayMoves) := goodIn_app (goodIn_of _ (by decide +kernel)) ggX11_voice_X8_sayMoves
set_option maxRecDepth 20000 in
theorem gX11_voice_X8_sayMoves_u266X4 : GoodIn wsX11_voice (va_wsU RX11 266 RX4 "PaperBubbles$Tool" ⟨"PaperBubbles$Tool", "sayMoves", "(ILPaperBubbles$Voice;)I"⟩ yX8_sayMoves wsX8_sayMoves) := goodIn_app (goodIn_of _ (by decide +kernel)) ggX11_voice_X8_sayMoves
set_option maxRecDepth 20000 in
theorem gX11_voice_X8_sayMoves_u266X5 : GoodIn wsX11_voice (va_wsU RX11 266 RX5 "PaperBubbles$Tool" ⟨"PaperBubbles$Tool", "sayMoves", "(ILPaperBubbles$Voice;)I"⟩ yX8_sayMoves wsX8_sayMoves) := goodIn_app (goodIn_of _ (by decide +kernel)) ggX11_voice_X8_sayMoves
set_option maxRecDepth 20000 in
theorem gX11_voice_X0_sayMoves_u266X6 : GoodIn wsX11_voice (va_wsO RX11 266 RX6 "PaperBubbles$Tool" ⟨"PaperBubbles$Tool", "sayMoves", "(ILPaperBubbles$Voice;)I"⟩ yX0_sayMoves wsX0_sayMoves) := goodIn_app (goodIn_of _ (by decide +kernel)) ggX11_voice_X0_sayMoves
set_option maxRecDepth 20000 in
theorem gX11_voice_X8_sayMoves : GoodIn wsX11_voice (wsV RX11 266 RX8 yX8_sayMoves wsX8_sayMoves) := goodIn_app (goodIn_of _ (by decide +kernel)) ggX11_voice_X8_sayMoves
set_option maxRecDepth 20000 in
theorem ggX11_voice_X8_sayLets : GoodIn wsX11_voice wsX8_sayLets := goodIn_r _ [63, 51, 42, 43, 20, 44, 24, 45, 64, 35, 36, 37, 38, 39, 40, 41, 46, 47, 48, 49, 50, 52, 53, 54, 55, 56, 65, 58, 168, 169, 170, 171] (by decide +kernel) (by decide +kernel)
set_option maxRecDepth 20000 in
theorem gX11_voice_X8_sayLets_u270X0 : GoodIn wsX11_voice (va_wsU RX11 270 RX0 "PaperBubbles$Tool" ⟨"PaperBubbles$Tool", "sayLets", "(ILPaperBubbles$Voice;)I"⟩ yX8_sayLets wsX8_sayLets) := goodIn_app (goodIn_of _ (by decide +kernel)) ggX11_voice_X8_sayLets
set_option maxRecDepth 20000 in
theorem gX11_voice_X8_sayLets_u270X1 : GoodIn wsX11_voice (va_wsU RX11 270 RX1 "PaperBubbles$Tool" ⟨"PaperBubbles$Tool", "sayLets", "(ILPaperBubbles$Voice;)I"⟩ yX8_sayLets wsX8_sayLets) := goodIn_app (goodIn_of _ (by decide +kernel)) ggX11_voice_X8_sayLets
set_option maxRecDepth 20000 in
theorem ggX11_voice_X2_sayLets : GoodIn wsX11_voice wsX2_sayLets := goodIn_r _ [71, 72, 42, 43, 20, 44, 24, 45, 73, 74, 75, 76, 77, 78, 79, 80, 60, 81, 62, 49, 63, 51, 64, 35, 36, 37, 38, 39, 40, 41, 46, 47, 48, 50, 52, 53, 54, 55, 56, 65, 58, 82, 83, 84, 85, 86, 87, 168, 169, 170, 171] (by decide +kernel) (by decide +kernel)
set_option maxRecDepth 20000 in
theorem gX11_voice_X2_sayLets_u270X2 : GoodIn wsX11_voice (va_wsO RX11 270 RX2 "PaperBubbles$Tool" ⟨"PaperBubbles$Tool", "sayLets", "(ILPaperBubbles$Voice;)I"⟩ yX2_sayLets wsX2_sayLets) := goodIn_app (goodIn_of _ (by decide +kernel)) ggX11_voice_X2_sayLets
set_option maxRecDepth 20000 in
theorem ggX11_voice_X4_sayLets : GoodIn wsX11_voice wsX4_sayLets := goodIn_r _ [78, 79, 42, 43, 20, 44, 24, 45, 80, 60, 81, 62, 49, 63, 51, 64, 35, 36, 37, 38, 39, 40, 41, 46, 47, 48, 50, 52, 53, 54, 55, 56, 65, 58, 82, 83, 84, 85, 86, 87, 168, 169, 170, 171] (by decide +kernel) (by decide +kernel)
set_option maxRecDepth 20000 in
theorem gX11_voice_X4_sayLets_u270X4 : GoodIn wsX11_voice (va_wsO RX11 270 RX4 "PaperBubbles$Tool" ⟨"PaperBubbles$Tool", "sayLets", "(ILPaperBubbles$Voice;)I"⟩ yX4_sayLets wsX4_sayLets) := goodIn_app (goodIn_of _ (by decide +kernel)) ggX11_voice_X4_sayLets
set_option maxRecDepth 20000 in
theorem gX11_voice_X8_sayLets_u270X5 : GoodIn wsX11_voice (va_wsU RX11 270 RX5 "PaperBubbles$Tool" ⟨"PaperBubbles$Tool", "sayLets", "(ILPaperBubbles$Voice;)I"⟩ yX8_sayLets wsX8_sayLets) := goodIn_app (goodIn_of _ (by decide +kernel)) ggX11_voice_X8_sayLets
set_option maxRecDepth 20000 in
theorem gX11_voice_X8_sayLets_u270X6 : GoodIn wsX11_voice (va_wsU RX11 270 RX6 "PaperBubbles$Tool" ⟨"PaperBubbles$Tool", "sayLets", "(ILPaperBubbles$Voice;)I"⟩ yX8_sayLets wsX8_sayLets) := goodIn_app (goodIn_of _ (by decide +kernel)) ggX11_voice_X8_sayLets
set_option maxRecDepth 20000 in
theorem gX11_voice_X8_sayLets : GoodIn wsX11_voice (wsV RX11 270 RX8 yX8_sayLets wsX8_sayLets) := goodIn_app (goodIn_of _ (by decide +kernel)) ggX11_voice_X8_sayLets
set_option maxRecDepth 20000 in
theorem ggX11_voice_X8_sayTears : GoodIn wsX11_voice wsX8_sayTears := goodIn_r _ [86, 51, 42, 43, 20, 44, 24, 45, 168, 169, 170, 171] (by decide +kernel) (by decide +kernel)
set_option maxRecDepth 20000 in
theorem gX11_voice_X8_sayTears_u273X0 : GoodIn wsX11_voice (va_wsU RX11 273 RX0 "PaperBubbles$Tool" ⟨"PaperBubbles$Tool", "sayTears", "(ILPaperBubbles$Voice;)I"⟩ yX8_sayTears wsX8_sayTears) := goodIn_app (goodIn_of _ (by decide +kernel)) ggX11_voice_X8_sayTears
set_option maxRecDepth 20000 in
theorem ggX11_voice_X1_sayTears : GoodIn wsX11_voice wsX1_sayTears := goodIn_r _ [100, 101, 42, 43, 20, 44, 24, 45, 102, 103, 104, 105, 106, 107, 108, 109, 94, 110, 85, 49, 86, 51, 168, 169, 170, 171] (by decide +kernel) (by decide +kernel)
set_option maxRecDepth 20000 in
theorem gX11_voice_X1_sayTears_u273X1 : GoodIn wsX11_voice (va_wsO RX11 273 RX1 "PaperBubbles$Tool" ⟨"PaperBubbles$Tool", "sayTears", "(ILPaperBubbles$Voice;)I"⟩ yX1_sayTears wsX1_sayTears) := goodIn_app (goodIn_of _ (by decide +kernel)) ggX11_voice_X1_sayTears
set_option maxRecDepth 20000 in
theorem gX11_voice_X8_sayTears_u273X2 : GoodIn wsX11_voice (va_wsU RX11 273 RX2 "PaperBubbles$Tool" ⟨"PaperBubbles$Tool", "sayTears", "(ILPaperBubbles$Voice;)I"⟩ yX8_sayTears wsX8_sayTears) := goodIn_app (goodIn_of _ (by decide +kernel)) ggX11_voice_X8_sayTears
set_option maxRecDepth 20000 in
theorem gX11_voice_X8_sayTears_u273X4 : GoodIn wsX11_voice (va_wsU RX11 273 RX4 "PaperBubbles$Tool" ⟨"PaperBubbles$Tool", "sayTears", "(ILPaperBubbles$Voice;)I"⟩ yX8_sayTears wsX8_sayTears) := goodIn_app (goodIn_of _ (by decide +kernel)) ggX11_voice_X8_sayTears
set_option maxRecDepth 20000 in
theorem ggX11_voice_X5_sayTears : GoodIn wsX11_voice wsX5_sayTears := goodIn_r _ [107, 108, 42, 43, 20, 44, 24, 45, 109, 94, 110, 85, 49, 86, 51, 168, 169, 170, 171] (by decide +kernel) (by decide +kernel)
set_option maxRecDepth 20000 in
theorem gX11_voice_X5_sayTears_u273X5 : GoodIn wsX11_voice (va_wsO RX11 273 RX5 "PaperBubbles$Tool" ⟨"PaperBubbles$Tool", "sayTears", "(ILPaperBubbles$Voice;)I"⟩ yX5_sayTears wsX5_sayTears) := goodIn_app (goodIn_of _ (by decide +kernel)) ggX11_voice_X5_sayTears
set_option maxRecDepth 20000 in
theorem gX11_voice_X8_sayTears_u273X6 : GoodIn wsX11_voice (va_wsU RX11 273 RX6 "PaperBubbles$Tool" ⟨"PaperBubbles$Tool", "sayTears", "(ILPaperBubbles$Voice;)I"⟩ yX8_sayTears wsX8_sayTears) := goodIn_app (goodIn_of _ (by decide +kernel)) ggX11_voice_X8_sayTears
set_option maxRecDepth 20000 in
theorem gX11_voice_X8_sayTears : GoodIn wsX11_voice (wsV RX11 273 RX8 yX8_sayTears wsX8_sayTears) := goodIn_app (goodIn_of _ (by decide +kernel)) ggX11_voice_X8_sayTears
set_option maxRecDepth 20000 in
theorem ggX11_voice_X8_sayTells : GoodIn wsX11_voice wsX8_sayTells := goodIn_r _ [121, 51, 42, 43, 20, 44, 24, 45, 122, 60, 61, 62, 49, 63, 64, 35, 36, 37, 38, 39, 40, 41, 46, 47, 48, 50, 52, 53, 54, 55, 56, 65, 58, 66, 67, 68, 69, 70, 71, 72, 73, 74, 75, 76, 77, 78, 79, 80, 81, 82, 83, 84, 85, 86, 87, 88, 89, 90, 123, 92, 124, 94, 95, 96, 97, 98, 99, 100, 101, 102, 103, 104, 105, 106, 107, 108, 109, 110, 111, 112, 113, 114, 125, 116, 168, 169, 170, 171] (by decide +kernel) (by decide +kernel)
set_option maxRecDepth 20000 in
theorem gX11_voice_X8_sayTells_u276X0 : GoodIn wsX11_voice (va_wsU RX11 276 RX0 "PaperBubbles$Tool" ⟨"PaperBubbles$Tool", "sayTells", "(ILPaperBubbles$Voice;)I"⟩ yX8_sayTells wsX8_sayTells) := goodIn_app (goodIn_of _ (by decide +kernel)) ggX11_voice_X8_sayTells
set_option maxRecDepth 20000 in
theorem ggX11_voice_X1_sayTells : GoodIn wsX11_voice wsX1_sayTells := goodIn_r _ [129, 101, 42, 43, 20, 44, 24, 45, 130, 131, 132, 62, 49, 63, 51, 64, 35, 36, 37, 38, 39, 40, 41, 46, 47, 48, 50, 52, 53, 54, 55, 56, 65, 58, 168, 169, 170, 171] (by decide +kernel) (by decide +kernel)
set_option maxRecDepth 20000 in
theorem gX11_voice_X1_sayTells_u276X1 : GoodIn wsX11_voice (va_wsO RX11 276 RX1 "PaperBubbles$Tool" ⟨"PaperBubbles$Tool", "sayTells", "(ILPaperBubbles$Voice;)I"⟩ yX1_sayTells wsX1_sayTells) := goodIn_app (goodIn_of _ (by decide +kernel)) ggX11_voice_X1_sayTells
set_option maxRecDepth 20000 in
theorem gX11_voice_X8_sayTells_u276X2 : GoodIn wsX11_voice (va_wsU RX11 276 RX2 "PaperBubbles$Tool" ⟨"PaperBubbles$Tool", "sayTells", "(ILPaperBubbles$Voice;)I"⟩ yX8_sayTells wsX8_sayTells) := goodIn_app (goodIn_of _ (by decide +kernel)) ggX11_voice_X8_sayTells
set_option maxRecDepth 20000 in
theorem gX11_voice_X8_sayTells_u276X4 : GoodIn wsX11_voice (va_wsU RX11 276 RX4 "PaperBubbles$Tool" ⟨"PaperBubbles$Tool", "sayTells", "(ILPaperBubbles$Voice;)I"⟩ yX8_sayTells wsX8_sayTells) := goodIn_app (goodIn_of _ (by decide +kernel)) ggX11_voice_X8_sayTells
set_option maxRecDepth 20000 in
theorem gX11_voice_X8_sayTells_u276X5 : GoodIn wsX11_voice (va_wsU RX11 276 RX5 "PaperBubbles$Tool" ⟨"PaperBubbles$Tool", "sayTells", "(ILPaperBubbles$Voice;)I"⟩ yX8_sayTells wsX8_sayTells) := goodIn_app (goodIn_of _ (by decide +kernel)) ggX11_voice_X8_sayTells
set_option maxRecDepth 20000 in
theorem ggX11_voice_X6_sayTells : GoodIn wsX11_voice wsX6_sayTells := goodIn_r _ [139, 140, 42, 43, 20, 44, 24, 45, 141, 142, 143, 38, 39, 40, 41, 46, 35, 47, 48, 49, 50, 51, 168, 169, 170, 171] (by decide +kernel) (by decide +kernel)
set_option maxRecDepth 20000 in
theorem gX11_voice_X6_sayTells_u276X6 : GoodIn wsX11_voice (va_wsO RX11 276 RX6 "PaperBubbles$Tool" ⟨"PaperBubbles$Tool", "sayTells", "(ILPaperBubbles$Voice;)I"⟩ yX6_sayTells wsX6_sayTells) := goodIn_app (goodIn_of _ (by decide +kernel)) ggX11_voice_X6_sayTells
set_option maxRecDepth 20000 in
theorem gX11_voice_X8_sayTells : GoodIn wsX11_voice (wsV RX11 276 RX8 yX8_sayTells wsX8_sayTells) := goodIn_app (goodIn_of _ (by decide +kernel)) ggX11_voice_X8_sayTells
set_option maxRecDepth 20000 in
theorem ggX11_trace_X11_within : GoodIn wsX11_trace wsX11_within := goodIn_r _ [5] (by decide +kernel) (by decide +kernel)
set_option maxRecDepth 20000 in
theorem gX11_trace_X11_within : GoodIn wsX11_trace (va_wsS RX11 78 yX11_within wsX11_within) := goodIn_app (goodIn_of _ (by decide +kernel)) ggX11_trace_X11_within
set_option maxRecDepth 20000 in
theorem ggX11_trace_X11_error : GoodIn wsX11_trace wsX11_error := goodIn_r _ [9, 10, 11, 2, 3, 4, 5, 12, 13, 14, 15, 16, 17, 18, 19, 20, 21, 22] (by decide +kernel) (by decide +kernel)
set_option maxRecDepth 20000 in
theorem gX11_trace_X11_error : GoodIn wsX11_trace (wsV RX11 82 RX11 yX11_error wsX11_error) := goodIn_app (goodIn_of _ (by decide +kernel)) ggX11_trace_X11_error
set_option maxRecDepth 20000 in
theorem ggX11_sheet_X11_isSheet : GoodIn wsX11_sheet wsX11_isSheet := goodIn_r _ [7, 8, 9, 6, 10] (by decide +kernel) (by decide +kernel)
set_option maxRecDepth 20000 in
theorem gX11_sheet_X11_isSheet : GoodIn wsX11_sheet (va_wsS RX11 247 yX11_isSheet wsX11_isSheet) := goodIn_app (goodIn_of _ (by decide +kernel)) ggX11_sheet_X11_isSheet
set_option maxRecDepth 20000 in
theorem ggX11_sheet_X11_error : GoodIn wsX11_sheet wsX11_error := goodIn_r _ [14, 15, 16, 8, 9, 6, 10, 21, 22, 23, 24, 25, 26, 27, 28, 29, 30, 31] (by decide +kernel) (by decide +kernel)
set_option maxRecDepth 20000 in
theorem gX11_sheet_X11_error : GoodIn wsX11_sheet (wsV RX11 82 RX11 yX11_error wsX11_error) := goodIn_app (goodIn_of _ (by decide +kernel)) ggX11_sheet_X11_error
set_option maxRecDepth 20000 in
theorem ggX11_sheet_J7_fill_53178 : GoodIn wsX11_sheet wsJ7_fill_53178 := goodIn_r _ [20] (by decide +kernel) (by decide +kernel)
set_option maxRecDepth 20000 in
theorem gX11_sheet_J7_fill_53178 : GoodIn wsX11_sheet (va_wsS RX11 285 yJ7_fill_53178 wsJ7_fill_53178) := goodIn_app (goodIn_of _ (by decide +kernel)) ggX11_sheet_J7_fill_53178
set_option maxRecDepth 20000 in
theorem ggX11_put_X11_isSheet : GoodIn wsX11_put wsX11_isSheet := goodIn_r _ [7, 8, 9, 6, 10] (by decide +kernel) (by decide +kernel)
set_option maxRecDepth 20000 in
theorem gX11_put_X11_isSheet : GoodIn wsX11_put (va_wsS RX11 247 yX11_isSheet wsX11_isSheet) := goodIn_app (goodIn_of _ (by decide +kernel)) ggX11_put_X11_isSheet
set_option maxRecDepth 20000 in
theorem ggX11_put_X11_error : GoodIn wsX11_put wsX11_error := goodIn_r _ [14, 15, 16, 8, 9, 6, 10, 21, 22, 23, 24, 25, 26, 27, 28, 29, 30, 31] (by decide +kernel) (by decide +kernel)
set_option maxRecDepth 20000 in
theorem gX11_put_X11_error : GoodIn wsX11_put (wsV RX11 82 RX11 yX11_error wsX11_error) := goodIn_app (goodIn_of _ (by decide +kernel)) ggX11_put_X11_error
set_option maxRecDepth 20000 in
theorem ggX11_put_X11_isMissing : GoodIn wsX11_put wsX11_isMissing := goodIn_r _ [20, 2, 21, 22, 23, 24, 25, 26, 27, 28, 29, 30, 31] (by decide +kernel) (by decide +kernel)
set_option maxRecDepth 20000 in
theorem gX11_put_X11_isMissing : GoodIn wsX11_put (wsV RX11 250 RX11 yX11_isMissing wsX11_isMissing) := goodIn_app (goodIn_of _ (by decide +kernel)) ggX11_put_X11_isMissing
set_option maxRecDepth 20000 in
theorem ggX11_put_X11_within : GoodIn wsX11_put wsX11_within := goodIn_r _ [10] (by decide +kernel) (by decide +kernel)
set_option maxRecDepth 20000 in
theorem gX11_put_X11_within : GoodIn wsX11_put (va_wsS RX11 78 yX11_within wsX11_within) := goodIn_app (goodIn_of _ (by decide +kernel)) ggX11_put_X11_within
set_option maxRecDepth 20000 in
theorem ggX11_move_X11_isSheet : GoodIn wsX11_move wsX11_isSheet := goodIn_r _ [10, 11, 12, 9, 13] (by decide +kernel) (by decide +kernel)
set_option maxRecDepth 20000 in
theorem gX11_move_X11_isSheet : GoodIn wsX11_move (va_wsS RX11 247 yX11_isSheet wsX11_isSheet) := goodIn_app (goodIn_of _ (by decide +kernel)) ggX11_move_X11_isSheet
set_option maxRecDepth 20000 in
theorem ggX11_move_X11_error : GoodIn wsX11_move wsX11_error := goodIn_r _ [17, 18, 19, 11, 12, 9, 13, 29, 30, 31, 32, 33, 34, 35, 36, 37, 38, 39] (by decide +kernel) (by decide +kernel)
set_option maxRecDepth 20000 in
theorem gX11_move_X11_error : GoodIn wsX11_move (wsV RX11 82 RX11 yX11_error wsX11_error) := goodIn_app (goodIn_of _ (by decide +kernel)) ggX11_move_X11_error
set_option maxRecDepth 20000 in
theorem ggX11_move_X11_isMissing : GoodIn wsX11_move wsX11_isMissing := goodIn_r _ [23, 1, 29, 30, 31, 32, 33, 34, 35, 36, 37, 38, 39] (by decide +kernel) (by decide +kernel)
set_option maxRecDepth 20000 in
theorem gX11_move_X11_isMissing : GoodIn wsX11_move (wsV RX11 250 RX11 yX11_isMissing wsX11_isMissing) := goodIn_app (goodIn_of _ (by decide +kernel)) ggX11_move_X11_isMissing
set_option maxRecDepth 20000 in
theorem ggX11_move_X11_standsOn : GoodIn wsX11_move wsX11_standsOn := goodIn_r _ [27, 28, 29, 30, 31, 32, 33, 34, 35, 36, 37, 38, 39] (by decide +kernel) (by decide +kernel)
set_option maxRecDepth 20000 in
theorem gX11_move_X11_standsOn : GoodIn wsX11_move (wsV RX11 291 RX11 yX11_standsOn wsX11_standsOn) := goodIn_app (goodIn_of _ (by decide +kernel)) ggX11_move_X11_standsOn
set_option maxRecDepth 20000 in
theorem ggX11_airs_X11_isSheet : GoodIn wsX11_airs wsX11_isSheet := goodIn_r _ [11, 12, 13, 10, 14] (by decide +kernel) (by decide +kernel)
set_option maxRecDepth 20000 in
theorem gX11_airs_X11_isSheet : GoodIn wsX11_airs (va_wsS RX11 247 yX11_isSheet wsX11_isSheet) := goodIn_app (goodIn_of _ (by decide +kernel)) ggX11_airs_X11_isSheet
set_option maxRecDepth 20000 in
theorem ggX11_airs_X11_error : GoodIn wsX11_airs wsX11_error := goodIn_r _ [18, 19, 20, 12, 13, 10, 14, 33, 34, 35, 36, 37, 38, 39, 40, 41, 42, 43] (by decide +kernel) (by decide +kernel)
set_option maxRecDepth 20000 in
theorem gX11_airs_X11_error : GoodIn wsX11_airs (wsV RX11 82 RX11 yX11_error wsX11_error) := goodIn_app (goodIn_of _ (by decide +kernel)) ggX11_airs_X11_error
set_option maxRecDepth 20000 in
theorem ggX11_airs_X11_isMissing : GoodIn wsX11_airs wsX11_isMissing := goodIn_r _ [24, 25, 33, 34, 35, 36, 37, 38, 39, 40, 41, 42, 43] (by decide +kernel) (by decide +kernel)
set_option maxRecDepth 20000 in
theorem gX11_airs_X11_isMissing : GoodIn wsX11_airs (wsV RX11 250 RX11 yX11_isMissing wsX11_isMissing) := goodIn_app (goodIn_of _ (by decide +kernel)) ggX11_airs_X11_isMissing
set_option maxRecDepth 20000 in
theorem ggX11_airs_X10_cells : GoodIn wsX11_airs wsX10_cells := goodIn_r _ [30, 31, 32, 55, 56, 57, 58, 59, 60, 61, 62, 63, 64, 65] (by decide +kernel) (by decide +kernel)
set_option maxRecDepth 20000 in
theorem gX11_airs_X10_cells : GoodIn wsX11_airs (wsV RX11 93 RX10 yX10_cells wsX10_cells) := goodIn_app (goodIn_of _ (by decide +kernel)) ggX11_airs_X10_cells
set_option maxRecDepth 20000 in
theorem ggX11_airs_X11_within : GoodIn wsX11_airs wsX11_within := goodIn_r _ [14] (by decide +kernel) (by decide +kernel)
set_option maxRecDepth 20000 in
theorem gX11_airs_X11_within : GoodIn wsX11_airs (va_wsS RX11 78 yX11_within wsX11_within) := goodIn_app (goodIn_of _ (by decide +kernel)) ggX11_airs_X11_within
set_option maxRecDepth 20000 in
theorem ggX11_judge_X11_isSheet : GoodIn wsX11_judge wsX11_isSheet := goodIn_r _ [5, 6, 7, 4, 8] (by decide +kernel) (by decide +kernel)
set_option maxRecDepth 20000 in
theorem gX11_judge_X11_isSheet : GoodIn wsX11_judge (va_wsS RX11 247 yX11_isSheet wsX11_isSheet) := goodIn_app (goodIn_of _ (by decide +kernel)) ggX11_judge_X11_isSheet
set_option maxRecDepth 20000 in
theorem ggX11_judge_X11_error : GoodIn wsX11_judge wsX11_error := goodIn_r _ [12, 13, 14, 6, 7, 4, 8, 41, 42, 43, 44, 45, 46, 47, 48, 49, 50, 51] (by decide +kernel) (by decide +kernel)
set_option maxRecDepth 20000 in
theorem gX11_judge_X11_error : GoodIn wsX11_judge (wsV RX11 82 RX11 yX11_error wsX11_error) := goodIn_app (goodIn_of _ (by decide +kernel)) ggX11_judge_X11_error
set_option maxRecDepth 20000 in
theorem ggX11_judge_X11_isMissing : GoodIn wsX11_judge wsX11_isMissing := goodIn_r _ [18, 19, 41, 42, 43, 44, 45, 46, 47, 48, 49, 50, 51] (by decide +kernel) (by decide +kernel)
set_option maxRecDepth 20000 in
theorem gX11_judge_X11_isMissing : GoodIn wsX11_judge (wsV RX11 250 RX11 yX11_isMissing wsX11_isMissing) := goodIn_app (goodIn_of _ (by decide +kernel)) ggX11_judge_X11_isMissing
set_option maxRecDepth 20000 in
theorem ggX11_judge_X11_firstUnlike : GoodIn wsX11_judge wsX11_firstUnlike := goodIn_r _ [23, 24, 25, 26, 27, 28, 29, 30, 31, 32, 33, 34, 35, 36, 37, 38, 39, 40, 41, 42, 43, 44, 45, 46, 47, 48, 49, 50, 51, 63, 64, 65, 66, 67, 68, 69, 70, 71, 72, 73] (by decide +kernel) (by decide +kernel)
set_option maxRecDepth 20000 in
theorem gX11_judge_X11_firstUnlike : GoodIn wsX11_judge (wsV RX11 256 RX11 yX11_firstUnlike wsX11_firstUnlike) := goodIn_app (goodIn_of _ (by decide +kernel)) ggX11_judge_X11_firstUnlike
set_option maxRecDepth 20000 in
theorem ggX11_image_X7_copy : GoodIn wsX11_image wsX7_copy := goodIn_r _ [8, 9, 10, 11, 12, 13, 14, 15, 16, 17, 18, 19, 20, 21, 22, 23, 24, 25, 26, 27, 28, 29, 30, 31, 32, 33, 34, 35, 36, 37, 38, 39, 40, 41, 42, 43, 44, 45, 46, 47, 48, 49, 50, 62, 63, 64, 65, 66, 67, 68, 69, 70, 71, 72, 73, 74, 75, 76, 77, 78, 79, 80, 81, 82, 83, 84, 85, 86, 87, 88, 89, 90, 91, 92, 93, 94, 95, 96, 97] (by decide +kernel) (by decide +kernel)
set_option maxRecDepth 20000 in
theorem gX11_image_X7_copy : GoodIn wsX11_image (wsV RX11 300 RX7 yX7_copy wsX7_copy) := goodIn_app (goodIn_of _ (by decide +kernel)) ggX11_image_X7_copy
set_option maxRecDepth 20000 in
theorem ggX11_restore_X11_error : GoodIn wsX11_restore wsX11_error := goodIn_r _ [8, 9, 10, 11, 12, 7, 13, 61, 62, 63, 64, 65, 66, 67, 68, 69, 70, 71] (by decide +kernel) (by decide +kernel)
set_option maxRecDepth 20000 in
theorem gX11_restore_X11_error : GoodIn wsX11_restore (wsV RX11 82 RX11 yX11_error wsX11_error) := goodIn_app (goodIn_of _ (by decide +kernel)) ggX11_restore_X11_error
set_option maxRecDepth 20000 in
theorem ggX11_restore_X7_copy : GoodIn wsX11_restore wsX7_copy := goodIn_r _ [18, 19, 20, 21, 22, 23, 24, 25, 26, 27, 28, 29, 30, 31, 32, 33, 34, 35, 36, 37, 38, 39, 40, 41, 42, 43, 44, 45, 46, 47, 48, 49, 50, 51, 52, 53, 54, 55, 56, 57, 58, 59, 60, 72, 73, 74, 75, 76, 77, 78, 79, 80, 81, 82, 83, 84, 85, 86, 87, 88, 89, 90, 91, 92, 93, 94, 95, 96, 97, 98, 99, 100, 101, 102, 103, 104, 105, 106, 107] (by decide +kernel) (by decide +kernel)
set_option maxRecDepth 20000 in
theorem gX11_restore_X7_copy : GoodIn wsX11_restore (wsV RX11 300 RX7 yX7_copy wsX7_copy) := goodIn_app (goodIn_of _ (by decide +kernel)) ggX11_restore_X7_copy
set_option maxRecDepth 20000 in
theorem ggX11_tell_X11_within : GoodIn wsX11_tell wsX11_within := goodIn_r _ [5] (by decide +kernel) (by decide +kernel)
set_option maxRecDepth 20000 in
theorem gX11_tell_X11_within : GoodIn wsX11_tell (va_wsS RX11 78 yX11_within wsX11_within) := goodIn_app (goodIn_of _ (by decide +kernel)) ggX11_tell_X11_within
set_option maxRecDepth 20000 in
theorem ggX11_tell_X11_error : GoodIn wsX11_tell wsX11_error := goodIn_r _ [9, 10, 11, 2, 3, 4, 5, 12, 13, 14, 15, 16, 17, 18, 19, 20, 21, 22] (by decide +kernel) (by decide +kernel)
set_option maxRecDepth 20000 in
theorem gX11_tell_X11_error : GoodIn wsX11_tell (wsV RX11 82 RX11 yX11_error wsX11_error) := goodIn_app (goodIn_of _ (by decide +kernel)) ggX11_tell_X11_error
set_option maxRecDepth 20000 in
theorem ggX11_check_X10_copy : GoodIn wsX11_check wsX10_copy := goodIn_r _ [7, 8, 9, 10, 11, 12, 13, 14, 15, 16, 17, 18, 19, 20, 21, 6, 22, 23, 62, 63, 64, 65, 66, 67, 68, 69, 70, 71, 72] (by decide +kernel) (by decide +kernel)
set_option maxRecDepth 20000 in
theorem gX11_check_X10_copy : GoodIn wsX11_check (wsV RX11 236 RX10 yX10_copy wsX10_copy) := goodIn_app (goodIn_of _ (by decide +kernel)) ggX11_check_X10_copy
set_option maxRecDepth 20000 in
theorem ggX11_check_X10_passNight : GoodIn wsX11_check wsX10_passNight := goodIn_r _ [27, 23, 10, 28, 29, 30, 31, 18, 32, 33, 34, 6, 35, 8, 9, 62, 63, 64, 65, 66, 67, 68, 69, 70, 71, 72] (by decide +kernel) (by decide +kernel)
set_option maxRecDepth 20000 in
theorem gX11_check_X10_passNight : GoodIn wsX11_check (wsV RX11 201 RX10 yX10_passNight wsX10_passNight) := goodIn_app (goodIn_of _ (by decide +kernel)) ggX11_check_X10_passNight
set_option maxRecDepth 20000 in
theorem ggX11_check_X10_allAir : GoodIn wsX11_check wsX10_allAir := goodIn_r _ [39, 23, 32, 33, 34, 6, 35, 8, 9, 62, 63, 64, 65, 66, 67, 68, 69, 70, 71, 72] (by decide +kernel) (by decide +kernel)
set_option maxRecDepth 20000 in
theorem gX11_check_X10_allAir : GoodIn wsX11_check (wsV RX11 204 RX10 yX10_allAir wsX10_allAir) := goodIn_app (goodIn_of _ (by decide +kernel)) ggX11_check_X10_allAir
set_option maxRecDepth 20000 in
theorem ggX11_count_X10_cells : GoodIn wsX11_count wsX10_cells := goodIn_r _ [7, 8, 9, 60, 61, 62, 63, 64, 65, 66, 67, 68, 69, 70] (by decide +kernel) (by decide +kernel)
set_option maxRecDepth 20000 in
theorem gX11_count_X10_cells : GoodIn wsX11_count (wsV RX11 93 RX10 yX10_cells wsX10_cells) := goodIn_app (goodIn_of _ (by decide +kernel)) ggX11_count_X10_cells
set_option maxRecDepth 20000 in
theorem ggX11_count_X10_allAir : GoodIn wsX11_count wsX10_allAir := goodIn_r _ [13, 14, 15, 16, 17, 6, 18, 8, 9, 60, 61, 62, 63, 64, 65, 66, 67, 68, 69, 70] (by decide +kernel) (by decide +kernel)
set_option maxRecDepth 20000 in
theorem gX11_count_X10_allAir : GoodIn wsX11_count (wsV RX11 204 RX10 yX10_allAir wsX10_allAir) := goodIn_app (goodIn_of _ (by decide +kernel)) ggX11_count_X10_allAir
set_option maxRecDepth 20000 in
theorem ggX11_count_X10_cellsWithAir : GoodIn wsX11_count wsX10_cellsWithAir := goodIn_r _ [22, 14, 15, 16, 17, 6, 18, 8, 9, 60, 61, 62, 63, 64, 65, 66, 67, 68, 69, 70] (by decide +kernel) (by decide +kernel)
set_option maxRecDepth 20000 in
theorem gX11_count_X10_cellsWithAir : GoodIn wsX11_count (wsV RX11 318 RX10 yX10_cellsWithAir wsX10_cellsWithAir) := goodIn_app (goodIn_of _ (by decide +kernel)) ggX11_count_X10_cellsWithAir
set_option maxRecDepth 20000 in
theorem ggX11_count_X10_openBits : GoodIn wsX11_count wsX10_openBits := goodIn_r _ [26, 27, 60, 61, 62, 63, 64, 65, 66, 67, 68, 69, 70] (by decide +kernel) (by decide +kernel)
set_option maxRecDepth 20000 in
theorem gX11_count_X10_openBits : GoodIn wsX11_count (wsV RX11 321 RX10 yX10_openBits wsX10_openBits) := goodIn_app (goodIn_of _ (by decide +kernel)) ggX11_count_X10_openBits
set_option maxRecDepth 20000 in
theorem ggX11_count_X11_error : GoodIn wsX11_count wsX11_error := goodIn_r _ [32, 33, 34, 35, 36, 31, 37, 38, 39, 40, 41, 42, 43, 44, 45, 46, 47, 48] (by decide +kernel) (by decide +kernel)
set_option maxRecDepth 20000 in
theorem gX11_count_X11_error : GoodIn wsX11_count (wsV RX11 82 RX11 yX11_error wsX11_error) := goodIn_app (goodIn_of _ (by decide +kernel)) ggX11_count_X11_error
set_option maxRecDepth 20000 in
theorem ggX11_told_X11_within : GoodIn wsX11_told wsX11_within := goodIn_r _ [5] (by decide +kernel) (by decide +kernel)
set_option maxRecDepth 20000 in
theorem gX11_told_X11_within : GoodIn wsX11_told (va_wsS RX11 78 yX11_within wsX11_within) := goodIn_app (goodIn_of _ (by decide +kernel)) ggX11_told_X11_within
set_option maxRecDepth 20000 in
theorem ggX11_told_X11_error : GoodIn wsX11_told wsX11_error := goodIn_r _ [9, 1, 10, 2, 3, 4, 5, 11, 12, 13, 14, 15, 16, 17, 18, 19, 20, 21] (by decide +kernel) (by decide +kernel)
set_option maxRecDepth 20000 in
theorem gX11_told_X11_error : GoodIn wsX11_told (wsV RX11 82 RX11 yX11_error wsX11_error) := goodIn_app (goodIn_of _ (by decide +kernel)) ggX11_told_X11_error
set_option maxRecDepth 20000 in
theorem ggX11_error_X11_within : GoodIn wsX11_error wsX11_within := goodIn_r _ [6] (by decide +kernel) (by decide +kernel)
set_option maxRecDepth 20000 in
theorem gX11_error_X11_within : GoodIn wsX11_error (va_wsS RX11 78 yX11_within wsX11_within) := goodIn_app (goodIn_of _ (by decide +kernel)) ggX11_error_X11_within
set_option maxRecDepth 20000 in
theorem ggX11_isCell_X10_has : GoodIn wsX11_isCell wsX10_has := goodIn_r _ [6, 7, 8, 31, 32, 33, 34, 35, 36, 37, 38, 39, 40, 41] (by decide +kernel) (by decide +kernel)
set_option maxRecDepth 20000 in
theorem gX11_isCell_X10_has : GoodIn wsX11_isCell (wsV RX11 325 RX10 yX10_has wsX10_has) := goodIn_app (goodIn_of _ (by decide +kernel)) ggX11_isCell_X10_has
set_option maxRecDepth 20000 in
theorem ggX11_isTool_X11_within : GoodIn wsX11_isTool wsX11_within := goodIn_r _ [5] (by decide +kernel) (by decide +kernel)
set_option maxRecDepth 20000 in
theorem gX11_isTool_X11_within : GoodIn wsX11_isTool (va_wsS RX11 78 yX11_within wsX11_within) := goodIn_app (goodIn_of _ (by decide +kernel)) ggX11_isTool_X11_within
set_option maxRecDepth 20000 in
theorem ggX11_isWay_X11_within : GoodIn wsX11_isWay wsX11_within := goodIn_r _ [4] (by decide +kernel) (by decide +kernel)
set_option maxRecDepth 20000 in
theorem gX11_isWay_X11_within : GoodIn wsX11_isWay (va_wsS RX11 78 yX11_within wsX11_within) := goodIn_app (goodIn_of _ (by decide +kernel)) ggX11_isWay_X11_within
set_option maxRecDepth 20000 in
theorem ggX11_isSheet_X11_within : GoodIn wsX11_isSheet wsX11_within := goodIn_r _ [4] (by decide +kernel) (by decide +kernel)
set_option maxRecDepth 20000 in
theorem gX11_isSheet_X11_within : GoodIn wsX11_isSheet (va_wsS RX11 78 yX11_within wsX11_within) := goodIn_app (goodIn_of _ (by decide +kernel)) ggX11_isSheet_X11_within
set_option maxRecDepth 20000 in
theorem ggX11_firstUnlike_X10_cells : GoodIn wsX11_firstUnlike wsX10_cells := goodIn_r _ [11, 12, 13, 29, 30, 31, 32, 33, 34, 35, 36, 37, 38, 39] (by decide +kernel) (by decide +kernel)
set_option maxRecDepth 20000 in
theorem gX11_firstUnlike_X10_cells : GoodIn wsX11_firstUnlike (wsV RX11 93 RX10 yX10_cells wsX10_cells) := goodIn_app (goodIn_of _ (by decide +kernel)) ggX11_firstUnlike_X10_cells
set_option maxRecDepth 20000 in
theorem ggX11_firstUnlike_X10_has : GoodIn wsX11_firstUnlike wsX10_has := goodIn_r _ [17, 12, 13, 29, 30, 31, 32, 33, 34, 35, 36, 37, 38, 39] (by decide +kernel) (by decide +kernel)
set_option maxRecDepth 20000 in
theorem gX11_firstUnlike_X10_has : GoodIn wsX11_firstUnlike (wsV RX11 325 RX10 yX10_has wsX10_has) := goodIn_app (goodIn_of _ (by decide +kernel)) ggX11_firstUnlike_X10_has
set_option maxRecDepth 20000 in
theorem ggX11_kindAt_X11_within : GoodIn wsX11_kindAt wsX11_within := goodIn_r _ [5] (by decide +kernel) (by decide +kernel)
set_option maxRecDepth 20000 in
theorem gX11_kindAt_X11_within : GoodIn wsX11_kindAt (va_wsS RX11 78 yX11_within wsX11_within) := goodIn_app (goodIn_of _ (by decide +kernel)) ggX11_kindAt_X11_within
set_option maxRecDepth 20000 in
theorem ggX11_kindOf_X11_isTool : GoodIn wsX11_kindOf wsX11_isTool := goodIn_r _ [6, 1, 7, 8, 5, 9, 15, 16, 17, 18, 19, 20, 21, 22, 23, 24, 25, 26, 27, 28, 29, 30, 31, 32, 33, 34, 35, 36] (by decide +kernel) (by decide +kernel)
set_option maxRecDepth 20000 in
theorem gX11_kindOf_X11_isTool : GoodIn wsX11_kindOf (wsV RX11 142 RX11 yX11_isTool wsX11_isTool) := goodIn_app (goodIn_of _ (by decide +kernel)) ggX11_kindOf_X11_isTool
set_option maxRecDepth 20000 in
theorem ggX11_kindOf_X11_kindAt : GoodIn wsX11_kindOf wsX11_kindAt := goodIn_r _ [13, 14, 7, 8, 5, 9, 15, 16, 17, 18, 19, 20, 21, 22, 23, 24, 25] (by decide +kernel) (by decide +kernel)
set_option maxRecDepth 20000 in
theorem gX11_kindOf_X11_kindAt : GoodIn wsX11_kindOf (wsV RX11 253 RX11 yX11_kindAt wsX11_kindAt) := goodIn_app (goodIn_of _ (by decide +kernel)) ggX11_kindOf_X11_kindAt
set_option maxRecDepth 20000 in
theorem ggX11_bestFrom_X10_cells : GoodIn wsX11_bestFrom wsX10_cells := goodIn_r _ [12, 13, 14, 228, 229, 230, 231, 232, 233, 234, 235, 236, 237, 238] (by decide +kernel) (by decide +kernel)
set_option maxRecDepth 20000 in
theorem gX11_bestFrom_X10_cells : GoodIn wsX11_bestFrom (wsV RX11 93 RX10 yX10_cells wsX10_cells) := goodIn_app (goodIn_of _ (by decide +kernel)) ggX11_bestFrom_X10_cells
set_option maxRecDepth 20000 in
theorem ggX11_bestFrom_X10_copy : GoodIn wsX11_bestFrom wsX10_copy := goodIn_r _ [18, 13, 14, 19, 20, 21, 22, 23, 24, 25, 26, 27, 28, 29, 30, 11, 31, 32, 228, 229, 230, 231, 232, 233, 234, 235, 236, 237, 238] (by decide +kernel) (by decide +kernel)
set_option maxRecDepth 20000 in
theorem gX11_bestFrom_X10_copy : GoodIn wsX11_bestFrom (wsV RX11 236 RX10 yX10_copy wsX10_copy) := goodIn_app (goodIn_of _ (by decide +kernel)) ggX11_bestFrom_X10_copy
set_option maxRecDepth 20000 in
theorem ggX11_bestFrom_X10_airAs : GoodIn wsX11_bestFrom wsX10_airAs := goodIn_r _ [31, 32, 20, 21, 22, 23, 228, 229, 230, 231, 232, 233, 234, 235, 236, 237, 238] (by decide +kernel) (by decide +kernel)
set_option maxRecDepth 20000 in
theorem gX11_bestFrom_X10_airAs : GoodIn wsX11_bestFrom (wsV RX11 331 RX10 yX10_airAs wsX10_airAs) := goodIn_app (goodIn_of _ (by decide +kernel)) ggX11_bestFrom_X10_airAs
set_option maxRecDepth 20000 in
theorem ggX11_bestFrom_X10_strike : GoodIn wsX11_bestFrom wsX10_strike := goodIn_r _ [37, 32, 38, 5, 6, 7, 39, 25, 19, 40, 41, 42, 11, 43, 13, 14, 44, 45, 46, 47, 48, 49, 50, 51, 52, 53, 54, 55, 56, 57, 58, 59, 60, 61, 62, 63, 64, 65, 66, 67, 26, 68, 69, 70, 71, 72, 73, 74, 75, 76, 77, 78, 79, 80, 81, 82, 83, 84, 85, 86, 87, 88, 89, 90, 91, 92, 93, 94, 95, 96, 97, 98, 99, 100, 101, 102, 103, 104, 105, 106, 107, 108, 109, 110, 111, 112, 113, 114, 115, 116, 117, 118, 119, 120, 121, 122, 123, 124, 125, 126, 127, 128, 129, 130, 131, 132, 133, 134, 135, 136, 137, 138, 139, 140, 141, 142, 143, 144, 145, 146, 147, 148, 149, 150, 151, 152, 153, 154, 155, 156, 157, 158, 159, 160, 161, 162, 163, 164, 165, 166, 167, 168, 169, 170, 171, 172, 173, 174, 175, 176, 177, 178, 179, 180, 181, 182, 183, 184, 185, 186, 187, 188, 189, 190, 191, 192, 193, 194, 195, 196, 197, 198, 24, 199, 200, 201, 228, 229, 230, 231, 232, 233, 234, 235, 236, 237, 238, 239, 240, 241, 242, 243, 244, 245, 246, 247, 248, 249, 250, 251, 252] (by decide +kernel) (by decide +kernel)
set_option maxRecDepth 20000 in
theorem gX11_bestFrom_X10_strike : GoodIn wsX11_bestFrom (wsV RX11 194 RX10 yX10_strike wsX10_strike) := goodIn_app (goodIn_of _ (by decide +kernel)) ggX11_bestFrom_X10_strike
set_option maxRecDepth 20000 in
theorem ggX11_bestFrom_X10_shownBy : GoodIn wsX11_bestFrom wsX10_shownBy := goodIn_r _ [205, 13, 14, 32, 40, 41, 42, 11, 43, 116, 117, 118, 119, 120, 121, 122, 123, 124, 125, 126, 127, 128, 129, 130, 131, 132, 133, 134, 135, 136, 137, 138, 5, 6, 7, 139, 140, 141, 142, 143, 144, 145, 146, 147, 228, 229, 230, 231, 232, 233, 234, 235, 236, 237, 238, 239, 240, 241, 242, 243, 244, 245, 246, 247, 248, 249, 250, 251, 252] (by decide +kernel) (by decide +kernel)
set_option maxRecDepth 20000 in
theorem gX11_bestFrom_X10_shownBy : GoodIn wsX11_bestFrom (wsV RX11 210 RX10 yX10_shownBy wsX10_shownBy) := goodIn_app (goodIn_of _ (by decide +kernel)) ggX11_bestFrom_X10_shownBy
set_option maxRecDepth 20000 in
theorem ggX12_isCell_X12_cells : GoodIn wsX12_isCell wsX12_cells := goodIn_r _ [5, 6, 10, 11, 12, 13, 14, 15, 16, 17, 18, 19, 20, 21, 22, 23, 24, 25, 26, 27, 28, 29, 30, 31, 32, 33, 34, 35] (by decide +kernel) (by decide +kernel)
set_option maxRecDepth 20000 in
theorem gX12_isCell_X12_cells : GoodIn wsX12_isCell (wsV RX12 51 RX12 yX12_cells wsX12_cells) := goodIn_app (goodIn_of _ (by decide +kernel)) ggX12_isCell_X12_cells
set_option maxRecDepth 20000 in
theorem ggX12_isCell_X12_in : GoodIn wsX12_isCell wsX12_in := goodIn_r _ [9] (by decide +kernel) (by decide +kernel)
set_option maxRecDepth 20000 in
theorem gX12_isCell_X12_in : GoodIn wsX12_isCell (va_wsS RX12 55 yX12_in wsX12_in) := goodIn_app (goodIn_of _ (by decide +kernel)) ggX12_isCell_X12_in
set_option maxRecDepth 20000 in
theorem ggX12_isTool_X12_in : GoodIn wsX12_isTool wsX12_in := goodIn_r _ [5] (by decide +kernel) (by decide +kernel)
set_option maxRecDepth 20000 in
theorem gX12_isTool_X12_in : GoodIn wsX12_isTool (va_wsS RX12 55 yX12_in wsX12_in) := goodIn_app (goodIn_of _ (by decide +kernel)) ggX12_isTool_X12_in
set_option maxRecDepth 20000 in
theorem ggX12_isWay_X12_in : GoodIn wsX12_isWay wsX12_in := goodIn_r _ [5] (by decide +kernel) (by decide +kernel)
set_option maxRecDepth 20000 in
theorem gX12_isWay_X12_in : GoodIn wsX12_isWay (va_wsS RX12 55 yX12_in wsX12_in) := goodIn_app (goodIn_of _ (by decide +kernel)) ggX12_isWay_X12_in
set_option maxRecDepth 20000 in
theorem ggX12_takes_X12_here : GoodIn wsX12_takes wsX12_here := goodIn_r _ [6, 1, 7, 8, 9, 10, 11, 12, 13, 14, 15, 16, 17, 18, 19, 20, 21, 22, 23, 24, 25, 26, 27, 28, 29, 30, 31, 32, 33, 34, 35, 36] (by decide +kernel) (by decide +kernel)
set_option maxRecDepth 20000 in
theorem gX12_takes_X12_here : GoodIn wsX12_takes (wsV RX12 74 RX12 yX12_here wsX12_here) := goodIn_app (goodIn_of _ (by decide +kernel)) ggX12_takes_X12_here
set_option maxRecDepth 20000 in
theorem ggX12_either_X12_both : GoodIn wsX12_either wsX12_both := goodIn_r _ [18, 19, 20, 21, 4, 5, 6, 7, 8, 9, 10, 11, 12, 13, 14, 15, 16, 17, 22, 23, 24, 25, 0, 1, 2, 3, 26, 27, 28, 29, 30, 31, 32, 33, 34, 35, 36, 37, 38, 39, 40, 41, 42, 43, 44, 45, 46, 47, 48, 49, 50, 51, 52, 53, 54, 55, 56, 57, 58, 59, 60, 61, 62, 63, 64, 65, 66, 67, 68, 69, 70, 71, 72, 73, 74, 75, 76, 77, 78, 79] (by decide +kernel) (by decide +kernel)
set_option maxRecDepth 20000 in
theorem gX12_either_X12_both : GoodIn wsX12_either (wsV RX12 81 RX12 yX12_both wsX12_both) := goodIn_app (goodIn_of _ (by decide +kernel)) ggX12_either_X12_both
set_option maxRecDepth 20000 in
theorem ggX12_either_X12_takes : GoodIn wsX12_either wsX12_takes := goodIn_r _ [8, 9, 10, 11, 12, 4, 13, 14, 15, 16, 17, 54, 55, 56, 57, 58, 59, 60, 61, 62, 63, 64, 65, 66, 67, 68, 69, 70, 71, 72, 73, 74, 75, 76, 77, 78, 79] (by decide +kernel) (by decide +kernel)
set_option maxRecDepth 20000 in
theorem gX12_either_X12_takes : GoodIn wsX12_either (wsV RX12 84 RX12 yX12_takes wsX12_takes) := goodIn_app (goodIn_of _ (by decide +kernel)) ggX12_either_X12_takes
set_option maxRecDepth 20000 in
theorem ggX12_both_X12_compared : GoodIn wsX12_both wsX12_compared := goodIn_r _ [18, 9, 19, 20, 21, 4, 10, 11, 12, 13, 14, 15, 16, 17, 0, 1, 2, 3, 5, 6, 7, 8, 22, 23, 24, 25, 26, 27, 28, 29, 30, 31, 32, 33, 34, 35, 36, 37, 38, 39, 40, 41, 42, 43, 44, 45, 46, 47, 48, 49, 50, 51, 52, 53, 54, 55, 56, 57, 58, 59, 60, 61, 62, 63, 64, 65, 66, 67, 68, 69, 70, 71, 72, 73, 74, 75, 76, 77, 78, 79] (by decide +kernel) (by decide +kernel)
set_option maxRecDepth 20000 in
theorem gX12_both_X12_compared : GoodIn wsX12_both (wsV RX12 88 RX12 yX12_compared wsX12_compared) := goodIn_app (goodIn_of _ (by decide +kernel)) ggX12_both_X12_compared
set_option maxRecDepth 20000 in
theorem ggX12_both_X12_takes : GoodIn wsX12_both wsX12_takes := goodIn_r _ [8, 9, 10, 11, 12, 4, 13, 14, 15, 16, 17, 54, 55, 56, 57, 58, 59, 60, 61, 62, 63, 64, 65, 66, 67, 68, 69, 70, 71, 72, 73, 74, 75, 76, 77, 78, 79] (by decide +kernel) (by decide +kernel)
set_option maxRecDepth 20000 in
theorem gX12_both_X12_takes : GoodIn wsX12_both (wsV RX12 84 RX12 yX12_takes wsX12_takes) := goodIn_app (goodIn_of _ (by decide +kernel)) ggX12_both_X12_takes
set_option maxRecDepth 20000 in
theorem ggX12_compared_X12_sum : GoodIn wsX12_compared wsX12_sum := goodIn_r _ [30, 1, 31, 32, 33, 5, 6, 7, 8, 9, 10, 11, 12, 13, 14, 15, 16, 17, 18, 19, 20, 21, 0, 2, 3, 4, 22, 23, 24, 25, 26, 27, 28, 29, 34, 35, 36, 37, 38, 39, 40, 41, 42, 43, 44, 45, 46, 47, 48, 49, 50, 51, 52, 53, 54, 55, 56, 57, 58, 59, 60, 61, 62, 63, 64, 65, 66, 67, 68, 69, 70, 71, 72, 73, 74, 75, 76, 77, 78, 79] (by decide +kernel) (by decide +kernel)
set_option maxRecDepth 20000 in
theorem gX12_compared_X12_sum : GoodIn wsX12_compared (wsV RX12 91 RX12 yX12_sum wsX12_sum) := goodIn_app (goodIn_of _ (by decide +kernel)) ggX12_compared_X12_sum
set_option maxRecDepth 20000 in
theorem ggX12_compared_X12_here : GoodIn wsX12_compared wsX12_here := goodIn_r _ [9, 1, 10, 11, 12, 13, 54, 55, 56, 57, 58, 59, 60, 61, 62, 63, 64, 65, 66, 67, 68, 69, 70, 71, 72, 73, 74, 75, 76, 77, 78, 79] (by decide +kernel) (by decide +kernel)
set_option maxRecDepth 20000 in
theorem gX12_compared_X12_here : GoodIn wsX12_compared (wsV RX12 74 RX12 yX12_here wsX12_here) := goodIn_app (goodIn_of _ (by decide +kernel)) ggX12_compared_X12_here
set_option maxRecDepth 20000 in
theorem ggX12_sum_X12_product : GoodIn wsX12_sum wsX12_product := goodIn_r _ [30, 1, 31, 32, 33, 5, 6, 7, 8, 9, 10, 11, 12, 13, 14, 15, 16, 17, 18, 19, 20, 21, 22, 23, 24, 25, 26, 27, 28, 29, 0, 2, 3, 4, 34, 35, 36, 37, 38, 39, 40, 41, 42, 43, 44, 45, 46, 47, 48, 49, 50, 51, 52, 53, 54, 55, 56, 57, 58, 59, 60, 61, 62, 63, 64, 65, 66, 67, 68, 69, 70, 71, 72, 73, 74, 75, 76, 77, 78, 79] (by decide +kernel) (by decide +kernel)
set_option maxRecDepth 20000 in
theorem gX12_sum_X12_product : GoodIn wsX12_sum (wsV RX12 94 RX12 yX12_product wsX12_product) := goodIn_app (goodIn_of _ (by decide +kernel)) ggX12_sum_X12_product
set_option maxRecDepth 20000 in
theorem ggX12_sum_X12_here : GoodIn wsX12_sum wsX12_here := goodIn_r _ [9, 1, 10, 11, 12, 13, 54, 55, 56, 57, 58, 59, 60, 61, 62, 63, 64, 65, 66, 67, 68, 69, 70, 71, 72, 73, 74, 75, 76, 77, 78, 79] (by decide +kernel) (by decide +kernel)
set_option maxRecDepth 20000 in
theorem gX12_sum_X12_here : GoodIn wsX12_sum (wsV RX12 74 RX12 yX12_here wsX12_here) := goodIn_app (goodIn_of _ (by decide +kernel)) ggX12_sum_X12_here
set_option maxRecDepth 20000 in
theorem ggX12_product_X12_unit : GoodIn wsX12_product wsX12_unit := goodIn_r _ [34, 35, 1, 36, 37, 38, 6, 7, 8, 5, 9, 10, 11, 12, 13, 39, 40, 41, 42, 43, 44, 45, 2, 3, 4, 18, 19, 20, 21, 46, 47, 48, 49, 50, 51, 52, 53, 14, 15, 16, 17, 22, 23, 24, 25, 26, 27, 28, 29, 0, 30, 31, 32, 33, 54, 55, 56, 57, 58, 59, 60, 61, 62, 63, 64, 65, 66, 67, 68, 69, 70, 71, 72, 73, 74, 75, 76, 77, 78, 79] (by decide +kernel) (by decide +kernel)
set_option maxRecDepth 20000 in
theorem gX12_product_X12_unit : GoodIn wsX12_product (wsV RX12 97 RX12 yX12_unit wsX12_unit) := goodIn_app (goodIn_of _ (by decide +kernel)) ggX12_product_X12_unit
set_option maxRecDepth 20000 in
theorem ggX12_product_X12_here : GoodIn wsX12_product wsX12_here := goodIn_r _ [9, 1, 10, 11, 12, 13, 54, 55, 56, 57, 58, 59, 60, 61, 62, 63, 64, 65, 66, 67, 68, 69, 70, 71, 72, 73, 74, 75, 76, 77, 78, 79] (by decide +kernel) (by decide +kernel)
set_option maxRecDepth 20000 in
theorem gX12_product_X12_here : GoodIn wsX12_product (wsV RX12 74 RX12 yX12_here wsX12_here) := goodIn_app (goodIn_of _ (by decide +kernel)) ggX12_product_X12_here
set_option maxRecDepth 20000 in
theorem ggX12_unit_X12_here : GoodIn wsX12_unit wsX12_here := goodIn_r _ [10, 2, 11, 12, 13, 14, 54, 55, 56, 57, 58, 59, 60, 61, 62, 63, 64, 65, 66, 67, 68, 69, 70, 71, 72, 73, 74, 75, 76, 77, 78, 79] (by decide +kernel) (by decide +kernel)
set_option maxRecDepth 20000 in
theorem gX12_unit_X12_here : GoodIn wsX12_unit (wsV RX12 74 RX12 yX12_here wsX12_here) := goodIn_app (goodIn_of _ (by decide +kernel)) ggX12_unit_X12_here
set_option maxRecDepth 20000 in
theorem ggX12_unit_X12_wrong : GoodIn wsX12_unit wsX12_wrong := goodIn_r _ [18, 12, 2, 54, 55, 56, 57, 58, 59, 60, 61, 62, 63, 64, 65, 66, 67, 68, 69, 70, 71, 72, 73, 74, 75, 76, 77, 78, 79] (by decide +kernel) (by decide +kernel)
set_option maxRecDepth 20000 in
theorem gX12_unit_X12_wrong : GoodIn wsX12_unit (wsV RX12 103 RX12 yX12_wrong wsX12_wrong) := goodIn_app (goodIn_of _ (by decide +kernel)) ggX12_unit_X12_wrong
set_option maxRecDepth 20000 in
theorem ggX12_unit_X12_either : GoodIn wsX12_unit wsX12_either := goodIn_r _ [45, 46, 47, 48, 9, 25, 26, 27, 28, 2, 6, 7, 8, 10, 11, 12, 13, 14, 37, 38, 39, 40, 41, 42, 43, 44, 49, 22, 23, 24, 50, 51, 52, 53, 0, 1, 3, 4, 5, 15, 16, 17, 18, 19, 20, 21, 29, 30, 31, 32, 33, 34, 35, 36, 54, 55, 56, 57, 58, 59, 60, 61, 62, 63, 64, 65, 66, 67, 68, 69, 70, 71, 72, 73, 74, 75, 76, 77, 78, 79] (by decide +kernel) (by decide +kernel)
set_option maxRecDepth 20000 in
theorem gX12_unit_X12_either : GoodIn wsX12_unit (wsV RX12 106 RX12 yX12_either wsX12_either) := goodIn_app (goodIn_of _ (by decide +kernel)) ggX12_unit_X12_either
set_option maxRecDepth 20000 in
theorem ggX12_unit_X12_unit : GoodIn wsX12_unit wsX12_unit := goodIn_r _ [0, 1, 2, 3, 4, 5, 6, 7, 8, 9, 10, 11, 12, 13, 14, 15, 16, 17, 18, 19, 20, 21, 22, 23, 24, 25, 26, 27, 28, 29, 30, 31, 32, 33, 34, 35, 36, 37, 38, 39, 40, 41, 42, 43, 44, 45, 46, 47, 48, 49, 50, 51, 52, 53, 54, 55, 56, 57, 58, 59, 60, 61, 62, 63, 64, 65, 66, 67, 68, 69, 70, 71, 72, 73, 74, 75, 76, 77, 78, 79] (by decide +kernel) (by decide +kernel)
set_option maxRecDepth 20000 in
theorem gX12_unit_X12_unit : GoodIn wsX12_unit (wsV RX12 97 RX12 yX12_unit wsX12_unit) := goodIn_app (goodIn_of _ (by decide +kernel)) ggX12_unit_X12_unit
set_option maxRecDepth 20000 in
theorem ggX12_unit_X12_takes : GoodIn wsX12_unit wsX12_takes := goodIn_r _ [28, 2, 6, 7, 8, 9, 10, 11, 12, 13, 14, 54, 55, 56, 57, 58, 59, 60, 61, 62, 63, 64, 65, 66, 67, 68, 69, 70, 71, 72, 73, 74, 75, 76, 77, 78, 79] (by decide +kernel) (by decide +kernel)
set_option maxRecDepth 20000 in
theorem gX12_unit_X12_takes : GoodIn wsX12_unit (wsV RX12 84 RX12 yX12_takes wsX12_takes) := goodIn_app (goodIn_of _ (by decide +kernel)) ggX12_unit_X12_takes
set_option maxRecDepth 20000 in
theorem ggX12_unit_X12_nameOf : GoodIn wsX12_unit wsX12_nameOf := goodIn_r _ [32, 33, 54, 55, 56, 57, 58, 59, 60, 61, 62, 63, 64, 65, 66, 67, 68, 69, 70, 71, 72, 73, 74, 75, 76, 77, 78, 79] (by decide +kernel) (by decide +kernel)
set_option maxRecDepth 20000 in
theorem gX12_unit_X12_nameOf : GoodIn wsX12_unit (wsV RX12 109 RX12 yX12_nameOf wsX12_nameOf) := goodIn_app (goodIn_of _ (by decide +kernel)) ggX12_unit_X12_nameOf
set_option maxRecDepth 20000 in
theorem ggX12_unit_X12_in : GoodIn wsX12_unit wsX12_in := goodIn_r _ [36] (by decide +kernel) (by decide +kernel)
set_option maxRecDepth 20000 in
theorem gX12_unit_X12_in : GoodIn wsX12_unit (va_wsS RX12 55 yX12_in wsX12_in) := goodIn_app (goodIn_of _ (by decide +kernel)) ggX12_unit_X12_in
set_option maxRecDepth 20000 in
theorem ggX12_worked_X12_either : GoodIn wsX12_worked wsX12_either := goodIn_r _ [11, 12, 13, 14, 10, 15, 16, 17, 18, 2, 19, 20, 21, 22, 3, 4, 23, 1, 24, 25, 26, 27, 28, 29, 30, 31, 32, 33, 34, 35, 36, 37, 38, 39, 40, 5, 41, 42, 43, 44, 45, 46, 47, 7, 8, 9, 48, 49, 50, 51, 6, 52, 53, 54, 55, 56, 57, 58, 59, 60, 61, 62, 63, 64, 65, 66, 67, 68, 69, 70, 71, 72, 73, 74, 75, 76, 77, 78, 79, 80] (by decide +kernel) (by decide +kernel)
set_option maxRecDepth 20000 in
theorem gX12_worked_X12_either : GoodIn wsX12_worked (wsV RX12 106 RX12 yX12_either wsX12_either) := goodIn_app (goodIn_of _ (by decide +kernel)) ggX12_worked_X12_either
set_option maxRecDepth 20000 in
theorem ggX12_worked_X12_wrong : GoodIn wsX12_worked wsX12_wrong := goodIn_r _ [47, 4, 2, 55, 56, 57, 58, 59, 60, 61, 62, 63, 64, 65, 66, 67, 68, 69, 70, 71, 72, 73, 74, 75, 76, 77, 78, 79, 80] (by decide +kernel) (by decide +kernel)
set_option maxRecDepth 20000 in
theorem gX12_worked_X12_wrong : GoodIn wsX12_worked (wsV RX12 103 RX12 yX12_wrong wsX12_wrong) := goodIn_app (goodIn_of _ (by decide +kernel)) ggX12_worked_X12_wrong
set_option maxRecDepth 20000 in
theorem ggX12_feed_X12_in : GoodIn wsX12_feed wsX12_in := goodIn_r _ [7] (by decide +kernel) (by decide +kernel)
set_option maxRecDepth 20000 in
theorem gX12_feed_X12_in : GoodIn wsX12_feed (va_wsS RX12 55 yX12_in wsX12_in) := goodIn_app (goodIn_of _ (by decide +kernel)) ggX12_feed_X12_in
set_option maxRecDepth 20000 in
theorem ggX12_feed_X12_finds : GoodIn wsX12_feed wsX12_finds := goodIn_r _ [11, 12, 13, 14, 15, 16, 17, 18, 19, 20, 21, 22, 23, 24, 25, 26, 27, 28, 29, 30, 31, 32, 33, 34, 35, 36, 37, 38, 39] (by decide +kernel) (by decide +kernel)
set_option maxRecDepth 20000 in
theorem gX12_feed_X12_finds : GoodIn wsX12_feed (wsV RX12 119 RX12 yX12_finds wsX12_finds) := goodIn_app (goodIn_of _ (by decide +kernel)) ggX12_feed_X12_finds
set_option maxRecDepth 20000 in
theorem ggX12_text_X12_in : GoodIn wsX12_text wsX12_in := goodIn_r _ [6] (by decide +kernel) (by decide +kernel)
set_option maxRecDepth 20000 in
theorem gX12_text_X12_in : GoodIn wsX12_text (va_wsS RX12 55 yX12_in wsX12_in) := goodIn_app (goodIn_of _ (by decide +kernel)) ggX12_text_X12_in
set_option maxRecDepth 20000 in
theorem ggX12_text_X12_finds : GoodIn wsX12_text wsX12_finds := goodIn_r _ [10, 11, 12, 65, 66, 67, 68, 69, 70, 71, 72, 73, 74, 75, 76, 77, 78, 79, 80, 81, 82, 83, 84, 85, 86, 87, 88, 89, 90] (by decide +kernel) (by decide +kernel)
set_option maxRecDepth 20000 in
theorem gX12_text_X12_finds : GoodIn wsX12_text (wsV RX12 119 RX12 yX12_finds wsX12_finds) := goodIn_app (goodIn_of _ (by decide +kernel)) ggX12_text_X12_finds
set_option maxRecDepth 20000 in
theorem ggX12_text_X12_worked : GoodIn wsX12_text wsX12_worked := goodIn_r _ [16, 17, 18, 19, 2, 20, 21, 22, 23, 24, 5, 25, 26, 27, 28, 29, 30, 31, 32, 33, 34, 35, 36, 1, 37, 38, 39, 40, 41, 42, 43, 44, 45, 46, 47, 48, 49, 50, 51, 52, 53, 54, 55, 56, 57, 58, 59, 60, 61, 62, 63, 64, 3, 4, 6, 65, 66, 67, 68, 69, 70, 71, 72, 73, 74, 75, 76, 77, 78, 79, 80, 81, 82, 83, 84, 85, 86, 87, 88, 89, 90] (by decide +kernel) (by decide +kernel)
set_option maxRecDepth 20000 in
theorem gX12_text_X12_worked : GoodIn wsX12_text (wsV RX12 124 RX12 yX12_worked wsX12_worked) := goodIn_app (goodIn_of _ (by decide +kernel)) ggX12_text_X12_worked
set_option maxRecDepth 20000 in
theorem ggX12_textGives_X12_worked : GoodIn wsX12_textGives wsX12_worked := goodIn_r _ [7, 8, 9, 10, 11, 12, 13, 14, 15, 16, 6, 17, 18, 19, 20, 21, 22, 23, 24, 25, 26, 27, 28, 1, 29, 30, 31, 32, 33, 34, 35, 36, 37, 38, 39, 40, 41, 42, 43, 44, 45, 2, 46, 47, 48, 49, 50, 51, 52, 53, 54, 55, 56, 57, 58, 62, 63, 64, 65, 66, 67, 68, 69, 70, 71, 72, 73, 74, 75, 76, 77, 78, 79, 80, 81, 82, 83, 84, 85, 86, 87] (by decide +kernel) (by decide +kernel)
set_option maxRecDepth 20000 in
theorem gX12_textGives_X12_worked : GoodIn wsX12_textGives (wsV RX12 124 RX12 yX12_worked wsX12_worked) := goodIn_app (goodIn_of _ (by decide +kernel)) ggX12_textGives_X12_worked
set_option maxRecDepth 20000 in
theorem ggX12_textGives_X12_held : GoodIn wsX12_textGives wsX12_held := goodIn_r _ [61] (by decide +kernel) (by decide +kernel)
set_option maxRecDepth 20000 in
theorem gX12_textGives_X12_held : GoodIn wsX12_textGives (va_wsS RX12 128 yX12_held wsX12_held) := goodIn_app (goodIn_of _ (by decide +kernel)) ggX12_textGives_X12_held
set_option maxRecDepth 20000 in
theorem ggX12_law_X12_in : GoodIn wsX12_law wsX12_in := goodIn_r _ [4] (by decide +kernel) (by decide +kernel)
set_option maxRecDepth 20000 in
theorem gX12_law_X12_in : GoodIn wsX12_law (va_wsS RX12 55 yX12_in wsX12_in) := goodIn_app (goodIn_of _ (by decide +kernel)) ggX12_law_X12_in
set_option maxRecDepth 20000 in
theorem ggX12_law_X12_textGives : GoodIn wsX12_law wsX12_textGives := goodIn_r _ [8, 9, 10, 11, 12, 13, 3, 14, 15, 16, 17, 18, 19, 20, 21, 22, 23, 24, 25, 26, 27, 28, 29, 30, 31, 32, 33, 34, 35, 36, 37, 38, 39, 40, 41, 42, 43, 44, 45, 46, 47, 48, 49, 50, 51, 52, 53, 54, 55, 56, 57, 58, 59, 60, 61, 62, 1, 2, 4, 63, 64, 65, 72, 73, 74, 75, 76, 77, 78, 79, 80, 81, 82, 83, 84, 85, 86, 87, 88, 89, 90, 91, 92, 93, 94, 95, 96, 97] (by decide +kernel) (by decide +kernel)
set_option maxRecDepth 20000 in
theorem gX12_law_X12_textGives : GoodIn wsX12_law (wsV RX12 131 RX12 yX12_textGives wsX12_textGives) := goodIn_app (goodIn_of _ (by decide +kernel)) ggX12_law_X12_textGives
set_option maxRecDepth 20000 in
theorem ggX12_law_X12_finds : GoodIn wsX12_law wsX12_finds := goodIn_r _ [69, 70, 71, 72, 73, 74, 75, 76, 77, 78, 79, 80, 81, 82, 83, 84, 85, 86, 87, 88, 89, 90, 91, 92, 93, 94, 95, 96, 97] (by decide +kernel) (by decide +kernel)
set_option maxRecDepth 20000 in
theorem gX12_law_X12_finds : GoodIn wsX12_law (wsV RX12 119 RX12 yX12_finds wsX12_finds) := goodIn_app (goodIn_of _ (by decide +kernel)) ggX12_law_X12_finds
set_option maxRecDepth 20000 in
theorem ggX12_wall_X12_in : GoodIn wsX12_wall wsX12_in := goodIn_r _ [5] (by decide +kernel) (by decide +kernel)
set_option maxRecDepth 20000 in
theorem gX12_wall_X12_in : GoodIn wsX12_wall (va_wsS RX12 55 yX12_in wsX12_in) := goodIn_app (goodIn_of _ (by decide +kernel)) ggX12_wall_X12_in
set_option maxRecDepth 20000 in
theorem ggX12_wall_X12_finds : GoodIn wsX12_wall wsX12_finds := goodIn_r _ [9, 10, 11, 17, 18, 19, 20, 21, 22, 23, 24, 25, 26, 27, 28, 29, 30, 31, 32, 33, 34, 35, 36, 37, 38, 39, 40, 41, 42] (by decide +kernel) (by decide +kernel)
set_option maxRecDepth 20000 in
theorem gX12_wall_X12_finds : GoodIn wsX12_wall (wsV RX12 119 RX12 yX12_finds wsX12_finds) := goodIn_app (goodIn_of _ (by decide +kernel)) ggX12_wall_X12_finds
set_option maxRecDepth 20000 in
theorem ggX12_wall_X12_builds : GoodIn wsX12_wall wsX12_builds := goodIn_r _ [15, 16, 17, 18, 19, 20, 21, 22, 23, 24, 25, 26, 27, 28, 29, 30, 31, 32, 33, 34, 35, 36, 37, 38, 39, 40, 41, 42] (by decide +kernel) (by decide +kernel)
set_option maxRecDepth 20000 in
theorem gX12_wall_X12_builds : GoodIn wsX12_wall (wsV RX12 46 RX12 yX12_builds wsX12_builds) := goodIn_app (goodIn_of _ (by decide +kernel)) ggX12_wall_X12_builds
set_option maxRecDepth 20000 in
theorem ggX12_set_X12_isCell : GoodIn wsX12_set wsX12_isCell := goodIn_r _ [8, 9, 10, 11, 7, 12, 3, 13, 14, 15, 22, 23, 24, 25, 26, 27, 28, 29, 30, 31, 32, 33, 34, 35, 36, 37, 38, 39, 40, 41, 42, 43, 44, 45, 46, 47] (by decide +kernel) (by decide +kernel)
set_option maxRecDepth 20000 in
theorem gX12_set_X12_isCell : GoodIn wsX12_set (wsV RX12 137 RX12 yX12_isCell wsX12_isCell) := goodIn_app (goodIn_of _ (by decide +kernel)) ggX12_set_X12_isCell
set_option maxRecDepth 20000 in
theorem ggX12_set_X12_in : GoodIn wsX12_set wsX12_in := goodIn_r _ [15] (by decide +kernel) (by decide +kernel)
set_option maxRecDepth 20000 in
theorem gX12_set_X12_in : GoodIn wsX12_set (va_wsS RX12 55 yX12_in wsX12_in) := goodIn_app (goodIn_of _ (by decide +kernel)) ggX12_set_X12_in
set_option maxRecDepth 20000 in
theorem ggX12_set_X12_finds : GoodIn wsX12_set wsX12_finds := goodIn_r _ [19, 20, 21, 22, 23, 24, 25, 26, 27, 28, 29, 30, 31, 32, 33, 34, 35, 36, 37, 38, 39, 40, 41, 42, 43, 44, 45, 46, 47] (by decide +kernel) (by decide +kernel)
set_option maxRecDepth 20000 in
theorem gX12_set_X12_finds : GoodIn wsX12_set (wsV RX12 119 RX12 yX12_finds wsX12_finds) := goodIn_app (goodIn_of _ (by decide +kernel)) ggX12_set_X12_finds
set_option maxRecDepth 20000 in
theorem ggX12_seenOf_X12_textGives : GoodIn wsX12_seenOf wsX12_textGives := goodIn_r _ [8, 1, 9, 10, 11, 12, 7, 13, 14, 15, 16, 17, 18, 19, 20, 21, 22, 23, 24, 25, 26, 27, 28, 29, 30, 31, 32, 33, 34, 35, 36, 37, 38, 39, 40, 41, 42, 43, 44, 45, 46, 47, 48, 49, 50, 51, 52, 53, 54, 55, 56, 57, 58, 59, 60, 61, 62, 63, 64, 65, 66, 67, 68, 69, 70, 71, 72, 73, 74, 75, 76, 77, 78, 79, 80, 81, 82, 83, 84, 85, 86, 87, 88, 89, 90, 91, 92, 93] (by decide +kernel) (by decide +kernel)
set_option maxRecDepth 20000 in
theorem gX12_seenOf_X12_textGives : GoodIn wsX12_seenOf (wsV RX12 131 RX12 yX12_textGives wsX12_textGives) := goodIn_app (goodIn_of _ (by decide +kernel)) ggX12_seenOf_X12_textGives
set_option maxRecDepth 20000 in
theorem ggX12_movedOf_X12_numberOf : GoodIn wsX12_movedOf wsX12_numberOf := goodIn_r _ [7, 8, 72, 73, 74, 75, 76, 77, 78, 79, 80, 81, 82, 83, 84, 85, 86, 87, 88, 89, 90, 91, 92, 93, 94, 95, 96, 97] (by decide +kernel) (by decide +kernel)
set_option maxRecDepth 20000 in
theorem gX12_movedOf_X12_numberOf : GoodIn wsX12_movedOf (wsV RX12 147 RX12 yX12_numberOf wsX12_numberOf) := goodIn_app (goodIn_of _ (by decide +kernel)) ggX12_movedOf_X12_numberOf
set_option maxRecDepth 20000 in
theorem ggX12_movedOf_X12_textGives : GoodIn wsX12_movedOf wsX12_textGives := goodIn_r _ [12, 8, 13, 14, 15, 16, 6, 17, 18, 19, 20, 21, 22, 23, 24, 25, 26, 27, 28, 29, 30, 31, 32, 33, 34, 35, 36, 37, 38, 39, 40, 41, 42, 43, 44, 45, 46, 47, 48, 49, 50, 51, 52, 53, 54, 55, 56, 57, 58, 59, 60, 61, 62, 63, 64, 65, 66, 67, 68, 69, 70, 71, 72, 73, 74, 75, 76, 77, 78, 79, 80, 81, 82, 83, 84, 85, 86, 87, 88, 89, 90, 91, 92, 93, 94, 95, 96, 97] (by decide +kernel) (by decide +kernel)
set_option maxRecDepth 20000 in
theorem gX12_movedOf_X12_textGives : GoodIn wsX12_movedOf (wsV RX12 131 RX12 yX12_textGives wsX12_textGives) := goodIn_app (goodIn_of _ (by decide +kernel)) ggX12_movedOf_X12_textGives
set_option maxRecDepth 20000 in
theorem ggX12_seen_X12_cells : GoodIn wsX12_seen wsX12_cells := goodIn_r _ [5, 6, 76, 77, 78, 79, 80, 81, 82, 83, 84, 85, 86, 87, 88, 89, 90, 91, 92, 93, 94, 95, 96, 97, 98, 99, 100, 101] (by decide +kernel) (by decide +kernel)
set_option maxRecDepth 20000 in
theorem gX12_seen_X12_cells : GoodIn wsX12_seen (wsV RX12 51 RX12 yX12_cells wsX12_cells) := goodIn_app (goodIn_of _ (by decide +kernel)) ggX12_seen_X12_cells
set_option maxRecDepth 20000 in
theorem ggX12_seen_X12_seenOf : GoodIn wsX12_seen wsX12_seenOf := goodIn_r _ [10, 6, 11, 12, 13, 14, 15, 4, 16, 17, 18, 19, 20, 21, 22, 23, 24, 25, 26, 27, 28, 29, 30, 31, 32, 33, 34, 35, 36, 37, 38, 39, 40, 41, 42, 43, 44, 45, 46, 47, 48, 49, 50, 51, 52, 53, 54, 55, 56, 57, 58, 59, 60, 61, 62, 63, 64, 65, 66, 67, 68, 69, 70, 71, 72, 73, 74, 75, 76, 77, 78, 79, 80, 81, 82, 83, 84, 85, 86, 87, 88, 89, 90, 91, 92, 93, 94, 95, 96, 97, 98, 99, 100, 101] (by decide +kernel) (by decide +kernel)
set_option maxRecDepth 20000 in
theorem gX12_seen_X12_seenOf : GoodIn wsX12_seen (wsV RX12 150 RX12 yX12_seenOf wsX12_seenOf) := goodIn_app (goodIn_of _ (by decide +kernel)) ggX12_seen_X12_seenOf
set_option maxRecDepth 20000 in
theorem ggX12_shown_X12_seen : GoodIn wsX12_shown wsX12_seen := goodIn_r _ [5, 6, 7, 8, 4, 9, 10, 11, 12, 13, 14, 15, 16, 17, 18, 19, 20, 21, 22, 23, 24, 25, 26, 27, 28, 29, 30, 31, 32, 33, 34, 35, 36, 37, 38, 39, 40, 41, 42, 43, 44, 45, 46, 47, 48, 49, 50, 51, 52, 53, 54, 55, 56, 57, 58, 59, 60, 61, 62, 63, 64, 65, 66, 67, 68, 69, 70, 71, 72, 73, 74, 75, 76, 77, 78, 79, 80, 81, 82, 83, 84, 85, 86, 87, 88, 89, 90, 91, 92, 93, 94, 95, 96, 97, 98, 99, 100, 101, 102, 103, 104, 105] (by decide +kernel) (by decide +kernel)
set_option maxRecDepth 20000 in
theorem gX12_shown_X12_seen : GoodIn wsX12_shown (wsV RX12 153 RX12 yX12_seen wsX12_seen) := goodIn_app (goodIn_of _ (by decide +kernel)) ggX12_shown_X12_seen
set_option maxRecDepth 20000 in
theorem ggX12_allAir_X12_cells : GoodIn wsX12_allAir wsX12_cells := goodIn_r _ [6, 1, 7, 8, 9, 10, 11, 12, 13, 14, 15, 16, 17, 18, 19, 20, 21, 22, 23, 24, 25, 26, 27, 28, 29, 30, 31, 32] (by decide +kernel) (by decide +kernel)
set_option maxRecDepth 20000 in
theorem gX12_allAir_X12_cells : GoodIn wsX12_allAir (wsV RX12 51 RX12 yX12_cells wsX12_cells) := goodIn_app (goodIn_of _ (by decide +kernel)) ggX12_allAir_X12_cells
set_option maxRecDepth 20000 in
theorem ggX12_nextTo_X12_in : GoodIn wsX12_nextTo wsX12_in := goodIn_r _ [5] (by decide +kernel) (by decide +kernel)
set_option maxRecDepth 20000 in
theorem gX12_nextTo_X12_in : GoodIn wsX12_nextTo (va_wsS RX12 55 yX12_in wsX12_in) := goodIn_app (goodIn_of _ (by decide +kernel)) ggX12_nextTo_X12_in
set_option maxRecDepth 20000 in
theorem ggX12_bubbleOf_X12_cells : GoodIn wsX12_bubbleOf wsX12_cells := goodIn_r _ [6, 1, 14, 15, 16, 17, 18, 19, 20, 21, 22, 23, 24, 25, 26, 27, 28, 29, 30, 31, 32, 33, 34, 35, 36, 37, 38, 39] (by decide +kernel) (by decide +kernel)
set_option maxRecDepth 20000 in
theorem gX12_bubbleOf_X12_cells : GoodIn wsX12_bubbleOf (wsV RX12 51 RX12 yX12_cells wsX12_cells) := goodIn_app (goodIn_of _ (by decide +kernel)) ggX12_bubbleOf_X12_cells
set_option maxRecDepth 20000 in
theorem ggX12_bubbleOf_X12_nextTo : GoodIn wsX12_bubbleOf wsX12_nextTo := goodIn_r _ [10, 1, 11, 12, 5, 13, 14, 15, 16, 17, 18, 19, 20, 21, 22, 23, 24, 25, 26, 27, 28, 29, 30, 31, 32, 33, 34, 35, 36, 37, 38, 39] (by decide +kernel) (by decide +kernel)
set_option maxRecDepth 20000 in
theorem gX12_bubbleOf_X12_nextTo : GoodIn wsX12_bubbleOf (wsV RX12 156 RX12 yX12_nextTo wsX12_nextTo) := goodIn_app (goodIn_of _ (by decide +kernel)) ggX12_bubbleOf_X12_nextTo
set_option maxRecDepth 20000 in
theorem ggX12_sizeOf0_X12_cells : GoodIn wsX12_sizeOf0 wsX12_cells := goodIn_r _ [6, 1, 7, 8, 9, 10, 11, 12, 13, 14, 15, 16, 17, 18, 19, 20, 21, 22, 23, 24, 25, 26, 27, 28, 29, 30, 31, 32] (by decide +kernel) (by decide +kernel)
set_option maxRecDepth 20000 in
theorem gX12_sizeOf0_X12_cells : GoodIn wsX12_sizeOf0 (wsV RX12 51 RX12 yX12_cells wsX12_cells) := goodIn_app (goodIn_of _ (by decide +kernel)) ggX12_sizeOf0_X12_cells
set_option maxRecDepth 20000 in
theorem ggX12_ofCell_X12_isCell : GoodIn wsX12_ofCell wsX12_isCell := goodIn_r _ [7, 8, 9, 10, 6, 11, 2, 12, 13, 14, 99, 100, 101, 102, 103, 104, 105, 106, 107, 108, 109, 110, 111, 112, 113, 114, 115, 116, 117, 118, 119, 120, 121, 122, 123, 124] (by decide +kernel) (by decide +kernel)
set_option maxRecDepth 20000 in
theorem gX12_ofCell_X12_isCell : GoodIn wsX12_ofCell (wsV RX12 137 RX12 yX12_isCell wsX12_isCell) := goodIn_app (goodIn_of _ (by decide +kernel)) ggX12_ofCell_X12_isCell
set_option maxRecDepth 20000 in
theorem ggX12_ofCell_X12_in : GoodIn wsX12_ofCell wsX12_in := goodIn_r _ [14] (by decide +kernel) (by decide +kernel)
set_option maxRecDepth 20000 in
theorem gX12_ofCell_X12_in : GoodIn wsX12_ofCell (va_wsS RX12 55 yX12_in wsX12_in) := goodIn_app (goodIn_of _ (by decide +kernel)) ggX12_ofCell_X12_in
set_option maxRecDepth 20000 in
theorem ggX12_ofCell_X12_finds : GoodIn wsX12_ofCell wsX12_finds := goodIn_r _ [18, 19, 20, 99, 100, 101, 102, 103, 104, 105, 106, 107, 108, 109, 110, 111, 112, 113, 114, 115, 116, 117, 118, 119, 120, 121, 122, 123, 124] (by decide +kernel) (by decide +kernel)
set_option maxRecDepth 20000 in
theorem gX12_ofCell_X12_finds : GoodIn wsX12_ofCell (wsV RX12 119 RX12 yX12_finds wsX12_finds) := goodIn_app (goodIn_of _ (by decide +kernel)) ggX12_ofCell_X12_finds
set_option maxRecDepth 20000 in
theorem ggX12_ofCell_X12_seenOf : GoodIn wsX12_ofCell wsX12_seenOf := goodIn_r _ [24, 2, 25, 26, 27, 28, 29, 6, 30, 31, 32, 33, 34, 35, 36, 37, 38, 39, 40, 41, 42, 43, 44, 45, 46, 47, 48, 49, 50, 51, 52, 53, 54, 55, 56, 57, 58, 59, 60, 61, 62, 63, 64, 65, 66, 67, 68, 69, 70, 71, 72, 73, 74, 75, 76, 77, 78, 79, 80, 81, 82, 83, 12, 13, 14, 84, 85, 86, 99, 100, 101, 102, 103, 104, 105, 106, 107, 108, 109, 110, 111, 112, 113, 114, 115, 116, 117, 118, 119, 120, 121, 122, 123, 124] (by decide +kernel) (by decide +kernel)
set_option maxRecDepth 20000 in
theorem gX12_ofCell_X12_seenOf : GoodIn wsX12_ofCell (wsV RX12 150 RX12 yX12_seenOf wsX12_seenOf) := goodIn_app (goodIn_of _ (by decide +kernel)) ggX12_ofCell_X12_seenOf
set_option maxRecDepth 20000 in
theorem ggX12_ofCell_X12_bubbleOf : GoodIn wsX12_ofCell wsX12_bubbleOf := goodIn_r _ [90, 2, 8, 9, 10, 6, 11, 91, 92, 93, 94, 12, 13, 14, 99, 100, 101, 102, 103, 104, 105, 106, 107, 108, 109, 110, 111, 112, 113, 114, 115, 116, 117, 118, 119, 120, 121, 122, 123, 124] (by decide +kernel) (by decide +kernel)
set_option maxRecDepth 20000 in
theorem gX12_ofCell_X12_bubbleOf : GoodIn wsX12_ofCell (wsV RX12 160 RX12 yX12_bubbleOf wsX12_bubbleOf) := goodIn_app (goodIn_of _ (by decide +kernel)) ggX12_ofCell_X12_bubbleOf
set_option maxRecDepth 20000 in
theorem ggX12_ofCell_X12_sizeOf0 : GoodIn wsX12_ofCell wsX12_sizeOf0 := goodIn_r _ [98, 2, 8, 9, 10, 6, 11, 99, 100, 101, 102, 103, 104, 105, 106, 107, 108, 109, 110, 111, 112, 113, 114, 115, 116, 117, 118, 119, 120, 121, 122, 123, 124] (by decide +kernel) (by decide +kernel)
set_option maxRecDepth 20000 in
theorem gX12_ofCell_X12_sizeOf0 : GoodIn wsX12_ofCell (wsV RX12 163 RX12 yX12_sizeOf0 wsX12_sizeOf0) := goodIn_app (goodIn_of _ (by decide +kernel)) ggX12_ofCell_X12_sizeOf0
set_option maxRecDepth 20000 in
theorem ggX12_edge_X12_isWay : GoodIn wsX12_edge wsX12_isWay := goodIn_r _ [5, 6, 7, 8, 4, 9] (by decide +kernel) (by decide +kernel)
set_option maxRecDepth 20000 in
theorem gX12_edge_X12_isWay : GoodIn wsX12_edge (va_wsS RX12 166 yX12_isWay wsX12_isWay) := goodIn_app (goodIn_of _ (by decide +kernel)) ggX12_edge_X12_isWay
set_option maxRecDepth 20000 in
theorem ggX12_edge_X12_in : GoodIn wsX12_edge wsX12_in := goodIn_r _ [9] (by decide +kernel) (by decide +kernel)
set_option maxRecDepth 20000 in
theorem gX12_edge_X12_in : GoodIn wsX12_edge (va_wsS RX12 55 yX12_in wsX12_in) := goodIn_app (goodIn_of _ (by decide +kernel)) ggX12_edge_X12_in
set_option maxRecDepth 20000 in
theorem ggX12_edge_X12_finds : GoodIn wsX12_edge wsX12_finds := goodIn_r _ [13, 14, 15, 20, 21, 22, 23, 24, 25, 26, 27, 28, 29, 30, 31, 32, 33, 34, 35, 36, 37, 38, 39, 40, 41, 42, 43, 44, 45] (by decide +kernel) (by decide +kernel)
set_option maxRecDepth 20000 in
theorem gX12_edge_X12_finds : GoodIn wsX12_edge (wsV RX12 119 RX12 yX12_finds wsX12_finds) := goodIn_app (goodIn_of _ (by decide +kernel)) ggX12_edge_X12_finds
set_option maxRecDepth 20000 in
theorem ggX12_edge_X12_isOpen : GoodIn wsX12_edge wsX12_isOpen := goodIn_r _ [19, 1, 20, 21, 22, 23, 24, 25, 26, 27, 28, 29, 30, 31, 32, 33, 34, 35, 36, 37, 38, 39, 40, 41, 42, 43, 44, 45] (by decide +kernel) (by decide +kernel)
set_option maxRecDepth 20000 in
theorem gX12_edge_X12_isOpen : GoodIn wsX12_edge (wsV RX12 169 RX12 yX12_isOpen wsX12_isOpen) := goodIn_app (goodIn_of _ (by decide +kernel)) ggX12_edge_X12_isOpen
set_option maxRecDepth 20000 in
theorem ggX12_movesOf_X12_numberOf : GoodIn wsX12_movesOf wsX12_numberOf := goodIn_r _ [5, 6, 80, 81, 82, 83, 84, 85, 86, 87, 88, 89, 90, 91, 92, 93, 94, 95, 96, 97, 98, 99, 100, 101, 102, 103, 104, 105] (by decide +kernel) (by decide +kernel)
set_option maxRecDepth 20000 in
theorem gX12_movesOf_X12_numberOf : GoodIn wsX12_movesOf (wsV RX12 147 RX12 yX12_numberOf wsX12_numberOf) := goodIn_app (goodIn_of _ (by decide +kernel)) ggX12_movesOf_X12_numberOf
set_option maxRecDepth 20000 in
theorem ggX12_movesOf_X12_movedOf : GoodIn wsX12_movesOf wsX12_movedOf := goodIn_r _ [10, 11, 12, 1, 2, 3, 4, 5, 6, 13, 14, 15, 16, 17, 18, 19, 20, 21, 22, 23, 24, 25, 26, 27, 28, 29, 30, 31, 32, 33, 34, 35, 36, 37, 38, 39, 40, 41, 42, 43, 44, 45, 46, 47, 48, 49, 50, 51, 52, 53, 54, 55, 56, 57, 58, 59, 60, 61, 62, 63, 64, 65, 66, 67, 68, 69, 70, 71, 72, 73, 74, 75, 80, 81, 82, 83, 84, 85, 86, 87, 88, 89, 90, 91, 92, 93, 94, 95, 96, 97, 98, 99, 100, 101, 102, 103, 104, 105] (by decide +kernel) (by decide +kernel)
set_option maxRecDepth 20000 in
theorem gX12_movesOf_X12_movedOf : GoodIn wsX12_movesOf (wsV RX12 172 RX12 yX12_movedOf wsX12_movedOf) := goodIn_app (goodIn_of _ (by decide +kernel)) ggX12_movesOf_X12_movedOf
set_option maxRecDepth 20000 in
theorem ggX12_movesOf_X12_kindOf : GoodIn wsX12_movesOf wsX12_kindOf := goodIn_r _ [79, 6, 80, 81, 82, 83, 84, 85, 86, 87, 88, 89, 90, 91, 92, 93, 94, 95, 96, 97, 98, 99, 100, 101, 102, 103, 104, 105] (by decide +kernel) (by decide +kernel)
set_option maxRecDepth 20000 in
theorem gX12_movesOf_X12_kindOf : GoodIn wsX12_movesOf (wsV RX12 175 RX12 yX12_kindOf wsX12_kindOf) := goodIn_app (goodIn_of _ (by decide +kernel)) ggX12_movesOf_X12_kindOf
set_option maxRecDepth 20000 in
theorem ggX12_reachOf_X12_kindOf : GoodIn wsX12_reachOf wsX12_kindOf := goodIn_r _ [5, 6, 11, 12, 13, 14, 15, 16, 17, 18, 19, 20, 21, 22, 23, 24, 25, 26, 27, 28, 29, 30, 31, 32, 33, 34, 35, 36] (by decide +kernel) (by decide +kernel)
set_option maxRecDepth 20000 in
theorem gX12_reachOf_X12_kindOf : GoodIn wsX12_reachOf (wsV RX12 175 RX12 yX12_kindOf wsX12_kindOf) := goodIn_app (goodIn_of _ (by decide +kernel)) ggX12_reachOf_X12_kindOf
set_option maxRecDepth 20000 in
theorem ggX12_reachOf_X12_numberOf : GoodIn wsX12_reachOf wsX12_numberOf := goodIn_r _ [10, 6, 11, 12, 13, 14, 15, 16, 17, 18, 19, 20, 21, 22, 23, 24, 25, 26, 27, 28, 29, 30, 31, 32, 33, 34, 35, 36] (by decide +kernel) (by decide +kernel)
set_option maxRecDepth 20000 in
theorem gX12_reachOf_X12_numberOf : GoodIn wsX12_reachOf (wsV RX12 147 RX12 yX12_numberOf wsX12_numberOf) := goodIn_app (goodIn_of _ (by decide +kernel)) ggX12_reachOf_X12_numberOf
set_option maxRecDepth 20000 in
theorem ggX12_letsOf_X12_kindOf : GoodIn wsX12_letsOf wsX12_kindOf := goodIn_r _ [5, 6, 11, 12, 13, 14, 15, 16, 17, 18, 19, 20, 21, 22, 23, 24, 25, 26, 27, 28, 29, 30, 31, 32, 33, 34, 35, 36] (by decide +kernel) (by decide +kernel)
set_option maxRecDepth 20000 in
theorem gX12_letsOf_X12_kindOf : GoodIn wsX12_letsOf (wsV RX12 175 RX12 yX12_kindOf wsX12_kindOf) := goodIn_app (goodIn_of _ (by decide +kernel)) ggX12_letsOf_X12_kindOf
set_option maxRecDepth 20000 in
theorem ggX12_letsOf_X12_numberOf : GoodIn wsX12_letsOf wsX12_numberOf := goodIn_r _ [10, 6, 11, 12, 13, 14, 15, 16, 17, 18, 19, 20, 21, 22, 23, 24, 25, 26, 27, 28, 29, 30, 31, 32, 33, 34, 35, 36] (by decide +kernel) (by decide +kernel)
set_option maxRecDepth 20000 in
theorem gX12_letsOf_X12_numberOf : GoodIn wsX12_letsOf (wsV RX12 147 RX12 yX12_numberOf wsX12_numberOf) := goodIn_app (goodIn_of _ (by decide +kernel)) ggX12_letsOf_X12_numberOf
set_option maxRecDepth 20000 in
theorem ggX12_tearsOf_X12_kindOf : GoodIn wsX12_tearsOf wsX12_kindOf := goodIn_r _ [5, 6, 7, 8, 9, 10, 11, 12, 13, 14, 15, 16, 17, 18, 19, 20, 21, 22, 23, 24, 25, 26, 27, 28, 29, 30, 31, 32] (by decide +kernel) (by decide +kernel)
set_option maxRecDepth 20000 in
theorem gX12_tearsOf_X12_kindOf : GoodIn wsX12_tearsOf (wsV RX12 175 RX12 yX12_kindOf wsX12_kindOf) := goodIn_app (goodIn_of _ (by decide +kernel)) ggX12_tearsOf_X12_kindOf
set_option maxRecDepth 20000 in
theorem ggX12_tool_X12_in : GoodIn wsX12_tool wsX12_in := goodIn_r _ [6] (by decide +kernel) (by decide +kernel)
set_option maxRecDepth 20000 in
theorem gX12_tool_X12_in : GoodIn wsX12_tool (va_wsS RX12 55 yX12_in wsX12_in) := goodIn_app (goodIn_of _ (by decide +kernel)) ggX12_tool_X12_in
set_option maxRecDepth 20000 in
theorem ggX12_tool_X12_finds : GoodIn wsX12_tool wsX12_finds := goodIn_r _ [10, 11, 12, 13, 14, 15, 16, 17, 18, 19, 20, 21, 22, 23, 24, 25, 26, 27, 28, 29, 30, 31, 32, 33, 34, 35, 36, 37, 38] (by decide +kernel) (by decide +kernel)
set_option maxRecDepth 20000 in
theorem gX12_tool_X12_finds : GoodIn wsX12_tool (wsV RX12 119 RX12 yX12_finds wsX12_finds) := goodIn_app (goodIn_of _ (by decide +kernel)) ggX12_tool_X12_finds
set_option maxRecDepth 20000 in
theorem ggX12_ofTool_X12_isTool : GoodIn wsX12_ofTool wsX12_isTool := goodIn_r _ [6, 7, 8, 9, 5, 10, 107, 108, 109, 110, 111, 112, 113, 114, 115, 116, 117, 118, 119, 120, 121, 122, 123, 124, 125, 126, 127, 128, 129, 130, 131, 132] (by decide +kernel) (by decide +kernel)
set_option maxRecDepth 20000 in
theorem gX12_ofTool_X12_isTool : GoodIn wsX12_ofTool (wsV RX12 180 RX12 yX12_isTool wsX12_isTool) := goodIn_app (goodIn_of _ (by decide +kernel)) ggX12_ofTool_X12_isTool
set_option maxRecDepth 20000 in
theorem ggX12_ofTool_X12_in : GoodIn wsX12_ofTool wsX12_in := goodIn_r _ [10] (by decide +kernel) (by decide +kernel)
set_option maxRecDepth 20000 in
theorem gX12_ofTool_X12_in : GoodIn wsX12_ofTool (va_wsS RX12 55 yX12_in wsX12_in) := goodIn_app (goodIn_of _ (by decide +kernel)) ggX12_ofTool_X12_in
set_option maxRecDepth 20000 in
theorem ggX12_ofTool_X12_finds : GoodIn wsX12_ofTool wsX12_finds := goodIn_r _ [14, 15, 16, 107, 108, 109, 110, 111, 112, 113, 114, 115, 116, 117, 118, 119, 120, 121, 122, 123, 124, 125, 126, 127, 128, 129, 130, 131, 132] (by decide +kernel) (by decide +kernel)
set_option maxRecDepth 20000 in
theorem gX12_ofTool_X12_finds : GoodIn wsX12_ofTool (wsV RX12 119 RX12 yX12_finds wsX12_finds) := goodIn_app (goodIn_of _ (by decide +kernel)) ggX12_ofTool_X12_finds
set_option maxRecDepth 20000 in
theorem ggX12_ofTool_X12_kindOf : GoodIn wsX12_ofTool wsX12_kindOf := goodIn_r _ [20, 7, 107, 108, 109, 110, 111, 112, 113, 114, 115, 116, 117, 118, 119, 120, 121, 122, 123, 124, 125, 126, 127, 128, 129, 130, 131, 132] (by decide +kernel) (by decide +kernel)
set_option maxRecDepth 20000 in
theorem gX12_ofTool_X12_kindOf : GoodIn wsX12_ofTool (wsV RX12 175 RX12 yX12_kindOf wsX12_kindOf) := goodIn_app (goodIn_of _ (by decide +kernel)) ggX12_ofTool_X12_kindOf
set_option maxRecDepth 20000 in
theorem ggX12_ofTool_X12_numberOf : GoodIn wsX12_ofTool wsX12_numberOf := goodIn_r _ [24, 7, 107, 108, 109, 110, 111, 112, 113, 114, 115, 116, 117, 118, 119, 120, 121, 122, 123, 124, 125, 126, 127, 128, 129, 130, 131, 132] (by decide +kernel) (by decide +kernel)
set_option maxRecDepth 20000 in
theorem gX12_ofTool_X12_numberOf : GoodIn wsX12_ofTool (wsV RX12 147 RX12 yX12_numberOf wsX12_numberOf) := goodIn_app (goodIn_of _ (by decide +kernel)) ggX12_ofTool_X12_numberOf
set_option maxRecDepth 20000 in
theorem ggX12_ofTool_X12_reachOf : GoodIn wsX12_ofTool wsX12_reachOf := goodIn_r _ [28, 17, 18, 19, 5, 20, 7, 21, 22, 23, 24, 107, 108, 109, 110, 111, 112, 113, 114, 115, 116, 117, 118, 119, 120, 121, 122, 123, 124, 125, 126, 127, 128, 129, 130, 131, 132] (by decide +kernel) (by decide +kernel)
set_option maxRecDepth 20000 in
theorem gX12_ofTool_X12_reachOf : GoodIn wsX12_ofTool (wsV RX12 185 RX12 yX12_reachOf wsX12_reachOf) := goodIn_app (goodIn_of _ (by decide +kernel)) ggX12_ofTool_X12_reachOf
set_option maxRecDepth 20000 in
theorem ggX12_ofTool_X12_movesOf : GoodIn wsX12_ofTool wsX12_movesOf := goodIn_r _ [32, 21, 22, 23, 5, 24, 7, 33, 34, 35, 36, 37, 38, 39, 40, 41, 42, 43, 44, 45, 46, 47, 48, 49, 50, 51, 52, 53, 54, 55, 56, 57, 58, 59, 60, 61, 62, 63, 64, 65, 66, 67, 68, 69, 70, 71, 72, 73, 74, 75, 76, 77, 78, 79, 80, 81, 82, 83, 84, 85, 86, 87, 88, 89, 90, 91, 92, 93, 94, 95, 8, 9, 10, 96, 97, 98, 17, 18, 19, 20, 107, 108, 109, 110, 111, 112, 113, 114, 115, 116, 117, 118, 119, 120, 121, 122, 123, 124, 125, 126, 127, 128, 129, 130, 131, 132] (by decide +kernel) (by decide +kernel)
set_option maxRecDepth 20000 in
theorem gX12_ofTool_X12_movesOf : GoodIn wsX12_ofTool (wsV RX12 188 RX12 yX12_movesOf wsX12_movesOf) := goodIn_app (goodIn_of _ (by decide +kernel)) ggX12_ofTool_X12_movesOf
set_option maxRecDepth 20000 in
theorem ggX12_ofTool_X12_letsOf : GoodIn wsX12_ofTool wsX12_letsOf := goodIn_r _ [102, 17, 18, 19, 5, 20, 7, 21, 22, 23, 24, 107, 108, 109, 110, 111, 112, 113, 114, 115, 116, 117, 118, 119, 120, 121, 122, 123, 124, 125, 126, 127, 128, 129, 130, 131, 132] (by decide +kernel) (by decide +kernel)
set_option maxRecDepth 20000 in
theorem gX12_ofTool_X12_letsOf : GoodIn wsX12_ofTool (wsV RX12 191 RX12 yX12_letsOf wsX12_letsOf) := goodIn_app (goodIn_of _ (by decide +kernel)) ggX12_ofTool_X12_letsOf
set_option maxRecDepth 20000 in
theorem ggX12_ofTool_X12_tearsOf : GoodIn wsX12_ofTool wsX12_tearsOf := goodIn_r _ [106, 17, 18, 19, 5, 20, 7, 107, 108, 109, 110, 111, 112, 113, 114, 115, 116, 117, 118, 119, 120, 121, 122, 123, 124, 125, 126, 127, 128, 129, 130, 131, 132] (by decide +kernel) (by decide +kernel)
set_option maxRecDepth 20000 in
theorem gX12_ofTool_X12_tearsOf : GoodIn wsX12_ofTool (wsV RX12 194 RX12 yX12_tearsOf wsX12_tearsOf) := goodIn_app (goodIn_of _ (by decide +kernel)) ggX12_ofTool_X12_tearsOf
set_option maxRecDepth 20000 in
theorem ggX12_become_X12_isTool : GoodIn wsX12_become wsX12_isTool := goodIn_r _ [7, 2, 8, 9, 6, 10, 21, 22, 23, 24, 25, 26, 27, 28, 29, 30, 31, 32, 33, 34, 35, 36, 37, 38, 39, 40, 41, 42, 43, 44, 45, 46] (by decide +kernel) (by decide +kernel)
set_option maxRecDepth 20000 in
theorem gX12_become_X12_isTool : GoodIn wsX12_become (wsV RX12 180 RX12 yX12_isTool wsX12_isTool) := goodIn_app (goodIn_of _ (by decide +kernel)) ggX12_become_X12_isTool
set_option maxRecDepth 20000 in
theorem ggX12_become_X12_in : GoodIn wsX12_become wsX12_in := goodIn_r _ [10] (by decide +kernel) (by decide +kernel)
set_option maxRecDepth 20000 in
theorem gX12_become_X12_in : GoodIn wsX12_become (va_wsS RX12 55 yX12_in wsX12_in) := goodIn_app (goodIn_of _ (by decide +kernel)) ggX12_become_X12_in
set_option maxRecDepth 20000 in
theorem ggX12_become_X12_finds : GoodIn wsX12_become wsX12_finds := goodIn_r _ [14, 15, 16, 21, 22, 23, 24, 25, 26, 27, 28, 29, 30, 31, 32, 33, 34, 35, 36, 37, 38, 39, 40, 41, 42, 43, 44, 45, 46] (by decide +kernel) (by decide +kernel)
set_option maxRecDepth 20000 in
theorem gX12_become_X12_finds : GoodIn wsX12_become (wsV RX12 119 RX12 yX12_finds wsX12_finds) := goodIn_app (goodIn_of _ (by decide +kernel)) ggX12_become_X12_finds
set_option maxRecDepth 20000 in
theorem ggX12_become_X12_kindOf : GoodIn wsX12_become wsX12_kindOf := goodIn_r _ [20, 2, 21, 22, 23, 24, 25, 26, 27, 28, 29, 30, 31, 32, 33, 34, 35, 36, 37, 38, 39, 40, 41, 42, 43, 44, 45, 46] (by decide +kernel) (by decide +kernel)
set_option maxRecDepth 20000 in
theorem gX12_become_X12_kindOf : GoodIn wsX12_become (wsV RX12 175 RX12 yX12_kindOf wsX12_kindOf) := goodIn_app (goodIn_of _ (by decide +kernel)) ggX12_become_X12_kindOf
set_option maxRecDepth 20000 in
theorem ggX12_as_X12_isTool : GoodIn wsX12_as wsX12_isTool := goodIn_r _ [6, 7, 8, 9, 5, 10, 28, 29, 30, 31, 32, 33, 34, 35, 36, 37, 38, 39, 40, 41, 42, 43, 44, 45, 46, 47, 48, 49, 50, 51, 52, 53] (by decide +kernel) (by decide +kernel)
set_option maxRecDepth 20000 in
theorem gX12_as_X12_isTool : GoodIn wsX12_as (wsV RX12 180 RX12 yX12_isTool wsX12_isTool) := goodIn_app (goodIn_of _ (by decide +kernel)) ggX12_as_X12_isTool
set_option maxRecDepth 20000 in
theorem ggX12_as_X12_in : GoodIn wsX12_as wsX12_in := goodIn_r _ [10] (by decide +kernel) (by decide +kernel)
set_option maxRecDepth 20000 in
theorem gX12_as_X12_in : GoodIn wsX12_as (va_wsS RX12 55 yX12_in wsX12_in) := goodIn_app (goodIn_of _ (by decide +kernel)) ggX12_as_X12_in
set_option maxRecDepth 20000 in
theorem ggX12_as_X12_finds : GoodIn wsX12_as wsX12_finds := goodIn_r _ [14, 15, 16, 28, 29, 30, 31, 32, 33, 34, 35, 36, 37, 38, 39, 40, 41, 42, 43, 44, 45, 46, 47, 48, 49, 50, 51, 52, 53] (by decide +kernel) (by decide +kernel)
set_option maxRecDepth 20000 in
theorem gX12_as_X12_finds : GoodIn wsX12_as (wsV RX12 119 RX12 yX12_finds wsX12_finds) := goodIn_app (goodIn_of _ (by decide +kernel)) ggX12_as_X12_finds
set_option maxRecDepth 20000 in
theorem ggX12_as_X12_kindOf : GoodIn wsX12_as wsX12_kindOf := goodIn_r _ [20, 7, 28, 29, 30, 31, 32, 33, 34, 35, 36, 37, 38, 39, 40, 41, 42, 43, 44, 45, 46, 47, 48, 49, 50, 51, 52, 53] (by decide +kernel) (by decide +kernel)
set_option maxRecDepth 20000 in
theorem gX12_as_X12_kindOf : GoodIn wsX12_as (wsV RX12 175 RX12 yX12_kindOf wsX12_kindOf) := goodIn_app (goodIn_of _ (by decide +kernel)) ggX12_as_X12_kindOf
set_option maxRecDepth 20000 in
theorem ggX12_as_X12_above : GoodIn wsX12_as wsX12_above := goodIn_r _ [23] (by decide +kernel) (by decide +kernel)
set_option maxRecDepth 20000 in
theorem gX12_as_X12_above : GoodIn wsX12_as (va_wsS RX12 197 yX12_above wsX12_above) := goodIn_app (goodIn_of _ (by decide +kernel)) ggX12_as_X12_above
set_option maxRecDepth 20000 in
theorem ggX12_as_X12_numberOf : GoodIn wsX12_as wsX12_numberOf := goodIn_r _ [27, 7, 28, 29, 30, 31, 32, 33, 34, 35, 36, 37, 38, 39, 40, 41, 42, 43, 44, 45, 46, 47, 48, 49, 50, 51, 52, 53] (by decide +kernel) (by decide +kernel)
set_option maxRecDepth 20000 in
theorem gX12_as_X12_numberOf : GoodIn wsX12_as (wsV RX12 147 RX12 yX12_numberOf wsX12_numberOf) := goodIn_app (goodIn_of _ (by decide +kernel)) ggX12_as_X12_numberOf
set_option maxRecDepth 20000 in
theorem ggX12_strokes_X12_letsOf : GoodIn wsX12_strokes wsX12_letsOf := goodIn_r _ [7, 8, 9, 10, 6, 11, 1, 12, 13, 14, 15, 109, 110, 111, 112, 113, 114, 115, 116, 117, 118, 119, 120, 121, 122, 123, 124, 125, 126, 127, 128, 129, 130, 131, 132, 133, 134] (by decide +kernel) (by decide +kernel)
set_option maxRecDepth 20000 in
theorem gX12_strokes_X12_letsOf : GoodIn wsX12_strokes (wsV RX12 191 RX12 yX12_letsOf wsX12_letsOf) := goodIn_app (goodIn_of _ (by decide +kernel)) ggX12_strokes_X12_letsOf
set_option maxRecDepth 20000 in
theorem ggX12_strokes_X12_goesOut : GoodIn wsX12_strokes wsX12_goesOut := goodIn_r _ [19, 1, 2, 109, 110, 111, 112, 113, 114, 115, 116, 117, 118, 119, 120, 121, 122, 123, 124, 125, 126, 127, 128, 129, 130, 131, 132, 133, 134] (by decide +kernel) (by decide +kernel)
set_option maxRecDepth 20000 in
theorem gX12_strokes_X12_goesOut : GoodIn wsX12_strokes (wsV RX12 201 RX12 yX12_goesOut wsX12_goesOut) := goodIn_app (goodIn_of _ (by decide +kernel)) ggX12_strokes_X12_goesOut
set_option maxRecDepth 20000 in
theorem ggX12_strokes_X12_tearsOf : GoodIn wsX12_strokes wsX12_tearsOf := goodIn_r _ [23, 8, 9, 10, 6, 11, 1, 109, 110, 111, 112, 113, 114, 115, 116, 117, 118, 119, 120, 121, 122, 123, 124, 125, 126, 127, 128, 129, 130, 131, 132, 133, 134] (by decide +kernel) (by decide +kernel)
set_option maxRecDepth 20000 in
theorem gX12_strokes_X12_tearsOf : GoodIn wsX12_strokes (wsV RX12 194 RX12 yX12_tearsOf wsX12_tearsOf) := goodIn_app (goodIn_of _ (by decide +kernel)) ggX12_strokes_X12_tearsOf
set_option maxRecDepth 20000 in
theorem ggX12_strokes_X12_reachOf : GoodIn wsX12_strokes wsX12_reachOf := goodIn_r _ [27, 8, 9, 10, 6, 11, 1, 12, 13, 14, 15, 109, 110, 111, 112, 113, 114, 115, 116, 117, 118, 119, 120, 121, 122, 123, 124, 125, 126, 127, 128, 129, 130, 131, 132, 133, 134] (by decide +kernel) (by decide +kernel)
set_option maxRecDepth 20000 in
theorem gX12_strokes_X12_reachOf : GoodIn wsX12_strokes (wsV RX12 185 RX12 yX12_reachOf wsX12_reachOf) := goodIn_app (goodIn_of _ (by decide +kernel)) ggX12_strokes_X12_reachOf
set_option maxRecDepth 20000 in
theorem ggX12_strokes_X12_movesOf : GoodIn wsX12_strokes wsX12_movesOf := goodIn_r _ [31, 12, 13, 14, 6, 15, 1, 32, 33, 34, 35, 36, 37, 38, 39, 40, 41, 42, 43, 44, 45, 46, 47, 48, 49, 50, 51, 52, 53, 54, 55, 56, 57, 58, 59, 60, 61, 62, 63, 64, 65, 66, 67, 68, 69, 70, 71, 72, 73, 74, 75, 76, 77, 78, 79, 80, 81, 82, 83, 84, 85, 86, 87, 88, 89, 90, 91, 92, 93, 94, 95, 96, 97, 98, 99, 100, 8, 9, 10, 11, 109, 110, 111, 112, 113, 114, 115, 116, 117, 118, 119, 120, 121, 122, 123, 124, 125, 126, 127, 128, 129, 130, 131, 132, 133, 134] (by decide +kernel) (by decide +kernel)
set_option maxRecDepth 20000 in
theorem gX12_strokes_X12_movesOf : GoodIn wsX12_strokes (wsV RX12 188 RX12 yX12_movesOf wsX12_movesOf) := goodIn_app (goodIn_of _ (by decide +kernel)) ggX12_strokes_X12_movesOf
set_option maxRecDepth 20000 in
theorem ggX12_strokes_X12_nextTo : GoodIn wsX12_strokes wsX12_nextTo := goodIn_r _ [104, 1, 95, 96, 6, 97, 109, 110, 111, 112, 113, 114, 115, 116, 117, 118, 119, 120, 121, 122, 123, 124, 125, 126, 127, 128, 129, 130, 131, 132, 133, 134] (by decide +kernel) (by decide +kernel)
set_option maxRecDepth 20000 in
theorem gX12_strokes_X12_nextTo : GoodIn wsX12_strokes (wsV RX12 156 RX12 yX12_nextTo wsX12_nextTo) := goodIn_app (goodIn_of _ (by decide +kernel)) ggX12_strokes_X12_nextTo
set_option maxRecDepth 20000 in
theorem ggX12_strokes_X12_isOpen : GoodIn wsX12_strokes wsX12_isOpen := goodIn_r _ [108, 1, 109, 110, 111, 112, 113, 114, 115, 116, 117, 118, 119, 120, 121, 122, 123, 124, 125, 126, 127, 128, 129, 130, 131, 132, 133, 134] (by decide +kernel) (by decide +kernel)
set_option maxRecDepth 20000 in
theorem gX12_strokes_X12_isOpen : GoodIn wsX12_strokes (wsV RX12 169 RX12 yX12_isOpen wsX12_isOpen) := goodIn_app (goodIn_of _ (by decide +kernel)) ggX12_strokes_X12_isOpen
set_option maxRecDepth 20000 in
theorem ggX12_stroke_X12_isTool : GoodIn wsX12_stroke wsX12_isTool := goodIn_r _ [6, 1, 7, 8, 5, 9, 135, 136, 137, 138, 139, 140, 141, 142, 143, 144, 145, 146, 147, 148, 149, 150, 151, 152, 153, 154, 155, 156, 157, 158, 159, 160] (by decide +kernel) (by decide +kernel)
set_option maxRecDepth 20000 in
theorem gX12_stroke_X12_isTool : GoodIn wsX12_stroke (wsV RX12 180 RX12 yX12_isTool wsX12_isTool) := goodIn_app (goodIn_of _ (by decide +kernel)) ggX12_stroke_X12_isTool
set_option maxRecDepth 20000 in
theorem ggX12_stroke_X12_isCell : GoodIn wsX12_stroke wsX12_isCell := goodIn_r _ [13, 14, 15, 16, 5, 17, 1, 7, 8, 9, 135, 136, 137, 138, 139, 140, 141, 142, 143, 144, 145, 146, 147, 148, 149, 150, 151, 152, 153, 154, 155, 156, 157, 158, 159, 160] (by decide +kernel) (by decide +kernel)
set_option maxRecDepth 20000 in
theorem gX12_stroke_X12_isCell : GoodIn wsX12_stroke (wsV RX12 137 RX12 yX12_isCell wsX12_isCell) := goodIn_app (goodIn_of _ (by decide +kernel)) ggX12_stroke_X12_isCell
set_option maxRecDepth 20000 in
theorem ggX12_stroke_X12_isWay : GoodIn wsX12_stroke wsX12_isWay := goodIn_r _ [20, 21, 7, 8, 5, 9] (by decide +kernel) (by decide +kernel)
set_option maxRecDepth 20000 in
theorem gX12_stroke_X12_isWay : GoodIn wsX12_stroke (va_wsS RX12 166 yX12_isWay wsX12_isWay) := goodIn_app (goodIn_of _ (by decide +kernel)) ggX12_stroke_X12_isWay
set_option maxRecDepth 20000 in
theorem ggX12_stroke_X12_finds : GoodIn wsX12_stroke wsX12_finds := goodIn_r _ [25, 26, 27, 135, 136, 137, 138, 139, 140, 141, 142, 143, 144, 145, 146, 147, 148, 149, 150, 151, 152, 153, 154, 155, 156, 157, 158, 159, 160] (by decide +kernel) (by decide +kernel)
set_option maxRecDepth 20000 in
theorem gX12_stroke_X12_finds : GoodIn wsX12_stroke (wsV RX12 119 RX12 yX12_finds wsX12_finds) := goodIn_app (goodIn_of _ (by decide +kernel)) ggX12_stroke_X12_finds
set_option maxRecDepth 20000 in
theorem ggX12_stroke_X12_strokes : GoodIn wsX12_stroke wsX12_strokes := goodIn_r _ [31, 1, 32, 33, 34, 35, 5, 36, 37, 38, 39, 40, 41, 42, 43, 44, 45, 46, 47, 48, 49, 50, 51, 52, 53, 54, 55, 56, 57, 58, 59, 60, 61, 62, 63, 64, 65, 66, 67, 68, 69, 70, 71, 72, 73, 74, 75, 76, 77, 78, 79, 80, 81, 82, 83, 84, 85, 86, 87, 88, 89, 90, 91, 92, 93, 94, 95, 96, 97, 98, 99, 100, 101, 102, 103, 104, 105, 106, 107, 108, 109, 110, 111, 112, 113, 114, 115, 116, 117, 118, 119, 120, 121, 122, 123, 7, 8, 9, 124, 125, 126, 127, 128, 129, 130, 131, 132, 133, 134, 135, 136, 137, 138, 139, 140, 141, 142, 143, 144, 145, 146, 147, 148, 149, 150, 151, 152, 153, 154, 155, 156, 157, 158, 159, 160] (by decide +kernel) (by decide +kernel)
set_option maxRecDepth 20000 in
theorem gX12_stroke_X12_strokes : GoodIn wsX12_stroke (wsV RX12 205 RX12 yX12_strokes wsX12_strokes) := goodIn_app (goodIn_of _ (by decide +kernel)) ggX12_stroke_X12_strokes
set_option maxRecDepth 20000 in
theorem ggX12_nightGoes_X12_cells : GoodIn wsX12_nightGoes wsX12_cells := goodIn_r _ [6, 1, 7, 8, 9, 10, 11, 12, 13, 14, 15, 16, 17, 18, 19, 20, 21, 22, 23, 24, 25, 26, 27, 28, 29, 30, 31, 32] (by decide +kernel) (by decide +kernel)
set_option maxRecDepth 20000 in
theorem gX12_nightGoes_X12_cells : GoodIn wsX12_nightGoes (wsV RX12 51 RX12 yX12_cells wsX12_cells) := goodIn_app (goodIn_of _ (by decide +kernel)) ggX12_nightGoes_X12_cells
set_option maxRecDepth 20000 in
theorem ggX12_nights_X12_in : GoodIn wsX12_nights wsX12_in := goodIn_r _ [6] (by decide +kernel) (by decide +kernel)
set_option maxRecDepth 20000 in
theorem gX12_nights_X12_in : GoodIn wsX12_nights (va_wsS RX12 55 yX12_in wsX12_in) := goodIn_app (goodIn_of _ (by decide +kernel)) ggX12_nights_X12_in
set_option maxRecDepth 20000 in
theorem ggX12_nights_X12_finds : GoodIn wsX12_nights wsX12_finds := goodIn_r _ [10, 11, 12, 25, 26, 27, 28, 29, 30, 31, 32, 33, 34, 35, 36, 37, 38, 39, 40, 41, 42, 43, 44, 45, 46, 47, 48, 49, 50] (by decide +kernel) (by decide +kernel)
set_option maxRecDepth 20000 in
theorem gX12_nights_X12_finds : GoodIn wsX12_nights (wsV RX12 119 RX12 yX12_finds wsX12_finds) := goodIn_app (goodIn_of _ (by decide +kernel)) ggX12_nights_X12_finds
set_option maxRecDepth 20000 in
theorem ggX12_nights_X12_nightGoes : GoodIn wsX12_nights wsX12_nightGoes := goodIn_r _ [16, 2, 17, 18, 19, 5, 20, 25, 26, 27, 28, 29, 30, 31, 32, 33, 34, 35, 36, 37, 38, 39, 40, 41, 42, 43, 44, 45, 46, 47, 48, 49, 50] (by decide +kernel) (by decide +kernel)
set_option maxRecDepth 20000 in
theorem gX12_nights_X12_nightGoes : GoodIn wsX12_nights (wsV RX12 211 RX12 yX12_nightGoes wsX12_nightGoes) := goodIn_app (goodIn_of _ (by decide +kernel)) ggX12_nights_X12_nightGoes
set_option maxRecDepth 20000 in
theorem ggX12_nights_X12_allAir : GoodIn wsX12_nights wsX12_allAir := goodIn_r _ [24, 2, 17, 18, 19, 5, 20, 25, 26, 27, 28, 29, 30, 31, 32, 33, 34, 35, 36, 37, 38, 39, 40, 41, 42, 43, 44, 45, 46, 47, 48, 49, 50] (by decide +kernel) (by decide +kernel)
set_option maxRecDepth 20000 in
theorem gX12_nights_X12_allAir : GoodIn wsX12_nights (wsV RX12 214 RX12 yX12_allAir wsX12_allAir) := goodIn_app (goodIn_of _ (by decide +kernel)) ggX12_nights_X12_allAir
set_option maxRecDepth 20000 in
theorem ggX12_days_X12_in : GoodIn wsX12_days wsX12_in := goodIn_r _ [6] (by decide +kernel) (by decide +kernel)
set_option maxRecDepth 20000 in
theorem gX12_days_X12_in : GoodIn wsX12_days (va_wsS RX12 55 yX12_in wsX12_in) := goodIn_app (goodIn_of _ (by decide +kernel)) ggX12_days_X12_in
set_option maxRecDepth 20000 in
theorem ggX12_days_X12_finds : GoodIn wsX12_days wsX12_finds := goodIn_r _ [10, 11, 12, 137, 138, 139, 140, 141, 142, 143, 144, 145, 146, 147, 148, 149, 150, 151, 152, 153, 154, 155, 156, 157, 158, 159, 160, 161, 162] (by decide +kernel) (by decide +kernel)
set_option maxRecDepth 20000 in
theorem gX12_days_X12_finds : GoodIn wsX12_days (wsV RX12 119 RX12 yX12_finds wsX12_finds) := goodIn_app (goodIn_of _ (by decide +kernel)) ggX12_days_X12_finds
set_option maxRecDepth 20000 in
theorem ggX12_days_X12_drawn : GoodIn wsX12_days wsX12_drawn := goodIn_r _ [16, 2, 17, 137, 138, 139, 140, 141, 142, 143, 144, 145, 146, 147, 148, 149, 150, 151, 152, 153, 154, 155, 156, 157, 158, 159, 160, 161, 162] (by decide +kernel) (by decide +kernel)
set_option maxRecDepth 20000 in
theorem gX12_days_X12_drawn : GoodIn wsX12_days (wsV RX12 218 RX12 yX12_drawn wsX12_drawn) := goodIn_app (goodIn_of _ (by decide +kernel)) ggX12_days_X12_drawn
set_option maxRecDepth 20000 in
theorem ggX12_days_X12_cells : GoodIn wsX12_days wsX12_cells := goodIn_r _ [21, 2, 137, 138, 139, 140, 141, 142, 143, 144, 145, 146, 147, 148, 149, 150, 151, 152, 153, 154, 155, 156, 157, 158, 159, 160, 161, 162] (by decide +kernel) (by decide +kernel)
set_option maxRecDepth 20000 in
theorem gX12_days_X12_cells : GoodIn wsX12_days (wsV RX12 51 RX12 yX12_cells wsX12_cells) := goodIn_app (goodIn_of _ (by decide +kernel)) ggX12_days_X12_cells
set_option maxRecDepth 20000 in
theorem ggX12_days_X12_strokes : GoodIn wsX12_days wsX12_strokes := goodIn_r _ [25, 2, 26, 27, 28, 29, 5, 30, 31, 32, 33, 34, 35, 36, 37, 38, 39, 40, 41, 42, 43, 44, 45, 46, 47, 48, 49, 50, 51, 52, 53, 54, 55, 56, 57, 58, 59, 60, 61, 62, 63, 64, 65, 66, 67, 68, 69, 70, 71, 72, 73, 74, 75, 76, 77, 78, 79, 80, 81, 82, 83, 84, 85, 86, 87, 88, 89, 90, 91, 92, 93, 94, 95, 96, 97, 98, 99, 100, 101, 102, 103, 104, 105, 106, 107, 108, 109, 110, 111, 112, 113, 114, 115, 116, 117, 3, 4, 6, 118, 119, 120, 121, 122, 123, 124, 125, 126, 127, 128, 137, 138, 139, 140, 141, 142, 143, 144, 145, 146, 147, 148, 149, 150, 151, 152, 153, 154, 155, 156, 157, 158, 159, 160, 161, 162] (by decide +kernel) (by decide +kernel)
set_option maxRecDepth 20000 in
theorem gX12_days_X12_strokes : GoodIn wsX12_days (wsV RX12 205 RX12 yX12_strokes wsX12_strokes) := goodIn_app (goodIn_of _ (by decide +kernel)) ggX12_days_X12_strokes
set_option maxRecDepth 20000 in
theorem ggX12_days_X12_nightGoes : GoodIn wsX12_days wsX12_nightGoes := goodIn_r _ [132, 2, 18, 19, 20, 5, 21, 137, 138, 139, 140, 141, 142, 143, 144, 145, 146, 147, 148, 149, 150, 151, 152, 153, 154, 155, 156, 157, 158, 159, 160, 161, 162] (by decide +kernel) (by decide +kernel)
set_option maxRecDepth 20000 in
theorem gX12_days_X12_nightGoes : GoodIn wsX12_days (wsV RX12 211 RX12 yX12_nightGoes wsX12_nightGoes) := goodIn_app (goodIn_of _ (by decide +kernel)) ggX12_days_X12_nightGoes
set_option maxRecDepth 20000 in
theorem ggX12_days_X12_allAir : GoodIn wsX12_days wsX12_allAir := goodIn_r _ [136, 2, 18, 19, 20, 5, 21, 137, 138, 139, 140, 141, 142, 143, 144, 145, 146, 147, 148, 149, 150, 151, 152, 153, 154, 155, 156, 157, 158, 159, 160, 161, 162] (by decide +kernel) (by decide +kernel)
set_option maxRecDepth 20000 in
theorem gX12_days_X12_allAir : GoodIn wsX12_days (wsV RX12 214 RX12 yX12_allAir wsX12_allAir) := goodIn_app (goodIn_of _ (by decide +kernel)) ggX12_days_X12_allAir
set_option maxRecDepth 20000 in
theorem ggX12_findBubbles_X12_cells : GoodIn wsX12_findBubbles wsX12_cells := goodIn_r _ [9, 4, 25, 26, 27, 28, 29, 30, 31, 32, 33, 34, 35, 36, 37, 38, 39, 40, 41, 42, 43, 44, 45, 46, 47, 48, 49, 50] (by decide +kernel) (by decide +kernel)
set_option maxRecDepth 20000 in
theorem gX12_findBubbles_X12_cells : GoodIn wsX12_findBubbles (wsV RX12 51 RX12 yX12_cells wsX12_cells) := goodIn_app (goodIn_of _ (by decide +kernel)) ggX12_findBubbles_X12_cells
set_option maxRecDepth 20000 in
theorem ggX12_findBubbles_X12_bubbleOf : GoodIn wsX12_findBubbles wsX12_bubbleOf := goodIn_r _ [13, 4, 5, 6, 7, 8, 9, 14, 15, 16, 17, 18, 19, 20, 25, 26, 27, 28, 29, 30, 31, 32, 33, 34, 35, 36, 37, 38, 39, 40, 41, 42, 43, 44, 45, 46, 47, 48, 49, 50] (by decide +kernel) (by decide +kernel)
set_option maxRecDepth 20000 in
theorem gX12_findBubbles_X12_bubbleOf : GoodIn wsX12_findBubbles (wsV RX12 160 RX12 yX12_bubbleOf wsX12_bubbleOf) := goodIn_app (goodIn_of _ (by decide +kernel)) ggX12_findBubbles_X12_bubbleOf
set_option maxRecDepth 20000 in
theorem ggX12_findBubbles_X12_sizeOf0 : GoodIn wsX12_findBubbles wsX12_sizeOf0 := goodIn_r _ [24, 4, 5, 6, 7, 8, 9, 25, 26, 27, 28, 29, 30, 31, 32, 33, 34, 35, 36, 37, 38, 39, 40, 41, 42, 43, 44, 45, 46, 47, 48, 49, 50] (by decide +kernel) (by decide +kernel)
set_option maxRecDepth 20000 in
theorem gX12_findBubbles_X12_sizeOf0 : GoodIn wsX12_findBubbles (wsV RX12 163 RX12 yX12_sizeOf0 wsX12_sizeOf0) := goodIn_app (goodIn_of _ (by decide +kernel)) ggX12_findBubbles_X12_sizeOf0
set_option maxRecDepth 20000 in
theorem ggX12_bubbles_X12_findBubbles : GoodIn wsX12_bubbles wsX12_findBubbles := goodIn_r _ [6, 1, 7, 8, 9, 10, 11, 12, 5, 13, 14, 15, 16, 17, 18, 19, 20, 21, 22, 23, 24, 25, 26, 27, 28, 29, 30, 31, 32, 33, 34, 35, 36, 37, 38, 39, 40, 41, 42, 43, 44, 45, 46, 47, 48, 49, 50, 51, 52, 53, 54] (by decide +kernel) (by decide +kernel)
set_option maxRecDepth 20000 in
theorem gX12_bubbles_X12_findBubbles : GoodIn wsX12_bubbles (wsV RX12 230 RX12 yX12_findBubbles wsX12_findBubbles) := goodIn_app (goodIn_of _ (by decide +kernel)) ggX12_bubbles_X12_findBubbles
set_option maxRecDepth 20000 in
theorem ggX12_biggest_X12_in : GoodIn wsX12_biggest wsX12_in := goodIn_r _ [7] (by decide +kernel) (by decide +kernel)
set_option maxRecDepth 20000 in
theorem gX12_biggest_X12_in : GoodIn wsX12_biggest (va_wsS RX12 55 yX12_in wsX12_in) := goodIn_app (goodIn_of _ (by decide +kernel)) ggX12_biggest_X12_in
set_option maxRecDepth 20000 in
theorem ggX12_biggest_X12_finds : GoodIn wsX12_biggest wsX12_finds := goodIn_r _ [11, 12, 13, 35, 36, 37, 38, 39, 40, 41, 42, 43, 44, 45, 46, 47, 48, 49, 50, 51, 52, 53, 54, 55, 56, 57, 58, 59, 60] (by decide +kernel) (by decide +kernel)
set_option maxRecDepth 20000 in
theorem gX12_biggest_X12_finds : GoodIn wsX12_biggest (wsV RX12 119 RX12 yX12_finds wsX12_finds) := goodIn_app (goodIn_of _ (by decide +kernel)) ggX12_biggest_X12_finds
set_option maxRecDepth 20000 in
theorem ggX12_biggest_X12_findBubbles : GoodIn wsX12_biggest wsX12_findBubbles := goodIn_r _ [17, 1, 2, 3, 18, 19, 20, 21, 6, 22, 23, 24, 25, 26, 27, 28, 29, 30, 4, 5, 7, 31, 32, 33, 34, 35, 36, 37, 38, 39, 40, 41, 42, 43, 44, 45, 46, 47, 48, 49, 50, 51, 52, 53, 54, 55, 56, 57, 58, 59, 60] (by decide +kernel) (by decide +kernel)
set_option maxRecDepth 20000 in
theorem gX12_biggest_X12_findBubbles : GoodIn wsX12_biggest (wsV RX12 230 RX12 yX12_findBubbles wsX12_findBubbles) := goodIn_app (goodIn_of _ (by decide +kernel)) ggX12_biggest_X12_findBubbles
set_option maxRecDepth 20000 in
theorem ggX12_wayOut_X12_isCell : GoodIn wsX12_wayOut wsX12_isCell := goodIn_r _ [6, 7, 8, 9, 5, 10, 1, 11, 12, 13, 24, 25, 26, 27, 28, 29, 30, 31, 32, 33, 34, 35, 36, 37, 38, 39, 40, 41, 42, 43, 44, 45, 46, 47, 48, 49] (by decide +kernel) (by decide +kernel)
set_option maxRecDepth 20000 in
theorem gX12_wayOut_X12_isCell : GoodIn wsX12_wayOut (wsV RX12 137 RX12 yX12_isCell wsX12_isCell) := goodIn_app (goodIn_of _ (by decide +kernel)) ggX12_wayOut_X12_isCell
set_option maxRecDepth 20000 in
theorem ggX12_wayOut_X12_finds : GoodIn wsX12_wayOut wsX12_finds := goodIn_r _ [17, 18, 19, 24, 25, 26, 27, 28, 29, 30, 31, 32, 33, 34, 35, 36, 37, 38, 39, 40, 41, 42, 43, 44, 45, 46, 47, 48, 49] (by decide +kernel) (by decide +kernel)
set_option maxRecDepth 20000 in
theorem gX12_wayOut_X12_finds : GoodIn wsX12_wayOut (wsV RX12 119 RX12 yX12_finds wsX12_finds) := goodIn_app (goodIn_of _ (by decide +kernel)) ggX12_wayOut_X12_finds
set_option maxRecDepth 20000 in
theorem ggX12_wayOut_X12_isOpen : GoodIn wsX12_wayOut wsX12_isOpen := goodIn_r _ [23, 1, 24, 25, 26, 27, 28, 29, 30, 31, 32, 33, 34, 35, 36, 37, 38, 39, 40, 41, 42, 43, 44, 45, 46, 47, 48, 49] (by decide +kernel) (by decide +kernel)
set_option maxRecDepth 20000 in
theorem gX12_wayOut_X12_isOpen : GoodIn wsX12_wayOut (wsV RX12 169 RX12 yX12_isOpen wsX12_isOpen) := goodIn_app (goodIn_of _ (by decide +kernel)) ggX12_wayOut_X12_isOpen
set_option maxRecDepth 20000 in
theorem ggX12_bestOf_X12_cells : GoodIn wsX12_bestOf wsX12_cells := goodIn_r _ [6, 7, 136, 137, 138, 139, 140, 141, 142, 143, 144, 145, 146, 147, 148, 149, 150, 151, 152, 153, 154, 155, 156, 157, 158, 159, 160, 161] (by decide +kernel) (by decide +kernel)
set_option maxRecDepth 20000 in
theorem gX12_bestOf_X12_cells : GoodIn wsX12_bestOf (wsV RX12 51 RX12 yX12_cells wsX12_cells) := goodIn_app (goodIn_of _ (by decide +kernel)) ggX12_bestOf_X12_cells
set_option maxRecDepth 20000 in
theorem ggX12_bestOf_X12_keepAside : GoodIn wsX12_bestOf wsX12_keepAside := goodIn_r _ [11, 12, 7, 136, 137, 138, 139, 140, 141, 142, 143, 144, 145, 146, 147, 148, 149, 150, 151, 152, 153, 154, 155, 156, 157, 158, 159, 160, 161] (by decide +kernel) (by decide +kernel)
set_option maxRecDepth 20000 in
theorem gX12_bestOf_X12_keepAside : GoodIn wsX12_bestOf (wsV RX12 236 RX12 yX12_keepAside wsX12_keepAside) := goodIn_app (goodIn_of _ (by decide +kernel)) ggX12_bestOf_X12_keepAside
set_option maxRecDepth 20000 in
theorem ggX12_bestOf_X12_strokes : GoodIn wsX12_bestOf wsX12_strokes := goodIn_r _ [16, 7, 17, 18, 19, 20, 5, 21, 22, 23, 24, 25, 26, 27, 28, 29, 30, 31, 32, 33, 34, 35, 36, 37, 38, 39, 40, 41, 42, 43, 44, 45, 46, 47, 48, 49, 50, 51, 52, 53, 54, 55, 56, 57, 58, 59, 60, 61, 62, 63, 64, 65, 66, 67, 68, 69, 70, 71, 72, 73, 74, 75, 76, 77, 78, 79, 80, 81, 82, 83, 84, 85, 86, 87, 88, 89, 90, 91, 92, 93, 94, 95, 96, 97, 98, 99, 100, 101, 102, 103, 104, 105, 106, 107, 108, 109, 110, 111, 112, 113, 114, 115, 116, 117, 118, 119, 120, 121, 122, 136, 137, 138, 139, 140, 141, 142, 143, 144, 145, 146, 147, 148, 149, 150, 151, 152, 153, 154, 155, 156, 157, 158, 159, 160, 161] (by decide +kernel) (by decide +kernel)
set_option maxRecDepth 20000 in
theorem gX12_bestOf_X12_strokes : GoodIn wsX12_bestOf (wsV RX12 205 RX12 yX12_strokes wsX12_strokes) := goodIn_app (goodIn_of _ (by decide +kernel)) ggX12_bestOf_X12_strokes
set_option maxRecDepth 20000 in
theorem ggX12_bestOf_X12_seen : GoodIn wsX12_bestOf wsX12_seen := goodIn_r _ [126, 2, 3, 4, 5, 6, 7, 127, 128, 129, 130, 50, 131, 52, 53, 54, 55, 56, 57, 58, 59, 60, 61, 62, 63, 64, 65, 66, 67, 68, 69, 70, 71, 72, 73, 74, 75, 76, 77, 78, 79, 80, 81, 82, 83, 84, 85, 86, 87, 88, 89, 90, 91, 92, 93, 94, 95, 96, 97, 98, 99, 100, 101, 102, 103, 104, 105, 106, 107, 108, 109, 110, 111, 112, 113, 114, 136, 137, 138, 139, 140, 141, 142, 143, 144, 145, 146, 147, 148, 149, 150, 151, 152, 153, 154, 155, 156, 157, 158, 159, 160, 161] (by decide +kernel) (by decide +kernel)
