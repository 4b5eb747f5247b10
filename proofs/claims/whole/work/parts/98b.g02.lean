set_option maxRecDepth 20000 in
theorem gX12_bestOf_X12_seen : GoodIn wsX12_bestOf (wsV RX12 153 RX12 yX12_seen wsX12_seen) := goodIn_app (goodIn_of _ (by decide +kernel)) ggX12_bestOf_X12_seen
set_option maxRecDepth 20000 in
theorem ggX12_bestOf_X12_putBack : GoodIn wsX12_bestOf wsX12_putBack := goodIn_r _ [135, 7, 12, 136, 137, 138, 139, 140, 141, 142, 143, 144, 145, 146, 147, 148, 149, 150, 151, 152, 153, 154, 155, 156, 157, 158, 159, 160, 161] (by decide +kernel) (by decide +kernel)
set_option maxRecDepth 20000 in
theorem gX12_bestOf_X12_putBack : GoodIn wsX12_bestOf (wsV RX12 239 RX12 yX12_putBack wsX12_putBack) := goodIn_app (goodIn_of _ (by decide +kernel)) ggX12_bestOf_X12_putBack
set_option maxRecDepth 20000 in
theorem ggX12_best_X12_isTool : GoodIn wsX12_best wsX12_isTool := goodIn_r _ [6, 7, 8, 9, 5, 10, 150, 151, 152, 153, 154, 155, 156, 157, 158, 159, 160, 161, 162, 163, 164, 165, 166, 167, 168, 169, 170, 171, 172, 173, 174, 175] (by decide +kernel) (by decide +kernel)
set_option maxRecDepth 20000 in
theorem gX12_best_X12_isTool : GoodIn wsX12_best (wsV RX12 180 RX12 yX12_isTool wsX12_isTool) := goodIn_app (goodIn_of _ (by decide +kernel)) ggX12_best_X12_isTool
set_option maxRecDepth 20000 in
theorem ggX12_best_X12_in : GoodIn wsX12_best wsX12_in := goodIn_r _ [10] (by decide +kernel) (by decide +kernel)
set_option maxRecDepth 20000 in
theorem gX12_best_X12_in : GoodIn wsX12_best (va_wsS RX12 55 yX12_in wsX12_in) := goodIn_app (goodIn_of _ (by decide +kernel)) ggX12_best_X12_in
set_option maxRecDepth 20000 in
theorem ggX12_best_X12_finds : GoodIn wsX12_best wsX12_finds := goodIn_r _ [14, 15, 16, 150, 151, 152, 153, 154, 155, 156, 157, 158, 159, 160, 161, 162, 163, 164, 165, 166, 167, 168, 169, 170, 171, 172, 173, 174, 175] (by decide +kernel) (by decide +kernel)
set_option maxRecDepth 20000 in
theorem gX12_best_X12_finds : GoodIn wsX12_best (wsV RX12 119 RX12 yX12_finds wsX12_finds) := goodIn_app (goodIn_of _ (by decide +kernel)) ggX12_best_X12_finds
set_option maxRecDepth 20000 in
theorem ggX12_best_X12_bestOf : GoodIn wsX12_best wsX12_bestOf := goodIn_r _ [20, 1, 21, 22, 23, 5, 24, 7, 25, 26, 27, 28, 29, 30, 31, 32, 33, 34, 35, 36, 37, 38, 39, 40, 41, 42, 43, 44, 45, 46, 47, 48, 49, 50, 51, 52, 53, 54, 55, 56, 57, 58, 59, 60, 61, 62, 63, 64, 65, 66, 67, 68, 69, 70, 71, 72, 73, 74, 75, 76, 77, 78, 79, 80, 81, 82, 83, 84, 85, 86, 87, 88, 89, 90, 91, 92, 93, 94, 95, 96, 97, 98, 99, 100, 101, 102, 103, 104, 105, 106, 107, 108, 109, 110, 111, 112, 113, 114, 115, 116, 117, 118, 119, 120, 121, 122, 123, 124, 125, 8, 9, 10, 126, 127, 128, 129, 130, 131, 132, 133, 134, 135, 136, 137, 138, 139, 140, 141, 142, 143, 144, 145, 146, 147, 148, 149, 150, 151, 152, 153, 154, 155, 156, 157, 158, 159, 160, 161, 162, 163, 164, 165, 166, 167, 168, 169, 170, 171, 172, 173, 174, 175] (by decide +kernel) (by decide +kernel)
set_option maxRecDepth 20000 in
theorem gX12_best_X12_bestOf : GoodIn wsX12_best (wsV RX12 242 RX12 yX12_bestOf wsX12_bestOf) := goodIn_app (goodIn_of _ (by decide +kernel)) ggX12_best_X12_bestOf
set_option maxRecDepth 20000 in
theorem ggX12_bestTwo_X12_isTool : GoodIn wsX12_bestTwo wsX12_isTool := goodIn_r _ [7, 8, 9, 10, 6, 11, 154, 155, 156, 157, 158, 159, 160, 161, 162, 163, 164, 165, 166, 167, 168, 169, 170, 171, 172, 173, 174, 175, 176, 177, 178, 179] (by decide +kernel) (by decide +kernel)
set_option maxRecDepth 20000 in
theorem gX12_bestTwo_X12_isTool : GoodIn wsX12_bestTwo (wsV RX12 180 RX12 yX12_isTool wsX12_isTool) := goodIn_app (goodIn_of _ (by decide +kernel)) ggX12_bestTwo_X12_isTool
set_option maxRecDepth 20000 in
theorem ggX12_bestTwo_X12_in : GoodIn wsX12_bestTwo wsX12_in := goodIn_r _ [11] (by decide +kernel) (by decide +kernel)
set_option maxRecDepth 20000 in
theorem gX12_bestTwo_X12_in : GoodIn wsX12_bestTwo (va_wsS RX12 55 yX12_in wsX12_in) := goodIn_app (goodIn_of _ (by decide +kernel)) ggX12_bestTwo_X12_in
set_option maxRecDepth 20000 in
theorem ggX12_bestTwo_X12_finds : GoodIn wsX12_bestTwo wsX12_finds := goodIn_r _ [15, 16, 17, 154, 155, 156, 157, 158, 159, 160, 161, 162, 163, 164, 165, 166, 167, 168, 169, 170, 171, 172, 173, 174, 175, 176, 177, 178, 179] (by decide +kernel) (by decide +kernel)
set_option maxRecDepth 20000 in
theorem gX12_bestTwo_X12_finds : GoodIn wsX12_bestTwo (wsV RX12 119 RX12 yX12_finds wsX12_finds) := goodIn_app (goodIn_of _ (by decide +kernel)) ggX12_bestTwo_X12_finds
set_option maxRecDepth 20000 in
theorem ggX12_bestTwo_X12_keepsAnew : GoodIn wsX12_bestTwo wsX12_keepsAnew := goodIn_r _ [21, 2, 22, 23, 154, 155, 156, 157, 158, 159, 160, 161, 162, 163, 164, 165, 166, 167, 168, 169, 170, 171, 172, 173, 174, 175, 176, 177, 178, 179] (by decide +kernel) (by decide +kernel)
set_option maxRecDepth 20000 in
theorem gX12_bestTwo_X12_keepsAnew : GoodIn wsX12_bestTwo (wsV RX12 245 RX12 yX12_keepsAnew wsX12_keepsAnew) := goodIn_app (goodIn_of _ (by decide +kernel)) ggX12_bestTwo_X12_keepsAnew
set_option maxRecDepth 20000 in
theorem ggX12_bestTwo_X12_cells : GoodIn wsX12_bestTwo wsX12_cells := goodIn_r _ [27, 8, 154, 155, 156, 157, 158, 159, 160, 161, 162, 163, 164, 165, 166, 167, 168, 169, 170, 171, 172, 173, 174, 175, 176, 177, 178, 179] (by decide +kernel) (by decide +kernel)
set_option maxRecDepth 20000 in
theorem gX12_bestTwo_X12_cells : GoodIn wsX12_bestTwo (wsV RX12 51 RX12 yX12_cells wsX12_cells) := goodIn_app (goodIn_of _ (by decide +kernel)) ggX12_bestTwo_X12_cells
set_option maxRecDepth 20000 in
theorem ggX12_bestTwo_X12_keepAside : GoodIn wsX12_bestTwo wsX12_keepAside := goodIn_r _ [31, 32, 8, 154, 155, 156, 157, 158, 159, 160, 161, 162, 163, 164, 165, 166, 167, 168, 169, 170, 171, 172, 173, 174, 175, 176, 177, 178, 179] (by decide +kernel) (by decide +kernel)
set_option maxRecDepth 20000 in
theorem gX12_bestTwo_X12_keepAside : GoodIn wsX12_bestTwo (wsV RX12 236 RX12 yX12_keepAside wsX12_keepAside) := goodIn_app (goodIn_of _ (by decide +kernel)) ggX12_bestTwo_X12_keepAside
set_option maxRecDepth 20000 in
theorem ggX12_bestTwo_X12_strokes : GoodIn wsX12_bestTwo wsX12_strokes := goodIn_r _ [36, 8, 37, 38, 39, 40, 6, 41, 42, 43, 44, 45, 46, 47, 48, 49, 50, 51, 52, 53, 54, 55, 56, 57, 58, 59, 60, 61, 62, 63, 64, 65, 66, 67, 68, 69, 2, 23, 70, 71, 72, 73, 74, 75, 76, 77, 78, 79, 80, 81, 82, 83, 84, 85, 86, 87, 88, 89, 90, 91, 92, 93, 94, 95, 96, 97, 98, 99, 100, 101, 102, 103, 104, 105, 106, 107, 108, 109, 110, 111, 112, 113, 114, 115, 116, 117, 118, 119, 120, 121, 122, 123, 124, 125, 126, 9, 10, 11, 127, 128, 129, 130, 131, 132, 133, 134, 135, 136, 137, 154, 155, 156, 157, 158, 159, 160, 161, 162, 163, 164, 165, 166, 167, 168, 169, 170, 171, 172, 173, 174, 175, 176, 177, 178, 179] (by decide +kernel) (by decide +kernel)
set_option maxRecDepth 20000 in
theorem gX12_bestTwo_X12_strokes : GoodIn wsX12_bestTwo (wsV RX12 205 RX12 yX12_strokes wsX12_strokes) := goodIn_app (goodIn_of _ (by decide +kernel)) ggX12_bestTwo_X12_strokes
set_option maxRecDepth 20000 in
theorem ggX12_bestTwo_X12_bestOf : GoodIn wsX12_bestTwo wsX12_bestOf := goodIn_r _ [141, 1, 24, 25, 26, 6, 27, 8, 28, 29, 30, 31, 32, 33, 34, 35, 36, 37, 38, 39, 40, 41, 42, 43, 44, 45, 46, 47, 48, 49, 50, 51, 52, 53, 54, 55, 56, 57, 58, 59, 60, 61, 62, 63, 64, 65, 66, 67, 68, 69, 2, 23, 70, 71, 72, 73, 74, 75, 76, 77, 78, 79, 80, 81, 82, 83, 84, 85, 86, 87, 88, 89, 90, 91, 92, 93, 94, 95, 96, 97, 98, 99, 100, 101, 102, 103, 104, 105, 106, 107, 108, 109, 110, 111, 112, 113, 114, 115, 116, 117, 118, 119, 120, 121, 122, 123, 124, 125, 126, 9, 10, 11, 127, 128, 129, 130, 131, 132, 133, 134, 135, 136, 137, 142, 143, 144, 145, 146, 147, 148, 149, 22, 150, 151, 152, 153, 154, 155, 156, 157, 158, 159, 160, 161, 162, 163, 164, 165, 166, 167, 168, 169, 170, 171, 172, 173, 174, 175, 176, 177, 178, 179] (by decide +kernel) (by decide +kernel)
set_option maxRecDepth 20000 in
theorem gX12_bestTwo_X12_bestOf : GoodIn wsX12_bestTwo (wsV RX12 242 RX12 yX12_bestOf wsX12_bestOf) := goodIn_app (goodIn_of _ (by decide +kernel)) ggX12_bestTwo_X12_bestOf
set_option maxRecDepth 20000 in
theorem ggX12_bestTwo_X12_putBack : GoodIn wsX12_bestTwo wsX12_putBack := goodIn_r _ [153, 8, 32, 154, 155, 156, 157, 158, 159, 160, 161, 162, 163, 164, 165, 166, 167, 168, 169, 170, 171, 172, 173, 174, 175, 176, 177, 178, 179] (by decide +kernel) (by decide +kernel)
set_option maxRecDepth 20000 in
theorem gX12_bestTwo_X12_putBack : GoodIn wsX12_bestTwo (wsV RX12 239 RX12 yX12_putBack wsX12_putBack) := goodIn_app (goodIn_of _ (by decide +kernel)) ggX12_bestTwo_X12_putBack
set_option maxRecDepth 20000 in
theorem ggX12_goneBy_X12_isCell : GoodIn wsX12_goneBy wsX12_isCell := goodIn_r _ [6, 7, 8, 9, 5, 10, 1, 11, 12, 13, 23, 24, 25, 26, 27, 28, 29, 30, 31, 32, 33, 34, 35, 36, 37, 38, 39, 40, 41, 42, 43, 44, 45, 46, 47, 48] (by decide +kernel) (by decide +kernel)
set_option maxRecDepth 20000 in
theorem gX12_goneBy_X12_isCell : GoodIn wsX12_goneBy (wsV RX12 137 RX12 yX12_isCell wsX12_isCell) := goodIn_app (goodIn_of _ (by decide +kernel)) ggX12_goneBy_X12_isCell
set_option maxRecDepth 20000 in
theorem ggX12_goneBy_X12_finds : GoodIn wsX12_goneBy wsX12_finds := goodIn_r _ [17, 18, 19, 23, 24, 25, 26, 27, 28, 29, 30, 31, 32, 33, 34, 35, 36, 37, 38, 39, 40, 41, 42, 43, 44, 45, 46, 47, 48] (by decide +kernel) (by decide +kernel)
set_option maxRecDepth 20000 in
theorem gX12_goneBy_X12_finds : GoodIn wsX12_goneBy (wsV RX12 119 RX12 yX12_finds wsX12_finds) := goodIn_app (goodIn_of _ (by decide +kernel)) ggX12_goneBy_X12_finds
set_option maxRecDepth 20000 in
theorem ggX12_goneBy_X12_goneWith : GoodIn wsX12_goneBy wsX12_goneWith := goodIn_r _ [22] (by decide +kernel) (by decide +kernel)
set_option maxRecDepth 20000 in
theorem gX12_goneBy_X12_goneWith : GoodIn wsX12_goneBy (va_wsS RX12 248 yX12_goneWith wsX12_goneWith) := goodIn_app (goodIn_of _ (by decide +kernel)) ggX12_goneBy_X12_goneWith
set_option maxRecDepth 20000 in
theorem ggX12_never_X12_cells : GoodIn wsX12_never wsX12_cells := goodIn_r _ [6, 1, 10, 11, 12, 13, 14, 15, 16, 17, 18, 19, 20, 21, 22, 23, 24, 25, 26, 27, 28, 29, 30, 31, 32, 33, 34, 35] (by decide +kernel) (by decide +kernel)
set_option maxRecDepth 20000 in
theorem gX12_never_X12_cells : GoodIn wsX12_never (wsV RX12 51 RX12 yX12_cells wsX12_cells) := goodIn_app (goodIn_of _ (by decide +kernel)) ggX12_never_X12_cells
set_option maxRecDepth 20000 in
theorem ggX12_never_X12_goneWith : GoodIn wsX12_never wsX12_goneWith := goodIn_r _ [9] (by decide +kernel) (by decide +kernel)
set_option maxRecDepth 20000 in
theorem gX12_never_X12_goneWith : GoodIn wsX12_never (va_wsS RX12 248 yX12_goneWith wsX12_goneWith) := goodIn_app (goodIn_of _ (by decide +kernel)) ggX12_never_X12_goneWith
set_option maxRecDepth 20000 in
theorem ggX12_needs_X12_isCell : GoodIn wsX12_needs wsX12_isCell := goodIn_r _ [7, 8, 9, 10, 6, 11, 2, 12, 13, 14, 24, 25, 26, 27, 28, 29, 30, 31, 32, 33, 34, 35, 36, 37, 38, 39, 40, 41, 42, 43, 44, 45, 46, 47, 48, 49] (by decide +kernel) (by decide +kernel)
set_option maxRecDepth 20000 in
theorem gX12_needs_X12_isCell : GoodIn wsX12_needs (wsV RX12 137 RX12 yX12_isCell wsX12_isCell) := goodIn_app (goodIn_of _ (by decide +kernel)) ggX12_needs_X12_isCell
set_option maxRecDepth 20000 in
theorem ggX12_needs_X12_in : GoodIn wsX12_needs wsX12_in := goodIn_r _ [14] (by decide +kernel) (by decide +kernel)
set_option maxRecDepth 20000 in
theorem gX12_needs_X12_in : GoodIn wsX12_needs (va_wsS RX12 55 yX12_in wsX12_in) := goodIn_app (goodIn_of _ (by decide +kernel)) ggX12_needs_X12_in
set_option maxRecDepth 20000 in
theorem ggX12_needs_X12_finds : GoodIn wsX12_needs wsX12_finds := goodIn_r _ [18, 19, 20, 24, 25, 26, 27, 28, 29, 30, 31, 32, 33, 34, 35, 36, 37, 38, 39, 40, 41, 42, 43, 44, 45, 46, 47, 48, 49] (by decide +kernel) (by decide +kernel)
set_option maxRecDepth 20000 in
theorem gX12_needs_X12_finds : GoodIn wsX12_needs (wsV RX12 119 RX12 yX12_finds wsX12_finds) := goodIn_app (goodIn_of _ (by decide +kernel)) ggX12_needs_X12_finds
set_option maxRecDepth 20000 in
theorem ggX12_needs_X12_goneWith : GoodIn wsX12_needs wsX12_goneWith := goodIn_r _ [23] (by decide +kernel) (by decide +kernel)
set_option maxRecDepth 20000 in
theorem gX12_needs_X12_goneWith : GoodIn wsX12_needs (va_wsS RX12 248 yX12_goneWith wsX12_goneWith) := goodIn_app (goodIn_of _ (by decide +kernel)) ggX12_needs_X12_goneWith
set_option maxRecDepth 20000 in
theorem ggX12_lamp_X12_isWay : GoodIn wsX12_lamp wsX12_isWay := goodIn_r _ [5, 6, 7, 8, 4, 9] (by decide +kernel) (by decide +kernel)
set_option maxRecDepth 20000 in
theorem gX12_lamp_X12_isWay : GoodIn wsX12_lamp (va_wsS RX12 166 yX12_isWay wsX12_isWay) := goodIn_app (goodIn_of _ (by decide +kernel)) ggX12_lamp_X12_isWay
set_option maxRecDepth 20000 in
theorem ggX12_lamp_X12_finds : GoodIn wsX12_lamp wsX12_finds := goodIn_r _ [13, 14, 15, 24, 25, 26, 27, 28, 29, 30, 31, 32, 33, 34, 35, 36, 37, 38, 39, 40, 41, 42, 43, 44, 45, 46, 47, 48, 49] (by decide +kernel) (by decide +kernel)
set_option maxRecDepth 20000 in
theorem gX12_lamp_X12_finds : GoodIn wsX12_lamp (wsV RX12 119 RX12 yX12_finds wsX12_finds) := goodIn_app (goodIn_of _ (by decide +kernel)) ggX12_lamp_X12_finds
set_option maxRecDepth 20000 in
theorem ggX12_lamp_X12_cells : GoodIn wsX12_lamp wsX12_cells := goodIn_r _ [19, 1, 24, 25, 26, 27, 28, 29, 30, 31, 32, 33, 34, 35, 36, 37, 38, 39, 40, 41, 42, 43, 44, 45, 46, 47, 48, 49] (by decide +kernel) (by decide +kernel)
set_option maxRecDepth 20000 in
theorem gX12_lamp_X12_cells : GoodIn wsX12_lamp (wsV RX12 51 RX12 yX12_cells wsX12_cells) := goodIn_app (goodIn_of _ (by decide +kernel)) ggX12_lamp_X12_cells
set_option maxRecDepth 20000 in
theorem ggX12_lamp_X12_nextTo : GoodIn wsX12_lamp wsX12_nextTo := goodIn_r _ [23, 1, 7, 8, 4, 9, 24, 25, 26, 27, 28, 29, 30, 31, 32, 33, 34, 35, 36, 37, 38, 39, 40, 41, 42, 43, 44, 45, 46, 47, 48, 49] (by decide +kernel) (by decide +kernel)
set_option maxRecDepth 20000 in
theorem gX12_lamp_X12_nextTo : GoodIn wsX12_lamp (wsV RX12 156 RX12 yX12_nextTo wsX12_nextTo) := goodIn_app (goodIn_of _ (by decide +kernel)) ggX12_lamp_X12_nextTo
set_option maxRecDepth 20000 in
theorem ggX12_isAs_X12_cells : GoodIn wsX12_isAs wsX12_cells := goodIn_r _ [7, 2, 8, 9, 10, 11, 12, 13, 14, 15, 16, 17, 18, 19, 20, 21, 22, 23, 24, 25, 26, 27, 28, 29, 30, 31, 32, 33] (by decide +kernel) (by decide +kernel)
set_option maxRecDepth 20000 in
theorem gX12_isAs_X12_cells : GoodIn wsX12_isAs (wsV RX12 51 RX12 yX12_cells wsX12_cells) := goodIn_app (goodIn_of _ (by decide +kernel)) ggX12_isAs_X12_cells
set_option maxRecDepth 20000 in
theorem ggX12_came_X12_isTool : GoodIn wsX12_came wsX12_isTool := goodIn_r _ [8, 3, 9, 10, 7, 11, 154, 155, 156, 157, 158, 159, 160, 161, 162, 163, 164, 165, 166, 167, 168, 169, 170, 171, 172, 173, 174, 175, 176, 177, 178, 179] (by decide +kernel) (by decide +kernel)
set_option maxRecDepth 20000 in
theorem gX12_came_X12_isTool : GoodIn wsX12_came (wsV RX12 180 RX12 yX12_isTool wsX12_isTool) := goodIn_app (goodIn_of _ (by decide +kernel)) ggX12_came_X12_isTool
set_option maxRecDepth 20000 in
theorem ggX12_came_X12_isCell : GoodIn wsX12_came wsX12_isCell := goodIn_r _ [15, 16, 17, 18, 7, 19, 3, 9, 10, 11, 154, 155, 156, 157, 158, 159, 160, 161, 162, 163, 164, 165, 166, 167, 168, 169, 170, 171, 172, 173, 174, 175, 176, 177, 178, 179] (by decide +kernel) (by decide +kernel)
set_option maxRecDepth 20000 in
theorem gX12_came_X12_isCell : GoodIn wsX12_came (wsV RX12 137 RX12 yX12_isCell wsX12_isCell) := goodIn_app (goodIn_of _ (by decide +kernel)) ggX12_came_X12_isCell
set_option maxRecDepth 20000 in
theorem ggX12_came_X12_isWay : GoodIn wsX12_came wsX12_isWay := goodIn_r _ [22, 23, 9, 10, 7, 11] (by decide +kernel) (by decide +kernel)
set_option maxRecDepth 20000 in
theorem gX12_came_X12_isWay : GoodIn wsX12_came (va_wsS RX12 166 yX12_isWay wsX12_isWay) := goodIn_app (goodIn_of _ (by decide +kernel)) ggX12_came_X12_isWay
set_option maxRecDepth 20000 in
theorem ggX12_came_X12_isSheet : GoodIn wsX12_came wsX12_isSheet := goodIn_r _ [26, 23, 9, 10, 7, 11] (by decide +kernel) (by decide +kernel)
set_option maxRecDepth 20000 in
theorem gX12_came_X12_isSheet : GoodIn wsX12_came (va_wsS RX12 251 yX12_isSheet wsX12_isSheet) := goodIn_app (goodIn_of _ (by decide +kernel)) ggX12_came_X12_isSheet
set_option maxRecDepth 20000 in
theorem ggX12_came_X12_finds : GoodIn wsX12_came wsX12_finds := goodIn_r _ [30, 31, 32, 154, 155, 156, 157, 158, 159, 160, 161, 162, 163, 164, 165, 166, 167, 168, 169, 170, 171, 172, 173, 174, 175, 176, 177, 178, 179] (by decide +kernel) (by decide +kernel)
set_option maxRecDepth 20000 in
theorem gX12_came_X12_finds : GoodIn wsX12_came (wsV RX12 119 RX12 yX12_finds wsX12_finds) := goodIn_app (goodIn_of _ (by decide +kernel)) ggX12_came_X12_finds
set_option maxRecDepth 20000 in
theorem ggX12_came_X12_cells : GoodIn wsX12_came wsX12_cells := goodIn_r _ [19, 3, 154, 155, 156, 157, 158, 159, 160, 161, 162, 163, 164, 165, 166, 167, 168, 169, 170, 171, 172, 173, 174, 175, 176, 177, 178, 179] (by decide +kernel) (by decide +kernel)
set_option maxRecDepth 20000 in
theorem gX12_came_X12_cells : GoodIn wsX12_came (wsV RX12 51 RX12 yX12_cells wsX12_cells) := goodIn_app (goodIn_of _ (by decide +kernel)) ggX12_came_X12_cells
set_option maxRecDepth 20000 in
theorem ggX12_came_X12_kindOf : GoodIn wsX12_came wsX12_kindOf := goodIn_r _ [36, 3, 154, 155, 156, 157, 158, 159, 160, 161, 162, 163, 164, 165, 166, 167, 168, 169, 170, 171, 172, 173, 174, 175, 176, 177, 178, 179] (by decide +kernel) (by decide +kernel)
set_option maxRecDepth 20000 in
theorem gX12_came_X12_kindOf : GoodIn wsX12_came (wsV RX12 175 RX12 yX12_kindOf wsX12_kindOf) := goodIn_app (goodIn_of _ (by decide +kernel)) ggX12_came_X12_kindOf
set_option maxRecDepth 20000 in
theorem ggX12_came_X12_keepAside : GoodIn wsX12_came wsX12_keepAside := goodIn_r _ [40, 41, 3, 154, 155, 156, 157, 158, 159, 160, 161, 162, 163, 164, 165, 166, 167, 168, 169, 170, 171, 172, 173, 174, 175, 176, 177, 178, 179] (by decide +kernel) (by decide +kernel)
set_option maxRecDepth 20000 in
theorem gX12_came_X12_keepAside : GoodIn wsX12_came (wsV RX12 236 RX12 yX12_keepAside wsX12_keepAside) := goodIn_app (goodIn_of _ (by decide +kernel)) ggX12_came_X12_keepAside
set_option maxRecDepth 20000 in
theorem ggX12_came_X12_strokes : GoodIn wsX12_came wsX12_strokes := goodIn_r _ [45, 3, 46, 47, 48, 49, 7, 50, 33, 34, 35, 36, 51, 52, 53, 54, 55, 56, 57, 58, 59, 60, 61, 62, 63, 64, 65, 66, 67, 68, 69, 70, 71, 72, 73, 74, 75, 76, 77, 78, 79, 80, 81, 82, 83, 84, 85, 86, 87, 88, 89, 90, 91, 92, 93, 94, 95, 96, 97, 98, 99, 100, 101, 102, 103, 104, 105, 106, 107, 108, 109, 110, 111, 112, 113, 114, 115, 116, 117, 118, 119, 120, 121, 122, 123, 124, 125, 126, 127, 128, 129, 130, 131, 132, 133, 9, 10, 11, 134, 135, 136, 137, 138, 139, 140, 141, 142, 143, 144, 154, 155, 156, 157, 158, 159, 160, 161, 162, 163, 164, 165, 166, 167, 168, 169, 170, 171, 172, 173, 174, 175, 176, 177, 178, 179] (by decide +kernel) (by decide +kernel)
set_option maxRecDepth 20000 in
theorem gX12_came_X12_strokes : GoodIn wsX12_came (wsV RX12 205 RX12 yX12_strokes wsX12_strokes) := goodIn_app (goodIn_of _ (by decide +kernel)) ggX12_came_X12_strokes
set_option maxRecDepth 20000 in
theorem ggX12_came_X12_isAs : GoodIn wsX12_came wsX12_isAs := goodIn_r _ [148, 149, 3, 16, 17, 18, 7, 19, 154, 155, 156, 157, 158, 159, 160, 161, 162, 163, 164, 165, 166, 167, 168, 169, 170, 171, 172, 173, 174, 175, 176, 177, 178, 179] (by decide +kernel) (by decide +kernel)
set_option maxRecDepth 20000 in
theorem gX12_came_X12_isAs : GoodIn wsX12_came (wsV RX12 254 RX12 yX12_isAs wsX12_isAs) := goodIn_app (goodIn_of _ (by decide +kernel)) ggX12_came_X12_isAs
set_option maxRecDepth 20000 in
theorem ggX12_came_X12_putBack : GoodIn wsX12_came wsX12_putBack := goodIn_r _ [153, 3, 41, 154, 155, 156, 157, 158, 159, 160, 161, 162, 163, 164, 165, 166, 167, 168, 169, 170, 171, 172, 173, 174, 175, 176, 177, 178, 179] (by decide +kernel) (by decide +kernel)
set_option maxRecDepth 20000 in
theorem gX12_came_X12_putBack : GoodIn wsX12_came (wsV RX12 239 RX12 yX12_putBack wsX12_putBack) := goodIn_app (goodIn_of _ (by decide +kernel)) ggX12_came_X12_putBack
set_option maxRecDepth 20000 in
theorem ggX12_odds_X12_isTool : GoodIn wsX12_odds wsX12_isTool := goodIn_r _ [6, 7, 8, 9, 5, 10, 150, 151, 152, 153, 154, 155, 156, 157, 158, 159, 160, 161, 162, 163, 164, 165, 166, 167, 168, 169, 170, 171, 172, 173, 174, 175] (by decide +kernel) (by decide +kernel)
set_option maxRecDepth 20000 in
theorem gX12_odds_X12_isTool : GoodIn wsX12_odds (wsV RX12 180 RX12 yX12_isTool wsX12_isTool) := goodIn_app (goodIn_of _ (by decide +kernel)) ggX12_odds_X12_isTool
set_option maxRecDepth 20000 in
theorem ggX12_odds_X12_isCell : GoodIn wsX12_odds wsX12_isCell := goodIn_r _ [14, 15, 16, 17, 5, 18, 7, 8, 9, 10, 150, 151, 152, 153, 154, 155, 156, 157, 158, 159, 160, 161, 162, 163, 164, 165, 166, 167, 168, 169, 170, 171, 172, 173, 174, 175] (by decide +kernel) (by decide +kernel)
set_option maxRecDepth 20000 in
theorem gX12_odds_X12_isCell : GoodIn wsX12_odds (wsV RX12 137 RX12 yX12_isCell wsX12_isCell) := goodIn_app (goodIn_of _ (by decide +kernel)) ggX12_odds_X12_isCell
set_option maxRecDepth 20000 in
theorem ggX12_odds_X12_in : GoodIn wsX12_odds wsX12_in := goodIn_r _ [10] (by decide +kernel) (by decide +kernel)
set_option maxRecDepth 20000 in
theorem gX12_odds_X12_in : GoodIn wsX12_odds (va_wsS RX12 55 yX12_in wsX12_in) := goodIn_app (goodIn_of _ (by decide +kernel)) ggX12_odds_X12_in
set_option maxRecDepth 20000 in
theorem ggX12_odds_X12_finds : GoodIn wsX12_odds wsX12_finds := goodIn_r _ [22, 23, 24, 150, 151, 152, 153, 154, 155, 156, 157, 158, 159, 160, 161, 162, 163, 164, 165, 166, 167, 168, 169, 170, 171, 172, 173, 174, 175] (by decide +kernel) (by decide +kernel)
set_option maxRecDepth 20000 in
theorem gX12_odds_X12_finds : GoodIn wsX12_odds (wsV RX12 119 RX12 yX12_finds wsX12_finds) := goodIn_app (goodIn_of _ (by decide +kernel)) ggX12_odds_X12_finds
set_option maxRecDepth 20000 in
theorem ggX12_odds_X12_keepAside : GoodIn wsX12_odds wsX12_keepAside := goodIn_r _ [28, 29, 7, 150, 151, 152, 153, 154, 155, 156, 157, 158, 159, 160, 161, 162, 163, 164, 165, 166, 167, 168, 169, 170, 171, 172, 173, 174, 175] (by decide +kernel) (by decide +kernel)
set_option maxRecDepth 20000 in
theorem gX12_odds_X12_keepAside : GoodIn wsX12_odds (wsV RX12 236 RX12 yX12_keepAside wsX12_keepAside) := goodIn_app (goodIn_of _ (by decide +kernel)) ggX12_odds_X12_keepAside
set_option maxRecDepth 20000 in
theorem ggX12_odds_X12_strokes : GoodIn wsX12_odds wsX12_strokes := goodIn_r _ [33, 7, 34, 35, 36, 37, 5, 38, 39, 40, 41, 42, 43, 44, 45, 46, 47, 48, 49, 50, 51, 52, 53, 54, 55, 56, 57, 58, 59, 60, 61, 62, 63, 64, 65, 66, 67, 68, 69, 70, 71, 72, 73, 74, 75, 76, 77, 78, 79, 80, 81, 82, 83, 84, 85, 86, 87, 88, 89, 90, 91, 92, 93, 94, 95, 96, 97, 98, 99, 100, 101, 102, 103, 104, 105, 106, 107, 108, 109, 110, 111, 112, 113, 114, 115, 116, 117, 118, 119, 120, 121, 122, 123, 124, 125, 8, 9, 10, 126, 127, 128, 129, 130, 131, 132, 133, 134, 135, 136, 150, 151, 152, 153, 154, 155, 156, 157, 158, 159, 160, 161, 162, 163, 164, 165, 166, 167, 168, 169, 170, 171, 172, 173, 174, 175] (by decide +kernel) (by decide +kernel)
set_option maxRecDepth 20000 in
theorem gX12_odds_X12_strokes : GoodIn wsX12_odds (wsV RX12 205 RX12 yX12_strokes wsX12_strokes) := goodIn_app (goodIn_of _ (by decide +kernel)) ggX12_odds_X12_strokes
set_option maxRecDepth 20000 in
theorem ggX12_odds_X12_seen : GoodIn wsX12_odds wsX12_seen := goodIn_r _ [140, 15, 16, 17, 5, 18, 7, 141, 142, 143, 144, 67, 145, 69, 70, 71, 72, 73, 74, 75, 76, 77, 78, 79, 80, 81, 82, 83, 84, 85, 86, 87, 88, 89, 90, 91, 92, 93, 94, 95, 96, 97, 98, 99, 100, 101, 102, 103, 104, 105, 106, 107, 108, 109, 110, 111, 112, 113, 114, 115, 116, 117, 118, 119, 120, 121, 122, 123, 124, 125, 8, 9, 10, 126, 127, 128, 150, 151, 152, 153, 154, 155, 156, 157, 158, 159, 160, 161, 162, 163, 164, 165, 166, 167, 168, 169, 170, 171, 172, 173, 174, 175] (by decide +kernel) (by decide +kernel)
set_option maxRecDepth 20000 in
theorem gX12_odds_X12_seen : GoodIn wsX12_odds (wsV RX12 153 RX12 yX12_seen wsX12_seen) := goodIn_app (goodIn_of _ (by decide +kernel)) ggX12_odds_X12_seen
set_option maxRecDepth 20000 in
theorem ggX12_odds_X12_putBack : GoodIn wsX12_odds wsX12_putBack := goodIn_r _ [149, 7, 29, 150, 151, 152, 153, 154, 155, 156, 157, 158, 159, 160, 161, 162, 163, 164, 165, 166, 167, 168, 169, 170, 171, 172, 173, 174, 175] (by decide +kernel) (by decide +kernel)
set_option maxRecDepth 20000 in
theorem gX12_odds_X12_putBack : GoodIn wsX12_odds (wsV RX12 239 RX12 yX12_putBack wsX12_putBack) := goodIn_app (goodIn_of _ (by decide +kernel)) ggX12_odds_X12_putBack
set_option maxRecDepth 20000 in
theorem ggX12_own_X12_kindOf : GoodIn wsX12_own wsX12_kindOf := goodIn_r _ [6, 7, 8, 9, 10, 11, 12, 13, 14, 15, 16, 17, 18, 19, 20, 21, 22, 23, 24, 25, 26, 27, 28, 29, 30, 31, 32, 33] (by decide +kernel) (by decide +kernel)
set_option maxRecDepth 20000 in
theorem gX12_own_X12_kindOf : GoodIn wsX12_own (wsV RX12 175 RX12 yX12_kindOf wsX12_kindOf) := goodIn_app (goodIn_of _ (by decide +kernel)) ggX12_own_X12_kindOf
set_option maxRecDepth 20000 in
theorem ggX12_movesBy_X12_ran : GoodIn wsX12_movesBy wsX12_ran := goodIn_r _ [6, 7, 8, 15, 16, 17, 18, 19, 20, 21, 22, 23, 24, 25, 26, 27, 28, 29, 30, 31, 32, 33, 34, 35, 36, 37, 38, 39, 40] (by decide +kernel) (by decide +kernel)
set_option maxRecDepth 20000 in
theorem gX12_movesBy_X12_ran : GoodIn wsX12_movesBy (wsV RX12 265 RX12 yX12_ran wsX12_ran) := goodIn_app (goodIn_of _ (by decide +kernel)) ggX12_movesBy_X12_ran
set_option maxRecDepth 20000 in
theorem ggX12_movesBy_X12_above : GoodIn wsX12_movesBy wsX12_above := goodIn_r _ [11] (by decide +kernel) (by decide +kernel)
set_option maxRecDepth 20000 in
theorem gX12_movesBy_X12_above : GoodIn wsX12_movesBy (va_wsS RX12 197 yX12_above wsX12_above) := goodIn_app (goodIn_of _ (by decide +kernel)) ggX12_movesBy_X12_above
set_option maxRecDepth 20000 in
theorem ggX12_movesBy_X12_movesBy : GoodIn wsX12_movesBy wsX12_movesBy := goodIn_r _ [0, 1, 2, 3, 4, 5, 6, 7, 8, 9, 10, 11, 12, 13, 14, 15, 16, 17, 18, 19, 20, 21, 22, 23, 24, 25, 26, 27, 28, 29, 30, 31, 32, 33, 34, 35, 36, 37, 38, 39, 40] (by decide +kernel) (by decide +kernel)
set_option maxRecDepth 20000 in
theorem gX12_movesBy_X12_movesBy : GoodIn wsX12_movesBy (wsV RX12 268 RX12 yX12_movesBy wsX12_movesBy) := goodIn_app (goodIn_of _ (by decide +kernel)) ggX12_movesBy_X12_movesBy
set_option maxRecDepth 20000 in
theorem ggX12_letsBy_X12_ran : GoodIn wsX12_letsBy wsX12_ran := goodIn_r _ [5, 6, 7, 36, 37, 38, 39, 40, 41, 42, 43, 44, 45, 46, 47, 48, 49, 50, 51, 52, 53, 54, 55, 56, 57, 58, 59, 60, 61] (by decide +kernel) (by decide +kernel)
set_option maxRecDepth 20000 in
theorem gX12_letsBy_X12_ran : GoodIn wsX12_letsBy (wsV RX12 265 RX12 yX12_ran wsX12_ran) := goodIn_app (goodIn_of _ (by decide +kernel)) ggX12_letsBy_X12_ran
set_option maxRecDepth 20000 in
theorem ggX12_letsBy_X12_own : GoodIn wsX12_letsBy wsX12_own := goodIn_r _ [11, 12, 13, 14, 15, 4, 16, 17, 36, 37, 38, 39, 40, 41, 42, 43, 44, 45, 46, 47, 48, 49, 50, 51, 52, 53, 54, 55, 56, 57, 58, 59, 60, 61] (by decide +kernel) (by decide +kernel)
set_option maxRecDepth 20000 in
theorem gX12_letsBy_X12_own : GoodIn wsX12_letsBy (wsV RX12 271 RX12 yX12_own wsX12_own) := goodIn_app (goodIn_of _ (by decide +kernel)) ggX12_letsBy_X12_own
set_option maxRecDepth 20000 in
theorem ggX12_letsBy_X12_movesBy : GoodIn wsX12_letsBy wsX12_movesBy := goodIn_r _ [21, 12, 1, 2, 3, 4, 5, 6, 7, 22, 23, 24, 18, 19, 20, 36, 37, 38, 39, 40, 41, 42, 43, 44, 45, 46, 47, 48, 49, 50, 51, 52, 53, 54, 55, 56, 57, 58, 59, 60, 61] (by decide +kernel) (by decide +kernel)
set_option maxRecDepth 20000 in
theorem gX12_letsBy_X12_movesBy : GoodIn wsX12_letsBy (wsV RX12 268 RX12 yX12_movesBy wsX12_movesBy) := goodIn_app (goodIn_of _ (by decide +kernel)) ggX12_letsBy_X12_movesBy
set_option maxRecDepth 20000 in
theorem ggX12_letsBy_X12_above : GoodIn wsX12_letsBy wsX12_above := goodIn_r _ [24] (by decide +kernel) (by decide +kernel)
set_option maxRecDepth 20000 in
theorem gX12_letsBy_X12_above : GoodIn wsX12_letsBy (va_wsS RX12 197 yX12_above wsX12_above) := goodIn_app (goodIn_of _ (by decide +kernel)) ggX12_letsBy_X12_above
set_option maxRecDepth 20000 in
theorem ggX12_letsBy_X12_letsBy : GoodIn wsX12_letsBy wsX12_letsBy := goodIn_r _ [0, 1, 2, 3, 4, 5, 6, 7, 8, 9, 10, 11, 12, 13, 14, 15, 16, 17, 18, 19, 20, 21, 22, 23, 24, 25, 26, 27, 28, 29, 30, 31, 32, 33, 34, 35, 36, 37, 38, 39, 40, 41, 42, 43, 44, 45, 46, 47, 48, 49, 50, 51, 52, 53, 54, 55, 56, 57, 58, 59, 60, 61] (by decide +kernel) (by decide +kernel)
set_option maxRecDepth 20000 in
theorem gX12_letsBy_X12_letsBy : GoodIn wsX12_letsBy (wsV RX12 274 RX12 yX12_letsBy wsX12_letsBy) := goodIn_app (goodIn_of _ (by decide +kernel)) ggX12_letsBy_X12_letsBy
set_option maxRecDepth 20000 in
theorem ggX12_letsBy_X12_tearsBy : GoodIn wsX12_letsBy wsX12_tearsBy := goodIn_r _ [31, 12, 1, 2, 3, 4, 5, 6, 7, 32, 33, 34, 35, 17, 22, 23, 24, 28, 29, 30, 36, 37, 38, 39, 40, 41, 42, 43, 44, 45, 46, 47, 48, 49, 50, 51, 52, 53, 54, 55, 56, 57, 58, 59, 60, 61] (by decide +kernel) (by decide +kernel)
set_option maxRecDepth 20000 in
theorem gX12_letsBy_X12_tearsBy : GoodIn wsX12_letsBy (wsV RX12 277 RX12 yX12_tearsBy wsX12_tearsBy) := goodIn_app (goodIn_of _ (by decide +kernel)) ggX12_letsBy_X12_tearsBy
set_option maxRecDepth 20000 in
theorem ggX12_tearsBy_X12_ran : GoodIn wsX12_tearsBy wsX12_ran := goodIn_r _ [6, 7, 8, 20, 21, 22, 23, 24, 25, 26, 27, 28, 29, 30, 31, 32, 33, 34, 35, 36, 37, 38, 39, 40, 41, 42, 43, 44, 45] (by decide +kernel) (by decide +kernel)
set_option maxRecDepth 20000 in
theorem gX12_tearsBy_X12_ran : GoodIn wsX12_tearsBy (wsV RX12 265 RX12 yX12_ran wsX12_ran) := goodIn_app (goodIn_of _ (by decide +kernel)) ggX12_tearsBy_X12_ran
set_option maxRecDepth 20000 in
theorem ggX12_tearsBy_X12_numberOf : GoodIn wsX12_tearsBy wsX12_numberOf := goodIn_r _ [12, 13, 20, 21, 22, 23, 24, 25, 26, 27, 28, 29, 30, 31, 32, 33, 34, 35, 36, 37, 38, 39, 40, 41, 42, 43, 44, 45] (by decide +kernel) (by decide +kernel)
set_option maxRecDepth 20000 in
theorem gX12_tearsBy_X12_numberOf : GoodIn wsX12_tearsBy (wsV RX12 147 RX12 yX12_numberOf wsX12_numberOf) := goodIn_app (goodIn_of _ (by decide +kernel)) ggX12_tearsBy_X12_numberOf
set_option maxRecDepth 20000 in
theorem ggX12_tearsBy_X12_above : GoodIn wsX12_tearsBy wsX12_above := goodIn_r _ [16] (by decide +kernel) (by decide +kernel)
set_option maxRecDepth 20000 in
theorem gX12_tearsBy_X12_above : GoodIn wsX12_tearsBy (va_wsS RX12 197 yX12_above wsX12_above) := goodIn_app (goodIn_of _ (by decide +kernel)) ggX12_tearsBy_X12_above
set_option maxRecDepth 20000 in
theorem ggX12_tearsBy_X12_tearsBy : GoodIn wsX12_tearsBy wsX12_tearsBy := goodIn_r _ [0, 1, 2, 3, 4, 5, 6, 7, 8, 9, 10, 11, 12, 13, 14, 15, 16, 17, 18, 19, 20, 21, 22, 23, 24, 25, 26, 27, 28, 29, 30, 31, 32, 33, 34, 35, 36, 37, 38, 39, 40, 41, 42, 43, 44, 45] (by decide +kernel) (by decide +kernel)
set_option maxRecDepth 20000 in
theorem gX12_tearsBy_X12_tearsBy : GoodIn wsX12_tearsBy (wsV RX12 277 RX12 yX12_tearsBy wsX12_tearsBy) := goodIn_app (goodIn_of _ (by decide +kernel)) ggX12_tearsBy_X12_tearsBy
set_option maxRecDepth 20000 in
theorem ggX12_tellsBy_X12_ran : GoodIn wsX12_tellsBy wsX12_ran := goodIn_r _ [5, 6, 7, 40, 41, 42, 43, 44, 45, 46, 47, 48, 49, 50, 51, 52, 53, 54, 55, 56, 57, 58, 59, 60, 61, 62, 63, 64, 65] (by decide +kernel) (by decide +kernel)
set_option maxRecDepth 20000 in
theorem gX12_tellsBy_X12_ran : GoodIn wsX12_tellsBy (wsV RX12 265 RX12 yX12_ran wsX12_ran) := goodIn_app (goodIn_of _ (by decide +kernel)) ggX12_tellsBy_X12_ran
set_option maxRecDepth 20000 in
theorem ggX12_tellsBy_X12_own : GoodIn wsX12_tellsBy wsX12_own := goodIn_r _ [11, 12, 13, 14, 15, 4, 16, 17, 40, 41, 42, 43, 44, 45, 46, 47, 48, 49, 50, 51, 52, 53, 54, 55, 56, 57, 58, 59, 60, 61, 62, 63, 64, 65] (by decide +kernel) (by decide +kernel)
set_option maxRecDepth 20000 in
theorem gX12_tellsBy_X12_own : GoodIn wsX12_tellsBy (wsV RX12 271 RX12 yX12_own wsX12_own) := goodIn_app (goodIn_of _ (by decide +kernel)) ggX12_tellsBy_X12_own
set_option maxRecDepth 20000 in
theorem ggX12_tellsBy_X12_letsBy : GoodIn wsX12_tellsBy wsX12_letsBy := goodIn_r _ [21, 1, 2, 3, 4, 5, 6, 7, 8, 9, 10, 11, 12, 13, 14, 15, 16, 17, 22, 23, 24, 25, 26, 27, 28, 18, 19, 20, 29, 30, 31, 32, 33, 34, 35, 36, 40, 41, 42, 43, 44, 45, 46, 47, 48, 49, 50, 51, 52, 53, 54, 55, 56, 57, 58, 59, 60, 61, 62, 63, 64, 65] (by decide +kernel) (by decide +kernel)
set_option maxRecDepth 20000 in
theorem gX12_tellsBy_X12_letsBy : GoodIn wsX12_tellsBy (wsV RX12 274 RX12 yX12_letsBy wsX12_letsBy) := goodIn_app (goodIn_of _ (by decide +kernel)) ggX12_tellsBy_X12_letsBy
set_option maxRecDepth 20000 in
theorem ggX12_tellsBy_X12_tearsBy : GoodIn wsX12_tellsBy wsX12_tearsBy := goodIn_r _ [32, 12, 1, 2, 3, 4, 5, 6, 7, 33, 34, 35, 36, 17, 26, 27, 28, 29, 30, 31, 40, 41, 42, 43, 44, 45, 46, 47, 48, 49, 50, 51, 52, 53, 54, 55, 56, 57, 58, 59, 60, 61, 62, 63, 64, 65] (by decide +kernel) (by decide +kernel)
set_option maxRecDepth 20000 in
theorem gX12_tellsBy_X12_tearsBy : GoodIn wsX12_tellsBy (wsV RX12 277 RX12 yX12_tearsBy wsX12_tearsBy) := goodIn_app (goodIn_of _ (by decide +kernel)) ggX12_tellsBy_X12_tearsBy
set_option maxRecDepth 20000 in
theorem ggX12_tellsBy_X12_above : GoodIn wsX12_tellsBy wsX12_above := goodIn_r _ [28] (by decide +kernel) (by decide +kernel)
set_option maxRecDepth 20000 in
theorem gX12_tellsBy_X12_above : GoodIn wsX12_tellsBy (va_wsS RX12 197 yX12_above wsX12_above) := goodIn_app (goodIn_of _ (by decide +kernel)) ggX12_tellsBy_X12_above
set_option maxRecDepth 20000 in
theorem ggX12_tellsBy_X12_tellsBy : GoodIn wsX12_tellsBy wsX12_tellsBy := goodIn_r _ [0, 1, 2, 3, 4, 5, 6, 7, 8, 9, 10, 11, 12, 13, 14, 15, 16, 17, 18, 19, 20, 21, 22, 23, 24, 25, 26, 27, 28, 29, 30, 31, 32, 33, 34, 35, 36, 37, 38, 39, 40, 41, 42, 43, 44, 45, 46, 47, 48, 49, 50, 51, 52, 53, 54, 55, 56, 57, 58, 59, 60, 61, 62, 63, 64, 65] (by decide +kernel) (by decide +kernel)
set_option maxRecDepth 20000 in
theorem gX12_tellsBy_X12_tellsBy : GoodIn wsX12_tellsBy (wsV RX12 280 RX12 yX12_tellsBy wsX12_tellsBy) := goodIn_app (goodIn_of _ (by decide +kernel)) ggX12_tellsBy_X12_tellsBy
set_option maxRecDepth 20000 in
theorem ggX12_tellsBy_X12_movesBy : GoodIn wsX12_tellsBy wsX12_movesBy := goodIn_r _ [25, 12, 1, 2, 3, 4, 5, 6, 7, 26, 27, 28, 22, 23, 24, 40, 41, 42, 43, 44, 45, 46, 47, 48, 49, 50, 51, 52, 53, 54, 55, 56, 57, 58, 59, 60, 61, 62, 63, 64, 65] (by decide +kernel) (by decide +kernel)
set_option maxRecDepth 20000 in
theorem gX12_tellsBy_X12_movesBy : GoodIn wsX12_tellsBy (wsV RX12 268 RX12 yX12_movesBy wsX12_movesBy) := goodIn_app (goodIn_of _ (by decide +kernel)) ggX12_tellsBy_X12_movesBy
set_option maxRecDepth 20000 in
theorem ggX12_voice_X12_isTool : GoodIn wsX12_voice wsX12_isTool := goodIn_r _ [8, 9, 10, 11, 7, 12, 55, 56, 57, 58, 59, 60, 61, 62, 63, 64, 65, 66, 67, 68, 69, 70, 71, 72, 73, 74, 75, 76, 77, 78, 79, 80] (by decide +kernel) (by decide +kernel)
set_option maxRecDepth 20000 in
theorem gX12_voice_X12_isTool : GoodIn wsX12_voice (wsV RX12 180 RX12 yX12_isTool wsX12_isTool) := goodIn_app (goodIn_of _ (by decide +kernel)) ggX12_voice_X12_isTool
set_option maxRecDepth 20000 in
theorem ggX12_voice_X12_in : GoodIn wsX12_voice wsX12_in := goodIn_r _ [12] (by decide +kernel) (by decide +kernel)
set_option maxRecDepth 20000 in
theorem gX12_voice_X12_in : GoodIn wsX12_voice (va_wsS RX12 55 yX12_in wsX12_in) := goodIn_app (goodIn_of _ (by decide +kernel)) ggX12_voice_X12_in
set_option maxRecDepth 20000 in
theorem ggX12_voice_X12_finds : GoodIn wsX12_voice wsX12_finds := goodIn_r _ [16, 17, 18, 55, 56, 57, 58, 59, 60, 61, 62, 63, 64, 65, 66, 67, 68, 69, 70, 71, 72, 73, 74, 75, 76, 77, 78, 79, 80] (by decide +kernel) (by decide +kernel)
set_option maxRecDepth 20000 in
theorem gX12_voice_X12_finds : GoodIn wsX12_voice (wsV RX12 119 RX12 yX12_finds wsX12_finds) := goodIn_app (goodIn_of _ (by decide +kernel)) ggX12_voice_X12_finds
set_option maxRecDepth 20000 in
theorem ggX12_voice_X12_own : GoodIn wsX12_voice wsX12_own := goodIn_r _ [22, 3, 23, 24, 25, 7, 26, 9, 55, 56, 57, 58, 59, 60, 61, 62, 63, 64, 65, 66, 67, 68, 69, 70, 71, 72, 73, 74, 75, 76, 77, 78, 79, 80] (by decide +kernel) (by decide +kernel)
set_option maxRecDepth 20000 in
theorem gX12_voice_X12_own : GoodIn wsX12_voice (wsV RX12 271 RX12 yX12_own wsX12_own) := goodIn_app (goodIn_of _ (by decide +kernel)) ggX12_voice_X12_own
set_option maxRecDepth 20000 in
theorem ggX12_voice_X12_movesBy : GoodIn wsX12_voice wsX12_movesBy := goodIn_r _ [30, 3, 31, 32, 33, 7, 34, 2, 35, 36, 37, 38, 27, 28, 29, 55, 56, 57, 58, 59, 60, 61, 62, 63, 64, 65, 66, 67, 68, 69, 70, 71, 72, 73, 74, 75, 76, 77, 78, 79, 80] (by decide +kernel) (by decide +kernel)
set_option maxRecDepth 20000 in
theorem gX12_voice_X12_movesBy : GoodIn wsX12_voice (wsV RX12 268 RX12 yX12_movesBy wsX12_movesBy) := goodIn_app (goodIn_of _ (by decide +kernel)) ggX12_voice_X12_movesBy
set_option maxRecDepth 20000 in
theorem ggX12_voice_X12_letsBy : GoodIn wsX12_voice wsX12_letsBy := goodIn_r _ [42, 31, 32, 33, 7, 34, 2, 35, 19, 20, 21, 22, 3, 23, 24, 25, 26, 9, 27, 28, 29, 30, 36, 37, 38, 39, 40, 41, 43, 44, 45, 46, 47, 48, 49, 50, 55, 56, 57, 58, 59, 60, 61, 62, 63, 64, 65, 66, 67, 68, 69, 70, 71, 72, 73, 74, 75, 76, 77, 78, 79, 80] (by decide +kernel) (by decide +kernel)
set_option maxRecDepth 20000 in
theorem gX12_voice_X12_letsBy : GoodIn wsX12_voice (wsV RX12 274 RX12 yX12_letsBy wsX12_letsBy) := goodIn_app (goodIn_of _ (by decide +kernel)) ggX12_voice_X12_letsBy
set_option maxRecDepth 20000 in
theorem ggX12_voice_X12_tearsBy : GoodIn wsX12_voice wsX12_tearsBy := goodIn_r _ [46, 3, 31, 32, 33, 7, 34, 2, 35, 47, 48, 49, 50, 9, 36, 37, 38, 43, 44, 45, 55, 56, 57, 58, 59, 60, 61, 62, 63, 64, 65, 66, 67, 68, 69, 70, 71, 72, 73, 74, 75, 76, 77, 78, 79, 80] (by decide +kernel) (by decide +kernel)
set_option maxRecDepth 20000 in
theorem gX12_voice_X12_tearsBy : GoodIn wsX12_voice (wsV RX12 277 RX12 yX12_tearsBy wsX12_tearsBy) := goodIn_app (goodIn_of _ (by decide +kernel)) ggX12_voice_X12_tearsBy
set_option maxRecDepth 20000 in
theorem ggX12_voice_X12_tellsBy : GoodIn wsX12_voice wsX12_tellsBy := goodIn_r _ [54, 31, 32, 33, 7, 34, 2, 35, 19, 20, 21, 22, 3, 23, 24, 25, 26, 9, 39, 40, 41, 42, 27, 28, 29, 30, 36, 37, 38, 43, 44, 45, 46, 47, 48, 49, 50, 51, 52, 53, 55, 56, 57, 58, 59, 60, 61, 62, 63, 64, 65, 66, 67, 68, 69, 70, 71, 72, 73, 74, 75, 76, 77, 78, 79, 80] (by decide +kernel) (by decide +kernel)
set_option maxRecDepth 20000 in
theorem gX12_voice_X12_tellsBy : GoodIn wsX12_voice (wsV RX12 280 RX12 yX12_tellsBy wsX12_tellsBy) := goodIn_app (goodIn_of _ (by decide +kernel)) ggX12_voice_X12_tellsBy
set_option maxRecDepth 20000 in
theorem ggX12_trace_X12_in : GoodIn wsX12_trace wsX12_in := goodIn_r _ [6] (by decide +kernel) (by decide +kernel)
set_option maxRecDepth 20000 in
theorem gX12_trace_X12_in : GoodIn wsX12_trace (va_wsS RX12 55 yX12_in wsX12_in) := goodIn_app (goodIn_of _ (by decide +kernel)) ggX12_trace_X12_in
set_option maxRecDepth 20000 in
theorem ggX12_trace_X12_finds : GoodIn wsX12_trace wsX12_finds := goodIn_r _ [10, 11, 12, 13, 14, 15, 16, 17, 18, 19, 20, 21, 22, 23, 24, 25, 26, 27, 28, 29, 30, 31, 32, 33, 34, 35, 36, 37, 38] (by decide +kernel) (by decide +kernel)
set_option maxRecDepth 20000 in
theorem gX12_trace_X12_finds : GoodIn wsX12_trace (wsV RX12 119 RX12 yX12_finds wsX12_finds) := goodIn_app (goodIn_of _ (by decide +kernel)) ggX12_trace_X12_finds
set_option maxRecDepth 20000 in
theorem ggX12_isSheet_X12_in : GoodIn wsX12_isSheet wsX12_in := goodIn_r _ [5] (by decide +kernel) (by decide +kernel)
set_option maxRecDepth 20000 in
theorem gX12_isSheet_X12_in : GoodIn wsX12_isSheet (va_wsS RX12 55 yX12_in wsX12_in) := goodIn_app (goodIn_of _ (by decide +kernel)) ggX12_isSheet_X12_in
set_option maxRecDepth 20000 in
theorem ggX12_sheet_X12_isSheet : GoodIn wsX12_sheet wsX12_isSheet := goodIn_r _ [7, 8, 9, 10, 6, 11] (by decide +kernel) (by decide +kernel)
set_option maxRecDepth 20000 in
theorem gX12_sheet_X12_isSheet : GoodIn wsX12_sheet (va_wsS RX12 251 yX12_isSheet wsX12_isSheet) := goodIn_app (goodIn_of _ (by decide +kernel)) ggX12_sheet_X12_isSheet
set_option maxRecDepth 20000 in
theorem ggX12_sheet_X12_finds : GoodIn wsX12_sheet wsX12_finds := goodIn_r _ [15, 16, 17, 18, 19, 20, 21, 22, 23, 24, 25, 26, 27, 28, 29, 30, 31, 32, 33, 34, 35, 36, 37, 38, 39, 40, 41, 42, 43] (by decide +kernel) (by decide +kernel)
set_option maxRecDepth 20000 in
theorem gX12_sheet_X12_finds : GoodIn wsX12_sheet (wsV RX12 119 RX12 yX12_finds wsX12_finds) := goodIn_app (goodIn_of _ (by decide +kernel)) ggX12_sheet_X12_finds
set_option maxRecDepth 20000 in
theorem ggX12_put_X12_isSheet : GoodIn wsX12_put wsX12_isSheet := goodIn_r _ [7, 8, 9, 10, 6, 11] (by decide +kernel) (by decide +kernel)
set_option maxRecDepth 20000 in
theorem gX12_put_X12_isSheet : GoodIn wsX12_put (va_wsS RX12 251 yX12_isSheet wsX12_isSheet) := goodIn_app (goodIn_of _ (by decide +kernel)) ggX12_put_X12_isSheet
set_option maxRecDepth 20000 in
theorem ggX12_put_X12_finds : GoodIn wsX12_put wsX12_finds := goodIn_r _ [15, 16, 17, 18, 19, 20, 21, 22, 23, 24, 25, 26, 27, 28, 29, 30, 31, 32, 33, 34, 35, 36, 37, 38, 39, 40, 41, 42, 43] (by decide +kernel) (by decide +kernel)
set_option maxRecDepth 20000 in
theorem gX12_put_X12_finds : GoodIn wsX12_put (wsV RX12 119 RX12 yX12_finds wsX12_finds) := goodIn_app (goodIn_of _ (by decide +kernel)) ggX12_put_X12_finds
set_option maxRecDepth 20000 in
theorem ggX12_put_X12_in : GoodIn wsX12_put wsX12_in := goodIn_r _ [11] (by decide +kernel) (by decide +kernel)
set_option maxRecDepth 20000 in
theorem gX12_put_X12_in : GoodIn wsX12_put (va_wsS RX12 55 yX12_in wsX12_in) := goodIn_app (goodIn_of _ (by decide +kernel)) ggX12_put_X12_in
set_option maxRecDepth 20000 in
theorem ggX12_move_X12_isSheet : GoodIn wsX12_move wsX12_isSheet := goodIn_r _ [8, 9, 10, 11, 7, 12] (by decide +kernel) (by decide +kernel)
set_option maxRecDepth 20000 in
theorem gX12_move_X12_isSheet : GoodIn wsX12_move (va_wsS RX12 251 yX12_isSheet wsX12_isSheet) := goodIn_app (goodIn_of _ (by decide +kernel)) ggX12_move_X12_isSheet
set_option maxRecDepth 20000 in
theorem ggX12_move_X12_finds : GoodIn wsX12_move wsX12_finds := goodIn_r _ [16, 17, 18, 19, 20, 21, 22, 23, 24, 25, 26, 27, 28, 29, 30, 31, 32, 33, 34, 35, 36, 37, 38, 39, 40, 41, 42, 43, 44] (by decide +kernel) (by decide +kernel)
set_option maxRecDepth 20000 in
theorem gX12_move_X12_finds : GoodIn wsX12_move (wsV RX12 119 RX12 yX12_finds wsX12_finds) := goodIn_app (goodIn_of _ (by decide +kernel)) ggX12_move_X12_finds
set_option maxRecDepth 20000 in
theorem ggX12_airs_X12_isSheet : GoodIn wsX12_airs wsX12_isSheet := goodIn_r _ [9, 10, 11, 12, 8, 13] (by decide +kernel) (by decide +kernel)
set_option maxRecDepth 20000 in
theorem gX12_airs_X12_isSheet : GoodIn wsX12_airs (va_wsS RX12 251 yX12_isSheet wsX12_isSheet) := goodIn_app (goodIn_of _ (by decide +kernel)) ggX12_airs_X12_isSheet
set_option maxRecDepth 20000 in
theorem ggX12_airs_X12_finds : GoodIn wsX12_airs wsX12_finds := goodIn_r _ [17, 18, 19, 24, 25, 26, 27, 28, 29, 30, 31, 32, 33, 34, 35, 36, 37, 38, 39, 40, 41, 42, 43, 44, 45, 46, 47, 48, 49] (by decide +kernel) (by decide +kernel)
set_option maxRecDepth 20000 in
theorem gX12_airs_X12_finds : GoodIn wsX12_airs (wsV RX12 119 RX12 yX12_finds wsX12_finds) := goodIn_app (goodIn_of _ (by decide +kernel)) ggX12_airs_X12_finds
set_option maxRecDepth 20000 in
theorem ggX12_airs_X12_cells : GoodIn wsX12_airs wsX12_cells := goodIn_r _ [23, 5, 24, 25, 26, 27, 28, 29, 30, 31, 32, 33, 34, 35, 36, 37, 38, 39, 40, 41, 42, 43, 44, 45, 46, 47, 48, 49] (by decide +kernel) (by decide +kernel)
set_option maxRecDepth 20000 in
theorem gX12_airs_X12_cells : GoodIn wsX12_airs (wsV RX12 51 RX12 yX12_cells wsX12_cells) := goodIn_app (goodIn_of _ (by decide +kernel)) ggX12_airs_X12_cells
set_option maxRecDepth 20000 in
theorem ggX12_airs_X12_in : GoodIn wsX12_airs wsX12_in := goodIn_r _ [13] (by decide +kernel) (by decide +kernel)
set_option maxRecDepth 20000 in
theorem gX12_airs_X12_in : GoodIn wsX12_airs (va_wsS RX12 55 yX12_in wsX12_in) := goodIn_app (goodIn_of _ (by decide +kernel)) ggX12_airs_X12_in
set_option maxRecDepth 20000 in
theorem ggX12_judge_X12_isSheet : GoodIn wsX12_judge wsX12_isSheet := goodIn_r _ [8, 9, 10, 11, 7, 12] (by decide +kernel) (by decide +kernel)
set_option maxRecDepth 20000 in
theorem gX12_judge_X12_isSheet : GoodIn wsX12_judge (va_wsS RX12 251 yX12_isSheet wsX12_isSheet) := goodIn_app (goodIn_of _ (by decide +kernel)) ggX12_judge_X12_isSheet
set_option maxRecDepth 20000 in
theorem ggX12_judge_X12_finds : GoodIn wsX12_judge wsX12_finds := goodIn_r _ [16, 17, 18, 23, 24, 25, 26, 27, 28, 29, 30, 31, 32, 33, 34, 35, 36, 37, 38, 39, 40, 41, 42, 43, 44, 45, 46, 47, 48] (by decide +kernel) (by decide +kernel)
set_option maxRecDepth 20000 in
theorem gX12_judge_X12_finds : GoodIn wsX12_judge (wsV RX12 119 RX12 yX12_finds wsX12_finds) := goodIn_app (goodIn_of _ (by decide +kernel)) ggX12_judge_X12_finds
set_option maxRecDepth 20000 in
theorem ggX12_judge_X12_cells : GoodIn wsX12_judge wsX12_cells := goodIn_r _ [22, 4, 23, 24, 25, 26, 27, 28, 29, 30, 31, 32, 33, 34, 35, 36, 37, 38, 39, 40, 41, 42, 43, 44, 45, 46, 47, 48] (by decide +kernel) (by decide +kernel)
set_option maxRecDepth 20000 in
theorem gX12_judge_X12_cells : GoodIn wsX12_judge (wsV RX12 51 RX12 yX12_cells wsX12_cells) := goodIn_app (goodIn_of _ (by decide +kernel)) ggX12_judge_X12_cells
set_option maxRecDepth 20000 in
theorem ggX12_restore_X12_finds : GoodIn wsX12_restore wsX12_finds := goodIn_r _ [8, 9, 10, 11, 12, 13, 14, 15, 16, 17, 18, 19, 20, 21, 22, 23, 24, 25, 26, 27, 28, 29, 30, 31, 32, 33, 34, 35, 36] (by decide +kernel) (by decide +kernel)
set_option maxRecDepth 20000 in
theorem gX12_restore_X12_finds : GoodIn wsX12_restore (wsV RX12 119 RX12 yX12_finds wsX12_finds) := goodIn_app (goodIn_of _ (by decide +kernel)) ggX12_restore_X12_finds
set_option maxRecDepth 20000 in
theorem ggX12_tell_X12_finds : GoodIn wsX12_tell wsX12_finds := goodIn_r _ [6, 7, 8, 9, 10, 11, 12, 13, 14, 15, 16, 17, 18, 19, 20, 21, 22, 23, 24, 25, 26, 27, 28, 29, 30, 31, 32, 33, 34] (by decide +kernel) (by decide +kernel)
set_option maxRecDepth 20000 in
theorem gX12_tell_X12_finds : GoodIn wsX12_tell (wsV RX12 119 RX12 yX12_finds wsX12_finds) := goodIn_app (goodIn_of _ (by decide +kernel)) ggX12_tell_X12_finds
set_option maxRecDepth 20000 in
theorem ggX12_check_X12_keepAside : GoodIn wsX12_check wsX12_keepAside := goodIn_r _ [6, 7, 1, 24, 25, 26, 27, 28, 29, 30, 31, 32, 33, 34, 35, 36, 37, 38, 39, 40, 41, 42, 43, 44, 45, 46, 47, 48, 49] (by decide +kernel) (by decide +kernel)
set_option maxRecDepth 20000 in
theorem gX12_check_X12_keepAside : GoodIn wsX12_check (wsV RX12 236 RX12 yX12_keepAside wsX12_keepAside) := goodIn_app (goodIn_of _ (by decide +kernel)) ggX12_check_X12_keepAside
set_option maxRecDepth 20000 in
theorem ggX12_check_X12_nightGoes : GoodIn wsX12_check wsX12_nightGoes := goodIn_r _ [11, 1, 12, 13, 14, 5, 15, 24, 25, 26, 27, 28, 29, 30, 31, 32, 33, 34, 35, 36, 37, 38, 39, 40, 41, 42, 43, 44, 45, 46, 47, 48, 49] (by decide +kernel) (by decide +kernel)
set_option maxRecDepth 20000 in
theorem gX12_check_X12_nightGoes : GoodIn wsX12_check (wsV RX12 211 RX12 yX12_nightGoes wsX12_nightGoes) := goodIn_app (goodIn_of _ (by decide +kernel)) ggX12_check_X12_nightGoes
set_option maxRecDepth 20000 in
theorem ggX12_check_X12_allAir : GoodIn wsX12_check wsX12_allAir := goodIn_r _ [19, 1, 12, 13, 14, 5, 15, 24, 25, 26, 27, 28, 29, 30, 31, 32, 33, 34, 35, 36, 37, 38, 39, 40, 41, 42, 43, 44, 45, 46, 47, 48, 49] (by decide +kernel) (by decide +kernel)
set_option maxRecDepth 20000 in
theorem gX12_check_X12_allAir : GoodIn wsX12_check (wsV RX12 214 RX12 yX12_allAir wsX12_allAir) := goodIn_app (goodIn_of _ (by decide +kernel)) ggX12_check_X12_allAir
set_option maxRecDepth 20000 in
theorem ggX12_check_X12_putBack : GoodIn wsX12_check wsX12_putBack := goodIn_r _ [23, 1, 7, 24, 25, 26, 27, 28, 29, 30, 31, 32, 33, 34, 35, 36, 37, 38, 39, 40, 41, 42, 43, 44, 45, 46, 47, 48, 49] (by decide +kernel) (by decide +kernel)
set_option maxRecDepth 20000 in
theorem gX12_check_X12_putBack : GoodIn wsX12_check (wsV RX12 239 RX12 yX12_putBack wsX12_putBack) := goodIn_app (goodIn_of _ (by decide +kernel)) ggX12_check_X12_putBack
set_option maxRecDepth 20000 in
theorem ggX12_count_X12_cells : GoodIn wsX12_count wsX12_cells := goodIn_r _ [7, 1, 18, 19, 20, 21, 22, 23, 24, 25, 26, 27, 28, 29, 30, 31, 32, 33, 34, 35, 36, 37, 38, 39, 40, 41, 42, 43] (by decide +kernel) (by decide +kernel)
set_option maxRecDepth 20000 in
theorem gX12_count_X12_cells : GoodIn wsX12_count (wsV RX12 51 RX12 yX12_cells wsX12_cells) := goodIn_app (goodIn_of _ (by decide +kernel)) ggX12_count_X12_cells
set_option maxRecDepth 20000 in
theorem ggX12_count_X12_allAir : GoodIn wsX12_count wsX12_allAir := goodIn_r _ [11, 1, 3, 4, 5, 6, 7, 18, 19, 20, 21, 22, 23, 24, 25, 26, 27, 28, 29, 30, 31, 32, 33, 34, 35, 36, 37, 38, 39, 40, 41, 42, 43] (by decide +kernel) (by decide +kernel)
set_option maxRecDepth 20000 in
theorem gX12_count_X12_allAir : GoodIn wsX12_count (wsV RX12 214 RX12 yX12_allAir wsX12_allAir) := goodIn_app (goodIn_of _ (by decide +kernel)) ggX12_count_X12_allAir
set_option maxRecDepth 20000 in
theorem ggX12_count_X12_finds : GoodIn wsX12_count wsX12_finds := goodIn_r _ [15, 16, 17, 18, 19, 20, 21, 22, 23, 24, 25, 26, 27, 28, 29, 30, 31, 32, 33, 34, 35, 36, 37, 38, 39, 40, 41, 42, 43] (by decide +kernel) (by decide +kernel)
set_option maxRecDepth 20000 in
theorem gX12_count_X12_finds : GoodIn wsX12_count (wsV RX12 119 RX12 yX12_finds wsX12_finds) := goodIn_app (goodIn_of _ (by decide +kernel)) ggX12_count_X12_finds
set_option maxRecDepth 20000 in
theorem ggX12_told_X12_in : GoodIn wsX12_told wsX12_in := goodIn_r _ [6] (by decide +kernel) (by decide +kernel)
set_option maxRecDepth 20000 in
theorem gX12_told_X12_in : GoodIn wsX12_told (va_wsS RX12 55 yX12_in wsX12_in) := goodIn_app (goodIn_of _ (by decide +kernel)) ggX12_told_X12_in
set_option maxRecDepth 20000 in
theorem ggX12_told_X12_finds : GoodIn wsX12_told wsX12_finds := goodIn_r _ [10, 2, 11, 12, 13, 14, 15, 16, 17, 18, 19, 20, 21, 22, 23, 24, 25, 26, 27, 28, 29, 30, 31, 32, 33, 34, 35, 36, 37] (by decide +kernel) (by decide +kernel)
set_option maxRecDepth 20000 in
theorem gX12_told_X12_finds : GoodIn wsX12_told (wsV RX12 119 RX12 yX12_finds wsX12_finds) := goodIn_app (goodIn_of _ (by decide +kernel)) ggX12_told_X12_finds
set_option maxRecDepth 20000 in
theorem ggJ0_length_8abf5_J0_coder_7d493 : GoodIn wsJ0_length_8abf5 wsJ0_coder_7d493 := goodIn_r _ [6, 7, 8] (by decide +kernel) (by decide +kernel)
set_option maxRecDepth 20000 in
theorem gJ0_length_8abf5_J0_coder_7d493 : GoodIn wsJ0_length_8abf5 (wsV RJ0 335 RJ0 yJ0_coder_7d493 wsJ0_coder_7d493) := goodIn_app (goodIn_of _ (by decide +kernel)) ggJ0_length_8abf5_J0_coder_7d493
set_option maxRecDepth 20000 in
theorem ggJ0_indexOf_0f7a4_J0_indexOf_7cf53 : GoodIn wsJ0_indexOf_0f7a4 wsJ0_indexOf_7cf53 := goodIn_r _ [5, 6, 7, 8, 9, 4, 10, 11, 12, 13, 14, 15, 16, 17, 18, 19, 20, 21, 22, 23, 24, 25, 26, 27, 28, 29, 30, 31, 32, 33, 34, 35, 36, 37, 38, 39, 40, 41, 42, 43, 44, 45, 46, 47, 48, 49, 50, 51, 52, 53, 54, 55, 56, 57, 58, 59, 60, 61, 62, 63, 64, 65, 66, 67, 68, 69, 70, 71, 72, 73, 74, 75, 76, 77, 78, 79, 80, 81, 82, 83, 84, 85] (by decide +kernel) (by decide +kernel)
set_option maxRecDepth 20000 in
theorem gJ0_indexOf_0f7a4_J0_indexOf_7cf53 : GoodIn wsJ0_indexOf_0f7a4 (wsV RJ0 633 RJ0 yJ0_indexOf_7cf53 wsJ0_indexOf_7cf53) := goodIn_app (goodIn_of _ (by decide +kernel)) ggJ0_indexOf_0f7a4_J0_indexOf_7cf53
set_option maxRecDepth 20000 in
theorem ggJ0_indexOf_7cf53_J0_isLatin1_aae02 : GoodIn wsJ0_indexOf_7cf53 wsJ0_isLatin1_aae02 := goodIn_r _ [6, 7, 8] (by decide +kernel) (by decide +kernel)
set_option maxRecDepth 20000 in
theorem gJ0_indexOf_7cf53_J0_isLatin1_aae02 : GoodIn wsJ0_indexOf_7cf53 (wsV RJ0 492 RJ0 yJ0_isLatin1_aae02 wsJ0_isLatin1_aae02) := goodIn_app (goodIn_of _ (by decide +kernel)) ggJ0_indexOf_7cf53_J0_isLatin1_aae02
set_option maxRecDepth 20000 in
theorem ggJ0_indexOf_7cf53_J0_length_8abf5 : GoodIn wsJ0_indexOf_7cf53 wsJ0_length_8abf5 := goodIn_r _ [12, 1, 13, 14, 15, 5, 16, 7, 8] (by decide +kernel) (by decide +kernel)
set_option maxRecDepth 20000 in
theorem gJ0_indexOf_7cf53_J0_length_8abf5 : GoodIn wsJ0_indexOf_7cf53 (wsV RJ0 505 RJ0 yJ0_length_8abf5 wsJ0_length_8abf5) := goodIn_app (goodIn_of _ (by decide +kernel)) ggJ0_indexOf_7cf53_J0_length_8abf5
set_option maxRecDepth 20000 in
theorem ggJ0_indexOf_7cf53_J1_indexOf_4cfef : GoodIn wsJ0_indexOf_7cf53 wsJ1_indexOf_4cfef := goodIn_r _ [20, 21, 22, 23, 24, 25, 26, 27, 28, 29, 19, 30, 31, 32, 33] (by decide +kernel) (by decide +kernel)
set_option maxRecDepth 20000 in
theorem gJ0_indexOf_7cf53_J1_indexOf_4cfef : GoodIn wsJ0_indexOf_7cf53 (va_wsS RJ0 637 yJ1_indexOf_4cfef wsJ1_indexOf_4cfef) := goodIn_app (goodIn_of _ (by decide +kernel)) ggJ0_indexOf_7cf53_J1_indexOf_4cfef
set_option maxRecDepth 20000 in
theorem ggJ0_indexOf_7cf53_J2_indexOf_4cfef : GoodIn wsJ0_indexOf_7cf53 wsJ2_indexOf_4cfef := goodIn_r _ [37, 38, 22, 23, 24, 39, 26, 27, 40, 41, 42, 36, 43, 44, 45, 46, 47, 48, 49, 50, 51, 5, 52, 53, 54, 55, 56, 57, 58, 59, 60, 61, 62, 63, 64, 65, 66, 67, 68, 69, 70, 71, 72, 73, 74, 75, 76, 77, 78, 79, 80, 81] (by decide +kernel) (by decide +kernel)
set_option maxRecDepth 20000 in
theorem gJ0_indexOf_7cf53_J2_indexOf_4cfef : GoodIn wsJ0_indexOf_7cf53 (va_wsS RJ0 640 yJ2_indexOf_4cfef wsJ2_indexOf_4cfef) := goodIn_app (goodIn_of _ (by decide +kernel)) ggJ0_indexOf_7cf53_J2_indexOf_4cfef
set_option maxRecDepth 20000 in
theorem ggJ0_checkBoundsBeginEnd_23922_J3_checkFromToIndex_8c36e : GoodIn wsJ0_checkBoundsBeginEnd_23922 wsJ3_checkFromToIndex_8c36e := goodIn_r _ [5] (by decide +kernel) (by decide +kernel)
set_option maxRecDepth 20000 in
theorem gJ0_checkBoundsBeginEnd_23922_J3_checkFromToIndex_8c36e : GoodIn wsJ0_checkBoundsBeginEnd_23922 (va_wsS RJ0 1062 yJ3_checkFromToIndex_8c36e wsJ3_checkFromToIndex_8c36e) := goodIn_app (goodIn_of _ (by decide +kernel)) ggJ0_checkBoundsBeginEnd_23922_J3_checkFromToIndex_8c36e
set_option maxRecDepth 20000 in
theorem ggJ1_indexOf_4cfef_J1_canEncode_9a6ad : GoodIn wsJ1_indexOf_4cfef wsJ1_canEncode_9a6ad := goodIn_r _ [11] (by decide +kernel) (by decide +kernel)
set_option maxRecDepth 20000 in
theorem gJ1_indexOf_4cfef_J1_canEncode_9a6ad : GoodIn wsJ1_indexOf_4cfef (va_wsS RJ1 88 yJ1_canEncode_9a6ad wsJ1_canEncode_9a6ad) := goodIn_app (goodIn_of _ (by decide +kernel)) ggJ1_indexOf_4cfef_J1_canEncode_9a6ad
set_option maxRecDepth 20000 in
theorem ggJ1_indexOf_4cfef_J1_indexOfChar_4cfef : GoodIn wsJ1_indexOf_4cfef wsJ1_indexOfChar_4cfef := goodIn_r _ [14] (by decide +kernel) (by decide +kernel)
set_option maxRecDepth 20000 in
theorem gJ1_indexOf_4cfef_J1_indexOfChar_4cfef : GoodIn wsJ1_indexOf_4cfef (va_wsS RJ1 95 yJ1_indexOfChar_4cfef wsJ1_indexOfChar_4cfef) := goodIn_app (goodIn_of _ (by decide +kernel)) ggJ1_indexOf_4cfef_J1_indexOfChar_4cfef
set_option maxRecDepth 20000 in
theorem ggJ2_getChar_3b067_J2_length_9d52b : GoodIn wsJ2_getChar_3b067 wsJ2_length_9d52b := goodIn_r _ [7] (by decide +kernel) (by decide +kernel)
set_option maxRecDepth 20000 in
theorem gJ2_getChar_3b067_J2_length_9d52b : GoodIn wsJ2_getChar_3b067 (va_wsS RJ2 48 yJ2_length_9d52b wsJ2_length_9d52b) := goodIn_app (goodIn_of _ (by decide +kernel)) ggJ2_getChar_3b067_J2_length_9d52b
set_option maxRecDepth 20000 in
theorem ggJ2_indexOf_4cfef_J2_indexOfChar_4cfef : GoodIn wsJ2_indexOf_4cfef wsJ2_indexOfChar_4cfef := goodIn_r _ [12, 13, 14, 11, 15, 16, 17, 18, 19, 20, 21, 22, 23, 24, 25, 26, 27, 28, 29, 30, 31, 32, 33, 34, 35, 36] (by decide +kernel) (by decide +kernel)
set_option maxRecDepth 20000 in
theorem gJ2_indexOf_4cfef_J2_indexOfChar_4cfef : GoodIn wsJ2_indexOf_4cfef (va_wsS RJ2 228 yJ2_indexOfChar_4cfef wsJ2_indexOfChar_4cfef) := goodIn_app (goodIn_of _ (by decide +kernel)) ggJ2_indexOf_4cfef_J2_indexOfChar_4cfef
set_option maxRecDepth 20000 in
theorem ggJ2_indexOf_4cfef_J2_indexOfSupplementary_4cfef : GoodIn wsJ2_indexOf_4cfef wsJ2_indexOfSupplementary_4cfef := goodIn_r _ [39, 40, 41, 42, 43, 44, 45, 46, 47, 48, 49, 50, 51, 13, 14, 11, 15, 16, 17, 18, 19, 20, 21, 22, 23, 24, 25, 26, 27, 31, 32, 33, 34, 35, 36] (by decide +kernel) (by decide +kernel)
set_option maxRecDepth 20000 in
theorem gJ2_indexOf_4cfef_J2_indexOfSupplementary_4cfef : GoodIn wsJ2_indexOf_4cfef (va_wsS RJ2 232 yJ2_indexOfSupplementary_4cfef wsJ2_indexOfSupplementary_4cfef) := goodIn_app (goodIn_of _ (by decide +kernel)) ggJ2_indexOf_4cfef_J2_indexOfSupplementary_4cfef
set_option maxRecDepth 20000 in
theorem ggJ2_indexOfChar_4cfef_J2_checkBoundsBeginEnd_d044e : GoodIn wsJ2_indexOfChar_4cfef wsJ2_checkBoundsBeginEnd_d044e := goodIn_r _ [4, 5, 6, 3, 7, 8, 9, 10, 11, 12, 13, 14, 15, 16] (by decide +kernel) (by decide +kernel)
set_option maxRecDepth 20000 in
theorem gJ2_indexOfChar_4cfef_J2_checkBoundsBeginEnd_d044e : GoodIn wsJ2_indexOfChar_4cfef (va_wsS RJ2 96 yJ2_checkBoundsBeginEnd_d044e wsJ2_checkBoundsBeginEnd_d044e) := goodIn_app (goodIn_of _ (by decide +kernel)) ggJ2_indexOfChar_4cfef_J2_checkBoundsBeginEnd_d044e
set_option maxRecDepth 20000 in
theorem ggJ2_indexOfChar_4cfef_J2_indexOfCharUnsafe_4cfef : GoodIn wsJ2_indexOfChar_4cfef wsJ2_indexOfCharUnsafe_4cfef := goodIn_r _ [19, 20, 21, 3, 22, 23, 24, 25, 5, 6, 7] (by decide +kernel) (by decide +kernel)
set_option maxRecDepth 20000 in
theorem gJ2_indexOfChar_4cfef_J2_indexOfCharUnsafe_4cfef : GoodIn wsJ2_indexOfChar_4cfef (va_wsS RJ2 244 yJ2_indexOfCharUnsafe_4cfef wsJ2_indexOfCharUnsafe_4cfef) := goodIn_app (goodIn_of _ (by decide +kernel)) ggJ2_indexOfChar_4cfef_J2_indexOfCharUnsafe_4cfef
set_option maxRecDepth 20000 in
theorem ggJ2_indexOfCharUnsafe_4cfef_J2_getChar_3b067 : GoodIn wsJ2_indexOfCharUnsafe_4cfef wsJ2_getChar_3b067 := goodIn_r _ [4, 5, 6, 7, 8, 9, 3, 10] (by decide +kernel) (by decide +kernel)
set_option maxRecDepth 20000 in
theorem gJ2_indexOfCharUnsafe_4cfef_J2_getChar_3b067 : GoodIn wsJ2_indexOfCharUnsafe_4cfef (va_wsS RJ2 71 yJ2_getChar_3b067 wsJ2_getChar_3b067) := goodIn_app (goodIn_of _ (by decide +kernel)) ggJ2_indexOfCharUnsafe_4cfef_J2_getChar_3b067
set_option maxRecDepth 20000 in
theorem ggJ2_indexOfSupplementary_4cfef_J11_isValidCodePoint_9a6ad : GoodIn wsJ2_indexOfSupplementary_4cfef wsJ11_isValidCodePoint_9a6ad := goodIn_r _ [4] (by decide +kernel) (by decide +kernel)
set_option maxRecDepth 20000 in
theorem gJ2_indexOfSupplementary_4cfef_J11_isValidCodePoint_9a6ad : GoodIn wsJ2_indexOfSupplementary_4cfef (va_wsS RJ2 164 yJ11_isValidCodePoint_9a6ad wsJ11_isValidCodePoint_9a6ad) := goodIn_app (goodIn_of _ (by decide +kernel)) ggJ2_indexOfSupplementary_4cfef_J11_isValidCodePoint_9a6ad
set_option maxRecDepth 20000 in
theorem ggJ2_indexOfSupplementary_4cfef_J11_highSurrogate_5068e : GoodIn wsJ2_indexOfSupplementary_4cfef wsJ11_highSurrogate_5068e := goodIn_r _ [7, 8] (by decide +kernel) (by decide +kernel)
set_option maxRecDepth 20000 in
theorem gJ2_indexOfSupplementary_4cfef_J11_highSurrogate_5068e : GoodIn wsJ2_indexOfSupplementary_4cfef (va_wsS RJ2 157 yJ11_highSurrogate_5068e wsJ11_highSurrogate_5068e) := goodIn_app (goodIn_of _ (by decide +kernel)) ggJ2_indexOfSupplementary_4cfef_J11_highSurrogate_5068e
set_option maxRecDepth 20000 in
theorem ggJ2_indexOfSupplementary_4cfef_J11_lowSurrogate_5068e : GoodIn wsJ2_indexOfSupplementary_4cfef wsJ11_lowSurrogate_5068e := goodIn_r _ [11, 12] (by decide +kernel) (by decide +kernel)
set_option maxRecDepth 20000 in
theorem gJ2_indexOfSupplementary_4cfef_J11_lowSurrogate_5068e : GoodIn wsJ2_indexOfSupplementary_4cfef (va_wsS RJ2 161 yJ11_lowSurrogate_5068e wsJ11_lowSurrogate_5068e) := goodIn_app (goodIn_of _ (by decide +kernel)) ggJ2_indexOfSupplementary_4cfef_J11_lowSurrogate_5068e
set_option maxRecDepth 20000 in
theorem ggJ2_indexOfSupplementary_4cfef_J2_checkBoundsBeginEnd_d044e : GoodIn wsJ2_indexOfSupplementary_4cfef wsJ2_checkBoundsBeginEnd_d044e := goodIn_r _ [16, 17, 18, 15, 19, 20, 21, 22, 23, 24, 25, 26, 27, 28] (by decide +kernel) (by decide +kernel)
set_option maxRecDepth 20000 in
theorem gJ2_indexOfSupplementary_4cfef_J2_checkBoundsBeginEnd_d044e : GoodIn wsJ2_indexOfSupplementary_4cfef (va_wsS RJ2 96 yJ2_checkBoundsBeginEnd_d044e wsJ2_checkBoundsBeginEnd_d044e) := goodIn_app (goodIn_of _ (by decide +kernel)) ggJ2_indexOfSupplementary_4cfef_J2_checkBoundsBeginEnd_d044e
set_option maxRecDepth 20000 in
theorem ggJ2_indexOfSupplementary_4cfef_J2_getChar_3b067 : GoodIn wsJ2_indexOfSupplementary_4cfef wsJ2_getChar_3b067 := goodIn_r _ [31, 32, 33, 34, 17, 18, 15, 19] (by decide +kernel) (by decide +kernel)
set_option maxRecDepth 20000 in
theorem gJ2_indexOfSupplementary_4cfef_J2_getChar_3b067 : GoodIn wsJ2_indexOfSupplementary_4cfef (va_wsS RJ2 71 yJ2_getChar_3b067 wsJ2_getChar_3b067) := goodIn_app (goodIn_of _ (by decide +kernel)) ggJ2_indexOfSupplementary_4cfef_J2_getChar_3b067
set_option maxRecDepth 20000 in
theorem ggJ2_checkBoundsBeginEnd_d044e_J2_length_9d52b : GoodIn wsJ2_checkBoundsBeginEnd_d044e wsJ2_length_9d52b := goodIn_r _ [4] (by decide +kernel) (by decide +kernel)
set_option maxRecDepth 20000 in
theorem gJ2_checkBoundsBeginEnd_d044e_J2_length_9d52b : GoodIn wsJ2_checkBoundsBeginEnd_d044e (va_wsS RJ2 48 yJ2_length_9d52b wsJ2_length_9d52b) := goodIn_app (goodIn_of _ (by decide +kernel)) ggJ2_checkBoundsBeginEnd_d044e_J2_length_9d52b
set_option maxRecDepth 20000 in
theorem ggJ2_checkBoundsBeginEnd_d044e_J0_checkBoundsBeginEnd_23922 : GoodIn wsJ2_checkBoundsBeginEnd_d044e wsJ0_checkBoundsBeginEnd_23922 := goodIn_r _ [8, 9, 10, 11, 12, 13] (by decide +kernel) (by decide +kernel)
set_option maxRecDepth 20000 in
theorem gJ2_checkBoundsBeginEnd_d044e_J0_checkBoundsBeginEnd_23922 : GoodIn wsJ2_checkBoundsBeginEnd_d044e (va_wsS RJ2 241 yJ0_checkBoundsBeginEnd_23922 wsJ0_checkBoundsBeginEnd_23922) := goodIn_app (goodIn_of _ (by decide +kernel)) ggJ2_checkBoundsBeginEnd_d044e_J0_checkBoundsBeginEnd_23922
set_option maxRecDepth 20000 in
theorem ggL_law_X11_init : GoodIn wsL_law wsX11_init := goodIn_r _ [9, 10, 11, 12, 13, 14, 15, 16, 17, 18, 19, 20, 21, 22, 23, 24, 25, 26, 27, 28, 29, 30, 31, 32, 33, 34, 35, 36, 37, 38, 39, 40, 41, 42, 43, 44, 45, 46, 47, 48, 49, 50, 51, 52, 53, 54, 55, 56, 57, 58, 59, 60, 61, 62, 63, 64, 65, 66, 67, 68, 69, 70, 71, 72, 73, 74, 75, 76, 77, 78, 79, 80, 81, 82, 83, 84, 85, 86, 87, 88, 89, 90, 91, 92, 93, 94, 95, 96, 97, 98, 99, 100, 101, 102, 103, 104, 105, 106, 107, 108, 109, 110, 111, 112, 113, 114, 115, 116, 117, 118, 1332, 1333, 1334, 1335, 1336, 1337, 1338, 1339, 1340, 1341, 1342, 1295, 1296, 1297, 1298, 1299, 1300, 1301, 1302, 1303, 1304, 1305, 1343, 1344, 1345, 1346, 1347, 1348, 1349, 1350, 1351, 1352, 1353, 1354, 1355, 1356, 1357, 1358, 1359, 1360, 1361, 1362, 1363, 1364, 1365, 1366, 1367, 1368, 1369, 1370, 1371] (by decide +kernel) (by decide +kernel)
set_option maxRecDepth 20000 in
theorem gL_law_X11_init : GoodIn wsL_law (wsX11_init) := ggL_law_X11_init
set_option maxRecDepth 20000 in
theorem ggL_law_X12_init : GoodIn wsL_law wsX12_init := goodIn_r _ [121, 122, 11, 12, 49, 123, 124, 125, 126, 127, 128, 129, 130, 131, 132, 133, 134, 135, 136, 137, 5, 138, 1306, 1307, 1308, 1309, 1310, 1311, 1312, 1313, 1314, 1315, 1316, 1317, 1318, 1319, 1320, 1321, 1322, 1323, 1324, 1325, 1326, 1327, 1328, 1329, 1330, 1331] (by decide +kernel) (by decide +kernel)
set_option maxRecDepth 20000 in
theorem gL_law_X12_init : GoodIn wsL_law (wsX12_init) := ggL_law_X12_init
set_option maxRecDepth 20000 in
theorem ggL_law_X11_wall : GoodIn wsL_law wsX11_wall := goodIn_r _ [142, 16, 143, 144, 2, 145, 146, 147, 148, 149, 50, 150, 151, 152, 153, 46, 154, 75, 76, 77, 78, 82, 83, 84, 85, 155, 156, 157, 158, 1295, 1296, 1297, 1298, 1299, 1300, 1301, 1302, 1303, 1304, 1305, 1332, 1333, 1334, 1335, 1336, 1337, 1338, 1339, 1340, 1341, 1342, 1347, 1348, 1349, 1350, 1351, 1352, 1353, 1354, 1355, 1356, 1357] (by decide +kernel) (by decide +kernel)
set_option maxRecDepth 20000 in
theorem gL_law_X11_wall : GoodIn wsL_law (wsV RL 13 RX11 yX11_wall wsX11_wall) := goodIn_app (goodIn_of _ (by decide +kernel)) ggL_law_X11_wall
set_option maxRecDepth 20000 in
theorem ggL_law_X12_wall : GoodIn wsL_law wsX12_wall := goodIn_r _ [162, 163, 164, 165, 5, 166, 167, 168, 169, 170, 125, 171, 135, 136, 137, 138, 123, 1306, 1307, 1308, 1309, 1310, 1311, 1312, 1313, 1314, 1315, 1316, 1317, 1318, 1319, 1320, 1321, 1322, 1323, 1324, 1325, 1326, 1327, 1328, 1329, 1330, 1331] (by decide +kernel) (by decide +kernel)
set_option maxRecDepth 20000 in
theorem gL_law_X12_wall : GoodIn wsL_law (wsV RL 17 RX12 yX12_wall wsX12_wall) := goodIn_app (goodIn_of _ (by decide +kernel)) ggL_law_X12_wall
set_option maxRecDepth 20000 in
theorem ggL_law_X11_set : GoodIn wsL_law wsX11_set := goodIn_r _ [175, 16, 176, 177, 178, 2, 179, 180, 181, 182, 46, 183, 75, 76, 143, 144, 145, 146, 147, 148, 149, 50, 150, 1295, 1296, 1297, 1298, 1299, 1300, 1301, 1302, 1303, 1304, 1305, 1332, 1333, 1334, 1335, 1336, 1337, 1338, 1339, 1340, 1341, 1342, 1347, 1348, 1349, 1350, 1351, 1352, 1353, 1354, 1355, 1356, 1357] (by decide +kernel) (by decide +kernel)
set_option maxRecDepth 20000 in
theorem gL_law_X11_set : GoodIn wsL_law (wsV RL 18 RX11 yX11_set wsX11_set) := goodIn_app (goodIn_of _ (by decide +kernel)) ggL_law_X11_set
set_option maxRecDepth 20000 in
theorem ggL_law_X12_set : GoodIn wsL_law wsX12_set := goodIn_r _ [187, 188, 189, 123, 190, 191, 192, 5, 193, 194, 195, 196, 197, 164, 165, 166, 167, 168, 169, 170, 125, 171, 1306, 1307, 1308, 1309, 1310, 1311, 1312, 1313, 1314, 1315, 1316, 1317, 1318, 1319, 1320, 1321, 1322, 1323, 1324, 1325, 1326, 1327, 1328, 1329, 1330, 1331] (by decide +kernel) (by decide +kernel)
set_option maxRecDepth 20000 in
theorem gL_law_X12_set : GoodIn wsL_law (wsV RL 22 RX12 yX12_set wsX12_set) := goodIn_app (goodIn_of _ (by decide +kernel)) ggL_law_X12_set
set_option maxRecDepth 20000 in
theorem ggL_law_X11_ofCell : GoodIn wsL_law wsX11_ofCell := goodIn_r _ [201, 16, 176, 177, 178, 2, 179, 180, 181, 182, 46, 183, 75, 76, 146, 147, 148, 149, 50, 150, 143, 144, 145, 202, 203, 204, 205, 206, 207, 208, 209, 210, 211, 212, 68, 213, 98, 92, 214, 215, 216, 217, 97, 218, 219, 220, 221, 96, 90, 91, 222, 223, 224, 225, 226, 227, 228, 229, 230, 231, 232, 233, 234, 235, 236, 237, 238, 80, 82, 83, 84, 85, 239, 240, 241, 242, 243, 77, 81, 244, 245, 246, 247, 248, 249, 250, 251, 252, 253, 254, 255, 256, 257, 258, 1295, 1296, 1297, 1298, 1299, 1300, 1301, 1302, 1303, 1304, 1305, 1332, 1333, 1334, 1335, 1336, 1337, 1338, 1339, 1340, 1341, 1342, 1347, 1348, 1349, 1350, 1351, 1352, 1353, 1354, 1355, 1356, 1357, 1358, 1359, 1360, 1361, 1362, 1363, 1364, 1365, 1366, 1367, 1368, 1369, 1370, 1371] (by decide +kernel) (by decide +kernel)
set_option maxRecDepth 20000 in
theorem gL_law_X11_ofCell : GoodIn wsL_law (wsV RL 23 RX11 yX11_ofCell wsX11_ofCell) := goodIn_app (goodIn_of _ (by decide +kernel)) ggL_law_X11_ofCell
set_option maxRecDepth 20000 in
theorem ggL_law_X12_ofCell : GoodIn wsL_law wsX12_ofCell := goodIn_r _ [262, 263, 123, 190, 191, 192, 5, 193, 194, 195, 196, 197, 164, 165, 166, 167, 168, 169, 170, 125, 171, 264, 265, 266, 267, 268, 128, 269, 270, 271, 272, 127, 273, 274, 275, 276, 277, 278, 279, 280, 281, 282, 283, 284, 285, 286, 287, 288, 289, 290, 291, 292, 293, 294, 295, 296, 297, 298, 299, 300, 301, 302, 303, 304, 305, 306, 307, 308, 309, 310, 311, 312, 313, 314, 315, 316, 317, 318, 319, 320, 321, 322, 323, 324, 325, 326, 327, 328, 329, 330, 331, 332, 333, 334, 335, 336, 337, 338, 339, 1306, 1307, 1308, 1309, 1310, 1311, 1312, 1313, 1314, 1315, 1316, 1317, 1318, 1319, 1320, 1321, 1322, 1323, 1324, 1325, 1326, 1327, 1328, 1329, 1330, 1331] (by decide +kernel) (by decide +kernel)
set_option maxRecDepth 20000 in
theorem gL_law_X12_ofCell : GoodIn wsL_law (wsV RL 26 RX12 yX12_ofCell wsX12_ofCell) := goodIn_app (goodIn_of _ (by decide +kernel)) ggL_law_X12_ofCell
set_option maxRecDepth 20000 in
theorem ggL_law_X11_edge : GoodIn wsL_law wsX11_edge := goodIn_r _ [343, 16, 344, 345, 2, 346, 143, 144, 145, 146, 147, 148, 149, 50, 150, 1295, 1296, 1297, 1298, 1299, 1300, 1301, 1302, 1303, 1304, 1305, 1332, 1333, 1334, 1335, 1336, 1337, 1338, 1339, 1340, 1341, 1342, 1347, 1348, 1349, 1350, 1351, 1352, 1353, 1354, 1355, 1356, 1357] (by decide +kernel) (by decide +kernel)
set_option maxRecDepth 20000 in
theorem gL_law_X11_edge : GoodIn wsL_law (wsV RL 27 RX11 yX11_edge wsX11_edge) := goodIn_app (goodIn_of _ (by decide +kernel)) ggL_law_X11_edge
set_option maxRecDepth 20000 in
theorem ggL_law_X12_edge : GoodIn wsL_law wsX12_edge := goodIn_r _ [350, 123, 351, 352, 5, 353, 263, 164, 165, 166, 167, 168, 169, 170, 125, 171, 354, 355, 356, 357, 1306, 1307, 1308, 1309, 1310, 1311, 1312, 1313, 1314, 1315, 1316, 1317, 1318, 1319, 1320, 1321, 1322, 1323, 1324, 1325, 1326, 1327, 1328, 1329, 1330, 1331] (by decide +kernel) (by decide +kernel)
set_option maxRecDepth 20000 in
theorem gL_law_X12_edge : GoodIn wsL_law (wsV RL 30 RX12 yX12_edge wsX12_edge) := goodIn_app (goodIn_of _ (by decide +kernel)) ggL_law_X12_edge
set_option maxRecDepth 20000 in
theorem ggL_law_X11_tool : GoodIn wsL_law wsX11_tool := goodIn_r _ [361, 16, 143, 144, 2, 145, 146, 147, 148, 149, 50, 150, 1295, 1296, 1297, 1298, 1299, 1300, 1301, 1302, 1303, 1304, 1305, 1332, 1333, 1334, 1335, 1336, 1337, 1338, 1339, 1340, 1341, 1342] (by decide +kernel) (by decide +kernel)
set_option maxRecDepth 20000 in
theorem gL_law_X11_tool : GoodIn wsL_law (wsV RL 31 RX11 yX11_tool wsX11_tool) := goodIn_app (goodIn_of _ (by decide +kernel)) ggL_law_X11_tool
set_option maxRecDepth 20000 in
theorem ggL_law_X12_tool : GoodIn wsL_law wsX12_tool := goodIn_r _ [365, 366, 123, 164, 165, 5, 166, 167, 168, 169, 170, 125, 171, 1306, 1307, 1308, 1309, 1310, 1311, 1312, 1313, 1314, 1315, 1316, 1317, 1318, 1319, 1320, 1321, 1322, 1323, 1324, 1325, 1326, 1327, 1328, 1329, 1330, 1331] (by decide +kernel) (by decide +kernel)
set_option maxRecDepth 20000 in
theorem gL_law_X12_tool : GoodIn wsL_law (wsV RL 35 RX12 yX12_tool wsX12_tool) := goodIn_app (goodIn_of _ (by decide +kernel)) ggL_law_X12_tool
set_option maxRecDepth 20000 in
theorem ggL_law_X11_ofTool : GoodIn wsL_law wsX11_ofTool := goodIn_r _ [370, 16, 371, 223, 224, 225, 372, 373, 374, 2, 375, 143, 144, 145, 146, 147, 148, 149, 50, 150, 376, 377, 378, 379, 380, 381, 382, 383, 39, 384, 385, 386, 387, 20, 388, 389, 390, 391, 38, 392, 393, 394, 395, 396, 29, 397, 398, 399, 400, 401, 402, 403, 210, 211, 212, 68, 213, 98, 92, 214, 215, 216, 217, 97, 218, 219, 220, 221, 96, 90, 91, 222, 226, 227, 228, 229, 230, 231, 232, 233, 234, 404, 405, 406, 407, 408, 23, 409, 410, 411, 412, 413, 414, 415, 416, 417, 418, 419, 420, 26, 421, 422, 423, 424, 425, 32, 426, 427, 428, 429, 430, 431, 432, 433, 434, 435, 436, 437, 438, 439, 440, 441, 35, 442, 443, 444, 445, 446, 447, 448, 449, 450, 451, 452, 453, 454, 455, 456, 457, 458, 459, 460, 461, 462, 463, 464, 465, 466, 467, 468, 469, 470, 471, 1295, 1296, 1297, 1298, 1299, 1300, 1301, 1302, 1303, 1304, 1305, 1332, 1333, 1334, 1335, 1336, 1337, 1338, 1339, 1340, 1341, 1342, 1358, 1359, 1360, 1361, 1362, 1363, 1364, 1365, 1366, 1367, 1368, 1369, 1370, 1371] (by decide +kernel) (by decide +kernel)
set_option maxRecDepth 20000 in
theorem gL_law_X11_ofTool : GoodIn wsL_law (wsV RL 36 RX11 yX11_ofTool wsX11_ofTool) := goodIn_app (goodIn_of _ (by decide +kernel)) ggL_law_X11_ofTool
set_option maxRecDepth 20000 in
theorem ggL_law_X12_ofTool : GoodIn wsL_law wsX12_ofTool := goodIn_r _ [475, 476, 477, 478, 479, 5, 480, 123, 164, 165, 166, 167, 168, 169, 170, 125, 171, 481, 482, 483, 484, 485, 486, 487, 488, 489, 490, 491, 492, 493, 494, 495, 496, 497, 498, 499, 500, 268, 129, 269, 270, 271, 272, 127, 273, 274, 275, 276, 277, 278, 279, 280, 281, 282, 283, 284, 285, 286, 287, 288, 289, 290, 291, 292, 293, 294, 295, 296, 297, 298, 299, 300, 301, 302, 303, 304, 305, 306, 307, 308, 309, 310, 311, 312, 313, 314, 315, 316, 317, 318, 319, 320, 321, 322, 323, 324, 325, 326, 327, 501, 502, 503, 504, 505, 506, 507, 508, 1306, 1307, 1308, 1309, 1310, 1311, 1312, 1313, 1314, 1315, 1316, 1317, 1318, 1319, 1320, 1321, 1322, 1323, 1324, 1325, 1326, 1327, 1328, 1329, 1330, 1331] (by decide +kernel) (by decide +kernel)
set_option maxRecDepth 20000 in
theorem gL_law_X12_ofTool : GoodIn wsL_law (wsV RL 39 RX12 yX12_ofTool wsX12_ofTool) := goodIn_app (goodIn_of _ (by decide +kernel)) ggL_law_X12_ofTool
set_option maxRecDepth 20000 in
theorem ggL_law_X11_become : GoodIn wsL_law wsX11_become := goodIn_r _ [512, 16, 372, 373, 374, 2, 375, 143, 144, 145, 146, 147, 148, 149, 50, 150, 1295, 1296, 1297, 1298, 1299, 1300, 1301, 1302, 1303, 1304, 1305, 1332, 1333, 1334, 1335, 1336, 1337, 1338, 1339, 1340, 1341, 1342] (by decide +kernel) (by decide +kernel)
set_option maxRecDepth 20000 in
theorem gL_law_X11_become : GoodIn wsL_law (wsV RL 40 RX11 yX11_become wsX11_become) := goodIn_app (goodIn_of _ (by decide +kernel)) ggL_law_X11_become
set_option maxRecDepth 20000 in
theorem ggL_law_X12_become : GoodIn wsL_law wsX12_become := goodIn_r _ [516, 366, 123, 477, 478, 479, 5, 480, 164, 165, 166, 167, 168, 169, 170, 125, 171, 481, 482, 483, 484, 1306, 1307, 1308, 1309, 1310, 1311, 1312, 1313, 1314, 1315, 1316, 1317, 1318, 1319, 1320, 1321, 1322, 1323, 1324, 1325, 1326, 1327, 1328, 1329, 1330, 1331] (by decide +kernel) (by decide +kernel)
set_option maxRecDepth 20000 in
theorem gL_law_X12_become : GoodIn wsL_law (wsV RL 43 RX12 yX12_become wsX12_become) := goodIn_app (goodIn_of _ (by decide +kernel)) ggL_law_X12_become
set_option maxRecDepth 20000 in
theorem ggL_law_X11_as : GoodIn wsL_law wsX11_as := goodIn_r _ [520, 16, 372, 373, 374, 2, 375, 143, 144, 145, 146, 147, 148, 149, 50, 150, 376, 377, 378, 379, 380, 381, 382, 383, 39, 521, 522, 523, 524, 525, 23, 526, 527, 528, 529, 20, 530, 531, 532, 38, 533, 534, 535, 395, 536, 29, 537, 538, 539, 540, 541, 35, 542, 543, 544, 464, 545, 26, 546, 547, 548, 549, 550, 551, 552, 32, 553, 554, 555, 429, 556, 557, 1295, 1296, 1297, 1298, 1299, 1300, 1301, 1302, 1303, 1304, 1305, 1332, 1333, 1334, 1335, 1336, 1337, 1338, 1339, 1340, 1341, 1342] (by decide +kernel) (by decide +kernel)
set_option maxRecDepth 20000 in
theorem gL_law_X11_as : GoodIn wsL_law (wsV RL 44 RX11 yX11_as wsX11_as) := goodIn_app (goodIn_of _ (by decide +kernel)) ggL_law_X11_as
set_option maxRecDepth 20000 in
theorem ggL_law_X12_as : GoodIn wsL_law wsX12_as := goodIn_r _ [561, 476, 477, 478, 479, 5, 480, 123, 164, 165, 166, 167, 168, 169, 170, 125, 171, 481, 482, 483, 484, 562, 563, 564, 485, 486, 487, 488, 1306, 1307, 1308, 1309, 1310, 1311, 1312, 1313, 1314, 1315, 1316, 1317, 1318, 1319, 1320, 1321, 1322, 1323, 1324, 1325, 1326, 1327, 1328, 1329, 1330, 1331] (by decide +kernel) (by decide +kernel)
set_option maxRecDepth 20000 in
theorem gL_law_X12_as : GoodIn wsL_law (wsV RL 47 RX12 yX12_as wsX12_as) := goodIn_app (goodIn_of _ (by decide +kernel)) ggL_law_X12_as
set_option maxRecDepth 20000 in
theorem ggL_law_X11_feed : GoodIn wsL_law wsX11_feed := goodIn_r _ [568, 16, 143, 144, 2, 145, 146, 147, 148, 149, 50, 150, 569, 570, 571, 15, 572, 573, 63, 1295, 1296, 1297, 1298, 1299, 1300, 1301, 1302, 1303, 1304, 1305, 1332, 1333, 1334, 1335, 1336, 1337, 1338, 1339, 1340, 1341, 1342] (by decide +kernel) (by decide +kernel)
set_option maxRecDepth 20000 in
theorem gL_law_X11_feed : GoodIn wsL_law (wsV RL 50 RX11 yX11_feed wsX11_feed) := goodIn_app (goodIn_of _ (by decide +kernel)) ggL_law_X11_feed
set_option maxRecDepth 20000 in
theorem ggL_law_X12_feed : GoodIn wsL_law wsX12_feed := goodIn_r _ [577, 578, 123, 579, 164, 165, 5, 166, 167, 168, 169, 170, 125, 171, 1306, 1307, 1308, 1309, 1310, 1311, 1312, 1313, 1314, 1315, 1316, 1317, 1318, 1319, 1320, 1321, 1322, 1323, 1324, 1325, 1326, 1327, 1328, 1329, 1330, 1331] (by decide +kernel) (by decide +kernel)
set_option maxRecDepth 20000 in
theorem gL_law_X12_feed : GoodIn wsL_law (wsV RL 54 RX12 yX12_feed wsX12_feed) := goodIn_app (goodIn_of _ (by decide +kernel)) ggL_law_X12_feed
set_option maxRecDepth 20000 in
theorem ggL_law_X11_text : GoodIn wsL_law wsX11_text := goodIn_r _ [583, 16, 584, 585, 2, 586, 146, 147, 148, 149, 50, 150, 143, 144, 145, 587, 588, 589, 590, 591, 592, 593, 68, 594, 595, 596, 597, 598, 599, 96, 93, 90, 600, 601, 602, 603, 92, 604, 605, 606, 607, 95, 608, 609, 610, 611, 94, 612, 613, 614, 615, 616, 617, 618, 619, 620, 621, 622, 623, 624, 625, 626, 627, 628, 629, 630, 631, 632, 633, 634, 635, 636, 637, 638, 639, 640, 227, 224, 228, 641, 223, 225, 642, 643, 644, 645, 646, 647, 648, 649, 650, 651, 652, 653, 654, 655, 656, 657, 658, 659, 660, 661, 662, 663, 664, 665, 666, 667, 668, 669, 670, 671, 672, 673, 674, 675, 676, 677, 678, 679, 680, 681, 682, 683, 684, 685, 686, 687, 688, 689, 690, 691, 692, 693, 694, 695, 696, 697, 698, 699, 700, 701, 702, 703, 704, 705, 706, 707, 708, 709, 710, 711, 712, 713, 714, 715, 716, 717, 718, 719, 720, 721, 722, 723, 724, 725, 726, 727, 728, 729, 730, 731, 732, 733, 1295, 1296, 1297, 1298, 1299, 1300, 1301, 1302, 1303, 1304, 1305, 1332, 1333, 1334, 1335, 1336, 1337, 1338, 1339, 1340, 1341, 1342, 1358, 1359, 1360, 1361, 1362, 1363, 1364, 1365, 1366, 1367, 1368, 1369, 1370, 1371] (by decide +kernel) (by decide +kernel)
set_option maxRecDepth 20000 in
theorem gL_law_X11_text : GoodIn wsL_law (wsV RL 55 RX11 yX11_text wsX11_text) := goodIn_app (goodIn_of _ (by decide +kernel)) ggL_law_X11_text
set_option maxRecDepth 20000 in
theorem ggL_law_X12_text : GoodIn wsL_law wsX12_text := goodIn_r _ [737, 123, 280, 164, 165, 5, 166, 167, 168, 169, 170, 125, 171, 273, 274, 275, 276, 277, 278, 279, 281, 282, 283, 284, 285, 286, 287, 288, 289, 290, 291, 292, 293, 294, 295, 296, 297, 298, 299, 300, 301, 302, 303, 304, 305, 306, 307, 308, 309, 310, 311, 312, 313, 314, 127, 315, 316, 317, 318, 319, 320, 321, 322, 323, 324, 1306, 1307, 1308, 1309, 1310, 1311, 1312, 1313, 1314, 1315, 1316, 1317, 1318, 1319, 1320, 1321, 1322, 1323, 1324, 1325, 1326, 1327, 1328, 1329, 1330, 1331] (by decide +kernel) (by decide +kernel)
set_option maxRecDepth 20000 in
theorem gL_law_X12_text : GoodIn wsL_law (wsV RL 58 RX12 yX12_text wsX12_text) := goodIn_app (goodIn_of _ (by decide +kernel)) ggL_law_X12_text
set_option maxRecDepth 20000 in
theorem ggL_law_X11_law : GoodIn wsL_law wsX11_law := goodIn_r _ [741, 584, 585, 2, 586, 146, 147, 148, 149, 50, 150, 143, 144, 145, 587, 588, 589, 590, 16, 210, 211, 212, 68, 213, 98, 92, 214, 215, 216, 217, 97, 218, 219, 220, 221, 96, 90, 91, 222, 223, 224, 225, 226, 227, 228, 229, 230, 231, 232, 233, 234, 1295, 1296, 1297, 1298, 1299, 1300, 1301, 1302, 1303, 1304, 1305, 1332, 1333, 1334, 1335, 1336, 1337, 1338, 1339, 1340, 1341, 1342, 1358, 1359, 1360, 1361, 1362, 1363, 1364, 1365, 1366, 1367, 1368, 1369, 1370, 1371] (by decide +kernel) (by decide +kernel)
set_option maxRecDepth 20000 in
theorem gL_law_X11_law : GoodIn wsL_law (wsV RL 59 RX11 yX11_law wsX11_law) := goodIn_app (goodIn_of _ (by decide +kernel)) ggL_law_X11_law
set_option maxRecDepth 20000 in
theorem ggL_law_X12_law : GoodIn wsL_law wsX12_law := goodIn_r _ [745, 164, 165, 5, 166, 269, 270, 271, 272, 123, 127, 273, 274, 275, 276, 277, 278, 279, 280, 281, 282, 283, 284, 285, 286, 287, 288, 289, 290, 291, 292, 293, 294, 295, 296, 297, 298, 299, 300, 301, 302, 303, 304, 305, 306, 307, 308, 309, 310, 311, 312, 313, 314, 315, 316, 317, 318, 319, 320, 321, 322, 323, 324, 325, 326, 327, 167, 168, 169, 170, 125, 171, 1306, 1307, 1308, 1309, 1310, 1311, 1312, 1313, 1314, 1315, 1316, 1317, 1318, 1319, 1320, 1321, 1322, 1323, 1324, 1325, 1326, 1327, 1328, 1329, 1330, 1331] (by decide +kernel) (by decide +kernel)
set_option maxRecDepth 20000 in
theorem gL_law_X12_law : GoodIn wsL_law (wsV RL 63 RX12 yX12_law wsX12_law) := goodIn_app (goodIn_of _ (by decide +kernel)) ggL_law_X12_law
set_option maxRecDepth 20000 in
theorem ggL_law_X11_stroke : GoodIn wsL_law wsX11_stroke := goodIn_r _ [749, 16, 372, 373, 374, 2, 375, 143, 144, 145, 176, 177, 178, 179, 180, 181, 182, 46, 183, 75, 76, 344, 345, 346, 146, 147, 148, 149, 50, 150, 376, 377, 378, 379, 380, 381, 382, 383, 39, 750, 751, 752, 753, 77, 754, 223, 224, 225, 755, 756, 78, 248, 757, 434, 435, 436, 20, 437, 438, 439, 440, 441, 35, 442, 443, 444, 26, 445, 446, 447, 758, 449, 759, 760, 761, 762, 763, 764, 451, 452, 453, 454, 455, 456, 457, 38, 458, 459, 460, 461, 462, 463, 464, 465, 466, 467, 468, 469, 765, 471, 766, 385, 386, 387, 388, 389, 390, 391, 392, 393, 394, 395, 396, 29, 397, 398, 399, 400, 401, 767, 403, 768, 769, 770, 771, 772, 211, 212, 68, 213, 98, 92, 214, 215, 216, 217, 97, 218, 219, 220, 221, 96, 90, 91, 222, 226, 227, 228, 229, 230, 231, 232, 233, 234, 773, 405, 406, 407, 408, 23, 409, 410, 411, 412, 413, 414, 415, 416, 417, 418, 419, 420, 421, 422, 423, 424, 425, 32, 426, 427, 428, 429, 774, 431, 432, 249, 250, 251, 252, 253, 254, 255, 256, 257, 203, 204, 205, 258, 207, 208, 209, 775, 776, 777, 778, 79, 1295, 1296, 1297, 1298, 1299, 1300, 1301, 1302, 1303, 1304, 1305, 1332, 1333, 1334, 1335, 1336, 1337, 1338, 1339, 1340, 1341, 1342, 1347, 1348, 1349, 1350, 1351, 1352, 1353, 1354, 1355, 1356, 1357, 1358, 1359, 1360, 1361, 1362, 1363, 1364, 1365, 1366, 1367, 1368, 1369, 1370, 1371] (by decide +kernel) (by decide +kernel)
set_option maxRecDepth 20000 in
theorem gL_law_X11_stroke : GoodIn wsL_law (wsV RL 64 RX11 yX11_stroke wsX11_stroke) := goodIn_app (goodIn_of _ (by decide +kernel)) ggL_law_X11_stroke
set_option maxRecDepth 20000 in
theorem ggL_law_X12_stroke : GoodIn wsL_law wsX12_stroke := goodIn_r _ [782, 123, 477, 478, 479, 5, 480, 164, 165, 166, 190, 191, 192, 193, 194, 195, 196, 197, 351, 352, 353, 263, 167, 168, 169, 170, 125, 171, 783, 784, 785, 786, 787, 501, 502, 503, 504, 481, 482, 483, 484, 485, 486, 487, 488, 788, 789, 790, 791, 505, 506, 507, 508, 489, 490, 491, 492, 493, 494, 495, 496, 497, 498, 499, 500, 268, 129, 269, 270, 271, 272, 127, 273, 274, 275, 276, 277, 278, 279, 280, 281, 282, 283, 284, 285, 286, 287, 288, 289, 290, 291, 292, 293, 294, 295, 296, 297, 298, 299, 300, 301, 302, 303, 304, 305, 306, 307, 308, 309, 310, 311, 312, 313, 314, 315, 316, 317, 318, 319, 320, 321, 322, 323, 324, 325, 326, 327, 332, 333, 334, 335, 354, 355, 356, 357, 1306, 1307, 1308, 1309, 1310, 1311, 1312, 1313, 1314, 1315, 1316, 1317, 1318, 1319, 1320, 1321, 1322, 1323, 1324, 1325, 1326, 1327, 1328, 1329, 1330, 1331] (by decide +kernel) (by decide +kernel)
set_option maxRecDepth 20000 in
theorem gL_law_X12_stroke : GoodIn wsL_law (wsV RL 67 RX12 yX12_stroke wsX12_stroke) := goodIn_app (goodIn_of _ (by decide +kernel)) ggL_law_X12_stroke
set_option maxRecDepth 20000 in
theorem ggL_law_X11_nights : GoodIn wsL_law wsX11_nights := goodIn_r _ [795, 16, 143, 144, 2, 145, 146, 147, 148, 149, 50, 150, 796, 797, 798, 46, 799, 77, 78, 800, 227, 224, 228, 801, 248, 181, 182, 183, 75, 76, 802, 803, 804, 805, 1295, 1296, 1297, 1298, 1299, 1300, 1301, 1302, 1303, 1304, 1305, 1332, 1333, 1334, 1335, 1336, 1337, 1338, 1339, 1340, 1341, 1342, 1347, 1348, 1349, 1350, 1351, 1352, 1353, 1354, 1355, 1356, 1357] (by decide +kernel) (by decide +kernel)
set_option maxRecDepth 20000 in
theorem gL_law_X11_nights : GoodIn wsL_law (wsV RL 68 RX11 yX11_nights wsX11_nights) := goodIn_app (goodIn_of _ (by decide +kernel)) ggL_law_X11_nights
set_option maxRecDepth 20000 in
theorem ggL_law_X12_nights : GoodIn wsL_law wsX12_nights := goodIn_r _ [809, 810, 123, 164, 165, 5, 166, 167, 168, 169, 170, 125, 171, 811, 812, 813, 814, 194, 195, 196, 197, 815, 816, 817, 818, 1306, 1307, 1308, 1309, 1310, 1311, 1312, 1313, 1314, 1315, 1316, 1317, 1318, 1319, 1320, 1321, 1322, 1323, 1324, 1325, 1326, 1327, 1328, 1329, 1330, 1331] (by decide +kernel) (by decide +kernel)
set_option maxRecDepth 20000 in
theorem gL_law_X12_nights : GoodIn wsL_law (wsV RL 71 RX12 yX12_nights wsX12_nights) := goodIn_app (goodIn_of _ (by decide +kernel)) ggL_law_X12_nights
set_option maxRecDepth 20000 in
theorem ggL_law_X11_days : GoodIn wsL_law wsX11_days := goodIn_r _ [822, 16, 143, 144, 2, 145, 146, 147, 148, 149, 50, 150, 823, 824, 825, 15, 826, 64, 827, 155, 156, 157, 46, 158, 75, 76, 376, 377, 378, 379, 372, 373, 374, 375, 380, 381, 382, 383, 39, 750, 751, 752, 753, 77, 754, 223, 224, 225, 755, 756, 78, 248, 181, 182, 183, 757, 434, 435, 436, 20, 437, 438, 439, 440, 441, 35, 442, 443, 444, 26, 445, 446, 447, 758, 449, 759, 760, 761, 762, 763, 764, 451, 452, 453, 454, 455, 456, 457, 38, 458, 459, 460, 461, 462, 463, 464, 465, 466, 467, 468, 469, 765, 471, 766, 385, 386, 387, 388, 389, 390, 391, 392, 393, 394, 395, 396, 29, 397, 398, 399, 400, 401, 767, 403, 768, 769, 770, 771, 772, 211, 212, 68, 213, 98, 92, 214, 215, 216, 217, 97, 218, 219, 220, 221, 96, 90, 91, 222, 226, 227, 228, 229, 230, 231, 232, 233, 234, 773, 405, 406, 407, 408, 23, 409, 410, 411, 412, 413, 414, 415, 416, 417, 418, 419, 420, 421, 422, 423, 424, 425, 32, 426, 427, 428, 429, 774, 431, 432, 249, 250, 251, 252, 253, 254, 255, 256, 257, 203, 204, 205, 258, 207, 208, 209, 775, 776, 777, 778, 79, 345, 346, 796, 797, 798, 799, 800, 801, 802, 803, 804, 805, 1295, 1296, 1297, 1298, 1299, 1300, 1301, 1302, 1303, 1304, 1305, 1332, 1333, 1334, 1335, 1336, 1337, 1338, 1339, 1340, 1341, 1342, 1347, 1348, 1349, 1350, 1351, 1352, 1353, 1354, 1355, 1356, 1357, 1358, 1359, 1360, 1361, 1362, 1363, 1364, 1365, 1366, 1367, 1368, 1369, 1370, 1371] (by decide +kernel) (by decide +kernel)
set_option maxRecDepth 20000 in
theorem gL_law_X11_days : GoodIn wsL_law (wsV RL 72 RX11 yX11_days wsX11_days) := goodIn_app (goodIn_of _ (by decide +kernel)) ggL_law_X11_days
set_option maxRecDepth 20000 in
theorem ggL_law_X12_days : GoodIn wsL_law wsX12_days := goodIn_r _ [831, 810, 123, 164, 165, 5, 166, 167, 168, 169, 170, 125, 171, 832, 833, 834, 835, 836, 194, 195, 196, 197, 783, 784, 785, 786, 787, 501, 502, 503, 504, 481, 482, 483, 484, 485, 486, 487, 488, 788, 789, 790, 791, 505, 506, 507, 508, 489, 490, 491, 492, 493, 494, 495, 496, 497, 498, 499, 500, 268, 129, 269, 270, 271, 272, 127, 273, 274, 275, 276, 277, 278, 279, 280, 281, 282, 283, 284, 285, 286, 287, 288, 289, 290, 291, 292, 293, 294, 295, 296, 297, 298, 299, 300, 301, 302, 303, 304, 305, 306, 307, 308, 309, 310, 311, 312, 313, 314, 315, 316, 317, 318, 319, 320, 321, 322, 323, 324, 325, 326, 327, 332, 333, 334, 335, 354, 355, 356, 357, 811, 812, 813, 814, 815, 816, 817, 818, 1306, 1307, 1308, 1309, 1310, 1311, 1312, 1313, 1314, 1315, 1316, 1317, 1318, 1319, 1320, 1321, 1322, 1323, 1324, 1325, 1326, 1327, 1328, 1329, 1330, 1331] (by decide +kernel) (by decide +kernel)
set_option maxRecDepth 20000 in
theorem gL_law_X12_days : GoodIn wsL_law (wsV RL 75 RX12 yX12_days wsX12_days) := goodIn_app (goodIn_of _ (by decide +kernel)) ggL_law_X12_days
set_option maxRecDepth 20000 in
theorem ggL_law_X11_shown : GoodIn wsL_law wsX11_shown := goodIn_r _ [840, 16, 841, 842, 843, 46, 844, 75, 76, 77, 248, 181, 182, 183, 772, 211, 212, 68, 213, 98, 92, 214, 215, 216, 217, 97, 144, 2, 145, 218, 219, 220, 221, 96, 90, 91, 222, 223, 224, 225, 226, 227, 228, 229, 230, 231, 232, 233, 234, 1295, 1296, 1297, 1298, 1299, 1300, 1301, 1302, 1303, 1304, 1305, 1332, 1333, 1334, 1335, 1336, 1337, 1338, 1339, 1340, 1341, 1342, 1347, 1348, 1349, 1350, 1351, 1352, 1353, 1354, 1355, 1356, 1357, 1358, 1359, 1360, 1361, 1362, 1363, 1364, 1365, 1366, 1367, 1368, 1369, 1370, 1371] (by decide +kernel) (by decide +kernel)
set_option maxRecDepth 20000 in
theorem gL_law_X11_shown : GoodIn wsL_law (wsV RL 76 RX11 yX11_shown wsX11_shown) := goodIn_app (goodIn_of _ (by decide +kernel)) ggL_law_X11_shown
set_option maxRecDepth 20000 in
theorem ggL_law_X12_shown : GoodIn wsL_law wsX12_shown := goodIn_r _ [848, 849, 850, 851, 5, 852, 194, 195, 196, 197, 123, 264, 265, 266, 267, 268, 128, 269, 270, 271, 272, 127, 273, 274, 275, 276, 277, 278, 279, 280, 281, 282, 283, 284, 285, 286, 287, 288, 289, 290, 291, 292, 293, 294, 295, 296, 297, 298, 299, 300, 301, 302, 303, 304, 305, 306, 307, 308, 309, 310, 311, 312, 313, 314, 315, 316, 317, 318, 319, 320, 321, 322, 323, 324, 164, 165, 166, 325, 326, 327, 1306, 1307, 1308, 1309, 1310, 1311, 1312, 1313, 1314, 1315, 1316, 1317, 1318, 1319, 1320, 1321, 1322, 1323, 1324, 1325, 1326, 1327, 1328, 1329, 1330, 1331] (by decide +kernel) (by decide +kernel)
set_option maxRecDepth 20000 in
theorem gL_law_X12_shown : GoodIn wsL_law (wsV RL 80 RX12 yX12_shown wsX12_shown) := goodIn_app (goodIn_of _ (by decide +kernel)) ggL_law_X12_shown
set_option maxRecDepth 20000 in
theorem ggL_law_X11_bubbles : GoodIn wsL_law wsX11_bubbles := goodIn_r _ [856, 16, 857, 858, 859, 46, 860, 80, 82, 83, 84, 85, 248, 181, 182, 183, 75, 76, 239, 240, 241, 242, 243, 77, 81, 244, 245, 246, 247, 249, 250, 251, 252, 253, 254, 255, 256, 257, 203, 204, 205, 258, 207, 208, 209, 1295, 1296, 1297, 1298, 1299, 1300, 1301, 1302, 1303, 1304, 1305, 1332, 1333, 1334, 1335, 1336, 1337, 1338, 1339, 1340, 1341, 1342, 1347, 1348, 1349, 1350, 1351, 1352, 1353, 1354, 1355, 1356, 1357] (by decide +kernel) (by decide +kernel)
set_option maxRecDepth 20000 in
theorem gL_law_X11_bubbles : GoodIn wsL_law (wsV RL 81 RX11 yX11_bubbles wsX11_bubbles) := goodIn_app (goodIn_of _ (by decide +kernel)) ggL_law_X11_bubbles
set_option maxRecDepth 20000 in
theorem ggL_law_X12_bubbles : GoodIn wsL_law wsX12_bubbles := goodIn_r _ [864, 865, 866, 867, 868, 5, 869, 870, 871, 123, 194, 195, 196, 197, 328, 329, 330, 331, 332, 333, 334, 335, 164, 165, 166, 336, 337, 338, 339, 1306, 1307, 1308, 1309, 1310, 1311, 1312, 1313, 1314, 1315, 1316, 1317, 1318, 1319, 1320, 1321, 1322, 1323, 1324, 1325, 1326, 1327, 1328, 1329, 1330, 1331] (by decide +kernel) (by decide +kernel)
set_option maxRecDepth 20000 in
theorem gL_law_X12_bubbles : GoodIn wsL_law (wsV RL 84 RX12 yX12_bubbles wsX12_bubbles) := goodIn_app (goodIn_of _ (by decide +kernel)) ggL_law_X12_bubbles
set_option maxRecDepth 20000 in
theorem ggL_law_X11_biggest : GoodIn wsL_law wsX11_biggest := goodIn_r _ [875, 16, 143, 144, 2, 145, 146, 147, 148, 149, 50, 150, 876, 877, 878, 46, 879, 80, 82, 83, 84, 85, 248, 181, 182, 183, 75, 76, 239, 240, 241, 242, 243, 77, 81, 244, 245, 246, 247, 249, 250, 251, 252, 253, 254, 255, 256, 257, 203, 204, 205, 258, 207, 208, 209, 235, 236, 237, 238, 1295, 1296, 1297, 1298, 1299, 1300, 1301, 1302, 1303, 1304, 1305, 1332, 1333, 1334, 1335, 1336, 1337, 1338, 1339, 1340, 1341, 1342, 1347, 1348, 1349, 1350, 1351, 1352, 1353, 1354, 1355, 1356, 1357] (by decide +kernel) (by decide +kernel)
set_option maxRecDepth 20000 in
theorem gL_law_X11_biggest : GoodIn wsL_law (wsV RL 85 RX11 yX11_biggest wsX11_biggest) := goodIn_app (goodIn_of _ (by decide +kernel)) ggL_law_X11_biggest
set_option maxRecDepth 20000 in
theorem ggL_law_X12_biggest : GoodIn wsL_law wsX12_biggest := goodIn_r _ [883, 865, 870, 871, 164, 165, 5, 166, 167, 168, 169, 170, 125, 171, 866, 867, 868, 869, 123, 194, 195, 196, 197, 328, 329, 330, 331, 332, 333, 334, 335, 336, 337, 338, 339, 1306, 1307, 1308, 1309, 1310, 1311, 1312, 1313, 1314, 1315, 1316, 1317, 1318, 1319, 1320, 1321, 1322, 1323, 1324, 1325, 1326, 1327, 1328, 1329, 1330, 1331] (by decide +kernel) (by decide +kernel)
set_option maxRecDepth 20000 in
theorem gL_law_X12_biggest : GoodIn wsL_law (wsV RL 88 RX12 yX12_biggest wsX12_biggest) := goodIn_app (goodIn_of _ (by decide +kernel)) ggL_law_X12_biggest
set_option maxRecDepth 20000 in
theorem ggL_law_X11_wayOut : GoodIn wsL_law wsX11_wayOut := goodIn_r _ [887, 16, 371, 223, 224, 225, 176, 177, 178, 2, 179, 180, 181, 182, 46, 183, 75, 76, 146, 147, 148, 149, 50, 150, 143, 144, 145, 888, 776, 777, 778, 79, 345, 346, 889, 254, 255, 256, 257, 203, 204, 205, 258, 207, 208, 209, 1295, 1296, 1297, 1298, 1299, 1300, 1301, 1302, 1303, 1304, 1305, 1332, 1333, 1334, 1335, 1336, 1337, 1338, 1339, 1340, 1341, 1342, 1347, 1348, 1349, 1350, 1351, 1352, 1353, 1354, 1355, 1356, 1357] (by decide +kernel) (by decide +kernel)
set_option maxRecDepth 20000 in
theorem gL_law_X11_wayOut : GoodIn wsL_law (wsV RL 89 RX11 yX11_wayOut wsX11_wayOut) := goodIn_app (goodIn_of _ (by decide +kernel)) ggL_law_X11_wayOut
set_option maxRecDepth 20000 in
theorem ggL_law_X12_wayOut : GoodIn wsL_law wsX12_wayOut := goodIn_r _ [893, 123, 190, 191, 192, 5, 193, 194, 195, 196, 197, 164, 165, 166, 167, 168, 169, 170, 125, 171, 354, 355, 356, 357, 1306, 1307, 1308, 1309, 1310, 1311, 1312, 1313, 1314, 1315, 1316, 1317, 1318, 1319, 1320, 1321, 1322, 1323, 1324, 1325, 1326, 1327, 1328, 1329, 1330, 1331] (by decide +kernel) (by decide +kernel)
set_option maxRecDepth 20000 in
theorem gL_law_X12_wayOut : GoodIn wsL_law (wsV RL 92 RX12 yX12_wayOut wsX12_wayOut) := goodIn_app (goodIn_of _ (by decide +kernel)) ggL_law_X12_wayOut
set_option maxRecDepth 20000 in
theorem ggL_law_X11_best : GoodIn wsL_law wsX11_best := goodIn_r _ [897, 16, 372, 373, 374, 2, 375, 143, 144, 145, 146, 147, 148, 149, 50, 150, 376, 377, 378, 379, 380, 381, 382, 383, 39, 898, 899, 900, 901, 902, 48, 371, 223, 224, 225, 155, 156, 157, 46, 158, 75, 76, 903, 904, 905, 906, 78, 907, 601, 602, 603, 79, 756, 763, 801, 908, 909, 910, 911, 77, 912, 750, 751, 752, 753, 754, 755, 248, 181, 182, 183, 757, 434, 435, 436, 20, 437, 438, 439, 440, 441, 35, 442, 443, 444, 26, 445, 446, 447, 758, 449, 759, 760, 761, 762, 764, 451, 452, 453, 454, 455, 456, 457, 38, 458, 459, 460, 461, 462, 463, 464, 465, 466, 467, 468, 469, 765, 471, 766, 385, 386, 387, 388, 389, 390, 391, 392, 393, 394, 395, 396, 29, 397, 398, 399, 400, 401, 767, 403, 768, 769, 770, 771, 772, 211, 212, 68, 213, 98, 92, 214, 215, 216, 217, 97, 218, 219, 220, 221, 96, 90, 91, 222, 226, 227, 228, 229, 230, 231, 232, 233, 234, 773, 405, 406, 407, 408, 23, 409, 410, 411, 412, 413, 414, 415, 416, 417, 418, 419, 420, 421, 422, 423, 424, 425, 32, 426, 427, 428, 429, 774, 431, 432, 249, 250, 251, 252, 253, 254, 255, 256, 257, 203, 204, 205, 258, 207, 208, 209, 775, 776, 777, 778, 345, 346, 841, 842, 843, 844, 913, 914, 915, 1295, 1296, 1297, 1298, 1299, 1300, 1301, 1302, 1303, 1304, 1305, 1332, 1333, 1334, 1335, 1336, 1337, 1338, 1339, 1340, 1341, 1342, 1347, 1348, 1349, 1350, 1351, 1352, 1353, 1354, 1355, 1356, 1357, 1358, 1359, 1360, 1361, 1362, 1363, 1364, 1365, 1366, 1367, 1368, 1369, 1370, 1371] (by decide +kernel) (by decide +kernel)
set_option maxRecDepth 20000 in
theorem gL_law_X11_best : GoodIn wsL_law (wsV RL 93 RX11 yX11_best wsX11_best) := goodIn_app (goodIn_of _ (by decide +kernel)) ggL_law_X11_best
set_option maxRecDepth 20000 in
theorem ggL_law_X12_best : GoodIn wsL_law wsX12_best := goodIn_r _ [919, 920, 477, 478, 479, 5, 480, 123, 164, 165, 166, 167, 168, 169, 170, 125, 171, 921, 922, 923, 924, 194, 195, 196, 197, 925, 926, 927, 928, 126, 783, 784, 785, 786, 787, 501, 502, 503, 504, 481, 482, 483, 484, 485, 486, 487, 488, 788, 789, 790, 791, 505, 506, 507, 508, 489, 490, 491, 492, 493, 494, 495, 496, 497, 498, 499, 500, 268, 129, 269, 270, 271, 272, 127, 273, 274, 275, 276, 277, 278, 279, 280, 281, 282, 283, 284, 285, 286, 287, 288, 289, 290, 291, 292, 293, 294, 295, 296, 297, 298, 299, 300, 301, 302, 303, 304, 305, 306, 307, 308, 309, 310, 311, 312, 313, 314, 315, 316, 317, 318, 319, 320, 321, 322, 323, 324, 325, 326, 327, 332, 333, 334, 335, 354, 355, 356, 357, 849, 850, 851, 852, 264, 265, 266, 267, 128, 929, 930, 931, 932, 1306, 1307, 1308, 1309, 1310, 1311, 1312, 1313, 1314, 1315, 1316, 1317, 1318, 1319, 1320, 1321, 1322, 1323, 1324, 1325, 1326, 1327, 1328, 1329, 1330, 1331] (by decide +kernel) (by decide +kernel)
set_option maxRecDepth 20000 in
theorem gL_law_X12_best : GoodIn wsL_law (wsV RL 96 RX12 yX12_best wsX12_best) := goodIn_app (goodIn_of _ (by decide +kernel)) ggL_law_X12_best
set_option maxRecDepth 20000 in
theorem ggL_law_X11_bestTwo : GoodIn wsL_law wsX11_bestTwo := goodIn_r _ [936, 16, 902, 47, 371, 223, 224, 225, 372, 373, 374, 2, 375, 143, 144, 145, 146, 147, 148, 149, 50, 150, 376, 377, 378, 379, 380, 381, 382, 383, 39, 155, 156, 157, 46, 158, 75, 76, 903, 904, 905, 906, 78, 907, 601, 602, 603, 79, 756, 763, 801, 908, 909, 910, 911, 77, 750, 751, 752, 753, 754, 755, 248, 181, 182, 183, 757, 434, 435, 436, 20, 437, 438, 439, 440, 441, 35, 442, 443, 444, 26, 445, 446, 447, 758, 449, 759, 760, 761, 762, 764, 451, 452, 453, 454, 455, 456, 457, 38, 458, 459, 460, 461, 462, 463, 464, 465, 466, 467, 468, 469, 765, 471, 766, 385, 386, 387, 388, 389, 390, 391, 392, 393, 394, 395, 396, 29, 397, 398, 399, 400, 401, 767, 403, 768, 769, 770, 771, 772, 211, 212, 68, 213, 98, 92, 214, 215, 216, 217, 97, 218, 219, 220, 221, 96, 90, 91, 222, 226, 227, 228, 229, 230, 231, 232, 233, 234, 773, 405, 406, 407, 408, 23, 409, 410, 411, 412, 413, 414, 415, 416, 417, 418, 419, 420, 421, 422, 423, 424, 425, 32, 426, 427, 428, 429, 774, 431, 432, 249, 250, 251, 252, 253, 254, 255, 256, 257, 203, 204, 205, 258, 207, 208, 209, 775, 776, 777, 778, 345, 346, 898, 899, 900, 901, 48, 912, 841, 842, 843, 844, 913, 914, 915, 1295, 1296, 1297, 1298, 1299, 1300, 1301, 1302, 1303, 1304, 1305, 1332, 1333, 1334, 1335, 1336, 1337, 1338, 1339, 1340, 1341, 1342, 1347, 1348, 1349, 1350, 1351, 1352, 1353, 1354, 1355, 1356, 1357, 1358, 1359, 1360, 1361, 1362, 1363, 1364, 1365, 1366, 1367, 1368, 1369, 1370, 1371] (by decide +kernel) (by decide +kernel)
set_option maxRecDepth 20000 in
theorem gL_law_X11_bestTwo : GoodIn wsL_law (wsV RL 97 RX11 yX11_bestTwo wsX11_bestTwo) := goodIn_app (goodIn_of _ (by decide +kernel)) ggL_law_X11_bestTwo
set_option maxRecDepth 20000 in
theorem ggL_law_X12_bestTwo : GoodIn wsL_law wsX12_bestTwo := goodIn_r _ [940, 920, 268, 477, 478, 479, 5, 480, 123, 164, 165, 166, 167, 168, 169, 170, 125, 171, 941, 942, 943, 944, 128, 129, 194, 195, 196, 197, 925, 926, 927, 928, 126, 783, 784, 785, 786, 787, 501, 502, 503, 504, 481, 482, 483, 484, 485, 486, 487, 488, 788, 789, 790, 791, 505, 506, 507, 508, 489, 490, 491, 492, 493, 494, 495, 496, 497, 498, 499, 500, 269, 270, 271, 272, 127, 273, 274, 275, 276, 277, 278, 279, 280, 281, 282, 283, 284, 285, 286, 287, 288, 289, 290, 291, 292, 293, 294, 295, 296, 297, 298, 299, 300, 301, 302, 303, 304, 305, 306, 307, 308, 309, 310, 311, 312, 313, 314, 315, 316, 317, 318, 319, 320, 321, 322, 323, 324, 325, 326, 327, 332, 333, 334, 335, 354, 355, 356, 357, 921, 922, 923, 924, 849, 850, 851, 852, 264, 265, 266, 267, 929, 930, 931, 932, 1306, 1307, 1308, 1309, 1310, 1311, 1312, 1313, 1314, 1315, 1316, 1317, 1318, 1319, 1320, 1321, 1322, 1323, 1324, 1325, 1326, 1327, 1328, 1329, 1330, 1331] (by decide +kernel) (by decide +kernel)
set_option maxRecDepth 20000 in
theorem gL_law_X12_bestTwo : GoodIn wsL_law (wsV RL 100 RX12 yX12_bestTwo wsX12_bestTwo) := goodIn_app (goodIn_of _ (by decide +kernel)) ggL_law_X12_bestTwo
set_option maxRecDepth 20000 in
theorem ggL_law_X11_goneBy : GoodIn wsL_law wsX11_goneBy := goodIn_r _ [948, 16, 176, 177, 178, 2, 179, 180, 181, 182, 46, 183, 75, 76, 146, 147, 148, 149, 50, 150, 143, 144, 145, 949, 950, 951, 952, 227, 224, 228, 1295, 1296, 1297, 1298, 1299, 1300, 1301, 1302, 1303, 1304, 1305, 1332, 1333, 1334, 1335, 1336, 1337, 1338, 1339, 1340, 1341, 1342, 1347, 1348, 1349, 1350, 1351, 1352, 1353, 1354, 1355, 1356, 1357] (by decide +kernel) (by decide +kernel)
set_option maxRecDepth 20000 in
theorem gL_law_X11_goneBy : GoodIn wsL_law (wsV RL 101 RX11 yX11_goneBy wsX11_goneBy) := goodIn_app (goodIn_of _ (by decide +kernel)) ggL_law_X11_goneBy
set_option maxRecDepth 20000 in
theorem ggL_law_X12_goneBy : GoodIn wsL_law wsX12_goneBy := goodIn_r _ [956, 123, 190, 191, 192, 5, 193, 194, 195, 196, 197, 164, 165, 166, 167, 168, 169, 170, 125, 171, 957, 958, 959, 1306, 1307, 1308, 1309, 1310, 1311, 1312, 1313, 1314, 1315, 1316, 1317, 1318, 1319, 1320, 1321, 1322, 1323, 1324, 1325, 1326, 1327, 1328, 1329, 1330, 1331] (by decide +kernel) (by decide +kernel)
set_option maxRecDepth 20000 in
theorem gL_law_X12_goneBy : GoodIn wsL_law (wsV RL 104 RX12 yX12_goneBy wsX12_goneBy) := goodIn_app (goodIn_of _ (by decide +kernel)) ggL_law_X12_goneBy
set_option maxRecDepth 20000 in
theorem ggL_law_X11_never : GoodIn wsL_law wsX11_never := goodIn_r _ [963, 16, 155, 156, 157, 46, 158, 75, 76, 949, 950, 2, 951, 952, 227, 224, 228, 1295, 1296, 1297, 1298, 1299, 1300, 1301, 1302, 1303, 1304, 1305, 1332, 1333, 1334, 1335, 1336, 1337, 1338, 1339, 1340, 1341, 1342, 1347, 1348, 1349, 1350, 1351, 1352, 1353, 1354, 1355, 1356, 1357] (by decide +kernel) (by decide +kernel)
set_option maxRecDepth 20000 in
theorem gL_law_X11_never : GoodIn wsL_law (wsV RL 105 RX11 yX11_never wsX11_never) := goodIn_app (goodIn_of _ (by decide +kernel)) ggL_law_X11_never
set_option maxRecDepth 20000 in
theorem ggL_law_X12_never : GoodIn wsL_law wsX12_never := goodIn_r _ [967, 123, 194, 195, 196, 5, 197, 957, 958, 959, 1306, 1307, 1308, 1309, 1310, 1311, 1312, 1313, 1314, 1315, 1316, 1317, 1318, 1319, 1320, 1321, 1322, 1323, 1324, 1325, 1326, 1327, 1328, 1329, 1330, 1331] (by decide +kernel) (by decide +kernel)
set_option maxRecDepth 20000 in
theorem gL_law_X12_never : GoodIn wsL_law (wsV RL 108 RX12 yX12_never wsX12_never) := goodIn_app (goodIn_of _ (by decide +kernel)) ggL_law_X12_never
set_option maxRecDepth 20000 in
theorem ggL_law_X11_needs : GoodIn wsL_law wsX11_needs := goodIn_r _ [971, 16, 176, 177, 178, 2, 179, 180, 181, 182, 46, 183, 75, 76, 143, 144, 145, 146, 147, 148, 149, 50, 150, 949, 950, 951, 952, 227, 224, 228, 1295, 1296, 1297, 1298, 1299, 1300, 1301, 1302, 1303, 1304, 1305, 1332, 1333, 1334, 1335, 1336, 1337, 1338, 1339, 1340, 1341, 1342, 1347, 1348, 1349, 1350, 1351, 1352, 1353, 1354, 1355, 1356, 1357] (by decide +kernel) (by decide +kernel)
set_option maxRecDepth 20000 in
theorem gL_law_X11_needs : GoodIn wsL_law (wsV RL 109 RX11 yX11_needs wsX11_needs) := goodIn_app (goodIn_of _ (by decide +kernel)) ggL_law_X11_needs
set_option maxRecDepth 20000 in
theorem ggL_law_X12_needs : GoodIn wsL_law wsX12_needs := goodIn_r _ [975, 810, 123, 190, 191, 192, 5, 193, 194, 195, 196, 197, 164, 165, 166, 167, 168, 169, 170, 125, 171, 957, 958, 959, 1306, 1307, 1308, 1309, 1310, 1311, 1312, 1313, 1314, 1315, 1316, 1317, 1318, 1319, 1320, 1321, 1322, 1323, 1324, 1325, 1326, 1327, 1328, 1329, 1330, 1331] (by decide +kernel) (by decide +kernel)
set_option maxRecDepth 20000 in
theorem gL_law_X12_needs : GoodIn wsL_law (wsV RL 112 RX12 yX12_needs wsX12_needs) := goodIn_app (goodIn_of _ (by decide +kernel)) ggL_law_X12_needs
set_option maxRecDepth 20000 in
theorem ggL_law_X11_lamp : GoodIn wsL_law wsX11_lamp := goodIn_r _ [979, 16, 344, 345, 2, 346, 143, 144, 145, 146, 147, 148, 149, 50, 150, 155, 156, 157, 46, 158, 75, 76, 980, 981, 982, 983, 77, 249, 250, 251, 252, 253, 254, 255, 256, 257, 203, 204, 205, 258, 207, 208, 209, 248, 181, 182, 183, 1295, 1296, 1297, 1298, 1299, 1300, 1301, 1302, 1303, 1304, 1305, 1332, 1333, 1334, 1335, 1336, 1337, 1338, 1339, 1340, 1341, 1342, 1347, 1348, 1349, 1350, 1351, 1352, 1353, 1354, 1355, 1356, 1357] (by decide +kernel) (by decide +kernel)
set_option maxRecDepth 20000 in
theorem gL_law_X11_lamp : GoodIn wsL_law (wsV RL 113 RX11 yX11_lamp wsX11_lamp) := goodIn_app (goodIn_of _ (by decide +kernel)) ggL_law_X11_lamp
set_option maxRecDepth 20000 in
theorem ggL_law_X12_lamp : GoodIn wsL_law wsX12_lamp := goodIn_r _ [987, 123, 351, 352, 5, 353, 263, 164, 165, 166, 167, 168, 169, 170, 125, 171, 194, 195, 196, 197, 332, 333, 334, 335, 1306, 1307, 1308, 1309, 1310, 1311, 1312, 1313, 1314, 1315, 1316, 1317, 1318, 1319, 1320, 1321, 1322, 1323, 1324, 1325, 1326, 1327, 1328, 1329, 1330, 1331] (by decide +kernel) (by decide +kernel)
set_option maxRecDepth 20000 in
theorem gL_law_X12_lamp : GoodIn wsL_law (wsV RL 116 RX12 yX12_lamp wsX12_lamp) := goodIn_app (goodIn_of _ (by decide +kernel)) ggL_law_X12_lamp
set_option maxRecDepth 20000 in
theorem ggL_law_X11_came : GoodIn wsL_law wsX11_came := goodIn_r _ [991, 47, 16, 372, 373, 374, 2, 375, 143, 144, 145, 176, 177, 178, 179, 180, 181, 182, 46, 183, 75, 76, 344, 345, 346, 992, 993, 994, 146, 147, 148, 149, 50, 150, 995, 996, 997, 998, 51, 903, 904, 905, 906, 78, 907, 601, 602, 603, 79, 756, 763, 801, 908, 909, 910, 911, 77, 380, 381, 382, 383, 39, 750, 751, 752, 753, 754, 223, 224, 225, 755, 248, 757, 434, 435, 436, 20, 437, 438, 439, 440, 441, 35, 442, 443, 444, 26, 445, 446, 447, 758, 449, 759, 760, 761, 762, 764, 451, 452, 453, 454, 455, 456, 457, 38, 458, 459, 460, 461, 462, 463, 464, 465, 466, 467, 468, 469, 765, 471, 766, 385, 386, 387, 388, 389, 390, 391, 392, 393, 394, 395, 396, 29, 397, 398, 399, 400, 401, 767, 403, 768, 769, 770, 771, 772, 211, 212, 68, 213, 98, 92, 214, 215, 216, 217, 97, 218, 219, 220, 221, 96, 90, 91, 222, 226, 227, 228, 229, 230, 231, 232, 233, 234, 773, 405, 406, 407, 408, 23, 409, 410, 411, 412, 413, 414, 415, 416, 417, 418, 419, 420, 421, 422, 423, 424, 425, 32, 426, 427, 428, 429, 774, 431, 432, 249, 250, 251, 252, 253, 254, 255, 256, 257, 203, 204, 205, 258, 207, 208, 209, 775, 776, 777, 778, 999, 1000, 1001, 1002, 52, 952, 54, 155, 156, 157, 158, 1295, 1296, 1297, 1298, 1299, 1300, 1301, 1302, 1303, 1304, 1305, 1332, 1333, 1334, 1335, 1336, 1337, 1338, 1339, 1340, 1341, 1342, 1347, 1348, 1349, 1350, 1351, 1352, 1353, 1354, 1355, 1356, 1357, 1358, 1359, 1360, 1361, 1362, 1363, 1364, 1365, 1366, 1367, 1368, 1369, 1370, 1371] (by decide +kernel) (by decide +kernel)
set_option maxRecDepth 20000 in
theorem gL_law_X11_came : GoodIn wsL_law (wsV RL 117 RX11 yX11_came wsX11_came) := goodIn_app (goodIn_of _ (by decide +kernel)) ggL_law_X11_came
set_option maxRecDepth 20000 in
theorem ggL_law_X12_came : GoodIn wsL_law wsX12_came := goodIn_r _ [1006, 131, 132, 123, 477, 478, 479, 5, 480, 164, 165, 166, 190, 191, 192, 193, 194, 195, 196, 197, 351, 352, 353, 263, 1007, 1008, 1009, 167, 168, 169, 170, 125, 171, 481, 482, 483, 484, 925, 926, 927, 928, 126, 783, 784, 785, 786, 787, 501, 502, 503, 504, 485, 486, 487, 488, 788, 789, 790, 791, 505, 506, 507, 508, 489, 490, 491, 492, 493, 494, 495, 496, 497, 498, 499, 500, 268, 129, 269, 270, 271, 272, 127, 273, 274, 275, 276, 277, 278, 279, 280, 281, 282, 283, 284, 285, 286, 287, 288, 289, 290, 291, 292, 293, 294, 295, 296, 297, 298, 299, 300, 301, 302, 303, 304, 305, 306, 307, 308, 309, 310, 311, 312, 313, 314, 315, 316, 317, 318, 319, 320, 321, 322, 323, 324, 325, 326, 327, 332, 333, 334, 335, 354, 355, 356, 357, 1010, 1011, 1012, 1013, 133, 929, 930, 931, 932, 1306, 1307, 1308, 1309, 1310, 1311, 1312, 1313, 1314, 1315, 1316, 1317, 1318, 1319, 1320, 1321, 1322, 1323, 1324, 1325, 1326, 1327, 1328, 1329, 1330, 1331] (by decide +kernel) (by decide +kernel)
set_option maxRecDepth 20000 in
theorem gL_law_X12_came : GoodIn wsL_law (wsV RL 120 RX12 yX12_came wsX12_came) := goodIn_app (goodIn_of _ (by decide +kernel)) ggL_law_X12_came
set_option maxRecDepth 20000 in
theorem ggL_law_X11_odds : GoodIn wsL_law wsX11_odds := goodIn_r _ [1017, 47, 16, 372, 373, 374, 2, 375, 143, 144, 145, 176, 177, 178, 179, 180, 181, 182, 46, 183, 75, 76, 146, 147, 148, 149, 50, 150, 903, 904, 905, 906, 78, 907, 601, 602, 603, 79, 756, 763, 801, 908, 909, 910, 911, 77, 376, 377, 378, 379, 380, 381, 382, 383, 39, 750, 751, 752, 753, 754, 223, 224, 225, 755, 248, 757, 434, 435, 436, 20, 437, 438, 439, 440, 441, 35, 442, 443, 444, 26, 445, 446, 447, 758, 449, 759, 760, 761, 762, 764, 451, 452, 453, 454, 455, 456, 457, 38, 458, 459, 460, 461, 462, 463, 464, 465, 466, 467, 468, 469, 765, 471, 766, 385, 386, 387, 388, 389, 390, 391, 392, 393, 394, 395, 396, 29, 397, 398, 399, 400, 401, 767, 403, 768, 769, 770, 771, 772, 211, 212, 68, 213, 98, 92, 214, 215, 216, 217, 97, 218, 219, 220, 221, 96, 90, 91, 222, 226, 227, 228, 229, 230, 231, 232, 233, 234, 773, 405, 406, 407, 408, 23, 409, 410, 411, 412, 413, 414, 415, 416, 417, 418, 419, 420, 421, 422, 423, 424, 425, 32, 426, 427, 428, 429, 774, 431, 432, 249, 250, 251, 252, 253, 254, 255, 256, 257, 203, 204, 205, 258, 207, 208, 209, 775, 776, 777, 778, 345, 346, 841, 842, 843, 844, 1295, 1296, 1297, 1298, 1299, 1300, 1301, 1302, 1303, 1304, 1305, 1332, 1333, 1334, 1335, 1336, 1337, 1338, 1339, 1340, 1341, 1342, 1347, 1348, 1349, 1350, 1351, 1352, 1353, 1354, 1355, 1356, 1357, 1358, 1359, 1360, 1361, 1362, 1363, 1364, 1365, 1366, 1367, 1368, 1369, 1370, 1371] (by decide +kernel) (by decide +kernel)
set_option maxRecDepth 20000 in
theorem gL_law_X11_odds : GoodIn wsL_law (wsV RL 121 RX11 yX11_odds wsX11_odds) := goodIn_app (goodIn_of _ (by decide +kernel)) ggL_law_X11_odds
set_option maxRecDepth 20000 in
theorem ggL_law_X12_odds : GoodIn wsL_law wsX12_odds := goodIn_r _ [1021, 1022, 477, 478, 479, 5, 480, 123, 164, 165, 166, 190, 191, 192, 193, 194, 195, 196, 197, 167, 168, 169, 170, 125, 171, 925, 926, 927, 928, 126, 783, 784, 785, 786, 787, 501, 502, 503, 504, 481, 482, 483, 484, 485, 486, 487, 488, 788, 789, 790, 791, 505, 506, 507, 508, 489, 490, 491, 492, 493, 494, 495, 496, 497, 498, 499, 500, 268, 129, 269, 270, 271, 272, 127, 273, 274, 275, 276, 277, 278, 279, 280, 281, 282, 283, 284, 285, 286, 287, 288, 289, 290, 291, 292, 293, 294, 295, 296, 297, 298, 299, 300, 301, 302, 303, 304, 305, 306, 307, 308, 309, 310, 311, 312, 313, 314, 315, 316, 317, 318, 319, 320, 321, 322, 323, 324, 325, 326, 327, 332, 333, 334, 335, 354, 355, 356, 357, 849, 850, 851, 852, 264, 265, 266, 267, 128, 929, 930, 931, 932, 1306, 1307, 1308, 1309, 1310, 1311, 1312, 1313, 1314, 1315, 1316, 1317, 1318, 1319, 1320, 1321, 1322, 1323, 1324, 1325, 1326, 1327, 1328, 1329, 1330, 1331] (by decide +kernel) (by decide +kernel)
set_option maxRecDepth 20000 in
theorem gL_law_X12_odds : GoodIn wsL_law (wsV RL 124 RX12 yX12_odds wsX12_odds) := goodIn_app (goodIn_of _ (by decide +kernel)) ggL_law_X12_odds
set_option maxRecDepth 20000 in
theorem ggL_law_X11_seed : GoodIn wsL_law wsX11_seed := goodIn_r _ [1026, 16, 1295, 1296, 1297, 1298, 1299, 1300, 1301, 1302, 1303, 1304, 1305, 1332, 1333, 1334, 1335, 1336, 1337, 1338, 1339, 1340, 1341, 1342] (by decide +kernel) (by decide +kernel)
set_option maxRecDepth 20000 in
theorem gL_law_X11_seed : GoodIn wsL_law (wsV RL 125 RX11 yX11_seed wsX11_seed) := goodIn_app (goodIn_of _ (by decide +kernel)) ggL_law_X11_seed
set_option maxRecDepth 20000 in
theorem ggL_law_X12_seed : GoodIn wsL_law wsX12_seed := goodIn_r _ [1030, 123, 1306, 1307, 1308, 1309, 1310, 1311, 1312, 1313, 1314, 1315, 1316, 1317, 1318, 1319, 1320, 1321, 1322, 1323, 1324, 1325, 1326, 1327, 1328, 1329, 1330, 1331] (by decide +kernel) (by decide +kernel)
set_option maxRecDepth 20000 in
theorem gL_law_X12_seed : GoodIn wsL_law (wsV RL 128 RX12 yX12_seed wsX12_seed) := goodIn_app (goodIn_of _ (by decide +kernel)) ggL_law_X12_seed
set_option maxRecDepth 20000 in
theorem ggL_law_X11_voice : GoodIn wsL_law wsX11_voice := goodIn_r _ [1034, 43, 16, 372, 373, 374, 2, 375, 143, 144, 145, 146, 147, 148, 149, 50, 150, 1035, 1036, 1037, 42, 1038, 1039, 1040, 1041, 376, 377, 378, 379, 380, 381, 382, 383, 39, 1042, 1043, 1044, 1045, 1046, 23, 1047, 1048, 1049, 1050, 1051, 117, 1052, 528, 1053, 20, 1054, 1055, 1056, 1057, 1058, 1059, 1060, 1061, 1062, 1063, 1064, 1065, 1066, 1067, 1068, 1069, 1070, 1071, 1072, 1073, 35, 1074, 1075, 1076, 1077, 464, 1078, 26, 1079, 1080, 1081, 548, 1082, 1083, 1084, 1085, 1086, 1087, 1088, 1089, 1090, 1091, 1092, 1093, 1094, 1095, 1096, 1097, 1098, 38, 1099, 1100, 1101, 1102, 395, 1103, 29, 1104, 1105, 1106, 539, 1107, 1108, 1109, 1110, 1111, 1112, 1113, 1114, 1115, 1116, 1117, 1118, 1119, 1120, 1121, 1122, 1123, 1124, 1125, 1126, 1127, 1128, 1129, 1130, 1131, 1132, 1133, 32, 1134, 1135, 1136, 1137, 1138, 1139, 1140, 1295, 1296, 1297, 1298, 1299, 1300, 1301, 1302, 1303, 1304, 1305, 1332, 1333, 1334, 1335, 1336, 1337, 1338, 1339, 1340, 1341, 1342, 1343, 1344, 1345, 1346] (by decide +kernel) (by decide +kernel)
set_option maxRecDepth 20000 in
theorem gL_law_X11_voice : GoodIn wsL_law (wsV RL 129 RX11 yX11_voice wsX11_voice) := goodIn_app (goodIn_of _ (by decide +kernel)) ggL_law_X11_voice
set_option maxRecDepth 20000 in
theorem ggL_law_X12_voice : GoodIn wsL_law wsX12_voice := goodIn_r _ [1144, 263, 1145, 1146, 477, 478, 479, 5, 480, 123, 164, 165, 166, 167, 168, 169, 170, 125, 171, 1147, 1148, 1149, 1150, 481, 482, 483, 484, 1151, 1152, 1153, 1154, 1155, 1156, 1157, 1158, 130, 562, 563, 564, 1159, 1160, 1161, 1162, 1163, 1164, 1165, 1166, 485, 486, 487, 488, 1167, 1168, 1169, 1170, 1306, 1307, 1308, 1309, 1310, 1311, 1312, 1313, 1314, 1315, 1316, 1317, 1318, 1319, 1320, 1321, 1322, 1323, 1324, 1325, 1326, 1327, 1328, 1329, 1330, 1331] (by decide +kernel) (by decide +kernel)
set_option maxRecDepth 20000 in
theorem gL_law_X12_voice : GoodIn wsL_law (wsV RL 132 RX12 yX12_voice wsX12_voice) := goodIn_app (goodIn_of _ (by decide +kernel)) ggL_law_X12_voice
set_option maxRecDepth 20000 in
theorem ggL_law_X11_trace : GoodIn wsL_law wsX11_trace := goodIn_r _ [1174, 43, 143, 144, 2, 145, 146, 147, 148, 149, 50, 150, 1295, 1296, 1297, 1298, 1299, 1300, 1301, 1302, 1303, 1304, 1305, 1343, 1344, 1345, 1346] (by decide +kernel) (by decide +kernel)
set_option maxRecDepth 20000 in
theorem gL_law_X11_trace : GoodIn wsL_law (wsV RL 133 RX11 yX11_trace wsX11_trace) := goodIn_app (goodIn_of _ (by decide +kernel)) ggL_law_X11_trace
set_option maxRecDepth 20000 in
theorem ggL_law_X12_trace : GoodIn wsL_law wsX12_trace := goodIn_r _ [1178, 1145, 130, 164, 165, 5, 166, 167, 168, 169, 170, 125, 171, 1306, 1307, 1308, 1309, 1310, 1311, 1312, 1313, 1314, 1315, 1316, 1317, 1318, 1319, 1320, 1321, 1322, 1323, 1324, 1325, 1326, 1327, 1328, 1329, 1330, 1331] (by decide +kernel) (by decide +kernel)
set_option maxRecDepth 20000 in
theorem gL_law_X12_trace : GoodIn wsL_law (wsV RL 136 RX12 yX12_trace wsX12_trace) := goodIn_app (goodIn_of _ (by decide +kernel)) ggL_law_X12_trace
set_option maxRecDepth 20000 in
theorem ggL_law_X11_sheet : GoodIn wsL_law wsX11_sheet := goodIn_r _ [1182, 51, 52, 54, 992, 993, 2, 994, 143, 144, 145, 146, 147, 148, 149, 50, 150, 1183, 83, 84, 85, 1295, 1296, 1297, 1298, 1299, 1300, 1301, 1302, 1303, 1304, 1305] (by decide +kernel) (by decide +kernel)
set_option maxRecDepth 20000 in
theorem gL_law_X11_sheet : GoodIn wsL_law (wsV RL 137 RX11 yX11_sheet wsX11_sheet) := goodIn_app (goodIn_of _ (by decide +kernel)) ggL_law_X11_sheet
set_option maxRecDepth 20000 in
theorem ggL_law_X12_sheet : GoodIn wsL_law wsX12_sheet := goodIn_r _ [1187, 131, 132, 133, 1007, 1008, 5, 1009, 263, 164, 165, 166, 167, 168, 169, 170, 125, 171, 1306, 1307, 1308, 1309, 1310, 1311, 1312, 1313, 1314, 1315, 1316, 1317, 1318, 1319, 1320, 1321, 1322, 1323, 1324, 1325, 1326, 1327, 1328, 1329, 1330, 1331] (by decide +kernel) (by decide +kernel)
set_option maxRecDepth 20000 in
theorem gL_law_X12_sheet : GoodIn wsL_law (wsV RL 140 RX12 yX12_sheet wsX12_sheet) := goodIn_app (goodIn_of _ (by decide +kernel)) ggL_law_X12_sheet
set_option maxRecDepth 20000 in
theorem ggL_law_X11_put : GoodIn wsL_law wsX11_put := goodIn_r _ [1191, 52, 51, 54, 992, 993, 2, 994, 143, 144, 145, 146, 147, 148, 149, 50, 150, 995, 996, 997, 998, 1295, 1296, 1297, 1298, 1299, 1300, 1301, 1302, 1303, 1304, 1305] (by decide +kernel) (by decide +kernel)
set_option maxRecDepth 20000 in
theorem gL_law_X11_put : GoodIn wsL_law (wsV RL 141 RX11 yX11_put wsX11_put) := goodIn_app (goodIn_of _ (by decide +kernel)) ggL_law_X11_put
set_option maxRecDepth 20000 in
theorem ggL_law_X12_put : GoodIn wsL_law wsX12_put := goodIn_r _ [1195, 131, 132, 133, 1007, 1008, 5, 1009, 263, 164, 165, 166, 167, 168, 169, 170, 125, 171, 1306, 1307, 1308, 1309, 1310, 1311, 1312, 1313, 1314, 1315, 1316, 1317, 1318, 1319, 1320, 1321, 1322, 1323, 1324, 1325, 1326, 1327, 1328, 1329, 1330, 1331] (by decide +kernel) (by decide +kernel)
set_option maxRecDepth 20000 in
theorem gL_law_X12_put : GoodIn wsL_law (wsV RL 144 RX12 yX12_put wsX12_put) := goodIn_app (goodIn_of _ (by decide +kernel)) ggL_law_X12_put
set_option maxRecDepth 20000 in
theorem ggL_law_X11_move : GoodIn wsL_law wsX11_move := goodIn_r _ [1199, 51, 54, 1200, 601, 602, 603, 992, 993, 2, 994, 143, 144, 145, 146, 147, 148, 149, 50, 150, 995, 996, 997, 998, 1201, 1202, 1203, 1204, 52, 1295, 1296, 1297, 1298, 1299, 1300, 1301, 1302, 1303, 1304, 1305] (by decide +kernel) (by decide +kernel)
set_option maxRecDepth 20000 in
theorem gL_law_X11_move : GoodIn wsL_law (wsV RL 145 RX11 yX11_move wsX11_move) := goodIn_app (goodIn_of _ (by decide +kernel)) ggL_law_X11_move
set_option maxRecDepth 20000 in
theorem ggL_law_X12_move : GoodIn wsL_law wsX12_move := goodIn_r _ [1208, 131, 132, 134, 133, 1007, 1008, 5, 1009, 263, 164, 165, 166, 167, 168, 169, 170, 125, 171, 1306, 1307, 1308, 1309, 1310, 1311, 1312, 1313, 1314, 1315, 1316, 1317, 1318, 1319, 1320, 1321, 1322, 1323, 1324, 1325, 1326, 1327, 1328, 1329, 1330, 1331] (by decide +kernel) (by decide +kernel)
set_option maxRecDepth 20000 in
theorem gL_law_X12_move : GoodIn wsL_law (wsV RL 149 RX12 yX12_move wsX12_move) := goodIn_app (goodIn_of _ (by decide +kernel)) ggL_law_X12_move
set_option maxRecDepth 20000 in
theorem ggL_law_X11_airs : GoodIn wsL_law wsX11_airs := goodIn_r _ [1212, 52, 16, 371, 223, 224, 225, 54, 992, 993, 2, 994, 143, 144, 145, 146, 147, 148, 149, 50, 150, 995, 996, 997, 998, 51, 155, 156, 157, 46, 158, 75, 76, 1295, 1296, 1297, 1298, 1299, 1300, 1301, 1302, 1303, 1304, 1305, 1332, 1333, 1334, 1335, 1336, 1337, 1338, 1339, 1340, 1341, 1342, 1347, 1348, 1349, 1350, 1351, 1352, 1353, 1354, 1355, 1356, 1357] (by decide +kernel) (by decide +kernel)
set_option maxRecDepth 20000 in
theorem gL_law_X11_airs : GoodIn wsL_law (wsV RL 150 RX11 yX11_airs wsX11_airs) := goodIn_app (goodIn_of _ (by decide +kernel)) ggL_law_X11_airs
set_option maxRecDepth 20000 in
theorem ggL_law_X12_airs : GoodIn wsL_law wsX12_airs := goodIn_r _ [1216, 131, 132, 133, 188, 123, 1007, 1008, 5, 1009, 263, 164, 165, 166, 167, 168, 169, 170, 125, 171, 194, 195, 196, 197, 1306, 1307, 1308, 1309, 1310, 1311, 1312, 1313, 1314, 1315, 1316, 1317, 1318, 1319, 1320, 1321, 1322, 1323, 1324, 1325, 1326, 1327, 1328, 1329, 1330, 1331] (by decide +kernel) (by decide +kernel)
set_option maxRecDepth 20000 in
theorem gL_law_X12_airs : GoodIn wsL_law (wsV RL 153 RX12 yX12_airs wsX12_airs) := goodIn_app (goodIn_of _ (by decide +kernel)) ggL_law_X12_airs
set_option maxRecDepth 20000 in
theorem ggL_law_X11_judge : GoodIn wsL_law wsX11_judge := goodIn_r _ [1220, 16, 992, 993, 2, 994, 143, 144, 145, 146, 147, 148, 149, 50, 150, 995, 996, 997, 998, 51, 999, 1000, 1001, 1002, 52, 952, 227, 224, 228, 54, 155, 156, 157, 46, 158, 75, 76, 180, 181, 182, 183, 1295, 1296, 1297, 1298, 1299, 1300, 1301, 1302, 1303, 1304, 1305, 1332, 1333, 1334, 1335, 1336, 1337, 1338, 1339, 1340, 1341, 1342, 1347, 1348, 1349, 1350, 1351, 1352, 1353, 1354, 1355, 1356, 1357] (by decide +kernel) (by decide +kernel)
set_option maxRecDepth 20000 in
theorem gL_law_X11_judge : GoodIn wsL_law (wsV RL 154 RX11 yX11_judge wsX11_judge) := goodIn_app (goodIn_of _ (by decide +kernel)) ggL_law_X11_judge
set_option maxRecDepth 20000 in
theorem ggL_law_X12_judge : GoodIn wsL_law wsX12_judge := goodIn_r _ [1224, 131, 132, 133, 123, 1007, 1008, 5, 1009, 263, 164, 165, 166, 167, 168, 169, 170, 125, 171, 194, 195, 196, 197, 1306, 1307, 1308, 1309, 1310, 1311, 1312, 1313, 1314, 1315, 1316, 1317, 1318, 1319, 1320, 1321, 1322, 1323, 1324, 1325, 1326, 1327, 1328, 1329, 1330, 1331] (by decide +kernel) (by decide +kernel)
set_option maxRecDepth 20000 in
theorem gL_law_X12_judge : GoodIn wsL_law (wsV RL 157 RX12 yX12_judge wsX12_judge) := goodIn_app (goodIn_of _ (by decide +kernel)) ggL_law_X12_judge
set_option maxRecDepth 20000 in
theorem ggL_law_X11_image : GoodIn wsL_law wsX11_image := goodIn_r _ [1228, 17, 16, 1229, 1230, 1231, 1232, 15, 1233, 60, 1234, 61, 1235, 601, 602, 603, 62, 63, 573, 69, 70, 64, 65, 1236, 1237, 904, 905, 46, 906, 75, 76, 78, 907, 79, 756, 763, 801, 908, 909, 910, 911, 77, 1238, 1239, 1240, 68, 1241, 96, 90, 600, 92, 1295, 1296, 1297, 1298, 1299, 1300, 1301, 1302, 1303, 1304, 1305, 1332, 1333, 1334, 1335, 1336, 1337, 1338, 1339, 1340, 1341, 1342, 1347, 1348, 1349, 1350, 1351, 1352, 1353, 1354, 1355, 1356, 1357, 1358, 1359, 1360, 1361, 1362, 1363, 1364, 1365, 1366, 1367, 1368, 1369, 1370, 1371] (by decide +kernel) (by decide +kernel)
set_option maxRecDepth 20000 in
theorem gL_law_X11_image : GoodIn wsL_law (wsV RL 158 RX11 yX11_image wsX11_image) := goodIn_app (goodIn_of _ (by decide +kernel)) ggL_law_X11_image
set_option maxRecDepth 20000 in
theorem ggL_law_X12_image : GoodIn wsL_law wsX12_image := goodIn_r _ [1245, 124, 123, 1246, 1306, 1307, 1308, 1309, 1310, 1311, 1312, 1313, 1314, 1315, 1316, 1317, 1318, 1319, 1320, 1321, 1322, 1323, 1324, 1325, 1326, 1327, 1328, 1329, 1330, 1331] (by decide +kernel) (by decide +kernel)
set_option maxRecDepth 20000 in
theorem gL_law_X12_image : GoodIn wsL_law (wsV RL 161 RX12 yX12_image wsX12_image) := goodIn_app (goodIn_of _ (by decide +kernel)) ggL_law_X12_image
set_option maxRecDepth 20000 in
theorem ggL_law_X11_restore : GoodIn wsL_law wsX11_restore := goodIn_r _ [1250, 1229, 16, 17, 146, 147, 148, 2, 149, 50, 150, 143, 144, 145, 1230, 1231, 1232, 15, 1233, 60, 1234, 61, 1235, 601, 602, 603, 62, 63, 573, 69, 70, 64, 65, 1236, 1237, 904, 905, 46, 906, 75, 76, 78, 907, 79, 756, 763, 801, 908, 909, 910, 911, 77, 1238, 1239, 1240, 68, 1241, 96, 90, 600, 92, 1295, 1296, 1297, 1298, 1299, 1300, 1301, 1302, 1303, 1304, 1305, 1332, 1333, 1334, 1335, 1336, 1337, 1338, 1339, 1340, 1341, 1342, 1347, 1348, 1349, 1350, 1351, 1352, 1353, 1354, 1355, 1356, 1357, 1358, 1359, 1360, 1361, 1362, 1363, 1364, 1365, 1366, 1367, 1368, 1369, 1370, 1371] (by decide +kernel) (by decide +kernel)
set_option maxRecDepth 20000 in
theorem gL_law_X11_restore : GoodIn wsL_law (wsV RL 162 RX11 yX11_restore wsX11_restore) := goodIn_app (goodIn_of _ (by decide +kernel)) ggL_law_X11_restore
set_option maxRecDepth 20000 in
theorem ggL_law_X12_restore : GoodIn wsL_law wsX12_restore := goodIn_r _ [1254, 1246, 123, 124, 167, 168, 169, 5, 170, 125, 171, 1306, 1307, 1308, 1309, 1310, 1311, 1312, 1313, 1314, 1315, 1316, 1317, 1318, 1319, 1320, 1321, 1322, 1323, 1324, 1325, 1326, 1327, 1328, 1329, 1330, 1331] (by decide +kernel) (by decide +kernel)
set_option maxRecDepth 20000 in
theorem gL_law_X12_restore : GoodIn wsL_law (wsV RL 165 RX12 yX12_restore wsX12_restore) := goodIn_app (goodIn_of _ (by decide +kernel)) ggL_law_X12_restore
set_option maxRecDepth 20000 in
theorem ggL_law_X11_tell : GoodIn wsL_law wsX11_tell := goodIn_r _ [1258, 16, 143, 144, 2, 145, 146, 147, 148, 149, 50, 150, 1295, 1296, 1297, 1298, 1299, 1300, 1301, 1302, 1303, 1304, 1305, 1332, 1333, 1334, 1335, 1336, 1337, 1338, 1339, 1340, 1341, 1342] (by decide +kernel) (by decide +kernel)
set_option maxRecDepth 20000 in
theorem gL_law_X11_tell : GoodIn wsL_law (wsV RL 166 RX11 yX11_tell wsX11_tell) := goodIn_app (goodIn_of _ (by decide +kernel)) ggL_law_X11_tell
set_option maxRecDepth 20000 in
theorem ggL_law_X12_tell : GoodIn wsL_law wsX12_tell := goodIn_r _ [1262, 123, 167, 168, 169, 5, 170, 125, 171, 1306, 1307, 1308, 1309, 1310, 1311, 1312, 1313, 1314, 1315, 1316, 1317, 1318, 1319, 1320, 1321, 1322, 1323, 1324, 1325, 1326, 1327, 1328, 1329, 1330, 1331] (by decide +kernel) (by decide +kernel)
set_option maxRecDepth 20000 in
theorem gL_law_X12_tell : GoodIn wsL_law (wsV RL 169 RX12 yX12_tell wsX12_tell) := goodIn_app (goodIn_of _ (by decide +kernel)) ggL_law_X12_tell
set_option maxRecDepth 20000 in
theorem ggL_law_X11_check : GoodIn wsL_law wsX11_check := goodIn_r _ [1266, 16, 47, 903, 904, 905, 46, 906, 75, 76, 78, 907, 601, 602, 603, 79, 756, 763, 801, 908, 909, 910, 911, 77, 796, 797, 798, 799, 800, 227, 224, 228, 248, 181, 182, 183, 802, 803, 804, 805, 1295, 1296, 1297, 1298, 1299, 1300, 1301, 1302, 1303, 1304, 1305, 1332, 1333, 1334, 1335, 1336, 1337, 1338, 1339, 1340, 1341, 1342, 1347, 1348, 1349, 1350, 1351, 1352, 1353, 1354, 1355, 1356, 1357] (by decide +kernel) (by decide +kernel)
set_option maxRecDepth 20000 in
theorem gL_law_X11_check : GoodIn wsL_law (wsV RL 170 RX11 yX11_check wsX11_check) := goodIn_app (goodIn_of _ (by decide +kernel)) ggL_law_X11_check
set_option maxRecDepth 20000 in
theorem ggL_law_X12_check : GoodIn wsL_law wsX12_check := goodIn_r _ [1270, 123, 925, 926, 927, 5, 928, 126, 811, 812, 813, 814, 194, 195, 196, 197, 815, 816, 817, 818, 929, 930, 931, 932, 1306, 1307, 1308, 1309, 1310, 1311, 1312, 1313, 1314, 1315, 1316, 1317, 1318, 1319, 1320, 1321, 1322, 1323, 1324, 1325, 1326, 1327, 1328, 1329, 1330, 1331] (by decide +kernel) (by decide +kernel)
set_option maxRecDepth 20000 in
theorem gL_law_X12_check : GoodIn wsL_law (wsV RL 173 RX12 yX12_check wsX12_check) := goodIn_app (goodIn_of _ (by decide +kernel)) ggL_law_X12_check
set_option maxRecDepth 20000 in
theorem ggL_law_X11_count : GoodIn wsL_law wsX11_count := goodIn_r _ [1274, 16, 43, 155, 156, 157, 46, 158, 75, 76, 802, 803, 804, 805, 77, 248, 181, 182, 183, 1275, 1276, 1277, 1278, 1279, 1280, 1281, 1282, 79, 146, 147, 148, 2, 149, 50, 150, 143, 144, 145, 1295, 1296, 1297, 1298, 1299, 1300, 1301, 1302, 1303, 1304, 1305, 1332, 1333, 1334, 1335, 1336, 1337, 1338, 1339, 1340, 1341, 1342, 1347, 1348, 1349, 1350, 1351, 1352, 1353, 1354, 1355, 1356, 1357, 1343, 1344, 1345, 1346] (by decide +kernel) (by decide +kernel)
set_option maxRecDepth 20000 in
theorem gL_law_X11_count : GoodIn wsL_law (wsV RL 174 RX11 yX11_count wsX11_count) := goodIn_app (goodIn_of _ (by decide +kernel)) ggL_law_X11_count
set_option maxRecDepth 20000 in
theorem ggL_law_X12_count : GoodIn wsL_law wsX12_count := goodIn_r _ [1286, 123, 1145, 194, 195, 196, 5, 197, 815, 816, 817, 818, 167, 168, 169, 170, 125, 171, 1306, 1307, 1308, 1309, 1310, 1311, 1312, 1313, 1314, 1315, 1316, 1317, 1318, 1319, 1320, 1321, 1322, 1323, 1324, 1325, 1326, 1327, 1328, 1329, 1330, 1331] (by decide +kernel) (by decide +kernel)
set_option maxRecDepth 20000 in
theorem gL_law_X12_count : GoodIn wsL_law (wsV RL 177 RX12 yX12_count wsX12_count) := goodIn_app (goodIn_of _ (by decide +kernel)) ggL_law_X12_count
set_option maxRecDepth 20000 in
theorem ggL_law_X11_told : GoodIn wsL_law wsX11_told := goodIn_r _ [1290, 50, 143, 144, 2, 145, 146, 147, 148, 149, 150, 1295, 1296, 1297, 1298, 1299, 1300, 1301, 1302, 1303, 1304, 1305] (by decide +kernel) (by decide +kernel)
set_option maxRecDepth 20000 in
theorem gL_law_X11_told : GoodIn wsL_law (wsV RL 178 RX11 yX11_told wsX11_told) := goodIn_app (goodIn_of _ (by decide +kernel)) ggL_law_X11_told
set_option maxRecDepth 20000 in
theorem ggL_law_X12_told : GoodIn wsL_law wsX12_told := goodIn_r _ [1294, 163, 125, 164, 165, 5, 166, 167, 168, 169, 170, 171, 1306, 1307, 1308, 1309, 1310, 1311, 1312, 1313, 1314, 1315, 1316, 1317, 1318, 1319, 1320, 1321, 1322, 1323, 1324, 1325, 1326, 1327, 1328, 1329, 1330, 1331] (by decide +kernel) (by decide +kernel)
set_option maxRecDepth 20000 in
theorem gL_law_X12_told : GoodIn wsL_law (wsV RL 181 RX12 yX12_told wsX12_told) := goodIn_app (goodIn_of _ (by decide +kernel)) ggL_law_X12_told
