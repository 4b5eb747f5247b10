set_option maxRecDepth 20000 in
theorem gX12_bestOf_X12_seen : GoodIn wsX12_bestOf (wsV RX12 153 RX12 yX12_seen wsX12_seen) := goodIn_app (goodIn_m (cs := [926, 927, 928, 798]) ge_X12_bestOf rfl (by decide +kernel) (by decide +kernel)) ggX12_bestOf_X12_seen
set_option maxRecDepth 20000 in
theorem ggX12_bestOf_X12_putBack : GoodIn wsX12_bestOf wsX12_putBack := goodIn_m ge_X12_bestOf ge_X12_putBack (by decide +kernel) (by decide +kernel)
set_option maxRecDepth 20000 in
theorem gX12_bestOf_X12_putBack : GoodIn wsX12_bestOf (wsV RX12 239 RX12 yX12_putBack wsX12_putBack) := goodIn_app (goodIn_m (cs := [1026, 1027, 1028, 798]) ge_X12_bestOf rfl (by decide +kernel) (by decide +kernel)) ggX12_bestOf_X12_putBack
set_option maxRecDepth 20000 in
theorem ggX12_best_X12_isTool : GoodIn wsX12_best wsX12_isTool := goodIn_m ge_X12_best ge_X12_isTool (by decide +kernel) (by decide +kernel)
set_option maxRecDepth 20000 in
theorem gX12_best_X12_isTool : GoodIn wsX12_best (wsV RX12 180 RX12 yX12_isTool wsX12_isTool) := goodIn_app (goodIn_m (cs := [965, 966, 967, 798]) ge_X12_best rfl (by decide +kernel) (by decide +kernel)) ggX12_best_X12_isTool
set_option maxRecDepth 20000 in
theorem ggX12_best_X12_in : GoodIn wsX12_best wsX12_in := goodIn_m ge_X12_best ge_X12_in (by decide +kernel) (by decide +kernel)
set_option maxRecDepth 20000 in
theorem gX12_best_X12_in : GoodIn wsX12_best (va_wsS RX12 55 yX12_in wsX12_in) := goodIn_app (goodIn_m (cs := [831, 832, 798]) ge_X12_best rfl (by decide +kernel) (by decide +kernel)) ggX12_best_X12_in
set_option maxRecDepth 20000 in
theorem ggX12_best_X12_finds : GoodIn wsX12_best wsX12_finds := goodIn_m ge_X12_best ge_X12_finds (by decide +kernel) (by decide +kernel)
set_option maxRecDepth 20000 in
theorem gX12_best_X12_finds : GoodIn wsX12_best (wsV RX12 119 RX12 yX12_finds wsX12_finds) := goodIn_app (goodIn_m (cs := [889, 890, 891, 798]) ge_X12_best rfl (by decide +kernel) (by decide +kernel)) ggX12_best_X12_finds
set_option maxRecDepth 20000 in
theorem ggX12_best_X12_bestOf : GoodIn wsX12_best wsX12_bestOf := goodIn_m ge_X12_best ge_X12_bestOf (by decide +kernel) (by decide +kernel)
set_option maxRecDepth 20000 in
theorem gX12_best_X12_bestOf : GoodIn wsX12_best (wsV RX12 242 RX12 yX12_bestOf wsX12_bestOf) := goodIn_app (goodIn_m (cs := [1031, 1032, 1033, 798]) ge_X12_best rfl (by decide +kernel) (by decide +kernel)) ggX12_best_X12_bestOf
set_option maxRecDepth 20000 in
theorem ggX12_bestTwo_X12_isTool : GoodIn wsX12_bestTwo wsX12_isTool := goodIn_m ge_X12_bestTwo ge_X12_isTool (by decide +kernel) (by decide +kernel)
set_option maxRecDepth 20000 in
theorem gX12_bestTwo_X12_isTool : GoodIn wsX12_bestTwo (wsV RX12 180 RX12 yX12_isTool wsX12_isTool) := goodIn_app (goodIn_m (cs := [965, 966, 967, 798]) ge_X12_bestTwo rfl (by decide +kernel) (by decide +kernel)) ggX12_bestTwo_X12_isTool
set_option maxRecDepth 20000 in
theorem ggX12_bestTwo_X12_in : GoodIn wsX12_bestTwo wsX12_in := goodIn_m ge_X12_bestTwo ge_X12_in (by decide +kernel) (by decide +kernel)
set_option maxRecDepth 20000 in
theorem gX12_bestTwo_X12_in : GoodIn wsX12_bestTwo (va_wsS RX12 55 yX12_in wsX12_in) := goodIn_app (goodIn_m (cs := [831, 832, 798]) ge_X12_bestTwo rfl (by decide +kernel) (by decide +kernel)) ggX12_bestTwo_X12_in
set_option maxRecDepth 20000 in
theorem ggX12_bestTwo_X12_finds : GoodIn wsX12_bestTwo wsX12_finds := goodIn_m ge_X12_bestTwo ge_X12_finds (by decide +kernel) (by decide +kernel)
set_option maxRecDepth 20000 in
theorem gX12_bestTwo_X12_finds : GoodIn wsX12_bestTwo (wsV RX12 119 RX12 yX12_finds wsX12_finds) := goodIn_app (goodIn_m (cs := [889, 890, 891, 798]) ge_X12_bestTwo rfl (by decide +kernel) (by decide +kernel)) ggX12_bestTwo_X12_finds
set_option maxRecDepth 20000 in
theorem ggX12_bestTwo_X12_keepsAnew : GoodIn wsX12_bestTwo wsX12_keepsAnew := goodIn_m ge_X12_bestTwo ge_X12_keepsAnew (by decide +kernel) (by decide +kernel)
set_option maxRecDepth 20000 in
theorem gX12_bestTwo_X12_keepsAnew : GoodIn wsX12_bestTwo (wsV RX12 245 RX12 yX12_keepsAnew wsX12_keepsAnew) := goodIn_app (goodIn_m (cs := [1035, 1036, 1037, 798]) ge_X12_bestTwo rfl (by decide +kernel) (by decide +kernel)) ggX12_bestTwo_X12_keepsAnew
set_option maxRecDepth 20000 in
theorem ggX12_bestTwo_X12_cells : GoodIn wsX12_bestTwo wsX12_cells := goodIn_m ge_X12_bestTwo ge_X12_cells (by decide +kernel) (by decide +kernel)
set_option maxRecDepth 20000 in
theorem gX12_bestTwo_X12_cells : GoodIn wsX12_bestTwo (wsV RX12 51 RX12 yX12_cells wsX12_cells) := goodIn_app (goodIn_m (cs := [827, 828, 829, 798]) ge_X12_bestTwo rfl (by decide +kernel) (by decide +kernel)) ggX12_bestTwo_X12_cells
set_option maxRecDepth 20000 in
theorem ggX12_bestTwo_X12_keepAside : GoodIn wsX12_bestTwo wsX12_keepAside := goodIn_m ge_X12_bestTwo ge_X12_keepAside (by decide +kernel) (by decide +kernel)
set_option maxRecDepth 20000 in
theorem gX12_bestTwo_X12_keepAside : GoodIn wsX12_bestTwo (wsV RX12 236 RX12 yX12_keepAside wsX12_keepAside) := goodIn_app (goodIn_m (cs := [1022, 1023, 1024, 798]) ge_X12_bestTwo rfl (by decide +kernel) (by decide +kernel)) ggX12_bestTwo_X12_keepAside
set_option maxRecDepth 20000 in
theorem ggX12_bestTwo_X12_strokes : GoodIn wsX12_bestTwo wsX12_strokes := goodIn_m ge_X12_bestTwo ge_X12_strokes (by decide +kernel) (by decide +kernel)
set_option maxRecDepth 20000 in
theorem gX12_bestTwo_X12_strokes : GoodIn wsX12_bestTwo (wsV RX12 205 RX12 yX12_strokes wsX12_strokes) := goodIn_app (goodIn_m (cs := [992, 993, 994, 798]) ge_X12_bestTwo rfl (by decide +kernel) (by decide +kernel)) ggX12_bestTwo_X12_strokes
set_option maxRecDepth 20000 in
theorem ggX12_bestTwo_X12_bestOf : GoodIn wsX12_bestTwo wsX12_bestOf := goodIn_m ge_X12_bestTwo ge_X12_bestOf (by decide +kernel) (by decide +kernel)
set_option maxRecDepth 20000 in
theorem gX12_bestTwo_X12_bestOf : GoodIn wsX12_bestTwo (wsV RX12 242 RX12 yX12_bestOf wsX12_bestOf) := goodIn_app (goodIn_m (cs := [1031, 1032, 1033, 798]) ge_X12_bestTwo rfl (by decide +kernel) (by decide +kernel)) ggX12_bestTwo_X12_bestOf
set_option maxRecDepth 20000 in
theorem ggX12_bestTwo_X12_putBack : GoodIn wsX12_bestTwo wsX12_putBack := goodIn_m ge_X12_bestTwo ge_X12_putBack (by decide +kernel) (by decide +kernel)
set_option maxRecDepth 20000 in
theorem gX12_bestTwo_X12_putBack : GoodIn wsX12_bestTwo (wsV RX12 239 RX12 yX12_putBack wsX12_putBack) := goodIn_app (goodIn_m (cs := [1026, 1027, 1028, 798]) ge_X12_bestTwo rfl (by decide +kernel) (by decide +kernel)) ggX12_bestTwo_X12_putBack
set_option maxRecDepth 20000 in
theorem ggX12_goneBy_X12_isCell : GoodIn wsX12_goneBy wsX12_isCell := goodIn_m ge_X12_goneBy ge_X12_isCell (by decide +kernel) (by decide +kernel)
set_option maxRecDepth 20000 in
theorem gX12_goneBy_X12_isCell : GoodIn wsX12_goneBy (wsV RX12 137 RX12 yX12_isCell wsX12_isCell) := goodIn_app (goodIn_m (cs := [911, 912, 913, 798]) ge_X12_goneBy rfl (by decide +kernel) (by decide +kernel)) ggX12_goneBy_X12_isCell
set_option maxRecDepth 20000 in
theorem ggX12_goneBy_X12_finds : GoodIn wsX12_goneBy wsX12_finds := goodIn_m ge_X12_goneBy ge_X12_finds (by decide +kernel) (by decide +kernel)
set_option maxRecDepth 20000 in
theorem gX12_goneBy_X12_finds : GoodIn wsX12_goneBy (wsV RX12 119 RX12 yX12_finds wsX12_finds) := goodIn_app (goodIn_m (cs := [889, 890, 891, 798]) ge_X12_goneBy rfl (by decide +kernel) (by decide +kernel)) ggX12_goneBy_X12_finds
set_option maxRecDepth 20000 in
theorem ggX12_goneBy_X12_goneWith : GoodIn wsX12_goneBy wsX12_goneWith := goodIn_m ge_X12_goneBy ge_X12_goneWith (by decide +kernel) (by decide +kernel)
set_option maxRecDepth 20000 in
theorem gX12_goneBy_X12_goneWith : GoodIn wsX12_goneBy (va_wsS RX12 248 yX12_goneWith wsX12_goneWith) := goodIn_app (goodIn_m (cs := [1040, 1041, 798]) ge_X12_goneBy rfl (by decide +kernel) (by decide +kernel)) ggX12_goneBy_X12_goneWith
set_option maxRecDepth 20000 in
theorem ggX12_never_X12_cells : GoodIn wsX12_never wsX12_cells := goodIn_m ge_X12_never ge_X12_cells (by decide +kernel) (by decide +kernel)
set_option maxRecDepth 20000 in
theorem gX12_never_X12_cells : GoodIn wsX12_never (wsV RX12 51 RX12 yX12_cells wsX12_cells) := goodIn_app (goodIn_m (cs := [827, 828, 829, 798]) ge_X12_never rfl (by decide +kernel) (by decide +kernel)) ggX12_never_X12_cells
set_option maxRecDepth 20000 in
theorem ggX12_never_X12_goneWith : GoodIn wsX12_never wsX12_goneWith := goodIn_m ge_X12_never ge_X12_goneWith (by decide +kernel) (by decide +kernel)
set_option maxRecDepth 20000 in
theorem gX12_never_X12_goneWith : GoodIn wsX12_never (va_wsS RX12 248 yX12_goneWith wsX12_goneWith) := goodIn_app (goodIn_m (cs := [1040, 1041, 798]) ge_X12_never rfl (by decide +kernel) (by decide +kernel)) ggX12_never_X12_goneWith
set_option maxRecDepth 20000 in
theorem ggX12_needs_X12_isCell : GoodIn wsX12_needs wsX12_isCell := goodIn_m ge_X12_needs ge_X12_isCell (by decide +kernel) (by decide +kernel)
set_option maxRecDepth 20000 in
theorem gX12_needs_X12_isCell : GoodIn wsX12_needs (wsV RX12 137 RX12 yX12_isCell wsX12_isCell) := goodIn_app (goodIn_m (cs := [911, 912, 913, 798]) ge_X12_needs rfl (by decide +kernel) (by decide +kernel)) ggX12_needs_X12_isCell
set_option maxRecDepth 20000 in
theorem ggX12_needs_X12_in : GoodIn wsX12_needs wsX12_in := goodIn_m ge_X12_needs ge_X12_in (by decide +kernel) (by decide +kernel)
set_option maxRecDepth 20000 in
theorem gX12_needs_X12_in : GoodIn wsX12_needs (va_wsS RX12 55 yX12_in wsX12_in) := goodIn_app (goodIn_m (cs := [831, 832, 798]) ge_X12_needs rfl (by decide +kernel) (by decide +kernel)) ggX12_needs_X12_in
set_option maxRecDepth 20000 in
theorem ggX12_needs_X12_finds : GoodIn wsX12_needs wsX12_finds := goodIn_m ge_X12_needs ge_X12_finds (by decide +kernel) (by decide +kernel)
set_option maxRecDepth 20000 in
theorem gX12_needs_X12_finds : GoodIn wsX12_needs (wsV RX12 119 RX12 yX12_finds wsX12_finds) := goodIn_app (goodIn_m (cs := [889, 890, 891, 798]) ge_X12_needs rfl (by decide +kernel) (by decide +kernel)) ggX12_needs_X12_finds
set_option maxRecDepth 20000 in
theorem ggX12_needs_X12_goneWith : GoodIn wsX12_needs wsX12_goneWith := goodIn_m ge_X12_needs ge_X12_goneWith (by decide +kernel) (by decide +kernel)
set_option maxRecDepth 20000 in
theorem gX12_needs_X12_goneWith : GoodIn wsX12_needs (va_wsS RX12 248 yX12_goneWith wsX12_goneWith) := goodIn_app (goodIn_m (cs := [1040, 1041, 798]) ge_X12_needs rfl (by decide +kernel) (by decide +kernel)) ggX12_needs_X12_goneWith
set_option maxRecDepth 20000 in
theorem ggX12_lamp_X12_isWay : GoodIn wsX12_lamp wsX12_isWay := goodIn_m ge_X12_lamp ge_X12_isWay (by decide +kernel) (by decide +kernel)
set_option maxRecDepth 20000 in
theorem gX12_lamp_X12_isWay : GoodIn wsX12_lamp (va_wsS RX12 166 yX12_isWay wsX12_isWay) := goodIn_app (goodIn_m (cs := [944, 945, 798]) ge_X12_lamp rfl (by decide +kernel) (by decide +kernel)) ggX12_lamp_X12_isWay
set_option maxRecDepth 20000 in
theorem ggX12_lamp_X12_finds : GoodIn wsX12_lamp wsX12_finds := goodIn_m ge_X12_lamp ge_X12_finds (by decide +kernel) (by decide +kernel)
set_option maxRecDepth 20000 in
theorem gX12_lamp_X12_finds : GoodIn wsX12_lamp (wsV RX12 119 RX12 yX12_finds wsX12_finds) := goodIn_app (goodIn_m (cs := [889, 890, 891, 798]) ge_X12_lamp rfl (by decide +kernel) (by decide +kernel)) ggX12_lamp_X12_finds
set_option maxRecDepth 20000 in
theorem ggX12_lamp_X12_cells : GoodIn wsX12_lamp wsX12_cells := goodIn_m ge_X12_lamp ge_X12_cells (by decide +kernel) (by decide +kernel)
set_option maxRecDepth 20000 in
theorem gX12_lamp_X12_cells : GoodIn wsX12_lamp (wsV RX12 51 RX12 yX12_cells wsX12_cells) := goodIn_app (goodIn_m (cs := [827, 828, 829, 798]) ge_X12_lamp rfl (by decide +kernel) (by decide +kernel)) ggX12_lamp_X12_cells
set_option maxRecDepth 20000 in
theorem ggX12_lamp_X12_nextTo : GoodIn wsX12_lamp wsX12_nextTo := goodIn_m ge_X12_lamp ge_X12_nextTo (by decide +kernel) (by decide +kernel)
set_option maxRecDepth 20000 in
theorem gX12_lamp_X12_nextTo : GoodIn wsX12_lamp (wsV RX12 156 RX12 yX12_nextTo wsX12_nextTo) := goodIn_app (goodIn_m (cs := [932, 933, 934, 798]) ge_X12_lamp rfl (by decide +kernel) (by decide +kernel)) ggX12_lamp_X12_nextTo
set_option maxRecDepth 20000 in
theorem ggX12_isAs_X12_cells : GoodIn wsX12_isAs wsX12_cells := goodIn_m ge_X12_isAs ge_X12_cells (by decide +kernel) (by decide +kernel)
set_option maxRecDepth 20000 in
theorem gX12_isAs_X12_cells : GoodIn wsX12_isAs (wsV RX12 51 RX12 yX12_cells wsX12_cells) := goodIn_app (goodIn_m (cs := [827, 828, 829, 798]) ge_X12_isAs rfl (by decide +kernel) (by decide +kernel)) ggX12_isAs_X12_cells
set_option maxRecDepth 20000 in
theorem ggX12_came_X12_isTool : GoodIn wsX12_came wsX12_isTool := goodIn_m ge_X12_came ge_X12_isTool (by decide +kernel) (by decide +kernel)
set_option maxRecDepth 20000 in
theorem gX12_came_X12_isTool : GoodIn wsX12_came (wsV RX12 180 RX12 yX12_isTool wsX12_isTool) := goodIn_app (goodIn_m (cs := [965, 966, 967, 798]) ge_X12_came rfl (by decide +kernel) (by decide +kernel)) ggX12_came_X12_isTool
set_option maxRecDepth 20000 in
theorem ggX12_came_X12_isCell : GoodIn wsX12_came wsX12_isCell := goodIn_m ge_X12_came ge_X12_isCell (by decide +kernel) (by decide +kernel)
set_option maxRecDepth 20000 in
theorem gX12_came_X12_isCell : GoodIn wsX12_came (wsV RX12 137 RX12 yX12_isCell wsX12_isCell) := goodIn_app (goodIn_m (cs := [911, 912, 913, 798]) ge_X12_came rfl (by decide +kernel) (by decide +kernel)) ggX12_came_X12_isCell
set_option maxRecDepth 20000 in
theorem ggX12_came_X12_isWay : GoodIn wsX12_came wsX12_isWay := goodIn_m ge_X12_came ge_X12_isWay (by decide +kernel) (by decide +kernel)
set_option maxRecDepth 20000 in
theorem gX12_came_X12_isWay : GoodIn wsX12_came (va_wsS RX12 166 yX12_isWay wsX12_isWay) := goodIn_app (goodIn_m (cs := [944, 945, 798]) ge_X12_came rfl (by decide +kernel) (by decide +kernel)) ggX12_came_X12_isWay
set_option maxRecDepth 20000 in
theorem ggX12_came_X12_isSheet : GoodIn wsX12_came wsX12_isSheet := goodIn_m ge_X12_came ge_X12_isSheet (by decide +kernel) (by decide +kernel)
set_option maxRecDepth 20000 in
theorem gX12_came_X12_isSheet : GoodIn wsX12_came (va_wsS RX12 251 yX12_isSheet wsX12_isSheet) := goodIn_app (goodIn_m (cs := [1048, 1049, 798]) ge_X12_came rfl (by decide +kernel) (by decide +kernel)) ggX12_came_X12_isSheet
set_option maxRecDepth 20000 in
theorem ggX12_came_X12_finds : GoodIn wsX12_came wsX12_finds := goodIn_m ge_X12_came ge_X12_finds (by decide +kernel) (by decide +kernel)
set_option maxRecDepth 20000 in
theorem gX12_came_X12_finds : GoodIn wsX12_came (wsV RX12 119 RX12 yX12_finds wsX12_finds) := goodIn_app (goodIn_m (cs := [889, 890, 891, 798]) ge_X12_came rfl (by decide +kernel) (by decide +kernel)) ggX12_came_X12_finds
set_option maxRecDepth 20000 in
theorem ggX12_came_X12_cells : GoodIn wsX12_came wsX12_cells := goodIn_m ge_X12_came ge_X12_cells (by decide +kernel) (by decide +kernel)
set_option maxRecDepth 20000 in
theorem gX12_came_X12_cells : GoodIn wsX12_came (wsV RX12 51 RX12 yX12_cells wsX12_cells) := goodIn_app (goodIn_m (cs := [827, 828, 829, 798]) ge_X12_came rfl (by decide +kernel) (by decide +kernel)) ggX12_came_X12_cells
set_option maxRecDepth 20000 in
theorem ggX12_came_X12_kindOf : GoodIn wsX12_came wsX12_kindOf := goodIn_m ge_X12_came ge_X12_kindOf (by decide +kernel) (by decide +kernel)
set_option maxRecDepth 20000 in
theorem gX12_came_X12_kindOf : GoodIn wsX12_came (wsV RX12 175 RX12 yX12_kindOf wsX12_kindOf) := goodIn_app (goodIn_m (cs := [954, 955, 956, 798]) ge_X12_came rfl (by decide +kernel) (by decide +kernel)) ggX12_came_X12_kindOf
set_option maxRecDepth 20000 in
theorem ggX12_came_X12_keepAside : GoodIn wsX12_came wsX12_keepAside := goodIn_m ge_X12_came ge_X12_keepAside (by decide +kernel) (by decide +kernel)
set_option maxRecDepth 20000 in
theorem gX12_came_X12_keepAside : GoodIn wsX12_came (wsV RX12 236 RX12 yX12_keepAside wsX12_keepAside) := goodIn_app (goodIn_m (cs := [1022, 1023, 1024, 798]) ge_X12_came rfl (by decide +kernel) (by decide +kernel)) ggX12_came_X12_keepAside
set_option maxRecDepth 20000 in
theorem ggX12_came_X12_strokes : GoodIn wsX12_came wsX12_strokes := goodIn_m ge_X12_came ge_X12_strokes (by decide +kernel) (by decide +kernel)
set_option maxRecDepth 20000 in
theorem gX12_came_X12_strokes : GoodIn wsX12_came (wsV RX12 205 RX12 yX12_strokes wsX12_strokes) := goodIn_app (goodIn_m (cs := [992, 993, 994, 798]) ge_X12_came rfl (by decide +kernel) (by decide +kernel)) ggX12_came_X12_strokes
set_option maxRecDepth 20000 in
theorem ggX12_came_X12_isAs : GoodIn wsX12_came wsX12_isAs := goodIn_m ge_X12_came ge_X12_isAs (by decide +kernel) (by decide +kernel)
set_option maxRecDepth 20000 in
theorem gX12_came_X12_isAs : GoodIn wsX12_came (wsV RX12 254 RX12 yX12_isAs wsX12_isAs) := goodIn_app (goodIn_m (cs := [1051, 1052, 1053, 798]) ge_X12_came rfl (by decide +kernel) (by decide +kernel)) ggX12_came_X12_isAs
set_option maxRecDepth 20000 in
theorem ggX12_came_X12_putBack : GoodIn wsX12_came wsX12_putBack := goodIn_m ge_X12_came ge_X12_putBack (by decide +kernel) (by decide +kernel)
set_option maxRecDepth 20000 in
theorem gX12_came_X12_putBack : GoodIn wsX12_came (wsV RX12 239 RX12 yX12_putBack wsX12_putBack) := goodIn_app (goodIn_m (cs := [1026, 1027, 1028, 798]) ge_X12_came rfl (by decide +kernel) (by decide +kernel)) ggX12_came_X12_putBack
set_option maxRecDepth 20000 in
theorem ggX12_odds_X12_isTool : GoodIn wsX12_odds wsX12_isTool := goodIn_m ge_X12_odds ge_X12_isTool (by decide +kernel) (by decide +kernel)
set_option maxRecDepth 20000 in
theorem gX12_odds_X12_isTool : GoodIn wsX12_odds (wsV RX12 180 RX12 yX12_isTool wsX12_isTool) := goodIn_app (goodIn_m (cs := [965, 966, 967, 798]) ge_X12_odds rfl (by decide +kernel) (by decide +kernel)) ggX12_odds_X12_isTool
set_option maxRecDepth 20000 in
theorem ggX12_odds_X12_isCell : GoodIn wsX12_odds wsX12_isCell := goodIn_m ge_X12_odds ge_X12_isCell (by decide +kernel) (by decide +kernel)
set_option maxRecDepth 20000 in
theorem gX12_odds_X12_isCell : GoodIn wsX12_odds (wsV RX12 137 RX12 yX12_isCell wsX12_isCell) := goodIn_app (goodIn_m (cs := [911, 912, 913, 798]) ge_X12_odds rfl (by decide +kernel) (by decide +kernel)) ggX12_odds_X12_isCell
set_option maxRecDepth 20000 in
theorem ggX12_odds_X12_in : GoodIn wsX12_odds wsX12_in := goodIn_m ge_X12_odds ge_X12_in (by decide +kernel) (by decide +kernel)
set_option maxRecDepth 20000 in
theorem gX12_odds_X12_in : GoodIn wsX12_odds (va_wsS RX12 55 yX12_in wsX12_in) := goodIn_app (goodIn_m (cs := [831, 832, 798]) ge_X12_odds rfl (by decide +kernel) (by decide +kernel)) ggX12_odds_X12_in
set_option maxRecDepth 20000 in
theorem ggX12_odds_X12_finds : GoodIn wsX12_odds wsX12_finds := goodIn_m ge_X12_odds ge_X12_finds (by decide +kernel) (by decide +kernel)
set_option maxRecDepth 20000 in
theorem gX12_odds_X12_finds : GoodIn wsX12_odds (wsV RX12 119 RX12 yX12_finds wsX12_finds) := goodIn_app (goodIn_m (cs := [889, 890, 891, 798]) ge_X12_odds rfl (by decide +kernel) (by decide +kernel)) ggX12_odds_X12_finds
set_option maxRecDepth 20000 in
theorem ggX12_odds_X12_keepAside : GoodIn wsX12_odds wsX12_keepAside := goodIn_m ge_X12_odds ge_X12_keepAside (by decide +kernel) (by decide +kernel)
set_option maxRecDepth 20000 in
theorem gX12_odds_X12_keepAside : GoodIn wsX12_odds (wsV RX12 236 RX12 yX12_keepAside wsX12_keepAside) := goodIn_app (goodIn_m (cs := [1022, 1023, 1024, 798]) ge_X12_odds rfl (by decide +kernel) (by decide +kernel)) ggX12_odds_X12_keepAside
set_option maxRecDepth 20000 in
theorem ggX12_odds_X12_strokes : GoodIn wsX12_odds wsX12_strokes := goodIn_m ge_X12_odds ge_X12_strokes (by decide +kernel) (by decide +kernel)
set_option maxRecDepth 20000 in
theorem gX12_odds_X12_strokes : GoodIn wsX12_odds (wsV RX12 205 RX12 yX12_strokes wsX12_strokes) := goodIn_app (goodIn_m (cs := [992, 993, 994, 798]) ge_X12_odds rfl (by decide +kernel) (by decide +kernel)) ggX12_odds_X12_strokes
set_option maxRecDepth 20000 in
theorem ggX12_odds_X12_seen : GoodIn wsX12_odds wsX12_seen := goodIn_m ge_X12_odds ge_X12_seen (by decide +kernel) (by decide +kernel)
set_option maxRecDepth 20000 in
theorem gX12_odds_X12_seen : GoodIn wsX12_odds (wsV RX12 153 RX12 yX12_seen wsX12_seen) := goodIn_app (goodIn_m (cs := [926, 927, 928, 798]) ge_X12_odds rfl (by decide +kernel) (by decide +kernel)) ggX12_odds_X12_seen
set_option maxRecDepth 20000 in
theorem ggX12_odds_X12_putBack : GoodIn wsX12_odds wsX12_putBack := goodIn_m ge_X12_odds ge_X12_putBack (by decide +kernel) (by decide +kernel)
set_option maxRecDepth 20000 in
theorem gX12_odds_X12_putBack : GoodIn wsX12_odds (wsV RX12 239 RX12 yX12_putBack wsX12_putBack) := goodIn_app (goodIn_m (cs := [1026, 1027, 1028, 798]) ge_X12_odds rfl (by decide +kernel) (by decide +kernel)) ggX12_odds_X12_putBack
set_option maxRecDepth 20000 in
theorem ggX12_own_X12_kindOf : GoodIn wsX12_own wsX12_kindOf := goodIn_m ge_X12_own ge_X12_kindOf (by decide +kernel) (by decide +kernel)
set_option maxRecDepth 20000 in
theorem gX12_own_X12_kindOf : GoodIn wsX12_own (wsV RX12 175 RX12 yX12_kindOf wsX12_kindOf) := goodIn_app (goodIn_m (cs := [954, 955, 956, 798]) ge_X12_own rfl (by decide +kernel) (by decide +kernel)) ggX12_own_X12_kindOf
set_option maxRecDepth 20000 in
theorem ggX12_movesBy_X12_ran : GoodIn wsX12_movesBy wsX12_ran := goodIn_m ge_X12_movesBy ge_X12_ran (by decide +kernel) (by decide +kernel)
set_option maxRecDepth 20000 in
theorem gX12_movesBy_X12_ran : GoodIn wsX12_movesBy (wsV RX12 265 RX12 yX12_ran wsX12_ran) := goodIn_app (goodIn_m (cs := [1059, 1060, 1061, 798]) ge_X12_movesBy rfl (by decide +kernel) (by decide +kernel)) ggX12_movesBy_X12_ran
set_option maxRecDepth 20000 in
theorem ggX12_movesBy_X12_above : GoodIn wsX12_movesBy wsX12_above := goodIn_m ge_X12_movesBy ge_X12_above (by decide +kernel) (by decide +kernel)
set_option maxRecDepth 20000 in
theorem gX12_movesBy_X12_above : GoodIn wsX12_movesBy (va_wsS RX12 197 yX12_above wsX12_above) := goodIn_app (goodIn_m (cs := [982, 983, 798]) ge_X12_movesBy rfl (by decide +kernel) (by decide +kernel)) ggX12_movesBy_X12_above
set_option maxRecDepth 20000 in
theorem ggX12_movesBy_X12_movesBy : GoodIn wsX12_movesBy wsX12_movesBy := goodIn_m ge_X12_movesBy ge_X12_movesBy (by decide +kernel) (by decide +kernel)
set_option maxRecDepth 20000 in
theorem gX12_movesBy_X12_movesBy : GoodIn wsX12_movesBy (wsV RX12 268 RX12 yX12_movesBy wsX12_movesBy) := goodIn_app (goodIn_m (cs := [1064, 1065, 1066, 798]) ge_X12_movesBy rfl (by decide +kernel) (by decide +kernel)) ggX12_movesBy_X12_movesBy
set_option maxRecDepth 20000 in
theorem ggX12_letsBy_X12_ran : GoodIn wsX12_letsBy wsX12_ran := goodIn_m ge_X12_letsBy ge_X12_ran (by decide +kernel) (by decide +kernel)
set_option maxRecDepth 20000 in
theorem gX12_letsBy_X12_ran : GoodIn wsX12_letsBy (wsV RX12 265 RX12 yX12_ran wsX12_ran) := goodIn_app (goodIn_m (cs := [1059, 1060, 1061, 798]) ge_X12_letsBy rfl (by decide +kernel) (by decide +kernel)) ggX12_letsBy_X12_ran
set_option maxRecDepth 20000 in
theorem ggX12_letsBy_X12_own : GoodIn wsX12_letsBy wsX12_own := goodIn_m ge_X12_letsBy ge_X12_own (by decide +kernel) (by decide +kernel)
set_option maxRecDepth 20000 in
theorem gX12_letsBy_X12_own : GoodIn wsX12_letsBy (wsV RX12 271 RX12 yX12_own wsX12_own) := goodIn_app (goodIn_m (cs := [1068, 1069, 1070, 798]) ge_X12_letsBy rfl (by decide +kernel) (by decide +kernel)) ggX12_letsBy_X12_own
set_option maxRecDepth 20000 in
theorem ggX12_letsBy_X12_movesBy : GoodIn wsX12_letsBy wsX12_movesBy := goodIn_m ge_X12_letsBy ge_X12_movesBy (by decide +kernel) (by decide +kernel)
set_option maxRecDepth 20000 in
theorem gX12_letsBy_X12_movesBy : GoodIn wsX12_letsBy (wsV RX12 268 RX12 yX12_movesBy wsX12_movesBy) := goodIn_app (goodIn_m (cs := [1064, 1065, 1066, 798]) ge_X12_letsBy rfl (by decide +kernel) (by decide +kernel)) ggX12_letsBy_X12_movesBy
set_option maxRecDepth 20000 in
theorem ggX12_letsBy_X12_above : GoodIn wsX12_letsBy wsX12_above := goodIn_m ge_X12_letsBy ge_X12_above (by decide +kernel) (by decide +kernel)
set_option maxRecDepth 20000 in
theorem gX12_letsBy_X12_above : GoodIn wsX12_letsBy (va_wsS RX12 197 yX12_above wsX12_above) := goodIn_app (goodIn_m (cs := [982, 983, 798]) ge_X12_letsBy rfl (by decide +kernel) (by decide +kernel)) ggX12_letsBy_X12_above
set_option maxRecDepth 20000 in
theorem ggX12_letsBy_X12_letsBy : GoodIn wsX12_letsBy wsX12_letsBy := goodIn_m ge_X12_letsBy ge_X12_letsBy (by decide +kernel) (by decide +kernel)
set_option maxRecDepth 20000 in
theorem gX12_letsBy_X12_letsBy : GoodIn wsX12_letsBy (wsV RX12 274 RX12 yX12_letsBy wsX12_letsBy) := goodIn_app (goodIn_m (cs := [1071, 1072, 1073, 798]) ge_X12_letsBy rfl (by decide +kernel) (by decide +kernel)) ggX12_letsBy_X12_letsBy
set_option maxRecDepth 20000 in
theorem ggX12_letsBy_X12_tearsBy : GoodIn wsX12_letsBy wsX12_tearsBy := goodIn_m ge_X12_letsBy ge_X12_tearsBy (by decide +kernel) (by decide +kernel)
set_option maxRecDepth 20000 in
theorem gX12_letsBy_X12_tearsBy : GoodIn wsX12_letsBy (wsV RX12 277 RX12 yX12_tearsBy wsX12_tearsBy) := goodIn_app (goodIn_m (cs := [1074, 1075, 1076, 798]) ge_X12_letsBy rfl (by decide +kernel) (by decide +kernel)) ggX12_letsBy_X12_tearsBy
set_option maxRecDepth 20000 in
theorem ggX12_tearsBy_X12_ran : GoodIn wsX12_tearsBy wsX12_ran := goodIn_m ge_X12_tearsBy ge_X12_ran (by decide +kernel) (by decide +kernel)
set_option maxRecDepth 20000 in
theorem gX12_tearsBy_X12_ran : GoodIn wsX12_tearsBy (wsV RX12 265 RX12 yX12_ran wsX12_ran) := goodIn_app (goodIn_m (cs := [1059, 1060, 1061, 798]) ge_X12_tearsBy rfl (by decide +kernel) (by decide +kernel)) ggX12_tearsBy_X12_ran
set_option maxRecDepth 20000 in
theorem ggX12_tearsBy_X12_numberOf : GoodIn wsX12_tearsBy wsX12_numberOf := goodIn_m ge_X12_tearsBy ge_X12_numberOf (by decide +kernel) (by decide +kernel)
set_option maxRecDepth 20000 in
theorem gX12_tearsBy_X12_numberOf : GoodIn wsX12_tearsBy (wsV RX12 147 RX12 yX12_numberOf wsX12_numberOf) := goodIn_app (goodIn_m (cs := [917, 918, 919, 798]) ge_X12_tearsBy rfl (by decide +kernel) (by decide +kernel)) ggX12_tearsBy_X12_numberOf
set_option maxRecDepth 20000 in
theorem ggX12_tearsBy_X12_above : GoodIn wsX12_tearsBy wsX12_above := goodIn_m ge_X12_tearsBy ge_X12_above (by decide +kernel) (by decide +kernel)
set_option maxRecDepth 20000 in
theorem gX12_tearsBy_X12_above : GoodIn wsX12_tearsBy (va_wsS RX12 197 yX12_above wsX12_above) := goodIn_app (goodIn_m (cs := [982, 983, 798]) ge_X12_tearsBy rfl (by decide +kernel) (by decide +kernel)) ggX12_tearsBy_X12_above
set_option maxRecDepth 20000 in
theorem ggX12_tearsBy_X12_tearsBy : GoodIn wsX12_tearsBy wsX12_tearsBy := goodIn_m ge_X12_tearsBy ge_X12_tearsBy (by decide +kernel) (by decide +kernel)
set_option maxRecDepth 20000 in
theorem gX12_tearsBy_X12_tearsBy : GoodIn wsX12_tearsBy (wsV RX12 277 RX12 yX12_tearsBy wsX12_tearsBy) := goodIn_app (goodIn_m (cs := [1074, 1075, 1076, 798]) ge_X12_tearsBy rfl (by decide +kernel) (by decide +kernel)) ggX12_tearsBy_X12_tearsBy
set_option maxRecDepth 20000 in
theorem ggX12_tellsBy_X12_ran : GoodIn wsX12_tellsBy wsX12_ran := goodIn_m ge_X12_tellsBy ge_X12_ran (by decide +kernel) (by decide +kernel)
set_option maxRecDepth 20000 in
theorem gX12_tellsBy_X12_ran : GoodIn wsX12_tellsBy (wsV RX12 265 RX12 yX12_ran wsX12_ran) := goodIn_app (goodIn_m (cs := [1059, 1060, 1061, 798]) ge_X12_tellsBy rfl (by decide +kernel) (by decide +kernel)) ggX12_tellsBy_X12_ran
set_option maxRecDepth 20000 in
theorem ggX12_tellsBy_X12_own : GoodIn wsX12_tellsBy wsX12_own := goodIn_m ge_X12_tellsBy ge_X12_own (by decide +kernel) (by decide +kernel)
set_option maxRecDepth 20000 in
theorem gX12_tellsBy_X12_own : GoodIn wsX12_tellsBy (wsV RX12 271 RX12 yX12_own wsX12_own) := goodIn_app (goodIn_m (cs := [1068, 1069, 1070, 798]) ge_X12_tellsBy rfl (by decide +kernel) (by decide +kernel)) ggX12_tellsBy_X12_own
set_option maxRecDepth 20000 in
theorem ggX12_tellsBy_X12_letsBy : GoodIn wsX12_tellsBy wsX12_letsBy := goodIn_m ge_X12_tellsBy ge_X12_letsBy (by decide +kernel) (by decide +kernel)
set_option maxRecDepth 20000 in
theorem gX12_tellsBy_X12_letsBy : GoodIn wsX12_tellsBy (wsV RX12 274 RX12 yX12_letsBy wsX12_letsBy) := goodIn_app (goodIn_m (cs := [1071, 1072, 1073, 798]) ge_X12_tellsBy rfl (by decide +kernel) (by decide +kernel)) ggX12_tellsBy_X12_letsBy
set_option maxRecDepth 20000 in
theorem ggX12_tellsBy_X12_tearsBy : GoodIn wsX12_tellsBy wsX12_tearsBy := goodIn_m ge_X12_tellsBy ge_X12_tearsBy (by decide +kernel) (by decide +kernel)
set_option maxRecDepth 20000 in
theorem gX12_tellsBy_X12_tearsBy : GoodIn wsX12_tellsBy (wsV RX12 277 RX12 yX12_tearsBy wsX12_tearsBy) := goodIn_app (goodIn_m (cs := [1074, 1075, 1076, 798]) ge_X12_tellsBy rfl (by decide +kernel) (by decide +kernel)) ggX12_tellsBy_X12_tearsBy
set_option maxRecDepth 20000 in
theorem ggX12_tellsBy_X12_above : GoodIn wsX12_tellsBy wsX12_above := goodIn_m ge_X12_tellsBy ge_X12_above (by decide +kernel) (by decide +kernel)
set_option maxRecDepth 20000 in
theorem gX12_tellsBy_X12_above : GoodIn wsX12_tellsBy (va_wsS RX12 197 yX12_above wsX12_above) := goodIn_app (goodIn_m (cs := [982, 983, 798]) ge_X12_tellsBy rfl (by decide +kernel) (by decide +kernel)) ggX12_tellsBy_X12_above
set_option maxRecDepth 20000 in
theorem ggX12_tellsBy_X12_tellsBy : GoodIn wsX12_tellsBy wsX12_tellsBy := goodIn_m ge_X12_tellsBy ge_X12_tellsBy (by decide +kernel) (by decide +kernel)
set_option maxRecDepth 20000 in
theorem gX12_tellsBy_X12_tellsBy : GoodIn wsX12_tellsBy (wsV RX12 280 RX12 yX12_tellsBy wsX12_tellsBy) := goodIn_app (goodIn_m (cs := [1079, 1080, 1081, 798]) ge_X12_tellsBy rfl (by decide +kernel) (by decide +kernel)) ggX12_tellsBy_X12_tellsBy
set_option maxRecDepth 20000 in
theorem ggX12_tellsBy_X12_movesBy : GoodIn wsX12_tellsBy wsX12_movesBy := goodIn_m ge_X12_tellsBy ge_X12_movesBy (by decide +kernel) (by decide +kernel)
set_option maxRecDepth 20000 in
theorem gX12_tellsBy_X12_movesBy : GoodIn wsX12_tellsBy (wsV RX12 268 RX12 yX12_movesBy wsX12_movesBy) := goodIn_app (goodIn_m (cs := [1064, 1065, 1066, 798]) ge_X12_tellsBy rfl (by decide +kernel) (by decide +kernel)) ggX12_tellsBy_X12_movesBy
set_option maxRecDepth 20000 in
theorem ggX12_voice_X12_isTool : GoodIn wsX12_voice wsX12_isTool := goodIn_m ge_X12_voice ge_X12_isTool (by decide +kernel) (by decide +kernel)
set_option maxRecDepth 20000 in
theorem gX12_voice_X12_isTool : GoodIn wsX12_voice (wsV RX12 180 RX12 yX12_isTool wsX12_isTool) := goodIn_app (goodIn_m (cs := [965, 966, 967, 798]) ge_X12_voice rfl (by decide +kernel) (by decide +kernel)) ggX12_voice_X12_isTool
set_option maxRecDepth 20000 in
theorem ggX12_voice_X12_in : GoodIn wsX12_voice wsX12_in := goodIn_m ge_X12_voice ge_X12_in (by decide +kernel) (by decide +kernel)
set_option maxRecDepth 20000 in
theorem gX12_voice_X12_in : GoodIn wsX12_voice (va_wsS RX12 55 yX12_in wsX12_in) := goodIn_app (goodIn_m (cs := [831, 832, 798]) ge_X12_voice rfl (by decide +kernel) (by decide +kernel)) ggX12_voice_X12_in
set_option maxRecDepth 20000 in
theorem ggX12_voice_X12_finds : GoodIn wsX12_voice wsX12_finds := goodIn_m ge_X12_voice ge_X12_finds (by decide +kernel) (by decide +kernel)
set_option maxRecDepth 20000 in
theorem gX12_voice_X12_finds : GoodIn wsX12_voice (wsV RX12 119 RX12 yX12_finds wsX12_finds) := goodIn_app (goodIn_m (cs := [889, 890, 891, 798]) ge_X12_voice rfl (by decide +kernel) (by decide +kernel)) ggX12_voice_X12_finds
set_option maxRecDepth 20000 in
theorem ggX12_voice_X12_own : GoodIn wsX12_voice wsX12_own := goodIn_m ge_X12_voice ge_X12_own (by decide +kernel) (by decide +kernel)
set_option maxRecDepth 20000 in
theorem gX12_voice_X12_own : GoodIn wsX12_voice (wsV RX12 271 RX12 yX12_own wsX12_own) := goodIn_app (goodIn_m (cs := [1068, 1069, 1070, 798]) ge_X12_voice rfl (by decide +kernel) (by decide +kernel)) ggX12_voice_X12_own
set_option maxRecDepth 20000 in
theorem ggX12_voice_X12_movesBy : GoodIn wsX12_voice wsX12_movesBy := goodIn_m ge_X12_voice ge_X12_movesBy (by decide +kernel) (by decide +kernel)
set_option maxRecDepth 20000 in
theorem gX12_voice_X12_movesBy : GoodIn wsX12_voice (wsV RX12 268 RX12 yX12_movesBy wsX12_movesBy) := goodIn_app (goodIn_m (cs := [1064, 1065, 1066, 798]) ge_X12_voice rfl (by decide +kernel) (by decide +kernel)) ggX12_voice_X12_movesBy
set_option maxRecDepth 20000 in
theorem ggX12_voice_X12_letsBy : GoodIn wsX12_voice wsX12_letsBy := goodIn_m ge_X12_voice ge_X12_letsBy (by decide +kernel) (by decide +kernel)
set_option maxRecDepth 20000 in
theorem gX12_voice_X12_letsBy : GoodIn wsX12_voice (wsV RX12 274 RX12 yX12_letsBy wsX12_letsBy) := goodIn_app (goodIn_m (cs := [1071, 1072, 1073, 798]) ge_X12_voice rfl (by decide +kernel) (by decide +kernel)) ggX12_voice_X12_letsBy
set_option maxRecDepth 20000 in
theorem ggX12_voice_X12_tearsBy : GoodIn wsX12_voice wsX12_tearsBy := goodIn_m ge_X12_voice ge_X12_tearsBy (by decide +kernel) (by decide +kernel)
set_option maxRecDepth 20000 in
theorem gX12_voice_X12_tearsBy : GoodIn wsX12_voice (wsV RX12 277 RX12 yX12_tearsBy wsX12_tearsBy) := goodIn_app (goodIn_m (cs := [1074, 1075, 1076, 798]) ge_X12_voice rfl (by decide +kernel) (by decide +kernel)) ggX12_voice_X12_tearsBy
set_option maxRecDepth 20000 in
theorem ggX12_voice_X12_tellsBy : GoodIn wsX12_voice wsX12_tellsBy := goodIn_m ge_X12_voice ge_X12_tellsBy (by decide +kernel) (by decide +kernel)
set_option maxRecDepth 20000 in
theorem gX12_voice_X12_tellsBy : GoodIn wsX12_voice (wsV RX12 280 RX12 yX12_tellsBy wsX12_tellsBy) := goodIn_app (goodIn_m (cs := [1079, 1080, 1081, 798]) ge_X12_voice rfl (by decide +kernel) (by decide +kernel)) ggX12_voice_X12_tellsBy
set_option maxRecDepth 20000 in
theorem ggX12_trace_X12_in : GoodIn wsX12_trace wsX12_in := goodIn_m ge_X12_trace ge_X12_in (by decide +kernel) (by decide +kernel)
set_option maxRecDepth 20000 in
theorem gX12_trace_X12_in : GoodIn wsX12_trace (va_wsS RX12 55 yX12_in wsX12_in) := goodIn_app (goodIn_m (cs := [831, 832, 798]) ge_X12_trace rfl (by decide +kernel) (by decide +kernel)) ggX12_trace_X12_in
set_option maxRecDepth 20000 in
theorem ggX12_trace_X12_finds : GoodIn wsX12_trace wsX12_finds := goodIn_m ge_X12_trace ge_X12_finds (by decide +kernel) (by decide +kernel)
set_option maxRecDepth 20000 in
theorem gX12_trace_X12_finds : GoodIn wsX12_trace (wsV RX12 119 RX12 yX12_finds wsX12_finds) := goodIn_app (goodIn_m (cs := [889, 890, 891, 798]) ge_X12_trace rfl (by decide +kernel) (by decide +kernel)) ggX12_trace_X12_finds
set_option maxRecDepth 20000 in
theorem ggX12_isSheet_X12_in : GoodIn wsX12_isSheet wsX12_in := goodIn_m ge_X12_isSheet ge_X12_in (by decide +kernel) (by decide +kernel)
set_option maxRecDepth 20000 in
theorem gX12_isSheet_X12_in : GoodIn wsX12_isSheet (va_wsS RX12 55 yX12_in wsX12_in) := goodIn_app (goodIn_m (cs := [831, 832, 798]) ge_X12_isSheet rfl (by decide +kernel) (by decide +kernel)) ggX12_isSheet_X12_in
set_option maxRecDepth 20000 in
theorem ggX12_sheet_X12_isSheet : GoodIn wsX12_sheet wsX12_isSheet := goodIn_m ge_X12_sheet ge_X12_isSheet (by decide +kernel) (by decide +kernel)
set_option maxRecDepth 20000 in
theorem gX12_sheet_X12_isSheet : GoodIn wsX12_sheet (va_wsS RX12 251 yX12_isSheet wsX12_isSheet) := goodIn_app (goodIn_m (cs := [1048, 1049, 798]) ge_X12_sheet rfl (by decide +kernel) (by decide +kernel)) ggX12_sheet_X12_isSheet
set_option maxRecDepth 20000 in
theorem ggX12_sheet_X12_finds : GoodIn wsX12_sheet wsX12_finds := goodIn_m ge_X12_sheet ge_X12_finds (by decide +kernel) (by decide +kernel)
set_option maxRecDepth 20000 in
theorem gX12_sheet_X12_finds : GoodIn wsX12_sheet (wsV RX12 119 RX12 yX12_finds wsX12_finds) := goodIn_app (goodIn_m (cs := [889, 890, 891, 798]) ge_X12_sheet rfl (by decide +kernel) (by decide +kernel)) ggX12_sheet_X12_finds
set_option maxRecDepth 20000 in
theorem ggX12_put_X12_isSheet : GoodIn wsX12_put wsX12_isSheet := goodIn_m ge_X12_put ge_X12_isSheet (by decide +kernel) (by decide +kernel)
set_option maxRecDepth 20000 in
theorem gX12_put_X12_isSheet : GoodIn wsX12_put (va_wsS RX12 251 yX12_isSheet wsX12_isSheet) := goodIn_app (goodIn_m (cs := [1048, 1049, 798]) ge_X12_put rfl (by decide +kernel) (by decide +kernel)) ggX12_put_X12_isSheet
set_option maxRecDepth 20000 in
theorem ggX12_put_X12_finds : GoodIn wsX12_put wsX12_finds := goodIn_m ge_X12_put ge_X12_finds (by decide +kernel) (by decide +kernel)
set_option maxRecDepth 20000 in
theorem gX12_put_X12_finds : GoodIn wsX12_put (wsV RX12 119 RX12 yX12_finds wsX12_finds) := goodIn_app (goodIn_m (cs := [889, 890, 891, 798]) ge_X12_put rfl (by decide +kernel) (by decide +kernel)) ggX12_put_X12_finds
set_option maxRecDepth 20000 in
theorem ggX12_put_X12_in : GoodIn wsX12_put wsX12_in := goodIn_m ge_X12_put ge_X12_in (by decide +kernel) (by decide +kernel)
set_option maxRecDepth 20000 in
theorem gX12_put_X12_in : GoodIn wsX12_put (va_wsS RX12 55 yX12_in wsX12_in) := goodIn_app (goodIn_m (cs := [831, 832, 798]) ge_X12_put rfl (by decide +kernel) (by decide +kernel)) ggX12_put_X12_in
set_option maxRecDepth 20000 in
theorem ggX12_move_X12_isSheet : GoodIn wsX12_move wsX12_isSheet := goodIn_m ge_X12_move ge_X12_isSheet (by decide +kernel) (by decide +kernel)
set_option maxRecDepth 20000 in
theorem gX12_move_X12_isSheet : GoodIn wsX12_move (va_wsS RX12 251 yX12_isSheet wsX12_isSheet) := goodIn_app (goodIn_m (cs := [1048, 1049, 798]) ge_X12_move rfl (by decide +kernel) (by decide +kernel)) ggX12_move_X12_isSheet
set_option maxRecDepth 20000 in
theorem ggX12_move_X12_finds : GoodIn wsX12_move wsX12_finds := goodIn_m ge_X12_move ge_X12_finds (by decide +kernel) (by decide +kernel)
set_option maxRecDepth 20000 in
theorem gX12_move_X12_finds : GoodIn wsX12_move (wsV RX12 119 RX12 yX12_finds wsX12_finds) := goodIn_app (goodIn_m (cs := [889, 890, 891, 798]) ge_X12_move rfl (by decide +kernel) (by decide +kernel)) ggX12_move_X12_finds
set_option maxRecDepth 20000 in
theorem ggX12_airs_X12_isSheet : GoodIn wsX12_airs wsX12_isSheet := goodIn_m ge_X12_airs ge_X12_isSheet (by decide +kernel) (by decide +kernel)
set_option maxRecDepth 20000 in
theorem gX12_airs_X12_isSheet : GoodIn wsX12_airs (va_wsS RX12 251 yX12_isSheet wsX12_isSheet) := goodIn_app (goodIn_m (cs := [1048, 1049, 798]) ge_X12_airs rfl (by decide +kernel) (by decide +kernel)) ggX12_airs_X12_isSheet
set_option maxRecDepth 20000 in
theorem ggX12_airs_X12_finds : GoodIn wsX12_airs wsX12_finds := goodIn_m ge_X12_airs ge_X12_finds (by decide +kernel) (by decide +kernel)
set_option maxRecDepth 20000 in
theorem gX12_airs_X12_finds : GoodIn wsX12_airs (wsV RX12 119 RX12 yX12_finds wsX12_finds) := goodIn_app (goodIn_m (cs := [889, 890, 891, 798]) ge_X12_airs rfl (by decide +kernel) (by decide +kernel)) ggX12_airs_X12_finds
set_option maxRecDepth 20000 in
theorem ggX12_airs_X12_cells : GoodIn wsX12_airs wsX12_cells := goodIn_m ge_X12_airs ge_X12_cells (by decide +kernel) (by decide +kernel)
set_option maxRecDepth 20000 in
theorem gX12_airs_X12_cells : GoodIn wsX12_airs (wsV RX12 51 RX12 yX12_cells wsX12_cells) := goodIn_app (goodIn_m (cs := [827, 828, 829, 798]) ge_X12_airs rfl (by decide +kernel) (by decide +kernel)) ggX12_airs_X12_cells
set_option maxRecDepth 20000 in
theorem ggX12_airs_X12_in : GoodIn wsX12_airs wsX12_in := goodIn_m ge_X12_airs ge_X12_in (by decide +kernel) (by decide +kernel)
set_option maxRecDepth 20000 in
theorem gX12_airs_X12_in : GoodIn wsX12_airs (va_wsS RX12 55 yX12_in wsX12_in) := goodIn_app (goodIn_m (cs := [831, 832, 798]) ge_X12_airs rfl (by decide +kernel) (by decide +kernel)) ggX12_airs_X12_in
set_option maxRecDepth 20000 in
theorem ggX12_judge_X12_isSheet : GoodIn wsX12_judge wsX12_isSheet := goodIn_m ge_X12_judge ge_X12_isSheet (by decide +kernel) (by decide +kernel)
set_option maxRecDepth 20000 in
theorem gX12_judge_X12_isSheet : GoodIn wsX12_judge (va_wsS RX12 251 yX12_isSheet wsX12_isSheet) := goodIn_app (goodIn_m (cs := [1048, 1049, 798]) ge_X12_judge rfl (by decide +kernel) (by decide +kernel)) ggX12_judge_X12_isSheet
set_option maxRecDepth 20000 in
theorem ggX12_judge_X12_finds : GoodIn wsX12_judge wsX12_finds := goodIn_m ge_X12_judge ge_X12_finds (by decide +kernel) (by decide +kernel)
set_option maxRecDepth 20000 in
theorem gX12_judge_X12_finds : GoodIn wsX12_judge (wsV RX12 119 RX12 yX12_finds wsX12_finds) := goodIn_app (goodIn_m (cs := [889, 890, 891, 798]) ge_X12_judge rfl (by decide +kernel) (by decide +kernel)) ggX12_judge_X12_finds
set_option maxRecDepth 20000 in
theorem ggX12_judge_X12_cells : GoodIn wsX12_judge wsX12_cells := goodIn_m ge_X12_judge ge_X12_cells (by decide +kernel) (by decide +kernel)
set_option maxRecDepth 20000 in
theorem gX12_judge_X12_cells : GoodIn wsX12_judge (wsV RX12 51 RX12 yX12_cells wsX12_cells) := goodIn_app (goodIn_m (cs := [827, 828, 829, 798]) ge_X12_judge rfl (by decide +kernel) (by decide +kernel)) ggX12_judge_X12_cells
set_option maxRecDepth 20000 in
theorem ggX12_restore_X12_finds : GoodIn wsX12_restore wsX12_finds := goodIn_m ge_X12_restore ge_X12_finds (by decide +kernel) (by decide +kernel)
set_option maxRecDepth 20000 in
theorem gX12_restore_X12_finds : GoodIn wsX12_restore (wsV RX12 119 RX12 yX12_finds wsX12_finds) := goodIn_app (goodIn_m (cs := [889, 890, 891, 798]) ge_X12_restore rfl (by decide +kernel) (by decide +kernel)) ggX12_restore_X12_finds
set_option maxRecDepth 20000 in
theorem ggX12_tell_X12_finds : GoodIn wsX12_tell wsX12_finds := goodIn_m ge_X12_tell ge_X12_finds (by decide +kernel) (by decide +kernel)
set_option maxRecDepth 20000 in
theorem gX12_tell_X12_finds : GoodIn wsX12_tell (wsV RX12 119 RX12 yX12_finds wsX12_finds) := goodIn_app (goodIn_m (cs := [889, 890, 891, 798]) ge_X12_tell rfl (by decide +kernel) (by decide +kernel)) ggX12_tell_X12_finds
set_option maxRecDepth 20000 in
theorem ggX12_check_X12_keepAside : GoodIn wsX12_check wsX12_keepAside := goodIn_m ge_X12_check ge_X12_keepAside (by decide +kernel) (by decide +kernel)
set_option maxRecDepth 20000 in
theorem gX12_check_X12_keepAside : GoodIn wsX12_check (wsV RX12 236 RX12 yX12_keepAside wsX12_keepAside) := goodIn_app (goodIn_m (cs := [1022, 1023, 1024, 798]) ge_X12_check rfl (by decide +kernel) (by decide +kernel)) ggX12_check_X12_keepAside
set_option maxRecDepth 20000 in
theorem ggX12_check_X12_nightGoes : GoodIn wsX12_check wsX12_nightGoes := goodIn_m ge_X12_check ge_X12_nightGoes (by decide +kernel) (by decide +kernel)
set_option maxRecDepth 20000 in
theorem gX12_check_X12_nightGoes : GoodIn wsX12_check (wsV RX12 211 RX12 yX12_nightGoes wsX12_nightGoes) := goodIn_app (goodIn_m (cs := [998, 999, 1000, 798]) ge_X12_check rfl (by decide +kernel) (by decide +kernel)) ggX12_check_X12_nightGoes
set_option maxRecDepth 20000 in
theorem ggX12_check_X12_allAir : GoodIn wsX12_check wsX12_allAir := goodIn_m ge_X12_check ge_X12_allAir (by decide +kernel) (by decide +kernel)
set_option maxRecDepth 20000 in
theorem gX12_check_X12_allAir : GoodIn wsX12_check (wsV RX12 214 RX12 yX12_allAir wsX12_allAir) := goodIn_app (goodIn_m (cs := [1001, 1002, 1003, 798]) ge_X12_check rfl (by decide +kernel) (by decide +kernel)) ggX12_check_X12_allAir
set_option maxRecDepth 20000 in
theorem ggX12_check_X12_putBack : GoodIn wsX12_check wsX12_putBack := goodIn_m ge_X12_check ge_X12_putBack (by decide +kernel) (by decide +kernel)
set_option maxRecDepth 20000 in
theorem gX12_check_X12_putBack : GoodIn wsX12_check (wsV RX12 239 RX12 yX12_putBack wsX12_putBack) := goodIn_app (goodIn_m (cs := [1026, 1027, 1028, 798]) ge_X12_check rfl (by decide +kernel) (by decide +kernel)) ggX12_check_X12_putBack
set_option maxRecDepth 20000 in
theorem ggX12_count_X12_cells : GoodIn wsX12_count wsX12_cells := goodIn_m ge_X12_count ge_X12_cells (by decide +kernel) (by decide +kernel)
set_option maxRecDepth 20000 in
theorem gX12_count_X12_cells : GoodIn wsX12_count (wsV RX12 51 RX12 yX12_cells wsX12_cells) := goodIn_app (goodIn_m (cs := [827, 828, 829, 798]) ge_X12_count rfl (by decide +kernel) (by decide +kernel)) ggX12_count_X12_cells
set_option maxRecDepth 20000 in
theorem ggX12_count_X12_allAir : GoodIn wsX12_count wsX12_allAir := goodIn_m ge_X12_count ge_X12_allAir (by decide +kernel) (by decide +kernel)
set_option maxRecDepth 20000 in
theorem gX12_count_X12_allAir : GoodIn wsX12_count (wsV RX12 214 RX12 yX12_allAir wsX12_allAir) := goodIn_app (goodIn_m (cs := [1001, 1002, 1003, 798]) ge_X12_count rfl (by decide +kernel) (by decide +kernel)) ggX12_count_X12_allAir
set_option maxRecDepth 20000 in
theorem ggX12_count_X12_finds : GoodIn wsX12_count wsX12_finds := goodIn_m ge_X12_count ge_X12_finds (by decide +kernel) (by decide +kernel)
set_option maxRecDepth 20000 in
theorem gX12_count_X12_finds : GoodIn wsX12_count (wsV RX12 119 RX12 yX12_finds wsX12_finds) := goodIn_app (goodIn_m (cs := [889, 890, 891, 798]) ge_X12_count rfl (by decide +kernel) (by decide +kernel)) ggX12_count_X12_finds
set_option maxRecDepth 20000 in
theorem ggX12_told_X12_in : GoodIn wsX12_told wsX12_in := goodIn_m ge_X12_told ge_X12_in (by decide +kernel) (by decide +kernel)
set_option maxRecDepth 20000 in
theorem gX12_told_X12_in : GoodIn wsX12_told (va_wsS RX12 55 yX12_in wsX12_in) := goodIn_app (goodIn_m (cs := [831, 832, 798]) ge_X12_told rfl (by decide +kernel) (by decide +kernel)) ggX12_told_X12_in
set_option maxRecDepth 20000 in
theorem ggX12_told_X12_finds : GoodIn wsX12_told wsX12_finds := goodIn_m ge_X12_told ge_X12_finds (by decide +kernel) (by decide +kernel)
set_option maxRecDepth 20000 in
theorem gX12_told_X12_finds : GoodIn wsX12_told (wsV RX12 119 RX12 yX12_finds wsX12_finds) := goodIn_app (goodIn_m (cs := [889, 890, 891, 798]) ge_X12_told rfl (by decide +kernel) (by decide +kernel)) ggX12_told_X12_finds
set_option maxRecDepth 20000 in
theorem ggJ0_length_8abf5_J0_coder_7d493 : GoodIn wsJ0_length_8abf5 wsJ0_coder_7d493 := goodIn_m ge_J0_length_8abf5 ge_J0_coder_7d493 (by decide +kernel) (by decide +kernel)
set_option maxRecDepth 20000 in
theorem gJ0_length_8abf5_J0_coder_7d493 : GoodIn wsJ0_length_8abf5 (wsV RJ0 335 RJ0 yJ0_coder_7d493 wsJ0_coder_7d493) := goodIn_app (goodIn_m (cs := [197, 198, 199, 180]) ge_J0_length_8abf5 rfl (by decide +kernel) (by decide +kernel)) ggJ0_length_8abf5_J0_coder_7d493
set_option maxRecDepth 20000 in
theorem ggJ0_indexOf_0f7a4_J0_indexOf_7cf53 : GoodIn wsJ0_indexOf_0f7a4 wsJ0_indexOf_7cf53 := goodIn_m ge_J0_indexOf_0f7a4 ge_J0_indexOf_7cf53 (by decide +kernel) (by decide +kernel)
set_option maxRecDepth 20000 in
theorem gJ0_indexOf_0f7a4_J0_indexOf_7cf53 : GoodIn wsJ0_indexOf_0f7a4 (wsV RJ0 633 RJ0 yJ0_indexOf_7cf53 wsJ0_indexOf_7cf53) := goodIn_app (goodIn_m (cs := [182, 183, 184, 180]) ge_J0_indexOf_0f7a4 rfl (by decide +kernel) (by decide +kernel)) ggJ0_indexOf_0f7a4_J0_indexOf_7cf53
set_option maxRecDepth 20000 in
theorem ggJ0_indexOf_7cf53_J0_isLatin1_aae02 : GoodIn wsJ0_indexOf_7cf53 wsJ0_isLatin1_aae02 := goodIn_m ge_J0_indexOf_7cf53 ge_J0_isLatin1_aae02 (by decide +kernel) (by decide +kernel)
set_option maxRecDepth 20000 in
theorem gJ0_indexOf_7cf53_J0_isLatin1_aae02 : GoodIn wsJ0_indexOf_7cf53 (wsV RJ0 492 RJ0 yJ0_isLatin1_aae02 wsJ0_isLatin1_aae02) := goodIn_app (goodIn_m (cs := [187, 188, 189, 180]) ge_J0_indexOf_7cf53 rfl (by decide +kernel) (by decide +kernel)) ggJ0_indexOf_7cf53_J0_isLatin1_aae02
set_option maxRecDepth 20000 in
theorem ggJ0_indexOf_7cf53_J0_length_8abf5 : GoodIn wsJ0_indexOf_7cf53 wsJ0_length_8abf5 := goodIn_m ge_J0_indexOf_7cf53 ge_J0_length_8abf5 (by decide +kernel) (by decide +kernel)
set_option maxRecDepth 20000 in
theorem gJ0_indexOf_7cf53_J0_length_8abf5 : GoodIn wsJ0_indexOf_7cf53 (wsV RJ0 505 RJ0 yJ0_length_8abf5 wsJ0_length_8abf5) := goodIn_app (goodIn_m (cs := [193, 194, 195, 180]) ge_J0_indexOf_7cf53 rfl (by decide +kernel) (by decide +kernel)) ggJ0_indexOf_7cf53_J0_length_8abf5
set_option maxRecDepth 20000 in
theorem ggJ0_indexOf_7cf53_J1_indexOf_4cfef : GoodIn wsJ0_indexOf_7cf53 wsJ1_indexOf_4cfef := goodIn_m ge_J0_indexOf_7cf53 ge_J1_indexOf_4cfef (by decide +kernel) (by decide +kernel)
set_option maxRecDepth 20000 in
theorem gJ0_indexOf_7cf53_J1_indexOf_4cfef : GoodIn wsJ0_indexOf_7cf53 (va_wsS RJ0 637 yJ1_indexOf_4cfef wsJ1_indexOf_4cfef) := goodIn_app (goodIn_m (cs := [201, 202, 203]) ge_J0_indexOf_7cf53 rfl (by decide +kernel) (by decide +kernel)) ggJ0_indexOf_7cf53_J1_indexOf_4cfef
set_option maxRecDepth 20000 in
theorem ggJ0_indexOf_7cf53_J2_indexOf_4cfef : GoodIn wsJ0_indexOf_7cf53 wsJ2_indexOf_4cfef := goodIn_m ge_J0_indexOf_7cf53 ge_J2_indexOf_4cfef (by decide +kernel) (by decide +kernel)
set_option maxRecDepth 20000 in
theorem gJ0_indexOf_7cf53_J2_indexOf_4cfef : GoodIn wsJ0_indexOf_7cf53 (va_wsS RJ0 640 yJ2_indexOf_4cfef wsJ2_indexOf_4cfef) := goodIn_app (goodIn_m (cs := [213, 214, 215]) ge_J0_indexOf_7cf53 rfl (by decide +kernel) (by decide +kernel)) ggJ0_indexOf_7cf53_J2_indexOf_4cfef
set_option maxRecDepth 20000 in
theorem ggJ0_checkBoundsBeginEnd_23922_J3_checkFromToIndex_8c36e : GoodIn wsJ0_checkBoundsBeginEnd_23922 wsJ3_checkFromToIndex_8c36e := goodIn_m ge_J0_checkBoundsBeginEnd_23922 ge_J3_checkFromToIndex_8c36e (by decide +kernel) (by decide +kernel)
set_option maxRecDepth 20000 in
theorem gJ0_checkBoundsBeginEnd_23922_J3_checkFromToIndex_8c36e : GoodIn wsJ0_checkBoundsBeginEnd_23922 (va_wsS RJ0 1062 yJ3_checkFromToIndex_8c36e wsJ3_checkFromToIndex_8c36e) := goodIn_app (goodIn_m (cs := [233, 234, 235]) ge_J0_checkBoundsBeginEnd_23922 rfl (by decide +kernel) (by decide +kernel)) ggJ0_checkBoundsBeginEnd_23922_J3_checkFromToIndex_8c36e
set_option maxRecDepth 20000 in
theorem ggJ1_indexOf_4cfef_J1_canEncode_9a6ad : GoodIn wsJ1_indexOf_4cfef wsJ1_canEncode_9a6ad := goodIn_m ge_J1_indexOf_4cfef ge_J1_canEncode_9a6ad (by decide +kernel) (by decide +kernel)
set_option maxRecDepth 20000 in
theorem gJ1_indexOf_4cfef_J1_canEncode_9a6ad : GoodIn wsJ1_indexOf_4cfef (va_wsS RJ1 88 yJ1_canEncode_9a6ad wsJ1_canEncode_9a6ad) := goodIn_app (goodIn_m (cs := [207, 208, 203]) ge_J1_indexOf_4cfef rfl (by decide +kernel) (by decide +kernel)) ggJ1_indexOf_4cfef_J1_canEncode_9a6ad
set_option maxRecDepth 20000 in
theorem ggJ1_indexOf_4cfef_J1_indexOfChar_4cfef : GoodIn wsJ1_indexOf_4cfef wsJ1_indexOfChar_4cfef := goodIn_m ge_J1_indexOf_4cfef ge_J1_indexOfChar_4cfef (by decide +kernel) (by decide +kernel)
set_option maxRecDepth 20000 in
theorem gJ1_indexOf_4cfef_J1_indexOfChar_4cfef : GoodIn wsJ1_indexOf_4cfef (va_wsS RJ1 95 yJ1_indexOfChar_4cfef wsJ1_indexOfChar_4cfef) := goodIn_app (goodIn_m (cs := [210, 211, 203]) ge_J1_indexOf_4cfef rfl (by decide +kernel) (by decide +kernel)) ggJ1_indexOf_4cfef_J1_indexOfChar_4cfef
set_option maxRecDepth 20000 in
theorem ggJ2_getChar_3b067_J2_length_9d52b : GoodIn wsJ2_getChar_3b067 wsJ2_length_9d52b := goodIn_m ge_J2_getChar_3b067 ge_J2_length_9d52b (by decide +kernel) (by decide +kernel)
set_option maxRecDepth 20000 in
theorem gJ2_getChar_3b067_J2_length_9d52b : GoodIn wsJ2_getChar_3b067 (va_wsS RJ2 48 yJ2_length_9d52b wsJ2_length_9d52b) := goodIn_app (goodIn_m (cs := [226, 227, 215]) ge_J2_getChar_3b067 rfl (by decide +kernel) (by decide +kernel)) ggJ2_getChar_3b067_J2_length_9d52b
set_option maxRecDepth 20000 in
theorem ggJ2_indexOf_4cfef_J2_indexOfChar_4cfef : GoodIn wsJ2_indexOf_4cfef wsJ2_indexOfChar_4cfef := goodIn_m ge_J2_indexOf_4cfef ge_J2_indexOfChar_4cfef (by decide +kernel) (by decide +kernel)
set_option maxRecDepth 20000 in
theorem gJ2_indexOf_4cfef_J2_indexOfChar_4cfef : GoodIn wsJ2_indexOf_4cfef (va_wsS RJ2 228 yJ2_indexOfChar_4cfef wsJ2_indexOfChar_4cfef) := goodIn_app (goodIn_m (cs := [220, 221, 215]) ge_J2_indexOf_4cfef rfl (by decide +kernel) (by decide +kernel)) ggJ2_indexOf_4cfef_J2_indexOfChar_4cfef
set_option maxRecDepth 20000 in
theorem ggJ2_indexOf_4cfef_J2_indexOfSupplementary_4cfef : GoodIn wsJ2_indexOf_4cfef wsJ2_indexOfSupplementary_4cfef := goodIn_m ge_J2_indexOf_4cfef ge_J2_indexOfSupplementary_4cfef (by decide +kernel) (by decide +kernel)
set_option maxRecDepth 20000 in
theorem gJ2_indexOf_4cfef_J2_indexOfSupplementary_4cfef : GoodIn wsJ2_indexOf_4cfef (va_wsS RJ2 232 yJ2_indexOfSupplementary_4cfef wsJ2_indexOfSupplementary_4cfef) := goodIn_app (goodIn_m (cs := [246, 247, 215]) ge_J2_indexOf_4cfef rfl (by decide +kernel) (by decide +kernel)) ggJ2_indexOf_4cfef_J2_indexOfSupplementary_4cfef
set_option maxRecDepth 20000 in
theorem ggJ2_indexOfChar_4cfef_J2_checkBoundsBeginEnd_d044e : GoodIn wsJ2_indexOfChar_4cfef wsJ2_checkBoundsBeginEnd_d044e := goodIn_m ge_J2_indexOfChar_4cfef ge_J2_checkBoundsBeginEnd_d044e (by decide +kernel) (by decide +kernel)
set_option maxRecDepth 20000 in
theorem gJ2_indexOfChar_4cfef_J2_checkBoundsBeginEnd_d044e : GoodIn wsJ2_indexOfChar_4cfef (va_wsS RJ2 96 yJ2_checkBoundsBeginEnd_d044e wsJ2_checkBoundsBeginEnd_d044e) := goodIn_app (goodIn_m (cs := [223, 224, 215]) ge_J2_indexOfChar_4cfef rfl (by decide +kernel) (by decide +kernel)) ggJ2_indexOfChar_4cfef_J2_checkBoundsBeginEnd_d044e
set_option maxRecDepth 20000 in
theorem ggJ2_indexOfChar_4cfef_J2_indexOfCharUnsafe_4cfef : GoodIn wsJ2_indexOfChar_4cfef wsJ2_indexOfCharUnsafe_4cfef := goodIn_m ge_J2_indexOfChar_4cfef ge_J2_indexOfCharUnsafe_4cfef (by decide +kernel) (by decide +kernel)
set_option maxRecDepth 20000 in
theorem gJ2_indexOfChar_4cfef_J2_indexOfCharUnsafe_4cfef : GoodIn wsJ2_indexOfChar_4cfef (va_wsS RJ2 244 yJ2_indexOfCharUnsafe_4cfef wsJ2_indexOfCharUnsafe_4cfef) := goodIn_app (goodIn_m (cs := [237, 238, 215]) ge_J2_indexOfChar_4cfef rfl (by decide +kernel) (by decide +kernel)) ggJ2_indexOfChar_4cfef_J2_indexOfCharUnsafe_4cfef
set_option maxRecDepth 20000 in
theorem ggJ2_indexOfCharUnsafe_4cfef_J2_getChar_3b067 : GoodIn wsJ2_indexOfCharUnsafe_4cfef wsJ2_getChar_3b067 := goodIn_m ge_J2_indexOfCharUnsafe_4cfef ge_J2_getChar_3b067 (by decide +kernel) (by decide +kernel)
set_option maxRecDepth 20000 in
theorem gJ2_indexOfCharUnsafe_4cfef_J2_getChar_3b067 : GoodIn wsJ2_indexOfCharUnsafe_4cfef (va_wsS RJ2 71 yJ2_getChar_3b067 wsJ2_getChar_3b067) := goodIn_app (goodIn_m (cs := [240, 241, 215]) ge_J2_indexOfCharUnsafe_4cfef rfl (by decide +kernel) (by decide +kernel)) ggJ2_indexOfCharUnsafe_4cfef_J2_getChar_3b067
set_option maxRecDepth 20000 in
theorem ggJ2_indexOfSupplementary_4cfef_J11_isValidCodePoint_9a6ad : GoodIn wsJ2_indexOfSupplementary_4cfef wsJ11_isValidCodePoint_9a6ad := goodIn_m ge_J2_indexOfSupplementary_4cfef ge_J11_isValidCodePoint_9a6ad (by decide +kernel) (by decide +kernel)
set_option maxRecDepth 20000 in
theorem gJ2_indexOfSupplementary_4cfef_J11_isValidCodePoint_9a6ad : GoodIn wsJ2_indexOfSupplementary_4cfef (va_wsS RJ2 164 yJ11_isValidCodePoint_9a6ad wsJ11_isValidCodePoint_9a6ad) := goodIn_app (goodIn_m (cs := [249, 250, 251]) ge_J2_indexOfSupplementary_4cfef rfl (by decide +kernel) (by decide +kernel)) ggJ2_indexOfSupplementary_4cfef_J11_isValidCodePoint_9a6ad
set_option maxRecDepth 20000 in
theorem ggJ2_indexOfSupplementary_4cfef_J11_highSurrogate_5068e : GoodIn wsJ2_indexOfSupplementary_4cfef wsJ11_highSurrogate_5068e := goodIn_m ge_J2_indexOfSupplementary_4cfef ge_J11_highSurrogate_5068e (by decide +kernel) (by decide +kernel)
set_option maxRecDepth 20000 in
theorem gJ2_indexOfSupplementary_4cfef_J11_highSurrogate_5068e : GoodIn wsJ2_indexOfSupplementary_4cfef (va_wsS RJ2 157 yJ11_highSurrogate_5068e wsJ11_highSurrogate_5068e) := goodIn_app (goodIn_m (cs := [253, 254, 251]) ge_J2_indexOfSupplementary_4cfef rfl (by decide +kernel) (by decide +kernel)) ggJ2_indexOfSupplementary_4cfef_J11_highSurrogate_5068e
set_option maxRecDepth 20000 in
theorem ggJ2_indexOfSupplementary_4cfef_J11_lowSurrogate_5068e : GoodIn wsJ2_indexOfSupplementary_4cfef wsJ11_lowSurrogate_5068e := goodIn_m ge_J2_indexOfSupplementary_4cfef ge_J11_lowSurrogate_5068e (by decide +kernel) (by decide +kernel)
set_option maxRecDepth 20000 in
theorem gJ2_indexOfSupplementary_4cfef_J11_lowSurrogate_5068e : GoodIn wsJ2_indexOfSupplementary_4cfef (va_wsS RJ2 161 yJ11_lowSurrogate_5068e wsJ11_lowSurrogate_5068e) := goodIn_app (goodIn_m (cs := [257, 258, 251]) ge_J2_indexOfSupplementary_4cfef rfl (by decide +kernel) (by decide +kernel)) ggJ2_indexOfSupplementary_4cfef_J11_lowSurrogate_5068e
set_option maxRecDepth 20000 in
theorem ggJ2_indexOfSupplementary_4cfef_J2_checkBoundsBeginEnd_d044e : GoodIn wsJ2_indexOfSupplementary_4cfef wsJ2_checkBoundsBeginEnd_d044e := goodIn_m ge_J2_indexOfSupplementary_4cfef ge_J2_checkBoundsBeginEnd_d044e (by decide +kernel) (by decide +kernel)
set_option maxRecDepth 20000 in
theorem gJ2_indexOfSupplementary_4cfef_J2_checkBoundsBeginEnd_d044e : GoodIn wsJ2_indexOfSupplementary_4cfef (va_wsS RJ2 96 yJ2_checkBoundsBeginEnd_d044e wsJ2_checkBoundsBeginEnd_d044e) := goodIn_app (goodIn_m (cs := [223, 224, 215]) ge_J2_indexOfSupplementary_4cfef rfl (by decide +kernel) (by decide +kernel)) ggJ2_indexOfSupplementary_4cfef_J2_checkBoundsBeginEnd_d044e
set_option maxRecDepth 20000 in
theorem ggJ2_indexOfSupplementary_4cfef_J2_getChar_3b067 : GoodIn wsJ2_indexOfSupplementary_4cfef wsJ2_getChar_3b067 := goodIn_m ge_J2_indexOfSupplementary_4cfef ge_J2_getChar_3b067 (by decide +kernel) (by decide +kernel)
set_option maxRecDepth 20000 in
theorem gJ2_indexOfSupplementary_4cfef_J2_getChar_3b067 : GoodIn wsJ2_indexOfSupplementary_4cfef (va_wsS RJ2 71 yJ2_getChar_3b067 wsJ2_getChar_3b067) := goodIn_app (goodIn_m (cs := [240, 241, 215]) ge_J2_indexOfSupplementary_4cfef rfl (by decide +kernel) (by decide +kernel)) ggJ2_indexOfSupplementary_4cfef_J2_getChar_3b067
set_option maxRecDepth 20000 in
theorem ggJ2_checkBoundsBeginEnd_d044e_J2_length_9d52b : GoodIn wsJ2_checkBoundsBeginEnd_d044e wsJ2_length_9d52b := goodIn_m ge_J2_checkBoundsBeginEnd_d044e ge_J2_length_9d52b (by decide +kernel) (by decide +kernel)
set_option maxRecDepth 20000 in
theorem gJ2_checkBoundsBeginEnd_d044e_J2_length_9d52b : GoodIn wsJ2_checkBoundsBeginEnd_d044e (va_wsS RJ2 48 yJ2_length_9d52b wsJ2_length_9d52b) := goodIn_app (goodIn_m (cs := [226, 227, 215]) ge_J2_checkBoundsBeginEnd_d044e rfl (by decide +kernel) (by decide +kernel)) ggJ2_checkBoundsBeginEnd_d044e_J2_length_9d52b
set_option maxRecDepth 20000 in
theorem ggJ2_checkBoundsBeginEnd_d044e_J0_checkBoundsBeginEnd_23922 : GoodIn wsJ2_checkBoundsBeginEnd_d044e wsJ0_checkBoundsBeginEnd_23922 := goodIn_m ge_J2_checkBoundsBeginEnd_d044e ge_J0_checkBoundsBeginEnd_23922 (by decide +kernel) (by decide +kernel)
set_option maxRecDepth 20000 in
theorem gJ2_checkBoundsBeginEnd_d044e_J0_checkBoundsBeginEnd_23922 : GoodIn wsJ2_checkBoundsBeginEnd_d044e (va_wsS RJ2 241 yJ0_checkBoundsBeginEnd_23922 wsJ0_checkBoundsBeginEnd_23922) := goodIn_app (goodIn_m (cs := [229, 230, 180]) ge_J2_checkBoundsBeginEnd_d044e rfl (by decide +kernel) (by decide +kernel)) ggJ2_checkBoundsBeginEnd_d044e_J0_checkBoundsBeginEnd_23922
set_option maxRecDepth 20000 in
theorem ggL_law_X11_init : GoodIn wsL_law wsX11_init := goodIn_m ge_L_law ge_X11_init (by decide +kernel) (by decide +kernel)
set_option maxRecDepth 20000 in
theorem gL_law_X11_init : GoodIn wsL_law (wsX11_init) := ggL_law_X11_init
set_option maxRecDepth 20000 in
theorem ggL_law_X12_init : GoodIn wsL_law wsX12_init := goodIn_m ge_L_law ge_X12_init (by decide +kernel) (by decide +kernel)
set_option maxRecDepth 20000 in
theorem gL_law_X12_init : GoodIn wsL_law (wsX12_init) := ggL_law_X12_init
set_option maxRecDepth 20000 in
theorem ggL_law_X11_wall : GoodIn wsL_law wsX11_wall := goodIn_m ge_L_law ge_X11_wall (by decide +kernel) (by decide +kernel)
set_option maxRecDepth 20000 in
theorem gL_law_X11_wall : GoodIn wsL_law (wsV RL 13 RX11 yX11_wall wsX11_wall) := goodIn_app (goodIn_m (cs := [1095, 1096, 1097, 123]) ge_L_law rfl (by decide +kernel) (by decide +kernel)) ggL_law_X11_wall
set_option maxRecDepth 20000 in
theorem ggL_law_X12_wall : GoodIn wsL_law wsX12_wall := goodIn_m ge_L_law ge_X12_wall (by decide +kernel) (by decide +kernel)
set_option maxRecDepth 20000 in
theorem gL_law_X12_wall : GoodIn wsL_law (wsV RL 17 RX12 yX12_wall wsX12_wall) := goodIn_app (goodIn_m (cs := [1098, 1099, 1100, 798]) ge_L_law rfl (by decide +kernel) (by decide +kernel)) ggL_law_X12_wall
set_option maxRecDepth 20000 in
theorem ggL_law_X11_set : GoodIn wsL_law wsX11_set := goodIn_m ge_L_law ge_X11_set (by decide +kernel) (by decide +kernel)
set_option maxRecDepth 20000 in
theorem gL_law_X11_set : GoodIn wsL_law (wsV RL 18 RX11 yX11_set wsX11_set) := goodIn_app (goodIn_m (cs := [1101, 1102, 1103, 123]) ge_L_law rfl (by decide +kernel) (by decide +kernel)) ggL_law_X11_set
set_option maxRecDepth 20000 in
theorem ggL_law_X12_set : GoodIn wsL_law wsX12_set := goodIn_m ge_L_law ge_X12_set (by decide +kernel) (by decide +kernel)
set_option maxRecDepth 20000 in
theorem gL_law_X12_set : GoodIn wsL_law (wsV RL 22 RX12 yX12_set wsX12_set) := goodIn_app (goodIn_m (cs := [1104, 1105, 1106, 798]) ge_L_law rfl (by decide +kernel) (by decide +kernel)) ggL_law_X12_set
set_option maxRecDepth 20000 in
theorem ggL_law_X11_ofCell : GoodIn wsL_law wsX11_ofCell := goodIn_m ge_L_law ge_X11_ofCell (by decide +kernel) (by decide +kernel)
set_option maxRecDepth 20000 in
theorem gL_law_X11_ofCell : GoodIn wsL_law (wsV RL 23 RX11 yX11_ofCell wsX11_ofCell) := goodIn_app (goodIn_m (cs := [1107, 1108, 1109, 123]) ge_L_law rfl (by decide +kernel) (by decide +kernel)) ggL_law_X11_ofCell
set_option maxRecDepth 20000 in
theorem ggL_law_X12_ofCell : GoodIn wsL_law wsX12_ofCell := goodIn_m ge_L_law ge_X12_ofCell (by decide +kernel) (by decide +kernel)
set_option maxRecDepth 20000 in
theorem gL_law_X12_ofCell : GoodIn wsL_law (wsV RL 26 RX12 yX12_ofCell wsX12_ofCell) := goodIn_app (goodIn_m (cs := [1110, 1111, 1112, 798]) ge_L_law rfl (by decide +kernel) (by decide +kernel)) ggL_law_X12_ofCell
set_option maxRecDepth 20000 in
theorem ggL_law_X11_edge : GoodIn wsL_law wsX11_edge := goodIn_m ge_L_law ge_X11_edge (by decide +kernel) (by decide +kernel)
set_option maxRecDepth 20000 in
theorem gL_law_X11_edge : GoodIn wsL_law (wsV RL 27 RX11 yX11_edge wsX11_edge) := goodIn_app (goodIn_m (cs := [1113, 1114, 1115, 123]) ge_L_law rfl (by decide +kernel) (by decide +kernel)) ggL_law_X11_edge
set_option maxRecDepth 20000 in
theorem ggL_law_X12_edge : GoodIn wsL_law wsX12_edge := goodIn_m ge_L_law ge_X12_edge (by decide +kernel) (by decide +kernel)
set_option maxRecDepth 20000 in
theorem gL_law_X12_edge : GoodIn wsL_law (wsV RL 30 RX12 yX12_edge wsX12_edge) := goodIn_app (goodIn_m (cs := [1116, 1117, 1118, 798]) ge_L_law rfl (by decide +kernel) (by decide +kernel)) ggL_law_X12_edge
set_option maxRecDepth 20000 in
theorem ggL_law_X11_tool : GoodIn wsL_law wsX11_tool := goodIn_m ge_L_law ge_X11_tool (by decide +kernel) (by decide +kernel)
set_option maxRecDepth 20000 in
theorem gL_law_X11_tool : GoodIn wsL_law (wsV RL 31 RX11 yX11_tool wsX11_tool) := goodIn_app (goodIn_m (cs := [1119, 1120, 1121, 123]) ge_L_law rfl (by decide +kernel) (by decide +kernel)) ggL_law_X11_tool
set_option maxRecDepth 20000 in
theorem ggL_law_X12_tool : GoodIn wsL_law wsX12_tool := goodIn_m ge_L_law ge_X12_tool (by decide +kernel) (by decide +kernel)
set_option maxRecDepth 20000 in
theorem gL_law_X12_tool : GoodIn wsL_law (wsV RL 35 RX12 yX12_tool wsX12_tool) := goodIn_app (goodIn_m (cs := [1122, 1123, 1124, 798]) ge_L_law rfl (by decide +kernel) (by decide +kernel)) ggL_law_X12_tool
set_option maxRecDepth 20000 in
theorem ggL_law_X11_ofTool : GoodIn wsL_law wsX11_ofTool := goodIn_m ge_L_law ge_X11_ofTool (by decide +kernel) (by decide +kernel)
set_option maxRecDepth 20000 in
theorem gL_law_X11_ofTool : GoodIn wsL_law (wsV RL 36 RX11 yX11_ofTool wsX11_ofTool) := goodIn_app (goodIn_m (cs := [1125, 1126, 1127, 123]) ge_L_law rfl (by decide +kernel) (by decide +kernel)) ggL_law_X11_ofTool
set_option maxRecDepth 20000 in
theorem ggL_law_X12_ofTool : GoodIn wsL_law wsX12_ofTool := goodIn_m ge_L_law ge_X12_ofTool (by decide +kernel) (by decide +kernel)
set_option maxRecDepth 20000 in
theorem gL_law_X12_ofTool : GoodIn wsL_law (wsV RL 39 RX12 yX12_ofTool wsX12_ofTool) := goodIn_app (goodIn_m (cs := [1128, 1129, 1130, 798]) ge_L_law rfl (by decide +kernel) (by decide +kernel)) ggL_law_X12_ofTool
set_option maxRecDepth 20000 in
theorem ggL_law_X11_become : GoodIn wsL_law wsX11_become := goodIn_m ge_L_law ge_X11_become (by decide +kernel) (by decide +kernel)
set_option maxRecDepth 20000 in
theorem gL_law_X11_become : GoodIn wsL_law (wsV RL 40 RX11 yX11_become wsX11_become) := goodIn_app (goodIn_m (cs := [1131, 1132, 1133, 123]) ge_L_law rfl (by decide +kernel) (by decide +kernel)) ggL_law_X11_become
set_option maxRecDepth 20000 in
theorem ggL_law_X12_become : GoodIn wsL_law wsX12_become := goodIn_m ge_L_law ge_X12_become (by decide +kernel) (by decide +kernel)
set_option maxRecDepth 20000 in
theorem gL_law_X12_become : GoodIn wsL_law (wsV RL 43 RX12 yX12_become wsX12_become) := goodIn_app (goodIn_m (cs := [1134, 1135, 1136, 798]) ge_L_law rfl (by decide +kernel) (by decide +kernel)) ggL_law_X12_become
set_option maxRecDepth 20000 in
theorem ggL_law_X11_as : GoodIn wsL_law wsX11_as := goodIn_m ge_L_law ge_X11_as (by decide +kernel) (by decide +kernel)
set_option maxRecDepth 20000 in
theorem gL_law_X11_as : GoodIn wsL_law (wsV RL 44 RX11 yX11_as wsX11_as) := goodIn_app (goodIn_m (cs := [1137, 1138, 1139, 123]) ge_L_law rfl (by decide +kernel) (by decide +kernel)) ggL_law_X11_as
set_option maxRecDepth 20000 in
theorem ggL_law_X12_as : GoodIn wsL_law wsX12_as := goodIn_m ge_L_law ge_X12_as (by decide +kernel) (by decide +kernel)
set_option maxRecDepth 20000 in
theorem gL_law_X12_as : GoodIn wsL_law (wsV RL 47 RX12 yX12_as wsX12_as) := goodIn_app (goodIn_m (cs := [1140, 1141, 1142, 798]) ge_L_law rfl (by decide +kernel) (by decide +kernel)) ggL_law_X12_as
set_option maxRecDepth 20000 in
theorem ggL_law_X11_feed : GoodIn wsL_law wsX11_feed := goodIn_m ge_L_law ge_X11_feed (by decide +kernel) (by decide +kernel)
set_option maxRecDepth 20000 in
theorem gL_law_X11_feed : GoodIn wsL_law (wsV RL 50 RX11 yX11_feed wsX11_feed) := goodIn_app (goodIn_m (cs := [1143, 1144, 1145, 123]) ge_L_law rfl (by decide +kernel) (by decide +kernel)) ggL_law_X11_feed
set_option maxRecDepth 20000 in
theorem ggL_law_X12_feed : GoodIn wsL_law wsX12_feed := goodIn_m ge_L_law ge_X12_feed (by decide +kernel) (by decide +kernel)
set_option maxRecDepth 20000 in
theorem gL_law_X12_feed : GoodIn wsL_law (wsV RL 54 RX12 yX12_feed wsX12_feed) := goodIn_app (goodIn_m (cs := [1146, 1147, 1148, 798]) ge_L_law rfl (by decide +kernel) (by decide +kernel)) ggL_law_X12_feed
set_option maxRecDepth 20000 in
theorem ggL_law_X11_text : GoodIn wsL_law wsX11_text := goodIn_m ge_L_law ge_X11_text (by decide +kernel) (by decide +kernel)
set_option maxRecDepth 20000 in
theorem gL_law_X11_text : GoodIn wsL_law (wsV RL 55 RX11 yX11_text wsX11_text) := goodIn_app (goodIn_m (cs := [1149, 1150, 1151, 123]) ge_L_law rfl (by decide +kernel) (by decide +kernel)) ggL_law_X11_text
set_option maxRecDepth 20000 in
theorem ggL_law_X12_text : GoodIn wsL_law wsX12_text := goodIn_m ge_L_law ge_X12_text (by decide +kernel) (by decide +kernel)
set_option maxRecDepth 20000 in
theorem gL_law_X12_text : GoodIn wsL_law (wsV RL 58 RX12 yX12_text wsX12_text) := goodIn_app (goodIn_m (cs := [1152, 1153, 1154, 798]) ge_L_law rfl (by decide +kernel) (by decide +kernel)) ggL_law_X12_text
set_option maxRecDepth 20000 in
theorem ggL_law_X11_law : GoodIn wsL_law wsX11_law := goodIn_m ge_L_law ge_X11_law (by decide +kernel) (by decide +kernel)
set_option maxRecDepth 20000 in
theorem gL_law_X11_law : GoodIn wsL_law (wsV RL 59 RX11 yX11_law wsX11_law) := goodIn_app (goodIn_m (cs := [1155, 1156, 1157, 123]) ge_L_law rfl (by decide +kernel) (by decide +kernel)) ggL_law_X11_law
set_option maxRecDepth 20000 in
theorem ggL_law_X12_law : GoodIn wsL_law wsX12_law := goodIn_m ge_L_law ge_X12_law (by decide +kernel) (by decide +kernel)
set_option maxRecDepth 20000 in
theorem gL_law_X12_law : GoodIn wsL_law (wsV RL 63 RX12 yX12_law wsX12_law) := goodIn_app (goodIn_m (cs := [1158, 1159, 1160, 798]) ge_L_law rfl (by decide +kernel) (by decide +kernel)) ggL_law_X12_law
set_option maxRecDepth 20000 in
theorem ggL_law_X11_stroke : GoodIn wsL_law wsX11_stroke := goodIn_m ge_L_law ge_X11_stroke (by decide +kernel) (by decide +kernel)
set_option maxRecDepth 20000 in
theorem gL_law_X11_stroke : GoodIn wsL_law (wsV RL 64 RX11 yX11_stroke wsX11_stroke) := goodIn_app (goodIn_m (cs := [1161, 1162, 1163, 123]) ge_L_law rfl (by decide +kernel) (by decide +kernel)) ggL_law_X11_stroke
set_option maxRecDepth 20000 in
theorem ggL_law_X12_stroke : GoodIn wsL_law wsX12_stroke := goodIn_m ge_L_law ge_X12_stroke (by decide +kernel) (by decide +kernel)
set_option maxRecDepth 20000 in
theorem gL_law_X12_stroke : GoodIn wsL_law (wsV RL 67 RX12 yX12_stroke wsX12_stroke) := goodIn_app (goodIn_m (cs := [1164, 1165, 1166, 798]) ge_L_law rfl (by decide +kernel) (by decide +kernel)) ggL_law_X12_stroke
set_option maxRecDepth 20000 in
theorem ggL_law_X11_nights : GoodIn wsL_law wsX11_nights := goodIn_m ge_L_law ge_X11_nights (by decide +kernel) (by decide +kernel)
set_option maxRecDepth 20000 in
theorem gL_law_X11_nights : GoodIn wsL_law (wsV RL 68 RX11 yX11_nights wsX11_nights) := goodIn_app (goodIn_m (cs := [1167, 1168, 1169, 123]) ge_L_law rfl (by decide +kernel) (by decide +kernel)) ggL_law_X11_nights
set_option maxRecDepth 20000 in
theorem ggL_law_X12_nights : GoodIn wsL_law wsX12_nights := goodIn_m ge_L_law ge_X12_nights (by decide +kernel) (by decide +kernel)
set_option maxRecDepth 20000 in
theorem gL_law_X12_nights : GoodIn wsL_law (wsV RL 71 RX12 yX12_nights wsX12_nights) := goodIn_app (goodIn_m (cs := [1170, 1171, 1172, 798]) ge_L_law rfl (by decide +kernel) (by decide +kernel)) ggL_law_X12_nights
set_option maxRecDepth 20000 in
theorem ggL_law_X11_days : GoodIn wsL_law wsX11_days := goodIn_m ge_L_law ge_X11_days (by decide +kernel) (by decide +kernel)
set_option maxRecDepth 20000 in
theorem gL_law_X11_days : GoodIn wsL_law (wsV RL 72 RX11 yX11_days wsX11_days) := goodIn_app (goodIn_m (cs := [1173, 1174, 1175, 123]) ge_L_law rfl (by decide +kernel) (by decide +kernel)) ggL_law_X11_days
set_option maxRecDepth 20000 in
theorem ggL_law_X12_days : GoodIn wsL_law wsX12_days := goodIn_m ge_L_law ge_X12_days (by decide +kernel) (by decide +kernel)
set_option maxRecDepth 20000 in
theorem gL_law_X12_days : GoodIn wsL_law (wsV RL 75 RX12 yX12_days wsX12_days) := goodIn_app (goodIn_m (cs := [1176, 1177, 1178, 798]) ge_L_law rfl (by decide +kernel) (by decide +kernel)) ggL_law_X12_days
set_option maxRecDepth 20000 in
theorem ggL_law_X11_shown : GoodIn wsL_law wsX11_shown := goodIn_m ge_L_law ge_X11_shown (by decide +kernel) (by decide +kernel)
set_option maxRecDepth 20000 in
theorem gL_law_X11_shown : GoodIn wsL_law (wsV RL 76 RX11 yX11_shown wsX11_shown) := goodIn_app (goodIn_m (cs := [1179, 1180, 1181, 123]) ge_L_law rfl (by decide +kernel) (by decide +kernel)) ggL_law_X11_shown
set_option maxRecDepth 20000 in
theorem ggL_law_X12_shown : GoodIn wsL_law wsX12_shown := goodIn_m ge_L_law ge_X12_shown (by decide +kernel) (by decide +kernel)
set_option maxRecDepth 20000 in
theorem gL_law_X12_shown : GoodIn wsL_law (wsV RL 80 RX12 yX12_shown wsX12_shown) := goodIn_app (goodIn_m (cs := [1182, 1183, 1184, 798]) ge_L_law rfl (by decide +kernel) (by decide +kernel)) ggL_law_X12_shown
set_option maxRecDepth 20000 in
theorem ggL_law_X11_bubbles : GoodIn wsL_law wsX11_bubbles := goodIn_m ge_L_law ge_X11_bubbles (by decide +kernel) (by decide +kernel)
set_option maxRecDepth 20000 in
theorem gL_law_X11_bubbles : GoodIn wsL_law (wsV RL 81 RX11 yX11_bubbles wsX11_bubbles) := goodIn_app (goodIn_m (cs := [1185, 1186, 1187, 123]) ge_L_law rfl (by decide +kernel) (by decide +kernel)) ggL_law_X11_bubbles
set_option maxRecDepth 20000 in
theorem ggL_law_X12_bubbles : GoodIn wsL_law wsX12_bubbles := goodIn_m ge_L_law ge_X12_bubbles (by decide +kernel) (by decide +kernel)
set_option maxRecDepth 20000 in
theorem gL_law_X12_bubbles : GoodIn wsL_law (wsV RL 84 RX12 yX12_bubbles wsX12_bubbles) := goodIn_app (goodIn_m (cs := [1188, 1189, 1190, 798]) ge_L_law rfl (by decide +kernel) (by decide +kernel)) ggL_law_X12_bubbles
set_option maxRecDepth 20000 in
theorem ggL_law_X11_biggest : GoodIn wsL_law wsX11_biggest := goodIn_m ge_L_law ge_X11_biggest (by decide +kernel) (by decide +kernel)
set_option maxRecDepth 20000 in
theorem gL_law_X11_biggest : GoodIn wsL_law (wsV RL 85 RX11 yX11_biggest wsX11_biggest) := goodIn_app (goodIn_m (cs := [1191, 1192, 1193, 123]) ge_L_law rfl (by decide +kernel) (by decide +kernel)) ggL_law_X11_biggest
set_option maxRecDepth 20000 in
theorem ggL_law_X12_biggest : GoodIn wsL_law wsX12_biggest := goodIn_m ge_L_law ge_X12_biggest (by decide +kernel) (by decide +kernel)
set_option maxRecDepth 20000 in
theorem gL_law_X12_biggest : GoodIn wsL_law (wsV RL 88 RX12 yX12_biggest wsX12_biggest) := goodIn_app (goodIn_m (cs := [1194, 1195, 1196, 798]) ge_L_law rfl (by decide +kernel) (by decide +kernel)) ggL_law_X12_biggest
set_option maxRecDepth 20000 in
theorem ggL_law_X11_wayOut : GoodIn wsL_law wsX11_wayOut := goodIn_m ge_L_law ge_X11_wayOut (by decide +kernel) (by decide +kernel)
set_option maxRecDepth 20000 in
theorem gL_law_X11_wayOut : GoodIn wsL_law (wsV RL 89 RX11 yX11_wayOut wsX11_wayOut) := goodIn_app (goodIn_m (cs := [1197, 1198, 1199, 123]) ge_L_law rfl (by decide +kernel) (by decide +kernel)) ggL_law_X11_wayOut
set_option maxRecDepth 20000 in
theorem ggL_law_X12_wayOut : GoodIn wsL_law wsX12_wayOut := goodIn_m ge_L_law ge_X12_wayOut (by decide +kernel) (by decide +kernel)
set_option maxRecDepth 20000 in
theorem gL_law_X12_wayOut : GoodIn wsL_law (wsV RL 92 RX12 yX12_wayOut wsX12_wayOut) := goodIn_app (goodIn_m (cs := [1200, 1201, 1202, 798]) ge_L_law rfl (by decide +kernel) (by decide +kernel)) ggL_law_X12_wayOut
set_option maxRecDepth 20000 in
theorem ggL_law_X11_best : GoodIn wsL_law wsX11_best := goodIn_m ge_L_law ge_X11_best (by decide +kernel) (by decide +kernel)
set_option maxRecDepth 20000 in
theorem gL_law_X11_best : GoodIn wsL_law (wsV RL 93 RX11 yX11_best wsX11_best) := goodIn_app (goodIn_m (cs := [1203, 1204, 1205, 123]) ge_L_law rfl (by decide +kernel) (by decide +kernel)) ggL_law_X11_best
set_option maxRecDepth 20000 in
theorem ggL_law_X12_best : GoodIn wsL_law wsX12_best := goodIn_m ge_L_law ge_X12_best (by decide +kernel) (by decide +kernel)
set_option maxRecDepth 20000 in
theorem gL_law_X12_best : GoodIn wsL_law (wsV RL 96 RX12 yX12_best wsX12_best) := goodIn_app (goodIn_m (cs := [1206, 1207, 1208, 798]) ge_L_law rfl (by decide +kernel) (by decide +kernel)) ggL_law_X12_best
set_option maxRecDepth 20000 in
theorem ggL_law_X11_bestTwo : GoodIn wsL_law wsX11_bestTwo := goodIn_m ge_L_law ge_X11_bestTwo (by decide +kernel) (by decide +kernel)
set_option maxRecDepth 20000 in
theorem gL_law_X11_bestTwo : GoodIn wsL_law (wsV RL 97 RX11 yX11_bestTwo wsX11_bestTwo) := goodIn_app (goodIn_m (cs := [1209, 1210, 1211, 123]) ge_L_law rfl (by decide +kernel) (by decide +kernel)) ggL_law_X11_bestTwo
set_option maxRecDepth 20000 in
theorem ggL_law_X12_bestTwo : GoodIn wsL_law wsX12_bestTwo := goodIn_m ge_L_law ge_X12_bestTwo (by decide +kernel) (by decide +kernel)
set_option maxRecDepth 20000 in
theorem gL_law_X12_bestTwo : GoodIn wsL_law (wsV RL 100 RX12 yX12_bestTwo wsX12_bestTwo) := goodIn_app (goodIn_m (cs := [1212, 1213, 1214, 798]) ge_L_law rfl (by decide +kernel) (by decide +kernel)) ggL_law_X12_bestTwo
set_option maxRecDepth 20000 in
theorem ggL_law_X11_goneBy : GoodIn wsL_law wsX11_goneBy := goodIn_m ge_L_law ge_X11_goneBy (by decide +kernel) (by decide +kernel)
set_option maxRecDepth 20000 in
theorem gL_law_X11_goneBy : GoodIn wsL_law (wsV RL 101 RX11 yX11_goneBy wsX11_goneBy) := goodIn_app (goodIn_m (cs := [1215, 1216, 1217, 123]) ge_L_law rfl (by decide +kernel) (by decide +kernel)) ggL_law_X11_goneBy
set_option maxRecDepth 20000 in
theorem ggL_law_X12_goneBy : GoodIn wsL_law wsX12_goneBy := goodIn_m ge_L_law ge_X12_goneBy (by decide +kernel) (by decide +kernel)
set_option maxRecDepth 20000 in
theorem gL_law_X12_goneBy : GoodIn wsL_law (wsV RL 104 RX12 yX12_goneBy wsX12_goneBy) := goodIn_app (goodIn_m (cs := [1218, 1219, 1220, 798]) ge_L_law rfl (by decide +kernel) (by decide +kernel)) ggL_law_X12_goneBy
set_option maxRecDepth 20000 in
theorem ggL_law_X11_never : GoodIn wsL_law wsX11_never := goodIn_m ge_L_law ge_X11_never (by decide +kernel) (by decide +kernel)
set_option maxRecDepth 20000 in
theorem gL_law_X11_never : GoodIn wsL_law (wsV RL 105 RX11 yX11_never wsX11_never) := goodIn_app (goodIn_m (cs := [1221, 1222, 1223, 123]) ge_L_law rfl (by decide +kernel) (by decide +kernel)) ggL_law_X11_never
set_option maxRecDepth 20000 in
theorem ggL_law_X12_never : GoodIn wsL_law wsX12_never := goodIn_m ge_L_law ge_X12_never (by decide +kernel) (by decide +kernel)
set_option maxRecDepth 20000 in
theorem gL_law_X12_never : GoodIn wsL_law (wsV RL 108 RX12 yX12_never wsX12_never) := goodIn_app (goodIn_m (cs := [1224, 1225, 1226, 798]) ge_L_law rfl (by decide +kernel) (by decide +kernel)) ggL_law_X12_never
set_option maxRecDepth 20000 in
theorem ggL_law_X11_needs : GoodIn wsL_law wsX11_needs := goodIn_m ge_L_law ge_X11_needs (by decide +kernel) (by decide +kernel)
set_option maxRecDepth 20000 in
theorem gL_law_X11_needs : GoodIn wsL_law (wsV RL 109 RX11 yX11_needs wsX11_needs) := goodIn_app (goodIn_m (cs := [1227, 1228, 1229, 123]) ge_L_law rfl (by decide +kernel) (by decide +kernel)) ggL_law_X11_needs
set_option maxRecDepth 20000 in
theorem ggL_law_X12_needs : GoodIn wsL_law wsX12_needs := goodIn_m ge_L_law ge_X12_needs (by decide +kernel) (by decide +kernel)
set_option maxRecDepth 20000 in
theorem gL_law_X12_needs : GoodIn wsL_law (wsV RL 112 RX12 yX12_needs wsX12_needs) := goodIn_app (goodIn_m (cs := [1230, 1231, 1232, 798]) ge_L_law rfl (by decide +kernel) (by decide +kernel)) ggL_law_X12_needs
set_option maxRecDepth 20000 in
theorem ggL_law_X11_lamp : GoodIn wsL_law wsX11_lamp := goodIn_m ge_L_law ge_X11_lamp (by decide +kernel) (by decide +kernel)
set_option maxRecDepth 20000 in
theorem gL_law_X11_lamp : GoodIn wsL_law (wsV RL 113 RX11 yX11_lamp wsX11_lamp) := goodIn_app (goodIn_m (cs := [1233, 1234, 1235, 123]) ge_L_law rfl (by decide +kernel) (by decide +kernel)) ggL_law_X11_lamp
set_option maxRecDepth 20000 in
theorem ggL_law_X12_lamp : GoodIn wsL_law wsX12_lamp := goodIn_m ge_L_law ge_X12_lamp (by decide +kernel) (by decide +kernel)
set_option maxRecDepth 20000 in
theorem gL_law_X12_lamp : GoodIn wsL_law (wsV RL 116 RX12 yX12_lamp wsX12_lamp) := goodIn_app (goodIn_m (cs := [1236, 1237, 1238, 798]) ge_L_law rfl (by decide +kernel) (by decide +kernel)) ggL_law_X12_lamp
set_option maxRecDepth 20000 in
theorem ggL_law_X11_came : GoodIn wsL_law wsX11_came := goodIn_m ge_L_law ge_X11_came (by decide +kernel) (by decide +kernel)
set_option maxRecDepth 20000 in
theorem gL_law_X11_came : GoodIn wsL_law (wsV RL 117 RX11 yX11_came wsX11_came) := goodIn_app (goodIn_m (cs := [1239, 1240, 1241, 123]) ge_L_law rfl (by decide +kernel) (by decide +kernel)) ggL_law_X11_came
set_option maxRecDepth 20000 in
theorem ggL_law_X12_came : GoodIn wsL_law wsX12_came := goodIn_m ge_L_law ge_X12_came (by decide +kernel) (by decide +kernel)
set_option maxRecDepth 20000 in
theorem gL_law_X12_came : GoodIn wsL_law (wsV RL 120 RX12 yX12_came wsX12_came) := goodIn_app (goodIn_m (cs := [1242, 1243, 1244, 798]) ge_L_law rfl (by decide +kernel) (by decide +kernel)) ggL_law_X12_came
set_option maxRecDepth 20000 in
theorem ggL_law_X11_odds : GoodIn wsL_law wsX11_odds := goodIn_m ge_L_law ge_X11_odds (by decide +kernel) (by decide +kernel)
set_option maxRecDepth 20000 in
theorem gL_law_X11_odds : GoodIn wsL_law (wsV RL 121 RX11 yX11_odds wsX11_odds) := goodIn_app (goodIn_m (cs := [1245, 1246, 1247, 123]) ge_L_law rfl (by decide +kernel) (by decide +kernel)) ggL_law_X11_odds
set_option maxRecDepth 20000 in
theorem ggL_law_X12_odds : GoodIn wsL_law wsX12_odds := goodIn_m ge_L_law ge_X12_odds (by decide +kernel) (by decide +kernel)
set_option maxRecDepth 20000 in
theorem gL_law_X12_odds : GoodIn wsL_law (wsV RL 124 RX12 yX12_odds wsX12_odds) := goodIn_app (goodIn_m (cs := [1248, 1249, 1250, 798]) ge_L_law rfl (by decide +kernel) (by decide +kernel)) ggL_law_X12_odds
set_option maxRecDepth 20000 in
theorem ggL_law_X11_seed : GoodIn wsL_law wsX11_seed := goodIn_m ge_L_law ge_X11_seed (by decide +kernel) (by decide +kernel)
set_option maxRecDepth 20000 in
theorem gL_law_X11_seed : GoodIn wsL_law (wsV RL 125 RX11 yX11_seed wsX11_seed) := goodIn_app (goodIn_m (cs := [1251, 1252, 1253, 123]) ge_L_law rfl (by decide +kernel) (by decide +kernel)) ggL_law_X11_seed
set_option maxRecDepth 20000 in
theorem ggL_law_X12_seed : GoodIn wsL_law wsX12_seed := goodIn_m ge_L_law ge_X12_seed (by decide +kernel) (by decide +kernel)
set_option maxRecDepth 20000 in
theorem gL_law_X12_seed : GoodIn wsL_law (wsV RL 128 RX12 yX12_seed wsX12_seed) := goodIn_app (goodIn_m (cs := [1255, 1256, 1257, 798]) ge_L_law rfl (by decide +kernel) (by decide +kernel)) ggL_law_X12_seed
set_option maxRecDepth 20000 in
theorem ggL_law_X11_voice : GoodIn wsL_law wsX11_voice := goodIn_m ge_L_law ge_X11_voice (by decide +kernel) (by decide +kernel)
set_option maxRecDepth 20000 in
theorem gL_law_X11_voice : GoodIn wsL_law (wsV RL 129 RX11 yX11_voice wsX11_voice) := goodIn_app (goodIn_m (cs := [1259, 1260, 1261, 123]) ge_L_law rfl (by decide +kernel) (by decide +kernel)) ggL_law_X11_voice
set_option maxRecDepth 20000 in
theorem ggL_law_X12_voice : GoodIn wsL_law wsX12_voice := goodIn_m ge_L_law ge_X12_voice (by decide +kernel) (by decide +kernel)
set_option maxRecDepth 20000 in
theorem gL_law_X12_voice : GoodIn wsL_law (wsV RL 132 RX12 yX12_voice wsX12_voice) := goodIn_app (goodIn_m (cs := [1262, 1263, 1264, 798]) ge_L_law rfl (by decide +kernel) (by decide +kernel)) ggL_law_X12_voice
set_option maxRecDepth 20000 in
theorem ggL_law_X11_trace : GoodIn wsL_law wsX11_trace := goodIn_m ge_L_law ge_X11_trace (by decide +kernel) (by decide +kernel)
set_option maxRecDepth 20000 in
theorem gL_law_X11_trace : GoodIn wsL_law (wsV RL 133 RX11 yX11_trace wsX11_trace) := goodIn_app (goodIn_m (cs := [1265, 1266, 1267, 123]) ge_L_law rfl (by decide +kernel) (by decide +kernel)) ggL_law_X11_trace
set_option maxRecDepth 20000 in
theorem ggL_law_X12_trace : GoodIn wsL_law wsX12_trace := goodIn_m ge_L_law ge_X12_trace (by decide +kernel) (by decide +kernel)
set_option maxRecDepth 20000 in
theorem gL_law_X12_trace : GoodIn wsL_law (wsV RL 136 RX12 yX12_trace wsX12_trace) := goodIn_app (goodIn_m (cs := [1268, 1269, 1270, 798]) ge_L_law rfl (by decide +kernel) (by decide +kernel)) ggL_law_X12_trace
set_option maxRecDepth 20000 in
theorem ggL_law_X11_sheet : GoodIn wsL_law wsX11_sheet := goodIn_m ge_L_law ge_X11_sheet (by decide +kernel) (by decide +kernel)
set_option maxRecDepth 20000 in
theorem gL_law_X11_sheet : GoodIn wsL_law (wsV RL 137 RX11 yX11_sheet wsX11_sheet) := goodIn_app (goodIn_m (cs := [1271, 1272, 1273, 123]) ge_L_law rfl (by decide +kernel) (by decide +kernel)) ggL_law_X11_sheet
set_option maxRecDepth 20000 in
theorem ggL_law_X12_sheet : GoodIn wsL_law wsX12_sheet := goodIn_m ge_L_law ge_X12_sheet (by decide +kernel) (by decide +kernel)
set_option maxRecDepth 20000 in
theorem gL_law_X12_sheet : GoodIn wsL_law (wsV RL 140 RX12 yX12_sheet wsX12_sheet) := goodIn_app (goodIn_m (cs := [1274, 1275, 1276, 798]) ge_L_law rfl (by decide +kernel) (by decide +kernel)) ggL_law_X12_sheet
set_option maxRecDepth 20000 in
theorem ggL_law_X11_put : GoodIn wsL_law wsX11_put := goodIn_m ge_L_law ge_X11_put (by decide +kernel) (by decide +kernel)
set_option maxRecDepth 20000 in
theorem gL_law_X11_put : GoodIn wsL_law (wsV RL 141 RX11 yX11_put wsX11_put) := goodIn_app (goodIn_m (cs := [1277, 1278, 1279, 123]) ge_L_law rfl (by decide +kernel) (by decide +kernel)) ggL_law_X11_put
set_option maxRecDepth 20000 in
theorem ggL_law_X12_put : GoodIn wsL_law wsX12_put := goodIn_m ge_L_law ge_X12_put (by decide +kernel) (by decide +kernel)
set_option maxRecDepth 20000 in
theorem gL_law_X12_put : GoodIn wsL_law (wsV RL 144 RX12 yX12_put wsX12_put) := goodIn_app (goodIn_m (cs := [1280, 1281, 1282, 798]) ge_L_law rfl (by decide +kernel) (by decide +kernel)) ggL_law_X12_put
set_option maxRecDepth 20000 in
theorem ggL_law_X11_move : GoodIn wsL_law wsX11_move := goodIn_m ge_L_law ge_X11_move (by decide +kernel) (by decide +kernel)
set_option maxRecDepth 20000 in
theorem gL_law_X11_move : GoodIn wsL_law (wsV RL 145 RX11 yX11_move wsX11_move) := goodIn_app (goodIn_m (cs := [1283, 1284, 1285, 123]) ge_L_law rfl (by decide +kernel) (by decide +kernel)) ggL_law_X11_move
set_option maxRecDepth 20000 in
theorem ggL_law_X12_move : GoodIn wsL_law wsX12_move := goodIn_m ge_L_law ge_X12_move (by decide +kernel) (by decide +kernel)
set_option maxRecDepth 20000 in
theorem gL_law_X12_move : GoodIn wsL_law (wsV RL 149 RX12 yX12_move wsX12_move) := goodIn_app (goodIn_m (cs := [1286, 1287, 1288, 798]) ge_L_law rfl (by decide +kernel) (by decide +kernel)) ggL_law_X12_move
set_option maxRecDepth 20000 in
theorem ggL_law_X11_airs : GoodIn wsL_law wsX11_airs := goodIn_m ge_L_law ge_X11_airs (by decide +kernel) (by decide +kernel)
set_option maxRecDepth 20000 in
theorem gL_law_X11_airs : GoodIn wsL_law (wsV RL 150 RX11 yX11_airs wsX11_airs) := goodIn_app (goodIn_m (cs := [1289, 1290, 1291, 123]) ge_L_law rfl (by decide +kernel) (by decide +kernel)) ggL_law_X11_airs
set_option maxRecDepth 20000 in
theorem ggL_law_X12_airs : GoodIn wsL_law wsX12_airs := goodIn_m ge_L_law ge_X12_airs (by decide +kernel) (by decide +kernel)
set_option maxRecDepth 20000 in
theorem gL_law_X12_airs : GoodIn wsL_law (wsV RL 153 RX12 yX12_airs wsX12_airs) := goodIn_app (goodIn_m (cs := [1292, 1293, 1294, 798]) ge_L_law rfl (by decide +kernel) (by decide +kernel)) ggL_law_X12_airs
set_option maxRecDepth 20000 in
theorem ggL_law_X11_judge : GoodIn wsL_law wsX11_judge := goodIn_m ge_L_law ge_X11_judge (by decide +kernel) (by decide +kernel)
set_option maxRecDepth 20000 in
theorem gL_law_X11_judge : GoodIn wsL_law (wsV RL 154 RX11 yX11_judge wsX11_judge) := goodIn_app (goodIn_m (cs := [1295, 1296, 1297, 123]) ge_L_law rfl (by decide +kernel) (by decide +kernel)) ggL_law_X11_judge
set_option maxRecDepth 20000 in
theorem ggL_law_X12_judge : GoodIn wsL_law wsX12_judge := goodIn_m ge_L_law ge_X12_judge (by decide +kernel) (by decide +kernel)
set_option maxRecDepth 20000 in
theorem gL_law_X12_judge : GoodIn wsL_law (wsV RL 157 RX12 yX12_judge wsX12_judge) := goodIn_app (goodIn_m (cs := [1298, 1299, 1300, 798]) ge_L_law rfl (by decide +kernel) (by decide +kernel)) ggL_law_X12_judge
set_option maxRecDepth 20000 in
theorem ggL_law_X11_image : GoodIn wsL_law wsX11_image := goodIn_m ge_L_law ge_X11_image (by decide +kernel) (by decide +kernel)
set_option maxRecDepth 20000 in
theorem gL_law_X11_image : GoodIn wsL_law (wsV RL 158 RX11 yX11_image wsX11_image) := goodIn_app (goodIn_m (cs := [1301, 1302, 1303, 123]) ge_L_law rfl (by decide +kernel) (by decide +kernel)) ggL_law_X11_image
set_option maxRecDepth 20000 in
theorem ggL_law_X12_image : GoodIn wsL_law wsX12_image := goodIn_m ge_L_law ge_X12_image (by decide +kernel) (by decide +kernel)
set_option maxRecDepth 20000 in
theorem gL_law_X12_image : GoodIn wsL_law (wsV RL 161 RX12 yX12_image wsX12_image) := goodIn_app (goodIn_m (cs := [1304, 1305, 1306, 798]) ge_L_law rfl (by decide +kernel) (by decide +kernel)) ggL_law_X12_image
set_option maxRecDepth 20000 in
theorem ggL_law_X11_restore : GoodIn wsL_law wsX11_restore := goodIn_m ge_L_law ge_X11_restore (by decide +kernel) (by decide +kernel)
set_option maxRecDepth 20000 in
theorem gL_law_X11_restore : GoodIn wsL_law (wsV RL 162 RX11 yX11_restore wsX11_restore) := goodIn_app (goodIn_m (cs := [1308, 1309, 1310, 123]) ge_L_law rfl (by decide +kernel) (by decide +kernel)) ggL_law_X11_restore
set_option maxRecDepth 20000 in
theorem ggL_law_X12_restore : GoodIn wsL_law wsX12_restore := goodIn_m ge_L_law ge_X12_restore (by decide +kernel) (by decide +kernel)
set_option maxRecDepth 20000 in
theorem gL_law_X12_restore : GoodIn wsL_law (wsV RL 165 RX12 yX12_restore wsX12_restore) := goodIn_app (goodIn_m (cs := [1311, 1312, 1313, 798]) ge_L_law rfl (by decide +kernel) (by decide +kernel)) ggL_law_X12_restore
set_option maxRecDepth 20000 in
theorem ggL_law_X11_tell : GoodIn wsL_law wsX11_tell := goodIn_m ge_L_law ge_X11_tell (by decide +kernel) (by decide +kernel)
set_option maxRecDepth 20000 in
theorem gL_law_X11_tell : GoodIn wsL_law (wsV RL 166 RX11 yX11_tell wsX11_tell) := goodIn_app (goodIn_m (cs := [1314, 1315, 1316, 123]) ge_L_law rfl (by decide +kernel) (by decide +kernel)) ggL_law_X11_tell
set_option maxRecDepth 20000 in
theorem ggL_law_X12_tell : GoodIn wsL_law wsX12_tell := goodIn_m ge_L_law ge_X12_tell (by decide +kernel) (by decide +kernel)
set_option maxRecDepth 20000 in
theorem gL_law_X12_tell : GoodIn wsL_law (wsV RL 169 RX12 yX12_tell wsX12_tell) := goodIn_app (goodIn_m (cs := [1317, 1318, 1319, 798]) ge_L_law rfl (by decide +kernel) (by decide +kernel)) ggL_law_X12_tell
set_option maxRecDepth 20000 in
theorem ggL_law_X11_check : GoodIn wsL_law wsX11_check := goodIn_m ge_L_law ge_X11_check (by decide +kernel) (by decide +kernel)
set_option maxRecDepth 20000 in
theorem gL_law_X11_check : GoodIn wsL_law (wsV RL 170 RX11 yX11_check wsX11_check) := goodIn_app (goodIn_m (cs := [1320, 1321, 1322, 123]) ge_L_law rfl (by decide +kernel) (by decide +kernel)) ggL_law_X11_check
set_option maxRecDepth 20000 in
theorem ggL_law_X12_check : GoodIn wsL_law wsX12_check := goodIn_m ge_L_law ge_X12_check (by decide +kernel) (by decide +kernel)
set_option maxRecDepth 20000 in
theorem gL_law_X12_check : GoodIn wsL_law (wsV RL 173 RX12 yX12_check wsX12_check) := goodIn_app (goodIn_m (cs := [1323, 1324, 1325, 798]) ge_L_law rfl (by decide +kernel) (by decide +kernel)) ggL_law_X12_check
set_option maxRecDepth 20000 in
theorem ggL_law_X11_count : GoodIn wsL_law wsX11_count := goodIn_m ge_L_law ge_X11_count (by decide +kernel) (by decide +kernel)
set_option maxRecDepth 20000 in
theorem gL_law_X11_count : GoodIn wsL_law (wsV RL 174 RX11 yX11_count wsX11_count) := goodIn_app (goodIn_m (cs := [1326, 1327, 1328, 123]) ge_L_law rfl (by decide +kernel) (by decide +kernel)) ggL_law_X11_count
set_option maxRecDepth 20000 in
theorem ggL_law_X12_count : GoodIn wsL_law wsX12_count := goodIn_m ge_L_law ge_X12_count (by decide +kernel) (by decide +kernel)
set_option maxRecDepth 20000 in
theorem gL_law_X12_count : GoodIn wsL_law (wsV RL 177 RX12 yX12_count wsX12_count) := goodIn_app (goodIn_m (cs := [1329, 1330, 1331, 798]) ge_L_law rfl (by decide +kernel) (by decide +kernel)) ggL_law_X12_count
set_option maxRecDepth 20000 in
theorem ggL_law_X11_told : GoodIn wsL_law wsX11_told := goodIn_m ge_L_law ge_X11_told (by decide +kernel) (by decide +kernel)
set_option maxRecDepth 20000 in
theorem gL_law_X11_told : GoodIn wsL_law (wsV RL 178 RX11 yX11_told wsX11_told) := goodIn_app (goodIn_m (cs := [1332, 1333, 1334, 123]) ge_L_law rfl (by decide +kernel) (by decide +kernel)) ggL_law_X11_told
set_option maxRecDepth 20000 in
theorem ggL_law_X12_told : GoodIn wsL_law wsX12_told := goodIn_m ge_L_law ge_X12_told (by decide +kernel) (by decide +kernel)
set_option maxRecDepth 20000 in
theorem gL_law_X12_told : GoodIn wsL_law (wsV RL 181 RX12 yX12_told wsX12_told) := goodIn_app (goodIn_m (cs := [1335, 1336, 1337, 798]) ge_L_law rfl (by decide +kernel) (by decide +kernel)) ggL_law_X12_told
