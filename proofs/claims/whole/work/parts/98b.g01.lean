set_option maxRecDepth 20000 in
theorem ggX11_best_X11_within : GoodIn wsX11_best wsX11_within := goodIn_m ge_X11_best ge_X11_within (by decide +kernel) (by decide +kernel)
set_option maxRecDepth 20000 in
theorem gX11_best_X11_within : GoodIn wsX11_best (va_wsS RX11 78 yX11_within wsX11_within) := goodIn_app (goodIn_m (cs := [420, 122, 123]) ge_X11_best rfl (by decide +kernel) (by decide +kernel)) ggX11_best_X11_within
set_option maxRecDepth 20000 in
theorem ggX11_best_X11_error : GoodIn wsX11_best wsX11_error := goodIn_m ge_X11_best ge_X11_error (by decide +kernel) (by decide +kernel)
set_option maxRecDepth 20000 in
theorem gX11_best_X11_error : GoodIn wsX11_best (wsV RX11 82 RX11 yX11_error wsX11_error) := goodIn_app (goodIn_m (cs := [587, 588, 589, 123]) ge_X11_best rfl (by decide +kernel) (by decide +kernel)) ggX11_best_X11_error
set_option maxRecDepth 20000 in
theorem ggX11_best_X11_kindOf : GoodIn wsX11_best wsX11_kindOf := goodIn_m ge_X11_best ge_X11_kindOf (by decide +kernel) (by decide +kernel)
set_option maxRecDepth 20000 in
theorem gX11_best_X11_kindOf : GoodIn wsX11_best (wsV RX11 145 RX11 yX11_kindOf wsX11_kindOf) := goodIn_app (goodIn_m (cs := [621, 622, 623, 123]) ge_X11_best rfl (by decide +kernel) (by decide +kernel)) ggX11_best_X11_kindOf
set_option maxRecDepth 20000 in
theorem ggX11_best_X11_bestFrom : GoodIn wsX11_best wsX11_bestFrom := goodIn_m ge_X11_best ge_X11_bestFrom (by decide +kernel) (by decide +kernel)
set_option maxRecDepth 20000 in
theorem gX11_best_X11_bestFrom : GoodIn wsX11_best (wsV RX11 226 RX11 yX11_bestFrom wsX11_bestFrom) := goodIn_app (goodIn_m (cs := [695, 696, 697, 123]) ge_X11_best rfl (by decide +kernel) (by decide +kernel)) ggX11_best_X11_bestFrom
set_option maxRecDepth 20000 in
theorem ggX11_best_X11_partOfBest : GoodIn wsX11_best wsX11_partOfBest := goodIn_m ge_X11_best ge_X11_partOfBest (by decide +kernel) (by decide +kernel)
set_option maxRecDepth 20000 in
theorem gX11_best_X11_partOfBest : GoodIn wsX11_best (va_wsS RX11 230 yX11_partOfBest wsX11_partOfBest) := goodIn_app (goodIn_m (cs := [702, 703, 123]) ge_X11_best rfl (by decide +kernel) (by decide +kernel)) ggX11_best_X11_partOfBest
set_option maxRecDepth 20000 in
theorem ggX11_bestTwo_X11_isTool : GoodIn wsX11_bestTwo wsX11_isTool := goodIn_m ge_X11_bestTwo ge_X11_isTool (by decide +kernel) (by decide +kernel)
set_option maxRecDepth 20000 in
theorem gX11_bestTwo_X11_isTool : GoodIn wsX11_bestTwo (wsV RX11 142 RX11 yX11_isTool wsX11_isTool) := goodIn_app (goodIn_m (cs := [617, 618, 619, 123]) ge_X11_bestTwo rfl (by decide +kernel) (by decide +kernel)) ggX11_bestTwo_X11_isTool
set_option maxRecDepth 20000 in
theorem ggX11_bestTwo_X11_within : GoodIn wsX11_bestTwo wsX11_within := goodIn_m ge_X11_bestTwo ge_X11_within (by decide +kernel) (by decide +kernel)
set_option maxRecDepth 20000 in
theorem gX11_bestTwo_X11_within : GoodIn wsX11_bestTwo (va_wsS RX11 78 yX11_within wsX11_within) := goodIn_app (goodIn_m (cs := [420, 122, 123]) ge_X11_bestTwo rfl (by decide +kernel) (by decide +kernel)) ggX11_bestTwo_X11_within
set_option maxRecDepth 20000 in
theorem ggX11_bestTwo_X11_error : GoodIn wsX11_bestTwo wsX11_error := goodIn_m ge_X11_bestTwo ge_X11_error (by decide +kernel) (by decide +kernel)
set_option maxRecDepth 20000 in
theorem gX11_bestTwo_X11_error : GoodIn wsX11_bestTwo (wsV RX11 82 RX11 yX11_error wsX11_error) := goodIn_app (goodIn_m (cs := [587, 588, 589, 123]) ge_X11_bestTwo rfl (by decide +kernel) (by decide +kernel)) ggX11_bestTwo_X11_error
set_option maxRecDepth 20000 in
theorem ggX11_bestTwo_X11_kindOf : GoodIn wsX11_bestTwo wsX11_kindOf := goodIn_m ge_X11_bestTwo ge_X11_kindOf (by decide +kernel) (by decide +kernel)
set_option maxRecDepth 20000 in
theorem gX11_bestTwo_X11_kindOf : GoodIn wsX11_bestTwo (wsV RX11 145 RX11 yX11_kindOf wsX11_kindOf) := goodIn_app (goodIn_m (cs := [621, 622, 623, 123]) ge_X11_bestTwo rfl (by decide +kernel) (by decide +kernel)) ggX11_bestTwo_X11_kindOf
set_option maxRecDepth 20000 in
theorem ggX11_bestTwo_X10_cells : GoodIn wsX11_bestTwo wsX10_cells := goodIn_m ge_X11_bestTwo ge_X10_cells (by decide +kernel) (by decide +kernel)
set_option maxRecDepth 20000 in
theorem gX11_bestTwo_X10_cells : GoodIn wsX11_bestTwo (wsV RX11 93 RX10 yX10_cells wsX10_cells) := goodIn_app (goodIn_m (cs := [595, 596, 597, 320]) ge_X11_bestTwo rfl (by decide +kernel) (by decide +kernel)) ggX11_bestTwo_X10_cells
set_option maxRecDepth 20000 in
theorem ggX11_bestTwo_X10_copy : GoodIn wsX11_bestTwo wsX10_copy := goodIn_m ge_X11_bestTwo ge_X10_copy (by decide +kernel) (by decide +kernel)
set_option maxRecDepth 20000 in
theorem gX11_bestTwo_X10_copy : GoodIn wsX11_bestTwo (wsV RX11 236 RX10 yX10_copy wsX10_copy) := goodIn_app (goodIn_m (cs := [700, 379, 380, 320]) ge_X11_bestTwo rfl (by decide +kernel) (by decide +kernel)) ggX11_bestTwo_X10_copy
set_option maxRecDepth 20000 in
theorem ggX11_bestTwo_X10_strike : GoodIn wsX11_bestTwo wsX10_strike := goodIn_m ge_X11_bestTwo ge_X10_strike (by decide +kernel) (by decide +kernel)
set_option maxRecDepth 20000 in
theorem gX11_bestTwo_X10_strike : GoodIn wsX11_bestTwo (wsV RX11 194 RX10 yX10_strike wsX10_strike) := goodIn_app (goodIn_m (cs := [663, 664, 665, 320]) ge_X11_bestTwo rfl (by decide +kernel) (by decide +kernel)) ggX11_bestTwo_X10_strike
set_option maxRecDepth 20000 in
theorem ggX11_bestTwo_X11_bestFrom : GoodIn wsX11_bestTwo wsX11_bestFrom := goodIn_m ge_X11_bestTwo ge_X11_bestFrom (by decide +kernel) (by decide +kernel)
set_option maxRecDepth 20000 in
theorem gX11_bestTwo_X11_bestFrom : GoodIn wsX11_bestTwo (wsV RX11 226 RX11 yX11_bestFrom wsX11_bestFrom) := goodIn_app (goodIn_m (cs := [695, 696, 697, 123]) ge_X11_bestTwo rfl (by decide +kernel) (by decide +kernel)) ggX11_bestTwo_X11_bestFrom
set_option maxRecDepth 20000 in
theorem ggX11_bestTwo_X11_partOfBest : GoodIn wsX11_bestTwo wsX11_partOfBest := goodIn_m ge_X11_bestTwo ge_X11_partOfBest (by decide +kernel) (by decide +kernel)
set_option maxRecDepth 20000 in
theorem gX11_bestTwo_X11_partOfBest : GoodIn wsX11_bestTwo (va_wsS RX11 230 yX11_partOfBest wsX11_partOfBest) := goodIn_app (goodIn_m (cs := [702, 703, 123]) ge_X11_bestTwo rfl (by decide +kernel) (by decide +kernel)) ggX11_bestTwo_X11_partOfBest
set_option maxRecDepth 20000 in
theorem ggX11_goneBy_X11_isCell : GoodIn wsX11_goneBy wsX11_isCell := goodIn_m ge_X11_goneBy ge_X11_isCell (by decide +kernel) (by decide +kernel)
set_option maxRecDepth 20000 in
theorem gX11_goneBy_X11_isCell : GoodIn wsX11_goneBy (wsV RX11 97 RX11 yX11_isCell wsX11_isCell) := goodIn_app (goodIn_m (cs := [600, 601, 602, 123]) ge_X11_goneBy rfl (by decide +kernel) (by decide +kernel)) ggX11_goneBy_X11_isCell
set_option maxRecDepth 20000 in
theorem ggX11_goneBy_X11_error : GoodIn wsX11_goneBy wsX11_error := goodIn_m ge_X11_goneBy ge_X11_error (by decide +kernel) (by decide +kernel)
set_option maxRecDepth 20000 in
theorem gX11_goneBy_X11_error : GoodIn wsX11_goneBy (wsV RX11 82 RX11 yX11_error wsX11_error) := goodIn_app (goodIn_m (cs := [587, 588, 589, 123]) ge_X11_goneBy rfl (by decide +kernel) (by decide +kernel)) ggX11_goneBy_X11_error
set_option maxRecDepth 20000 in
theorem ggX11_goneBy_X11_nightsToGo : GoodIn wsX11_goneBy wsX11_nightsToGo := goodIn_m ge_X11_goneBy ge_X11_nightsToGo (by decide +kernel) (by decide +kernel)
set_option maxRecDepth 20000 in
theorem gX11_goneBy_X11_nightsToGo : GoodIn wsX11_goneBy (va_wsS RX11 240 yX11_nightsToGo wsX11_nightsToGo) := goodIn_app (goodIn_m (cs := [707, 708, 123]) ge_X11_goneBy rfl (by decide +kernel) (by decide +kernel)) ggX11_goneBy_X11_nightsToGo
set_option maxRecDepth 20000 in
theorem ggX11_never_X10_cells : GoodIn wsX11_never wsX10_cells := goodIn_m ge_X11_never ge_X10_cells (by decide +kernel) (by decide +kernel)
set_option maxRecDepth 20000 in
theorem gX11_never_X10_cells : GoodIn wsX11_never (wsV RX11 93 RX10 yX10_cells wsX10_cells) := goodIn_app (goodIn_m (cs := [595, 596, 597, 320]) ge_X11_never rfl (by decide +kernel) (by decide +kernel)) ggX11_never_X10_cells
set_option maxRecDepth 20000 in
theorem ggX11_never_X11_nightsToGo : GoodIn wsX11_never wsX11_nightsToGo := goodIn_m ge_X11_never ge_X11_nightsToGo (by decide +kernel) (by decide +kernel)
set_option maxRecDepth 20000 in
theorem gX11_never_X11_nightsToGo : GoodIn wsX11_never (va_wsS RX11 240 yX11_nightsToGo wsX11_nightsToGo) := goodIn_app (goodIn_m (cs := [707, 708, 123]) ge_X11_never rfl (by decide +kernel) (by decide +kernel)) ggX11_never_X11_nightsToGo
set_option maxRecDepth 20000 in
theorem ggX11_needs_X11_isCell : GoodIn wsX11_needs wsX11_isCell := goodIn_m ge_X11_needs ge_X11_isCell (by decide +kernel) (by decide +kernel)
set_option maxRecDepth 20000 in
theorem gX11_needs_X11_isCell : GoodIn wsX11_needs (wsV RX11 97 RX11 yX11_isCell wsX11_isCell) := goodIn_app (goodIn_m (cs := [600, 601, 602, 123]) ge_X11_needs rfl (by decide +kernel) (by decide +kernel)) ggX11_needs_X11_isCell
set_option maxRecDepth 20000 in
theorem ggX11_needs_X11_within : GoodIn wsX11_needs wsX11_within := goodIn_m ge_X11_needs ge_X11_within (by decide +kernel) (by decide +kernel)
set_option maxRecDepth 20000 in
theorem gX11_needs_X11_within : GoodIn wsX11_needs (va_wsS RX11 78 yX11_within wsX11_within) := goodIn_app (goodIn_m (cs := [420, 122, 123]) ge_X11_needs rfl (by decide +kernel) (by decide +kernel)) ggX11_needs_X11_within
set_option maxRecDepth 20000 in
theorem ggX11_needs_X11_error : GoodIn wsX11_needs wsX11_error := goodIn_m ge_X11_needs ge_X11_error (by decide +kernel) (by decide +kernel)
set_option maxRecDepth 20000 in
theorem gX11_needs_X11_error : GoodIn wsX11_needs (wsV RX11 82 RX11 yX11_error wsX11_error) := goodIn_app (goodIn_m (cs := [587, 588, 589, 123]) ge_X11_needs rfl (by decide +kernel) (by decide +kernel)) ggX11_needs_X11_error
set_option maxRecDepth 20000 in
theorem ggX11_needs_X11_nightsToGo : GoodIn wsX11_needs wsX11_nightsToGo := goodIn_m ge_X11_needs ge_X11_nightsToGo (by decide +kernel) (by decide +kernel)
set_option maxRecDepth 20000 in
theorem gX11_needs_X11_nightsToGo : GoodIn wsX11_needs (va_wsS RX11 240 yX11_nightsToGo wsX11_nightsToGo) := goodIn_app (goodIn_m (cs := [707, 708, 123]) ge_X11_needs rfl (by decide +kernel) (by decide +kernel)) ggX11_needs_X11_nightsToGo
set_option maxRecDepth 20000 in
theorem ggX11_lamp_X11_isWay : GoodIn wsX11_lamp wsX11_isWay := goodIn_m ge_X11_lamp ge_X11_isWay (by decide +kernel) (by decide +kernel)
set_option maxRecDepth 20000 in
theorem gX11_lamp_X11_isWay : GoodIn wsX11_lamp (va_wsS RX11 126 yX11_isWay wsX11_isWay) := goodIn_app (goodIn_m (cs := [613, 418, 123]) ge_X11_lamp rfl (by decide +kernel) (by decide +kernel)) ggX11_lamp_X11_isWay
set_option maxRecDepth 20000 in
theorem ggX11_lamp_X11_error : GoodIn wsX11_lamp wsX11_error := goodIn_m ge_X11_lamp ge_X11_error (by decide +kernel) (by decide +kernel)
set_option maxRecDepth 20000 in
theorem gX11_lamp_X11_error : GoodIn wsX11_lamp (wsV RX11 82 RX11 yX11_error wsX11_error) := goodIn_app (goodIn_m (cs := [587, 588, 589, 123]) ge_X11_lamp rfl (by decide +kernel) (by decide +kernel)) ggX11_lamp_X11_error
set_option maxRecDepth 20000 in
theorem ggX11_lamp_X10_cells : GoodIn wsX11_lamp wsX10_cells := goodIn_m ge_X11_lamp ge_X10_cells (by decide +kernel) (by decide +kernel)
set_option maxRecDepth 20000 in
theorem gX11_lamp_X10_cells : GoodIn wsX11_lamp (wsV RX11 93 RX10 yX10_cells wsX10_cells) := goodIn_app (goodIn_m (cs := [595, 596, 597, 320]) ge_X11_lamp rfl (by decide +kernel) (by decide +kernel)) ggX11_lamp_X10_cells
set_option maxRecDepth 20000 in
theorem ggX11_lamp_X10_isLit : GoodIn wsX11_lamp wsX10_isLit := goodIn_m ge_X11_lamp ge_X10_isLit (by decide +kernel) (by decide +kernel)
set_option maxRecDepth 20000 in
theorem gX11_lamp_X10_isLit : GoodIn wsX11_lamp (wsV RX11 243 RX10 yX10_isLit wsX10_isLit) := goodIn_app (goodIn_m (cs := [714, 715, 716, 320]) ge_X11_lamp rfl (by decide +kernel) (by decide +kernel)) ggX11_lamp_X10_isLit
set_option maxRecDepth 20000 in
theorem ggX11_came_X11_isTool : GoodIn wsX11_came wsX11_isTool := goodIn_m ge_X11_came ge_X11_isTool (by decide +kernel) (by decide +kernel)
set_option maxRecDepth 20000 in
theorem gX11_came_X11_isTool : GoodIn wsX11_came (wsV RX11 142 RX11 yX11_isTool wsX11_isTool) := goodIn_app (goodIn_m (cs := [617, 618, 619, 123]) ge_X11_came rfl (by decide +kernel) (by decide +kernel)) ggX11_came_X11_isTool
set_option maxRecDepth 20000 in
theorem ggX11_came_X11_isCell : GoodIn wsX11_came wsX11_isCell := goodIn_m ge_X11_came ge_X11_isCell (by decide +kernel) (by decide +kernel)
set_option maxRecDepth 20000 in
theorem gX11_came_X11_isCell : GoodIn wsX11_came (wsV RX11 97 RX11 yX11_isCell wsX11_isCell) := goodIn_app (goodIn_m (cs := [600, 601, 602, 123]) ge_X11_came rfl (by decide +kernel) (by decide +kernel)) ggX11_came_X11_isCell
set_option maxRecDepth 20000 in
theorem ggX11_came_X11_isWay : GoodIn wsX11_came wsX11_isWay := goodIn_m ge_X11_came ge_X11_isWay (by decide +kernel) (by decide +kernel)
set_option maxRecDepth 20000 in
theorem gX11_came_X11_isWay : GoodIn wsX11_came (va_wsS RX11 126 yX11_isWay wsX11_isWay) := goodIn_app (goodIn_m (cs := [613, 418, 123]) ge_X11_came rfl (by decide +kernel) (by decide +kernel)) ggX11_came_X11_isWay
set_option maxRecDepth 20000 in
theorem ggX11_came_X11_isSheet : GoodIn wsX11_came wsX11_isSheet := goodIn_m ge_X11_came ge_X11_isSheet (by decide +kernel) (by decide +kernel)
set_option maxRecDepth 20000 in
theorem gX11_came_X11_isSheet : GoodIn wsX11_came (va_wsS RX11 247 yX11_isSheet wsX11_isSheet) := goodIn_app (goodIn_m (cs := [718, 719, 123]) ge_X11_came rfl (by decide +kernel) (by decide +kernel)) ggX11_came_X11_isSheet
set_option maxRecDepth 20000 in
theorem ggX11_came_X11_error : GoodIn wsX11_came wsX11_error := goodIn_m ge_X11_came ge_X11_error (by decide +kernel) (by decide +kernel)
set_option maxRecDepth 20000 in
theorem gX11_came_X11_error : GoodIn wsX11_came (wsV RX11 82 RX11 yX11_error wsX11_error) := goodIn_app (goodIn_m (cs := [587, 588, 589, 123]) ge_X11_came rfl (by decide +kernel) (by decide +kernel)) ggX11_came_X11_error
set_option maxRecDepth 20000 in
theorem ggX11_came_X11_isMissing : GoodIn wsX11_came wsX11_isMissing := goodIn_m ge_X11_came ge_X11_isMissing (by decide +kernel) (by decide +kernel)
set_option maxRecDepth 20000 in
theorem gX11_came_X11_isMissing : GoodIn wsX11_came (wsV RX11 250 RX11 yX11_isMissing wsX11_isMissing) := goodIn_app (goodIn_m (cs := [721, 722, 723, 123]) ge_X11_came rfl (by decide +kernel) (by decide +kernel)) ggX11_came_X11_isMissing
set_option maxRecDepth 20000 in
theorem ggX11_came_X10_copy : GoodIn wsX11_came wsX10_copy := goodIn_m ge_X11_came ge_X10_copy (by decide +kernel) (by decide +kernel)
set_option maxRecDepth 20000 in
theorem gX11_came_X10_copy : GoodIn wsX11_came (wsV RX11 236 RX10 yX10_copy wsX10_copy) := goodIn_app (goodIn_m (cs := [700, 379, 380, 320]) ge_X11_came rfl (by decide +kernel) (by decide +kernel)) ggX11_came_X10_copy
set_option maxRecDepth 20000 in
theorem ggX11_came_X11_kindAt : GoodIn wsX11_came wsX11_kindAt := goodIn_m ge_X11_came ge_X11_kindAt (by decide +kernel) (by decide +kernel)
set_option maxRecDepth 20000 in
theorem gX11_came_X11_kindAt : GoodIn wsX11_came (wsV RX11 253 RX11 yX11_kindAt wsX11_kindAt) := goodIn_app (goodIn_m (cs := [625, 626, 627, 123]) ge_X11_came rfl (by decide +kernel) (by decide +kernel)) ggX11_came_X11_kindAt
set_option maxRecDepth 20000 in
theorem ggX11_came_X10_strike : GoodIn wsX11_came wsX10_strike := goodIn_m ge_X11_came ge_X10_strike (by decide +kernel) (by decide +kernel)
set_option maxRecDepth 20000 in
theorem gX11_came_X10_strike : GoodIn wsX11_came (wsV RX11 194 RX10 yX10_strike wsX10_strike) := goodIn_app (goodIn_m (cs := [663, 664, 665, 320]) ge_X11_came rfl (by decide +kernel) (by decide +kernel)) ggX11_came_X10_strike
set_option maxRecDepth 20000 in
theorem ggX11_came_X11_firstUnlike : GoodIn wsX11_came wsX11_firstUnlike := goodIn_m ge_X11_came ge_X11_firstUnlike (by decide +kernel) (by decide +kernel)
set_option maxRecDepth 20000 in
theorem gX11_came_X11_firstUnlike : GoodIn wsX11_came (wsV RX11 256 RX11 yX11_firstUnlike wsX11_firstUnlike) := goodIn_app (goodIn_m (cs := [725, 726, 727, 123]) ge_X11_came rfl (by decide +kernel) (by decide +kernel)) ggX11_came_X11_firstUnlike
set_option maxRecDepth 20000 in
theorem ggX11_odds_X11_isTool : GoodIn wsX11_odds wsX11_isTool := goodIn_m ge_X11_odds ge_X11_isTool (by decide +kernel) (by decide +kernel)
set_option maxRecDepth 20000 in
theorem gX11_odds_X11_isTool : GoodIn wsX11_odds (wsV RX11 142 RX11 yX11_isTool wsX11_isTool) := goodIn_app (goodIn_m (cs := [617, 618, 619, 123]) ge_X11_odds rfl (by decide +kernel) (by decide +kernel)) ggX11_odds_X11_isTool
set_option maxRecDepth 20000 in
theorem ggX11_odds_X11_isCell : GoodIn wsX11_odds wsX11_isCell := goodIn_m ge_X11_odds ge_X11_isCell (by decide +kernel) (by decide +kernel)
set_option maxRecDepth 20000 in
theorem gX11_odds_X11_isCell : GoodIn wsX11_odds (wsV RX11 97 RX11 yX11_isCell wsX11_isCell) := goodIn_app (goodIn_m (cs := [600, 601, 602, 123]) ge_X11_odds rfl (by decide +kernel) (by decide +kernel)) ggX11_odds_X11_isCell
set_option maxRecDepth 20000 in
theorem ggX11_odds_X11_within : GoodIn wsX11_odds wsX11_within := goodIn_m ge_X11_odds ge_X11_within (by decide +kernel) (by decide +kernel)
set_option maxRecDepth 20000 in
theorem gX11_odds_X11_within : GoodIn wsX11_odds (va_wsS RX11 78 yX11_within wsX11_within) := goodIn_app (goodIn_m (cs := [420, 122, 123]) ge_X11_odds rfl (by decide +kernel) (by decide +kernel)) ggX11_odds_X11_within
set_option maxRecDepth 20000 in
theorem ggX11_odds_X11_error : GoodIn wsX11_odds wsX11_error := goodIn_m ge_X11_odds ge_X11_error (by decide +kernel) (by decide +kernel)
set_option maxRecDepth 20000 in
theorem gX11_odds_X11_error : GoodIn wsX11_odds (wsV RX11 82 RX11 yX11_error wsX11_error) := goodIn_app (goodIn_m (cs := [587, 588, 589, 123]) ge_X11_odds rfl (by decide +kernel) (by decide +kernel)) ggX11_odds_X11_error
set_option maxRecDepth 20000 in
theorem ggX11_odds_X10_copy : GoodIn wsX11_odds wsX10_copy := goodIn_m ge_X11_odds ge_X10_copy (by decide +kernel) (by decide +kernel)
set_option maxRecDepth 20000 in
theorem gX11_odds_X10_copy : GoodIn wsX11_odds (wsV RX11 236 RX10 yX10_copy wsX10_copy) := goodIn_app (goodIn_m (cs := [700, 379, 380, 320]) ge_X11_odds rfl (by decide +kernel) (by decide +kernel)) ggX11_odds_X10_copy
set_option maxRecDepth 20000 in
theorem ggX11_odds_X11_kindOf : GoodIn wsX11_odds wsX11_kindOf := goodIn_m ge_X11_odds ge_X11_kindOf (by decide +kernel) (by decide +kernel)
set_option maxRecDepth 20000 in
theorem gX11_odds_X11_kindOf : GoodIn wsX11_odds (wsV RX11 145 RX11 yX11_kindOf wsX11_kindOf) := goodIn_app (goodIn_m (cs := [621, 622, 623, 123]) ge_X11_odds rfl (by decide +kernel) (by decide +kernel)) ggX11_odds_X11_kindOf
set_option maxRecDepth 20000 in
theorem ggX11_odds_X10_strike : GoodIn wsX11_odds wsX10_strike := goodIn_m ge_X11_odds ge_X10_strike (by decide +kernel) (by decide +kernel)
set_option maxRecDepth 20000 in
theorem gX11_odds_X10_strike : GoodIn wsX11_odds (wsV RX11 194 RX10 yX10_strike wsX10_strike) := goodIn_app (goodIn_m (cs := [663, 664, 665, 320]) ge_X11_odds rfl (by decide +kernel) (by decide +kernel)) ggX11_odds_X10_strike
set_option maxRecDepth 20000 in
theorem ggX11_odds_X10_shownBy : GoodIn wsX11_odds wsX10_shownBy := goodIn_m ge_X11_odds ge_X10_shownBy (by decide +kernel) (by decide +kernel)
set_option maxRecDepth 20000 in
theorem gX11_odds_X10_shownBy : GoodIn wsX11_odds (wsV RX11 210 RX10 yX10_shownBy wsX10_shownBy) := goodIn_app (goodIn_m (cs := [680, 681, 682, 320]) ge_X11_odds rfl (by decide +kernel) (by decide +kernel)) ggX11_odds_X10_shownBy
set_option maxRecDepth 20000 in
theorem ggX11_voice_X11_isTool : GoodIn wsX11_voice wsX11_isTool := goodIn_m ge_X11_voice ge_X11_isTool (by decide +kernel) (by decide +kernel)
set_option maxRecDepth 20000 in
theorem gX11_voice_X11_isTool : GoodIn wsX11_voice (wsV RX11 142 RX11 yX11_isTool wsX11_isTool) := goodIn_app (goodIn_m (cs := [617, 618, 619, 123]) ge_X11_voice rfl (by decide +kernel) (by decide +kernel)) ggX11_voice_X11_isTool
set_option maxRecDepth 20000 in
theorem ggX11_voice_X11_within : GoodIn wsX11_voice wsX11_within := goodIn_m ge_X11_voice ge_X11_within (by decide +kernel) (by decide +kernel)
set_option maxRecDepth 20000 in
theorem gX11_voice_X11_within : GoodIn wsX11_voice (va_wsS RX11 78 yX11_within wsX11_within) := goodIn_app (goodIn_m (cs := [420, 122, 123]) ge_X11_voice rfl (by decide +kernel) (by decide +kernel)) ggX11_voice_X11_within
set_option maxRecDepth 20000 in
theorem ggX11_voice_X11_error : GoodIn wsX11_voice wsX11_error := goodIn_m ge_X11_voice ge_X11_error (by decide +kernel) (by decide +kernel)
set_option maxRecDepth 20000 in
theorem gX11_voice_X11_error : GoodIn wsX11_voice (wsV RX11 82 RX11 yX11_error wsX11_error) := goodIn_app (goodIn_m (cs := [587, 588, 589, 123]) ge_X11_voice rfl (by decide +kernel) (by decide +kernel)) ggX11_voice_X11_error
set_option maxRecDepth 20000 in
theorem ggX11_voice_X9_start : GoodIn wsX11_voice wsX9_start := goodIn_m ge_X11_voice ge_X9_start (by decide +kernel) (by decide +kernel)
set_option maxRecDepth 20000 in
theorem gX11_voice_X9_start : GoodIn wsX11_voice (wsV RX11 263 RX9 yX9_start wsX9_start) := goodIn_app (goodIn_m (cs := [731, 732, 733, 17]) ge_X11_voice rfl (by decide +kernel) (by decide +kernel)) ggX11_voice_X9_start
set_option maxRecDepth 20000 in
theorem ggX11_voice_X11_kindOf : GoodIn wsX11_voice wsX11_kindOf := goodIn_m ge_X11_voice ge_X11_kindOf (by decide +kernel) (by decide +kernel)
set_option maxRecDepth 20000 in
theorem gX11_voice_X11_kindOf : GoodIn wsX11_voice (wsV RX11 145 RX11 yX11_kindOf wsX11_kindOf) := goodIn_app (goodIn_m (cs := [621, 622, 623, 123]) ge_X11_voice rfl (by decide +kernel) (by decide +kernel)) ggX11_voice_X11_kindOf
set_option maxRecDepth 20000 in
theorem ggX11_voice_X0_sayMoves : GoodIn wsX11_voice wsX0_sayMoves := goodIn_m ge_X11_voice ge_X0_sayMoves (by decide +kernel) (by decide +kernel)
set_option maxRecDepth 20000 in
theorem gX11_voice_X0_sayMoves_u266X0 : GoodIn wsX11_voice (va_wsO RX11 266 RX0 "PaperBubbles$Tool" ⟨"PaperBubbles$Tool", "sayMoves", "(ILPaperBubbles$Voice;)I"⟩ yX0_sayMoves wsX0_sayMoves) := goodIn_app (goodIn_m (cs := [737, 22, 23, 74, 75, 76]) ge_X11_voice rfl (by decide +kernel) (by decide +kernel)) ggX11_voice_X0_sayMoves
set_option maxRecDepth 20000 in
theorem ggX11_voice_X8_sayMoves : GoodIn wsX11_voice wsX8_sayMoves := goodIn_m ge_X11_voice ge_X8_sayMoves (by decide +kernel) (by decide +kernel)
set_option maxRecDepth 20000 in
theorem gX11_voice_X8_sayMoves_u266X1 : GoodIn wsX11_voice (va_wsU RX11 266 RX1 "PaperBubbles$Tool" ⟨"PaperBubbles$Tool", "sayMoves", "(ILPaperBubbles$Voice;)I"⟩ yX8_sayMoves wsX8_sayMoves) := goodIn_app (goodIn_m (cs := [737, 22, 77, 23, 2]) ge_X11_voice rfl (by decide +kernel) (by decide +kernel)) ggX11_voice_X8_sayMoves
set_option maxRecDepth 20000 in
theorem gX11_voice_X8_sayMoves_u266X2 : GoodIn wsX11_voice (va_wsU RX11 266 RX2 "PaperBubbles$Tool" ⟨"PaperBubbles$Tool", "sayMoves", "(ILPaperBubbles$Voice;)I"⟩ yX8_sayMoves wsX8_sayMoves) := goodIn_app (goodIn_m (cs := [737, 22, 78, 23, 2]) ge_X11_voice rfl (by decide +kernel) (by decide +kernel)) ggX11_voice_X8_sayMoves
set_option maxRecDepth 20000 in
theorem gX11_voice_X8_sayMoves_u266X4 : GoodIn wsX11_voice (va_wsU RX11 266 RX4 "PaperBubbles$Tool" ⟨"PaperBubbles$Tool", "sayMoves", "(ILPaperBubbles$Voice;)I"⟩ yX8_sayMoves wsX8_sayMoves) := goodIn_app (goodIn_m (cs := [737, 22, 79, 23, 2]) ge_X11_voice rfl (by decide +kernel) (by decide +kernel)) ggX11_voice_X8_sayMoves
set_option maxRecDepth 20000 in
theorem gX11_voice_X8_sayMoves_u266X5 : GoodIn wsX11_voice (va_wsU RX11 266 RX5 "PaperBubbles$Tool" ⟨"PaperBubbles$Tool", "sayMoves", "(ILPaperBubbles$Voice;)I"⟩ yX8_sayMoves wsX8_sayMoves) := goodIn_app (goodIn_m (cs := [737, 22, 80, 23, 2]) ge_X11_voice rfl (by decide +kernel) (by decide +kernel)) ggX11_voice_X8_sayMoves
set_option maxRecDepth 20000 in
theorem gX11_voice_X0_sayMoves_u266X6 : GoodIn wsX11_voice (va_wsO RX11 266 RX6 "PaperBubbles$Tool" ⟨"PaperBubbles$Tool", "sayMoves", "(ILPaperBubbles$Voice;)I"⟩ yX0_sayMoves wsX0_sayMoves) := goodIn_app (goodIn_m (cs := [737, 22, 23, 81, 75, 76]) ge_X11_voice rfl (by decide +kernel) (by decide +kernel)) ggX11_voice_X0_sayMoves
set_option maxRecDepth 20000 in
theorem gX11_voice_X8_sayMoves : GoodIn wsX11_voice (wsV RX11 266 RX8 yX8_sayMoves wsX8_sayMoves) := goodIn_app (goodIn_m (cs := [737, 23, 82, 2]) ge_X11_voice rfl (by decide +kernel) (by decide +kernel)) ggX11_voice_X8_sayMoves
set_option maxRecDepth 20000 in
theorem ggX11_voice_X8_sayLets : GoodIn wsX11_voice wsX8_sayLets := goodIn_m ge_X11_voice ge_X8_sayLets (by decide +kernel) (by decide +kernel)
set_option maxRecDepth 20000 in
theorem gX11_voice_X8_sayLets_u270X0 : GoodIn wsX11_voice (va_wsU RX11 270 RX0 "PaperBubbles$Tool" ⟨"PaperBubbles$Tool", "sayLets", "(ILPaperBubbles$Voice;)I"⟩ yX8_sayLets wsX8_sayLets) := goodIn_app (goodIn_m (cs := [738, 108, 397, 71, 2]) ge_X11_voice rfl (by decide +kernel) (by decide +kernel)) ggX11_voice_X8_sayLets
set_option maxRecDepth 20000 in
theorem gX11_voice_X8_sayLets_u270X1 : GoodIn wsX11_voice (va_wsU RX11 270 RX1 "PaperBubbles$Tool" ⟨"PaperBubbles$Tool", "sayLets", "(ILPaperBubbles$Voice;)I"⟩ yX8_sayLets wsX8_sayLets) := goodIn_app (goodIn_m (cs := [738, 108, 398, 71, 2]) ge_X11_voice rfl (by decide +kernel) (by decide +kernel)) ggX11_voice_X8_sayLets
set_option maxRecDepth 20000 in
theorem ggX11_voice_X2_sayLets : GoodIn wsX11_voice wsX2_sayLets := goodIn_m ge_X11_voice ge_X2_sayLets (by decide +kernel) (by decide +kernel)
set_option maxRecDepth 20000 in
theorem gX11_voice_X2_sayLets_u270X2 : GoodIn wsX11_voice (va_wsO RX11 270 RX2 "PaperBubbles$Tool" ⟨"PaperBubbles$Tool", "sayLets", "(ILPaperBubbles$Voice;)I"⟩ yX2_sayLets wsX2_sayLets) := goodIn_app (goodIn_m (cs := [738, 108, 71, 399, 400, 401]) ge_X11_voice rfl (by decide +kernel) (by decide +kernel)) ggX11_voice_X2_sayLets
set_option maxRecDepth 20000 in
theorem ggX11_voice_X4_sayLets : GoodIn wsX11_voice wsX4_sayLets := goodIn_m ge_X11_voice ge_X4_sayLets (by decide +kernel) (by decide +kernel)
set_option maxRecDepth 20000 in
theorem gX11_voice_X4_sayLets_u270X4 : GoodIn wsX11_voice (va_wsO RX11 270 RX4 "PaperBubbles$Tool" ⟨"PaperBubbles$Tool", "sayLets", "(ILPaperBubbles$Voice;)I"⟩ yX4_sayLets wsX4_sayLets) := goodIn_app (goodIn_m (cs := [738, 108, 71, 402, 104, 85]) ge_X11_voice rfl (by decide +kernel) (by decide +kernel)) ggX11_voice_X4_sayLets
set_option maxRecDepth 20000 in
theorem gX11_voice_X8_sayLets_u270X5 : GoodIn wsX11_voice (va_wsU RX11 270 RX5 "PaperBubbles$Tool" ⟨"PaperBubbles$Tool", "sayLets", "(ILPaperBubbles$Voice;)I"⟩ yX8_sayLets wsX8_sayLets) := goodIn_app (goodIn_m (cs := [738, 108, 403, 71, 2]) ge_X11_voice rfl (by decide +kernel) (by decide +kernel)) ggX11_voice_X8_sayLets
set_option maxRecDepth 20000 in
theorem gX11_voice_X8_sayLets_u270X6 : GoodIn wsX11_voice (va_wsU RX11 270 RX6 "PaperBubbles$Tool" ⟨"PaperBubbles$Tool", "sayLets", "(ILPaperBubbles$Voice;)I"⟩ yX8_sayLets wsX8_sayLets) := goodIn_app (goodIn_m (cs := [738, 108, 404, 71, 2]) ge_X11_voice rfl (by decide +kernel) (by decide +kernel)) ggX11_voice_X8_sayLets
set_option maxRecDepth 20000 in
theorem gX11_voice_X8_sayLets : GoodIn wsX11_voice (wsV RX11 270 RX8 yX8_sayLets wsX8_sayLets) := goodIn_app (goodIn_m (cs := [738, 71, 405, 2]) ge_X11_voice rfl (by decide +kernel) (by decide +kernel)) ggX11_voice_X8_sayLets
set_option maxRecDepth 20000 in
theorem ggX11_voice_X8_sayTears : GoodIn wsX11_voice wsX8_sayTears := goodIn_m ge_X11_voice ge_X8_sayTears (by decide +kernel) (by decide +kernel)
set_option maxRecDepth 20000 in
theorem gX11_voice_X8_sayTears_u273X0 : GoodIn wsX11_voice (va_wsU RX11 273 RX0 "PaperBubbles$Tool" ⟨"PaperBubbles$Tool", "sayTears", "(ILPaperBubbles$Voice;)I"⟩ yX8_sayTears wsX8_sayTears) := goodIn_app (goodIn_m (cs := [739, 64, 407, 65, 2]) ge_X11_voice rfl (by decide +kernel) (by decide +kernel)) ggX11_voice_X8_sayTears
set_option maxRecDepth 20000 in
theorem ggX11_voice_X1_sayTears : GoodIn wsX11_voice wsX1_sayTears := goodIn_m ge_X11_voice ge_X1_sayTears (by decide +kernel) (by decide +kernel)
set_option maxRecDepth 20000 in
theorem gX11_voice_X1_sayTears_u273X1 : GoodIn wsX11_voice (va_wsO RX11 273 RX1 "PaperBubbles$Tool" ⟨"PaperBubbles$Tool", "sayTears", "(ILPaperBubbles$Voice;)I"⟩ yX1_sayTears wsX1_sayTears) := goodIn_app (goodIn_m (cs := [739, 64, 65, 408, 409, 410]) ge_X11_voice rfl (by decide +kernel) (by decide +kernel)) ggX11_voice_X1_sayTears
set_option maxRecDepth 20000 in
theorem gX11_voice_X8_sayTears_u273X2 : GoodIn wsX11_voice (va_wsU RX11 273 RX2 "PaperBubbles$Tool" ⟨"PaperBubbles$Tool", "sayTears", "(ILPaperBubbles$Voice;)I"⟩ yX8_sayTears wsX8_sayTears) := goodIn_app (goodIn_m (cs := [739, 64, 411, 65, 2]) ge_X11_voice rfl (by decide +kernel) (by decide +kernel)) ggX11_voice_X8_sayTears
set_option maxRecDepth 20000 in
theorem gX11_voice_X8_sayTears_u273X4 : GoodIn wsX11_voice (va_wsU RX11 273 RX4 "PaperBubbles$Tool" ⟨"PaperBubbles$Tool", "sayTears", "(ILPaperBubbles$Voice;)I"⟩ yX8_sayTears wsX8_sayTears) := goodIn_app (goodIn_m (cs := [739, 64, 412, 65, 2]) ge_X11_voice rfl (by decide +kernel) (by decide +kernel)) ggX11_voice_X8_sayTears
set_option maxRecDepth 20000 in
theorem ggX11_voice_X5_sayTears : GoodIn wsX11_voice wsX5_sayTears := goodIn_m ge_X11_voice ge_X5_sayTears (by decide +kernel) (by decide +kernel)
set_option maxRecDepth 20000 in
theorem gX11_voice_X5_sayTears_u273X5 : GoodIn wsX11_voice (va_wsO RX11 273 RX5 "PaperBubbles$Tool" ⟨"PaperBubbles$Tool", "sayTears", "(ILPaperBubbles$Voice;)I"⟩ yX5_sayTears wsX5_sayTears) := goodIn_app (goodIn_m (cs := [739, 64, 65, 413, 60, 32]) ge_X11_voice rfl (by decide +kernel) (by decide +kernel)) ggX11_voice_X5_sayTears
set_option maxRecDepth 20000 in
theorem gX11_voice_X8_sayTears_u273X6 : GoodIn wsX11_voice (va_wsU RX11 273 RX6 "PaperBubbles$Tool" ⟨"PaperBubbles$Tool", "sayTears", "(ILPaperBubbles$Voice;)I"⟩ yX8_sayTears wsX8_sayTears) := goodIn_app (goodIn_m (cs := [739, 64, 414, 65, 2]) ge_X11_voice rfl (by decide +kernel) (by decide +kernel)) ggX11_voice_X8_sayTears
set_option maxRecDepth 20000 in
theorem gX11_voice_X8_sayTears : GoodIn wsX11_voice (wsV RX11 273 RX8 yX8_sayTears wsX8_sayTears) := goodIn_app (goodIn_m (cs := [739, 65, 415, 2]) ge_X11_voice rfl (by decide +kernel) (by decide +kernel)) ggX11_voice_X8_sayTears
set_option maxRecDepth 20000 in
theorem ggX11_voice_X8_sayTells : GoodIn wsX11_voice wsX8_sayTells := goodIn_m ge_X11_voice ge_X8_sayTells (by decide +kernel) (by decide +kernel)
set_option maxRecDepth 20000 in
theorem gX11_voice_X8_sayTells_u276X0 : GoodIn wsX11_voice (va_wsU RX11 276 RX0 "PaperBubbles$Tool" ⟨"PaperBubbles$Tool", "sayTells", "(ILPaperBubbles$Voice;)I"⟩ yX8_sayTells wsX8_sayTells) := goodIn_app (goodIn_m (cs := [740, 741, 742, 743, 2]) ge_X11_voice rfl (by decide +kernel) (by decide +kernel)) ggX11_voice_X8_sayTells
set_option maxRecDepth 20000 in
theorem ggX11_voice_X1_sayTells : GoodIn wsX11_voice wsX1_sayTells := goodIn_m ge_X11_voice ge_X1_sayTells (by decide +kernel) (by decide +kernel)
set_option maxRecDepth 20000 in
theorem gX11_voice_X1_sayTells_u276X1 : GoodIn wsX11_voice (va_wsO RX11 276 RX1 "PaperBubbles$Tool" ⟨"PaperBubbles$Tool", "sayTells", "(ILPaperBubbles$Voice;)I"⟩ yX1_sayTells wsX1_sayTells) := goodIn_app (goodIn_m (cs := [740, 741, 743, 744, 745, 410]) ge_X11_voice rfl (by decide +kernel) (by decide +kernel)) ggX11_voice_X1_sayTells
set_option maxRecDepth 20000 in
theorem gX11_voice_X8_sayTells_u276X2 : GoodIn wsX11_voice (va_wsU RX11 276 RX2 "PaperBubbles$Tool" ⟨"PaperBubbles$Tool", "sayTells", "(ILPaperBubbles$Voice;)I"⟩ yX8_sayTells wsX8_sayTells) := goodIn_app (goodIn_m (cs := [740, 741, 746, 743, 2]) ge_X11_voice rfl (by decide +kernel) (by decide +kernel)) ggX11_voice_X8_sayTells
set_option maxRecDepth 20000 in
theorem gX11_voice_X8_sayTells_u276X4 : GoodIn wsX11_voice (va_wsU RX11 276 RX4 "PaperBubbles$Tool" ⟨"PaperBubbles$Tool", "sayTells", "(ILPaperBubbles$Voice;)I"⟩ yX8_sayTells wsX8_sayTells) := goodIn_app (goodIn_m (cs := [740, 741, 747, 743, 2]) ge_X11_voice rfl (by decide +kernel) (by decide +kernel)) ggX11_voice_X8_sayTells
set_option maxRecDepth 20000 in
theorem gX11_voice_X8_sayTells_u276X5 : GoodIn wsX11_voice (va_wsU RX11 276 RX5 "PaperBubbles$Tool" ⟨"PaperBubbles$Tool", "sayTells", "(ILPaperBubbles$Voice;)I"⟩ yX8_sayTells wsX8_sayTells) := goodIn_app (goodIn_m (cs := [740, 741, 748, 743, 2]) ge_X11_voice rfl (by decide +kernel) (by decide +kernel)) ggX11_voice_X8_sayTells
set_option maxRecDepth 20000 in
theorem ggX11_voice_X6_sayTells : GoodIn wsX11_voice wsX6_sayTells := goodIn_m ge_X11_voice ge_X6_sayTells (by decide +kernel) (by decide +kernel)
set_option maxRecDepth 20000 in
theorem gX11_voice_X6_sayTells_u276X6 : GoodIn wsX11_voice (va_wsO RX11 276 RX6 "PaperBubbles$Tool" ⟨"PaperBubbles$Tool", "sayTells", "(ILPaperBubbles$Voice;)I"⟩ yX6_sayTells wsX6_sayTells) := goodIn_app (goodIn_m (cs := [740, 741, 743, 749, 750, 507]) ge_X11_voice rfl (by decide +kernel) (by decide +kernel)) ggX11_voice_X6_sayTells
set_option maxRecDepth 20000 in
theorem gX11_voice_X8_sayTells : GoodIn wsX11_voice (wsV RX11 276 RX8 yX8_sayTells wsX8_sayTells) := goodIn_app (goodIn_m (cs := [740, 743, 751, 2]) ge_X11_voice rfl (by decide +kernel) (by decide +kernel)) ggX11_voice_X8_sayTells
set_option maxRecDepth 20000 in
theorem ggX11_trace_X11_within : GoodIn wsX11_trace wsX11_within := goodIn_m ge_X11_trace ge_X11_within (by decide +kernel) (by decide +kernel)
set_option maxRecDepth 20000 in
theorem gX11_trace_X11_within : GoodIn wsX11_trace (va_wsS RX11 78 yX11_within wsX11_within) := goodIn_app (goodIn_m (cs := [420, 122, 123]) ge_X11_trace rfl (by decide +kernel) (by decide +kernel)) ggX11_trace_X11_within
set_option maxRecDepth 20000 in
theorem ggX11_trace_X11_error : GoodIn wsX11_trace wsX11_error := goodIn_m ge_X11_trace ge_X11_error (by decide +kernel) (by decide +kernel)
set_option maxRecDepth 20000 in
theorem gX11_trace_X11_error : GoodIn wsX11_trace (wsV RX11 82 RX11 yX11_error wsX11_error) := goodIn_app (goodIn_m (cs := [587, 588, 589, 123]) ge_X11_trace rfl (by decide +kernel) (by decide +kernel)) ggX11_trace_X11_error
set_option maxRecDepth 20000 in
theorem ggX11_sheet_X11_isSheet : GoodIn wsX11_sheet wsX11_isSheet := goodIn_m ge_X11_sheet ge_X11_isSheet (by decide +kernel) (by decide +kernel)
set_option maxRecDepth 20000 in
theorem gX11_sheet_X11_isSheet : GoodIn wsX11_sheet (va_wsS RX11 247 yX11_isSheet wsX11_isSheet) := goodIn_app (goodIn_m (cs := [718, 719, 123]) ge_X11_sheet rfl (by decide +kernel) (by decide +kernel)) ggX11_sheet_X11_isSheet
set_option maxRecDepth 20000 in
theorem ggX11_sheet_X11_error : GoodIn wsX11_sheet wsX11_error := goodIn_m ge_X11_sheet ge_X11_error (by decide +kernel) (by decide +kernel)
set_option maxRecDepth 20000 in
theorem gX11_sheet_X11_error : GoodIn wsX11_sheet (wsV RX11 82 RX11 yX11_error wsX11_error) := goodIn_app (goodIn_m (cs := [587, 588, 589, 123]) ge_X11_sheet rfl (by decide +kernel) (by decide +kernel)) ggX11_sheet_X11_error
set_option maxRecDepth 20000 in
theorem ggX11_sheet_J7_fill_53178 : GoodIn wsX11_sheet wsJ7_fill_53178 := goodIn_m ge_X11_sheet ge_J7_fill_53178 (by decide +kernel) (by decide +kernel)
set_option maxRecDepth 20000 in
theorem gX11_sheet_J7_fill_53178 : GoodIn wsX11_sheet (va_wsS RX11 285 yJ7_fill_53178 wsJ7_fill_53178) := goodIn_app (goodIn_m (cs := [754, 344, 345]) ge_X11_sheet rfl (by decide +kernel) (by decide +kernel)) ggX11_sheet_J7_fill_53178
set_option maxRecDepth 20000 in
theorem ggX11_put_X11_isSheet : GoodIn wsX11_put wsX11_isSheet := goodIn_m ge_X11_put ge_X11_isSheet (by decide +kernel) (by decide +kernel)
set_option maxRecDepth 20000 in
theorem gX11_put_X11_isSheet : GoodIn wsX11_put (va_wsS RX11 247 yX11_isSheet wsX11_isSheet) := goodIn_app (goodIn_m (cs := [718, 719, 123]) ge_X11_put rfl (by decide +kernel) (by decide +kernel)) ggX11_put_X11_isSheet
set_option maxRecDepth 20000 in
theorem ggX11_put_X11_error : GoodIn wsX11_put wsX11_error := goodIn_m ge_X11_put ge_X11_error (by decide +kernel) (by decide +kernel)
set_option maxRecDepth 20000 in
theorem gX11_put_X11_error : GoodIn wsX11_put (wsV RX11 82 RX11 yX11_error wsX11_error) := goodIn_app (goodIn_m (cs := [587, 588, 589, 123]) ge_X11_put rfl (by decide +kernel) (by decide +kernel)) ggX11_put_X11_error
set_option maxRecDepth 20000 in
theorem ggX11_put_X11_isMissing : GoodIn wsX11_put wsX11_isMissing := goodIn_m ge_X11_put ge_X11_isMissing (by decide +kernel) (by decide +kernel)
set_option maxRecDepth 20000 in
theorem gX11_put_X11_isMissing : GoodIn wsX11_put (wsV RX11 250 RX11 yX11_isMissing wsX11_isMissing) := goodIn_app (goodIn_m (cs := [721, 722, 723, 123]) ge_X11_put rfl (by decide +kernel) (by decide +kernel)) ggX11_put_X11_isMissing
set_option maxRecDepth 20000 in
theorem ggX11_put_X11_within : GoodIn wsX11_put wsX11_within := goodIn_m ge_X11_put ge_X11_within (by decide +kernel) (by decide +kernel)
set_option maxRecDepth 20000 in
theorem gX11_put_X11_within : GoodIn wsX11_put (va_wsS RX11 78 yX11_within wsX11_within) := goodIn_app (goodIn_m (cs := [420, 122, 123]) ge_X11_put rfl (by decide +kernel) (by decide +kernel)) ggX11_put_X11_within
set_option maxRecDepth 20000 in
theorem ggX11_move_X11_isSheet : GoodIn wsX11_move wsX11_isSheet := goodIn_m ge_X11_move ge_X11_isSheet (by decide +kernel) (by decide +kernel)
set_option maxRecDepth 20000 in
theorem gX11_move_X11_isSheet : GoodIn wsX11_move (va_wsS RX11 247 yX11_isSheet wsX11_isSheet) := goodIn_app (goodIn_m (cs := [718, 719, 123]) ge_X11_move rfl (by decide +kernel) (by decide +kernel)) ggX11_move_X11_isSheet
set_option maxRecDepth 20000 in
theorem ggX11_move_X11_error : GoodIn wsX11_move wsX11_error := goodIn_m ge_X11_move ge_X11_error (by decide +kernel) (by decide +kernel)
set_option maxRecDepth 20000 in
theorem gX11_move_X11_error : GoodIn wsX11_move (wsV RX11 82 RX11 yX11_error wsX11_error) := goodIn_app (goodIn_m (cs := [587, 588, 589, 123]) ge_X11_move rfl (by decide +kernel) (by decide +kernel)) ggX11_move_X11_error
set_option maxRecDepth 20000 in
theorem ggX11_move_X11_isMissing : GoodIn wsX11_move wsX11_isMissing := goodIn_m ge_X11_move ge_X11_isMissing (by decide +kernel) (by decide +kernel)
set_option maxRecDepth 20000 in
theorem gX11_move_X11_isMissing : GoodIn wsX11_move (wsV RX11 250 RX11 yX11_isMissing wsX11_isMissing) := goodIn_app (goodIn_m (cs := [721, 722, 723, 123]) ge_X11_move rfl (by decide +kernel) (by decide +kernel)) ggX11_move_X11_isMissing
set_option maxRecDepth 20000 in
theorem ggX11_move_X11_standsOn : GoodIn wsX11_move wsX11_standsOn := goodIn_m ge_X11_move ge_X11_standsOn (by decide +kernel) (by decide +kernel)
set_option maxRecDepth 20000 in
theorem gX11_move_X11_standsOn : GoodIn wsX11_move (wsV RX11 291 RX11 yX11_standsOn wsX11_standsOn) := goodIn_app (goodIn_m (cs := [758, 759, 760, 123]) ge_X11_move rfl (by decide +kernel) (by decide +kernel)) ggX11_move_X11_standsOn
set_option maxRecDepth 20000 in
theorem ggX11_airs_X11_isSheet : GoodIn wsX11_airs wsX11_isSheet := goodIn_m ge_X11_airs ge_X11_isSheet (by decide +kernel) (by decide +kernel)
set_option maxRecDepth 20000 in
theorem gX11_airs_X11_isSheet : GoodIn wsX11_airs (va_wsS RX11 247 yX11_isSheet wsX11_isSheet) := goodIn_app (goodIn_m (cs := [718, 719, 123]) ge_X11_airs rfl (by decide +kernel) (by decide +kernel)) ggX11_airs_X11_isSheet
set_option maxRecDepth 20000 in
theorem ggX11_airs_X11_error : GoodIn wsX11_airs wsX11_error := goodIn_m ge_X11_airs ge_X11_error (by decide +kernel) (by decide +kernel)
set_option maxRecDepth 20000 in
theorem gX11_airs_X11_error : GoodIn wsX11_airs (wsV RX11 82 RX11 yX11_error wsX11_error) := goodIn_app (goodIn_m (cs := [587, 588, 589, 123]) ge_X11_airs rfl (by decide +kernel) (by decide +kernel)) ggX11_airs_X11_error
set_option maxRecDepth 20000 in
theorem ggX11_airs_X11_isMissing : GoodIn wsX11_airs wsX11_isMissing := goodIn_m ge_X11_airs ge_X11_isMissing (by decide +kernel) (by decide +kernel)
set_option maxRecDepth 20000 in
theorem gX11_airs_X11_isMissing : GoodIn wsX11_airs (wsV RX11 250 RX11 yX11_isMissing wsX11_isMissing) := goodIn_app (goodIn_m (cs := [721, 722, 723, 123]) ge_X11_airs rfl (by decide +kernel) (by decide +kernel)) ggX11_airs_X11_isMissing
set_option maxRecDepth 20000 in
theorem ggX11_airs_X10_cells : GoodIn wsX11_airs wsX10_cells := goodIn_m ge_X11_airs ge_X10_cells (by decide +kernel) (by decide +kernel)
set_option maxRecDepth 20000 in
theorem gX11_airs_X10_cells : GoodIn wsX11_airs (wsV RX11 93 RX10 yX10_cells wsX10_cells) := goodIn_app (goodIn_m (cs := [595, 596, 597, 320]) ge_X11_airs rfl (by decide +kernel) (by decide +kernel)) ggX11_airs_X10_cells
set_option maxRecDepth 20000 in
theorem ggX11_airs_X11_within : GoodIn wsX11_airs wsX11_within := goodIn_m ge_X11_airs ge_X11_within (by decide +kernel) (by decide +kernel)
set_option maxRecDepth 20000 in
theorem gX11_airs_X11_within : GoodIn wsX11_airs (va_wsS RX11 78 yX11_within wsX11_within) := goodIn_app (goodIn_m (cs := [420, 122, 123]) ge_X11_airs rfl (by decide +kernel) (by decide +kernel)) ggX11_airs_X11_within
set_option maxRecDepth 20000 in
theorem ggX11_judge_X11_isSheet : GoodIn wsX11_judge wsX11_isSheet := goodIn_m ge_X11_judge ge_X11_isSheet (by decide +kernel) (by decide +kernel)
set_option maxRecDepth 20000 in
theorem gX11_judge_X11_isSheet : GoodIn wsX11_judge (va_wsS RX11 247 yX11_isSheet wsX11_isSheet) := goodIn_app (goodIn_m (cs := [718, 719, 123]) ge_X11_judge rfl (by decide +kernel) (by decide +kernel)) ggX11_judge_X11_isSheet
set_option maxRecDepth 20000 in
theorem ggX11_judge_X11_error : GoodIn wsX11_judge wsX11_error := goodIn_m ge_X11_judge ge_X11_error (by decide +kernel) (by decide +kernel)
set_option maxRecDepth 20000 in
theorem gX11_judge_X11_error : GoodIn wsX11_judge (wsV RX11 82 RX11 yX11_error wsX11_error) := goodIn_app (goodIn_m (cs := [587, 588, 589, 123]) ge_X11_judge rfl (by decide +kernel) (by decide +kernel)) ggX11_judge_X11_error
set_option maxRecDepth 20000 in
theorem ggX11_judge_X11_isMissing : GoodIn wsX11_judge wsX11_isMissing := goodIn_m ge_X11_judge ge_X11_isMissing (by decide +kernel) (by decide +kernel)
set_option maxRecDepth 20000 in
theorem gX11_judge_X11_isMissing : GoodIn wsX11_judge (wsV RX11 250 RX11 yX11_isMissing wsX11_isMissing) := goodIn_app (goodIn_m (cs := [721, 722, 723, 123]) ge_X11_judge rfl (by decide +kernel) (by decide +kernel)) ggX11_judge_X11_isMissing
set_option maxRecDepth 20000 in
theorem ggX11_judge_X11_firstUnlike : GoodIn wsX11_judge wsX11_firstUnlike := goodIn_m ge_X11_judge ge_X11_firstUnlike (by decide +kernel) (by decide +kernel)
set_option maxRecDepth 20000 in
theorem gX11_judge_X11_firstUnlike : GoodIn wsX11_judge (wsV RX11 256 RX11 yX11_firstUnlike wsX11_firstUnlike) := goodIn_app (goodIn_m (cs := [725, 726, 727, 123]) ge_X11_judge rfl (by decide +kernel) (by decide +kernel)) ggX11_judge_X11_firstUnlike
set_option maxRecDepth 20000 in
theorem ggX11_image_X7_copy : GoodIn wsX11_image wsX7_copy := goodIn_m ge_X11_image ge_X7_copy (by decide +kernel) (by decide +kernel)
set_option maxRecDepth 20000 in
theorem gX11_image_X7_copy : GoodIn wsX11_image (wsV RX11 300 RX7 yX7_copy wsX7_copy) := goodIn_app (goodIn_m (cs := [766, 767, 768, 537]) ge_X11_image rfl (by decide +kernel) (by decide +kernel)) ggX11_image_X7_copy
set_option maxRecDepth 20000 in
theorem ggX11_restore_X11_error : GoodIn wsX11_restore wsX11_error := goodIn_m ge_X11_restore ge_X11_error (by decide +kernel) (by decide +kernel)
set_option maxRecDepth 20000 in
theorem gX11_restore_X11_error : GoodIn wsX11_restore (wsV RX11 82 RX11 yX11_error wsX11_error) := goodIn_app (goodIn_m (cs := [587, 588, 589, 123]) ge_X11_restore rfl (by decide +kernel) (by decide +kernel)) ggX11_restore_X11_error
set_option maxRecDepth 20000 in
theorem ggX11_restore_X7_copy : GoodIn wsX11_restore wsX7_copy := goodIn_m ge_X11_restore ge_X7_copy (by decide +kernel) (by decide +kernel)
set_option maxRecDepth 20000 in
theorem gX11_restore_X7_copy : GoodIn wsX11_restore (wsV RX11 300 RX7 yX7_copy wsX7_copy) := goodIn_app (goodIn_m (cs := [766, 767, 768, 537]) ge_X11_restore rfl (by decide +kernel) (by decide +kernel)) ggX11_restore_X7_copy
set_option maxRecDepth 20000 in
theorem ggX11_tell_X11_within : GoodIn wsX11_tell wsX11_within := goodIn_m ge_X11_tell ge_X11_within (by decide +kernel) (by decide +kernel)
set_option maxRecDepth 20000 in
theorem gX11_tell_X11_within : GoodIn wsX11_tell (va_wsS RX11 78 yX11_within wsX11_within) := goodIn_app (goodIn_m (cs := [420, 122, 123]) ge_X11_tell rfl (by decide +kernel) (by decide +kernel)) ggX11_tell_X11_within
set_option maxRecDepth 20000 in
theorem ggX11_tell_X11_error : GoodIn wsX11_tell wsX11_error := goodIn_m ge_X11_tell ge_X11_error (by decide +kernel) (by decide +kernel)
set_option maxRecDepth 20000 in
theorem gX11_tell_X11_error : GoodIn wsX11_tell (wsV RX11 82 RX11 yX11_error wsX11_error) := goodIn_app (goodIn_m (cs := [587, 588, 589, 123]) ge_X11_tell rfl (by decide +kernel) (by decide +kernel)) ggX11_tell_X11_error
set_option maxRecDepth 20000 in
theorem ggX11_check_X10_copy : GoodIn wsX11_check wsX10_copy := goodIn_m ge_X11_check ge_X10_copy (by decide +kernel) (by decide +kernel)
set_option maxRecDepth 20000 in
theorem gX11_check_X10_copy : GoodIn wsX11_check (wsV RX11 236 RX10 yX10_copy wsX10_copy) := goodIn_app (goodIn_m (cs := [700, 379, 380, 320]) ge_X11_check rfl (by decide +kernel) (by decide +kernel)) ggX11_check_X10_copy
set_option maxRecDepth 20000 in
theorem ggX11_check_X10_passNight : GoodIn wsX11_check wsX10_passNight := goodIn_m ge_X11_check ge_X10_passNight (by decide +kernel) (by decide +kernel)
set_option maxRecDepth 20000 in
theorem gX11_check_X10_passNight : GoodIn wsX11_check (wsV RX11 201 RX10 yX10_passNight wsX10_passNight) := goodIn_app (goodIn_m (cs := [667, 668, 669, 320]) ge_X11_check rfl (by decide +kernel) (by decide +kernel)) ggX11_check_X10_passNight
set_option maxRecDepth 20000 in
theorem ggX11_check_X10_allAir : GoodIn wsX11_check wsX10_allAir := goodIn_m ge_X11_check ge_X10_allAir (by decide +kernel) (by decide +kernel)
set_option maxRecDepth 20000 in
theorem gX11_check_X10_allAir : GoodIn wsX11_check (wsV RX11 204 RX10 yX10_allAir wsX10_allAir) := goodIn_app (goodIn_m (cs := [670, 671, 672, 320]) ge_X11_check rfl (by decide +kernel) (by decide +kernel)) ggX11_check_X10_allAir
set_option maxRecDepth 20000 in
theorem ggX11_count_X10_cells : GoodIn wsX11_count wsX10_cells := goodIn_m ge_X11_count ge_X10_cells (by decide +kernel) (by decide +kernel)
set_option maxRecDepth 20000 in
theorem gX11_count_X10_cells : GoodIn wsX11_count (wsV RX11 93 RX10 yX10_cells wsX10_cells) := goodIn_app (goodIn_m (cs := [595, 596, 597, 320]) ge_X11_count rfl (by decide +kernel) (by decide +kernel)) ggX11_count_X10_cells
set_option maxRecDepth 20000 in
theorem ggX11_count_X10_allAir : GoodIn wsX11_count wsX10_allAir := goodIn_m ge_X11_count ge_X10_allAir (by decide +kernel) (by decide +kernel)
set_option maxRecDepth 20000 in
theorem gX11_count_X10_allAir : GoodIn wsX11_count (wsV RX11 204 RX10 yX10_allAir wsX10_allAir) := goodIn_app (goodIn_m (cs := [670, 671, 672, 320]) ge_X11_count rfl (by decide +kernel) (by decide +kernel)) ggX11_count_X10_allAir
set_option maxRecDepth 20000 in
theorem ggX11_count_X10_cellsWithAir : GoodIn wsX11_count wsX10_cellsWithAir := goodIn_m ge_X11_count ge_X10_cellsWithAir (by decide +kernel) (by decide +kernel)
set_option maxRecDepth 20000 in
theorem gX11_count_X10_cellsWithAir : GoodIn wsX11_count (wsV RX11 318 RX10 yX10_cellsWithAir wsX10_cellsWithAir) := goodIn_app (goodIn_m (cs := [773, 774, 775, 320]) ge_X11_count rfl (by decide +kernel) (by decide +kernel)) ggX11_count_X10_cellsWithAir
set_option maxRecDepth 20000 in
theorem ggX11_count_X10_openBits : GoodIn wsX11_count wsX10_openBits := goodIn_m ge_X11_count ge_X10_openBits (by decide +kernel) (by decide +kernel)
set_option maxRecDepth 20000 in
theorem gX11_count_X10_openBits : GoodIn wsX11_count (wsV RX11 321 RX10 yX10_openBits wsX10_openBits) := goodIn_app (goodIn_m (cs := [776, 777, 778, 320]) ge_X11_count rfl (by decide +kernel) (by decide +kernel)) ggX11_count_X10_openBits
set_option maxRecDepth 20000 in
theorem ggX11_count_X11_error : GoodIn wsX11_count wsX11_error := goodIn_m ge_X11_count ge_X11_error (by decide +kernel) (by decide +kernel)
set_option maxRecDepth 20000 in
theorem gX11_count_X11_error : GoodIn wsX11_count (wsV RX11 82 RX11 yX11_error wsX11_error) := goodIn_app (goodIn_m (cs := [587, 588, 589, 123]) ge_X11_count rfl (by decide +kernel) (by decide +kernel)) ggX11_count_X11_error
set_option maxRecDepth 20000 in
theorem ggX11_told_X11_within : GoodIn wsX11_told wsX11_within := goodIn_m ge_X11_told ge_X11_within (by decide +kernel) (by decide +kernel)
set_option maxRecDepth 20000 in
theorem gX11_told_X11_within : GoodIn wsX11_told (va_wsS RX11 78 yX11_within wsX11_within) := goodIn_app (goodIn_m (cs := [420, 122, 123]) ge_X11_told rfl (by decide +kernel) (by decide +kernel)) ggX11_told_X11_within
set_option maxRecDepth 20000 in
theorem ggX11_told_X11_error : GoodIn wsX11_told wsX11_error := goodIn_m ge_X11_told ge_X11_error (by decide +kernel) (by decide +kernel)
set_option maxRecDepth 20000 in
theorem gX11_told_X11_error : GoodIn wsX11_told (wsV RX11 82 RX11 yX11_error wsX11_error) := goodIn_app (goodIn_m (cs := [587, 588, 589, 123]) ge_X11_told rfl (by decide +kernel) (by decide +kernel)) ggX11_told_X11_error
set_option maxRecDepth 20000 in
theorem ggX11_error_X11_within : GoodIn wsX11_error wsX11_within := goodIn_m ge_X11_error ge_X11_within (by decide +kernel) (by decide +kernel)
set_option maxRecDepth 20000 in
theorem gX11_error_X11_within : GoodIn wsX11_error (va_wsS RX11 78 yX11_within wsX11_within) := goodIn_app (goodIn_m (cs := [420, 122, 123]) ge_X11_error rfl (by decide +kernel) (by decide +kernel)) ggX11_error_X11_within
set_option maxRecDepth 20000 in
theorem ggX11_isCell_X10_has : GoodIn wsX11_isCell wsX10_has := goodIn_m ge_X11_isCell ge_X10_has (by decide +kernel) (by decide +kernel)
set_option maxRecDepth 20000 in
theorem gX11_isCell_X10_has : GoodIn wsX11_isCell (wsV RX11 325 RX10 yX10_has wsX10_has) := goodIn_app (goodIn_m (cs := [604, 438, 439, 320]) ge_X11_isCell rfl (by decide +kernel) (by decide +kernel)) ggX11_isCell_X10_has
set_option maxRecDepth 20000 in
theorem ggX11_isTool_X11_within : GoodIn wsX11_isTool wsX11_within := goodIn_m ge_X11_isTool ge_X11_within (by decide +kernel) (by decide +kernel)
set_option maxRecDepth 20000 in
theorem gX11_isTool_X11_within : GoodIn wsX11_isTool (va_wsS RX11 78 yX11_within wsX11_within) := goodIn_app (goodIn_m (cs := [420, 122, 123]) ge_X11_isTool rfl (by decide +kernel) (by decide +kernel)) ggX11_isTool_X11_within
set_option maxRecDepth 20000 in
theorem ggX11_isWay_X11_within : GoodIn wsX11_isWay wsX11_within := goodIn_m ge_X11_isWay ge_X11_within (by decide +kernel) (by decide +kernel)
set_option maxRecDepth 20000 in
theorem gX11_isWay_X11_within : GoodIn wsX11_isWay (va_wsS RX11 78 yX11_within wsX11_within) := goodIn_app (goodIn_m (cs := [420, 122, 123]) ge_X11_isWay rfl (by decide +kernel) (by decide +kernel)) ggX11_isWay_X11_within
set_option maxRecDepth 20000 in
theorem ggX11_isSheet_X11_within : GoodIn wsX11_isSheet wsX11_within := goodIn_m ge_X11_isSheet ge_X11_within (by decide +kernel) (by decide +kernel)
set_option maxRecDepth 20000 in
theorem gX11_isSheet_X11_within : GoodIn wsX11_isSheet (va_wsS RX11 78 yX11_within wsX11_within) := goodIn_app (goodIn_m (cs := [420, 122, 123]) ge_X11_isSheet rfl (by decide +kernel) (by decide +kernel)) ggX11_isSheet_X11_within
set_option maxRecDepth 20000 in
theorem ggX11_firstUnlike_X10_cells : GoodIn wsX11_firstUnlike wsX10_cells := goodIn_m ge_X11_firstUnlike ge_X10_cells (by decide +kernel) (by decide +kernel)
set_option maxRecDepth 20000 in
theorem gX11_firstUnlike_X10_cells : GoodIn wsX11_firstUnlike (wsV RX11 93 RX10 yX10_cells wsX10_cells) := goodIn_app (goodIn_m (cs := [595, 596, 597, 320]) ge_X11_firstUnlike rfl (by decide +kernel) (by decide +kernel)) ggX11_firstUnlike_X10_cells
set_option maxRecDepth 20000 in
theorem ggX11_firstUnlike_X10_has : GoodIn wsX11_firstUnlike wsX10_has := goodIn_m ge_X11_firstUnlike ge_X10_has (by decide +kernel) (by decide +kernel)
set_option maxRecDepth 20000 in
theorem gX11_firstUnlike_X10_has : GoodIn wsX11_firstUnlike (wsV RX11 325 RX10 yX10_has wsX10_has) := goodIn_app (goodIn_m (cs := [604, 438, 439, 320]) ge_X11_firstUnlike rfl (by decide +kernel) (by decide +kernel)) ggX11_firstUnlike_X10_has
set_option maxRecDepth 20000 in
theorem ggX11_kindAt_X11_within : GoodIn wsX11_kindAt wsX11_within := goodIn_m ge_X11_kindAt ge_X11_within (by decide +kernel) (by decide +kernel)
set_option maxRecDepth 20000 in
theorem gX11_kindAt_X11_within : GoodIn wsX11_kindAt (va_wsS RX11 78 yX11_within wsX11_within) := goodIn_app (goodIn_m (cs := [420, 122, 123]) ge_X11_kindAt rfl (by decide +kernel) (by decide +kernel)) ggX11_kindAt_X11_within
set_option maxRecDepth 20000 in
theorem ggX11_kindOf_X11_isTool : GoodIn wsX11_kindOf wsX11_isTool := goodIn_m ge_X11_kindOf ge_X11_isTool (by decide +kernel) (by decide +kernel)
set_option maxRecDepth 20000 in
theorem gX11_kindOf_X11_isTool : GoodIn wsX11_kindOf (wsV RX11 142 RX11 yX11_isTool wsX11_isTool) := goodIn_app (goodIn_m (cs := [617, 618, 619, 123]) ge_X11_kindOf rfl (by decide +kernel) (by decide +kernel)) ggX11_kindOf_X11_isTool
set_option maxRecDepth 20000 in
theorem ggX11_kindOf_X11_kindAt : GoodIn wsX11_kindOf wsX11_kindAt := goodIn_m ge_X11_kindOf ge_X11_kindAt (by decide +kernel) (by decide +kernel)
set_option maxRecDepth 20000 in
theorem gX11_kindOf_X11_kindAt : GoodIn wsX11_kindOf (wsV RX11 253 RX11 yX11_kindAt wsX11_kindAt) := goodIn_app (goodIn_m (cs := [625, 626, 627, 123]) ge_X11_kindOf rfl (by decide +kernel) (by decide +kernel)) ggX11_kindOf_X11_kindAt
set_option maxRecDepth 20000 in
theorem ggX11_bestFrom_X10_cells : GoodIn wsX11_bestFrom wsX10_cells := goodIn_m ge_X11_bestFrom ge_X10_cells (by decide +kernel) (by decide +kernel)
set_option maxRecDepth 20000 in
theorem gX11_bestFrom_X10_cells : GoodIn wsX11_bestFrom (wsV RX11 93 RX10 yX10_cells wsX10_cells) := goodIn_app (goodIn_m (cs := [595, 596, 597, 320]) ge_X11_bestFrom rfl (by decide +kernel) (by decide +kernel)) ggX11_bestFrom_X10_cells
set_option maxRecDepth 20000 in
theorem ggX11_bestFrom_X10_copy : GoodIn wsX11_bestFrom wsX10_copy := goodIn_m ge_X11_bestFrom ge_X10_copy (by decide +kernel) (by decide +kernel)
set_option maxRecDepth 20000 in
theorem gX11_bestFrom_X10_copy : GoodIn wsX11_bestFrom (wsV RX11 236 RX10 yX10_copy wsX10_copy) := goodIn_app (goodIn_m (cs := [700, 379, 380, 320]) ge_X11_bestFrom rfl (by decide +kernel) (by decide +kernel)) ggX11_bestFrom_X10_copy
set_option maxRecDepth 20000 in
theorem ggX11_bestFrom_X10_airAs : GoodIn wsX11_bestFrom wsX10_airAs := goodIn_m ge_X11_bestFrom ge_X10_airAs (by decide +kernel) (by decide +kernel)
set_option maxRecDepth 20000 in
theorem gX11_bestFrom_X10_airAs : GoodIn wsX11_bestFrom (wsV RX11 331 RX10 yX10_airAs wsX10_airAs) := goodIn_app (goodIn_m (cs := [701, 387, 388, 320]) ge_X11_bestFrom rfl (by decide +kernel) (by decide +kernel)) ggX11_bestFrom_X10_airAs
set_option maxRecDepth 20000 in
theorem ggX11_bestFrom_X10_strike : GoodIn wsX11_bestFrom wsX10_strike := goodIn_m ge_X11_bestFrom ge_X10_strike (by decide +kernel) (by decide +kernel)
set_option maxRecDepth 20000 in
theorem gX11_bestFrom_X10_strike : GoodIn wsX11_bestFrom (wsV RX11 194 RX10 yX10_strike wsX10_strike) := goodIn_app (goodIn_m (cs := [663, 664, 665, 320]) ge_X11_bestFrom rfl (by decide +kernel) (by decide +kernel)) ggX11_bestFrom_X10_strike
set_option maxRecDepth 20000 in
theorem ggX11_bestFrom_X10_shownBy : GoodIn wsX11_bestFrom wsX10_shownBy := goodIn_m ge_X11_bestFrom ge_X10_shownBy (by decide +kernel) (by decide +kernel)
set_option maxRecDepth 20000 in
theorem gX11_bestFrom_X10_shownBy : GoodIn wsX11_bestFrom (wsV RX11 210 RX10 yX10_shownBy wsX10_shownBy) := goodIn_app (goodIn_m (cs := [680, 681, 682, 320]) ge_X11_bestFrom rfl (by decide +kernel) (by decide +kernel)) ggX11_bestFrom_X10_shownBy
set_option maxRecDepth 20000 in
theorem ggX12_isCell_X12_cells : GoodIn wsX12_isCell wsX12_cells := goodIn_m ge_X12_isCell ge_X12_cells (by decide +kernel) (by decide +kernel)
set_option maxRecDepth 20000 in
theorem gX12_isCell_X12_cells : GoodIn wsX12_isCell (wsV RX12 51 RX12 yX12_cells wsX12_cells) := goodIn_app (goodIn_m (cs := [827, 828, 829, 798]) ge_X12_isCell rfl (by decide +kernel) (by decide +kernel)) ggX12_isCell_X12_cells
set_option maxRecDepth 20000 in
theorem ggX12_isCell_X12_in : GoodIn wsX12_isCell wsX12_in := goodIn_m ge_X12_isCell ge_X12_in (by decide +kernel) (by decide +kernel)
set_option maxRecDepth 20000 in
theorem gX12_isCell_X12_in : GoodIn wsX12_isCell (va_wsS RX12 55 yX12_in wsX12_in) := goodIn_app (goodIn_m (cs := [831, 832, 798]) ge_X12_isCell rfl (by decide +kernel) (by decide +kernel)) ggX12_isCell_X12_in
set_option maxRecDepth 20000 in
theorem ggX12_isTool_X12_in : GoodIn wsX12_isTool wsX12_in := goodIn_m ge_X12_isTool ge_X12_in (by decide +kernel) (by decide +kernel)
set_option maxRecDepth 20000 in
theorem gX12_isTool_X12_in : GoodIn wsX12_isTool (va_wsS RX12 55 yX12_in wsX12_in) := goodIn_app (goodIn_m (cs := [831, 832, 798]) ge_X12_isTool rfl (by decide +kernel) (by decide +kernel)) ggX12_isTool_X12_in
set_option maxRecDepth 20000 in
theorem ggX12_isWay_X12_in : GoodIn wsX12_isWay wsX12_in := goodIn_m ge_X12_isWay ge_X12_in (by decide +kernel) (by decide +kernel)
set_option maxRecDepth 20000 in
theorem gX12_isWay_X12_in : GoodIn wsX12_isWay (va_wsS RX12 55 yX12_in wsX12_in) := goodIn_app (goodIn_m (cs := [831, 832, 798]) ge_X12_isWay rfl (by decide +kernel) (by decide +kernel)) ggX12_isWay_X12_in
set_option maxRecDepth 20000 in
theorem ggX12_takes_X12_here : GoodIn wsX12_takes wsX12_here := goodIn_m ge_X12_takes ge_X12_here (by decide +kernel) (by decide +kernel)
set_option maxRecDepth 20000 in
theorem gX12_takes_X12_here : GoodIn wsX12_takes (wsV RX12 74 RX12 yX12_here wsX12_here) := goodIn_app (goodIn_m (cs := [839, 840, 841, 798]) ge_X12_takes rfl (by decide +kernel) (by decide +kernel)) ggX12_takes_X12_here
set_option maxRecDepth 20000 in
theorem ggX12_either_X12_both : GoodIn wsX12_either wsX12_both := goodIn_m ge_X12_either ge_X12_both (by decide +kernel) (by decide +kernel)
set_option maxRecDepth 20000 in
theorem gX12_either_X12_both : GoodIn wsX12_either (wsV RX12 81 RX12 yX12_both wsX12_both) := goodIn_app (goodIn_m (cs := [847, 848, 849, 798]) ge_X12_either rfl (by decide +kernel) (by decide +kernel)) ggX12_either_X12_both
set_option maxRecDepth 20000 in
theorem ggX12_either_X12_takes : GoodIn wsX12_either wsX12_takes := goodIn_m ge_X12_either ge_X12_takes (by decide +kernel) (by decide +kernel)
set_option maxRecDepth 20000 in
theorem gX12_either_X12_takes : GoodIn wsX12_either (wsV RX12 84 RX12 yX12_takes wsX12_takes) := goodIn_app (goodIn_m (cs := [850, 851, 852, 798]) ge_X12_either rfl (by decide +kernel) (by decide +kernel)) ggX12_either_X12_takes
set_option maxRecDepth 20000 in
theorem ggX12_both_X12_compared : GoodIn wsX12_both wsX12_compared := goodIn_m ge_X12_both ge_X12_compared (by decide +kernel) (by decide +kernel)
set_option maxRecDepth 20000 in
theorem gX12_both_X12_compared : GoodIn wsX12_both (wsV RX12 88 RX12 yX12_compared wsX12_compared) := goodIn_app (goodIn_m (cs := [854, 855, 856, 798]) ge_X12_both rfl (by decide +kernel) (by decide +kernel)) ggX12_both_X12_compared
set_option maxRecDepth 20000 in
theorem ggX12_both_X12_takes : GoodIn wsX12_both wsX12_takes := goodIn_m ge_X12_both ge_X12_takes (by decide +kernel) (by decide +kernel)
set_option maxRecDepth 20000 in
theorem gX12_both_X12_takes : GoodIn wsX12_both (wsV RX12 84 RX12 yX12_takes wsX12_takes) := goodIn_app (goodIn_m (cs := [850, 851, 852, 798]) ge_X12_both rfl (by decide +kernel) (by decide +kernel)) ggX12_both_X12_takes
set_option maxRecDepth 20000 in
theorem ggX12_compared_X12_sum : GoodIn wsX12_compared wsX12_sum := goodIn_m ge_X12_compared ge_X12_sum (by decide +kernel) (by decide +kernel)
set_option maxRecDepth 20000 in
theorem gX12_compared_X12_sum : GoodIn wsX12_compared (wsV RX12 91 RX12 yX12_sum wsX12_sum) := goodIn_app (goodIn_m (cs := [858, 859, 860, 798]) ge_X12_compared rfl (by decide +kernel) (by decide +kernel)) ggX12_compared_X12_sum
set_option maxRecDepth 20000 in
theorem ggX12_compared_X12_here : GoodIn wsX12_compared wsX12_here := goodIn_m ge_X12_compared ge_X12_here (by decide +kernel) (by decide +kernel)
set_option maxRecDepth 20000 in
theorem gX12_compared_X12_here : GoodIn wsX12_compared (wsV RX12 74 RX12 yX12_here wsX12_here) := goodIn_app (goodIn_m (cs := [839, 840, 841, 798]) ge_X12_compared rfl (by decide +kernel) (by decide +kernel)) ggX12_compared_X12_here
set_option maxRecDepth 20000 in
theorem ggX12_sum_X12_product : GoodIn wsX12_sum wsX12_product := goodIn_m ge_X12_sum ge_X12_product (by decide +kernel) (by decide +kernel)
set_option maxRecDepth 20000 in
theorem gX12_sum_X12_product : GoodIn wsX12_sum (wsV RX12 94 RX12 yX12_product wsX12_product) := goodIn_app (goodIn_m (cs := [866, 867, 868, 798]) ge_X12_sum rfl (by decide +kernel) (by decide +kernel)) ggX12_sum_X12_product
set_option maxRecDepth 20000 in
theorem ggX12_sum_X12_here : GoodIn wsX12_sum wsX12_here := goodIn_m ge_X12_sum ge_X12_here (by decide +kernel) (by decide +kernel)
set_option maxRecDepth 20000 in
theorem gX12_sum_X12_here : GoodIn wsX12_sum (wsV RX12 74 RX12 yX12_here wsX12_here) := goodIn_app (goodIn_m (cs := [839, 840, 841, 798]) ge_X12_sum rfl (by decide +kernel) (by decide +kernel)) ggX12_sum_X12_here
set_option maxRecDepth 20000 in
theorem ggX12_product_X12_unit : GoodIn wsX12_product wsX12_unit := goodIn_m ge_X12_product ge_X12_unit (by decide +kernel) (by decide +kernel)
set_option maxRecDepth 20000 in
theorem gX12_product_X12_unit : GoodIn wsX12_product (wsV RX12 97 RX12 yX12_unit wsX12_unit) := goodIn_app (goodIn_m (cs := [862, 863, 864, 798]) ge_X12_product rfl (by decide +kernel) (by decide +kernel)) ggX12_product_X12_unit
set_option maxRecDepth 20000 in
theorem ggX12_product_X12_here : GoodIn wsX12_product wsX12_here := goodIn_m ge_X12_product ge_X12_here (by decide +kernel) (by decide +kernel)
set_option maxRecDepth 20000 in
theorem gX12_product_X12_here : GoodIn wsX12_product (wsV RX12 74 RX12 yX12_here wsX12_here) := goodIn_app (goodIn_m (cs := [839, 840, 841, 798]) ge_X12_product rfl (by decide +kernel) (by decide +kernel)) ggX12_product_X12_here
set_option maxRecDepth 20000 in
theorem ggX12_unit_X12_here : GoodIn wsX12_unit wsX12_here := goodIn_m ge_X12_unit ge_X12_here (by decide +kernel) (by decide +kernel)
set_option maxRecDepth 20000 in
theorem gX12_unit_X12_here : GoodIn wsX12_unit (wsV RX12 74 RX12 yX12_here wsX12_here) := goodIn_app (goodIn_m (cs := [839, 840, 841, 798]) ge_X12_unit rfl (by decide +kernel) (by decide +kernel)) ggX12_unit_X12_here
set_option maxRecDepth 20000 in
theorem ggX12_unit_X12_wrong : GoodIn wsX12_unit wsX12_wrong := goodIn_m ge_X12_unit ge_X12_wrong (by decide +kernel) (by decide +kernel)
set_option maxRecDepth 20000 in
theorem gX12_unit_X12_wrong : GoodIn wsX12_unit (wsV RX12 103 RX12 yX12_wrong wsX12_wrong) := goodIn_app (goodIn_m (cs := [873, 874, 875, 798]) ge_X12_unit rfl (by decide +kernel) (by decide +kernel)) ggX12_unit_X12_wrong
set_option maxRecDepth 20000 in
theorem ggX12_unit_X12_either : GoodIn wsX12_unit wsX12_either := goodIn_m ge_X12_unit ge_X12_either (by decide +kernel) (by decide +kernel)
set_option maxRecDepth 20000 in
theorem gX12_unit_X12_either : GoodIn wsX12_unit (wsV RX12 106 RX12 yX12_either wsX12_either) := goodIn_app (goodIn_m (cs := [877, 878, 879, 798]) ge_X12_unit rfl (by decide +kernel) (by decide +kernel)) ggX12_unit_X12_either
set_option maxRecDepth 20000 in
theorem ggX12_unit_X12_unit : GoodIn wsX12_unit wsX12_unit := goodIn_m ge_X12_unit ge_X12_unit (by decide +kernel) (by decide +kernel)
set_option maxRecDepth 20000 in
theorem gX12_unit_X12_unit : GoodIn wsX12_unit (wsV RX12 97 RX12 yX12_unit wsX12_unit) := goodIn_app (goodIn_m (cs := [862, 863, 864, 798]) ge_X12_unit rfl (by decide +kernel) (by decide +kernel)) ggX12_unit_X12_unit
set_option maxRecDepth 20000 in
theorem ggX12_unit_X12_takes : GoodIn wsX12_unit wsX12_takes := goodIn_m ge_X12_unit ge_X12_takes (by decide +kernel) (by decide +kernel)
set_option maxRecDepth 20000 in
theorem gX12_unit_X12_takes : GoodIn wsX12_unit (wsV RX12 84 RX12 yX12_takes wsX12_takes) := goodIn_app (goodIn_m (cs := [850, 851, 852, 798]) ge_X12_unit rfl (by decide +kernel) (by decide +kernel)) ggX12_unit_X12_takes
set_option maxRecDepth 20000 in
theorem ggX12_unit_X12_nameOf : GoodIn wsX12_unit wsX12_nameOf := goodIn_m ge_X12_unit ge_X12_nameOf (by decide +kernel) (by decide +kernel)
set_option maxRecDepth 20000 in
theorem gX12_unit_X12_nameOf : GoodIn wsX12_unit (wsV RX12 109 RX12 yX12_nameOf wsX12_nameOf) := goodIn_app (goodIn_m (cs := [880, 881, 882, 798]) ge_X12_unit rfl (by decide +kernel) (by decide +kernel)) ggX12_unit_X12_nameOf
set_option maxRecDepth 20000 in
theorem ggX12_unit_X12_in : GoodIn wsX12_unit wsX12_in := goodIn_m ge_X12_unit ge_X12_in (by decide +kernel) (by decide +kernel)
set_option maxRecDepth 20000 in
theorem gX12_unit_X12_in : GoodIn wsX12_unit (va_wsS RX12 55 yX12_in wsX12_in) := goodIn_app (goodIn_m (cs := [831, 832, 798]) ge_X12_unit rfl (by decide +kernel) (by decide +kernel)) ggX12_unit_X12_in
set_option maxRecDepth 20000 in
theorem ggX12_worked_X12_either : GoodIn wsX12_worked wsX12_either := goodIn_m ge_X12_worked ge_X12_either (by decide +kernel) (by decide +kernel)
set_option maxRecDepth 20000 in
theorem gX12_worked_X12_either : GoodIn wsX12_worked (wsV RX12 106 RX12 yX12_either wsX12_either) := goodIn_app (goodIn_m (cs := [877, 878, 879, 798]) ge_X12_worked rfl (by decide +kernel) (by decide +kernel)) ggX12_worked_X12_either
set_option maxRecDepth 20000 in
theorem ggX12_worked_X12_wrong : GoodIn wsX12_worked wsX12_wrong := goodIn_m ge_X12_worked ge_X12_wrong (by decide +kernel) (by decide +kernel)
set_option maxRecDepth 20000 in
theorem gX12_worked_X12_wrong : GoodIn wsX12_worked (wsV RX12 103 RX12 yX12_wrong wsX12_wrong) := goodIn_app (goodIn_m (cs := [873, 874, 875, 798]) ge_X12_worked rfl (by decide +kernel) (by decide +kernel)) ggX12_worked_X12_wrong
set_option maxRecDepth 20000 in
theorem ggX12_feed_X12_in : GoodIn wsX12_feed wsX12_in := goodIn_m ge_X12_feed ge_X12_in (by decide +kernel) (by decide +kernel)
set_option maxRecDepth 20000 in
theorem gX12_feed_X12_in : GoodIn wsX12_feed (va_wsS RX12 55 yX12_in wsX12_in) := goodIn_app (goodIn_m (cs := [831, 832, 798]) ge_X12_feed rfl (by decide +kernel) (by decide +kernel)) ggX12_feed_X12_in
set_option maxRecDepth 20000 in
theorem ggX12_feed_X12_finds : GoodIn wsX12_feed wsX12_finds := goodIn_m ge_X12_feed ge_X12_finds (by decide +kernel) (by decide +kernel)
set_option maxRecDepth 20000 in
theorem gX12_feed_X12_finds : GoodIn wsX12_feed (wsV RX12 119 RX12 yX12_finds wsX12_finds) := goodIn_app (goodIn_m (cs := [889, 890, 891, 798]) ge_X12_feed rfl (by decide +kernel) (by decide +kernel)) ggX12_feed_X12_finds
set_option maxRecDepth 20000 in
theorem ggX12_text_X12_in : GoodIn wsX12_text wsX12_in := goodIn_m ge_X12_text ge_X12_in (by decide +kernel) (by decide +kernel)
set_option maxRecDepth 20000 in
theorem gX12_text_X12_in : GoodIn wsX12_text (va_wsS RX12 55 yX12_in wsX12_in) := goodIn_app (goodIn_m (cs := [831, 832, 798]) ge_X12_text rfl (by decide +kernel) (by decide +kernel)) ggX12_text_X12_in
set_option maxRecDepth 20000 in
theorem ggX12_text_X12_finds : GoodIn wsX12_text wsX12_finds := goodIn_m ge_X12_text ge_X12_finds (by decide +kernel) (by decide +kernel)
set_option maxRecDepth 20000 in
theorem gX12_text_X12_finds : GoodIn wsX12_text (wsV RX12 119 RX12 yX12_finds wsX12_finds) := goodIn_app (goodIn_m (cs := [889, 890, 891, 798]) ge_X12_text rfl (by decide +kernel) (by decide +kernel)) ggX12_text_X12_finds
set_option maxRecDepth 20000 in
theorem ggX12_text_X12_worked : GoodIn wsX12_text wsX12_worked := goodIn_m ge_X12_text ge_X12_worked (by decide +kernel) (by decide +kernel)
set_option maxRecDepth 20000 in
theorem gX12_text_X12_worked : GoodIn wsX12_text (wsV RX12 124 RX12 yX12_worked wsX12_worked) := goodIn_app (goodIn_m (cs := [895, 896, 897, 798]) ge_X12_text rfl (by decide +kernel) (by decide +kernel)) ggX12_text_X12_worked
set_option maxRecDepth 20000 in
theorem ggX12_textGives_X12_worked : GoodIn wsX12_textGives wsX12_worked := goodIn_m ge_X12_textGives ge_X12_worked (by decide +kernel) (by decide +kernel)
set_option maxRecDepth 20000 in
theorem gX12_textGives_X12_worked : GoodIn wsX12_textGives (wsV RX12 124 RX12 yX12_worked wsX12_worked) := goodIn_app (goodIn_m (cs := [895, 896, 897, 798]) ge_X12_textGives rfl (by decide +kernel) (by decide +kernel)) ggX12_textGives_X12_worked
set_option maxRecDepth 20000 in
theorem ggX12_textGives_X12_held : GoodIn wsX12_textGives wsX12_held := goodIn_m ge_X12_textGives ge_X12_held (by decide +kernel) (by decide +kernel)
set_option maxRecDepth 20000 in
theorem gX12_textGives_X12_held : GoodIn wsX12_textGives (va_wsS RX12 128 yX12_held wsX12_held) := goodIn_app (goodIn_m (cs := [899, 900, 798]) ge_X12_textGives rfl (by decide +kernel) (by decide +kernel)) ggX12_textGives_X12_held
set_option maxRecDepth 20000 in
theorem ggX12_law_X12_in : GoodIn wsX12_law wsX12_in := goodIn_m ge_X12_law ge_X12_in (by decide +kernel) (by decide +kernel)
set_option maxRecDepth 20000 in
theorem gX12_law_X12_in : GoodIn wsX12_law (va_wsS RX12 55 yX12_in wsX12_in) := goodIn_app (goodIn_m (cs := [831, 832, 798]) ge_X12_law rfl (by decide +kernel) (by decide +kernel)) ggX12_law_X12_in
set_option maxRecDepth 20000 in
theorem ggX12_law_X12_textGives : GoodIn wsX12_law wsX12_textGives := goodIn_m ge_X12_law ge_X12_textGives (by decide +kernel) (by decide +kernel)
set_option maxRecDepth 20000 in
theorem gX12_law_X12_textGives : GoodIn wsX12_law (wsV RX12 131 RX12 yX12_textGives wsX12_textGives) := goodIn_app (goodIn_m (cs := [903, 904, 905, 798]) ge_X12_law rfl (by decide +kernel) (by decide +kernel)) ggX12_law_X12_textGives
set_option maxRecDepth 20000 in
theorem ggX12_law_X12_finds : GoodIn wsX12_law wsX12_finds := goodIn_m ge_X12_law ge_X12_finds (by decide +kernel) (by decide +kernel)
set_option maxRecDepth 20000 in
theorem gX12_law_X12_finds : GoodIn wsX12_law (wsV RX12 119 RX12 yX12_finds wsX12_finds) := goodIn_app (goodIn_m (cs := [889, 890, 891, 798]) ge_X12_law rfl (by decide +kernel) (by decide +kernel)) ggX12_law_X12_finds
set_option maxRecDepth 20000 in
theorem ggX12_wall_X12_in : GoodIn wsX12_wall wsX12_in := goodIn_m ge_X12_wall ge_X12_in (by decide +kernel) (by decide +kernel)
set_option maxRecDepth 20000 in
theorem gX12_wall_X12_in : GoodIn wsX12_wall (va_wsS RX12 55 yX12_in wsX12_in) := goodIn_app (goodIn_m (cs := [831, 832, 798]) ge_X12_wall rfl (by decide +kernel) (by decide +kernel)) ggX12_wall_X12_in
set_option maxRecDepth 20000 in
theorem ggX12_wall_X12_finds : GoodIn wsX12_wall wsX12_finds := goodIn_m ge_X12_wall ge_X12_finds (by decide +kernel) (by decide +kernel)
set_option maxRecDepth 20000 in
theorem gX12_wall_X12_finds : GoodIn wsX12_wall (wsV RX12 119 RX12 yX12_finds wsX12_finds) := goodIn_app (goodIn_m (cs := [889, 890, 891, 798]) ge_X12_wall rfl (by decide +kernel) (by decide +kernel)) ggX12_wall_X12_finds
set_option maxRecDepth 20000 in
theorem ggX12_wall_X12_builds : GoodIn wsX12_wall wsX12_builds := goodIn_m ge_X12_wall ge_X12_builds (by decide +kernel) (by decide +kernel)
set_option maxRecDepth 20000 in
theorem gX12_wall_X12_builds : GoodIn wsX12_wall (wsV RX12 46 RX12 yX12_builds wsX12_builds) := goodIn_app (goodIn_m (cs := [795, 796, 797, 798]) ge_X12_wall rfl (by decide +kernel) (by decide +kernel)) ggX12_wall_X12_builds
set_option maxRecDepth 20000 in
theorem ggX12_set_X12_isCell : GoodIn wsX12_set wsX12_isCell := goodIn_m ge_X12_set ge_X12_isCell (by decide +kernel) (by decide +kernel)
set_option maxRecDepth 20000 in
theorem gX12_set_X12_isCell : GoodIn wsX12_set (wsV RX12 137 RX12 yX12_isCell wsX12_isCell) := goodIn_app (goodIn_m (cs := [911, 912, 913, 798]) ge_X12_set rfl (by decide +kernel) (by decide +kernel)) ggX12_set_X12_isCell
set_option maxRecDepth 20000 in
theorem ggX12_set_X12_in : GoodIn wsX12_set wsX12_in := goodIn_m ge_X12_set ge_X12_in (by decide +kernel) (by decide +kernel)
set_option maxRecDepth 20000 in
theorem gX12_set_X12_in : GoodIn wsX12_set (va_wsS RX12 55 yX12_in wsX12_in) := goodIn_app (goodIn_m (cs := [831, 832, 798]) ge_X12_set rfl (by decide +kernel) (by decide +kernel)) ggX12_set_X12_in
set_option maxRecDepth 20000 in
theorem ggX12_set_X12_finds : GoodIn wsX12_set wsX12_finds := goodIn_m ge_X12_set ge_X12_finds (by decide +kernel) (by decide +kernel)
set_option maxRecDepth 20000 in
theorem gX12_set_X12_finds : GoodIn wsX12_set (wsV RX12 119 RX12 yX12_finds wsX12_finds) := goodIn_app (goodIn_m (cs := [889, 890, 891, 798]) ge_X12_set rfl (by decide +kernel) (by decide +kernel)) ggX12_set_X12_finds
set_option maxRecDepth 20000 in
theorem ggX12_seenOf_X12_textGives : GoodIn wsX12_seenOf wsX12_textGives := goodIn_m ge_X12_seenOf ge_X12_textGives (by decide +kernel) (by decide +kernel)
set_option maxRecDepth 20000 in
theorem gX12_seenOf_X12_textGives : GoodIn wsX12_seenOf (wsV RX12 131 RX12 yX12_textGives wsX12_textGives) := goodIn_app (goodIn_m (cs := [903, 904, 905, 798]) ge_X12_seenOf rfl (by decide +kernel) (by decide +kernel)) ggX12_seenOf_X12_textGives
set_option maxRecDepth 20000 in
theorem ggX12_movedOf_X12_numberOf : GoodIn wsX12_movedOf wsX12_numberOf := goodIn_m ge_X12_movedOf ge_X12_numberOf (by decide +kernel) (by decide +kernel)
set_option maxRecDepth 20000 in
theorem gX12_movedOf_X12_numberOf : GoodIn wsX12_movedOf (wsV RX12 147 RX12 yX12_numberOf wsX12_numberOf) := goodIn_app (goodIn_m (cs := [917, 918, 919, 798]) ge_X12_movedOf rfl (by decide +kernel) (by decide +kernel)) ggX12_movedOf_X12_numberOf
set_option maxRecDepth 20000 in
theorem ggX12_movedOf_X12_textGives : GoodIn wsX12_movedOf wsX12_textGives := goodIn_m ge_X12_movedOf ge_X12_textGives (by decide +kernel) (by decide +kernel)
set_option maxRecDepth 20000 in
theorem gX12_movedOf_X12_textGives : GoodIn wsX12_movedOf (wsV RX12 131 RX12 yX12_textGives wsX12_textGives) := goodIn_app (goodIn_m (cs := [903, 904, 905, 798]) ge_X12_movedOf rfl (by decide +kernel) (by decide +kernel)) ggX12_movedOf_X12_textGives
set_option maxRecDepth 20000 in
theorem ggX12_seen_X12_cells : GoodIn wsX12_seen wsX12_cells := goodIn_m ge_X12_seen ge_X12_cells (by decide +kernel) (by decide +kernel)
set_option maxRecDepth 20000 in
theorem gX12_seen_X12_cells : GoodIn wsX12_seen (wsV RX12 51 RX12 yX12_cells wsX12_cells) := goodIn_app (goodIn_m (cs := [827, 828, 829, 798]) ge_X12_seen rfl (by decide +kernel) (by decide +kernel)) ggX12_seen_X12_cells
set_option maxRecDepth 20000 in
theorem ggX12_seen_X12_seenOf : GoodIn wsX12_seen wsX12_seenOf := goodIn_m ge_X12_seen ge_X12_seenOf (by decide +kernel) (by decide +kernel)
set_option maxRecDepth 20000 in
theorem gX12_seen_X12_seenOf : GoodIn wsX12_seen (wsV RX12 150 RX12 yX12_seenOf wsX12_seenOf) := goodIn_app (goodIn_m (cs := [922, 923, 924, 798]) ge_X12_seen rfl (by decide +kernel) (by decide +kernel)) ggX12_seen_X12_seenOf
set_option maxRecDepth 20000 in
theorem ggX12_shown_X12_seen : GoodIn wsX12_shown wsX12_seen := goodIn_m ge_X12_shown ge_X12_seen (by decide +kernel) (by decide +kernel)
set_option maxRecDepth 20000 in
theorem gX12_shown_X12_seen : GoodIn wsX12_shown (wsV RX12 153 RX12 yX12_seen wsX12_seen) := goodIn_app (goodIn_m (cs := [926, 927, 928, 798]) ge_X12_shown rfl (by decide +kernel) (by decide +kernel)) ggX12_shown_X12_seen
set_option maxRecDepth 20000 in
theorem ggX12_allAir_X12_cells : GoodIn wsX12_allAir wsX12_cells := goodIn_m ge_X12_allAir ge_X12_cells (by decide +kernel) (by decide +kernel)
set_option maxRecDepth 20000 in
theorem gX12_allAir_X12_cells : GoodIn wsX12_allAir (wsV RX12 51 RX12 yX12_cells wsX12_cells) := goodIn_app (goodIn_m (cs := [827, 828, 829, 798]) ge_X12_allAir rfl (by decide +kernel) (by decide +kernel)) ggX12_allAir_X12_cells
set_option maxRecDepth 20000 in
theorem ggX12_nextTo_X12_in : GoodIn wsX12_nextTo wsX12_in := goodIn_m ge_X12_nextTo ge_X12_in (by decide +kernel) (by decide +kernel)
set_option maxRecDepth 20000 in
theorem gX12_nextTo_X12_in : GoodIn wsX12_nextTo (va_wsS RX12 55 yX12_in wsX12_in) := goodIn_app (goodIn_m (cs := [831, 832, 798]) ge_X12_nextTo rfl (by decide +kernel) (by decide +kernel)) ggX12_nextTo_X12_in
set_option maxRecDepth 20000 in
theorem ggX12_bubbleOf_X12_cells : GoodIn wsX12_bubbleOf wsX12_cells := goodIn_m ge_X12_bubbleOf ge_X12_cells (by decide +kernel) (by decide +kernel)
set_option maxRecDepth 20000 in
theorem gX12_bubbleOf_X12_cells : GoodIn wsX12_bubbleOf (wsV RX12 51 RX12 yX12_cells wsX12_cells) := goodIn_app (goodIn_m (cs := [827, 828, 829, 798]) ge_X12_bubbleOf rfl (by decide +kernel) (by decide +kernel)) ggX12_bubbleOf_X12_cells
set_option maxRecDepth 20000 in
theorem ggX12_bubbleOf_X12_nextTo : GoodIn wsX12_bubbleOf wsX12_nextTo := goodIn_m ge_X12_bubbleOf ge_X12_nextTo (by decide +kernel) (by decide +kernel)
set_option maxRecDepth 20000 in
theorem gX12_bubbleOf_X12_nextTo : GoodIn wsX12_bubbleOf (wsV RX12 156 RX12 yX12_nextTo wsX12_nextTo) := goodIn_app (goodIn_m (cs := [932, 933, 934, 798]) ge_X12_bubbleOf rfl (by decide +kernel) (by decide +kernel)) ggX12_bubbleOf_X12_nextTo
set_option maxRecDepth 20000 in
theorem ggX12_sizeOf0_X12_cells : GoodIn wsX12_sizeOf0 wsX12_cells := goodIn_m ge_X12_sizeOf0 ge_X12_cells (by decide +kernel) (by decide +kernel)
set_option maxRecDepth 20000 in
theorem gX12_sizeOf0_X12_cells : GoodIn wsX12_sizeOf0 (wsV RX12 51 RX12 yX12_cells wsX12_cells) := goodIn_app (goodIn_m (cs := [827, 828, 829, 798]) ge_X12_sizeOf0 rfl (by decide +kernel) (by decide +kernel)) ggX12_sizeOf0_X12_cells
set_option maxRecDepth 20000 in
theorem ggX12_ofCell_X12_isCell : GoodIn wsX12_ofCell wsX12_isCell := goodIn_m ge_X12_ofCell ge_X12_isCell (by decide +kernel) (by decide +kernel)
set_option maxRecDepth 20000 in
theorem gX12_ofCell_X12_isCell : GoodIn wsX12_ofCell (wsV RX12 137 RX12 yX12_isCell wsX12_isCell) := goodIn_app (goodIn_m (cs := [911, 912, 913, 798]) ge_X12_ofCell rfl (by decide +kernel) (by decide +kernel)) ggX12_ofCell_X12_isCell
set_option maxRecDepth 20000 in
theorem ggX12_ofCell_X12_in : GoodIn wsX12_ofCell wsX12_in := goodIn_m ge_X12_ofCell ge_X12_in (by decide +kernel) (by decide +kernel)
set_option maxRecDepth 20000 in
theorem gX12_ofCell_X12_in : GoodIn wsX12_ofCell (va_wsS RX12 55 yX12_in wsX12_in) := goodIn_app (goodIn_m (cs := [831, 832, 798]) ge_X12_ofCell rfl (by decide +kernel) (by decide +kernel)) ggX12_ofCell_X12_in
set_option maxRecDepth 20000 in
theorem ggX12_ofCell_X12_finds : GoodIn wsX12_ofCell wsX12_finds := goodIn_m ge_X12_ofCell ge_X12_finds (by decide +kernel) (by decide +kernel)
set_option maxRecDepth 20000 in
theorem gX12_ofCell_X12_finds : GoodIn wsX12_ofCell (wsV RX12 119 RX12 yX12_finds wsX12_finds) := goodIn_app (goodIn_m (cs := [889, 890, 891, 798]) ge_X12_ofCell rfl (by decide +kernel) (by decide +kernel)) ggX12_ofCell_X12_finds
set_option maxRecDepth 20000 in
theorem ggX12_ofCell_X12_seenOf : GoodIn wsX12_ofCell wsX12_seenOf := goodIn_m ge_X12_ofCell ge_X12_seenOf (by decide +kernel) (by decide +kernel)
set_option maxRecDepth 20000 in
theorem gX12_ofCell_X12_seenOf : GoodIn wsX12_ofCell (wsV RX12 150 RX12 yX12_seenOf wsX12_seenOf) := goodIn_app (goodIn_m (cs := [922, 923, 924, 798]) ge_X12_ofCell rfl (by decide +kernel) (by decide +kernel)) ggX12_ofCell_X12_seenOf
set_option maxRecDepth 20000 in
theorem ggX12_ofCell_X12_bubbleOf : GoodIn wsX12_ofCell wsX12_bubbleOf := goodIn_m ge_X12_ofCell ge_X12_bubbleOf (by decide +kernel) (by decide +kernel)
set_option maxRecDepth 20000 in
theorem gX12_ofCell_X12_bubbleOf : GoodIn wsX12_ofCell (wsV RX12 160 RX12 yX12_bubbleOf wsX12_bubbleOf) := goodIn_app (goodIn_m (cs := [937, 938, 939, 798]) ge_X12_ofCell rfl (by decide +kernel) (by decide +kernel)) ggX12_ofCell_X12_bubbleOf
set_option maxRecDepth 20000 in
theorem ggX12_ofCell_X12_sizeOf0 : GoodIn wsX12_ofCell wsX12_sizeOf0 := goodIn_m ge_X12_ofCell ge_X12_sizeOf0 (by decide +kernel) (by decide +kernel)
set_option maxRecDepth 20000 in
theorem gX12_ofCell_X12_sizeOf0 : GoodIn wsX12_ofCell (wsV RX12 163 RX12 yX12_sizeOf0 wsX12_sizeOf0) := goodIn_app (goodIn_m (cs := [940, 941, 942, 798]) ge_X12_ofCell rfl (by decide +kernel) (by decide +kernel)) ggX12_ofCell_X12_sizeOf0
set_option maxRecDepth 20000 in
theorem ggX12_edge_X12_isWay : GoodIn wsX12_edge wsX12_isWay := goodIn_m ge_X12_edge ge_X12_isWay (by decide +kernel) (by decide +kernel)
set_option maxRecDepth 20000 in
theorem gX12_edge_X12_isWay : GoodIn wsX12_edge (va_wsS RX12 166 yX12_isWay wsX12_isWay) := goodIn_app (goodIn_m (cs := [944, 945, 798]) ge_X12_edge rfl (by decide +kernel) (by decide +kernel)) ggX12_edge_X12_isWay
set_option maxRecDepth 20000 in
theorem ggX12_edge_X12_in : GoodIn wsX12_edge wsX12_in := goodIn_m ge_X12_edge ge_X12_in (by decide +kernel) (by decide +kernel)
set_option maxRecDepth 20000 in
theorem gX12_edge_X12_in : GoodIn wsX12_edge (va_wsS RX12 55 yX12_in wsX12_in) := goodIn_app (goodIn_m (cs := [831, 832, 798]) ge_X12_edge rfl (by decide +kernel) (by decide +kernel)) ggX12_edge_X12_in
set_option maxRecDepth 20000 in
theorem ggX12_edge_X12_finds : GoodIn wsX12_edge wsX12_finds := goodIn_m ge_X12_edge ge_X12_finds (by decide +kernel) (by decide +kernel)
set_option maxRecDepth 20000 in
theorem gX12_edge_X12_finds : GoodIn wsX12_edge (wsV RX12 119 RX12 yX12_finds wsX12_finds) := goodIn_app (goodIn_m (cs := [889, 890, 891, 798]) ge_X12_edge rfl (by decide +kernel) (by decide +kernel)) ggX12_edge_X12_finds
set_option maxRecDepth 20000 in
theorem ggX12_edge_X12_isOpen : GoodIn wsX12_edge wsX12_isOpen := goodIn_m ge_X12_edge ge_X12_isOpen (by decide +kernel) (by decide +kernel)
set_option maxRecDepth 20000 in
theorem gX12_edge_X12_isOpen : GoodIn wsX12_edge (wsV RX12 169 RX12 yX12_isOpen wsX12_isOpen) := goodIn_app (goodIn_m (cs := [946, 947, 948, 798]) ge_X12_edge rfl (by decide +kernel) (by decide +kernel)) ggX12_edge_X12_isOpen
set_option maxRecDepth 20000 in
theorem ggX12_movesOf_X12_numberOf : GoodIn wsX12_movesOf wsX12_numberOf := goodIn_m ge_X12_movesOf ge_X12_numberOf (by decide +kernel) (by decide +kernel)
set_option maxRecDepth 20000 in
theorem gX12_movesOf_X12_numberOf : GoodIn wsX12_movesOf (wsV RX12 147 RX12 yX12_numberOf wsX12_numberOf) := goodIn_app (goodIn_m (cs := [917, 918, 919, 798]) ge_X12_movesOf rfl (by decide +kernel) (by decide +kernel)) ggX12_movesOf_X12_numberOf
set_option maxRecDepth 20000 in
theorem ggX12_movesOf_X12_movedOf : GoodIn wsX12_movesOf wsX12_movedOf := goodIn_m ge_X12_movesOf ge_X12_movedOf (by decide +kernel) (by decide +kernel)
set_option maxRecDepth 20000 in
theorem gX12_movesOf_X12_movedOf : GoodIn wsX12_movesOf (wsV RX12 172 RX12 yX12_movedOf wsX12_movedOf) := goodIn_app (goodIn_m (cs := [951, 952, 953, 798]) ge_X12_movesOf rfl (by decide +kernel) (by decide +kernel)) ggX12_movesOf_X12_movedOf
set_option maxRecDepth 20000 in
theorem ggX12_movesOf_X12_kindOf : GoodIn wsX12_movesOf wsX12_kindOf := goodIn_m ge_X12_movesOf ge_X12_kindOf (by decide +kernel) (by decide +kernel)
set_option maxRecDepth 20000 in
theorem gX12_movesOf_X12_kindOf : GoodIn wsX12_movesOf (wsV RX12 175 RX12 yX12_kindOf wsX12_kindOf) := goodIn_app (goodIn_m (cs := [954, 955, 956, 798]) ge_X12_movesOf rfl (by decide +kernel) (by decide +kernel)) ggX12_movesOf_X12_kindOf
set_option maxRecDepth 20000 in
theorem ggX12_reachOf_X12_kindOf : GoodIn wsX12_reachOf wsX12_kindOf := goodIn_m ge_X12_reachOf ge_X12_kindOf (by decide +kernel) (by decide +kernel)
set_option maxRecDepth 20000 in
theorem gX12_reachOf_X12_kindOf : GoodIn wsX12_reachOf (wsV RX12 175 RX12 yX12_kindOf wsX12_kindOf) := goodIn_app (goodIn_m (cs := [954, 955, 956, 798]) ge_X12_reachOf rfl (by decide +kernel) (by decide +kernel)) ggX12_reachOf_X12_kindOf
set_option maxRecDepth 20000 in
theorem ggX12_reachOf_X12_numberOf : GoodIn wsX12_reachOf wsX12_numberOf := goodIn_m ge_X12_reachOf ge_X12_numberOf (by decide +kernel) (by decide +kernel)
set_option maxRecDepth 20000 in
theorem gX12_reachOf_X12_numberOf : GoodIn wsX12_reachOf (wsV RX12 147 RX12 yX12_numberOf wsX12_numberOf) := goodIn_app (goodIn_m (cs := [917, 918, 919, 798]) ge_X12_reachOf rfl (by decide +kernel) (by decide +kernel)) ggX12_reachOf_X12_numberOf
set_option maxRecDepth 20000 in
theorem ggX12_letsOf_X12_kindOf : GoodIn wsX12_letsOf wsX12_kindOf := goodIn_m ge_X12_letsOf ge_X12_kindOf (by decide +kernel) (by decide +kernel)
set_option maxRecDepth 20000 in
theorem gX12_letsOf_X12_kindOf : GoodIn wsX12_letsOf (wsV RX12 175 RX12 yX12_kindOf wsX12_kindOf) := goodIn_app (goodIn_m (cs := [954, 955, 956, 798]) ge_X12_letsOf rfl (by decide +kernel) (by decide +kernel)) ggX12_letsOf_X12_kindOf
set_option maxRecDepth 20000 in
theorem ggX12_letsOf_X12_numberOf : GoodIn wsX12_letsOf wsX12_numberOf := goodIn_m ge_X12_letsOf ge_X12_numberOf (by decide +kernel) (by decide +kernel)
set_option maxRecDepth 20000 in
theorem gX12_letsOf_X12_numberOf : GoodIn wsX12_letsOf (wsV RX12 147 RX12 yX12_numberOf wsX12_numberOf) := goodIn_app (goodIn_m (cs := [917, 918, 919, 798]) ge_X12_letsOf rfl (by decide +kernel) (by decide +kernel)) ggX12_letsOf_X12_numberOf
set_option maxRecDepth 20000 in
theorem ggX12_tearsOf_X12_kindOf : GoodIn wsX12_tearsOf wsX12_kindOf := goodIn_m ge_X12_tearsOf ge_X12_kindOf (by decide +kernel) (by decide +kernel)
set_option maxRecDepth 20000 in
theorem gX12_tearsOf_X12_kindOf : GoodIn wsX12_tearsOf (wsV RX12 175 RX12 yX12_kindOf wsX12_kindOf) := goodIn_app (goodIn_m (cs := [954, 955, 956, 798]) ge_X12_tearsOf rfl (by decide +kernel) (by decide +kernel)) ggX12_tearsOf_X12_kindOf
set_option maxRecDepth 20000 in
theorem ggX12_tool_X12_in : GoodIn wsX12_tool wsX12_in := goodIn_m ge_X12_tool ge_X12_in (by decide +kernel) (by decide +kernel)
set_option maxRecDepth 20000 in
theorem gX12_tool_X12_in : GoodIn wsX12_tool (va_wsS RX12 55 yX12_in wsX12_in) := goodIn_app (goodIn_m (cs := [831, 832, 798]) ge_X12_tool rfl (by decide +kernel) (by decide +kernel)) ggX12_tool_X12_in
set_option maxRecDepth 20000 in
theorem ggX12_tool_X12_finds : GoodIn wsX12_tool wsX12_finds := goodIn_m ge_X12_tool ge_X12_finds (by decide +kernel) (by decide +kernel)
set_option maxRecDepth 20000 in
theorem gX12_tool_X12_finds : GoodIn wsX12_tool (wsV RX12 119 RX12 yX12_finds wsX12_finds) := goodIn_app (goodIn_m (cs := [889, 890, 891, 798]) ge_X12_tool rfl (by decide +kernel) (by decide +kernel)) ggX12_tool_X12_finds
set_option maxRecDepth 20000 in
theorem ggX12_ofTool_X12_isTool : GoodIn wsX12_ofTool wsX12_isTool := goodIn_m ge_X12_ofTool ge_X12_isTool (by decide +kernel) (by decide +kernel)
set_option maxRecDepth 20000 in
theorem gX12_ofTool_X12_isTool : GoodIn wsX12_ofTool (wsV RX12 180 RX12 yX12_isTool wsX12_isTool) := goodIn_app (goodIn_m (cs := [965, 966, 967, 798]) ge_X12_ofTool rfl (by decide +kernel) (by decide +kernel)) ggX12_ofTool_X12_isTool
set_option maxRecDepth 20000 in
theorem ggX12_ofTool_X12_in : GoodIn wsX12_ofTool wsX12_in := goodIn_m ge_X12_ofTool ge_X12_in (by decide +kernel) (by decide +kernel)
set_option maxRecDepth 20000 in
theorem gX12_ofTool_X12_in : GoodIn wsX12_ofTool (va_wsS RX12 55 yX12_in wsX12_in) := goodIn_app (goodIn_m (cs := [831, 832, 798]) ge_X12_ofTool rfl (by decide +kernel) (by decide +kernel)) ggX12_ofTool_X12_in
set_option maxRecDepth 20000 in
theorem ggX12_ofTool_X12_finds : GoodIn wsX12_ofTool wsX12_finds := goodIn_m ge_X12_ofTool ge_X12_finds (by decide +kernel) (by decide +kernel)
set_option maxRecDepth 20000 in
theorem gX12_ofTool_X12_finds : GoodIn wsX12_ofTool (wsV RX12 119 RX12 yX12_finds wsX12_finds) := goodIn_app (goodIn_m (cs := [889, 890, 891, 798]) ge_X12_ofTool rfl (by decide +kernel) (by decide +kernel)) ggX12_ofTool_X12_finds
set_option maxRecDepth 20000 in
theorem ggX12_ofTool_X12_kindOf : GoodIn wsX12_ofTool wsX12_kindOf := goodIn_m ge_X12_ofTool ge_X12_kindOf (by decide +kernel) (by decide +kernel)
set_option maxRecDepth 20000 in
theorem gX12_ofTool_X12_kindOf : GoodIn wsX12_ofTool (wsV RX12 175 RX12 yX12_kindOf wsX12_kindOf) := goodIn_app (goodIn_m (cs := [954, 955, 956, 798]) ge_X12_ofTool rfl (by decide +kernel) (by decide +kernel)) ggX12_ofTool_X12_kindOf
set_option maxRecDepth 20000 in
theorem ggX12_ofTool_X12_numberOf : GoodIn wsX12_ofTool wsX12_numberOf := goodIn_m ge_X12_ofTool ge_X12_numberOf (by decide +kernel) (by decide +kernel)
set_option maxRecDepth 20000 in
theorem gX12_ofTool_X12_numberOf : GoodIn wsX12_ofTool (wsV RX12 147 RX12 yX12_numberOf wsX12_numberOf) := goodIn_app (goodIn_m (cs := [917, 918, 919, 798]) ge_X12_ofTool rfl (by decide +kernel) (by decide +kernel)) ggX12_ofTool_X12_numberOf
set_option maxRecDepth 20000 in
theorem ggX12_ofTool_X12_reachOf : GoodIn wsX12_ofTool wsX12_reachOf := goodIn_m ge_X12_ofTool ge_X12_reachOf (by decide +kernel) (by decide +kernel)
set_option maxRecDepth 20000 in
theorem gX12_ofTool_X12_reachOf : GoodIn wsX12_ofTool (wsV RX12 185 RX12 yX12_reachOf wsX12_reachOf) := goodIn_app (goodIn_m (cs := [968, 969, 970, 798]) ge_X12_ofTool rfl (by decide +kernel) (by decide +kernel)) ggX12_ofTool_X12_reachOf
set_option maxRecDepth 20000 in
theorem ggX12_ofTool_X12_movesOf : GoodIn wsX12_ofTool wsX12_movesOf := goodIn_m ge_X12_ofTool ge_X12_movesOf (by decide +kernel) (by decide +kernel)
set_option maxRecDepth 20000 in
theorem gX12_ofTool_X12_movesOf : GoodIn wsX12_ofTool (wsV RX12 188 RX12 yX12_movesOf wsX12_movesOf) := goodIn_app (goodIn_m (cs := [971, 972, 973, 798]) ge_X12_ofTool rfl (by decide +kernel) (by decide +kernel)) ggX12_ofTool_X12_movesOf
set_option maxRecDepth 20000 in
theorem ggX12_ofTool_X12_letsOf : GoodIn wsX12_ofTool wsX12_letsOf := goodIn_m ge_X12_ofTool ge_X12_letsOf (by decide +kernel) (by decide +kernel)
set_option maxRecDepth 20000 in
theorem gX12_ofTool_X12_letsOf : GoodIn wsX12_ofTool (wsV RX12 191 RX12 yX12_letsOf wsX12_letsOf) := goodIn_app (goodIn_m (cs := [974, 975, 976, 798]) ge_X12_ofTool rfl (by decide +kernel) (by decide +kernel)) ggX12_ofTool_X12_letsOf
set_option maxRecDepth 20000 in
theorem ggX12_ofTool_X12_tearsOf : GoodIn wsX12_ofTool wsX12_tearsOf := goodIn_m ge_X12_ofTool ge_X12_tearsOf (by decide +kernel) (by decide +kernel)
set_option maxRecDepth 20000 in
theorem gX12_ofTool_X12_tearsOf : GoodIn wsX12_ofTool (wsV RX12 194 RX12 yX12_tearsOf wsX12_tearsOf) := goodIn_app (goodIn_m (cs := [977, 978, 979, 798]) ge_X12_ofTool rfl (by decide +kernel) (by decide +kernel)) ggX12_ofTool_X12_tearsOf
set_option maxRecDepth 20000 in
theorem ggX12_become_X12_isTool : GoodIn wsX12_become wsX12_isTool := goodIn_m ge_X12_become ge_X12_isTool (by decide +kernel) (by decide +kernel)
set_option maxRecDepth 20000 in
theorem gX12_become_X12_isTool : GoodIn wsX12_become (wsV RX12 180 RX12 yX12_isTool wsX12_isTool) := goodIn_app (goodIn_m (cs := [965, 966, 967, 798]) ge_X12_become rfl (by decide +kernel) (by decide +kernel)) ggX12_become_X12_isTool
set_option maxRecDepth 20000 in
theorem ggX12_become_X12_in : GoodIn wsX12_become wsX12_in := goodIn_m ge_X12_become ge_X12_in (by decide +kernel) (by decide +kernel)
set_option maxRecDepth 20000 in
theorem gX12_become_X12_in : GoodIn wsX12_become (va_wsS RX12 55 yX12_in wsX12_in) := goodIn_app (goodIn_m (cs := [831, 832, 798]) ge_X12_become rfl (by decide +kernel) (by decide +kernel)) ggX12_become_X12_in
set_option maxRecDepth 20000 in
theorem ggX12_become_X12_finds : GoodIn wsX12_become wsX12_finds := goodIn_m ge_X12_become ge_X12_finds (by decide +kernel) (by decide +kernel)
set_option maxRecDepth 20000 in
theorem gX12_become_X12_finds : GoodIn wsX12_become (wsV RX12 119 RX12 yX12_finds wsX12_finds) := goodIn_app (goodIn_m (cs := [889, 890, 891, 798]) ge_X12_become rfl (by decide +kernel) (by decide +kernel)) ggX12_become_X12_finds
set_option maxRecDepth 20000 in
theorem ggX12_become_X12_kindOf : GoodIn wsX12_become wsX12_kindOf := goodIn_m ge_X12_become ge_X12_kindOf (by decide +kernel) (by decide +kernel)
set_option maxRecDepth 20000 in
theorem gX12_become_X12_kindOf : GoodIn wsX12_become (wsV RX12 175 RX12 yX12_kindOf wsX12_kindOf) := goodIn_app (goodIn_m (cs := [954, 955, 956, 798]) ge_X12_become rfl (by decide +kernel) (by decide +kernel)) ggX12_become_X12_kindOf
set_option maxRecDepth 20000 in
theorem ggX12_as_X12_isTool : GoodIn wsX12_as wsX12_isTool := goodIn_m ge_X12_as ge_X12_isTool (by decide +kernel) (by decide +kernel)
set_option maxRecDepth 20000 in
theorem gX12_as_X12_isTool : GoodIn wsX12_as (wsV RX12 180 RX12 yX12_isTool wsX12_isTool) := goodIn_app (goodIn_m (cs := [965, 966, 967, 798]) ge_X12_as rfl (by decide +kernel) (by decide +kernel)) ggX12_as_X12_isTool
set_option maxRecDepth 20000 in
theorem ggX12_as_X12_in : GoodIn wsX12_as wsX12_in := goodIn_m ge_X12_as ge_X12_in (by decide +kernel) (by decide +kernel)
set_option maxRecDepth 20000 in
theorem gX12_as_X12_in : GoodIn wsX12_as (va_wsS RX12 55 yX12_in wsX12_in) := goodIn_app (goodIn_m (cs := [831, 832, 798]) ge_X12_as rfl (by decide +kernel) (by decide +kernel)) ggX12_as_X12_in
set_option maxRecDepth 20000 in
theorem ggX12_as_X12_finds : GoodIn wsX12_as wsX12_finds := goodIn_m ge_X12_as ge_X12_finds (by decide +kernel) (by decide +kernel)
set_option maxRecDepth 20000 in
theorem gX12_as_X12_finds : GoodIn wsX12_as (wsV RX12 119 RX12 yX12_finds wsX12_finds) := goodIn_app (goodIn_m (cs := [889, 890, 891, 798]) ge_X12_as rfl (by decide +kernel) (by decide +kernel)) ggX12_as_X12_finds
set_option maxRecDepth 20000 in
theorem ggX12_as_X12_kindOf : GoodIn wsX12_as wsX12_kindOf := goodIn_m ge_X12_as ge_X12_kindOf (by decide +kernel) (by decide +kernel)
set_option maxRecDepth 20000 in
theorem gX12_as_X12_kindOf : GoodIn wsX12_as (wsV RX12 175 RX12 yX12_kindOf wsX12_kindOf) := goodIn_app (goodIn_m (cs := [954, 955, 956, 798]) ge_X12_as rfl (by decide +kernel) (by decide +kernel)) ggX12_as_X12_kindOf
set_option maxRecDepth 20000 in
theorem ggX12_as_X12_above : GoodIn wsX12_as wsX12_above := goodIn_m ge_X12_as ge_X12_above (by decide +kernel) (by decide +kernel)
set_option maxRecDepth 20000 in
theorem gX12_as_X12_above : GoodIn wsX12_as (va_wsS RX12 197 yX12_above wsX12_above) := goodIn_app (goodIn_m (cs := [982, 983, 798]) ge_X12_as rfl (by decide +kernel) (by decide +kernel)) ggX12_as_X12_above
set_option maxRecDepth 20000 in
theorem ggX12_as_X12_numberOf : GoodIn wsX12_as wsX12_numberOf := goodIn_m ge_X12_as ge_X12_numberOf (by decide +kernel) (by decide +kernel)
set_option maxRecDepth 20000 in
theorem gX12_as_X12_numberOf : GoodIn wsX12_as (wsV RX12 147 RX12 yX12_numberOf wsX12_numberOf) := goodIn_app (goodIn_m (cs := [917, 918, 919, 798]) ge_X12_as rfl (by decide +kernel) (by decide +kernel)) ggX12_as_X12_numberOf
set_option maxRecDepth 20000 in
theorem ggX12_strokes_X12_letsOf : GoodIn wsX12_strokes wsX12_letsOf := goodIn_m ge_X12_strokes ge_X12_letsOf (by decide +kernel) (by decide +kernel)
set_option maxRecDepth 20000 in
theorem gX12_strokes_X12_letsOf : GoodIn wsX12_strokes (wsV RX12 191 RX12 yX12_letsOf wsX12_letsOf) := goodIn_app (goodIn_m (cs := [974, 975, 976, 798]) ge_X12_strokes rfl (by decide +kernel) (by decide +kernel)) ggX12_strokes_X12_letsOf
set_option maxRecDepth 20000 in
theorem ggX12_strokes_X12_goesOut : GoodIn wsX12_strokes wsX12_goesOut := goodIn_m ge_X12_strokes ge_X12_goesOut (by decide +kernel) (by decide +kernel)
set_option maxRecDepth 20000 in
theorem gX12_strokes_X12_goesOut : GoodIn wsX12_strokes (wsV RX12 201 RX12 yX12_goesOut wsX12_goesOut) := goodIn_app (goodIn_m (cs := [987, 988, 989, 798]) ge_X12_strokes rfl (by decide +kernel) (by decide +kernel)) ggX12_strokes_X12_goesOut
set_option maxRecDepth 20000 in
theorem ggX12_strokes_X12_tearsOf : GoodIn wsX12_strokes wsX12_tearsOf := goodIn_m ge_X12_strokes ge_X12_tearsOf (by decide +kernel) (by decide +kernel)
set_option maxRecDepth 20000 in
theorem gX12_strokes_X12_tearsOf : GoodIn wsX12_strokes (wsV RX12 194 RX12 yX12_tearsOf wsX12_tearsOf) := goodIn_app (goodIn_m (cs := [977, 978, 979, 798]) ge_X12_strokes rfl (by decide +kernel) (by decide +kernel)) ggX12_strokes_X12_tearsOf
set_option maxRecDepth 20000 in
theorem ggX12_strokes_X12_reachOf : GoodIn wsX12_strokes wsX12_reachOf := goodIn_m ge_X12_strokes ge_X12_reachOf (by decide +kernel) (by decide +kernel)
set_option maxRecDepth 20000 in
theorem gX12_strokes_X12_reachOf : GoodIn wsX12_strokes (wsV RX12 185 RX12 yX12_reachOf wsX12_reachOf) := goodIn_app (goodIn_m (cs := [968, 969, 970, 798]) ge_X12_strokes rfl (by decide +kernel) (by decide +kernel)) ggX12_strokes_X12_reachOf
set_option maxRecDepth 20000 in
theorem ggX12_strokes_X12_movesOf : GoodIn wsX12_strokes wsX12_movesOf := goodIn_m ge_X12_strokes ge_X12_movesOf (by decide +kernel) (by decide +kernel)
set_option maxRecDepth 20000 in
theorem gX12_strokes_X12_movesOf : GoodIn wsX12_strokes (wsV RX12 188 RX12 yX12_movesOf wsX12_movesOf) := goodIn_app (goodIn_m (cs := [971, 972, 973, 798]) ge_X12_strokes rfl (by decide +kernel) (by decide +kernel)) ggX12_strokes_X12_movesOf
set_option maxRecDepth 20000 in
theorem ggX12_strokes_X12_nextTo : GoodIn wsX12_strokes wsX12_nextTo := goodIn_m ge_X12_strokes ge_X12_nextTo (by decide +kernel) (by decide +kernel)
set_option maxRecDepth 20000 in
theorem gX12_strokes_X12_nextTo : GoodIn wsX12_strokes (wsV RX12 156 RX12 yX12_nextTo wsX12_nextTo) := goodIn_app (goodIn_m (cs := [932, 933, 934, 798]) ge_X12_strokes rfl (by decide +kernel) (by decide +kernel)) ggX12_strokes_X12_nextTo
set_option maxRecDepth 20000 in
theorem ggX12_strokes_X12_isOpen : GoodIn wsX12_strokes wsX12_isOpen := goodIn_m ge_X12_strokes ge_X12_isOpen (by decide +kernel) (by decide +kernel)
set_option maxRecDepth 20000 in
theorem gX12_strokes_X12_isOpen : GoodIn wsX12_strokes (wsV RX12 169 RX12 yX12_isOpen wsX12_isOpen) := goodIn_app (goodIn_m (cs := [946, 947, 948, 798]) ge_X12_strokes rfl (by decide +kernel) (by decide +kernel)) ggX12_strokes_X12_isOpen
set_option maxRecDepth 20000 in
theorem ggX12_stroke_X12_isTool : GoodIn wsX12_stroke wsX12_isTool := goodIn_m ge_X12_stroke ge_X12_isTool (by decide +kernel) (by decide +kernel)
set_option maxRecDepth 20000 in
theorem gX12_stroke_X12_isTool : GoodIn wsX12_stroke (wsV RX12 180 RX12 yX12_isTool wsX12_isTool) := goodIn_app (goodIn_m (cs := [965, 966, 967, 798]) ge_X12_stroke rfl (by decide +kernel) (by decide +kernel)) ggX12_stroke_X12_isTool
set_option maxRecDepth 20000 in
theorem ggX12_stroke_X12_isCell : GoodIn wsX12_stroke wsX12_isCell := goodIn_m ge_X12_stroke ge_X12_isCell (by decide +kernel) (by decide +kernel)
set_option maxRecDepth 20000 in
theorem gX12_stroke_X12_isCell : GoodIn wsX12_stroke (wsV RX12 137 RX12 yX12_isCell wsX12_isCell) := goodIn_app (goodIn_m (cs := [911, 912, 913, 798]) ge_X12_stroke rfl (by decide +kernel) (by decide +kernel)) ggX12_stroke_X12_isCell
set_option maxRecDepth 20000 in
theorem ggX12_stroke_X12_isWay : GoodIn wsX12_stroke wsX12_isWay := goodIn_m ge_X12_stroke ge_X12_isWay (by decide +kernel) (by decide +kernel)
set_option maxRecDepth 20000 in
theorem gX12_stroke_X12_isWay : GoodIn wsX12_stroke (va_wsS RX12 166 yX12_isWay wsX12_isWay) := goodIn_app (goodIn_m (cs := [944, 945, 798]) ge_X12_stroke rfl (by decide +kernel) (by decide +kernel)) ggX12_stroke_X12_isWay
set_option maxRecDepth 20000 in
theorem ggX12_stroke_X12_finds : GoodIn wsX12_stroke wsX12_finds := goodIn_m ge_X12_stroke ge_X12_finds (by decide +kernel) (by decide +kernel)
set_option maxRecDepth 20000 in
theorem gX12_stroke_X12_finds : GoodIn wsX12_stroke (wsV RX12 119 RX12 yX12_finds wsX12_finds) := goodIn_app (goodIn_m (cs := [889, 890, 891, 798]) ge_X12_stroke rfl (by decide +kernel) (by decide +kernel)) ggX12_stroke_X12_finds
set_option maxRecDepth 20000 in
theorem ggX12_stroke_X12_strokes : GoodIn wsX12_stroke wsX12_strokes := goodIn_m ge_X12_stroke ge_X12_strokes (by decide +kernel) (by decide +kernel)
set_option maxRecDepth 20000 in
theorem gX12_stroke_X12_strokes : GoodIn wsX12_stroke (wsV RX12 205 RX12 yX12_strokes wsX12_strokes) := goodIn_app (goodIn_m (cs := [992, 993, 994, 798]) ge_X12_stroke rfl (by decide +kernel) (by decide +kernel)) ggX12_stroke_X12_strokes
set_option maxRecDepth 20000 in
theorem ggX12_nightGoes_X12_cells : GoodIn wsX12_nightGoes wsX12_cells := goodIn_m ge_X12_nightGoes ge_X12_cells (by decide +kernel) (by decide +kernel)
set_option maxRecDepth 20000 in
theorem gX12_nightGoes_X12_cells : GoodIn wsX12_nightGoes (wsV RX12 51 RX12 yX12_cells wsX12_cells) := goodIn_app (goodIn_m (cs := [827, 828, 829, 798]) ge_X12_nightGoes rfl (by decide +kernel) (by decide +kernel)) ggX12_nightGoes_X12_cells
set_option maxRecDepth 20000 in
theorem ggX12_nights_X12_in : GoodIn wsX12_nights wsX12_in := goodIn_m ge_X12_nights ge_X12_in (by decide +kernel) (by decide +kernel)
set_option maxRecDepth 20000 in
theorem gX12_nights_X12_in : GoodIn wsX12_nights (va_wsS RX12 55 yX12_in wsX12_in) := goodIn_app (goodIn_m (cs := [831, 832, 798]) ge_X12_nights rfl (by decide +kernel) (by decide +kernel)) ggX12_nights_X12_in
set_option maxRecDepth 20000 in
theorem ggX12_nights_X12_finds : GoodIn wsX12_nights wsX12_finds := goodIn_m ge_X12_nights ge_X12_finds (by decide +kernel) (by decide +kernel)
set_option maxRecDepth 20000 in
theorem gX12_nights_X12_finds : GoodIn wsX12_nights (wsV RX12 119 RX12 yX12_finds wsX12_finds) := goodIn_app (goodIn_m (cs := [889, 890, 891, 798]) ge_X12_nights rfl (by decide +kernel) (by decide +kernel)) ggX12_nights_X12_finds
set_option maxRecDepth 20000 in
theorem ggX12_nights_X12_nightGoes : GoodIn wsX12_nights wsX12_nightGoes := goodIn_m ge_X12_nights ge_X12_nightGoes (by decide +kernel) (by decide +kernel)
set_option maxRecDepth 20000 in
theorem gX12_nights_X12_nightGoes : GoodIn wsX12_nights (wsV RX12 211 RX12 yX12_nightGoes wsX12_nightGoes) := goodIn_app (goodIn_m (cs := [998, 999, 1000, 798]) ge_X12_nights rfl (by decide +kernel) (by decide +kernel)) ggX12_nights_X12_nightGoes
set_option maxRecDepth 20000 in
theorem ggX12_nights_X12_allAir : GoodIn wsX12_nights wsX12_allAir := goodIn_m ge_X12_nights ge_X12_allAir (by decide +kernel) (by decide +kernel)
set_option maxRecDepth 20000 in
theorem gX12_nights_X12_allAir : GoodIn wsX12_nights (wsV RX12 214 RX12 yX12_allAir wsX12_allAir) := goodIn_app (goodIn_m (cs := [1001, 1002, 1003, 798]) ge_X12_nights rfl (by decide +kernel) (by decide +kernel)) ggX12_nights_X12_allAir
set_option maxRecDepth 20000 in
theorem ggX12_days_X12_in : GoodIn wsX12_days wsX12_in := goodIn_m ge_X12_days ge_X12_in (by decide +kernel) (by decide +kernel)
set_option maxRecDepth 20000 in
theorem gX12_days_X12_in : GoodIn wsX12_days (va_wsS RX12 55 yX12_in wsX12_in) := goodIn_app (goodIn_m (cs := [831, 832, 798]) ge_X12_days rfl (by decide +kernel) (by decide +kernel)) ggX12_days_X12_in
set_option maxRecDepth 20000 in
theorem ggX12_days_X12_finds : GoodIn wsX12_days wsX12_finds := goodIn_m ge_X12_days ge_X12_finds (by decide +kernel) (by decide +kernel)
set_option maxRecDepth 20000 in
theorem gX12_days_X12_finds : GoodIn wsX12_days (wsV RX12 119 RX12 yX12_finds wsX12_finds) := goodIn_app (goodIn_m (cs := [889, 890, 891, 798]) ge_X12_days rfl (by decide +kernel) (by decide +kernel)) ggX12_days_X12_finds
set_option maxRecDepth 20000 in
theorem ggX12_days_X12_drawn : GoodIn wsX12_days wsX12_drawn := goodIn_m ge_X12_days ge_X12_drawn (by decide +kernel) (by decide +kernel)
set_option maxRecDepth 20000 in
theorem gX12_days_X12_drawn : GoodIn wsX12_days (wsV RX12 218 RX12 yX12_drawn wsX12_drawn) := goodIn_app (goodIn_m (cs := [1005, 1006, 1007, 798]) ge_X12_days rfl (by decide +kernel) (by decide +kernel)) ggX12_days_X12_drawn
set_option maxRecDepth 20000 in
theorem ggX12_days_X12_cells : GoodIn wsX12_days wsX12_cells := goodIn_m ge_X12_days ge_X12_cells (by decide +kernel) (by decide +kernel)
set_option maxRecDepth 20000 in
theorem gX12_days_X12_cells : GoodIn wsX12_days (wsV RX12 51 RX12 yX12_cells wsX12_cells) := goodIn_app (goodIn_m (cs := [827, 828, 829, 798]) ge_X12_days rfl (by decide +kernel) (by decide +kernel)) ggX12_days_X12_cells
set_option maxRecDepth 20000 in
theorem ggX12_days_X12_strokes : GoodIn wsX12_days wsX12_strokes := goodIn_m ge_X12_days ge_X12_strokes (by decide +kernel) (by decide +kernel)
set_option maxRecDepth 20000 in
theorem gX12_days_X12_strokes : GoodIn wsX12_days (wsV RX12 205 RX12 yX12_strokes wsX12_strokes) := goodIn_app (goodIn_m (cs := [992, 993, 994, 798]) ge_X12_days rfl (by decide +kernel) (by decide +kernel)) ggX12_days_X12_strokes
set_option maxRecDepth 20000 in
theorem ggX12_days_X12_nightGoes : GoodIn wsX12_days wsX12_nightGoes := goodIn_m ge_X12_days ge_X12_nightGoes (by decide +kernel) (by decide +kernel)
set_option maxRecDepth 20000 in
theorem gX12_days_X12_nightGoes : GoodIn wsX12_days (wsV RX12 211 RX12 yX12_nightGoes wsX12_nightGoes) := goodIn_app (goodIn_m (cs := [998, 999, 1000, 798]) ge_X12_days rfl (by decide +kernel) (by decide +kernel)) ggX12_days_X12_nightGoes
set_option maxRecDepth 20000 in
theorem ggX12_days_X12_allAir : GoodIn wsX12_days wsX12_allAir := goodIn_m ge_X12_days ge_X12_allAir (by decide +kernel) (by decide +kernel)
set_option maxRecDepth 20000 in
theorem gX12_days_X12_allAir : GoodIn wsX12_days (wsV RX12 214 RX12 yX12_allAir wsX12_allAir) := goodIn_app (goodIn_m (cs := [1001, 1002, 1003, 798]) ge_X12_days rfl (by decide +kernel) (by decide +kernel)) ggX12_days_X12_allAir
set_option maxRecDepth 20000 in
theorem ggX12_findBubbles_X12_cells : GoodIn wsX12_findBubbles wsX12_cells := goodIn_m ge_X12_findBubbles ge_X12_cells (by decide +kernel) (by decide +kernel)
set_option maxRecDepth 20000 in
theorem gX12_findBubbles_X12_cells : GoodIn wsX12_findBubbles (wsV RX12 51 RX12 yX12_cells wsX12_cells) := goodIn_app (goodIn_m (cs := [827, 828, 829, 798]) ge_X12_findBubbles rfl (by decide +kernel) (by decide +kernel)) ggX12_findBubbles_X12_cells
set_option maxRecDepth 20000 in
theorem ggX12_findBubbles_X12_bubbleOf : GoodIn wsX12_findBubbles wsX12_bubbleOf := goodIn_m ge_X12_findBubbles ge_X12_bubbleOf (by decide +kernel) (by decide +kernel)
set_option maxRecDepth 20000 in
theorem gX12_findBubbles_X12_bubbleOf : GoodIn wsX12_findBubbles (wsV RX12 160 RX12 yX12_bubbleOf wsX12_bubbleOf) := goodIn_app (goodIn_m (cs := [937, 938, 939, 798]) ge_X12_findBubbles rfl (by decide +kernel) (by decide +kernel)) ggX12_findBubbles_X12_bubbleOf
set_option maxRecDepth 20000 in
theorem ggX12_findBubbles_X12_sizeOf0 : GoodIn wsX12_findBubbles wsX12_sizeOf0 := goodIn_m ge_X12_findBubbles ge_X12_sizeOf0 (by decide +kernel) (by decide +kernel)
set_option maxRecDepth 20000 in
theorem gX12_findBubbles_X12_sizeOf0 : GoodIn wsX12_findBubbles (wsV RX12 163 RX12 yX12_sizeOf0 wsX12_sizeOf0) := goodIn_app (goodIn_m (cs := [940, 941, 942, 798]) ge_X12_findBubbles rfl (by decide +kernel) (by decide +kernel)) ggX12_findBubbles_X12_sizeOf0
set_option maxRecDepth 20000 in
theorem ggX12_bubbles_X12_findBubbles : GoodIn wsX12_bubbles wsX12_findBubbles := goodIn_m ge_X12_bubbles ge_X12_findBubbles (by decide +kernel) (by decide +kernel)
set_option maxRecDepth 20000 in
theorem gX12_bubbles_X12_findBubbles : GoodIn wsX12_bubbles (wsV RX12 230 RX12 yX12_findBubbles wsX12_findBubbles) := goodIn_app (goodIn_m (cs := [1015, 1016, 1017, 798]) ge_X12_bubbles rfl (by decide +kernel) (by decide +kernel)) ggX12_bubbles_X12_findBubbles
set_option maxRecDepth 20000 in
theorem ggX12_biggest_X12_in : GoodIn wsX12_biggest wsX12_in := goodIn_m ge_X12_biggest ge_X12_in (by decide +kernel) (by decide +kernel)
set_option maxRecDepth 20000 in
theorem gX12_biggest_X12_in : GoodIn wsX12_biggest (va_wsS RX12 55 yX12_in wsX12_in) := goodIn_app (goodIn_m (cs := [831, 832, 798]) ge_X12_biggest rfl (by decide +kernel) (by decide +kernel)) ggX12_biggest_X12_in
set_option maxRecDepth 20000 in
theorem ggX12_biggest_X12_finds : GoodIn wsX12_biggest wsX12_finds := goodIn_m ge_X12_biggest ge_X12_finds (by decide +kernel) (by decide +kernel)
set_option maxRecDepth 20000 in
theorem gX12_biggest_X12_finds : GoodIn wsX12_biggest (wsV RX12 119 RX12 yX12_finds wsX12_finds) := goodIn_app (goodIn_m (cs := [889, 890, 891, 798]) ge_X12_biggest rfl (by decide +kernel) (by decide +kernel)) ggX12_biggest_X12_finds
set_option maxRecDepth 20000 in
theorem ggX12_biggest_X12_findBubbles : GoodIn wsX12_biggest wsX12_findBubbles := goodIn_m ge_X12_biggest ge_X12_findBubbles (by decide +kernel) (by decide +kernel)
set_option maxRecDepth 20000 in
theorem gX12_biggest_X12_findBubbles : GoodIn wsX12_biggest (wsV RX12 230 RX12 yX12_findBubbles wsX12_findBubbles) := goodIn_app (goodIn_m (cs := [1015, 1016, 1017, 798]) ge_X12_biggest rfl (by decide +kernel) (by decide +kernel)) ggX12_biggest_X12_findBubbles
set_option maxRecDepth 20000 in
theorem ggX12_wayOut_X12_isCell : GoodIn wsX12_wayOut wsX12_isCell := goodIn_m ge_X12_wayOut ge_X12_isCell (by decide +kernel) (by decide +kernel)
set_option maxRecDepth 20000 in
theorem gX12_wayOut_X12_isCell : GoodIn wsX12_wayOut (wsV RX12 137 RX12 yX12_isCell wsX12_isCell) := goodIn_app (goodIn_m (cs := [911, 912, 913, 798]) ge_X12_wayOut rfl (by decide +kernel) (by decide +kernel)) ggX12_wayOut_X12_isCell
set_option maxRecDepth 20000 in
theorem ggX12_wayOut_X12_finds : GoodIn wsX12_wayOut wsX12_finds := goodIn_m ge_X12_wayOut ge_X12_finds (by decide +kernel) (by decide +kernel)
set_option maxRecDepth 20000 in
theorem gX12_wayOut_X12_finds : GoodIn wsX12_wayOut (wsV RX12 119 RX12 yX12_finds wsX12_finds) := goodIn_app (goodIn_m (cs := [889, 890, 891, 798]) ge_X12_wayOut rfl (by decide +kernel) (by decide +kernel)) ggX12_wayOut_X12_finds
set_option maxRecDepth 20000 in
theorem ggX12_wayOut_X12_isOpen : GoodIn wsX12_wayOut wsX12_isOpen := goodIn_m ge_X12_wayOut ge_X12_isOpen (by decide +kernel) (by decide +kernel)
set_option maxRecDepth 20000 in
theorem gX12_wayOut_X12_isOpen : GoodIn wsX12_wayOut (wsV RX12 169 RX12 yX12_isOpen wsX12_isOpen) := goodIn_app (goodIn_m (cs := [946, 947, 948, 798]) ge_X12_wayOut rfl (by decide +kernel) (by decide +kernel)) ggX12_wayOut_X12_isOpen
set_option maxRecDepth 20000 in
theorem ggX12_bestOf_X12_cells : GoodIn wsX12_bestOf wsX12_cells := goodIn_m ge_X12_bestOf ge_X12_cells (by decide +kernel) (by decide +kernel)
set_option maxRecDepth 20000 in
theorem gX12_bestOf_X12_cells : GoodIn wsX12_bestOf (wsV RX12 51 RX12 yX12_cells wsX12_cells) := goodIn_app (goodIn_m (cs := [827, 828, 829, 798]) ge_X12_bestOf rfl (by decide +kernel) (by decide +kernel)) ggX12_bestOf_X12_cells
set_option maxRecDepth 20000 in
theorem ggX12_bestOf_X12_keepAside : GoodIn wsX12_bestOf wsX12_keepAside := goodIn_m ge_X12_bestOf ge_X12_keepAside (by decide +kernel) (by decide +kernel)
set_option maxRecDepth 20000 in
theorem gX12_bestOf_X12_keepAside : GoodIn wsX12_bestOf (wsV RX12 236 RX12 yX12_keepAside wsX12_keepAside) := goodIn_app (goodIn_m (cs := [1022, 1023, 1024, 798]) ge_X12_bestOf rfl (by decide +kernel) (by decide +kernel)) ggX12_bestOf_X12_keepAside
set_option maxRecDepth 20000 in
theorem ggX12_bestOf_X12_strokes : GoodIn wsX12_bestOf wsX12_strokes := goodIn_m ge_X12_bestOf ge_X12_strokes (by decide +kernel) (by decide +kernel)
set_option maxRecDepth 20000 in
theorem gX12_bestOf_X12_strokes : GoodIn wsX12_bestOf (wsV RX12 205 RX12 yX12_strokes wsX12_strokes) := goodIn_app (goodIn_m (cs := [992, 993, 994, 798]) ge_X12_bestOf rfl (by decide +kernel) (by decide +kernel)) ggX12_bestOf_X12_strokes
set_option maxRecDepth 20000 in
theorem ggX12_bestOf_X12_seen : GoodIn wsX12_bestOf wsX12_seen := goodIn_m ge_X12_bestOf ge_X12_seen (by decide +kernel) (by decide +kernel)
