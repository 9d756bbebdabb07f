set_option maxRecDepth 20000 in
theorem ggX0_wander_X0_findFollowers : GoodIn wsX0_wander wsX0_findFollowers := goodIn_r _ [13, 14, 8, 15, 16, 17, 12, 18, 1, 2, 7, 34, 35, 36, 37, 38] (by decide +kernel) (by decide +kernel)
set_option maxRecDepth 20000 in
theorem gX0_wander_X0_findFollowers : GoodIn wsX0_wander (wsV RX0 34 RX0 yX0_findFollowers wsX0_findFollowers) := goodIn_app (goodIn_of _ (by decide +kernel)) ggX0_wander_X0_findFollowers
set_option maxRecDepth 20000 in
theorem ggX0_wander_X1_drawUnder : GoodIn wsX0_wander wsX1_drawUnder := goodIn_r _ [23, 24, 25, 26, 27, 28, 22, 29, 30, 31, 32, 33, 39] (by decide +kernel) (by decide +kernel)
set_option maxRecDepth 20000 in
theorem gX0_wander_X1_drawUnder : GoodIn wsX0_wander (wsV RX0 38 RX1 yX1_drawUnder wsX1_drawUnder) := goodIn_app (goodIn_of _ (by decide +kernel)) ggX0_wander_X1_drawUnder
set_option maxRecDepth 20000 in
theorem ggX0_findFollowers_X0_isBehindLatest : GoodIn wsX0_findFollowers wsX0_isBehindLatest := goodIn_r _ [7, 8, 9, 10, 11, 12, 13, 14, 15] (by decide +kernel) (by decide +kernel)
set_option maxRecDepth 20000 in
theorem gX0_findFollowers_X0_isBehindLatest : GoodIn wsX0_findFollowers (wsV RX0 43 RX0 yX0_isBehindLatest wsX0_isBehindLatest) := goodIn_app (goodIn_of _ (by decide +kernel)) ggX0_findFollowers_X0_isBehindLatest
set_option maxRecDepth 20000 in
theorem ggX1_drawUnder_X1_draw : GoodIn wsX1_drawUnder wsX1_draw := goodIn_r _ [7, 8, 9, 10, 11, 12] (by decide +kernel) (by decide +kernel)
set_option maxRecDepth 20000 in
theorem gX1_drawUnder_X1_draw : GoodIn wsX1_drawUnder (wsV RX1 22 RX1 yX1_draw wsX1_draw) := goodIn_app (goodIn_of _ (by decide +kernel)) ggX1_drawUnder_X1_draw
set_option maxRecDepth 20000 in
theorem ggX2_clear_J7_fill_53178 : GoodIn wsX2_clear wsJ7_fill_53178 := goodIn_r _ [10] (by decide +kernel) (by decide +kernel)
set_option maxRecDepth 20000 in
theorem gX2_clear_J7_fill_53178 : GoodIn wsX2_clear (va_wsS RX2 61 yJ7_fill_53178 wsJ7_fill_53178) := goodIn_app (goodIn_of _ (by decide +kernel)) ggX2_clear_J7_fill_53178
set_option maxRecDepth 20000 in
theorem ggX2_hasRule_X9_isWithin : GoodIn wsX2_hasRule wsX9_isWithin := goodIn_r _ [4] (by decide +kernel) (by decide +kernel)
set_option maxRecDepth 20000 in
theorem gX2_hasRule_X9_isWithin_n67 : GoodIn wsX2_hasRule (wsX9_isWithin) := ggX2_hasRule_X9_isWithin
set_option maxRecDepth 20000 in
theorem ggX2_canOpenRule_X9_isWithin : GoodIn wsX2_canOpenRule wsX9_isWithin := goodIn_r _ [4] (by decide +kernel) (by decide +kernel)
set_option maxRecDepth 20000 in
theorem gX2_canOpenRule_X9_isWithin_n67 : GoodIn wsX2_canOpenRule (wsX9_isWithin) := ggX2_canOpenRule_X9_isWithin
set_option maxRecDepth 20000 in
theorem ggX2_canOpenRule_X2_hasRule : GoodIn wsX2_canOpenRule wsX2_hasRule := goodIn_r _ [9, 10, 2, 3, 4, 11, 12, 13, 14, 15, 16, 17, 18, 19, 20, 21, 22, 23, 24, 25, 26] (by decide +kernel) (by decide +kernel)
set_option maxRecDepth 20000 in
theorem gX2_canOpenRule_X2_hasRule : GoodIn wsX2_canOpenRule (wsV RX2 71 RX2 yX2_hasRule wsX2_hasRule) := goodIn_app (goodIn_of _ (by decide +kernel)) ggX2_canOpenRule_X2_hasRule
set_option maxRecDepth 20000 in
theorem ggX2_addLetter_X2_addSign : GoodIn wsX2_addLetter wsX2_addSign := goodIn_r _ [6, 7, 8, 9, 10, 11, 12, 13, 14, 15, 16, 17, 18, 19, 20, 21, 22, 23, 24, 25, 26, 27, 28, 29] (by decide +kernel) (by decide +kernel)
set_option maxRecDepth 20000 in
theorem gX2_addLetter_X2_addSign : GoodIn wsX2_addLetter (wsV RX2 75 RX2 yX2_addSign wsX2_addSign) := goodIn_app (goodIn_of _ (by decide +kernel)) ggX2_addLetter_X2_addSign
set_option maxRecDepth 20000 in
theorem ggX2_addSound_X2_addSign : GoodIn wsX2_addSound wsX2_addSign := goodIn_r _ [5, 6, 7, 8, 9, 10, 11, 12, 13, 14, 15, 16, 17, 18, 19, 20, 21, 22, 23, 24, 25, 26, 27, 28] (by decide +kernel) (by decide +kernel)
set_option maxRecDepth 20000 in
theorem gX2_addSound_X2_addSign : GoodIn wsX2_addSound (wsV RX2 75 RX2 yX2_addSign wsX2_addSign) := goodIn_app (goodIn_of _ (by decide +kernel)) ggX2_addSound_X2_addSign
set_option maxRecDepth 20000 in
theorem ggX2_firstUseWithoutRule_X2_hasRule : GoodIn wsX2_firstUseWithoutRule wsX2_hasRule := goodIn_r _ [6, 7, 8, 9, 10, 11, 12, 13, 14, 15, 16, 17, 18, 19, 20, 21, 22, 23, 24, 25, 26] (by decide +kernel) (by decide +kernel)
set_option maxRecDepth 20000 in
theorem gX2_firstUseWithoutRule_X2_hasRule : GoodIn wsX2_firstUseWithoutRule (wsV RX2 71 RX2 yX2_hasRule wsX2_hasRule) := goodIn_app (goodIn_of _ (by decide +kernel)) ggX2_firstUseWithoutRule_X2_hasRule
set_option maxRecDepth 20000 in
theorem ggX3_unfold_X8_shorten : GoodIn wsX3_unfold wsX8_shorten := goodIn_r _ [12, 13, 14, 15, 16, 149, 150, 151, 152, 153, 154, 155] (by decide +kernel) (by decide +kernel)
set_option maxRecDepth 20000 in
theorem gX3_unfold_X8_shorten : GoodIn wsX3_unfold (wsV RX3 53 RX8 yX8_shorten wsX8_shorten) := goodIn_app (goodIn_of _ (by decide +kernel)) ggX3_unfold_X8_shorten
set_option maxRecDepth 20000 in
theorem ggX3_unfold_X3_openPlace : GoodIn wsX3_unfold wsX3_openPlace := goodIn_r _ [21, 3, 2, 4, 1, 7, 22, 23, 24, 25, 26, 27, 28, 29, 30, 14, 15, 16, 113, 114, 115, 116, 117, 118, 119, 120, 121, 122, 123, 124, 141, 142, 143, 144, 145, 146, 147, 148, 125, 126, 127, 128, 129, 130, 131, 132, 133, 134, 135, 136, 137, 138, 139, 140, 149, 150, 151, 152, 153, 154, 155] (by decide +kernel) (by decide +kernel)
set_option maxRecDepth 20000 in
theorem gX3_unfold_X3_openPlace : GoodIn wsX3_unfold (wsV RX3 64 RX3 yX3_openPlace wsX3_openPlace) := goodIn_app (goodIn_of _ (by decide +kernel)) ggX3_unfold_X3_openPlace
set_option maxRecDepth 20000 in
theorem ggX3_unfold_X3_takeAnother : GoodIn wsX3_unfold wsX3_takeAnother := goodIn_r _ [34, 5, 1, 4, 2, 22, 23, 24, 7, 35, 36, 37, 20, 38, 39, 40, 41, 42, 43, 44, 45, 46, 47, 48, 49, 50, 51, 52, 53, 54, 8, 9, 10, 11, 12, 13, 14, 15, 16, 113, 114, 115, 116, 117, 118, 119, 120, 121, 122, 123, 124, 141, 142, 143, 144, 145, 146, 147, 148, 125, 126, 127, 128, 129, 130, 131, 132, 133, 134, 135, 136, 137, 138, 139, 140, 156, 149, 150, 151, 152, 153, 154, 155] (by decide +kernel) (by decide +kernel)
set_option maxRecDepth 20000 in
theorem gX3_unfold_X3_takeAnother : GoodIn wsX3_unfold (wsV RX3 72 RX3 yX3_takeAnother wsX3_takeAnother) := goodIn_app (goodIn_of _ (by decide +kernel)) ggX3_unfold_X3_takeAnother
set_option maxRecDepth 20000 in
theorem ggX3_unfold_X3_goToLetter : GoodIn wsX3_unfold wsX3_goToLetter := goodIn_r _ [58, 22, 23, 2, 59, 60, 61, 20, 62, 7, 24, 4, 63, 64, 65, 66, 1, 67, 6, 68, 69, 11, 70, 71, 14, 15, 16, 72, 73, 74, 75, 13, 76, 77, 78, 79, 80, 81, 82, 83, 84, 85, 86, 87, 88, 89, 90, 91, 92, 93, 94, 95, 96, 97, 98, 99, 100, 101, 102, 103, 104, 105, 106, 107, 108, 109, 110, 111, 112, 113, 114, 115, 116, 117, 118, 119, 120, 121, 122, 123, 124, 125, 126, 127, 128, 129, 130, 131, 132, 133, 134, 135, 136, 137, 138, 139, 140, 141, 142, 143, 144, 145, 146, 147, 148, 149, 150, 151, 152, 153, 154, 155] (by decide +kernel) (by decide +kernel)
set_option maxRecDepth 20000 in
theorem gX3_unfold_X3_goToLetter : GoodIn wsX3_unfold (wsV RX3 75 RX3 yX3_goToLetter wsX3_goToLetter) := goodIn_app (goodIn_of _ (by decide +kernel)) ggX3_unfold_X3_goToLetter
set_option maxRecDepth 20000 in
theorem ggX3_openPlace_X2_hasRule : GoodIn wsX3_openPlace wsX2_hasRule := goodIn_r _ [13, 14, 15, 16, 17, 38, 39, 40, 41, 42, 43, 44, 45, 46, 47, 48, 49, 50, 51, 52, 53] (by decide +kernel) (by decide +kernel)
set_option maxRecDepth 20000 in
theorem gX3_openPlace_X2_hasRule : GoodIn wsX3_openPlace (wsV RX3 82 RX2 yX2_hasRule wsX2_hasRule) := goodIn_app (goodIn_of _ (by decide +kernel)) ggX3_openPlace_X2_hasRule
set_option maxRecDepth 20000 in
theorem ggX3_takeAnother_X3_choose : GoodIn wsX3_takeAnother wsX3_choose := goodIn_r _ [13, 3, 4, 14, 15, 16, 17, 18, 19, 20, 21, 22, 23, 24, 25, 26, 27, 28, 29, 39, 40, 41, 42, 43, 44, 45, 46, 47, 48, 49, 50, 51, 52, 53, 54, 55, 56, 57, 58, 59, 60, 61, 62, 63, 64, 65, 66, 67, 68, 69, 70, 71, 72, 73, 74, 75] (by decide +kernel) (by decide +kernel)
set_option maxRecDepth 20000 in
theorem gX3_takeAnother_X3_choose : GoodIn wsX3_takeAnother (wsV RX3 110 RX3 yX3_choose wsX3_choose) := goodIn_app (goodIn_of _ (by decide +kernel)) ggX3_takeAnother_X3_choose
set_option maxRecDepth 20000 in
theorem ggX3_takeAnother_X8_shorten : GoodIn wsX3_takeAnother wsX8_shorten := goodIn_r _ [34, 35, 36, 37, 38, 76, 77, 78, 79, 80, 81, 82] (by decide +kernel) (by decide +kernel)
set_option maxRecDepth 20000 in
theorem gX3_takeAnother_X8_shorten : GoodIn wsX3_takeAnother (wsV RX3 53 RX8 yX8_shorten wsX8_shorten) := goodIn_app (goodIn_of _ (by decide +kernel)) ggX3_takeAnother_X8_shorten
set_option maxRecDepth 20000 in
theorem ggX3_choose_X1_drawUnder : GoodIn wsX3_choose wsX1_drawUnder := goodIn_r _ [8, 9, 10, 11, 12, 13, 7, 14, 15, 16, 17, 18, 55] (by decide +kernel) (by decide +kernel)
set_option maxRecDepth 20000 in
theorem gX3_choose_X1_drawUnder : GoodIn wsX3_choose (wsV RX3 123 RX1 yX1_drawUnder wsX1_drawUnder) := goodIn_app (goodIn_of _ (by decide +kernel)) ggX3_choose_X1_drawUnder
set_option maxRecDepth 20000 in
theorem ggX3_goToLetter_X3_takeFirst : GoodIn wsX3_goToLetter wsX3_takeFirst := goodIn_r _ [8, 1, 9, 2, 10, 11, 69, 70, 71, 72, 73, 74, 75, 76, 77, 78, 79, 80, 97, 98, 99, 100, 101, 102, 103, 104] (by decide +kernel) (by decide +kernel)
set_option maxRecDepth 20000 in
theorem gX3_goToLetter_X3_takeFirst : GoodIn wsX3_goToLetter (wsV RX3 134 RX3 yX3_takeFirst wsX3_takeFirst) := goodIn_app (goodIn_of _ (by decide +kernel)) ggX3_goToLetter_X3_takeFirst
set_option maxRecDepth 20000 in
theorem ggX3_goToLetter_X3_addIfItFits : GoodIn wsX3_goToLetter wsX3_addIfItFits := goodIn_r _ [15, 3, 16, 17, 18, 19, 20, 21, 22, 23, 24, 25, 26, 27, 28, 29, 30, 31, 32, 33, 34, 35, 36, 7, 37, 38, 39, 40, 41, 42, 43, 44, 45, 46, 47, 48, 49, 50, 51, 52, 53, 54, 55, 56, 57, 58, 59, 60, 69, 70, 71, 72, 73, 74, 75, 76, 77, 78, 79, 80, 81, 82, 83, 84, 85, 86, 87, 88, 89, 90, 91, 92, 93, 94, 95, 96, 105, 106, 107, 108, 109, 110, 111] (by decide +kernel) (by decide +kernel)
set_option maxRecDepth 20000 in
theorem gX3_goToLetter_X3_addIfItFits : GoodIn wsX3_goToLetter (wsV RX3 138 RX3 yX3_addIfItFits wsX3_addIfItFits) := goodIn_app (goodIn_of _ (by decide +kernel)) ggX3_goToLetter_X3_addIfItFits
set_option maxRecDepth 20000 in
theorem ggX3_goToLetter_X3_isWhole : GoodIn wsX3_goToLetter wsX3_isWhole := goodIn_r _ [64, 1, 2, 16, 17, 18, 27, 28, 29, 21, 30, 31, 32, 33, 65, 66, 67, 68, 46, 58, 69, 70, 71, 72, 73, 74, 75, 76, 77, 78, 79, 80, 105, 106, 107, 108, 109, 110, 111] (by decide +kernel) (by decide +kernel)
set_option maxRecDepth 20000 in
theorem gX3_goToLetter_X3_isWhole : GoodIn wsX3_goToLetter (wsV RX3 141 RX3 yX3_isWhole wsX3_isWhole) := goodIn_app (goodIn_of _ (by decide +kernel)) ggX3_goToLetter_X3_isWhole
set_option maxRecDepth 20000 in
theorem ggX3_addIfItFits_X8_pitchOf : GoodIn wsX3_addIfItFits wsX8_pitchOf := goodIn_r _ [8, 9, 10, 11, 12] (by decide +kernel) (by decide +kernel)
set_option maxRecDepth 20000 in
theorem gX3_addIfItFits_X8_pitchOf : GoodIn wsX3_addIfItFits (va_wsS RX3 151 yX8_pitchOf wsX8_pitchOf) := goodIn_app (goodIn_of _ (by decide +kernel)) ggX3_addIfItFits_X8_pitchOf
set_option maxRecDepth 20000 in
theorem ggX3_addIfItFits_X8_time : GoodIn wsX3_addIfItFits wsX8_time := goodIn_r _ [16, 17, 18, 19, 76, 77, 78, 79, 80, 81, 82] (by decide +kernel) (by decide +kernel)
set_option maxRecDepth 20000 in
theorem gX3_addIfItFits_X8_time : GoodIn wsX3_addIfItFits (wsV RX3 155 RX8 yX8_time wsX8_time) := goodIn_app (goodIn_of _ (by decide +kernel)) ggX3_addIfItFits_X8_time
set_option maxRecDepth 20000 in
theorem ggX3_addIfItFits_X3_pitchFits : GoodIn wsX3_addIfItFits wsX3_pitchFits := goodIn_r _ [24, 4, 2, 25, 26, 27, 28, 10, 11, 12, 29, 30, 31, 7, 32, 17, 33, 34, 35, 36, 37, 38, 39, 40, 48, 49, 50, 51, 52, 53, 54, 55, 56, 57, 58, 59, 76, 77, 78, 79, 80, 81, 82] (by decide +kernel) (by decide +kernel)
set_option maxRecDepth 20000 in
theorem gX3_addIfItFits_X3_pitchFits : GoodIn wsX3_addIfItFits (wsV RX3 161 RX3 yX3_pitchFits wsX3_pitchFits) := goodIn_app (goodIn_of _ (by decide +kernel)) ggX3_addIfItFits_X3_pitchFits
set_option maxRecDepth 20000 in
theorem ggX3_addIfItFits_X8_add : GoodIn wsX3_addIfItFits wsX8_add := goodIn_r _ [44, 17, 33, 39, 18, 34, 19, 45, 46, 14, 15, 7, 16, 47, 36, 37, 38, 40, 30, 31, 32, 76, 77, 78, 79, 80, 81, 82] (by decide +kernel) (by decide +kernel)
set_option maxRecDepth 20000 in
theorem gX3_addIfItFits_X8_add : GoodIn wsX3_addIfItFits (wsV RX3 164 RX8 yX8_add wsX8_add) := goodIn_app (goodIn_of _ (by decide +kernel)) ggX3_addIfItFits_X8_add
set_option maxRecDepth 20000 in
theorem ggX3_pitchFits_X9_isWithin : GoodIn wsX3_pitchFits wsX9_isWithin := goodIn_r _ [9] (by decide +kernel) (by decide +kernel)
set_option maxRecDepth 20000 in
theorem gX3_pitchFits_X9_isWithin_n168 : GoodIn wsX3_pitchFits (wsX9_isWithin) := ggX3_pitchFits_X9_isWithin
set_option maxRecDepth 20000 in
theorem ggX3_pitchFits_X8_latestPitch : GoodIn wsX3_pitchFits wsX8_latestPitch := goodIn_r _ [14, 15, 16, 17, 36, 37, 38, 39, 40, 41, 42] (by decide +kernel) (by decide +kernel)
set_option maxRecDepth 20000 in
theorem gX3_pitchFits_X8_latestPitch : GoodIn wsX3_pitchFits (wsV RX3 172 RX8 yX8_latestPitch wsX8_latestPitch) := goodIn_app (goodIn_of _ (by decide +kernel)) ggX3_pitchFits_X8_latestPitch
set_option maxRecDepth 20000 in
theorem ggX3_pitchFits_X8_alikeWith : GoodIn wsX3_pitchFits wsX8_alikeWith := goodIn_r _ [21, 22, 15, 23, 11, 12, 13, 14, 16, 17, 36, 37, 38, 39, 40, 41, 42] (by decide +kernel) (by decide +kernel)
set_option maxRecDepth 20000 in
theorem gX3_pitchFits_X8_alikeWith : GoodIn wsX3_pitchFits (wsV RX3 180 RX8 yX8_alikeWith wsX8_alikeWith) := goodIn_app (goodIn_of _ (by decide +kernel)) ggX3_pitchFits_X8_alikeWith
set_option maxRecDepth 20000 in
theorem ggX3_isWhole_X8_time : GoodIn wsX3_isWhole wsX8_time := goodIn_r _ [10, 11, 12, 13, 32, 33, 34, 35, 36, 37, 38] (by decide +kernel) (by decide +kernel)
set_option maxRecDepth 20000 in
theorem gX3_isWhole_X8_time : GoodIn wsX3_isWhole (wsV RX3 155 RX8 yX8_time wsX8_time) := goodIn_app (goodIn_of _ (by decide +kernel)) ggX3_isWhole_X8_time
set_option maxRecDepth 20000 in
theorem ggX3_isWhole_X8_latestDegree : GoodIn wsX3_isWhole wsX8_latestDegree := goodIn_r _ [17, 11, 18, 19, 32, 33, 34, 35, 36, 37, 38] (by decide +kernel) (by decide +kernel)
set_option maxRecDepth 20000 in
theorem gX3_isWhole_X8_latestDegree : GoodIn wsX3_isWhole (wsV RX3 183 RX8 yX8_latestDegree wsX8_latestDegree) := goodIn_app (goodIn_of _ (by decide +kernel)) ggX3_isWhole_X8_latestDegree
set_option maxRecDepth 20000 in
theorem ggX5_readAll_X2_clear : GoodIn wsX5_readAll wsX2_clear := goodIn_r _ [9, 10, 11, 12, 13, 14, 15, 16, 17, 18, 19, 138, 139, 140, 141, 142, 143, 144, 145, 146, 147, 148, 149, 150, 151, 152, 153] (by decide +kernel) (by decide +kernel)
set_option maxRecDepth 20000 in
theorem gX5_readAll_X2_clear : GoodIn wsX5_readAll (wsV RX5 26 RX2 yX2_clear wsX2_clear) := goodIn_app (goodIn_of _ (by decide +kernel)) ggX5_readAll_X2_clear
set_option maxRecDepth 20000 in
theorem ggX5_readAll_X6_skipBlanks : GoodIn wsX5_readAll wsX6_skipBlanks := goodIn_r _ [24, 25, 26, 27, 28, 23, 29, 30, 31, 32, 33, 154, 155] (by decide +kernel) (by decide +kernel)
set_option maxRecDepth 20000 in
theorem gX5_readAll_X6_skipBlanks : GoodIn wsX5_readAll (wsV RX5 31 RX6 yX6_skipBlanks wsX6_skipBlanks) := goodIn_app (goodIn_of _ (by decide +kernel)) ggX5_readAll_X6_skipBlanks
set_option maxRecDepth 20000 in
theorem ggX5_readAll_X5_here : GoodIn wsX5_readAll wsX5_here := goodIn_r _ [38, 3, 2, 134, 135, 136, 137, 154, 155] (by decide +kernel) (by decide +kernel)
set_option maxRecDepth 20000 in
theorem gX5_readAll_X5_here : GoodIn wsX5_readAll (wsV RX5 37 RX5 yX5_here wsX5_here) := goodIn_app (goodIn_of _ (by decide +kernel)) ggX5_readAll_X5_here
set_option maxRecDepth 20000 in
theorem ggX5_readAll_X2_firstUseWithoutRule : GoodIn wsX5_readAll wsX2_firstUseWithoutRule := goodIn_r _ [42, 15, 43, 44, 45, 8, 46, 13, 47, 32, 48, 138, 139, 140, 141, 142, 143, 144, 145, 146, 147, 148, 149, 150, 151, 152, 153] (by decide +kernel) (by decide +kernel)
set_option maxRecDepth 20000 in
theorem gX5_readAll_X2_firstUseWithoutRule : GoodIn wsX5_readAll (wsV RX5 41 RX2 yX2_firstUseWithoutRule wsX2_firstUseWithoutRule) := goodIn_app (goodIn_of _ (by decide +kernel)) ggX5_readAll_X2_firstUseWithoutRule
set_option maxRecDepth 20000 in
theorem ggX5_readAll_X5_readHead : GoodIn wsX5_readAll wsX5_readHead := goodIn_r _ [52, 1, 3, 2, 34, 35, 36, 37, 38, 53, 54, 55, 8, 56, 10, 47, 32, 48, 43, 44, 45, 46, 13, 57, 58, 59, 60, 4, 20, 21, 22, 23, 24, 25, 26, 27, 28, 29, 30, 31, 33, 61, 62, 63, 64, 65, 66, 67, 11, 134, 135, 136, 137, 154, 155, 138, 139, 140, 141, 142, 143, 144, 145, 146, 147, 148, 149, 150, 151, 152, 153] (by decide +kernel) (by decide +kernel)
set_option maxRecDepth 20000 in
theorem gX5_readAll_X5_readHead : GoodIn wsX5_readAll (wsV RX5 44 RX5 yX5_readHead wsX5_readHead) := goodIn_app (goodIn_of _ (by decide +kernel)) ggX5_readAll_X5_readHead
set_option maxRecDepth 20000 in
theorem ggX5_readAll_X5_readAlternatives : GoodIn wsX5_readAll wsX5_readAlternatives := goodIn_r _ [71, 2, 3, 20, 21, 22, 23, 24, 25, 26, 27, 28, 29, 30, 31, 32, 33, 72, 73, 74, 37, 75, 1, 34, 35, 36, 38, 76, 77, 78, 79, 80, 8, 81, 11, 57, 58, 59, 60, 4, 82, 83, 84, 85, 86, 87, 12, 88, 13, 66, 14, 89, 90, 91, 92, 93, 94, 95, 96, 97, 98, 99, 100, 101, 102, 103, 104, 105, 106, 107, 108, 109, 110, 111, 15, 112, 113, 114, 115, 116, 117, 118, 119, 120, 121, 122, 123, 124, 125, 126, 127, 128, 129, 130, 131, 132, 133, 134, 135, 136, 137, 154, 155, 138, 139, 140, 141, 142, 143, 144, 145, 146, 147, 148, 149, 150, 151, 152, 153] (by decide +kernel) (by decide +kernel)
set_option maxRecDepth 20000 in
theorem gX5_readAll_X5_readAlternatives : GoodIn wsX5_readAll (wsV RX5 48 RX5 yX5_readAlternatives wsX5_readAlternatives) := goodIn_app (goodIn_of _ (by decide +kernel)) ggX5_readAll_X5_readAlternatives
set_option maxRecDepth 20000 in
theorem ggX5_readHead_X5_here : GoodIn wsX5_readHead wsX5_here := goodIn_r _ [8, 2, 3, 49, 50, 51, 52, 53, 54] (by decide +kernel) (by decide +kernel)
set_option maxRecDepth 20000 in
theorem gX5_readHead_X5_here : GoodIn wsX5_readHead (wsV RX5 37 RX5 yX5_here wsX5_here) := goodIn_app (goodIn_of _ (by decide +kernel)) ggX5_readHead_X5_here
set_option maxRecDepth 20000 in
theorem ggX5_readHead_X2_canOpenRule : GoodIn wsX5_readHead wsX2_canOpenRule := goodIn_r _ [13, 14, 15, 16, 17, 18, 19, 20, 12, 21, 22, 55, 56, 57, 58, 59, 60, 61, 62, 63, 64, 65, 66, 67, 68, 69, 70] (by decide +kernel) (by decide +kernel)
set_option maxRecDepth 20000 in
theorem gX5_readHead_X2_canOpenRule : GoodIn wsX5_readHead (wsV RX5 58 RX2 yX2_canOpenRule wsX2_canOpenRule) := goodIn_app (goodIn_of _ (by decide +kernel)) ggX5_readHead_X2_canOpenRule
set_option maxRecDepth 20000 in
theorem ggX5_readHead_X5_failAt : GoodIn wsX5_readHead wsX5_failAt := goodIn_r _ [26, 27, 49, 50, 51, 52] (by decide +kernel) (by decide +kernel)
set_option maxRecDepth 20000 in
theorem gX5_readHead_X5_failAt : GoodIn wsX5_readHead (wsV RX5 62 RX5 yX5_failAt wsX5_failAt) := goodIn_app (goodIn_of _ (by decide +kernel)) ggX5_readHead_X5_failAt
set_option maxRecDepth 20000 in
theorem ggX5_readHead_X6_skipBlanks : GoodIn wsX5_readHead wsX6_skipBlanks := goodIn_r _ [32, 33, 34, 35, 36, 31, 37, 38, 39, 16, 40, 53, 54] (by decide +kernel) (by decide +kernel)
set_option maxRecDepth 20000 in
theorem gX5_readHead_X6_skipBlanks : GoodIn wsX5_readHead (wsV RX5 31 RX6 yX6_skipBlanks wsX6_skipBlanks) := goodIn_app (goodIn_of _ (by decide +kernel)) ggX5_readHead_X6_skipBlanks
set_option maxRecDepth 20000 in
theorem ggX5_readHead_X2_openRule : GoodIn wsX5_readHead wsX2_openRule := goodIn_r _ [44, 14, 45, 46, 47, 48, 55, 56, 57, 58, 59, 60, 61, 62, 63, 64, 65, 66, 67, 68, 69, 70] (by decide +kernel) (by decide +kernel)
set_option maxRecDepth 20000 in
theorem gX5_readHead_X2_openRule : GoodIn wsX5_readHead (wsV RX5 65 RX2 yX2_openRule wsX2_openRule) := goodIn_app (goodIn_of _ (by decide +kernel)) ggX5_readHead_X2_openRule
set_option maxRecDepth 20000 in
theorem ggX5_readAlternatives_X6_skipBlanks : GoodIn wsX5_readAlternatives wsX6_skipBlanks := goodIn_r _ [7, 8, 9, 10, 11, 6, 12, 13, 14, 15, 16, 101, 102] (by decide +kernel) (by decide +kernel)
set_option maxRecDepth 20000 in
theorem gX5_readAlternatives_X6_skipBlanks : GoodIn wsX5_readAlternatives (wsV RX5 31 RX6 yX6_skipBlanks wsX6_skipBlanks) := goodIn_app (goodIn_of _ (by decide +kernel)) ggX5_readAlternatives_X6_skipBlanks
set_option maxRecDepth 20000 in
theorem ggX5_readAlternatives_X5_readWeight : GoodIn wsX5_readAlternatives wsX5_readWeight := goodIn_r _ [21, 2, 22, 1, 23, 24, 25, 20, 26, 27, 15, 28, 29, 30, 31, 32, 33, 34, 35, 36, 37, 38, 39, 40, 41, 42, 43, 44, 45, 46, 47, 48, 49, 50, 97, 98, 99, 100, 101, 102, 103, 104, 105, 106, 107, 108, 109, 110, 111, 112, 113, 114, 115, 116, 117, 118] (by decide +kernel) (by decide +kernel)
set_option maxRecDepth 20000 in
theorem gX5_readAlternatives_X5_readWeight : GoodIn wsX5_readAlternatives (wsV RX5 69 RX5 yX5_readWeight wsX5_readWeight) := goodIn_app (goodIn_of _ (by decide +kernel)) ggX5_readAlternatives_X5_readWeight
set_option maxRecDepth 20000 in
theorem ggX5_readAlternatives_X5_readSigns : GoodIn wsX5_readAlternatives wsX5_readSigns := goodIn_r _ [54, 1, 2, 22, 3, 4, 5, 6, 7, 8, 9, 10, 11, 12, 13, 14, 15, 16, 23, 24, 25, 20, 26, 35, 36, 37, 38, 39, 55, 56, 57, 58, 59, 60, 61, 62, 63, 64, 32, 65, 46, 34, 45, 66, 67, 68, 69, 70, 71, 72, 73, 74, 75, 76, 77, 78, 79, 80, 81, 82, 47, 83, 84, 85, 86, 87, 88, 89, 90, 91, 92, 27, 28, 93, 94, 95, 96, 97, 98, 99, 100, 101, 102, 103, 104, 105, 106, 107, 108, 109, 110, 111, 112, 113, 114, 115, 116, 117, 118] (by decide +kernel) (by decide +kernel)
set_option maxRecDepth 20000 in
theorem gX5_readAlternatives_X5_readSigns : GoodIn wsX5_readAlternatives (wsV RX5 72 RX5 yX5_readSigns wsX5_readSigns) := goodIn_app (goodIn_of _ (by decide +kernel)) ggX5_readAlternatives_X5_readSigns
set_option maxRecDepth 20000 in
theorem ggX5_readAlternatives_X5_here : GoodIn wsX5_readAlternatives wsX5_here := goodIn_r _ [26, 2, 1, 97, 98, 99, 100, 101, 102] (by decide +kernel) (by decide +kernel)
set_option maxRecDepth 20000 in
theorem gX5_readAlternatives_X5_here : GoodIn wsX5_readAlternatives (wsV RX5 37 RX5 yX5_here wsX5_here) := goodIn_app (goodIn_of _ (by decide +kernel)) ggX5_readAlternatives_X5_here
set_option maxRecDepth 20000 in
theorem ggX5_readAlternatives_X5_failAt : GoodIn wsX5_readAlternatives wsX5_failAt := goodIn_r _ [38, 39, 97, 98, 99, 100] (by decide +kernel) (by decide +kernel)
set_option maxRecDepth 20000 in
theorem gX5_readAlternatives_X5_failAt : GoodIn wsX5_readAlternatives (wsV RX5 62 RX5 yX5_failAt wsX5_failAt) := goodIn_app (goodIn_of _ (by decide +kernel)) ggX5_readAlternatives_X5_failAt
set_option maxRecDepth 20000 in
theorem ggX5_readWeight_X5_here : GoodIn wsX5_readWeight wsX5_here := goodIn_r _ [8, 1, 3, 34, 35, 36, 37, 38, 39] (by decide +kernel) (by decide +kernel)
set_option maxRecDepth 20000 in
theorem gX5_readWeight_X5_here : GoodIn wsX5_readWeight (wsV RX5 37 RX5 yX5_here wsX5_here) := goodIn_app (goodIn_of _ (by decide +kernel)) ggX5_readWeight_X5_here
set_option maxRecDepth 20000 in
theorem ggX5_readWeight_X9_isDigit : GoodIn wsX5_readWeight wsX9_isDigit := goodIn_r _ [11] (by decide +kernel) (by decide +kernel)
set_option maxRecDepth 20000 in
theorem gX5_readWeight_X9_isDigit_n75 : GoodIn wsX5_readWeight (wsX9_isDigit) := ggX5_readWeight_X9_isDigit
set_option maxRecDepth 20000 in
theorem ggX5_readWeight_X2_canOpenAlternative : GoodIn wsX5_readWeight wsX2_canOpenAlternative := goodIn_r _ [16, 17, 40, 41, 42, 43, 44, 45, 46, 47, 48, 49, 50, 51, 52, 53, 54, 55] (by decide +kernel) (by decide +kernel)
set_option maxRecDepth 20000 in
theorem gX5_readWeight_X2_canOpenAlternative : GoodIn wsX5_readWeight (wsV RX5 78 RX2 yX2_canOpenAlternative wsX2_canOpenAlternative) := goodIn_app (goodIn_of _ (by decide +kernel)) ggX5_readWeight_X2_canOpenAlternative
set_option maxRecDepth 20000 in
theorem ggX5_readWeight_X5_failAt : GoodIn wsX5_readWeight wsX5_failAt := goodIn_r _ [21, 22, 34, 35, 36, 37] (by decide +kernel) (by decide +kernel)
set_option maxRecDepth 20000 in
theorem gX5_readWeight_X5_failAt : GoodIn wsX5_readWeight (wsV RX5 62 RX5 yX5_failAt wsX5_failAt) := goodIn_app (goodIn_of _ (by decide +kernel)) ggX5_readWeight_X5_failAt
set_option maxRecDepth 20000 in
theorem ggX5_readWeight_X2_openAlternative : GoodIn wsX5_readWeight wsX2_openAlternative := goodIn_r _ [26, 27, 17, 28, 29, 30, 31, 32, 33, 40, 41, 42, 43, 44, 45, 46, 47, 48, 49, 50, 51, 52, 53, 54, 55] (by decide +kernel) (by decide +kernel)
set_option maxRecDepth 20000 in
theorem gX5_readWeight_X2_openAlternative : GoodIn wsX5_readWeight (wsV RX5 81 RX2 yX2_openAlternative wsX2_openAlternative) := goodIn_app (goodIn_of _ (by decide +kernel)) ggX5_readWeight_X2_openAlternative
set_option maxRecDepth 20000 in
theorem ggX5_readSigns_X6_skipBlanks : GoodIn wsX5_readSigns wsX6_skipBlanks := goodIn_r _ [8, 9, 10, 11, 12, 7, 13, 14, 15, 16, 17, 81, 82] (by decide +kernel) (by decide +kernel)
set_option maxRecDepth 20000 in
theorem gX5_readSigns_X6_skipBlanks : GoodIn wsX5_readSigns (wsV RX5 31 RX6 yX6_skipBlanks wsX6_skipBlanks) := goodIn_app (goodIn_of _ (by decide +kernel)) ggX5_readSigns_X6_skipBlanks
set_option maxRecDepth 20000 in
theorem ggX5_readSigns_X5_here : GoodIn wsX5_readSigns wsX5_here := goodIn_r _ [22, 2, 1, 77, 78, 79, 80, 81, 82] (by decide +kernel) (by decide +kernel)
set_option maxRecDepth 20000 in
theorem gX5_readSigns_X5_here : GoodIn wsX5_readSigns (wsV RX5 37 RX5 yX5_here wsX5_here) := goodIn_app (goodIn_of _ (by decide +kernel)) ggX5_readSigns_X5_here
set_option maxRecDepth 20000 in
theorem ggX5_readSigns_X5_failAt : GoodIn wsX5_readSigns wsX5_failAt := goodIn_r _ [26, 27, 77, 78, 79, 80] (by decide +kernel) (by decide +kernel)
set_option maxRecDepth 20000 in
theorem gX5_readSigns_X5_failAt : GoodIn wsX5_readSigns (wsV RX5 62 RX5 yX5_failAt wsX5_failAt) := goodIn_app (goodIn_of _ (by decide +kernel)) ggX5_readSigns_X5_failAt
set_option maxRecDepth 20000 in
theorem ggX5_readSigns_X5_isLetterOfRule : GoodIn wsX5_readSigns wsX5_isLetterOfRule := goodIn_r _ [31, 1, 2, 18, 19, 20, 21, 22, 32, 16, 33, 4, 5, 6, 7, 8, 9, 10, 11, 12, 13, 14, 15, 17, 34, 77, 78, 79, 80, 81, 82] (by decide +kernel) (by decide +kernel)
set_option maxRecDepth 20000 in
theorem gX5_readSigns_X5_isLetterOfRule : GoodIn wsX5_readSigns (wsV RX5 84 RX5 yX5_isLetterOfRule wsX5_isLetterOfRule) := goodIn_app (goodIn_of _ (by decide +kernel)) ggX5_readSigns_X5_isLetterOfRule
set_option maxRecDepth 20000 in
theorem ggX5_readSigns_X2_canAddSign : GoodIn wsX5_readSigns wsX2_canAddSign := goodIn_r _ [39, 40, 41, 42, 83, 84, 85, 86, 87, 88, 89, 90, 91, 92, 93, 94, 95, 96, 97, 98] (by decide +kernel) (by decide +kernel)
set_option maxRecDepth 20000 in
theorem gX5_readSigns_X2_canAddSign : GoodIn wsX5_readSigns (wsV RX5 87 RX2 yX2_canAddSign wsX2_canAddSign) := goodIn_app (goodIn_of _ (by decide +kernel)) ggX5_readSigns_X2_canAddSign
set_option maxRecDepth 20000 in
theorem ggX5_readSigns_X5_readSign : GoodIn wsX5_readSigns wsX5_readSign := goodIn_r _ [46, 3, 2, 18, 19, 20, 21, 22, 1, 32, 16, 33, 47, 48, 49, 38, 50, 51, 52, 53, 54, 55, 56, 40, 57, 58, 59, 60, 41, 61, 62, 23, 24, 25, 26, 27, 63, 64, 65, 66, 67, 68, 69, 70, 71, 72, 73, 74, 75, 76, 77, 78, 79, 80, 81, 82, 83, 84, 85, 86, 87, 88, 89, 90, 91, 92, 93, 94, 95, 96, 97, 98] (by decide +kernel) (by decide +kernel)
set_option maxRecDepth 20000 in
theorem gX5_readSigns_X5_readSign : GoodIn wsX5_readSigns (wsV RX5 90 RX5 yX5_readSign wsX5_readSign) := goodIn_app (goodIn_of _ (by decide +kernel)) ggX5_readSigns_X5_readSign
set_option maxRecDepth 20000 in
theorem ggX5_isLetterOfRule_X5_here : GoodIn wsX5_isLetterOfRule wsX5_here := goodIn_r _ [7, 2, 1, 25, 26, 27, 28, 29, 30] (by decide +kernel) (by decide +kernel)
set_option maxRecDepth 20000 in
theorem gX5_isLetterOfRule_X5_here : GoodIn wsX5_isLetterOfRule (wsV RX5 37 RX5 yX5_here wsX5_here) := goodIn_app (goodIn_of _ (by decide +kernel)) ggX5_isLetterOfRule_X5_here
set_option maxRecDepth 20000 in
theorem ggX5_isLetterOfRule_X9_isLetter : GoodIn wsX5_isLetterOfRule wsX9_isLetter := goodIn_r _ [10] (by decide +kernel) (by decide +kernel)
set_option maxRecDepth 20000 in
theorem gX5_isLetterOfRule_X9_isLetter_n93 : GoodIn wsX5_isLetterOfRule (wsX9_isLetter) := ggX5_isLetterOfRule_X9_isLetter
set_option maxRecDepth 20000 in
theorem ggX5_isLetterOfRule_X6_skipBlanks : GoodIn wsX5_isLetterOfRule wsX6_skipBlanks := goodIn_r _ [15, 16, 17, 18, 19, 14, 20, 21, 22, 9, 23, 29, 30] (by decide +kernel) (by decide +kernel)
set_option maxRecDepth 20000 in
theorem gX5_isLetterOfRule_X6_skipBlanks : GoodIn wsX5_isLetterOfRule (wsV RX5 31 RX6 yX6_skipBlanks wsX6_skipBlanks) := goodIn_app (goodIn_of _ (by decide +kernel)) ggX5_isLetterOfRule_X6_skipBlanks
set_option maxRecDepth 20000 in
theorem ggX5_isLetterOfRule_X6_at : GoodIn wsX5_isLetterOfRule wsX6_at := goodIn_r _ [20, 16, 21, 29, 30] (by decide +kernel) (by decide +kernel)
set_option maxRecDepth 20000 in
theorem gX5_isLetterOfRule_X6_at : GoodIn wsX5_isLetterOfRule (wsV RX5 96 RX6 yX6_at wsX6_at) := goodIn_app (goodIn_of _ (by decide +kernel)) ggX5_isLetterOfRule_X6_at
set_option maxRecDepth 20000 in
theorem ggX5_readSign_X5_here : GoodIn wsX5_readSign wsX5_here := goodIn_r _ [7, 2, 8, 50, 51, 52, 53, 54, 55] (by decide +kernel) (by decide +kernel)
set_option maxRecDepth 20000 in
theorem gX5_readSign_X5_here : GoodIn wsX5_readSign (wsV RX5 37 RX5 yX5_here wsX5_here) := goodIn_app (goodIn_of _ (by decide +kernel)) ggX5_readSign_X5_here
set_option maxRecDepth 20000 in
theorem ggX5_readSign_X9_isLetter : GoodIn wsX5_readSign wsX9_isLetter := goodIn_r _ [11] (by decide +kernel) (by decide +kernel)
set_option maxRecDepth 20000 in
theorem gX5_readSign_X9_isLetter_n93 : GoodIn wsX5_readSign (wsX9_isLetter) := ggX5_readSign_X9_isLetter
set_option maxRecDepth 20000 in
theorem ggX5_readSign_X2_addLetter : GoodIn wsX5_readSign wsX2_addLetter := goodIn_r _ [16, 17, 18, 19, 20, 15, 21, 22, 23, 24, 25, 26, 27, 28, 56, 57, 58, 59, 60, 61, 62, 63, 64, 65, 66, 67, 68, 69, 70, 71] (by decide +kernel) (by decide +kernel)
set_option maxRecDepth 20000 in
theorem gX5_readSign_X2_addLetter : GoodIn wsX5_readSign (wsV RX5 98 RX2 yX2_addLetter wsX2_addLetter) := goodIn_app (goodIn_of _ (by decide +kernel)) ggX5_readSign_X2_addLetter
set_option maxRecDepth 20000 in
theorem ggX5_readSign_X9_isDegree : GoodIn wsX5_readSign wsX9_isDegree := goodIn_r _ [30] (by decide +kernel) (by decide +kernel)
set_option maxRecDepth 20000 in
theorem gX5_readSign_X9_isDegree_n102 : GoodIn wsX5_readSign (wsX9_isDegree) := ggX5_readSign_X9_isDegree
set_option maxRecDepth 20000 in
theorem ggX5_readSign_X5_failAt : GoodIn wsX5_readSign wsX5_failAt := goodIn_r _ [34, 35, 50, 51, 52, 53] (by decide +kernel) (by decide +kernel)
set_option maxRecDepth 20000 in
theorem gX5_readSign_X5_failAt : GoodIn wsX5_readSign (wsV RX5 62 RX5 yX5_failAt wsX5_failAt) := goodIn_app (goodIn_of _ (by decide +kernel)) ggX5_readSign_X5_failAt
set_option maxRecDepth 20000 in
theorem ggX5_readSign_X5_readOctave : GoodIn wsX5_readSign wsX5_readOctave := goodIn_r _ [39, 2, 3, 4, 5, 6, 7, 8, 50, 51, 52, 53, 54, 55] (by decide +kernel) (by decide +kernel)
set_option maxRecDepth 20000 in
theorem gX5_readSign_X5_readOctave : GoodIn wsX5_readSign (wsV RX5 105 RX5 yX5_readOctave wsX5_readOctave) := goodIn_app (goodIn_of _ (by decide +kernel)) ggX5_readSign_X5_readOctave
set_option maxRecDepth 20000 in
theorem ggX5_readSign_X5_readLength : GoodIn wsX5_readSign wsX5_readLength := goodIn_r _ [43, 2, 8, 3, 4, 5, 6, 7, 44, 10, 45, 31, 32, 33, 34, 35, 50, 51, 52, 53, 54, 55] (by decide +kernel) (by decide +kernel)
set_option maxRecDepth 20000 in
theorem gX5_readSign_X5_readLength : GoodIn wsX5_readSign (wsV RX5 108 RX5 yX5_readLength wsX5_readLength) := goodIn_app (goodIn_of _ (by decide +kernel)) ggX5_readSign_X5_readLength
set_option maxRecDepth 20000 in
theorem ggX5_readSign_X2_addSound : GoodIn wsX5_readSign wsX2_addSound := goodIn_r _ [49, 18, 19, 20, 15, 21, 22, 23, 24, 25, 26, 27, 28, 56, 57, 58, 59, 60, 61, 62, 63, 64, 65, 66, 67, 68, 69, 70, 71] (by decide +kernel) (by decide +kernel)
set_option maxRecDepth 20000 in
theorem gX5_readSign_X2_addSound : GoodIn wsX5_readSign (wsV RX5 111 RX2 yX2_addSound wsX2_addSound) := goodIn_app (goodIn_of _ (by decide +kernel)) ggX5_readSign_X2_addSound
set_option maxRecDepth 20000 in
theorem ggX5_readOctave_X5_here : GoodIn wsX5_readOctave wsX5_here := goodIn_r _ [6, 1, 7, 8, 9, 10, 11, 12, 13] (by decide +kernel) (by decide +kernel)
set_option maxRecDepth 20000 in
theorem gX5_readOctave_X5_here : GoodIn wsX5_readOctave (wsV RX5 37 RX5 yX5_here wsX5_here) := goodIn_app (goodIn_of _ (by decide +kernel)) ggX5_readOctave_X5_here
set_option maxRecDepth 20000 in
theorem ggX5_readLength_X5_here : GoodIn wsX5_readLength wsX5_here := goodIn_r _ [7, 1, 2, 16, 17, 18, 19, 20, 21] (by decide +kernel) (by decide +kernel)
set_option maxRecDepth 20000 in
theorem gX5_readLength_X5_here : GoodIn wsX5_readLength (wsV RX5 37 RX5 yX5_here wsX5_here) := goodIn_app (goodIn_of _ (by decide +kernel)) ggX5_readLength_X5_here
set_option maxRecDepth 20000 in
theorem ggX5_readLength_X9_isDigit : GoodIn wsX5_readLength wsX9_isDigit := goodIn_r _ [10] (by decide +kernel) (by decide +kernel)
set_option maxRecDepth 20000 in
theorem gX5_readLength_X9_isDigit_n75 : GoodIn wsX5_readLength (wsX9_isDigit) := ggX5_readLength_X9_isDigit
set_option maxRecDepth 20000 in
theorem ggX5_readLength_X5_failAt : GoodIn wsX5_readLength wsX5_failAt := goodIn_r _ [14, 15, 16, 17, 18, 19] (by decide +kernel) (by decide +kernel)
set_option maxRecDepth 20000 in
theorem gX5_readLength_X5_failAt : GoodIn wsX5_readLength (wsV RX5 62 RX5 yX5_failAt wsX5_failAt) := goodIn_app (goodIn_of _ (by decide +kernel)) ggX5_readLength_X5_failAt
set_option maxRecDepth 20000 in
theorem ggX6_append_X6_byteOf : GoodIn wsX6_append wsX6_byteOf := goodIn_r _ [6] (by decide +kernel) (by decide +kernel)
set_option maxRecDepth 20000 in
theorem gX6_append_X6_byteOf : GoodIn wsX6_append (va_wsS RX6 19 yX6_byteOf wsX6_byteOf) := goodIn_app (goodIn_of _ (by decide +kernel)) ggX6_append_X6_byteOf
set_option maxRecDepth 20000 in
theorem ggX6_append_X6_isAllowed : GoodIn wsX6_append wsX6_isAllowed := goodIn_r _ [9, 10, 11, 12] (by decide +kernel) (by decide +kernel)
set_option maxRecDepth 20000 in
theorem gX6_append_X6_isAllowed : GoodIn wsX6_append (va_wsS RX6 23 yX6_isAllowed wsX6_isAllowed) := goodIn_app (goodIn_of _ (by decide +kernel)) ggX6_append_X6_isAllowed
set_option maxRecDepth 20000 in
theorem ggX6_shorten_X9_isWithin : GoodIn wsX6_shorten wsX9_isWithin := goodIn_r _ [4] (by decide +kernel) (by decide +kernel)
set_option maxRecDepth 20000 in
theorem gX6_shorten_X9_isWithin_n27 : GoodIn wsX6_shorten (wsX9_isWithin) := ggX6_shorten_X9_isWithin
set_option maxRecDepth 20000 in
theorem ggX6_skipBlanks_X6_at : GoodIn wsX6_skipBlanks wsX6_at := goodIn_r _ [6, 1, 7, 11, 12] (by decide +kernel) (by decide +kernel)
set_option maxRecDepth 20000 in
theorem gX6_skipBlanks_X6_at : GoodIn wsX6_skipBlanks (wsV RX6 31 RX6 yX6_at wsX6_at) := goodIn_app (goodIn_of _ (by decide +kernel)) ggX6_skipBlanks_X6_at
set_option maxRecDepth 20000 in
theorem ggX6_skipBlanks_X9_isBlank : GoodIn wsX6_skipBlanks wsX9_isBlank := goodIn_r _ [10] (by decide +kernel) (by decide +kernel)
set_option maxRecDepth 20000 in
theorem gX6_skipBlanks_X9_isBlank_n35 : GoodIn wsX6_skipBlanks (wsX9_isBlank) := ggX6_skipBlanks_X9_isBlank
set_option maxRecDepth 20000 in
theorem ggX6_isAllowed_X9_isWithin : GoodIn wsX6_isAllowed wsX9_isWithin := goodIn_r _ [3] (by decide +kernel) (by decide +kernel)
set_option maxRecDepth 20000 in
theorem gX6_isAllowed_X9_isWithin_n27 : GoodIn wsX6_isAllowed (wsX9_isWithin) := ggX6_isAllowed_X9_isWithin
set_option maxRecDepth 20000 in
theorem ggX7_numberOf_J9_floorMod_7cf53 : GoodIn wsX7_numberOf wsJ9_floorMod_7cf53 := goodIn_r _ [5] (by decide +kernel) (by decide +kernel)
set_option maxRecDepth 20000 in
theorem gX7_numberOf_J9_floorMod_7cf53 : GoodIn wsX7_numberOf (va_wsS RX7 15 yJ9_floorMod_7cf53 wsJ9_floorMod_7cf53) := goodIn_app (goodIn_of _ (by decide +kernel)) ggX7_numberOf_J9_floorMod_7cf53
set_option maxRecDepth 20000 in
theorem ggX7_countDoubled_X7_isAsOneBefore : GoodIn wsX7_countDoubled wsX7_isAsOneBefore := goodIn_r _ [5, 6, 7, 8, 4, 9, 10, 11, 12, 13, 14, 15, 16, 17, 18, 19] (by decide +kernel) (by decide +kernel)
set_option maxRecDepth 20000 in
theorem gX7_countDoubled_X7_isAsOneBefore : GoodIn wsX7_countDoubled (wsV RX7 21 RX7 yX7_isAsOneBefore wsX7_isAsOneBefore) := goodIn_app (goodIn_of _ (by decide +kernel)) ggX7_countDoubled_X7_isAsOneBefore
set_option maxRecDepth 20000 in
theorem ggX7_isAsOneBefore_X7_isSame : GoodIn wsX7_isAsOneBefore wsX7_isSame := goodIn_r _ [5, 6, 7, 8, 4, 9, 10, 11, 12, 13, 14, 15] (by decide +kernel) (by decide +kernel)
set_option maxRecDepth 20000 in
theorem gX7_isAsOneBefore_X7_isSame : GoodIn wsX7_isAsOneBefore (wsV RX7 25 RX7 yX7_isSame wsX7_isSame) := goodIn_app (goodIn_of _ (by decide +kernel)) ggX7_isAsOneBefore_X7_isSame
set_option maxRecDepth 20000 in
theorem ggX7_isSame_X7_numberOf : GoodIn wsX7_isSame wsX7_numberOf := goodIn_r _ [5, 6, 7, 8, 9, 10, 11] (by decide +kernel) (by decide +kernel)
set_option maxRecDepth 20000 in
theorem gX7_isSame_X7_numberOf : GoodIn wsX7_isSame (wsV RX7 29 RX7 yX7_numberOf wsX7_numberOf) := goodIn_app (goodIn_of _ (by decide +kernel)) ggX7_isSame_X7_numberOf
set_option maxRecDepth 20000 in
theorem ggX8_pitchOf_X9_isWithin : GoodIn wsX8_pitchOf wsX9_isWithin := goodIn_r _ [4] (by decide +kernel) (by decide +kernel)
set_option maxRecDepth 20000 in
theorem gX8_pitchOf_X9_isWithin_n34 : GoodIn wsX8_pitchOf (wsX9_isWithin) := ggX8_pitchOf_X9_isWithin
set_option maxRecDepth 20000 in
theorem ggX8_shorten_X9_isWithin : GoodIn wsX8_shorten wsX9_isWithin := goodIn_r _ [4] (by decide +kernel) (by decide +kernel)
set_option maxRecDepth 20000 in
theorem gX8_shorten_X9_isWithin_n34 : GoodIn wsX8_shorten (wsX9_isWithin) := ggX8_shorten_X9_isWithin
set_option maxRecDepth 20000 in
theorem ggX8_alikeWith_X8_latestPitch : GoodIn wsX8_alikeWith wsX8_latestPitch := goodIn_r _ [7, 2, 8, 9, 10, 11, 12, 13, 14, 15, 16] (by decide +kernel) (by decide +kernel)
set_option maxRecDepth 20000 in
theorem gX8_alikeWith_X8_latestPitch : GoodIn wsX8_alikeWith (wsV RX8 41 RX8 yX8_latestPitch wsX8_latestPitch) := goodIn_app (goodIn_of _ (by decide +kernel)) ggX8_alikeWith_X8_latestPitch
set_option maxRecDepth 20000 in
theorem ggX8_add_X8_time : GoodIn wsX8_add wsX8_time := goodIn_r _ [12, 1, 4, 6, 21, 22, 23, 24, 25, 26, 27] (by decide +kernel) (by decide +kernel)
set_option maxRecDepth 20000 in
theorem gX8_add_X8_time : GoodIn wsX8_add (wsV RX8 45 RX8 yX8_time wsX8_time) := goodIn_app (goodIn_of _ (by decide +kernel)) ggX8_add_X8_time
set_option maxRecDepth 20000 in
theorem ggX8_add_X8_alikeWith : GoodIn wsX8_add wsX8_alikeWith := goodIn_r _ [16, 3, 1, 17, 18, 19, 11, 20, 2, 5, 21, 22, 23, 24, 25, 26, 27] (by decide +kernel) (by decide +kernel)
set_option maxRecDepth 20000 in
theorem gX8_add_X8_alikeWith : GoodIn wsX8_add (wsV RX8 48 RX8 yX8_alikeWith wsX8_alikeWith) := goodIn_app (goodIn_of _ (by decide +kernel)) ggX8_add_X8_alikeWith
set_option maxRecDepth 20000 in
theorem ggX9_init_X6_init : GoodIn wsX9_init wsX6_init := goodIn_r _ [38, 39, 2, 3, 40, 41, 42, 96, 97] (by decide +kernel) (by decide +kernel)
set_option maxRecDepth 20000 in
theorem gX9_init_X6_init_n11 : GoodIn wsX9_init (wsX6_init) := ggX9_init_X6_init
set_option maxRecDepth 20000 in
theorem ggX9_init_X2_init : GoodIn wsX9_init wsX2_init := goodIn_r _ [44, 45, 2, 3, 13, 46, 47, 48, 49, 50, 51, 52, 53, 54, 55, 56, 57, 58, 59, 60, 61, 107, 108, 109, 110, 111, 112, 113, 114, 115, 116, 117, 118, 119, 120, 121, 122] (by decide +kernel) (by decide +kernel)
set_option maxRecDepth 20000 in
theorem gX9_init_X2_init_n18 : GoodIn wsX9_init (wsX2_init) := ggX9_init_X2_init
set_option maxRecDepth 20000 in
theorem ggX9_init_X8_init : GoodIn wsX9_init wsX8_init := goodIn_r _ [63, 64, 2, 3, 13, 65, 66, 67, 68, 69, 70, 71, 123, 124, 125, 126, 127, 128, 129] (by decide +kernel) (by decide +kernel)
set_option maxRecDepth 20000 in
theorem gX9_init_X8_init_n32 : GoodIn wsX9_init (wsX8_init) := ggX9_init_X8_init
set_option maxRecDepth 20000 in
theorem ggX9_init_X4_init : GoodIn wsX9_init wsX4_init := goodIn_r _ [73, 74, 2, 3, 13, 75, 76, 77, 78, 79, 80, 81, 82, 83, 130, 131, 132, 133, 134, 135, 136, 137] (by decide +kernel) (by decide +kernel)
set_option maxRecDepth 20000 in
theorem gX9_init_X4_init_n39 : GoodIn wsX9_init (wsX4_init) := ggX9_init_X4_init
set_option maxRecDepth 20000 in
theorem ggX9_init_X0_init : GoodIn wsX9_init wsX0_init := goodIn_r _ [85, 86, 2, 3, 13, 87, 88, 89, 90, 91, 138, 139, 140, 141, 142] (by decide +kernel) (by decide +kernel)
set_option maxRecDepth 20000 in
theorem gX9_init_X0_init_n50 : GoodIn wsX9_init (wsX0_init) := ggX9_init_X0_init
set_option maxRecDepth 20000 in
theorem ggX9_init_X7_init : GoodIn wsX9_init wsX7_init := goodIn_r _ [93, 94, 2, 3, 13, 95, 143] (by decide +kernel) (by decide +kernel)
set_option maxRecDepth 20000 in
theorem gX9_init_X7_init_n57 : GoodIn wsX9_init (wsX7_init) := ggX9_init_X7_init
set_option maxRecDepth 20000 in
theorem ggX9_text_X6_append : GoodIn wsX9_text wsX6_append := goodIn_r _ [6, 7, 8, 9, 10, 5, 11, 12, 13, 14, 15, 16, 17, 27, 28] (by decide +kernel) (by decide +kernel)
set_option maxRecDepth 20000 in
theorem gX9_text_X6_append : GoodIn wsX9_text (wsV RX9 71 RX6 yX6_append wsX6_append) := goodIn_app (goodIn_of _ (by decide +kernel)) ggX9_text_X6_append
set_option maxRecDepth 20000 in
theorem ggX9_cut_X6_shorten : GoodIn wsX9_cut wsX6_shorten := goodIn_r _ [6, 7, 8, 9, 10, 20, 21] (by decide +kernel) (by decide +kernel)
set_option maxRecDepth 20000 in
theorem gX9_cut_X6_shorten : GoodIn wsX9_cut (wsV RX9 75 RX6 yX6_shorten wsX6_shorten) := goodIn_app (goodIn_of _ (by decide +kernel)) ggX9_cut_X6_shorten
set_option maxRecDepth 20000 in
theorem ggX9_read_X5_init : GoodIn wsX9_read wsX5_init := goodIn_r _ [9, 10, 11, 12, 13, 14, 15, 16, 149, 150, 151, 152] (by decide +kernel) (by decide +kernel)
set_option maxRecDepth 20000 in
theorem gX9_read_X5_init : GoodIn wsX9_read (wsX5_init) := ggX9_read_X5_init
set_option maxRecDepth 20000 in
theorem ggX9_read_X5_readAll : GoodIn wsX9_read wsX5_readAll := goodIn_r _ [20, 16, 15, 13, 14, 21, 22, 23, 24, 25, 26, 27, 28, 29, 30, 31, 32, 33, 34, 35, 36, 37, 38, 39, 40, 41, 42, 43, 44, 45, 46, 47, 48, 49, 50, 51, 52, 3, 53, 54, 55, 56, 57, 58, 59, 60, 61, 62, 63, 64, 65, 66, 67, 68, 69, 70, 71, 72, 73, 74, 75, 76, 77, 78, 79, 80, 81, 82, 83, 84, 85, 86, 87, 88, 89, 90, 91, 92, 93, 94, 95, 96, 97, 98, 99, 100, 101, 102, 103, 104, 105, 106, 107, 108, 109, 110, 111, 112, 113, 114, 115, 116, 117, 118, 119, 120, 121, 122, 123, 124, 125, 126, 127, 128, 129, 130, 131, 132, 133, 134, 135, 136, 137, 138, 139, 140, 141, 142, 143, 144, 145, 146, 147, 148, 149, 150, 151, 152, 162, 163, 164, 165, 166, 167, 168, 169, 170, 171, 172, 173, 174, 175, 176, 177, 178, 179] (by decide +kernel) (by decide +kernel)
set_option maxRecDepth 20000 in
theorem gX9_read_X5_readAll : GoodIn wsX9_read (wsV RX9 84 RX5 yX5_readAll wsX5_readAll) := goodIn_app (goodIn_of _ (by decide +kernel)) ggX9_read_X5_readAll
set_option maxRecDepth 20000 in
theorem ggX9_rule_X9_isWithin : GoodIn wsX9_rule wsX9_isWithin := goodIn_r _ [5] (by decide +kernel) (by decide +kernel)
set_option maxRecDepth 20000 in
theorem gX9_rule_X9_isWithin : GoodIn wsX9_rule (va_wsS RX9 91 yX9_isWithin wsX9_isWithin) := goodIn_app (goodIn_of _ (by decide +kernel)) ggX9_rule_X9_isWithin
set_option maxRecDepth 20000 in
theorem ggX9_rule_X2_hasRule : GoodIn wsX9_rule wsX2_hasRule := goodIn_r _ [10, 11, 3, 4, 5, 21, 22, 23, 24, 25, 26, 27, 28, 29, 30, 31, 32, 33, 34, 35, 36] (by decide +kernel) (by decide +kernel)
set_option maxRecDepth 20000 in
theorem gX9_rule_X2_hasRule : GoodIn wsX9_rule (wsV RX9 95 RX2 yX2_hasRule wsX2_hasRule) := goodIn_app (goodIn_of _ (by decide +kernel)) ggX9_rule_X2_hasRule
set_option maxRecDepth 20000 in
theorem ggX9_want_X9_isWithin : GoodIn wsX9_want wsX9_isWithin := goodIn_r _ [7] (by decide +kernel) (by decide +kernel)
set_option maxRecDepth 20000 in
theorem gX9_want_X9_isWithin : GoodIn wsX9_want (va_wsS RX9 91 yX9_isWithin wsX9_isWithin) := goodIn_app (goodIn_of _ (by decide +kernel)) ggX9_want_X9_isWithin
set_option maxRecDepth 20000 in
theorem ggX9_make_X9_isWithin : GoodIn wsX9_make wsX9_isWithin := goodIn_r _ [15] (by decide +kernel) (by decide +kernel)
set_option maxRecDepth 20000 in
theorem gX9_make_X9_isWithin : GoodIn wsX9_make (va_wsS RX9 91 yX9_isWithin wsX9_isWithin) := goodIn_app (goodIn_of _ (by decide +kernel)) ggX9_make_X9_isWithin
set_option maxRecDepth 20000 in
theorem ggX9_make_X1_init : GoodIn wsX9_make wsX1_init := goodIn_r _ [18, 19, 20, 21, 22, 175] (by decide +kernel) (by decide +kernel)
set_option maxRecDepth 20000 in
theorem gX9_make_X1_init : GoodIn wsX9_make (wsX1_init) := ggX9_make_X1_init
set_option maxRecDepth 20000 in
theorem ggX9_make_X3_init : GoodIn wsX9_make wsX3_init := goodIn_r _ [25, 26, 20, 21, 27, 28, 29, 30, 31, 32, 33, 34, 35, 36, 37, 38, 163, 164, 165, 166, 167, 168, 169, 170, 171, 172, 173, 174] (by decide +kernel) (by decide +kernel)
set_option maxRecDepth 20000 in
theorem gX9_make_X3_init : GoodIn wsX9_make (wsX3_init) := ggX9_make_X3_init
set_option maxRecDepth 20000 in
theorem ggX9_make_X3_unfold : GoodIn wsX9_make wsX3_unfold := goodIn_r _ [42, 35, 33, 28, 36, 27, 34, 29, 43, 44, 45, 46, 47, 48, 13, 14, 15, 49, 50, 51, 4, 52, 30, 31, 32, 53, 54, 55, 56, 57, 58, 59, 60, 61, 62, 63, 64, 65, 66, 37, 67, 68, 69, 10, 70, 71, 72, 73, 74, 75, 76, 22, 77, 78, 79, 80, 81, 82, 83, 84, 85, 86, 87, 88, 89, 90, 91, 38, 92, 93, 94, 95, 96, 97, 98, 99, 100, 101, 102, 103, 104, 105, 106, 107, 108, 109, 110, 111, 112, 113, 114, 115, 116, 117, 118, 119, 120, 121, 122, 123, 124, 125, 126, 127, 128, 129, 130, 131, 132, 133, 134, 135, 136, 163, 164, 165, 166, 167, 168, 169, 170, 171, 172, 173, 174, 147, 148, 149, 150, 151, 152, 153, 154, 155, 156, 157, 158, 159, 160, 161, 162, 176, 177, 178, 179, 180, 181, 182, 183, 184, 185, 186, 187, 188, 189, 190, 175] (by decide +kernel) (by decide +kernel)
set_option maxRecDepth 20000 in
theorem gX9_make_X3_unfold : GoodIn wsX9_make (wsV RX9 121 RX3 yX3_unfold wsX3_unfold) := goodIn_app (goodIn_of _ (by decide +kernel)) ggX9_make_X3_unfold
set_option maxRecDepth 20000 in
theorem ggX9_make_X8_shorten : GoodIn wsX9_make wsX8_shorten := goodIn_r _ [47, 48, 13, 14, 15, 184, 185, 186, 187, 188, 189, 190] (by decide +kernel) (by decide +kernel)
set_option maxRecDepth 20000 in
theorem gX9_make_X8_shorten : GoodIn wsX9_make (wsV RX9 127 RX8 yX8_shorten wsX8_shorten) := goodIn_app (goodIn_of _ (by decide +kernel)) ggX9_make_X8_shorten
set_option maxRecDepth 20000 in
theorem ggX9_item_X9_isWithin : GoodIn wsX9_item wsX9_isWithin := goodIn_r _ [5] (by decide +kernel) (by decide +kernel)
set_option maxRecDepth 20000 in
theorem gX9_item_X9_isWithin : GoodIn wsX9_item (va_wsS RX9 91 yX9_isWithin wsX9_isWithin) := goodIn_app (goodIn_of _ (by decide +kernel)) ggX9_item_X9_isWithin
set_option maxRecDepth 20000 in
theorem ggX9_below_X9_isWithin : GoodIn wsX9_below wsX9_isWithin := goodIn_r _ [7] (by decide +kernel) (by decide +kernel)
set_option maxRecDepth 20000 in
theorem gX9_below_X9_isWithin : GoodIn wsX9_below (va_wsS RX9 91 yX9_isWithin wsX9_isWithin) := goodIn_app (goodIn_of _ (by decide +kernel)) ggX9_below_X9_isWithin
set_option maxRecDepth 20000 in
theorem ggX9_below_X1_init : GoodIn wsX9_below wsX1_init := goodIn_r _ [10, 11, 12, 13, 14, 28] (by decide +kernel) (by decide +kernel)
set_option maxRecDepth 20000 in
theorem gX9_below_X1_init : GoodIn wsX9_below (wsX1_init) := ggX9_below_X1_init
set_option maxRecDepth 20000 in
theorem ggX9_below_X1_drawUnder : GoodIn wsX9_below wsX1_drawUnder := goodIn_r _ [18, 19, 20, 21, 22, 23, 3, 24, 14, 25, 26, 27, 28] (by decide +kernel) (by decide +kernel)
set_option maxRecDepth 20000 in
theorem gX9_below_X1_drawUnder : GoodIn wsX9_below (wsV RX9 145 RX1 yX1_drawUnder wsX1_drawUnder) := goodIn_app (goodIn_of _ (by decide +kernel)) ggX9_below_X1_drawUnder
set_option maxRecDepth 20000 in
theorem ggX9_corpus_X0_add : GoodIn wsX9_corpus wsX0_add := goodIn_r _ [6, 7, 8, 18, 19, 20, 21, 22] (by decide +kernel) (by decide +kernel)
set_option maxRecDepth 20000 in
theorem gX9_corpus_X0_add : GoodIn wsX9_corpus (wsV RX9 148 RX0 yX0_add wsX0_add) := goodIn_app (goodIn_of _ (by decide +kernel)) ggX9_corpus_X0_add
set_option maxRecDepth 20000 in
theorem ggX9_forget_X0_clear : GoodIn wsX9_forget wsX0_clear := goodIn_r _ [6, 7, 17, 18, 19, 20, 21] (by decide +kernel) (by decide +kernel)
set_option maxRecDepth 20000 in
theorem gX9_forget_X0_clear : GoodIn wsX9_forget (wsV RX9 151 RX0 yX0_clear wsX0_clear) := goodIn_app (goodIn_of _ (by decide +kernel)) ggX9_forget_X0_clear
set_option maxRecDepth 20000 in
theorem ggX9_walk_X9_isWithin : GoodIn wsX9_walk wsX9_isWithin := goodIn_r _ [8] (by decide +kernel) (by decide +kernel)
set_option maxRecDepth 20000 in
theorem gX9_walk_X9_isWithin : GoodIn wsX9_walk (va_wsS RX9 91 yX9_isWithin wsX9_isWithin) := goodIn_app (goodIn_of _ (by decide +kernel)) ggX9_walk_X9_isWithin
set_option maxRecDepth 20000 in
theorem ggX9_walk_X1_init : GoodIn wsX9_walk wsX1_init := goodIn_r _ [11, 12, 13, 14, 15, 65] (by decide +kernel) (by decide +kernel)
set_option maxRecDepth 20000 in
theorem gX9_walk_X1_init : GoodIn wsX9_walk (wsX1_init) := ggX9_walk_X1_init
set_option maxRecDepth 20000 in
theorem ggX9_walk_X0_wander : GoodIn wsX9_walk wsX0_wander := goodIn_r _ [20, 21, 22, 23, 24, 25, 26, 27, 28, 29, 30, 31, 19, 32, 33, 34, 35, 36, 37, 38, 39, 40, 4, 41, 42, 43, 44, 45, 46, 47, 15, 48, 49, 50, 60, 61, 62, 63, 64, 65] (by decide +kernel) (by decide +kernel)
set_option maxRecDepth 20000 in
theorem gX9_walk_X0_wander : GoodIn wsX9_walk (wsV RX9 155 RX0 yX0_wander wsX0_wander) := goodIn_app (goodIn_of _ (by decide +kernel)) ggX9_walk_X0_wander
set_option maxRecDepth 20000 in
theorem ggX9_step_X9_isWithin : GoodIn wsX9_step wsX9_isWithin := goodIn_r _ [5] (by decide +kernel) (by decide +kernel)
set_option maxRecDepth 20000 in
theorem gX9_step_X9_isWithin : GoodIn wsX9_step (va_wsS RX9 91 yX9_isWithin wsX9_isWithin) := goodIn_app (goodIn_of _ (by decide +kernel)) ggX9_step_X9_isWithin
set_option maxRecDepth 20000 in
theorem ggX9_stroke_X9_isWithin : GoodIn wsX9_stroke wsX9_isWithin := goodIn_r _ [5] (by decide +kernel) (by decide +kernel)
set_option maxRecDepth 20000 in
theorem gX9_stroke_X9_isWithin : GoodIn wsX9_stroke (va_wsS RX9 91 yX9_isWithin wsX9_isWithin) := goodIn_app (goodIn_of _ (by decide +kernel)) ggX9_stroke_X9_isWithin
set_option maxRecDepth 20000 in
theorem ggX9_turned_X9_isWithin : GoodIn wsX9_turned wsX9_isWithin := goodIn_r _ [5] (by decide +kernel) (by decide +kernel)
set_option maxRecDepth 20000 in
theorem gX9_turned_X9_isWithin : GoodIn wsX9_turned (va_wsS RX9 91 yX9_isWithin wsX9_isWithin) := goodIn_app (goodIn_of _ (by decide +kernel)) ggX9_turned_X9_isWithin
set_option maxRecDepth 20000 in
theorem ggX9_place_X9_isWithin : GoodIn wsX9_place wsX9_isWithin := goodIn_r _ [5] (by decide +kernel) (by decide +kernel)
set_option maxRecDepth 20000 in
theorem gX9_place_X9_isWithin : GoodIn wsX9_place (va_wsS RX9 91 yX9_isWithin wsX9_isWithin) := goodIn_app (goodIn_of _ (by decide +kernel)) ggX9_place_X9_isWithin
set_option maxRecDepth 20000 in
theorem ggX9_place_X7_swapIn : GoodIn wsX9_place wsX7_swapIn := goodIn_r _ [10, 11, 21] (by decide +kernel) (by decide +kernel)
set_option maxRecDepth 20000 in
theorem gX9_place_X7_swapIn : GoodIn wsX9_place (wsV RX9 168 RX7 yX7_swapIn wsX7_swapIn) := goodIn_app (goodIn_of _ (by decide +kernel)) ggX9_place_X7_swapIn
set_option maxRecDepth 20000 in
theorem ggX9_form_X9_isWithin : GoodIn wsX9_form wsX9_isWithin := goodIn_r _ [5] (by decide +kernel) (by decide +kernel)
set_option maxRecDepth 20000 in
theorem gX9_form_X9_isWithin : GoodIn wsX9_form (va_wsS RX9 91 yX9_isWithin wsX9_isWithin) := goodIn_app (goodIn_of _ (by decide +kernel)) ggX9_form_X9_isWithin
set_option maxRecDepth 20000 in
theorem ggX9_form_X7_numberOf : GoodIn wsX9_form wsX7_numberOf := goodIn_r _ [10, 11, 12, 13, 14, 15, 25] (by decide +kernel) (by decide +kernel)
set_option maxRecDepth 20000 in
theorem gX9_form_X7_numberOf : GoodIn wsX9_form (wsV RX9 172 RX7 yX7_numberOf wsX7_numberOf) := goodIn_app (goodIn_of _ (by decide +kernel)) ggX9_form_X7_numberOf
set_option maxRecDepth 20000 in
theorem ggX9_doubled_X7_countDoubled : GoodIn wsX9_doubled wsX7_countDoubled := goodIn_r _ [6, 7, 8, 9, 5, 10, 11, 12, 13, 14, 15, 16, 17, 18, 19, 20, 21, 22, 23, 33] (by decide +kernel) (by decide +kernel)
set_option maxRecDepth 20000 in
theorem gX9_doubled_X7_countDoubled : GoodIn wsX9_doubled (wsV RX9 176 RX7 yX7_countDoubled wsX7_countDoubled) := goodIn_app (goodIn_of _ (by decide +kernel)) ggX9_doubled_X7_countDoubled
set_option maxRecDepth 20000 in
theorem ggX10_blanks_X10_peek : GoodIn wsX10_blanks wsX10_peek := goodIn_r _ [5, 6, 7, 8, 9, 10, 11, 12, 13, 14, 15, 16, 17, 18, 19, 20, 21, 22, 23, 24, 25, 26, 27, 28, 29, 30, 31, 32, 33, 34, 35, 36, 37, 38, 39, 40, 41, 42, 43, 44, 45, 46, 47, 48, 49, 50, 51, 52, 53, 54, 55, 56, 57, 58, 59, 60] (by decide +kernel) (by decide +kernel)
set_option maxRecDepth 20000 in
theorem gX10_blanks_X10_peek : GoodIn wsX10_blanks (wsV RX10 127 RX10 yX10_peek wsX10_peek) := goodIn_app (goodIn_of _ (by decide +kernel)) ggX10_blanks_X10_peek
set_option maxRecDepth 20000 in
theorem ggX10_read_X10_readRule : GoodIn wsX10_read wsX10_readRule := goodIn_r _ [21, 2, 6, 3, 16, 10, 4, 1, 22, 23, 24, 20, 25, 26, 27, 28, 29, 30, 31, 32, 33, 34, 35, 36, 37, 38, 39, 40, 41, 42, 11, 12, 5, 13, 43, 44, 45, 46, 47, 48, 49, 50, 51, 52, 53, 9, 14, 15, 7, 8, 54, 55, 56, 57, 58, 59, 60, 61, 62, 63, 64, 65, 66, 67, 68, 69, 70, 71, 72, 73, 74, 75, 76, 77, 78, 79, 80, 81, 82, 83, 84, 85, 86, 87, 88, 89, 90, 91, 92, 93, 94, 95, 96, 97, 98, 99, 100, 101, 102, 103, 104, 105, 106, 107, 108, 109, 110] (by decide +kernel) (by decide +kernel)
set_option maxRecDepth 20000 in
theorem gX10_read_X10_readRule : GoodIn wsX10_read (wsV RX10 134 RX10 yX10_readRule wsX10_readRule) := goodIn_app (goodIn_of _ (by decide +kernel)) ggX10_read_X10_readRule
set_option maxRecDepth 20000 in
theorem ggX10_read_X10_fail : GoodIn wsX10_read wsX10_fail := goodIn_r _ [38, 1, 58, 59, 60, 61, 62, 63, 64, 65, 66, 67, 68, 69, 70, 71, 72, 73, 74, 75, 76, 77, 78, 79, 80, 81, 82, 83, 84, 85, 86, 87, 88, 89, 90, 91, 92, 93, 94, 95, 96, 97, 98, 99, 100, 101, 102, 103, 104, 105, 106, 107, 108, 109, 110] (by decide +kernel) (by decide +kernel)
set_option maxRecDepth 20000 in
theorem gX10_read_X10_fail : GoodIn wsX10_read (wsV RX10 138 RX10 yX10_fail wsX10_fail) := goodIn_app (goodIn_of _ (by decide +kernel)) ggX10_read_X10_fail
set_option maxRecDepth 20000 in
theorem ggX10_readRule_X10_blanks : GoodIn wsX10_readRule wsX10_blanks := goodIn_r _ [12, 13, 14, 15, 11, 16, 17, 18, 54, 55, 56, 57, 58, 59, 60, 61, 62, 63, 64, 65, 66, 67, 68, 69, 70, 71, 72, 73, 74, 75, 76, 77, 78, 79, 80, 81, 82, 83, 84, 85, 86, 87, 88, 89, 90, 91, 92, 93, 94, 95, 96, 97, 98, 99, 100, 101, 102, 103, 104, 105, 106] (by decide +kernel) (by decide +kernel)
set_option maxRecDepth 20000 in
theorem gX10_readRule_X10_blanks : GoodIn wsX10_readRule (wsV RX10 142 RX10 yX10_blanks wsX10_blanks) := goodIn_app (goodIn_of _ (by decide +kernel)) ggX10_readRule_X10_blanks
set_option maxRecDepth 20000 in
theorem ggX10_readRule_X10_peek : GoodIn wsX10_readRule wsX10_peek := goodIn_r _ [16, 17, 18, 54, 55, 56, 57, 58, 59, 60, 61, 62, 63, 64, 65, 66, 67, 68, 69, 70, 71, 72, 73, 74, 75, 76, 77, 78, 79, 80, 81, 82, 83, 84, 85, 86, 87, 88, 89, 90, 91, 92, 93, 94, 95, 96, 97, 98, 99, 100, 101, 102, 103, 104, 105, 106] (by decide +kernel) (by decide +kernel)
set_option maxRecDepth 20000 in
theorem gX10_readRule_X10_peek : GoodIn wsX10_readRule (wsV RX10 127 RX10 yX10_peek wsX10_peek) := goodIn_app (goodIn_of _ (by decide +kernel)) ggX10_readRule_X10_peek
set_option maxRecDepth 20000 in
theorem ggX10_readRule_X10_isLetter : GoodIn wsX10_readRule wsX10_isLetter := goodIn_r _ [21] (by decide +kernel) (by decide +kernel)
set_option maxRecDepth 20000 in
theorem gX10_readRule_X10_isLetter : GoodIn wsX10_readRule (va_wsS RX10 145 yX10_isLetter wsX10_isLetter) := goodIn_app (goodIn_of _ (by decide +kernel)) ggX10_readRule_X10_isLetter
set_option maxRecDepth 20000 in
theorem ggX10_readRule_X10_fail : GoodIn wsX10_readRule wsX10_fail := goodIn_r _ [25, 7, 54, 55, 56, 57, 58, 59, 60, 61, 62, 63, 64, 65, 66, 67, 68, 69, 70, 71, 72, 73, 74, 75, 76, 77, 78, 79, 80, 81, 82, 83, 84, 85, 86, 87, 88, 89, 90, 91, 92, 93, 94, 95, 96, 97, 98, 99, 100, 101, 102, 103, 104, 105, 106] (by decide +kernel) (by decide +kernel)
set_option maxRecDepth 20000 in
theorem gX10_readRule_X10_fail : GoodIn wsX10_readRule (wsV RX10 138 RX10 yX10_fail wsX10_fail) := goodIn_app (goodIn_of _ (by decide +kernel)) ggX10_readRule_X10_fail
set_option maxRecDepth 20000 in
theorem ggX10_readRule_X10_readWeight : GoodIn wsX10_readRule wsX10_readWeight := goodIn_r _ [29, 1, 6, 30, 31, 32, 33, 2, 8, 9, 10, 11, 12, 13, 14, 15, 16, 17, 18, 34, 35, 36, 22, 23, 24, 25, 7, 54, 55, 56, 57, 58, 59, 60, 61, 62, 63, 64, 65, 66, 67, 68, 69, 70, 71, 72, 73, 74, 75, 76, 77, 78, 79, 80, 81, 82, 83, 84, 85, 86, 87, 88, 89, 90, 91, 92, 93, 94, 95, 96, 97, 98, 99, 100, 101, 102, 103, 104, 105, 106] (by decide +kernel) (by decide +kernel)
set_option maxRecDepth 20000 in
theorem gX10_readRule_X10_readWeight : GoodIn wsX10_readRule (wsV RX10 149 RX10 yX10_readWeight wsX10_readWeight) := goodIn_app (goodIn_of _ (by decide +kernel)) ggX10_readRule_X10_readWeight
set_option maxRecDepth 20000 in
theorem ggX10_readRule_X10_readSigns : GoodIn wsX10_readRule wsX10_readSigns := goodIn_r _ [40, 6, 7, 1, 33, 32, 8, 9, 10, 11, 12, 13, 14, 15, 16, 17, 18, 19, 20, 21, 22, 23, 24, 25, 41, 42, 43, 44, 45, 46, 47, 48, 49, 50, 51, 52, 53, 34, 35, 36, 54, 55, 56, 57, 58, 59, 60, 61, 62, 63, 64, 65, 66, 67, 68, 69, 70, 71, 72, 73, 74, 75, 76, 77, 78, 79, 80, 81, 82, 83, 84, 85, 86, 87, 88, 89, 90, 91, 92, 93, 94, 95, 96, 97, 98, 99, 100, 101, 102, 103, 104, 105, 106] (by decide +kernel) (by decide +kernel)
set_option maxRecDepth 20000 in
theorem gX10_readRule_X10_readSigns : GoodIn wsX10_readRule (wsV RX10 152 RX10 yX10_readSigns wsX10_readSigns) := goodIn_app (goodIn_of _ (by decide +kernel)) ggX10_readRule_X10_readSigns
set_option maxRecDepth 20000 in
theorem ggX10_readWeight_X10_blanks : GoodIn wsX10_readWeight wsX10_blanks := goodIn_r _ [12, 13, 14, 15, 11, 16, 17, 18, 27, 28, 29, 30, 31, 32, 33, 34, 35, 36, 37, 38, 39, 40, 41, 42, 43, 44, 45, 46, 47, 48, 49, 50, 51, 52, 53, 54, 55, 56, 57, 58, 59, 60, 61, 62, 63, 64, 65, 66, 67, 68, 69, 70, 71, 72, 73, 74, 75, 76, 77, 78, 79] (by decide +kernel) (by decide +kernel)
set_option maxRecDepth 20000 in
theorem gX10_readWeight_X10_blanks : GoodIn wsX10_readWeight (wsV RX10 142 RX10 yX10_blanks wsX10_blanks) := goodIn_app (goodIn_of _ (by decide +kernel)) ggX10_readWeight_X10_blanks
set_option maxRecDepth 20000 in
theorem ggX10_readWeight_X10_peek : GoodIn wsX10_readWeight wsX10_peek := goodIn_r _ [16, 17, 18, 27, 28, 29, 30, 31, 32, 33, 34, 35, 36, 37, 38, 39, 40, 41, 42, 43, 44, 45, 46, 47, 48, 49, 50, 51, 52, 53, 54, 55, 56, 57, 58, 59, 60, 61, 62, 63, 64, 65, 66, 67, 68, 69, 70, 71, 72, 73, 74, 75, 76, 77, 78, 79] (by decide +kernel) (by decide +kernel)
set_option maxRecDepth 20000 in
theorem gX10_readWeight_X10_peek : GoodIn wsX10_readWeight (wsV RX10 127 RX10 yX10_peek wsX10_peek) := goodIn_app (goodIn_of _ (by decide +kernel)) ggX10_readWeight_X10_peek
set_option maxRecDepth 20000 in
theorem ggX10_readWeight_X10_isDigit : GoodIn wsX10_readWeight wsX10_isDigit := goodIn_r _ [21] (by decide +kernel) (by decide +kernel)
set_option maxRecDepth 20000 in
theorem gX10_readWeight_X10_isDigit : GoodIn wsX10_readWeight (va_wsS RX10 156 yX10_isDigit wsX10_isDigit) := goodIn_app (goodIn_of _ (by decide +kernel)) ggX10_readWeight_X10_isDigit
set_option maxRecDepth 20000 in
theorem ggX10_readWeight_X10_fail : GoodIn wsX10_readWeight wsX10_fail := goodIn_r _ [25, 26, 27, 28, 29, 30, 31, 32, 33, 34, 35, 36, 37, 38, 39, 40, 41, 42, 43, 44, 45, 46, 47, 48, 49, 50, 51, 52, 53, 54, 55, 56, 57, 58, 59, 60, 61, 62, 63, 64, 65, 66, 67, 68, 69, 70, 71, 72, 73, 74, 75, 76, 77, 78, 79] (by decide +kernel) (by decide +kernel)
set_option maxRecDepth 20000 in
theorem gX10_readWeight_X10_fail : GoodIn wsX10_readWeight (wsV RX10 138 RX10 yX10_fail wsX10_fail) := goodIn_app (goodIn_of _ (by decide +kernel)) ggX10_readWeight_X10_fail
set_option maxRecDepth 20000 in
theorem ggX10_readSigns_X10_blanks : GoodIn wsX10_readSigns wsX10_blanks := goodIn_r _ [10, 11, 12, 13, 9, 14, 15, 16, 40, 41, 42, 43, 44, 45, 46, 47, 48, 49, 50, 51, 52, 53, 54, 55, 56, 57, 58, 59, 60, 61, 62, 63, 64, 65, 66, 67, 68, 69, 70, 71, 72, 73, 74, 75, 76, 77, 78, 79, 80, 81, 82, 83, 84, 85, 86, 87, 88, 89, 90, 91, 92] (by decide +kernel) (by decide +kernel)
set_option maxRecDepth 20000 in
theorem gX10_readSigns_X10_blanks : GoodIn wsX10_readSigns (wsV RX10 142 RX10 yX10_blanks wsX10_blanks) := goodIn_app (goodIn_of _ (by decide +kernel)) ggX10_readSigns_X10_blanks
set_option maxRecDepth 20000 in
theorem ggX10_readSigns_X10_peek : GoodIn wsX10_readSigns wsX10_peek := goodIn_r _ [14, 15, 16, 40, 41, 42, 43, 44, 45, 46, 47, 48, 49, 50, 51, 52, 53, 54, 55, 56, 57, 58, 59, 60, 61, 62, 63, 64, 65, 66, 67, 68, 69, 70, 71, 72, 73, 74, 75, 76, 77, 78, 79, 80, 81, 82, 83, 84, 85, 86, 87, 88, 89, 90, 91, 92] (by decide +kernel) (by decide +kernel)
set_option maxRecDepth 20000 in
theorem gX10_readSigns_X10_peek : GoodIn wsX10_readSigns (wsV RX10 127 RX10 yX10_peek wsX10_peek) := goodIn_app (goodIn_of _ (by decide +kernel)) ggX10_readSigns_X10_peek
set_option maxRecDepth 20000 in
theorem ggX10_readSigns_X10_isLetter : GoodIn wsX10_readSigns wsX10_isLetter := goodIn_r _ [19] (by decide +kernel) (by decide +kernel)
set_option maxRecDepth 20000 in
theorem gX10_readSigns_X10_isLetter : GoodIn wsX10_readSigns (va_wsS RX10 145 yX10_isLetter wsX10_isLetter) := goodIn_app (goodIn_of _ (by decide +kernel)) ggX10_readSigns_X10_isLetter
set_option maxRecDepth 20000 in
theorem ggX10_readSigns_X10_fail : GoodIn wsX10_readSigns wsX10_fail := goodIn_r _ [23, 2, 40, 41, 42, 43, 44, 45, 46, 47, 48, 49, 50, 51, 52, 53, 54, 55, 56, 57, 58, 59, 60, 61, 62, 63, 64, 65, 66, 67, 68, 69, 70, 71, 72, 73, 74, 75, 76, 77, 78, 79, 80, 81, 82, 83, 84, 85, 86, 87, 88, 89, 90, 91, 92] (by decide +kernel) (by decide +kernel)
set_option maxRecDepth 20000 in
theorem gX10_readSigns_X10_fail : GoodIn wsX10_readSigns (wsV RX10 138 RX10 yX10_fail wsX10_fail) := goodIn_app (goodIn_of _ (by decide +kernel)) ggX10_readSigns_X10_fail
set_option maxRecDepth 20000 in
theorem ggX10_readSigns_X10_readSign : GoodIn wsX10_readSigns wsX10_readSign := goodIn_r _ [27, 28, 3, 29, 30, 31, 32, 17, 18, 9, 19, 11, 12, 13, 14, 15, 16, 33, 34, 35, 36, 20, 21, 22, 23, 2, 37, 38, 39, 40, 41, 42, 43, 44, 45, 46, 47, 48, 49, 50, 51, 52, 53, 54, 55, 56, 57, 58, 59, 60, 61, 62, 63, 64, 65, 66, 67, 68, 69, 70, 71, 72, 73, 74, 75, 76, 77, 78, 79, 80, 81, 82, 83, 84, 85, 86, 87, 88, 89, 90, 91, 92] (by decide +kernel) (by decide +kernel)
set_option maxRecDepth 20000 in
theorem gX10_readSigns_X10_readSign : GoodIn wsX10_readSigns (wsV RX10 159 RX10 yX10_readSign wsX10_readSign) := goodIn_app (goodIn_of _ (by decide +kernel)) ggX10_readSigns_X10_readSign
set_option maxRecDepth 20000 in
theorem ggX10_readSign_X10_isLetter : GoodIn wsX10_readSign wsX10_isLetter := goodIn_r _ [10] (by decide +kernel) (by decide +kernel)
set_option maxRecDepth 20000 in
theorem gX10_readSign_X10_isLetter : GoodIn wsX10_readSign (va_wsS RX10 145 yX10_isLetter wsX10_isLetter) := goodIn_app (goodIn_of _ (by decide +kernel)) ggX10_readSign_X10_isLetter
set_option maxRecDepth 20000 in
theorem ggX10_readSign_X10_peek : GoodIn wsX10_readSign wsX10_peek := goodIn_r _ [14, 15, 16, 29, 30, 31, 32, 33, 34, 35, 36, 37, 38, 39, 40, 41, 42, 43, 44, 45, 46, 47, 48, 49, 50, 51, 52, 53, 54, 55, 56, 57, 58, 59, 60, 61, 62, 63, 64, 65, 66, 67, 68, 69, 70, 71, 72, 73, 74, 75, 76, 77, 78, 79, 80, 81] (by decide +kernel) (by decide +kernel)
set_option maxRecDepth 20000 in
theorem gX10_readSign_X10_peek : GoodIn wsX10_readSign (wsV RX10 127 RX10 yX10_peek wsX10_peek) := goodIn_app (goodIn_of _ (by decide +kernel)) ggX10_readSign_X10_peek
set_option maxRecDepth 20000 in
theorem ggX10_readSign_X10_readLength : GoodIn wsX10_readSign wsX10_readLength := goodIn_r _ [20, 2, 4, 11, 12, 13, 9, 14, 15, 16, 21, 22, 23, 24, 25, 26, 27, 28, 29, 30, 31, 32, 33, 34, 35, 36, 37, 38, 39, 40, 41, 42, 43, 44, 45, 46, 47, 48, 49, 50, 51, 52, 53, 54, 55, 56, 57, 58, 59, 60, 61, 62, 63, 64, 65, 66, 67, 68, 69, 70, 71, 72, 73, 74, 75, 76, 77, 78, 79, 80, 81] (by decide +kernel) (by decide +kernel)
set_option maxRecDepth 20000 in
theorem gX10_readSign_X10_readLength : GoodIn wsX10_readSign (wsV RX10 163 RX10 yX10_readLength wsX10_readLength) := goodIn_app (goodIn_of _ (by decide +kernel)) ggX10_readSign_X10_readLength
set_option maxRecDepth 20000 in
theorem ggX10_readLength_X10_peek : GoodIn wsX10_readLength wsX10_peek := goodIn_r _ [7, 8, 9, 18, 19, 20, 21, 22, 23, 24, 25, 26, 27, 28, 29, 30, 31, 32, 33, 34, 35, 36, 37, 38, 39, 40, 41, 42, 43, 44, 45, 46, 47, 48, 49, 50, 51, 52, 53, 54, 55, 56, 57, 58, 59, 60, 61, 62, 63, 64, 65, 66, 67, 68, 69, 70] (by decide +kernel) (by decide +kernel)
set_option maxRecDepth 20000 in
theorem gX10_readLength_X10_peek : GoodIn wsX10_readLength (wsV RX10 127 RX10 yX10_peek wsX10_peek) := goodIn_app (goodIn_of _ (by decide +kernel)) ggX10_readLength_X10_peek
set_option maxRecDepth 20000 in
theorem ggX10_readLength_X10_fail : GoodIn wsX10_readLength wsX10_fail := goodIn_r _ [13, 14, 18, 19, 20, 21, 22, 23, 24, 25, 26, 27, 28, 29, 30, 31, 32, 33, 34, 35, 36, 37, 38, 39, 40, 41, 42, 43, 44, 45, 46, 47, 48, 49, 50, 51, 52, 53, 54, 55, 56, 57, 58, 59, 60, 61, 62, 63, 64, 65, 66, 67, 68, 69, 70] (by decide +kernel) (by decide +kernel)
set_option maxRecDepth 20000 in
theorem gX10_readLength_X10_fail : GoodIn wsX10_readLength (wsV RX10 138 RX10 yX10_fail wsX10_fail) := goodIn_app (goodIn_of _ (by decide +kernel)) ggX10_readLength_X10_fail
set_option maxRecDepth 20000 in
theorem ggX10_readLength_X10_isDigit : GoodIn wsX10_readLength wsX10_isDigit := goodIn_r _ [17] (by decide +kernel) (by decide +kernel)
set_option maxRecDepth 20000 in
theorem gX10_readLength_X10_isDigit : GoodIn wsX10_readLength (va_wsS RX10 156 yX10_isDigit wsX10_isDigit) := goodIn_app (goodIn_of _ (by decide +kernel)) ggX10_readLength_X10_isDigit
set_option maxRecDepth 20000 in
theorem ggX10_drawBelow_X10_draw : GoodIn wsX10_drawBelow wsX10_draw := goodIn_r _ [6, 7, 8, 9, 10, 11, 12, 13, 14, 15, 16, 17, 18, 19, 20, 21, 22, 23, 24, 25, 26, 27, 28, 29, 30, 31, 32, 33, 34, 35, 36, 37, 38, 39, 40, 41, 42, 43, 44, 45, 46, 47, 48, 49, 50, 51, 52, 53, 54, 55, 56, 57, 58, 59, 60, 61, 62, 63] (by decide +kernel) (by decide +kernel)
set_option maxRecDepth 20000 in
theorem gX10_drawBelow_X10_draw : GoodIn wsX10_drawBelow (wsV RX10 178 RX10 yX10_draw wsX10_draw) := goodIn_app (goodIn_of _ (by decide +kernel)) ggX10_drawBelow_X10_draw
set_option maxRecDepth 20000 in
theorem ggX10_below_X10_drawBelow : GoodIn wsX10_below wsX10_drawBelow := goodIn_r _ [6, 7, 8, 9, 10, 5, 11, 1, 12, 13, 14, 15, 16, 17, 18, 19, 20, 21, 22, 23, 24, 25, 26, 27, 28, 29, 30, 31, 32, 33, 34, 35, 36, 37, 38, 39, 40, 41, 42, 43, 44, 45, 46, 47, 48, 49, 50, 51, 52, 53, 54, 55, 56, 57, 58, 59, 60, 61, 62, 63, 64, 65, 66, 67] (by decide +kernel) (by decide +kernel)
set_option maxRecDepth 20000 in
theorem gX10_below_X10_drawBelow : GoodIn wsX10_below (wsV RX10 182 RX10 yX10_drawBelow wsX10_drawBelow) := goodIn_app (goodIn_of _ (by decide +kernel)) ggX10_below_X10_drawBelow
set_option maxRecDepth 20000 in
theorem ggX10_choose_X10_drawBelow : GoodIn wsX10_choose wsX10_drawBelow := goodIn_r _ [15, 16, 17, 18, 19, 14, 20, 21, 22, 23, 24, 33, 34, 35, 36, 37, 38, 39, 40, 41, 42, 43, 44, 45, 46, 47, 48, 49, 50, 51, 52, 53, 54, 55, 56, 57, 58, 59, 60, 61, 62, 63, 64, 65, 66, 67, 68, 69, 70, 71, 72, 73, 74, 75, 76, 77, 78, 79, 80, 81, 82, 83, 84, 85] (by decide +kernel) (by decide +kernel)
set_option maxRecDepth 20000 in
theorem gX10_choose_X10_drawBelow : GoodIn wsX10_choose (wsV RX10 182 RX10 yX10_drawBelow wsX10_drawBelow) := goodIn_app (goodIn_of _ (by decide +kernel)) ggX10_choose_X10_drawBelow
set_option maxRecDepth 20000 in
theorem ggX10_choose_X10_put : GoodIn wsX10_choose wsX10_put := goodIn_r _ [28, 29, 30, 31, 32, 10, 33, 34, 35, 36, 37, 38, 39, 40, 41, 42, 43, 44, 45, 46, 47, 48, 49, 50, 51, 52, 53, 54, 55, 56, 57, 58, 59, 60, 61, 62, 63, 64, 65, 66, 67, 68, 69, 70, 71, 72, 73, 74, 75, 76, 77, 78, 79, 80, 81, 82, 83, 84, 85] (by decide +kernel) (by decide +kernel)
set_option maxRecDepth 20000 in
theorem gX10_choose_X10_put : GoodIn wsX10_choose (wsV RX10 215 RX10 yX10_put wsX10_put) := goodIn_app (goodIn_of _ (by decide +kernel)) ggX10_choose_X10_put
set_option maxRecDepth 20000 in
theorem ggX10_make_X10_put : GoodIn wsX10_make wsX10_put := goodIn_r _ [24, 18, 5, 19, 6, 7, 79, 80, 81, 82, 83, 84, 85, 86, 87, 88, 89, 90, 91, 92, 93, 94, 95, 96, 97, 98, 99, 100, 101, 102, 103, 104, 105, 106, 107, 108, 109, 110, 111, 112, 113, 114, 115, 116, 117, 118, 119, 120, 121, 122, 123, 124, 125, 126, 127, 128, 129, 130, 131] (by decide +kernel) (by decide +kernel)
set_option maxRecDepth 20000 in
theorem gX10_make_X10_put : GoodIn wsX10_make (wsV RX10 215 RX10 yX10_put wsX10_put) := goodIn_app (goodIn_of _ (by decide +kernel)) ggX10_make_X10_put
set_option maxRecDepth 20000 in
theorem ggX10_make_X10_keep : GoodIn wsX10_make wsX10_keep := goodIn_r _ [28, 29, 13, 30, 6, 31, 7, 32, 8, 33, 9, 34, 10, 35, 11, 36, 12, 37, 5, 38, 79, 80, 81, 82, 83, 84, 85, 86, 87, 88, 89, 90, 91, 92, 93, 94, 95, 96, 97, 98, 99, 100, 101, 102, 103, 104, 105, 106, 107, 108, 109, 110, 111, 112, 113, 114, 115, 116, 117, 118, 119, 120, 121, 122, 123, 124, 125, 126, 127, 128, 129, 130, 131] (by decide +kernel) (by decide +kernel)
set_option maxRecDepth 20000 in
theorem gX10_make_X10_keep : GoodIn wsX10_make (wsV RX10 221 RX10 yX10_keep wsX10_keep) := goodIn_app (goodIn_of _ (by decide +kernel)) ggX10_make_X10_keep
set_option maxRecDepth 20000 in
theorem ggX10_make_X10_sound : GoodIn wsX10_make wsX10_sound := goodIn_r _ [42, 8, 43, 17, 14, 44, 15, 45, 10, 12, 11, 46, 9, 47, 48, 49, 79, 80, 81, 82, 83, 84, 85, 86, 87, 88, 89, 90, 91, 92, 93, 94, 95, 96, 97, 98, 99, 100, 101, 102, 103, 104, 105, 106, 107, 108, 109, 110, 111, 112, 113, 114, 115, 116, 117, 118, 119, 120, 121, 122, 123, 124, 125, 126, 127, 128, 129, 130, 131] (by decide +kernel) (by decide +kernel)
set_option maxRecDepth 20000 in
theorem gX10_make_X10_sound : GoodIn wsX10_make (wsV RX10 224 RX10 yX10_sound wsX10_sound) := goodIn_app (goodIn_of _ (by decide +kernel)) ggX10_make_X10_sound
set_option maxRecDepth 20000 in
theorem ggX10_make_X10_back : GoodIn wsX10_make wsX10_back := goodIn_r _ [53, 13, 30, 6, 31, 7, 32, 8, 33, 9, 34, 10, 35, 11, 36, 12, 37, 5, 79, 80, 81, 82, 83, 84, 85, 86, 87, 88, 89, 90, 91, 92, 93, 94, 95, 96, 97, 98, 99, 100, 101, 102, 103, 104, 105, 106, 107, 108, 109, 110, 111, 112, 113, 114, 115, 116, 117, 118, 119, 120, 121, 122, 123, 124, 125, 126, 127, 128, 129, 130, 131] (by decide +kernel) (by decide +kernel)
set_option maxRecDepth 20000 in
theorem gX10_make_X10_back : GoodIn wsX10_make (wsV RX10 228 RX10 yX10_back wsX10_back) := goodIn_app (goodIn_of _ (by decide +kernel)) ggX10_make_X10_back
set_option maxRecDepth 20000 in
theorem ggX10_make_X10_left : GoodIn wsX10_make wsX10_left := goodIn_r _ [57, 29, 13, 58, 38, 59, 60, 79, 80, 81, 82, 83, 84, 85, 86, 87, 88, 89, 90, 91, 92, 93, 94, 95, 96, 97, 98, 99, 100, 101, 102, 103, 104, 105, 106, 107, 108, 109, 110, 111, 112, 113, 114, 115, 116, 117, 118, 119, 120, 121, 122, 123, 124, 125, 126, 127, 128, 129, 130, 131] (by decide +kernel) (by decide +kernel)
set_option maxRecDepth 20000 in
theorem gX10_make_X10_left : GoodIn wsX10_make (wsV RX10 231 RX10 yX10_left wsX10_left) := goodIn_app (goodIn_of _ (by decide +kernel)) ggX10_make_X10_left
set_option maxRecDepth 20000 in
theorem ggX10_make_X10_choose : GoodIn wsX10_make wsX10_choose := goodIn_r _ [64, 29, 13, 3, 58, 38, 59, 60, 65, 66, 7, 67, 68, 69, 23, 70, 71, 72, 73, 74, 75, 2, 76, 77, 78, 20, 21, 22, 24, 18, 5, 19, 6, 79, 80, 81, 82, 83, 84, 85, 86, 87, 88, 89, 90, 91, 92, 93, 94, 95, 96, 97, 98, 99, 100, 101, 102, 103, 104, 105, 106, 107, 108, 109, 110, 111, 112, 113, 114, 115, 116, 117, 118, 119, 120, 121, 122, 123, 124, 125, 126, 127, 128, 129, 130, 131] (by decide +kernel) (by decide +kernel)
set_option maxRecDepth 20000 in
theorem gX10_make_X10_choose : GoodIn wsX10_make (wsV RX10 234 RX10 yX10_choose wsX10_choose) := goodIn_app (goodIn_of _ (by decide +kernel)) ggX10_make_X10_choose
set_option maxRecDepth 20000 in
theorem ggX10_walk_X10_isAhead : GoodIn wsX10_walk wsX10_isAhead := goodIn_r _ [10, 4, 3, 5, 23, 24, 25, 26, 27, 28, 29, 30, 31, 32, 33, 34, 35, 36, 37, 38, 39, 40, 41, 42, 43, 44, 45, 46, 47, 48, 49, 50, 51, 52, 53, 54, 55, 56, 57, 58, 59, 60, 61, 62, 63, 64, 65, 66, 67, 68, 69, 70, 71, 72, 73, 74, 75] (by decide +kernel) (by decide +kernel)
set_option maxRecDepth 20000 in
theorem gX10_walk_X10_isAhead : GoodIn wsX10_walk (wsV RX10 243 RX10 yX10_isAhead wsX10_isAhead) := goodIn_app (goodIn_of _ (by decide +kernel)) ggX10_walk_X10_isAhead
set_option maxRecDepth 20000 in
theorem ggX10_walk_X10_drawBelow : GoodIn wsX10_walk wsX10_drawBelow := goodIn_r _ [14, 15, 16, 17, 18, 9, 19, 2, 20, 21, 22, 23, 24, 25, 26, 27, 28, 29, 30, 31, 32, 33, 34, 35, 36, 37, 38, 39, 40, 41, 42, 43, 44, 45, 46, 47, 48, 49, 50, 51, 52, 53, 54, 55, 56, 57, 58, 59, 60, 61, 62, 63, 64, 65, 66, 67, 68, 69, 70, 71, 72, 73, 74, 75] (by decide +kernel) (by decide +kernel)
set_option maxRecDepth 20000 in
theorem gX10_walk_X10_drawBelow : GoodIn wsX10_walk (wsV RX10 182 RX10 yX10_drawBelow wsX10_drawBelow) := goodIn_app (goodIn_of _ (by decide +kernel)) ggX10_walk_X10_drawBelow
set_option maxRecDepth 20000 in
theorem ggX10_form_X10_formOf : GoodIn wsX10_form wsX10_formOf := goodIn_r _ [5, 6, 7, 8, 9, 10, 11, 12, 13, 14, 15, 16, 17, 18, 19, 20, 21, 22, 23, 24, 25, 26, 27, 28, 29, 30, 31, 32, 33, 34, 35, 36, 37, 38, 39, 40, 41, 42, 43, 44, 45, 46, 47, 48, 49, 50, 51, 52, 53, 54, 55, 56, 57, 58, 59] (by decide +kernel) (by decide +kernel)
set_option maxRecDepth 20000 in
theorem gX10_form_X10_formOf : GoodIn wsX10_form (wsV RX10 247 RX10 yX10_formOf wsX10_formOf) := goodIn_app (goodIn_of _ (by decide +kernel)) ggX10_form_X10_formOf
set_option maxRecDepth 20000 in
theorem ggX10_doubled_X10_formOf : GoodIn wsX10_doubled wsX10_formOf := goodIn_r _ [5, 6, 7, 8, 9, 10, 11, 12, 13, 14, 15, 16, 17, 18, 19, 20, 21, 22, 23, 24, 25, 26, 27, 28, 29, 30, 31, 32, 33, 34, 35, 36, 37, 38, 39, 40, 41, 42, 43, 44, 45, 46, 47, 48, 49, 50, 51, 52, 53, 54, 55, 56, 57, 58, 59] (by decide +kernel) (by decide +kernel)
set_option maxRecDepth 20000 in
theorem gX10_doubled_X10_formOf : GoodIn wsX10_doubled (wsV RX10 247 RX10 yX10_formOf wsX10_formOf) := goodIn_app (goodIn_of _ (by decide +kernel)) ggX10_doubled_X10_formOf
