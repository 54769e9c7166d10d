set_option maxRecDepth 20000 in
theorem ggX10_begin_X10_within : GoodIn wsX10_begin wsX10_within := goodIn_r _ [11] (by decide +kernel) (by decide +kernel)
set_option maxRecDepth 20000 in
theorem gX10_begin_X10_within : GoodIn wsX10_begin (va_wsS RX10 50 yX10_within wsX10_within) := goodIn_app (goodIn_of _ (by decide +kernel)) ggX10_begin_X10_within
set_option maxRecDepth 20000 in
theorem ggX10_begin_X10_fails : GoodIn wsX10_begin wsX10_fails := goodIn_r _ [15, 16, 17, 18, 19, 20, 21, 22, 23, 24, 25, 26, 27, 28, 29, 30, 31, 32, 33, 34] (by decide +kernel) (by decide +kernel)
set_option maxRecDepth 20000 in
theorem gX10_begin_X10_fails : GoodIn wsX10_begin (wsV RX10 54 RX10 yX10_fails wsX10_fails) := goodIn_app (goodIn_of _ (by decide +kernel)) ggX10_begin_X10_fails
set_option maxRecDepth 20000 in
theorem ggX10_put_X10_within : GoodIn wsX10_put wsX10_within := goodIn_r _ [7] (by decide +kernel) (by decide +kernel)
set_option maxRecDepth 20000 in
theorem gX10_put_X10_within : GoodIn wsX10_put (va_wsS RX10 50 yX10_within wsX10_within) := goodIn_app (goodIn_of _ (by decide +kernel)) ggX10_put_X10_within
set_option maxRecDepth 20000 in
theorem ggX10_put_X10_fails : GoodIn wsX10_put wsX10_fails := goodIn_r _ [11, 12, 13, 14, 15, 16, 17, 18, 19, 20, 21, 22, 23, 24, 25, 26, 27, 28, 29, 30] (by decide +kernel) (by decide +kernel)
set_option maxRecDepth 20000 in
theorem gX10_put_X10_fails : GoodIn wsX10_put (wsV RX10 54 RX10 yX10_fails wsX10_fails) := goodIn_app (goodIn_of _ (by decide +kernel)) ggX10_put_X10_fails
set_option maxRecDepth 20000 in
theorem ggX10_pixel_X10_within : GoodIn wsX10_pixel wsX10_within := goodIn_r _ [8] (by decide +kernel) (by decide +kernel)
set_option maxRecDepth 20000 in
theorem gX10_pixel_X10_within : GoodIn wsX10_pixel (va_wsS RX10 50 yX10_within wsX10_within) := goodIn_app (goodIn_of _ (by decide +kernel)) ggX10_pixel_X10_within
set_option maxRecDepth 20000 in
theorem ggX10_round_X10_above : GoodIn wsX10_round wsX10_above := goodIn_r _ [7, 2, 1, 12, 13, 14, 15, 16, 17, 18, 19, 20, 21, 22, 23, 24, 25, 26, 27, 28, 29] (by decide +kernel) (by decide +kernel)
set_option maxRecDepth 20000 in
theorem gX10_round_X10_above : GoodIn wsX10_round (wsV RX10 65 RX10 yX10_above wsX10_above) := goodIn_app (goodIn_of _ (by decide +kernel)) ggX10_round_X10_above
set_option maxRecDepth 20000 in
theorem ggX10_round_X10_left : GoodIn wsX10_round wsX10_left := goodIn_r _ [11, 1, 2, 12, 13, 14, 15, 16, 17, 18, 19, 20, 21, 22, 23, 24, 25, 26, 27, 28, 29] (by decide +kernel) (by decide +kernel)
set_option maxRecDepth 20000 in
theorem gX10_round_X10_left : GoodIn wsX10_round (wsV RX10 69 RX10 yX10_left wsX10_left) := goodIn_app (goodIn_of _ (by decide +kernel)) ggX10_round_X10_left
set_option maxRecDepth 20000 in
theorem ggX10_may_X10_hasAbove : GoodIn wsX10_may wsX10_hasAbove := goodIn_r _ [5, 6, 11, 12, 13, 14, 15, 16, 17, 18, 19, 20, 21, 22, 23, 24, 25, 26, 27, 28] (by decide +kernel) (by decide +kernel)
set_option maxRecDepth 20000 in
theorem gX10_may_X10_hasAbove : GoodIn wsX10_may (wsV RX10 72 RX10 yX10_hasAbove wsX10_hasAbove) := goodIn_app (goodIn_of _ (by decide +kernel)) ggX10_may_X10_hasAbove
set_option maxRecDepth 20000 in
theorem ggX10_may_X10_hasLeft : GoodIn wsX10_may wsX10_hasLeft := goodIn_r _ [10, 6, 11, 12, 13, 14, 15, 16, 17, 18, 19, 20, 21, 22, 23, 24, 25, 26, 27, 28] (by decide +kernel) (by decide +kernel)
set_option maxRecDepth 20000 in
theorem gX10_may_X10_hasLeft : GoodIn wsX10_may (wsV RX10 76 RX10 yX10_hasLeft wsX10_hasLeft) := goodIn_app (goodIn_of _ (by decide +kernel)) ggX10_may_X10_hasLeft
set_option maxRecDepth 20000 in
theorem ggX10_mean_X10_hasAbove : GoodIn wsX10_mean wsX10_hasAbove := goodIn_r _ [5, 6, 20, 21, 22, 23, 24, 25, 26, 27, 28, 29, 30, 31, 32, 33, 34, 35, 36, 37] (by decide +kernel) (by decide +kernel)
set_option maxRecDepth 20000 in
theorem gX10_mean_X10_hasAbove : GoodIn wsX10_mean (wsV RX10 72 RX10 yX10_hasAbove wsX10_hasAbove) := goodIn_app (goodIn_of _ (by decide +kernel)) ggX10_mean_X10_hasAbove
set_option maxRecDepth 20000 in
theorem ggX10_mean_X10_above : GoodIn wsX10_mean wsX10_above := goodIn_r _ [10, 6, 11, 20, 21, 22, 23, 24, 25, 26, 27, 28, 29, 30, 31, 32, 33, 34, 35, 36, 37] (by decide +kernel) (by decide +kernel)
set_option maxRecDepth 20000 in
theorem gX10_mean_X10_above : GoodIn wsX10_mean (wsV RX10 65 RX10 yX10_above wsX10_above) := goodIn_app (goodIn_of _ (by decide +kernel)) ggX10_mean_X10_above
set_option maxRecDepth 20000 in
theorem ggX10_mean_X10_hasLeft : GoodIn wsX10_mean wsX10_hasLeft := goodIn_r _ [15, 6, 20, 21, 22, 23, 24, 25, 26, 27, 28, 29, 30, 31, 32, 33, 34, 35, 36, 37] (by decide +kernel) (by decide +kernel)
set_option maxRecDepth 20000 in
theorem gX10_mean_X10_hasLeft : GoodIn wsX10_mean (wsV RX10 76 RX10 yX10_hasLeft wsX10_hasLeft) := goodIn_app (goodIn_of _ (by decide +kernel)) ggX10_mean_X10_hasLeft
set_option maxRecDepth 20000 in
theorem ggX10_mean_X10_left : GoodIn wsX10_mean wsX10_left := goodIn_r _ [19, 11, 6, 20, 21, 22, 23, 24, 25, 26, 27, 28, 29, 30, 31, 32, 33, 34, 35, 36, 37] (by decide +kernel) (by decide +kernel)
set_option maxRecDepth 20000 in
theorem gX10_mean_X10_left : GoodIn wsX10_mean (wsV RX10 69 RX10 yX10_left wsX10_left) := goodIn_app (goodIn_of _ (by decide +kernel)) ggX10_mean_X10_left
set_option maxRecDepth 20000 in
theorem ggX10_slanted_X10_round : GoodIn wsX10_slanted wsX10_round := goodIn_r _ [5, 6, 7, 8, 9, 10, 4, 11, 12, 13, 14, 15, 22, 23, 24, 25, 26, 27, 28, 29, 30, 31, 32, 33, 34, 35, 36, 37, 38, 39] (by decide +kernel) (by decide +kernel)
set_option maxRecDepth 20000 in
theorem gX10_slanted_X10_round : GoodIn wsX10_slanted (wsV RX10 79 RX10 yX10_round wsX10_round) := goodIn_app (goodIn_of _ (by decide +kernel)) ggX10_slanted_X10_round
set_option maxRecDepth 20000 in
theorem ggX10_slanted_X10_two : GoodIn wsX10_slanted wsX10_two := goodIn_r _ [18] (by decide +kernel) (by decide +kernel)
set_option maxRecDepth 20000 in
theorem gX10_slanted_X10_two : GoodIn wsX10_slanted (va_wsS RX10 82 yX10_two wsX10_two) := goodIn_app (goodIn_of _ (by decide +kernel)) ggX10_slanted_X10_two
set_option maxRecDepth 20000 in
theorem ggX10_slanted_X10_three : GoodIn wsX10_slanted wsX10_three := goodIn_r _ [21] (by decide +kernel) (by decide +kernel)
set_option maxRecDepth 20000 in
theorem gX10_slanted_X10_three : GoodIn wsX10_slanted (va_wsS RX10 85 yX10_three wsX10_three) := goodIn_app (goodIn_of _ (by decide +kernel)) ggX10_slanted_X10_three
set_option maxRecDepth 20000 in
theorem ggX10_told_X10_above : GoodIn wsX10_told wsX10_above := goodIn_r _ [5, 6, 7, 38, 39, 40, 41, 42, 43, 44, 45, 46, 47, 48, 49, 50, 51, 52, 53, 54, 55] (by decide +kernel) (by decide +kernel)
set_option maxRecDepth 20000 in
theorem gX10_told_X10_above : GoodIn wsX10_told (wsV RX10 65 RX10 yX10_above wsX10_above) := goodIn_app (goodIn_of _ (by decide +kernel)) ggX10_told_X10_above
set_option maxRecDepth 20000 in
theorem ggX10_told_X10_left : GoodIn wsX10_told wsX10_left := goodIn_r _ [11, 7, 6, 38, 39, 40, 41, 42, 43, 44, 45, 46, 47, 48, 49, 50, 51, 52, 53, 54, 55] (by decide +kernel) (by decide +kernel)
set_option maxRecDepth 20000 in
theorem gX10_told_X10_left : GoodIn wsX10_told (wsV RX10 69 RX10 yX10_left wsX10_left) := goodIn_app (goodIn_of _ (by decide +kernel)) ggX10_told_X10_left
set_option maxRecDepth 20000 in
theorem ggX10_told_X10_mean : GoodIn wsX10_told wsX10_mean := goodIn_r _ [15, 16, 17, 18, 4, 19, 6, 1, 2, 3, 5, 7, 20, 21, 22, 23, 8, 9, 10, 11, 38, 39, 40, 41, 42, 43, 44, 45, 46, 47, 48, 49, 50, 51, 52, 53, 54, 55] (by decide +kernel) (by decide +kernel)
set_option maxRecDepth 20000 in
theorem gX10_told_X10_mean : GoodIn wsX10_told (wsV RX10 89 RX10 yX10_mean wsX10_mean) := goodIn_app (goodIn_of _ (by decide +kernel)) ggX10_told_X10_mean
set_option maxRecDepth 20000 in
theorem ggX10_told_X10_three : GoodIn wsX10_told wsX10_three := goodIn_r _ [26] (by decide +kernel) (by decide +kernel)
set_option maxRecDepth 20000 in
theorem gX10_told_X10_three : GoodIn wsX10_told (va_wsS RX10 85 yX10_three wsX10_three) := goodIn_app (goodIn_of _ (by decide +kernel)) ggX10_told_X10_three
set_option maxRecDepth 20000 in
theorem ggX10_told_X10_round : GoodIn wsX10_told wsX10_round := goodIn_r _ [30, 7, 6, 1, 2, 3, 4, 5, 8, 9, 10, 11, 38, 39, 40, 41, 42, 43, 44, 45, 46, 47, 48, 49, 50, 51, 52, 53, 54, 55] (by decide +kernel) (by decide +kernel)
set_option maxRecDepth 20000 in
theorem gX10_told_X10_round : GoodIn wsX10_told (wsV RX10 79 RX10 yX10_round wsX10_round) := goodIn_app (goodIn_of _ (by decide +kernel)) ggX10_told_X10_round
set_option maxRecDepth 20000 in
theorem ggX10_told_X10_slanted : GoodIn wsX10_told wsX10_slanted := goodIn_r _ [34, 27, 28, 29, 4, 30, 7, 6, 1, 2, 3, 5, 8, 9, 10, 11, 35, 36, 37, 24, 25, 26, 38, 39, 40, 41, 42, 43, 44, 45, 46, 47, 48, 49, 50, 51, 52, 53, 54, 55] (by decide +kernel) (by decide +kernel)
set_option maxRecDepth 20000 in
theorem gX10_told_X10_slanted : GoodIn wsX10_told (wsV RX10 93 RX10 yX10_slanted wsX10_slanted) := goodIn_app (goodIn_of _ (by decide +kernel)) ggX10_told_X10_slanted
set_option maxRecDepth 20000 in
theorem ggX10_told_X10_two : GoodIn wsX10_told wsX10_two := goodIn_r _ [37] (by decide +kernel) (by decide +kernel)
set_option maxRecDepth 20000 in
theorem gX10_told_X10_two : GoodIn wsX10_told (va_wsS RX10 82 yX10_two wsX10_two) := goodIn_app (goodIn_of _ (by decide +kernel)) ggX10_told_X10_two
set_option maxRecDepth 20000 in
theorem ggX10_backBy_X10_odd : GoodIn wsX10_backBy wsX10_odd := goodIn_r _ [4] (by decide +kernel) (by decide +kernel)
set_option maxRecDepth 20000 in
theorem gX10_backBy_X10_odd : GoodIn wsX10_backBy (va_wsS RX10 97 yX10_odd wsX10_odd) := goodIn_app (goodIn_of _ (by decide +kernel)) ggX10_backBy_X10_odd
set_option maxRecDepth 20000 in
theorem ggX10_backBy_X10_pick : GoodIn wsX10_backBy wsX10_pick := goodIn_r _ [7] (by decide +kernel) (by decide +kernel)
set_option maxRecDepth 20000 in
theorem gX10_backBy_X10_pick : GoodIn wsX10_backBy (va_wsS RX10 100 yX10_pick wsX10_pick) := goodIn_app (goodIn_of _ (by decide +kernel)) ggX10_backBy_X10_pick
set_option maxRecDepth 20000 in
theorem ggX10_forthBy_X10_odd : GoodIn wsX10_forthBy wsX10_odd := goodIn_r _ [4] (by decide +kernel) (by decide +kernel)
set_option maxRecDepth 20000 in
theorem gX10_forthBy_X10_odd : GoodIn wsX10_forthBy (va_wsS RX10 97 yX10_odd wsX10_odd) := goodIn_app (goodIn_of _ (by decide +kernel)) ggX10_forthBy_X10_odd
set_option maxRecDepth 20000 in
theorem ggX10_forthBy_X10_pick : GoodIn wsX10_forthBy wsX10_pick := goodIn_r _ [7] (by decide +kernel) (by decide +kernel)
set_option maxRecDepth 20000 in
theorem gX10_forthBy_X10_pick : GoodIn wsX10_forthBy (va_wsS RX10 100 yX10_pick wsX10_pick) := goodIn_app (goodIn_of _ (by decide +kernel)) ggX10_forthBy_X10_pick
set_option maxRecDepth 20000 in
theorem ggX10_backLine_X10_down : GoodIn wsX10_backLine wsX10_down := goodIn_r _ [5] (by decide +kernel) (by decide +kernel)
set_option maxRecDepth 20000 in
theorem gX10_backLine_X10_down : GoodIn wsX10_backLine (va_wsS RX10 104 yX10_down wsX10_down) := goodIn_app (goodIn_of _ (by decide +kernel)) ggX10_backLine_X10_down
set_option maxRecDepth 20000 in
theorem ggX10_comesBack_X10_placeOf : GoodIn wsX10_comesBack wsX10_placeOf := goodIn_r _ [7] (by decide +kernel) (by decide +kernel)
set_option maxRecDepth 20000 in
theorem gX10_comesBack_X10_placeOf : GoodIn wsX10_comesBack (va_wsS RX10 106 yX10_placeOf wsX10_placeOf) := goodIn_app (goodIn_of _ (by decide +kernel)) ggX10_comesBack_X10_placeOf
set_option maxRecDepth 20000 in
theorem ggX10_comesBack_X10_backBy : GoodIn wsX10_comesBack wsX10_backBy := goodIn_r _ [10, 11, 12, 6, 13, 14, 15, 16] (by decide +kernel) (by decide +kernel)
set_option maxRecDepth 20000 in
theorem gX10_comesBack_X10_backBy : GoodIn wsX10_comesBack (va_wsS RX10 109 yX10_backBy wsX10_backBy) := goodIn_app (goodIn_of _ (by decide +kernel)) ggX10_comesBack_X10_backBy
set_option maxRecDepth 20000 in
theorem ggX10_comesBack_X10_backLine : GoodIn wsX10_comesBack wsX10_backLine := goodIn_r _ [20, 1, 21, 22, 6, 23, 65, 66, 67, 68, 69, 70, 71, 72, 73, 74, 75, 76, 77, 78, 79, 80, 81, 82] (by decide +kernel) (by decide +kernel)
set_option maxRecDepth 20000 in
theorem gX10_comesBack_X10_backLine : GoodIn wsX10_comesBack (wsV RX10 112 RX10 yX10_backLine wsX10_backLine) := goodIn_app (goodIn_of _ (by decide +kernel)) ggX10_comesBack_X10_backLine
set_option maxRecDepth 20000 in
theorem ggX10_comesBack_X10_told : GoodIn wsX10_comesBack wsX10_told := goodIn_r _ [27, 28, 29, 30, 6, 31, 3, 2, 32, 33, 34, 35, 36, 37, 38, 39, 40, 41, 42, 43, 44, 45, 46, 47, 48, 49, 50, 51, 52, 53, 54, 55, 56, 57, 58, 59, 60, 61, 65, 66, 67, 68, 69, 70, 71, 72, 73, 74, 75, 76, 77, 78, 79, 80, 81, 82] (by decide +kernel) (by decide +kernel)
set_option maxRecDepth 20000 in
theorem gX10_comesBack_X10_told : GoodIn wsX10_comesBack (wsV RX10 116 RX10 yX10_told wsX10_told) := goodIn_app (goodIn_of _ (by decide +kernel)) ggX10_comesBack_X10_told
set_option maxRecDepth 20000 in
theorem ggX10_comesBack_X10_down : GoodIn wsX10_comesBack wsX10_down := goodIn_r _ [23] (by decide +kernel) (by decide +kernel)
set_option maxRecDepth 20000 in
theorem gX10_comesBack_X10_down : GoodIn wsX10_comesBack (va_wsS RX10 104 yX10_down wsX10_down) := goodIn_app (goodIn_of _ (by decide +kernel)) ggX10_comesBack_X10_down
set_option maxRecDepth 20000 in
theorem ggX10_comesBack_X10_clip : GoodIn wsX10_comesBack wsX10_clip := goodIn_r _ [64] (by decide +kernel) (by decide +kernel)
set_option maxRecDepth 20000 in
theorem gX10_comesBack_X10_clip : GoodIn wsX10_comesBack (va_wsS RX10 119 yX10_clip wsX10_clip) := goodIn_app (goodIn_of _ (by decide +kernel)) ggX10_comesBack_X10_clip
set_option maxRecDepth 20000 in
theorem ggX10_costOf_X10_givenAt : GoodIn wsX10_costOf wsX10_givenAt := goodIn_r _ [5, 6, 7, 50, 51, 52, 53, 54, 55, 56, 57, 58, 59, 60, 61, 62, 63, 64, 65, 66, 67] (by decide +kernel) (by decide +kernel)
set_option maxRecDepth 20000 in
theorem gX10_costOf_X10_givenAt : GoodIn wsX10_costOf (wsV RX10 122 RX10 yX10_givenAt wsX10_givenAt) := goodIn_app (goodIn_of _ (by decide +kernel)) ggX10_costOf_X10_givenAt
set_option maxRecDepth 20000 in
theorem ggX10_costOf_X10_told : GoodIn wsX10_costOf wsX10_told := goodIn_r _ [11, 12, 13, 14, 4, 15, 7, 16, 17, 18, 19, 20, 21, 22, 23, 24, 25, 26, 27, 28, 29, 30, 31, 32, 33, 34, 35, 36, 37, 38, 39, 40, 41, 42, 43, 44, 45, 46, 50, 51, 52, 53, 54, 55, 56, 57, 58, 59, 60, 61, 62, 63, 64, 65, 66, 67] (by decide +kernel) (by decide +kernel)
set_option maxRecDepth 20000 in
theorem gX10_costOf_X10_told : GoodIn wsX10_costOf (wsV RX10 116 RX10 yX10_told wsX10_told) := goodIn_app (goodIn_of _ (by decide +kernel)) ggX10_costOf_X10_told
set_option maxRecDepth 20000 in
theorem ggX10_costOf_X10_size : GoodIn wsX10_costOf wsX10_size := goodIn_r _ [49] (by decide +kernel) (by decide +kernel)
set_option maxRecDepth 20000 in
theorem gX10_costOf_X10_size : GoodIn wsX10_costOf (va_wsS RX10 125 yX10_size wsX10_size) := goodIn_app (goodIn_of _ (by decide +kernel)) ggX10_costOf_X10_size
set_option maxRecDepth 20000 in
theorem ggX10_goForth_X10_givenAt : GoodIn wsX10_goForth wsX10_givenAt := goodIn_r _ [8, 9, 10, 69, 70, 71, 72, 73, 74, 75, 76, 77, 78, 79, 80, 81, 82, 83, 84, 85, 86] (by decide +kernel) (by decide +kernel)
set_option maxRecDepth 20000 in
theorem gX10_goForth_X10_givenAt : GoodIn wsX10_goForth (wsV RX10 122 RX10 yX10_givenAt wsX10_givenAt) := goodIn_app (goodIn_of _ (by decide +kernel)) ggX10_goForth_X10_givenAt
set_option maxRecDepth 20000 in
theorem ggX10_goForth_X10_told : GoodIn wsX10_goForth wsX10_told := goodIn_r _ [14, 15, 16, 17, 7, 18, 10, 19, 20, 21, 22, 23, 24, 25, 26, 27, 28, 29, 30, 31, 32, 33, 34, 35, 36, 37, 38, 39, 40, 41, 42, 43, 44, 45, 46, 47, 48, 49, 69, 70, 71, 72, 73, 74, 75, 76, 77, 78, 79, 80, 81, 82, 83, 84, 85, 86] (by decide +kernel) (by decide +kernel)
set_option maxRecDepth 20000 in
theorem gX10_goForth_X10_told : GoodIn wsX10_goForth (wsV RX10 116 RX10 yX10_told wsX10_told) := goodIn_app (goodIn_of _ (by decide +kernel)) ggX10_goForth_X10_told
set_option maxRecDepth 20000 in
theorem ggX10_goForth_X10_forthLine : GoodIn wsX10_goForth wsX10_forthLine := goodIn_r _ [53, 1, 69, 70, 71, 72, 73, 74, 75, 76, 77, 78, 79, 80, 81, 82, 83, 84, 85, 86] (by decide +kernel) (by decide +kernel)
set_option maxRecDepth 20000 in
theorem gX10_goForth_X10_forthLine : GoodIn wsX10_goForth (wsV RX10 128 RX10 yX10_forthLine wsX10_forthLine) := goodIn_app (goodIn_of _ (by decide +kernel)) ggX10_goForth_X10_forthLine
set_option maxRecDepth 20000 in
theorem ggX10_goForth_X10_placeOf : GoodIn wsX10_goForth wsX10_placeOf := goodIn_r _ [56] (by decide +kernel) (by decide +kernel)
set_option maxRecDepth 20000 in
theorem gX10_goForth_X10_placeOf : GoodIn wsX10_goForth (va_wsS RX10 106 yX10_placeOf wsX10_placeOf) := goodIn_app (goodIn_of _ (by decide +kernel)) ggX10_goForth_X10_placeOf
set_option maxRecDepth 20000 in
theorem ggX10_goForth_X10_size : GoodIn wsX10_goForth wsX10_size := goodIn_r _ [59] (by decide +kernel) (by decide +kernel)
set_option maxRecDepth 20000 in
theorem gX10_goForth_X10_size : GoodIn wsX10_goForth (va_wsS RX10 125 yX10_size wsX10_size) := goodIn_app (goodIn_of _ (by decide +kernel)) ggX10_goForth_X10_size
set_option maxRecDepth 20000 in
theorem ggX10_goForth_X10_forthBy : GoodIn wsX10_goForth wsX10_forthBy := goodIn_r _ [62, 63, 64, 7, 65, 66, 67, 68] (by decide +kernel) (by decide +kernel)
set_option maxRecDepth 20000 in
theorem gX10_goForth_X10_forthBy : GoodIn wsX10_goForth (va_wsS RX10 132 yX10_forthBy wsX10_forthBy) := goodIn_app (goodIn_of _ (by decide +kernel)) ggX10_goForth_X10_forthBy
set_option maxRecDepth 20000 in
theorem ggX10_smooth_X10_size : GoodIn wsX10_smooth wsX10_size := goodIn_r _ [6] (by decide +kernel) (by decide +kernel)
set_option maxRecDepth 20000 in
theorem gX10_smooth_X10_size : GoodIn wsX10_smooth (va_wsS RX10 125 yX10_size wsX10_size) := goodIn_app (goodIn_of _ (by decide +kernel)) ggX10_smooth_X10_size
set_option maxRecDepth 20000 in
theorem ggX10_smooth_X10_down : GoodIn wsX10_smooth wsX10_down := goodIn_r _ [9] (by decide +kernel) (by decide +kernel)
set_option maxRecDepth 20000 in
theorem gX10_smooth_X10_down : GoodIn wsX10_smooth (va_wsS RX10 104 yX10_down wsX10_down) := goodIn_app (goodIn_of _ (by decide +kernel)) ggX10_smooth_X10_down
set_option maxRecDepth 20000 in
theorem ggX10_smooth_X10_clip : GoodIn wsX10_smooth wsX10_clip := goodIn_r _ [12] (by decide +kernel) (by decide +kernel)
set_option maxRecDepth 20000 in
theorem gX10_smooth_X10_clip : GoodIn wsX10_smooth (va_wsS RX10 119 yX10_clip wsX10_clip) := goodIn_app (goodIn_of _ (by decide +kernel)) ggX10_smooth_X10_clip
set_option maxRecDepth 20000 in
theorem ggX10_smoothAll_X10_smooth : GoodIn wsX10_smoothAll wsX10_smooth := goodIn_r _ [7, 8, 9, 10, 11, 6, 12, 13, 14, 15, 16, 17, 18, 19, 20, 21, 22, 23, 24, 25, 26, 27, 28, 29, 30, 31, 32, 33, 34, 35, 36] (by decide +kernel) (by decide +kernel)
set_option maxRecDepth 20000 in
theorem gX10_smoothAll_X10_smooth : GoodIn wsX10_smoothAll (wsV RX10 135 RX10 yX10_smooth wsX10_smooth) := goodIn_app (goodIn_of _ (by decide +kernel)) ggX10_smoothAll_X10_smooth
set_option maxRecDepth 20000 in
theorem ggX10_writeU_X10_write : GoodIn wsX10_writeU wsX10_write := goodIn_r _ [5, 6, 7, 8, 9, 10, 11, 12, 13, 14, 15, 16, 17, 18, 19, 20, 21, 22, 23, 24, 25] (by decide +kernel) (by decide +kernel)
set_option maxRecDepth 20000 in
theorem gX10_writeU_X10_write : GoodIn wsX10_writeU (wsV RX10 141 RX10 yX10_write wsX10_write) := goodIn_app (goodIn_of _ (by decide +kernel)) ggX10_writeU_X10_write
set_option maxRecDepth 20000 in
theorem ggX10_writeS_X10_writeU : GoodIn wsX10_writeS wsX10_writeU := goodIn_r _ [5, 6, 7, 8, 4, 9, 10, 11, 12, 13, 14, 15, 16, 17, 18, 19, 20, 21, 22, 23, 24, 25, 26, 27, 28, 29] (by decide +kernel) (by decide +kernel)
set_option maxRecDepth 20000 in
theorem gX10_writeS_X10_writeU : GoodIn wsX10_writeS (wsV RX10 144 RX10 yX10_writeU wsX10_writeU) := goodIn_app (goodIn_of _ (by decide +kernel)) ggX10_writeS_X10_writeU
set_option maxRecDepth 20000 in
theorem ggX10_likely_X10_hasAbove : GoodIn wsX10_likely wsX10_hasAbove := goodIn_r _ [6, 1, 11, 12, 13, 14, 15, 16, 17, 18, 19, 20, 21, 22, 23, 24, 25, 26, 27, 28] (by decide +kernel) (by decide +kernel)
set_option maxRecDepth 20000 in
theorem gX10_likely_X10_hasAbove : GoodIn wsX10_likely (wsV RX10 72 RX10 yX10_hasAbove wsX10_hasAbove) := goodIn_app (goodIn_of _ (by decide +kernel)) ggX10_likely_X10_hasAbove
set_option maxRecDepth 20000 in
theorem ggX10_likely_X10_hasLeft : GoodIn wsX10_likely wsX10_hasLeft := goodIn_r _ [10, 1, 11, 12, 13, 14, 15, 16, 17, 18, 19, 20, 21, 22, 23, 24, 25, 26, 27, 28] (by decide +kernel) (by decide +kernel)
set_option maxRecDepth 20000 in
theorem gX10_likely_X10_hasLeft : GoodIn wsX10_likely (wsV RX10 76 RX10 yX10_hasLeft wsX10_hasLeft) := goodIn_app (goodIn_of _ (by decide +kernel)) ggX10_likely_X10_hasLeft
set_option maxRecDepth 20000 in
theorem ggX10_writeBlock_X10_likely : GoodIn wsX10_writeBlock wsX10_likely := goodIn_r _ [7, 8, 9, 10, 11, 6, 12, 13, 14, 15, 16, 31, 32, 33, 34, 35, 36, 37, 38, 39, 40, 41, 42, 43, 44, 45, 46, 47, 48] (by decide +kernel) (by decide +kernel)
set_option maxRecDepth 20000 in
theorem gX10_writeBlock_X10_likely : GoodIn wsX10_writeBlock (wsV RX10 148 RX10 yX10_likely wsX10_likely) := goodIn_app (goodIn_of _ (by decide +kernel)) ggX10_writeBlock_X10_likely
set_option maxRecDepth 20000 in
theorem ggX10_writeBlock_X10_write : GoodIn wsX10_writeBlock wsX10_write := goodIn_r _ [20, 21, 22, 31, 32, 33, 34, 35, 36, 37, 38, 39, 40, 41, 42, 43, 44, 45, 46, 47, 48] (by decide +kernel) (by decide +kernel)
set_option maxRecDepth 20000 in
theorem gX10_writeBlock_X10_write : GoodIn wsX10_writeBlock (wsV RX10 141 RX10 yX10_write wsX10_write) := goodIn_app (goodIn_of _ (by decide +kernel)) ggX10_writeBlock_X10_write
set_option maxRecDepth 20000 in
theorem ggX10_writeBlock_X10_writeU : GoodIn wsX10_writeBlock wsX10_writeU := goodIn_r _ [26, 17, 18, 19, 6, 20, 21, 22, 31, 32, 33, 34, 35, 36, 37, 38, 39, 40, 41, 42, 43, 44, 45, 46, 47, 48] (by decide +kernel) (by decide +kernel)
set_option maxRecDepth 20000 in
theorem gX10_writeBlock_X10_writeU : GoodIn wsX10_writeBlock (wsV RX10 144 RX10 yX10_writeU wsX10_writeU) := goodIn_app (goodIn_of _ (by decide +kernel)) ggX10_writeBlock_X10_writeU
set_option maxRecDepth 20000 in
theorem ggX10_writeBlock_X10_writeS : GoodIn wsX10_writeBlock wsX10_writeS := goodIn_r _ [30, 23, 24, 25, 6, 26, 17, 18, 19, 20, 21, 22, 31, 32, 33, 34, 35, 36, 37, 38, 39, 40, 41, 42, 43, 44, 45, 46, 47, 48] (by decide +kernel) (by decide +kernel)
set_option maxRecDepth 20000 in
theorem gX10_writeBlock_X10_writeS : GoodIn wsX10_writeBlock (wsV RX10 152 RX10 yX10_writeS wsX10_writeS) := goodIn_app (goodIn_of _ (by decide +kernel)) ggX10_writeBlock_X10_writeS
set_option maxRecDepth 20000 in
theorem ggX10_pack_X10_within : GoodIn wsX10_pack wsX10_within := goodIn_r _ [14] (by decide +kernel) (by decide +kernel)
set_option maxRecDepth 20000 in
theorem gX10_pack_X10_within : GoodIn wsX10_pack (va_wsS RX10 50 yX10_within wsX10_within) := goodIn_app (goodIn_of _ (by decide +kernel)) ggX10_pack_X10_within
set_option maxRecDepth 20000 in
theorem ggX10_pack_X10_fails : GoodIn wsX10_pack wsX10_fails := goodIn_r _ [18, 19, 141, 142, 143, 144, 145, 146, 147, 148, 149, 150, 151, 152, 153, 154, 155, 156, 157, 158] (by decide +kernel) (by decide +kernel)
set_option maxRecDepth 20000 in
theorem gX10_pack_X10_fails : GoodIn wsX10_pack (wsV RX10 54 RX10 yX10_fails wsX10_fails) := goodIn_app (goodIn_of _ (by decide +kernel)) ggX10_pack_X10_fails
set_option maxRecDepth 20000 in
theorem ggX10_pack_X10_writeU : GoodIn wsX10_pack wsX10_writeU := goodIn_r _ [23, 24, 25, 26, 13, 27, 5, 28, 141, 142, 143, 144, 145, 146, 147, 148, 149, 150, 151, 152, 153, 154, 155, 156, 157, 158] (by decide +kernel) (by decide +kernel)
set_option maxRecDepth 20000 in
theorem gX10_pack_X10_writeU : GoodIn wsX10_pack (wsV RX10 144 RX10 yX10_writeU wsX10_writeU) := goodIn_app (goodIn_of _ (by decide +kernel)) ggX10_pack_X10_writeU
set_option maxRecDepth 20000 in
theorem ggX10_pack_X10_write : GoodIn wsX10_pack wsX10_write := goodIn_r _ [27, 5, 28, 141, 142, 143, 144, 145, 146, 147, 148, 149, 150, 151, 152, 153, 154, 155, 156, 157, 158] (by decide +kernel) (by decide +kernel)
set_option maxRecDepth 20000 in
theorem gX10_pack_X10_write : GoodIn wsX10_pack (wsV RX10 141 RX10 yX10_write wsX10_write) := goodIn_app (goodIn_of _ (by decide +kernel)) ggX10_pack_X10_write
set_option maxRecDepth 20000 in
theorem ggX10_pack_X10_may : GoodIn wsX10_pack wsX10_may := goodIn_r _ [32, 33, 34, 35, 13, 36, 6, 37, 38, 39, 40, 141, 142, 143, 144, 145, 146, 147, 148, 149, 150, 151, 152, 153, 154, 155, 156, 157, 158] (by decide +kernel) (by decide +kernel)
set_option maxRecDepth 20000 in
theorem gX10_pack_X10_may : GoodIn wsX10_pack (wsV RX10 155 RX10 yX10_may wsX10_may) := goodIn_app (goodIn_of _ (by decide +kernel)) ggX10_pack_X10_may
set_option maxRecDepth 20000 in
theorem ggX10_pack_X10_costOf : GoodIn wsX10_pack wsX10_costOf := goodIn_r _ [44, 45, 46, 47, 13, 48, 3, 6, 49, 50, 51, 52, 53, 54, 55, 56, 4, 57, 58, 59, 60, 61, 62, 63, 64, 33, 34, 35, 36, 37, 38, 39, 40, 65, 66, 67, 68, 69, 70, 71, 72, 73, 74, 75, 76, 77, 78, 79, 80, 81, 141, 142, 143, 144, 145, 146, 147, 148, 149, 150, 151, 152, 153, 154, 155, 156, 157, 158] (by decide +kernel) (by decide +kernel)
set_option maxRecDepth 20000 in
theorem gX10_pack_X10_costOf : GoodIn wsX10_pack (wsV RX10 159 RX10 yX10_costOf wsX10_costOf) := goodIn_app (goodIn_of _ (by decide +kernel)) ggX10_pack_X10_costOf
set_option maxRecDepth 20000 in
theorem ggX10_pack_X10_goForth : GoodIn wsX10_pack wsX10_goForth := goodIn_r _ [85, 86, 87, 9, 45, 46, 47, 13, 48, 3, 6, 49, 50, 51, 52, 53, 54, 55, 56, 4, 57, 58, 59, 60, 61, 62, 63, 64, 33, 34, 35, 36, 37, 38, 39, 40, 65, 66, 67, 68, 69, 70, 71, 72, 73, 74, 75, 76, 77, 78, 88, 89, 90, 91, 92, 93, 94, 79, 80, 81, 95, 96, 97, 98, 99, 100, 101, 102, 103, 141, 142, 143, 144, 145, 146, 147, 148, 149, 150, 151, 152, 153, 154, 155, 156, 157, 158] (by decide +kernel) (by decide +kernel)
set_option maxRecDepth 20000 in
theorem gX10_pack_X10_goForth : GoodIn wsX10_pack (wsV RX10 162 RX10 yX10_goForth wsX10_goForth) := goodIn_app (goodIn_of _ (by decide +kernel)) ggX10_pack_X10_goForth
set_option maxRecDepth 20000 in
theorem ggX10_pack_X10_comesBack : GoodIn wsX10_pack wsX10_comesBack := goodIn_r _ [107, 86, 4, 6, 92, 93, 13, 94, 108, 109, 110, 98, 99, 100, 101, 102, 103, 111, 112, 113, 114, 115, 116, 117, 49, 50, 51, 52, 53, 54, 55, 56, 57, 58, 59, 60, 61, 62, 63, 64, 33, 34, 35, 36, 37, 38, 39, 40, 65, 66, 67, 68, 69, 70, 71, 72, 73, 74, 75, 76, 77, 78, 118, 119, 120, 141, 142, 143, 144, 145, 146, 147, 148, 149, 150, 151, 152, 153, 154, 155, 156, 157, 158] (by decide +kernel) (by decide +kernel)
set_option maxRecDepth 20000 in
theorem gX10_pack_X10_comesBack : GoodIn wsX10_pack (wsV RX10 166 RX10 yX10_comesBack wsX10_comesBack) := goodIn_app (goodIn_of _ (by decide +kernel)) ggX10_pack_X10_comesBack
set_option maxRecDepth 20000 in
theorem ggX10_pack_X10_writeBlock : GoodIn wsX10_pack wsX10_writeBlock := goodIn_r _ [124, 8, 9, 125, 126, 127, 13, 128, 6, 33, 34, 35, 36, 37, 38, 39, 40, 24, 25, 26, 27, 5, 28, 20, 21, 22, 23, 129, 130, 131, 132, 141, 142, 143, 144, 145, 146, 147, 148, 149, 150, 151, 152, 153, 154, 155, 156, 157, 158] (by decide +kernel) (by decide +kernel)
set_option maxRecDepth 20000 in
theorem gX10_pack_X10_writeBlock : GoodIn wsX10_pack (wsV RX10 170 RX10 yX10_writeBlock wsX10_writeBlock) := goodIn_app (goodIn_of _ (by decide +kernel)) ggX10_pack_X10_writeBlock
set_option maxRecDepth 20000 in
theorem ggX10_pack_X10_smoothAll : GoodIn wsX10_pack wsX10_smoothAll := goodIn_r _ [136, 6, 7, 137, 138, 139, 13, 140, 4, 1, 79, 80, 81, 115, 116, 117, 118, 119, 120, 141, 142, 143, 144, 145, 146, 147, 148, 149, 150, 151, 152, 153, 154, 155, 156, 157, 158] (by decide +kernel) (by decide +kernel)
set_option maxRecDepth 20000 in
theorem gX10_pack_X10_smoothAll : GoodIn wsX10_pack (wsV RX10 173 RX10 yX10_smoothAll wsX10_smoothAll) := goodIn_app (goodIn_of _ (by decide +kernel)) ggX10_pack_X10_smoothAll
set_option maxRecDepth 20000 in
theorem ggX10_read_X10_stop : GoodIn wsX10_read wsX10_stop := goodIn_r _ [9, 1, 10, 11, 12, 13, 14, 15, 16, 17, 18, 19, 20, 21, 22, 23, 24, 25, 26, 27, 28] (by decide +kernel) (by decide +kernel)
set_option maxRecDepth 20000 in
theorem gX10_read_X10_stop : GoodIn wsX10_read (wsV RX10 181 RX10 yX10_stop wsX10_stop) := goodIn_app (goodIn_of _ (by decide +kernel)) ggX10_read_X10_stop
set_option maxRecDepth 20000 in
theorem ggX10_readU_X10_read : GoodIn wsX10_readU wsX10_read := goodIn_r _ [7, 2, 1, 8, 9, 10, 11, 12, 6, 13, 14, 15, 16, 17, 18, 19, 20, 21, 22, 23, 24, 25, 26, 27, 28, 29, 30, 31, 32] (by decide +kernel) (by decide +kernel)
set_option maxRecDepth 20000 in
theorem gX10_readU_X10_read : GoodIn wsX10_readU (wsV RX10 184 RX10 yX10_read wsX10_read) := goodIn_app (goodIn_of _ (by decide +kernel)) ggX10_readU_X10_read
set_option maxRecDepth 20000 in
theorem ggX10_readU_X10_stop : GoodIn wsX10_readU wsX10_stop := goodIn_r _ [13, 2, 14, 15, 16, 17, 18, 19, 20, 21, 22, 23, 24, 25, 26, 27, 28, 29, 30, 31, 32] (by decide +kernel) (by decide +kernel)
set_option maxRecDepth 20000 in
theorem gX10_readU_X10_stop : GoodIn wsX10_readU (wsV RX10 181 RX10 yX10_stop wsX10_stop) := goodIn_app (goodIn_of _ (by decide +kernel)) ggX10_readU_X10_stop
set_option maxRecDepth 20000 in
theorem ggX10_readBlock_X10_likely : GoodIn wsX10_readBlock wsX10_likely := goodIn_r _ [9, 10, 11, 12, 13, 8, 14, 15, 16, 17, 18, 41, 42, 43, 44, 45, 46, 47, 48, 49, 50, 51, 52, 53, 54, 55, 56, 57, 58] (by decide +kernel) (by decide +kernel)
set_option maxRecDepth 20000 in
theorem gX10_readBlock_X10_likely : GoodIn wsX10_readBlock (wsV RX10 148 RX10 yX10_likely wsX10_likely) := goodIn_app (goodIn_of _ (by decide +kernel)) ggX10_readBlock_X10_likely
set_option maxRecDepth 20000 in
theorem ggX10_readBlock_X10_read : GoodIn wsX10_readBlock wsX10_read := goodIn_r _ [22, 3, 2, 23, 24, 25, 26, 27, 8, 28, 29, 41, 42, 43, 44, 45, 46, 47, 48, 49, 50, 51, 52, 53, 54, 55, 56, 57, 58] (by decide +kernel) (by decide +kernel)
set_option maxRecDepth 20000 in
theorem gX10_readBlock_X10_read : GoodIn wsX10_readBlock (wsV RX10 184 RX10 yX10_read wsX10_read) := goodIn_app (goodIn_of _ (by decide +kernel)) ggX10_readBlock_X10_read
set_option maxRecDepth 20000 in
theorem ggX10_readBlock_X10_may : GoodIn wsX10_readBlock wsX10_may := goodIn_r _ [33, 11, 12, 13, 8, 14, 10, 15, 16, 17, 18, 41, 42, 43, 44, 45, 46, 47, 48, 49, 50, 51, 52, 53, 54, 55, 56, 57, 58] (by decide +kernel) (by decide +kernel)
set_option maxRecDepth 20000 in
theorem gX10_readBlock_X10_may : GoodIn wsX10_readBlock (wsV RX10 155 RX10 yX10_may wsX10_may) := goodIn_app (goodIn_of _ (by decide +kernel)) ggX10_readBlock_X10_may
set_option maxRecDepth 20000 in
theorem ggX10_readBlock_X10_stop : GoodIn wsX10_readBlock wsX10_stop := goodIn_r _ [28, 3, 29, 41, 42, 43, 44, 45, 46, 47, 48, 49, 50, 51, 52, 53, 54, 55, 56, 57, 58] (by decide +kernel) (by decide +kernel)
set_option maxRecDepth 20000 in
theorem gX10_readBlock_X10_stop : GoodIn wsX10_readBlock (wsV RX10 181 RX10 yX10_stop wsX10_stop) := goodIn_app (goodIn_of _ (by decide +kernel)) ggX10_readBlock_X10_stop
set_option maxRecDepth 20000 in
theorem ggX10_readBlock_X10_readU : GoodIn wsX10_readBlock wsX10_readU := goodIn_r _ [37, 2, 3, 19, 20, 21, 8, 22, 23, 24, 25, 26, 27, 28, 29, 41, 42, 43, 44, 45, 46, 47, 48, 49, 50, 51, 52, 53, 54, 55, 56, 57, 58] (by decide +kernel) (by decide +kernel)
set_option maxRecDepth 20000 in
theorem gX10_readBlock_X10_readU : GoodIn wsX10_readBlock (wsV RX10 187 RX10 yX10_readU wsX10_readU) := goodIn_app (goodIn_of _ (by decide +kernel)) ggX10_readBlock_X10_readU
set_option maxRecDepth 20000 in
theorem ggX10_readBlock_X10_size : GoodIn wsX10_readBlock wsX10_size := goodIn_r _ [40] (by decide +kernel) (by decide +kernel)
set_option maxRecDepth 20000 in
theorem gX10_readBlock_X10_size : GoodIn wsX10_readBlock (va_wsS RX10 125 yX10_size wsX10_size) := goodIn_app (goodIn_of _ (by decide +kernel)) ggX10_readBlock_X10_size
set_option maxRecDepth 20000 in
theorem ggX10_header_X10_readU : GoodIn wsX10_header wsX10_readU := goodIn_r _ [7, 1, 2, 8, 9, 10, 6, 11, 12, 13, 14, 15, 16, 17, 18, 19, 20, 21, 22, 23, 24, 25, 26, 27, 28, 29, 30, 31, 32, 33, 34, 35, 36] (by decide +kernel) (by decide +kernel)
set_option maxRecDepth 20000 in
theorem gX10_header_X10_readU : GoodIn wsX10_header (wsV RX10 187 RX10 yX10_readU wsX10_readU) := goodIn_app (goodIn_of _ (by decide +kernel)) ggX10_header_X10_readU
set_option maxRecDepth 20000 in
theorem ggX10_header_X10_stop : GoodIn wsX10_header wsX10_stop := goodIn_r _ [17, 2, 18, 19, 20, 21, 22, 23, 24, 25, 26, 27, 28, 29, 30, 31, 32, 33, 34, 35, 36] (by decide +kernel) (by decide +kernel)
set_option maxRecDepth 20000 in
theorem gX10_header_X10_stop : GoodIn wsX10_header (wsV RX10 181 RX10 yX10_stop wsX10_stop) := goodIn_app (goodIn_of _ (by decide +kernel)) ggX10_header_X10_stop
set_option maxRecDepth 20000 in
theorem ggX10_readAll_X10_header : GoodIn wsX10_readAll wsX10_header := goodIn_r _ [14, 4, 6, 15, 16, 17, 13, 18, 19, 20, 21, 22, 9, 23, 24, 25, 26, 27, 28, 110, 111, 112, 113, 114, 115, 116, 117, 118, 119, 120, 121, 122, 123, 124, 125, 126, 127] (by decide +kernel) (by decide +kernel)
set_option maxRecDepth 20000 in
theorem gX10_readAll_X10_header : GoodIn wsX10_readAll (wsV RX10 191 RX10 yX10_header wsX10_header) := goodIn_app (goodIn_of _ (by decide +kernel)) ggX10_readAll_X10_header
set_option maxRecDepth 20000 in
theorem ggX10_readAll_X10_read : GoodIn wsX10_readAll wsX10_read := goodIn_r _ [22, 6, 4, 9, 23, 24, 25, 26, 13, 27, 28, 110, 111, 112, 113, 114, 115, 116, 117, 118, 119, 120, 121, 122, 123, 124, 125, 126, 127] (by decide +kernel) (by decide +kernel)
set_option maxRecDepth 20000 in
theorem gX10_readAll_X10_read : GoodIn wsX10_readAll (wsV RX10 184 RX10 yX10_read wsX10_read) := goodIn_app (goodIn_of _ (by decide +kernel)) ggX10_readAll_X10_read
set_option maxRecDepth 20000 in
theorem ggX10_readAll_X10_readBlock : GoodIn wsX10_readAll wsX10_readBlock := goodIn_r _ [32, 7, 4, 6, 8, 33, 34, 35, 13, 36, 1, 37, 38, 39, 40, 41, 42, 43, 44, 19, 20, 21, 22, 9, 23, 24, 25, 26, 27, 28, 45, 46, 47, 48, 15, 16, 17, 18, 49, 50, 51, 110, 111, 112, 113, 114, 115, 116, 117, 118, 119, 120, 121, 122, 123, 124, 125, 126, 127] (by decide +kernel) (by decide +kernel)
set_option maxRecDepth 20000 in
theorem gX10_readAll_X10_readBlock : GoodIn wsX10_readAll (wsV RX10 194 RX10 yX10_readBlock wsX10_readBlock) := goodIn_app (goodIn_of _ (by decide +kernel)) ggX10_readAll_X10_readBlock
set_option maxRecDepth 20000 in
theorem ggX10_readAll_X10_comesBack : GoodIn wsX10_readAll wsX10_comesBack := goodIn_r _ [55, 56, 57, 1, 58, 59, 13, 60, 61, 62, 63, 64, 65, 66, 67, 68, 69, 70, 71, 72, 73, 74, 75, 76, 77, 78, 79, 80, 81, 82, 83, 84, 85, 86, 87, 88, 89, 90, 91, 92, 37, 38, 39, 40, 41, 42, 43, 44, 93, 94, 95, 96, 97, 98, 99, 100, 101, 102, 103, 104, 105, 106, 107, 108, 109, 110, 111, 112, 113, 114, 115, 116, 117, 118, 119, 120, 121, 122, 123, 124, 125, 126, 127] (by decide +kernel) (by decide +kernel)
set_option maxRecDepth 20000 in
theorem gX10_readAll_X10_comesBack : GoodIn wsX10_readAll (wsV RX10 166 RX10 yX10_comesBack wsX10_comesBack) := goodIn_app (goodIn_of _ (by decide +kernel)) ggX10_readAll_X10_comesBack
set_option maxRecDepth 20000 in
theorem ggX10_readAll_X10_stop : GoodIn wsX10_readAll wsX10_stop := goodIn_r _ [27, 6, 28, 110, 111, 112, 113, 114, 115, 116, 117, 118, 119, 120, 121, 122, 123, 124, 125, 126, 127] (by decide +kernel) (by decide +kernel)
set_option maxRecDepth 20000 in
theorem gX10_readAll_X10_stop : GoodIn wsX10_readAll (wsV RX10 181 RX10 yX10_stop wsX10_stop) := goodIn_app (goodIn_of _ (by decide +kernel)) ggX10_readAll_X10_stop
set_option maxRecDepth 20000 in
theorem ggX10_unpack_X10_readAll : GoodIn wsX10_unpack wsX10_readAll := goodIn_r _ [19, 2, 3, 4, 8, 5, 9, 12, 14, 20, 21, 22, 23, 18, 24, 25, 26, 27, 28, 29, 30, 31, 32, 33, 34, 35, 36, 37, 10, 38, 39, 40, 41, 42, 43, 44, 45, 46, 47, 48, 49, 50, 51, 52, 53, 54, 55, 56, 57, 58, 59, 60, 61, 62, 63, 64, 65, 7, 66, 67, 68, 69, 70, 71, 72, 73, 74, 75, 76, 77, 78, 79, 80, 81, 82, 83, 84, 85, 86, 87, 88, 89, 90, 91, 92, 93, 94, 95, 96, 97, 98, 99, 100, 101, 102, 103, 104, 105, 106, 107, 108, 109, 110, 111, 112, 113, 114, 115, 116, 117, 126, 127, 128, 129, 130, 131, 132, 133, 134, 135, 136, 137, 138, 139, 140, 141, 142, 143] (by decide +kernel) (by decide +kernel)
set_option maxRecDepth 20000 in
theorem gX10_unpack_X10_readAll : GoodIn wsX10_unpack (wsV RX10 197 RX10 yX10_readAll wsX10_readAll) := goodIn_app (goodIn_of _ (by decide +kernel)) ggX10_unpack_X10_readAll
set_option maxRecDepth 20000 in
theorem ggX10_unpack_X10_smoothAll : GoodIn wsX10_unpack wsX10_smoothAll := goodIn_r _ [121, 2, 3, 122, 123, 124, 18, 125, 7, 4, 58, 59, 60, 82, 83, 84, 115, 116, 117, 126, 127, 128, 129, 130, 131, 132, 133, 134, 135, 136, 137, 138, 139, 140, 141, 142, 143] (by decide +kernel) (by decide +kernel)
set_option maxRecDepth 20000 in
theorem gX10_unpack_X10_smoothAll : GoodIn wsX10_unpack (wsV RX10 173 RX10 yX10_smoothAll wsX10_smoothAll) := goodIn_app (goodIn_of _ (by decide +kernel)) ggX10_unpack_X10_smoothAll
set_option maxRecDepth 20000 in
theorem ggX10_feed_X10_fails : GoodIn wsX10_feed wsX10_fails := goodIn_r _ [7, 8, 9, 10, 11, 12, 13, 14, 15, 16, 17, 18, 19, 20, 21, 22, 23, 24, 25, 26] (by decide +kernel) (by decide +kernel)
set_option maxRecDepth 20000 in
theorem gX10_feed_X10_fails : GoodIn wsX10_feed (wsV RX10 54 RX10 yX10_fails wsX10_fails) := goodIn_app (goodIn_of _ (by decide +kernel)) ggX10_feed_X10_fails
set_option maxRecDepth 20000 in
theorem ggX10_end_X10_fails : GoodIn wsX10_end wsX10_fails := goodIn_r _ [6, 7, 8, 9, 10, 11, 12, 13, 14, 15, 16, 17, 18, 19, 20, 21, 22, 23, 24, 25] (by decide +kernel) (by decide +kernel)
set_option maxRecDepth 20000 in
theorem gX10_end_X10_fails : GoodIn wsX10_end (wsV RX10 54 RX10 yX10_fails wsX10_fails) := goodIn_app (goodIn_of _ (by decide +kernel)) ggX10_end_X10_fails
set_option maxRecDepth 20000 in
theorem ggX10_alter_X10_fails : GoodIn wsX10_alter wsX10_fails := goodIn_r _ [7, 8, 9, 10, 11, 12, 13, 14, 15, 16, 17, 18, 19, 20, 21, 22, 23, 24, 25, 26] (by decide +kernel) (by decide +kernel)
set_option maxRecDepth 20000 in
theorem gX10_alter_X10_fails : GoodIn wsX10_alter (wsV RX10 54 RX10 yX10_fails wsX10_fails) := goodIn_app (goodIn_of _ (by decide +kernel)) ggX10_alter_X10_fails
set_option maxRecDepth 20000 in
theorem ggX10_block_X10_within : GoodIn wsX10_block wsX10_within := goodIn_r _ [8] (by decide +kernel) (by decide +kernel)
set_option maxRecDepth 20000 in
theorem gX10_block_X10_within : GoodIn wsX10_block (va_wsS RX10 50 yX10_within wsX10_within) := goodIn_app (goodIn_of _ (by decide +kernel)) ggX10_block_X10_within
set_option maxRecDepth 20000 in
theorem ggX10_block_X10_fails : GoodIn wsX10_block wsX10_fails := goodIn_r _ [12, 13, 14, 15, 16, 17, 18, 19, 20, 21, 22, 23, 24, 25, 26, 27, 28, 29, 30, 31] (by decide +kernel) (by decide +kernel)
set_option maxRecDepth 20000 in
theorem gX10_block_X10_fails : GoodIn wsX10_block (wsV RX10 54 RX10 yX10_fails wsX10_fails) := goodIn_app (goodIn_of _ (by decide +kernel)) ggX10_block_X10_fails
set_option maxRecDepth 20000 in
theorem ggX10_foretold_X10_within : GoodIn wsX10_foretold wsX10_within := goodIn_r _ [6] (by decide +kernel) (by decide +kernel)
set_option maxRecDepth 20000 in
theorem gX10_foretold_X10_within : GoodIn wsX10_foretold (va_wsS RX10 50 yX10_within wsX10_within) := goodIn_app (goodIn_of _ (by decide +kernel)) ggX10_foretold_X10_within
set_option maxRecDepth 20000 in
theorem ggX10_foretold_X10_fails : GoodIn wsX10_foretold wsX10_fails := goodIn_r _ [10, 11, 55, 56, 57, 58, 59, 60, 61, 62, 63, 64, 65, 66, 67, 68, 69, 70, 71, 72] (by decide +kernel) (by decide +kernel)
set_option maxRecDepth 20000 in
theorem gX10_foretold_X10_fails : GoodIn wsX10_foretold (wsV RX10 54 RX10 yX10_fails wsX10_fails) := goodIn_app (goodIn_of _ (by decide +kernel)) ggX10_foretold_X10_fails
set_option maxRecDepth 20000 in
theorem ggX10_foretold_X10_may : GoodIn wsX10_foretold wsX10_may := goodIn_r _ [15, 16, 17, 18, 5, 19, 1, 20, 21, 22, 23, 55, 56, 57, 58, 59, 60, 61, 62, 63, 64, 65, 66, 67, 68, 69, 70, 71, 72] (by decide +kernel) (by decide +kernel)
set_option maxRecDepth 20000 in
theorem gX10_foretold_X10_may : GoodIn wsX10_foretold (wsV RX10 155 RX10 yX10_may wsX10_may) := goodIn_app (goodIn_of _ (by decide +kernel)) ggX10_foretold_X10_may
set_option maxRecDepth 20000 in
theorem ggX10_foretold_X10_told : GoodIn wsX10_foretold wsX10_told := goodIn_r _ [27, 28, 29, 30, 5, 31, 1, 32, 33, 34, 35, 36, 37, 38, 39, 40, 16, 17, 18, 19, 20, 21, 22, 23, 41, 42, 43, 44, 45, 46, 47, 48, 49, 50, 51, 52, 53, 54, 55, 56, 57, 58, 59, 60, 61, 62, 63, 64, 65, 66, 67, 68, 69, 70, 71, 72] (by decide +kernel) (by decide +kernel)
set_option maxRecDepth 20000 in
theorem gX10_foretold_X10_told : GoodIn wsX10_foretold (wsV RX10 116 RX10 yX10_told wsX10_told) := goodIn_app (goodIn_of _ (by decide +kernel)) ggX10_foretold_X10_told
set_option maxRecDepth 20000 in
theorem ggX10_about_X10_within : GoodIn wsX10_about wsX10_within := goodIn_r _ [9] (by decide +kernel) (by decide +kernel)
set_option maxRecDepth 20000 in
theorem gX10_about_X10_within : GoodIn wsX10_about (va_wsS RX10 50 yX10_within wsX10_within) := goodIn_app (goodIn_of _ (by decide +kernel)) ggX10_about_X10_within
set_option maxRecDepth 20000 in
theorem ggX10_about_X10_fails : GoodIn wsX10_about wsX10_fails := goodIn_r _ [13, 14, 15, 16, 17, 18, 19, 20, 21, 22, 23, 24, 25, 26, 27, 28, 29, 30, 31, 32] (by decide +kernel) (by decide +kernel)
set_option maxRecDepth 20000 in
theorem gX10_about_X10_fails : GoodIn wsX10_about (wsV RX10 54 RX10 yX10_fails wsX10_fails) := goodIn_app (goodIn_of _ (by decide +kernel)) ggX10_about_X10_fails
