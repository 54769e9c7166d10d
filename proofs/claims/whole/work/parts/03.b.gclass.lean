set_option maxRecDepth 20000 in
theorem ggX0_readBits_X0_left : GoodIn wsX0_readBits wsX0_left := goodIn_r _ [7, 2, 1, 20, 21, 22, 23, 24, 25] (by decide +kernel) (by decide +kernel)
set_option maxRecDepth 20000 in
theorem gX0_readBits_X0_left : GoodIn wsX0_readBits (wsV RX0 30 RX0 yX0_left wsX0_left) := goodIn_app (goodIn_of _ (by decide +kernel)) ggX0_readBits_X0_left
set_option maxRecDepth 20000 in
theorem ggX0_readBits_X0_fail : GoodIn wsX0_readBits wsX0_fail := goodIn_r _ [11, 12, 13, 20, 21, 22, 23] (by decide +kernel) (by decide +kernel)
set_option maxRecDepth 20000 in
theorem gX0_readBits_X0_fail : GoodIn wsX0_readBits (wsV RX0 34 RX0 yX0_fail wsX0_fail) := goodIn_app (goodIn_of _ (by decide +kernel)) ggX0_readBits_X0_fail
set_option maxRecDepth 20000 in
theorem ggX0_readBits_X7_bitAt : GoodIn wsX0_readBits wsX7_bitAt := goodIn_r _ [18, 19, 24, 25] (by decide +kernel) (by decide +kernel)
set_option maxRecDepth 20000 in
theorem gX0_readBits_X7_bitAt : GoodIn wsX0_readBits (wsV RX0 38 RX7 yX7_bitAt wsX7_bitAt) := goodIn_app (goodIn_of _ (by decide +kernel)) ggX0_readBits_X7_bitAt
set_option maxRecDepth 20000 in
theorem ggX0_readNumber_X0_countZeros : GoodIn wsX0_readNumber wsX0_countZeros := goodIn_r _ [6, 7, 1, 8, 9, 10, 5, 11, 12, 13, 14, 15, 16, 17, 28, 29, 30, 31, 32, 33] (by decide +kernel) (by decide +kernel)
set_option maxRecDepth 20000 in
theorem gX0_readNumber_X0_countZeros : GoodIn wsX0_readNumber (wsV RX0 42 RX0 yX0_countZeros wsX0_countZeros) := goodIn_app (goodIn_of _ (by decide +kernel)) ggX0_readNumber_X0_countZeros
set_option maxRecDepth 20000 in
theorem ggX0_readNumber_X0_left : GoodIn wsX0_readNumber wsX0_left := goodIn_r _ [11, 7, 1, 28, 29, 30, 31, 32, 33] (by decide +kernel) (by decide +kernel)
set_option maxRecDepth 20000 in
theorem gX0_readNumber_X0_left : GoodIn wsX0_readNumber (wsV RX0 30 RX0 yX0_left wsX0_left) := goodIn_app (goodIn_of _ (by decide +kernel)) ggX0_readNumber_X0_left
set_option maxRecDepth 20000 in
theorem ggX0_readNumber_X0_fail : GoodIn wsX0_readNumber wsX0_fail := goodIn_r _ [21, 22, 23, 28, 29, 30, 31] (by decide +kernel) (by decide +kernel)
set_option maxRecDepth 20000 in
theorem gX0_readNumber_X0_fail : GoodIn wsX0_readNumber (wsV RX0 34 RX0 yX0_fail wsX0_fail) := goodIn_app (goodIn_of _ (by decide +kernel)) ggX0_readNumber_X0_fail
set_option maxRecDepth 20000 in
theorem ggX0_readNumber_X0_readBits : GoodIn wsX0_readNumber wsX0_readBits := goodIn_r _ [27, 1, 7, 8, 9, 10, 5, 11, 18, 19, 20, 21, 22, 23, 12, 13, 14, 15, 16, 17, 28, 29, 30, 31, 32, 33] (by decide +kernel) (by decide +kernel)
set_option maxRecDepth 20000 in
theorem gX0_readNumber_X0_readBits : GoodIn wsX0_readNumber (wsV RX0 45 RX0 yX0_readBits wsX0_readBits) := goodIn_app (goodIn_of _ (by decide +kernel)) ggX0_readNumber_X0_readBits
set_option maxRecDepth 20000 in
theorem ggX0_countZeros_X0_left : GoodIn wsX0_countZeros wsX0_left := goodIn_r _ [7, 1, 2, 14, 15, 16, 17, 18, 19] (by decide +kernel) (by decide +kernel)
set_option maxRecDepth 20000 in
theorem gX0_countZeros_X0_left : GoodIn wsX0_countZeros (wsV RX0 30 RX0 yX0_left wsX0_left) := goodIn_app (goodIn_of _ (by decide +kernel)) ggX0_countZeros_X0_left
set_option maxRecDepth 20000 in
theorem ggX0_countZeros_X7_bitAt : GoodIn wsX0_countZeros wsX7_bitAt := goodIn_r _ [12, 13, 18, 19] (by decide +kernel) (by decide +kernel)
set_option maxRecDepth 20000 in
theorem gX0_countZeros_X7_bitAt : GoodIn wsX0_countZeros (wsV RX0 38 RX7 yX7_bitAt wsX7_bitAt) := goodIn_app (goodIn_of _ (by decide +kernel)) ggX0_countZeros_X7_bitAt
set_option maxRecDepth 20000 in
theorem ggX0_readLevel_X0_readNumber : GoodIn wsX0_readLevel wsX0_readNumber := goodIn_r _ [7, 1, 8, 9, 10, 6, 11, 12, 13, 14, 15, 16, 17, 18, 19, 20, 21, 22, 23, 24, 25, 26, 27, 28, 29, 30, 31, 32, 33, 34, 35, 36, 37, 38] (by decide +kernel) (by decide +kernel)
set_option maxRecDepth 20000 in
theorem gX0_readLevel_X0_readNumber : GoodIn wsX0_readLevel (wsV RX0 51 RX0 yX0_readNumber wsX0_readNumber) := goodIn_app (goodIn_of _ (by decide +kernel)) ggX0_readLevel_X0_readNumber
set_option maxRecDepth 20000 in
theorem ggX0_readLevel_X0_fail : GoodIn wsX0_readLevel wsX0_fail := goodIn_r _ [26, 27, 28, 33, 34, 35, 36] (by decide +kernel) (by decide +kernel)
set_option maxRecDepth 20000 in
theorem gX0_readLevel_X0_fail : GoodIn wsX0_readLevel (wsV RX0 34 RX0 yX0_fail wsX0_fail) := goodIn_app (goodIn_of _ (by decide +kernel)) ggX0_readLevel_X0_fail
set_option maxRecDepth 20000 in
theorem ggX0_endsClean_X0_left : GoodIn wsX0_endsClean wsX0_left := goodIn_r _ [7, 1, 2, 20, 21, 22, 23, 24, 25] (by decide +kernel) (by decide +kernel)
set_option maxRecDepth 20000 in
theorem gX0_endsClean_X0_left : GoodIn wsX0_endsClean (wsV RX0 30 RX0 yX0_left wsX0_left) := goodIn_app (goodIn_of _ (by decide +kernel)) ggX0_endsClean_X0_left
set_option maxRecDepth 20000 in
theorem ggX0_endsClean_X7_bitAt : GoodIn wsX0_endsClean wsX7_bitAt := goodIn_r _ [12, 13, 24, 25] (by decide +kernel) (by decide +kernel)
set_option maxRecDepth 20000 in
theorem gX0_endsClean_X7_bitAt : GoodIn wsX0_endsClean (wsV RX0 38 RX7 yX7_bitAt wsX7_bitAt) := goodIn_app (goodIn_of _ (by decide +kernel)) ggX0_endsClean_X7_bitAt
set_option maxRecDepth 20000 in
theorem ggX0_endsClean_X0_fail : GoodIn wsX0_endsClean wsX0_fail := goodIn_r _ [17, 18, 19, 20, 21, 22, 23] (by decide +kernel) (by decide +kernel)
set_option maxRecDepth 20000 in
theorem gX0_endsClean_X0_fail : GoodIn wsX0_endsClean (wsV RX0 34 RX0 yX0_fail wsX0_fail) := goodIn_app (goodIn_of _ (by decide +kernel)) ggX0_endsClean_X0_fail
set_option maxRecDepth 20000 in
theorem ggX1_init_X8_init : GoodIn wsX1_init wsX8_init := goodIn_r _ [13, 14, 2, 3, 4, 15, 20] (by decide +kernel) (by decide +kernel)
set_option maxRecDepth 20000 in
theorem gX1_init_X8_init_n25 : GoodIn wsX1_init (wsX8_init) := ggX1_init_X8_init
set_option maxRecDepth 20000 in
theorem ggX1_packBlock_X3_leftOf : GoodIn wsX1_packBlock wsX3_leftOf := goodIn_r _ [8, 9, 141, 142, 143] (by decide +kernel) (by decide +kernel)
set_option maxRecDepth 20000 in
theorem gX1_packBlock_X3_leftOf : GoodIn wsX1_packBlock (wsV RX1 30 RX3 yX3_leftOf wsX3_leftOf) := goodIn_app (goodIn_of _ (by decide +kernel)) ggX1_packBlock_X3_leftOf
set_option maxRecDepth 20000 in
theorem ggX1_packBlock_X3_topOf : GoodIn wsX1_packBlock wsX3_topOf := goodIn_r _ [13, 9, 141, 142, 143] (by decide +kernel) (by decide +kernel)
set_option maxRecDepth 20000 in
theorem gX1_packBlock_X3_topOf : GoodIn wsX1_packBlock (wsV RX1 36 RX3 yX3_topOf wsX3_topOf) := goodIn_app (goodIn_of _ (by decide +kernel)) ggX1_packBlock_X3_topOf
set_option maxRecDepth 20000 in
theorem ggX1_packBlock_X2_lookAround : GoodIn wsX1_packBlock wsX2_lookAround := goodIn_r _ [18, 19, 20, 21, 22, 23, 24, 5, 6, 7, 8, 9, 25, 11, 12, 13, 26, 27, 28, 17, 29, 30, 31, 32, 33, 34, 35, 36, 37, 38, 39, 40, 41, 42, 43, 44, 45, 46, 144, 145, 146, 147, 148, 141, 142, 143] (by decide +kernel) (by decide +kernel)
set_option maxRecDepth 20000 in
theorem gX1_packBlock_X2_lookAround : GoodIn wsX1_packBlock (wsV RX1 39 RX2 yX2_lookAround wsX2_lookAround) := goodIn_app (goodIn_of _ (by decide +kernel)) ggX1_packBlock_X2_lookAround
set_option maxRecDepth 20000 in
theorem ggX1_packBlock_X1_bestMode : GoodIn wsX1_packBlock wsX1_bestMode := goodIn_r _ [51, 52, 2, 53, 54, 55, 17, 56, 20, 21, 57, 58, 59, 60, 61, 62, 50, 63, 64, 65, 66, 67, 68, 22, 23, 69, 70, 71, 72, 73, 74, 75, 76, 77, 78, 79, 80, 81, 82, 83, 84, 85, 86, 87, 88, 89, 90, 91, 92, 93, 94, 95, 96, 1, 97, 31, 32, 7, 33, 34, 130, 131, 132, 133, 144, 145, 146, 147, 148, 141, 142, 143] (by decide +kernel) (by decide +kernel)
set_option maxRecDepth 20000 in
theorem gX1_packBlock_X1_bestMode : GoodIn wsX1_packBlock (wsV RX1 45 RX1 yX1_bestMode wsX1_bestMode) := goodIn_app (goodIn_of _ (by decide +kernel)) ggX1_packBlock_X1_bestMode
set_option maxRecDepth 20000 in
theorem ggX1_packBlock_X1_foretell : GoodIn wsX1_packBlock wsX1_foretell := goodIn_r _ [63, 64, 2, 65, 66, 67, 17, 68, 22, 23, 69, 70, 71, 72, 73, 74, 75, 76, 77, 78, 79, 80, 81, 82, 83, 84, 130, 131, 132, 133, 144, 145, 146, 147, 148] (by decide +kernel) (by decide +kernel)
set_option maxRecDepth 20000 in
theorem gX1_packBlock_X1_foretell : GoodIn wsX1_packBlock (wsV RX1 49 RX1 yX1_foretell wsX1_foretell) := goodIn_app (goodIn_of _ (by decide +kernel)) ggX1_packBlock_X1_foretell
set_option maxRecDepth 20000 in
theorem ggX1_packBlock_X1_lessTold : GoodIn wsX1_packBlock wsX1_lessTold := goodIn_r _ [96, 1, 64, 97, 31, 32, 7, 33, 34, 130, 131, 132, 133, 141, 142, 143] (by decide +kernel) (by decide +kernel)
set_option maxRecDepth 20000 in
theorem gX1_packBlock_X1_lessTold : GoodIn wsX1_packBlock (wsV RX1 55 RX1 yX1_lessTold wsX1_lessTold) := goodIn_app (goodIn_of _ (by decide +kernel)) ggX1_packBlock_X1_lessTold
set_option maxRecDepth 20000 in
theorem ggX1_packBlock_X8_forth : GoodIn wsX1_packBlock wsX8_forth := goodIn_r _ [102, 103, 104, 90, 91, 92, 105, 106, 107, 101, 108, 109, 110, 111, 134] (by decide +kernel) (by decide +kernel)
set_option maxRecDepth 20000 in
theorem gX1_packBlock_X8_forth : GoodIn wsX1_packBlock (wsV RX1 71 RX8 yX8_forth wsX8_forth) := goodIn_app (goodIn_of _ (by decide +kernel)) ggX1_packBlock_X8_forth
set_option maxRecDepth 20000 in
theorem ggX1_packBlock_X1_comeBack : GoodIn wsX1_packBlock wsX1_comeBack := goodIn_r _ [115, 1, 3, 64, 4, 5, 6, 7, 8, 9, 10, 11, 12, 13, 116, 117, 118, 101, 119, 103, 109, 110, 111, 120, 121, 122, 123, 124, 58, 125, 126, 127, 128, 129, 34, 130, 131, 132, 133, 135, 136, 137, 138, 139, 140, 134, 141, 142, 143] (by decide +kernel) (by decide +kernel)
set_option maxRecDepth 20000 in
theorem gX1_packBlock_X1_comeBack : GoodIn wsX1_packBlock (wsV RX1 75 RX1 yX1_comeBack wsX1_comeBack) := goodIn_app (goodIn_of _ (by decide +kernel)) ggX1_packBlock_X1_comeBack
set_option maxRecDepth 20000 in
theorem ggX1_unpackBlock_X2_lookAround : GoodIn wsX1_unpackBlock wsX2_lookAround := goodIn_r _ [6, 7, 8, 9, 10, 11, 12, 13, 14, 15, 16, 17, 18, 19, 20, 21, 22, 23, 24, 5, 25, 26, 27, 28, 29, 30, 31, 32, 33, 34, 35, 36, 37, 38, 39, 40, 41, 42, 107, 108, 109, 110, 111, 112, 113, 114] (by decide +kernel) (by decide +kernel)
set_option maxRecDepth 20000 in
theorem gX1_unpackBlock_X2_lookAround : GoodIn wsX1_unpackBlock (wsV RX1 39 RX2 yX2_lookAround wsX2_lookAround) := goodIn_app (goodIn_of _ (by decide +kernel)) ggX1_unpackBlock_X2_lookAround
set_option maxRecDepth 20000 in
theorem ggX1_unpackBlock_X1_foretell : GoodIn wsX1_unpackBlock wsX1_foretell := goodIn_r _ [47, 48, 1, 49, 50, 51, 5, 52, 10, 11, 53, 54, 55, 56, 57, 58, 59, 60, 61, 62, 63, 64, 65, 66, 67, 68, 97, 98, 99, 100, 107, 108, 109, 110, 111] (by decide +kernel) (by decide +kernel)
set_option maxRecDepth 20000 in
theorem gX1_unpackBlock_X1_foretell : GoodIn wsX1_unpackBlock (wsV RX1 49 RX1 yX1_foretell wsX1_foretell) := goodIn_app (goodIn_of _ (by decide +kernel)) ggX1_unpackBlock_X1_foretell
set_option maxRecDepth 20000 in
theorem ggX1_unpackBlock_X1_comeBack : GoodIn wsX1_unpackBlock wsX1_comeBack := goodIn_r _ [72, 73, 74, 48, 75, 13, 14, 15, 16, 17, 76, 19, 20, 21, 77, 78, 79, 80, 81, 82, 83, 84, 85, 86, 87, 88, 89, 90, 91, 92, 93, 94, 95, 96, 30, 97, 98, 99, 100, 101, 102, 103, 104, 105, 106, 115, 112, 113, 114] (by decide +kernel) (by decide +kernel)
set_option maxRecDepth 20000 in
theorem gX1_unpackBlock_X1_comeBack : GoodIn wsX1_unpackBlock (wsV RX1 75 RX1 yX1_comeBack wsX1_comeBack) := goodIn_app (goodIn_of _ (by decide +kernel)) ggX1_unpackBlock_X1_comeBack
set_option maxRecDepth 20000 in
theorem ggX1_bestMode_X2_mayUse : GoodIn wsX1_bestMode wsX2_mayUse := goodIn_r _ [7, 8, 9, 10, 11, 12, 64, 65, 66, 67, 68] (by decide +kernel) (by decide +kernel)
set_option maxRecDepth 20000 in
theorem gX1_bestMode_X2_mayUse : GoodIn wsX1_bestMode (wsV RX1 82 RX2 yX2_mayUse wsX2_mayUse) := goodIn_app (goodIn_of _ (by decide +kernel)) ggX1_bestMode_X2_mayUse
set_option maxRecDepth 20000 in
theorem ggX1_bestMode_X1_foretell : GoodIn wsX1_bestMode wsX1_foretell := goodIn_r _ [17, 18, 2, 19, 20, 21, 6, 22, 23, 24, 25, 26, 27, 28, 29, 30, 31, 32, 33, 34, 35, 36, 37, 38, 39, 40, 60, 61, 62, 63, 64, 65, 66, 67, 68] (by decide +kernel) (by decide +kernel)
set_option maxRecDepth 20000 in
theorem gX1_bestMode_X1_foretell : GoodIn wsX1_bestMode (wsV RX1 49 RX1 yX1_foretell wsX1_foretell) := goodIn_app (goodIn_of _ (by decide +kernel)) ggX1_bestMode_X1_foretell
set_option maxRecDepth 20000 in
theorem ggX1_bestMode_X1_sumOfSizes : GoodIn wsX1_bestMode wsX1_sumOfSizes := goodIn_r _ [44, 45, 46, 47, 48, 49, 50, 51, 16, 52, 53, 18, 54, 55, 56, 57, 58, 59, 60, 61, 62, 63, 69, 70, 71] (by decide +kernel) (by decide +kernel)
set_option maxRecDepth 20000 in
theorem gX1_bestMode_X1_sumOfSizes : GoodIn wsX1_bestMode (wsV RX1 86 RX1 yX1_sumOfSizes wsX1_sumOfSizes) := goodIn_app (goodIn_of _ (by decide +kernel)) ggX1_bestMode_X1_sumOfSizes
set_option maxRecDepth 20000 in
theorem ggX1_foretell_X2_guess : GoodIn wsX1_foretell wsX2_guess := goodIn_r _ [7, 8, 9, 10, 11, 12, 6, 13, 14, 15, 16, 17, 18, 19, 20, 21, 22, 23, 24, 25, 30, 31, 32, 33, 34] (by decide +kernel) (by decide +kernel)
set_option maxRecDepth 20000 in
theorem gX1_foretell_X2_guess : GoodIn wsX1_foretell (wsV RX1 89 RX2 yX2_guess wsX2_guess) := goodIn_app (goodIn_of _ (by decide +kernel)) ggX1_foretell_X2_guess
set_option maxRecDepth 20000 in
theorem ggX1_sumOfSizes_X1_lessTold : GoodIn wsX1_sumOfSizes wsX1_lessTold := goodIn_r _ [9, 10, 11, 12, 13, 14, 15, 16, 17, 18, 19, 20, 21, 22, 23, 24] (by decide +kernel) (by decide +kernel)
set_option maxRecDepth 20000 in
theorem gX1_sumOfSizes_X1_lessTold : GoodIn wsX1_sumOfSizes (wsV RX1 55 RX1 yX1_lessTold wsX1_lessTold) := goodIn_app (goodIn_of _ (by decide +kernel)) ggX1_sumOfSizes_X1_lessTold
set_option maxRecDepth 20000 in
theorem ggX1_lessTold_X3_get : GoodIn wsX1_lessTold wsX3_get := goodIn_r _ [7, 8, 13, 14, 15] (by decide +kernel) (by decide +kernel)
set_option maxRecDepth 20000 in
theorem gX1_lessTold_X3_get : GoodIn wsX1_lessTold (wsV RX1 97 RX3 yX3_get wsX3_get) := goodIn_app (goodIn_of _ (by decide +kernel)) ggX1_lessTold_X3_get
set_option maxRecDepth 20000 in
theorem ggX1_comeBack_X3_leftOf : GoodIn wsX1_comeBack wsX3_leftOf := goodIn_r _ [8, 9, 46, 47, 48] (by decide +kernel) (by decide +kernel)
set_option maxRecDepth 20000 in
theorem gX1_comeBack_X3_leftOf : GoodIn wsX1_comeBack (wsV RX1 30 RX3 yX3_leftOf wsX3_leftOf) := goodIn_app (goodIn_of _ (by decide +kernel)) ggX1_comeBack_X3_leftOf
set_option maxRecDepth 20000 in
theorem ggX1_comeBack_X3_topOf : GoodIn wsX1_comeBack wsX3_topOf := goodIn_r _ [13, 9, 46, 47, 48] (by decide +kernel) (by decide +kernel)
set_option maxRecDepth 20000 in
theorem gX1_comeBack_X3_topOf : GoodIn wsX1_comeBack (wsV RX1 36 RX3 yX3_topOf wsX3_topOf) := goodIn_app (goodIn_of _ (by decide +kernel)) ggX1_comeBack_X3_topOf
set_option maxRecDepth 20000 in
theorem ggX1_comeBack_X8_back : GoodIn wsX1_comeBack wsX8_back := goodIn_r _ [18, 19, 20, 21, 17, 22, 23, 24, 25, 26, 45] (by decide +kernel) (by decide +kernel)
set_option maxRecDepth 20000 in
theorem gX1_comeBack_X8_back : GoodIn wsX1_comeBack (wsV RX1 100 RX8 yX8_back wsX8_back) := goodIn_app (goodIn_of _ (by decide +kernel)) ggX1_comeBack_X8_back
set_option maxRecDepth 20000 in
theorem ggX1_comeBack_X9_bring : GoodIn wsX1_comeBack wsX9_bring := goodIn_r _ [29] (by decide +kernel) (by decide +kernel)
set_option maxRecDepth 20000 in
theorem gX1_comeBack_X9_bring_n103 : GoodIn wsX1_comeBack (wsX9_bring) := ggX1_comeBack_X9_bring
set_option maxRecDepth 20000 in
theorem ggX1_comeBack_X3_set : GoodIn wsX1_comeBack wsX3_set := goodIn_r _ [33, 34, 46, 47, 48] (by decide +kernel) (by decide +kernel)
set_option maxRecDepth 20000 in
theorem gX1_comeBack_X3_set : GoodIn wsX1_comeBack (wsV RX1 106 RX3 yX3_set wsX3_set) := goodIn_app (goodIn_of _ (by decide +kernel)) ggX1_comeBack_X3_set
set_option maxRecDepth 20000 in
theorem ggX2_lookAround_X3_leftOf : GoodIn wsX2_lookAround wsX3_leftOf := goodIn_r _ [10, 11, 43, 44, 45] (by decide +kernel) (by decide +kernel)
set_option maxRecDepth 20000 in
theorem gX2_lookAround_X3_leftOf : GoodIn wsX2_lookAround (wsV RX2 19 RX3 yX3_leftOf wsX3_leftOf) := goodIn_app (goodIn_of _ (by decide +kernel)) ggX2_lookAround_X3_leftOf
set_option maxRecDepth 20000 in
theorem ggX2_lookAround_X3_topOf : GoodIn wsX2_lookAround wsX3_topOf := goodIn_r _ [15, 11, 43, 44, 45] (by decide +kernel) (by decide +kernel)
set_option maxRecDepth 20000 in
theorem gX2_lookAround_X3_topOf : GoodIn wsX2_lookAround (wsV RX2 25 RX3 yX3_topOf wsX3_topOf) := goodIn_app (goodIn_of _ (by decide +kernel)) ggX2_lookAround_X3_topOf
set_option maxRecDepth 20000 in
theorem ggX2_lookAround_X2_lookAbove : GoodIn wsX2_lookAround wsX2_lookAbove := goodIn_r _ [20, 1, 4, 21, 22, 23, 9, 24, 25, 38, 39, 40, 41, 42, 43, 44, 45] (by decide +kernel) (by decide +kernel)
set_option maxRecDepth 20000 in
theorem gX2_lookAround_X2_lookAbove : GoodIn wsX2_lookAround (wsV RX2 35 RX2 yX2_lookAbove wsX2_lookAbove) := goodIn_app (goodIn_of _ (by decide +kernel)) ggX2_lookAround_X2_lookAbove
set_option maxRecDepth 20000 in
theorem ggX2_lookAround_X2_lookLeft : GoodIn wsX2_lookAround wsX2_lookLeft := goodIn_r _ [29, 4, 1, 21, 22, 23, 9, 24, 25, 38, 39, 40, 41, 42, 43, 44, 45] (by decide +kernel) (by decide +kernel)
set_option maxRecDepth 20000 in
theorem gX2_lookAround_X2_lookLeft : GoodIn wsX2_lookAround (wsV RX2 39 RX2 yX2_lookLeft wsX2_lookLeft) := goodIn_app (goodIn_of _ (by decide +kernel)) ggX2_lookAround_X2_lookLeft
set_option maxRecDepth 20000 in
theorem ggX2_lookAround_X3_get : GoodIn wsX2_lookAround wsX3_get := goodIn_r _ [24, 25, 43, 44, 45] (by decide +kernel) (by decide +kernel)
set_option maxRecDepth 20000 in
theorem gX2_lookAround_X3_get : GoodIn wsX2_lookAround (wsV RX2 42 RX3 yX3_get wsX3_get) := goodIn_app (goodIn_of _ (by decide +kernel)) ggX2_lookAround_X3_get
set_option maxRecDepth 20000 in
theorem ggX2_lookAround_X2_meanOfSides : GoodIn wsX2_lookAround wsX2_meanOfSides := goodIn_r _ [33, 2, 3, 34, 35, 36, 19, 37, 4, 38, 39, 40, 41, 42] (by decide +kernel) (by decide +kernel)
set_option maxRecDepth 20000 in
theorem gX2_lookAround_X2_meanOfSides : GoodIn wsX2_lookAround (wsV RX2 46 RX2 yX2_meanOfSides wsX2_meanOfSides) := goodIn_app (goodIn_of _ (by decide +kernel)) ggX2_lookAround_X2_meanOfSides
set_option maxRecDepth 20000 in
theorem ggX2_lookAbove_X3_get : GoodIn wsX2_lookAbove wsX3_get := goodIn_r _ [7, 8, 14, 15, 16] (by decide +kernel) (by decide +kernel)
set_option maxRecDepth 20000 in
theorem gX2_lookAbove_X3_get : GoodIn wsX2_lookAbove (wsV RX2 42 RX3 yX3_get wsX3_get) := goodIn_app (goodIn_of _ (by decide +kernel)) ggX2_lookAbove_X3_get
set_option maxRecDepth 20000 in
theorem ggX2_lookLeft_X3_get : GoodIn wsX2_lookLeft wsX3_get := goodIn_r _ [7, 8, 14, 15, 16] (by decide +kernel) (by decide +kernel)
set_option maxRecDepth 20000 in
theorem gX2_lookLeft_X3_get : GoodIn wsX2_lookLeft (wsV RX2 42 RX3 yX3_get wsX3_get) := goodIn_app (goodIn_of _ (by decide +kernel)) ggX2_lookLeft_X3_get
set_option maxRecDepth 20000 in
theorem ggX2_meanOfSides_X2_sumOfSide : GoodIn wsX2_meanOfSides wsX2_sumOfSide := goodIn_r _ [7, 8, 9, 10, 11, 12, 13] (by decide +kernel) (by decide +kernel)
set_option maxRecDepth 20000 in
theorem gX2_meanOfSides_X2_sumOfSide : GoodIn wsX2_meanOfSides (wsV RX2 57 RX2 yX2_sumOfSide wsX2_sumOfSide) := goodIn_app (goodIn_of _ (by decide +kernel)) ggX2_meanOfSides_X2_sumOfSide
set_option maxRecDepth 20000 in
theorem ggX2_mayUse_X9_hasNeeded : GoodIn wsX2_mayUse wsX9_hasNeeded := goodIn_r _ [5] (by decide +kernel) (by decide +kernel)
set_option maxRecDepth 20000 in
theorem gX2_mayUse_X9_hasNeeded_n60 : GoodIn wsX2_mayUse (wsX9_hasNeeded) := ggX2_mayUse_X9_hasNeeded
set_option maxRecDepth 20000 in
theorem ggX2_guess_X2_three : GoodIn wsX2_guess wsX2_three := goodIn_r _ [7, 1, 20, 21, 22, 23, 24] (by decide +kernel) (by decide +kernel)
set_option maxRecDepth 20000 in
theorem gX2_guess_X2_three : GoodIn wsX2_guess (wsV RX2 64 RX2 yX2_three wsX2_three) := goodIn_app (goodIn_of _ (by decide +kernel)) ggX2_guess_X2_three
set_option maxRecDepth 20000 in
theorem ggX2_guess_X2_steep : GoodIn wsX2_guess wsX2_steep := goodIn_r _ [11, 3, 4, 5, 6, 7, 1, 12, 13, 14, 15, 20, 21, 22, 23, 24] (by decide +kernel) (by decide +kernel)
set_option maxRecDepth 20000 in
theorem gX2_guess_X2_steep : GoodIn wsX2_guess (wsV RX2 67 RX2 yX2_steep wsX2_steep) := goodIn_app (goodIn_of _ (by decide +kernel)) ggX2_guess_X2_steep
set_option maxRecDepth 20000 in
theorem ggX2_guess_X2_leaning : GoodIn wsX2_guess wsX2_leaning := goodIn_r _ [19, 12, 13, 14, 6, 15, 1, 3, 4, 5, 7, 20, 21, 22, 23, 24] (by decide +kernel) (by decide +kernel)
set_option maxRecDepth 20000 in
theorem gX2_guess_X2_leaning : GoodIn wsX2_guess (wsV RX2 71 RX2 yX2_leaning wsX2_leaning) := goodIn_app (goodIn_of _ (by decide +kernel)) ggX2_guess_X2_leaning
set_option maxRecDepth 20000 in
theorem ggX2_steep_X2_three : GoodIn wsX2_steep wsX2_three := goodIn_r _ [5, 6, 11, 12, 13, 14, 15] (by decide +kernel) (by decide +kernel)
set_option maxRecDepth 20000 in
theorem gX2_steep_X2_three : GoodIn wsX2_steep (wsV RX2 64 RX2 yX2_three wsX2_three) := goodIn_app (goodIn_of _ (by decide +kernel)) ggX2_steep_X2_three
set_option maxRecDepth 20000 in
theorem ggX2_steep_X2_two : GoodIn wsX2_steep wsX2_two := goodIn_r _ [10, 6, 11, 12, 13, 14, 15] (by decide +kernel) (by decide +kernel)
set_option maxRecDepth 20000 in
theorem gX2_steep_X2_two : GoodIn wsX2_steep (wsV RX2 74 RX2 yX2_two wsX2_two) := goodIn_app (goodIn_of _ (by decide +kernel)) ggX2_steep_X2_two
set_option maxRecDepth 20000 in
theorem ggX2_leaning_X2_two : GoodIn wsX2_leaning wsX2_two := goodIn_r _ [5, 6, 11, 12, 13, 14, 15] (by decide +kernel) (by decide +kernel)
set_option maxRecDepth 20000 in
theorem gX2_leaning_X2_two : GoodIn wsX2_leaning (wsV RX2 74 RX2 yX2_two wsX2_two) := goodIn_app (goodIn_of _ (by decide +kernel)) ggX2_leaning_X2_two
set_option maxRecDepth 20000 in
theorem ggX2_leaning_X2_three : GoodIn wsX2_leaning wsX2_three := goodIn_r _ [10, 6, 11, 12, 13, 14, 15] (by decide +kernel) (by decide +kernel)
set_option maxRecDepth 20000 in
theorem gX2_leaning_X2_three : GoodIn wsX2_leaning (wsV RX2 64 RX2 yX2_three wsX2_three) := goodIn_app (goodIn_of _ (by decide +kernel)) ggX2_leaning_X2_three
set_option maxRecDepth 20000 in
theorem ggX3_smoothEdges_X3_smoothAcross : GoodIn wsX3_smoothEdges wsX3_smoothAcross := goodIn_r _ [7, 8, 9, 10, 11, 12, 13, 14, 15, 16, 17, 18] (by decide +kernel) (by decide +kernel)
set_option maxRecDepth 20000 in
theorem gX3_smoothEdges_X3_smoothAcross : GoodIn wsX3_smoothEdges (wsV RX3 22 RX3 yX3_smoothAcross wsX3_smoothAcross) := goodIn_app (goodIn_of _ (by decide +kernel)) ggX3_smoothEdges_X3_smoothAcross
set_option maxRecDepth 20000 in
theorem ggX3_smoothAcross_X9_bring : GoodIn wsX3_smoothAcross wsX9_bring := goodIn_r _ [8] (by decide +kernel) (by decide +kernel)
set_option maxRecDepth 20000 in
theorem gX3_smoothAcross_X9_bring_n32 : GoodIn wsX3_smoothAcross (wsX9_bring) := ggX3_smoothAcross_X9_bring
set_option maxRecDepth 20000 in
theorem ggX4_likelyMode_X4_hasAbove : GoodIn wsX4_likelyMode wsX4_hasAbove := goodIn_r _ [11, 2, 16, 17, 18, 19, 20, 21] (by decide +kernel) (by decide +kernel)
set_option maxRecDepth 20000 in
theorem gX4_likelyMode_X4_hasAbove : GoodIn wsX4_likelyMode (wsV RX4 32 RX4 yX4_hasAbove wsX4_hasAbove) := goodIn_app (goodIn_of _ (by decide +kernel)) ggX4_likelyMode_X4_hasAbove
set_option maxRecDepth 20000 in
theorem ggX4_likelyMode_X4_hasLeft : GoodIn wsX4_likelyMode wsX4_hasLeft := goodIn_r _ [15, 2, 16, 17, 18, 19, 20, 21] (by decide +kernel) (by decide +kernel)
set_option maxRecDepth 20000 in
theorem gX4_likelyMode_X4_hasLeft : GoodIn wsX4_likelyMode (wsV RX4 36 RX4 yX4_hasLeft wsX4_hasLeft) := goodIn_app (goodIn_of _ (by decide +kernel)) ggX4_likelyMode_X4_hasLeft
set_option maxRecDepth 20000 in
theorem ggX5_init_X0_init : GoodIn wsX5_init wsX0_init := goodIn_r _ [10, 11, 2, 3, 12, 13, 14, 15, 16, 17] (by decide +kernel) (by decide +kernel)
set_option maxRecDepth 20000 in
theorem gX5_init_X0_init : GoodIn wsX5_init (wsX0_init) := ggX5_init_X0_init
set_option maxRecDepth 20000 in
theorem ggX5_read_X0_restart : GoodIn wsX5_read wsX0_restart := goodIn_r _ [6, 7, 8, 9, 99, 100, 101, 102] (by decide +kernel) (by decide +kernel)
set_option maxRecDepth 20000 in
theorem gX5_read_X0_restart : GoodIn wsX5_read (wsV RX5 27 RX0 yX0_restart wsX0_restart) := goodIn_app (goodIn_of _ (by decide +kernel)) ggX5_read_X0_restart
set_option maxRecDepth 20000 in
theorem ggX5_read_X5_readHead : GoodIn wsX5_read wsX5_readHead := goodIn_r _ [14, 1, 15, 16, 17, 5, 18, 7, 19, 20, 21, 22, 23, 24, 25, 26, 27, 28, 29, 30, 31, 32, 33, 34, 35, 36, 37, 8, 9, 38, 39, 40, 41, 42, 43, 44, 45, 46, 47, 48, 49, 50, 51, 52, 53, 98, 103, 104, 105, 106, 107, 108, 99, 100, 101, 102, 109, 110] (by decide +kernel) (by decide +kernel)
set_option maxRecDepth 20000 in
theorem gX5_read_X5_readHead : GoodIn wsX5_read (wsV RX5 30 RX5 yX5_readHead wsX5_readHead) := goodIn_app (goodIn_of _ (by decide +kernel)) ggX5_read_X5_readHead
set_option maxRecDepth 20000 in
theorem ggX5_read_X4_blocks : GoodIn wsX5_read wsX4_blocks := goodIn_r _ [57, 48, 49, 103, 104, 105, 106, 107, 108] (by decide +kernel) (by decide +kernel)
set_option maxRecDepth 20000 in
theorem gX5_read_X4_blocks : GoodIn wsX5_read (wsV RX5 34 RX4 yX4_blocks wsX4_blocks) := goodIn_app (goodIn_of _ (by decide +kernel)) ggX5_read_X4_blocks
set_option maxRecDepth 20000 in
theorem ggX5_read_X5_readMode : GoodIn wsX5_read wsX5_readMode := goodIn_r _ [61, 1, 62, 63, 64, 46, 65, 52, 48, 66, 67, 68, 69, 70, 71, 72, 73, 74, 75, 76, 77, 42, 39, 40, 5, 41, 7, 23, 24, 25, 26, 27, 34, 35, 36, 37, 8, 9, 28, 29, 30, 31, 32, 33, 78, 79, 80, 81, 82, 83, 98, 103, 104, 105, 106, 107, 108, 99, 100, 101, 102, 109, 110] (by decide +kernel) (by decide +kernel)
set_option maxRecDepth 20000 in
theorem gX5_read_X5_readMode : GoodIn wsX5_read (wsV RX5 40 RX5 yX5_readMode wsX5_readMode) := goodIn_app (goodIn_of _ (by decide +kernel)) ggX5_read_X5_readMode
set_option maxRecDepth 20000 in
theorem ggX5_read_X5_readLevels : GoodIn wsX5_read wsX5_readLevels := goodIn_r _ [87, 1, 15, 16, 17, 5, 18, 7, 19, 20, 21, 22, 23, 24, 25, 26, 27, 28, 29, 30, 31, 32, 33, 34, 35, 36, 37, 8, 9, 38, 39, 40, 41, 88, 89, 90, 91, 92, 93, 98, 103, 104, 105, 106, 107, 108, 99, 100, 101, 102, 109, 110] (by decide +kernel) (by decide +kernel)
set_option maxRecDepth 20000 in
theorem gX5_read_X5_readLevels : GoodIn wsX5_read (wsV RX5 44 RX5 yX5_readLevels wsX5_readLevels) := goodIn_app (goodIn_of _ (by decide +kernel)) ggX5_read_X5_readLevels
set_option maxRecDepth 20000 in
theorem ggX5_read_X0_endsClean : GoodIn wsX5_read wsX0_endsClean := goodIn_r _ [97, 23, 7, 24, 25, 26, 5, 27, 28, 29, 30, 31, 32, 33, 34, 35, 36, 37, 8, 9, 99, 100, 101, 102, 109, 110] (by decide +kernel) (by decide +kernel)
set_option maxRecDepth 20000 in
theorem gX5_read_X0_endsClean : GoodIn wsX5_read (wsV RX5 47 RX0 yX0_endsClean wsX0_endsClean) := goodIn_app (goodIn_of _ (by decide +kernel)) ggX5_read_X0_endsClean
set_option maxRecDepth 20000 in
theorem ggX5_readHead_X0_readNumber : GoodIn wsX5_readHead wsX0_readNumber := goodIn_r _ [6, 7, 8, 9, 10, 5, 11, 12, 13, 14, 15, 16, 17, 18, 19, 20, 21, 22, 23, 24, 25, 26, 27, 28, 29, 30, 31, 32, 52, 53, 54, 55, 56, 57] (by decide +kernel) (by decide +kernel)
set_option maxRecDepth 20000 in
theorem gX5_readHead_X0_readNumber : GoodIn wsX5_readHead (wsV RX5 51 RX0 yX0_readNumber wsX0_readNumber) := goodIn_app (goodIn_of _ (by decide +kernel)) ggX5_readHead_X0_readNumber
set_option maxRecDepth 20000 in
theorem ggX5_readHead_X0_readBits : GoodIn wsX5_readHead wsX0_readBits := goodIn_r _ [32, 7, 12, 13, 14, 15, 5, 16, 23, 24, 25, 26, 27, 28, 17, 18, 19, 20, 21, 22, 52, 53, 54, 55, 56, 57] (by decide +kernel) (by decide +kernel)
set_option maxRecDepth 20000 in
theorem gX5_readHead_X0_readBits : GoodIn wsX5_readHead (wsV RX5 55 RX0 yX0_readBits wsX0_readBits) := goodIn_app (goodIn_of _ (by decide +kernel)) ggX5_readHead_X0_readBits
set_option maxRecDepth 20000 in
theorem ggX5_readHead_X4_clear : GoodIn wsX5_readHead wsX4_clear := goodIn_r _ [38, 39, 40, 41, 42, 43, 44, 46, 47, 48, 49, 50, 51] (by decide +kernel) (by decide +kernel)
set_option maxRecDepth 20000 in
theorem gX5_readHead_X4_clear : GoodIn wsX5_readHead (wsV RX5 59 RX4 yX4_clear wsX4_clear) := goodIn_app (goodIn_of _ (by decide +kernel)) ggX5_readHead_X4_clear
set_option maxRecDepth 20000 in
theorem ggX5_readMode_X4_likelyMode : GoodIn wsX5_readMode wsX4_likelyMode := goodIn_r _ [6, 7, 8, 9, 10, 11, 12, 13, 14, 15, 5, 16, 17, 18, 19, 20, 51, 52, 53, 54, 55, 56] (by decide +kernel) (by decide +kernel)
set_option maxRecDepth 20000 in
theorem gX5_readMode_X4_likelyMode : GoodIn wsX5_readMode (wsV RX5 70 RX4 yX4_likelyMode wsX4_likelyMode) := goodIn_app (goodIn_of _ (by decide +kernel)) ggX5_readMode_X4_likelyMode
set_option maxRecDepth 20000 in
theorem ggX5_readMode_X0_readBits : GoodIn wsX5_readMode wsX0_readBits := goodIn_r _ [25, 26, 27, 28, 29, 30, 24, 31, 32, 33, 34, 35, 36, 37, 38, 39, 40, 41, 42, 43, 57, 58, 59, 60, 61, 62] (by decide +kernel) (by decide +kernel)
set_option maxRecDepth 20000 in
theorem gX5_readMode_X0_readBits : GoodIn wsX5_readMode (wsV RX5 55 RX0 yX0_readBits wsX0_readBits) := goodIn_app (goodIn_of _ (by decide +kernel)) ggX5_readMode_X0_readBits
set_option maxRecDepth 20000 in
theorem ggX5_readMode_X4_hasAbove : GoodIn wsX5_readMode wsX4_hasAbove := goodIn_r _ [16, 8, 51, 52, 53, 54, 55, 56] (by decide +kernel) (by decide +kernel)
set_option maxRecDepth 20000 in
theorem gX5_readMode_X4_hasAbove : GoodIn wsX5_readMode (wsV RX5 80 RX4 yX4_hasAbove wsX4_hasAbove) := goodIn_app (goodIn_of _ (by decide +kernel)) ggX5_readMode_X4_hasAbove
set_option maxRecDepth 20000 in
theorem ggX5_readMode_X4_hasLeft : GoodIn wsX5_readMode wsX4_hasLeft := goodIn_r _ [20, 8, 51, 52, 53, 54, 55, 56] (by decide +kernel) (by decide +kernel)
set_option maxRecDepth 20000 in
theorem gX5_readMode_X4_hasLeft : GoodIn wsX5_readMode (wsV RX5 84 RX4 yX4_hasLeft wsX4_hasLeft) := goodIn_app (goodIn_of _ (by decide +kernel)) ggX5_readMode_X4_hasLeft
set_option maxRecDepth 20000 in
theorem ggX5_readMode_X9_hasNeeded : GoodIn wsX5_readMode wsX9_hasNeeded := goodIn_r _ [48] (by decide +kernel) (by decide +kernel)
set_option maxRecDepth 20000 in
theorem gX5_readMode_X9_hasNeeded_n87 : GoodIn wsX5_readMode (wsX9_hasNeeded) := ggX5_readMode_X9_hasNeeded
set_option maxRecDepth 20000 in
theorem ggX5_readMode_X0_fail : GoodIn wsX5_readMode wsX0_fail := goodIn_r _ [35, 36, 37, 57, 58, 59, 60] (by decide +kernel) (by decide +kernel)
set_option maxRecDepth 20000 in
theorem gX5_readMode_X0_fail : GoodIn wsX5_readMode (wsV RX5 91 RX0 yX0_fail wsX0_fail) := goodIn_app (goodIn_of _ (by decide +kernel)) ggX5_readMode_X0_fail
set_option maxRecDepth 20000 in
theorem ggX5_readLevels_X0_readNumber : GoodIn wsX5_readLevels wsX0_readNumber := goodIn_r _ [6, 7, 8, 9, 10, 5, 11, 12, 13, 14, 15, 16, 17, 18, 19, 20, 21, 22, 23, 24, 25, 26, 27, 28, 29, 30, 31, 32, 46, 47, 48, 49, 50, 51] (by decide +kernel) (by decide +kernel)
set_option maxRecDepth 20000 in
theorem gX5_readLevels_X0_readNumber : GoodIn wsX5_readLevels (wsV RX5 51 RX0 yX0_readNumber wsX0_readNumber) := goodIn_app (goodIn_of _ (by decide +kernel)) ggX5_readLevels_X0_readNumber
set_option maxRecDepth 20000 in
theorem ggX5_readLevels_X0_readLevel : GoodIn wsX5_readLevels wsX0_readLevel := goodIn_r _ [36, 7, 37, 38, 3, 4, 5, 6, 8, 9, 10, 11, 12, 13, 14, 15, 16, 17, 18, 19, 20, 21, 22, 23, 24, 25, 26, 27, 28, 29, 30, 31, 32, 46, 47, 48, 49, 50, 51] (by decide +kernel) (by decide +kernel)
set_option maxRecDepth 20000 in
theorem gX5_readLevels_X0_readLevel : GoodIn wsX5_readLevels (wsV RX5 94 RX0 yX0_readLevel wsX0_readLevel) := goodIn_app (goodIn_of _ (by decide +kernel)) ggX5_readLevels_X0_readLevel
set_option maxRecDepth 20000 in
theorem ggX6_write_X6_writeNumber : GoodIn wsX6_write wsX6_writeNumber := goodIn_r _ [8, 9, 10, 11, 7, 12, 2, 3, 1, 13, 14, 15, 16, 17, 18, 19, 20, 21, 22, 23, 56, 57, 58, 59, 60] (by decide +kernel) (by decide +kernel)
set_option maxRecDepth 20000 in
theorem gX6_write_X6_writeNumber : GoodIn wsX6_write (wsV RX6 32 RX6 yX6_writeNumber wsX6_writeNumber) := goodIn_app (goodIn_of _ (by decide +kernel)) ggX6_write_X6_writeNumber
set_option maxRecDepth 20000 in
theorem ggX6_write_X6_writeBits : GoodIn wsX6_write wsX6_writeBits := goodIn_r _ [12, 2, 3, 1, 13, 14, 15, 16, 17, 18, 19, 20, 21, 22, 23, 56, 57, 58, 59, 60] (by decide +kernel) (by decide +kernel)
set_option maxRecDepth 20000 in
theorem gX6_write_X6_writeBits : GoodIn wsX6_write (wsV RX6 46 RX6 yX6_writeBits wsX6_writeBits) := goodIn_app (goodIn_of _ (by decide +kernel)) ggX6_write_X6_writeBits
set_option maxRecDepth 20000 in
theorem ggX6_write_X4_blocks : GoodIn wsX6_write wsX4_blocks := goodIn_r _ [28, 29, 30, 61, 62, 63, 64, 65, 66] (by decide +kernel) (by decide +kernel)
set_option maxRecDepth 20000 in
theorem gX6_write_X4_blocks : GoodIn wsX6_write (wsV RX6 50 RX4 yX4_blocks wsX4_blocks) := goodIn_app (goodIn_of _ (by decide +kernel)) ggX6_write_X4_blocks
set_option maxRecDepth 20000 in
theorem ggX6_write_X4_likelyMode : GoodIn wsX6_write wsX4_likelyMode := goodIn_r _ [34, 35, 29, 36, 37, 38, 39, 40, 41, 42, 27, 43, 44, 45, 46, 47, 61, 62, 63, 64, 65, 66] (by decide +kernel) (by decide +kernel)
set_option maxRecDepth 20000 in
theorem gX6_write_X4_likelyMode : GoodIn wsX6_write (wsV RX6 58 RX4 yX4_likelyMode wsX4_likelyMode) := goodIn_app (goodIn_of _ (by decide +kernel)) ggX6_write_X4_likelyMode
set_option maxRecDepth 20000 in
theorem ggX6_write_X6_writeMode : GoodIn wsX6_write wsX6_writeMode := goodIn_r _ [51, 9, 10, 11, 7, 12, 2, 3, 1, 13, 14, 15, 16, 17, 18, 19, 20, 21, 22, 23, 56, 57, 58, 59, 60] (by decide +kernel) (by decide +kernel)
set_option maxRecDepth 20000 in
theorem gX6_write_X6_writeMode : GoodIn wsX6_write (wsV RX6 62 RX6 yX6_writeMode wsX6_writeMode) := goodIn_app (goodIn_of _ (by decide +kernel)) ggX6_write_X6_writeMode
set_option maxRecDepth 20000 in
theorem ggX6_write_X6_writeLevels : GoodIn wsX6_write wsX6_writeLevels := goodIn_r _ [55, 4, 5, 6, 7, 8, 9, 10, 11, 12, 2, 3, 1, 13, 14, 15, 16, 17, 18, 19, 20, 21, 22, 23, 56, 57, 58, 59, 60] (by decide +kernel) (by decide +kernel)
set_option maxRecDepth 20000 in
theorem gX6_write_X6_writeLevels : GoodIn wsX6_write (wsV RX6 68 RX6 yX6_writeLevels wsX6_writeLevels) := goodIn_app (goodIn_of _ (by decide +kernel)) ggX6_write_X6_writeLevels
set_option maxRecDepth 20000 in
theorem ggX6_writeMode_X6_writeBits : GoodIn wsX6_writeMode wsX6_writeBits := goodIn_r _ [5, 6, 7, 8, 9, 10, 11, 12, 13, 14, 15, 16, 17, 18, 19, 20, 21, 22, 23, 24] (by decide +kernel) (by decide +kernel)
set_option maxRecDepth 20000 in
theorem gX6_writeMode_X6_writeBits : GoodIn wsX6_writeMode (wsV RX6 46 RX6 yX6_writeBits wsX6_writeBits) := goodIn_app (goodIn_of _ (by decide +kernel)) ggX6_writeMode_X6_writeBits
set_option maxRecDepth 20000 in
theorem ggX6_writeLevels_X6_writeNumber : GoodIn wsX6_writeLevels wsX6_writeNumber := goodIn_r _ [5, 6, 7, 8, 4, 9, 10, 11, 12, 13, 14, 15, 16, 17, 18, 19, 20, 21, 22, 23, 24, 25, 26, 27, 28] (by decide +kernel) (by decide +kernel)
set_option maxRecDepth 20000 in
theorem gX6_writeLevels_X6_writeNumber : GoodIn wsX6_writeLevels (wsV RX6 32 RX6 yX6_writeNumber wsX6_writeNumber) := goodIn_app (goodIn_of _ (by decide +kernel)) ggX6_writeLevels_X6_writeNumber
set_option maxRecDepth 20000 in
theorem ggX6_writeNumber_X6_writeBits : GoodIn wsX6_writeNumber wsX6_writeBits := goodIn_r _ [5, 6, 7, 8, 9, 10, 11, 12, 13, 14, 15, 16, 17, 18, 19, 20, 21, 22, 23, 24] (by decide +kernel) (by decide +kernel)
set_option maxRecDepth 20000 in
theorem gX6_writeNumber_X6_writeBits : GoodIn wsX6_writeNumber (wsV RX6 46 RX6 yX6_writeBits wsX6_writeBits) := goodIn_app (goodIn_of _ (by decide +kernel)) ggX6_writeNumber_X6_writeBits
set_option maxRecDepth 20000 in
theorem ggX6_writeBits_X7_add : GoodIn wsX6_writeBits wsX7_add := goodIn_r _ [8, 9, 10, 11, 12, 7, 13, 14, 18, 19] (by decide +kernel) (by decide +kernel)
set_option maxRecDepth 20000 in
theorem gX6_writeBits_X7_add : GoodIn wsX6_writeBits (wsV RX6 72 RX7 yX7_add wsX7_add) := goodIn_app (goodIn_of _ (by decide +kernel)) ggX6_writeBits_X7_add
set_option maxRecDepth 20000 in
theorem ggX7_add_X7_set : GoodIn wsX7_add wsX7_set := goodIn_r _ [6, 7, 8, 9] (by decide +kernel) (by decide +kernel)
set_option maxRecDepth 20000 in
theorem gX7_add_X7_set : GoodIn wsX7_add (wsV RX7 19 RX7 yX7_set wsX7_set) := goodIn_app (goodIn_of _ (by decide +kernel)) ggX7_add_X7_set
set_option maxRecDepth 20000 in
theorem ggX8_back_X8_factorOf : GoodIn wsX8_back wsX8_factorOf := goodIn_r _ [5] (by decide +kernel) (by decide +kernel)
set_option maxRecDepth 20000 in
theorem gX8_back_X8_factorOf : GoodIn wsX8_back (va_wsS RX8 21 yX8_factorOf wsX8_factorOf) := goodIn_app (goodIn_of _ (by decide +kernel)) ggX8_back_X8_factorOf
set_option maxRecDepth 20000 in
theorem ggX8_back_X8_backLine : GoodIn wsX8_back wsX8_backLine := goodIn_r _ [9, 1, 10] (by decide +kernel) (by decide +kernel)
set_option maxRecDepth 20000 in
theorem gX8_back_X8_backLine : GoodIn wsX8_back (wsV RX8 25 RX8 yX8_backLine wsX8_backLine) := goodIn_app (goodIn_of _ (by decide +kernel)) ggX8_back_X8_backLine
set_option maxRecDepth 20000 in
theorem ggX8_forth_X8_forthLine : GoodIn wsX8_forth wsX8_forthLine := goodIn_r _ [10, 1, 14] (by decide +kernel) (by decide +kernel)
set_option maxRecDepth 20000 in
theorem gX8_forth_X8_forthLine : GoodIn wsX8_forth (wsV RX8 29 RX8 yX8_forthLine wsX8_forthLine) := goodIn_app (goodIn_of _ (by decide +kernel)) ggX8_forth_X8_forthLine
set_option maxRecDepth 20000 in
theorem ggX8_forth_X8_factorOf : GoodIn wsX8_forth wsX8_factorOf := goodIn_r _ [13] (by decide +kernel) (by decide +kernel)
set_option maxRecDepth 20000 in
theorem gX8_forth_X8_factorOf : GoodIn wsX8_forth (va_wsS RX8 21 yX8_factorOf wsX8_factorOf) := goodIn_app (goodIn_of _ (by decide +kernel)) ggX8_forth_X8_factorOf
set_option maxRecDepth 20000 in
theorem ggX9_init_X3_init : GoodIn wsX9_init wsX3_init := goodIn_r _ [34, 35, 2, 3, 36, 37, 38, 39, 98, 99, 100] (by decide +kernel) (by decide +kernel)
set_option maxRecDepth 20000 in
theorem gX9_init_X3_init_n9 : GoodIn wsX9_init (wsX3_init) := ggX9_init_X3_init
set_option maxRecDepth 20000 in
theorem ggX9_init_X2_init : GoodIn wsX9_init wsX2_init := goodIn_r _ [42, 43, 2, 3, 36, 44, 45, 109, 110, 111, 112, 113] (by decide +kernel) (by decide +kernel)
set_option maxRecDepth 20000 in
theorem gX9_init_X2_init : GoodIn wsX9_init (wsX2_init) := ggX9_init_X2_init
set_option maxRecDepth 20000 in
theorem ggX9_init_X1_init : GoodIn wsX9_init wsX1_init := goodIn_r _ [48, 49, 2, 3, 36, 50, 51, 52, 53, 54, 55, 56, 57, 58, 59, 60, 114, 115, 116, 117, 130] (by decide +kernel) (by decide +kernel)
set_option maxRecDepth 20000 in
theorem gX9_init_X1_init : GoodIn wsX9_init (wsX1_init) := ggX9_init_X1_init
set_option maxRecDepth 20000 in
theorem ggX9_init_X7_init : GoodIn wsX9_init wsX7_init := goodIn_r _ [62, 63, 2, 3, 64, 65, 118, 119] (by decide +kernel) (by decide +kernel)
set_option maxRecDepth 20000 in
theorem gX9_init_X7_init_n36 : GoodIn wsX9_init (wsX7_init) := ggX9_init_X7_init
set_option maxRecDepth 20000 in
theorem ggX9_init_X6_init : GoodIn wsX9_init wsX6_init := goodIn_r _ [68, 69, 2, 3, 70, 120, 121, 122] (by decide +kernel) (by decide +kernel)
set_option maxRecDepth 20000 in
theorem gX9_init_X6_init : GoodIn wsX9_init (wsX6_init) := ggX9_init_X6_init
set_option maxRecDepth 20000 in
theorem ggX9_init_X5_init : GoodIn wsX9_init wsX5_init := goodIn_r _ [73, 74, 2, 3, 75, 76, 77, 78, 79, 80, 81, 82, 83, 84, 131, 132, 133, 134, 123] (by decide +kernel) (by decide +kernel)
set_option maxRecDepth 20000 in
theorem gX9_init_X5_init : GoodIn wsX9_init (wsX5_init) := ggX9_init_X5_init
set_option maxRecDepth 20000 in
theorem ggX9_init_X4_init : GoodIn wsX9_init wsX4_init := goodIn_r _ [86, 87, 2, 3, 36, 88, 89, 90, 91, 124, 125, 126, 127, 128, 129] (by decide +kernel) (by decide +kernel)
set_option maxRecDepth 20000 in
theorem gX9_init_X4_init_n59 : GoodIn wsX9_init (wsX4_init) := ggX9_init_X4_init
set_option maxRecDepth 20000 in
theorem ggX9_init_X4_clear : GoodIn wsX9_init wsX4_clear := goodIn_r _ [95, 90, 91, 96, 97, 88, 89, 124, 125, 126, 127, 128, 129] (by decide +kernel) (by decide +kernel)
set_option maxRecDepth 20000 in
theorem gX9_init_X4_clear : GoodIn wsX9_init (wsV RX9 67 RX4 yX4_clear wsX4_clear) := goodIn_app (goodIn_of _ (by decide +kernel)) ggX9_init_X4_clear
set_option maxRecDepth 20000 in
theorem ggX9_begin_X9_isWithin : GoodIn wsX9_begin wsX9_isWithin := goodIn_r _ [8] (by decide +kernel) (by decide +kernel)
set_option maxRecDepth 20000 in
theorem gX9_begin_X9_isWithin : GoodIn wsX9_begin (va_wsS RX9 71 yX9_isWithin wsX9_isWithin) := goodIn_app (goodIn_of _ (by decide +kernel)) ggX9_begin_X9_isWithin
set_option maxRecDepth 20000 in
theorem ggX9_begin_X3_clear : GoodIn wsX9_begin wsX3_clear := goodIn_r _ [13, 14, 15, 16, 36, 37, 38] (by decide +kernel) (by decide +kernel)
set_option maxRecDepth 20000 in
theorem gX9_begin_X3_clear : GoodIn wsX9_begin (wsV RX9 78 RX3 yX3_clear wsX3_clear) := goodIn_app (goodIn_of _ (by decide +kernel)) ggX9_begin_X3_clear
set_option maxRecDepth 20000 in
theorem ggX9_begin_X4_clear : GoodIn wsX9_begin wsX4_clear := goodIn_r _ [21, 22, 23, 24, 25, 26, 27, 39, 40, 41, 42, 43, 44] (by decide +kernel) (by decide +kernel)
set_option maxRecDepth 20000 in
theorem gX9_begin_X4_clear : GoodIn wsX9_begin (wsV RX9 67 RX4 yX4_clear wsX4_clear) := goodIn_app (goodIn_of _ (by decide +kernel)) ggX9_begin_X4_clear
set_option maxRecDepth 20000 in
theorem ggX9_put_X9_isWithin : GoodIn wsX9_put wsX9_isWithin := goodIn_r _ [7] (by decide +kernel) (by decide +kernel)
set_option maxRecDepth 20000 in
theorem gX9_put_X9_isWithin : GoodIn wsX9_put (va_wsS RX9 71 yX9_isWithin wsX9_isWithin) := goodIn_app (goodIn_of _ (by decide +kernel)) ggX9_put_X9_isWithin
set_option maxRecDepth 20000 in
theorem ggX9_put_X9_byteOf : GoodIn wsX9_put wsX9_byteOf := goodIn_r _ [10] (by decide +kernel) (by decide +kernel)
set_option maxRecDepth 20000 in
theorem gX9_put_X9_byteOf : GoodIn wsX9_put (va_wsS RX9 86 yX9_byteOf wsX9_byteOf) := goodIn_app (goodIn_of _ (by decide +kernel)) ggX9_put_X9_byteOf
set_option maxRecDepth 20000 in
theorem ggX9_put_X3_set : GoodIn wsX9_put wsX3_set := goodIn_r _ [15, 16, 25, 26, 27] (by decide +kernel) (by decide +kernel)
set_option maxRecDepth 20000 in
theorem gX9_put_X3_set : GoodIn wsX9_put (wsV RX9 90 RX3 yX3_set wsX3_set) := goodIn_app (goodIn_of _ (by decide +kernel)) ggX9_put_X3_set
set_option maxRecDepth 20000 in
theorem ggX9_pixel_X9_isWithin : GoodIn wsX9_pixel wsX9_isWithin := goodIn_r _ [5] (by decide +kernel) (by decide +kernel)
set_option maxRecDepth 20000 in
theorem gX9_pixel_X9_isWithin : GoodIn wsX9_pixel (va_wsS RX9 71 yX9_isWithin wsX9_isWithin) := goodIn_app (goodIn_of _ (by decide +kernel)) ggX9_pixel_X9_isWithin
set_option maxRecDepth 20000 in
theorem ggX9_pixel_X3_get : GoodIn wsX9_pixel wsX3_get := goodIn_r _ [10, 11, 20, 21, 22] (by decide +kernel) (by decide +kernel)
set_option maxRecDepth 20000 in
theorem gX9_pixel_X3_get : GoodIn wsX9_pixel (wsV RX9 94 RX3 yX3_get wsX3_get) := goodIn_app (goodIn_of _ (by decide +kernel)) ggX9_pixel_X3_get
set_option maxRecDepth 20000 in
theorem ggX9_pack_X9_isWithin : GoodIn wsX9_pack wsX9_isWithin := goodIn_r _ [11] (by decide +kernel) (by decide +kernel)
set_option maxRecDepth 20000 in
theorem gX9_pack_X9_isWithin : GoodIn wsX9_pack (va_wsS RX9 71 yX9_isWithin wsX9_isWithin) := goodIn_app (goodIn_of _ (by decide +kernel)) ggX9_pack_X9_isWithin
set_option maxRecDepth 20000 in
theorem ggX9_pack_X3_blocks : GoodIn wsX9_pack wsX3_blocks := goodIn_r _ [16, 17, 18, 232, 233, 234] (by decide +kernel) (by decide +kernel)
set_option maxRecDepth 20000 in
theorem gX9_pack_X3_blocks : GoodIn wsX9_pack (wsV RX9 104 RX3 yX3_blocks wsX3_blocks) := goodIn_app (goodIn_of _ (by decide +kernel)) ggX9_pack_X3_blocks
set_option maxRecDepth 20000 in
theorem ggX9_pack_X1_packBlock : GoodIn wsX9_pack wsX1_packBlock := goodIn_r _ [23, 24, 25, 26, 27, 28, 29, 15, 30, 17, 31, 32, 33, 34, 35, 36, 37, 38, 39, 40, 41, 42, 43, 44, 45, 46, 47, 48, 49, 50, 51, 52, 53, 54, 55, 56, 57, 58, 59, 60, 61, 62, 63, 64, 65, 66, 67, 68, 69, 70, 22, 71, 72, 73, 74, 75, 76, 77, 10, 78, 79, 80, 81, 82, 83, 84, 85, 86, 87, 88, 89, 90, 91, 92, 93, 94, 95, 96, 97, 98, 99, 100, 101, 102, 103, 104, 105, 106, 107, 108, 109, 110, 111, 112, 113, 114, 115, 116, 117, 118, 119, 120, 121, 122, 123, 124, 125, 126, 127, 128, 129, 130, 131, 132, 133, 134, 135, 136, 137, 138, 139, 140, 141, 142, 143, 144, 145, 146, 147, 148, 235, 236, 237, 238, 239, 224, 225, 226, 227, 228, 229, 232, 233, 234, 240, 241, 242, 243, 244] (by decide +kernel) (by decide +kernel)
set_option maxRecDepth 20000 in
theorem gX9_pack_X1_packBlock : GoodIn wsX9_pack (wsV RX9 108 RX1 yX1_packBlock wsX1_packBlock) := goodIn_app (goodIn_of _ (by decide +kernel)) ggX9_pack_X1_packBlock
set_option maxRecDepth 20000 in
theorem ggX9_pack_X3_smoothEdges : GoodIn wsX9_pack wsX3_smoothEdges := goodIn_r _ [152, 17, 18, 153, 154, 155, 15, 156, 55, 157, 109, 110, 111, 143, 10, 144, 232, 233, 234] (by decide +kernel) (by decide +kernel)
set_option maxRecDepth 20000 in
theorem gX9_pack_X3_smoothEdges : GoodIn wsX9_pack (wsV RX9 112 RX3 yX3_smoothEdges wsX3_smoothEdges) := goodIn_app (goodIn_of _ (by decide +kernel)) ggX9_pack_X3_smoothEdges
set_option maxRecDepth 20000 in
theorem ggX9_pack_X6_write : GoodIn wsX9_pack wsX6_write := goodIn_r _ [162, 163, 164, 165, 166, 167, 168, 161, 169, 170, 171, 172, 173, 174, 175, 176, 177, 178, 179, 180, 181, 182, 183, 184, 185, 186, 187, 188, 189, 190, 191, 192, 193, 194, 195, 196, 197, 198, 110, 199, 200, 201, 202, 203, 204, 205, 206, 207, 208, 209, 210, 211, 212, 213, 214, 215, 245, 246, 247, 230, 231, 224, 225, 226, 227, 228, 229] (by decide +kernel) (by decide +kernel)
set_option maxRecDepth 20000 in
theorem gX9_pack_X6_write : GoodIn wsX9_pack (wsV RX9 116 RX6 yX6_write wsX6_write) := goodIn_app (goodIn_of _ (by decide +kernel)) ggX9_pack_X6_write
set_option maxRecDepth 20000 in
theorem ggX9_unpack_X5_read : GoodIn wsX9_unpack wsX5_read := goodIn_r _ [10, 11, 12, 13, 14, 15, 16, 17, 18, 19, 20, 21, 22, 9, 23, 24, 25, 26, 27, 28, 29, 30, 31, 32, 33, 34, 35, 36, 37, 38, 39, 40, 41, 42, 43, 44, 45, 46, 47, 48, 49, 50, 51, 52, 53, 54, 55, 56, 57, 58, 59, 60, 61, 62, 63, 64, 65, 66, 67, 68, 69, 70, 71, 72, 73, 74, 75, 76, 77, 78, 79, 80, 81, 82, 83, 84, 85, 86, 87, 88, 89, 90, 91, 92, 93, 94, 95, 96, 97, 98, 99, 100, 101, 102, 103, 104, 105, 106, 244, 245, 246, 247, 248, 238, 239, 240, 241, 242, 243, 249, 250] (by decide +kernel) (by decide +kernel)
set_option maxRecDepth 20000 in
theorem gX9_unpack_X5_read : GoodIn wsX9_unpack (wsV RX9 123 RX5 yX5_read wsX5_read) := goodIn_app (goodIn_of _ (by decide +kernel)) ggX9_unpack_X5_read
set_option maxRecDepth 20000 in
theorem ggX9_unpack_X5_fault : GoodIn wsX9_unpack wsX5_fault := goodIn_r _ [110, 11, 244, 245, 246, 247, 248] (by decide +kernel) (by decide +kernel)
set_option maxRecDepth 20000 in
theorem gX9_unpack_X5_fault : GoodIn wsX9_unpack (wsV RX9 127 RX5 yX5_fault wsX5_fault) := goodIn_app (goodIn_of _ (by decide +kernel)) ggX9_unpack_X5_fault
set_option maxRecDepth 20000 in
theorem ggX9_unpack_X3_clear : GoodIn wsX9_unpack wsX3_clear := goodIn_r _ [115, 116, 117, 118, 251, 252, 253] (by decide +kernel) (by decide +kernel)
set_option maxRecDepth 20000 in
theorem gX9_unpack_X3_clear : GoodIn wsX9_unpack (wsV RX9 78 RX3 yX3_clear wsX3_clear) := goodIn_app (goodIn_of _ (by decide +kernel)) ggX9_unpack_X3_clear
set_option maxRecDepth 20000 in
theorem ggX9_unpack_X3_blocks : GoodIn wsX9_unpack wsX3_blocks := goodIn_r _ [122, 116, 117, 251, 252, 253] (by decide +kernel) (by decide +kernel)
set_option maxRecDepth 20000 in
theorem gX9_unpack_X3_blocks : GoodIn wsX9_unpack (wsV RX9 104 RX3 yX3_blocks wsX3_blocks) := goodIn_app (goodIn_of _ (by decide +kernel)) ggX9_unpack_X3_blocks
set_option maxRecDepth 20000 in
theorem ggX9_unpack_X1_unpackBlock : GoodIn wsX9_unpack wsX1_unpackBlock := goodIn_r _ [127, 128, 129, 130, 131, 132, 133, 134, 135, 136, 137, 138, 139, 140, 141, 114, 142, 116, 143, 144, 145, 146, 147, 148, 149, 150, 151, 152, 153, 154, 118, 155, 156, 157, 158, 159, 160, 161, 162, 163, 164, 165, 166, 167, 168, 169, 126, 170, 171, 172, 173, 174, 175, 176, 177, 178, 179, 180, 181, 182, 183, 184, 185, 186, 187, 188, 189, 190, 191, 192, 193, 194, 195, 196, 197, 198, 199, 200, 201, 202, 203, 204, 205, 206, 207, 208, 209, 210, 211, 212, 213, 90, 214, 215, 216, 217, 218, 254, 255, 256, 257, 238, 239, 240, 241, 242, 243, 258, 259, 260, 261, 262, 251, 252, 253, 263] (by decide +kernel) (by decide +kernel)
set_option maxRecDepth 20000 in
theorem gX9_unpack_X1_unpackBlock : GoodIn wsX9_unpack (wsV RX9 132 RX1 yX1_unpackBlock wsX1_unpackBlock) := goodIn_app (goodIn_of _ (by decide +kernel)) ggX9_unpack_X1_unpackBlock
set_option maxRecDepth 20000 in
theorem ggX9_unpack_X3_smoothEdges : GoodIn wsX9_unpack wsX3_smoothEdges := goodIn_r _ [222, 116, 117, 223, 224, 225, 114, 226, 118, 227, 228, 77, 229, 213, 90, 214, 251, 252, 253] (by decide +kernel) (by decide +kernel)
set_option maxRecDepth 20000 in
theorem gX9_unpack_X3_smoothEdges : GoodIn wsX9_unpack (wsV RX9 112 RX3 yX3_smoothEdges wsX3_smoothEdges) := goodIn_app (goodIn_of _ (by decide +kernel)) ggX9_unpack_X3_smoothEdges
set_option maxRecDepth 20000 in
theorem ggX9_place_X5_faultPlace : GoodIn wsX9_place wsX5_faultPlace := goodIn_r _ [6, 7, 16, 17, 18, 19, 20] (by decide +kernel) (by decide +kernel)
set_option maxRecDepth 20000 in
theorem gX9_place_X5_faultPlace : GoodIn wsX9_place (wsV RX9 135 RX5 yX5_faultPlace wsX5_faultPlace) := goodIn_app (goodIn_of _ (by decide +kernel)) ggX9_place_X5_faultPlace
set_option maxRecDepth 20000 in
theorem ggX9_feed_X9_byteOf : GoodIn wsX9_feed wsX9_byteOf := goodIn_r _ [7] (by decide +kernel) (by decide +kernel)
set_option maxRecDepth 20000 in
theorem gX9_feed_X9_byteOf : GoodIn wsX9_feed (va_wsS RX9 86 yX9_byteOf wsX9_byteOf) := goodIn_app (goodIn_of _ (by decide +kernel)) ggX9_feed_X9_byteOf
set_option maxRecDepth 20000 in
theorem ggX9_feed_X7_add : GoodIn wsX9_feed wsX7_add := goodIn_r _ [12, 13, 14, 15, 16, 11, 17, 18, 27, 28] (by decide +kernel) (by decide +kernel)
set_option maxRecDepth 20000 in
theorem gX9_feed_X7_add : GoodIn wsX9_feed (wsV RX9 141 RX7 yX7_add wsX7_add) := goodIn_app (goodIn_of _ (by decide +kernel)) ggX9_feed_X7_add
set_option maxRecDepth 20000 in
theorem ggX9_end_X9_isWithin : GoodIn wsX9_end wsX9_isWithin := goodIn_r _ [7] (by decide +kernel) (by decide +kernel)
set_option maxRecDepth 20000 in
theorem gX9_end_X9_isWithin : GoodIn wsX9_end (va_wsS RX9 71 yX9_isWithin wsX9_isWithin) := goodIn_app (goodIn_of _ (by decide +kernel)) ggX9_end_X9_isWithin
set_option maxRecDepth 20000 in
theorem ggX9_alter_X9_isWithin : GoodIn wsX9_alter wsX9_isWithin := goodIn_r _ [7] (by decide +kernel) (by decide +kernel)
set_option maxRecDepth 20000 in
theorem gX9_alter_X9_isWithin : GoodIn wsX9_alter (va_wsS RX9 71 yX9_isWithin wsX9_isWithin) := goodIn_app (goodIn_of _ (by decide +kernel)) ggX9_alter_X9_isWithin
set_option maxRecDepth 20000 in
theorem ggX9_alter_X7_get : GoodIn wsX9_alter wsX7_get := goodIn_r _ [12, 13, 26, 27] (by decide +kernel) (by decide +kernel)
set_option maxRecDepth 20000 in
theorem gX9_alter_X7_get : GoodIn wsX9_alter (wsV RX9 144 RX7 yX7_get wsX7_get) := goodIn_app (goodIn_of _ (by decide +kernel)) ggX9_alter_X7_get
set_option maxRecDepth 20000 in
theorem ggX9_alter_X7_set : GoodIn wsX9_alter wsX7_set := goodIn_r _ [17, 13, 26, 27] (by decide +kernel) (by decide +kernel)
set_option maxRecDepth 20000 in
theorem gX9_alter_X7_set : GoodIn wsX9_alter (wsV RX9 147 RX7 yX7_set wsX7_set) := goodIn_app (goodIn_of _ (by decide +kernel)) ggX9_alter_X7_set
set_option maxRecDepth 20000 in
theorem ggX9_bits_X9_isWithin : GoodIn wsX9_bits wsX9_isWithin := goodIn_r _ [5] (by decide +kernel) (by decide +kernel)
set_option maxRecDepth 20000 in
theorem gX9_bits_X9_isWithin : GoodIn wsX9_bits (va_wsS RX9 71 yX9_isWithin wsX9_isWithin) := goodIn_app (goodIn_of _ (by decide +kernel)) ggX9_bits_X9_isWithin
set_option maxRecDepth 20000 in
theorem ggX9_bits_X7_get : GoodIn wsX9_bits wsX7_get := goodIn_r _ [10, 11, 20, 21] (by decide +kernel) (by decide +kernel)
set_option maxRecDepth 20000 in
theorem gX9_bits_X7_get : GoodIn wsX9_bits (wsV RX9 144 RX7 yX7_get wsX7_get) := goodIn_app (goodIn_of _ (by decide +kernel)) ggX9_bits_X7_get
set_option maxRecDepth 20000 in
theorem ggX9_block_X4_blocks : GoodIn wsX9_block wsX4_blocks := goodIn_r _ [8, 9, 10, 23, 24, 25, 26, 27, 28] (by decide +kernel) (by decide +kernel)
set_option maxRecDepth 20000 in
theorem gX9_block_X4_blocks : GoodIn wsX9_block (wsV RX9 149 RX4 yX4_blocks wsX4_blocks) := goodIn_app (goodIn_of _ (by decide +kernel)) ggX9_block_X4_blocks
set_option maxRecDepth 20000 in
theorem ggX9_block_X9_isWithin : GoodIn wsX9_block wsX9_isWithin := goodIn_r _ [14] (by decide +kernel) (by decide +kernel)
set_option maxRecDepth 20000 in
theorem gX9_block_X9_isWithin : GoodIn wsX9_block (va_wsS RX9 71 yX9_isWithin wsX9_isWithin) := goodIn_app (goodIn_of _ (by decide +kernel)) ggX9_block_X9_isWithin
set_option maxRecDepth 20000 in
theorem ggX9_foretold_X3_blocks : GoodIn wsX9_foretold wsX3_blocks := goodIn_r _ [9, 10, 11, 89, 90, 91] (by decide +kernel) (by decide +kernel)
set_option maxRecDepth 20000 in
theorem gX9_foretold_X3_blocks : GoodIn wsX9_foretold (wsV RX9 104 RX3 yX3_blocks wsX3_blocks) := goodIn_app (goodIn_of _ (by decide +kernel)) ggX9_foretold_X3_blocks
set_option maxRecDepth 20000 in
theorem ggX9_foretold_X9_isWithin : GoodIn wsX9_foretold wsX9_isWithin := goodIn_r _ [15] (by decide +kernel) (by decide +kernel)
set_option maxRecDepth 20000 in
theorem gX9_foretold_X9_isWithin : GoodIn wsX9_foretold (va_wsS RX9 71 yX9_isWithin wsX9_isWithin) := goodIn_app (goodIn_of _ (by decide +kernel)) ggX9_foretold_X9_isWithin
set_option maxRecDepth 20000 in
theorem ggX9_foretold_X2_lookAround : GoodIn wsX9_foretold wsX2_lookAround := goodIn_r _ [20, 21, 22, 23, 24, 25, 26, 27, 28, 8, 29, 10, 30, 31, 32, 33, 34, 35, 36, 19, 37, 38, 39, 40, 41, 42, 43, 44, 45, 46, 47, 48, 49, 50, 51, 52, 53, 54, 92, 93, 94, 95, 96, 89, 90, 91] (by decide +kernel) (by decide +kernel)
set_option maxRecDepth 20000 in
theorem gX9_foretold_X2_lookAround : GoodIn wsX9_foretold (wsV RX9 157 RX2 yX2_lookAround wsX2_lookAround) := goodIn_app (goodIn_of _ (by decide +kernel)) ggX9_foretold_X2_lookAround
set_option maxRecDepth 20000 in
theorem ggX9_foretold_X2_mayUse : GoodIn wsX9_foretold wsX2_mayUse := goodIn_r _ [58, 22, 23, 59, 14, 60, 92, 93, 94, 95, 96] (by decide +kernel) (by decide +kernel)
set_option maxRecDepth 20000 in
theorem gX9_foretold_X2_mayUse : GoodIn wsX9_foretold (wsV RX9 160 RX2 yX2_mayUse wsX2_mayUse) := goodIn_app (goodIn_of _ (by decide +kernel)) ggX9_foretold_X2_mayUse
set_option maxRecDepth 20000 in
theorem ggX9_foretold_X2_guess : GoodIn wsX9_foretold wsX2_guess := goodIn_r _ [64, 24, 25, 65, 66, 67, 19, 68, 69, 70, 71, 72, 73, 74, 75, 76, 77, 78, 79, 80, 92, 93, 94, 95, 96] (by decide +kernel) (by decide +kernel)
set_option maxRecDepth 20000 in
theorem gX9_foretold_X2_guess : GoodIn wsX9_foretold (wsV RX9 164 RX2 yX2_guess wsX2_guess) := goodIn_app (goodIn_of _ (by decide +kernel)) ggX9_foretold_X2_guess
