set_option maxRecDepth 20000 in
theorem ggX5_refuseLong_X5_refuse : GoodIn wsX5_refuseLong wsX5_refuse := goodIn_r _ [6, 7, 8, 9, 10, 11, 12, 13, 14, 15, 16, 17, 18, 19, 20, 21, 22, 23, 24, 25, 26, 27, 28, 29, 30, 31, 32, 33, 34, 35, 36, 37, 38, 39, 40, 41, 42, 43, 44, 45, 46, 47, 48, 49, 50, 51, 52, 53, 54, 55, 56, 57, 58, 59, 60, 61, 62, 63, 64, 65, 66, 67] (by decide +kernel) (by decide +kernel)
set_option maxRecDepth 20000 in
theorem gX5_refuseLong_X5_refuse : GoodIn wsX5_refuseLong (wsV RX5 137 RX5 yX5_refuse wsX5_refuse) := goodIn_app (goodIn_of _ (by decide +kernel)) ggX5_refuseLong_X5_refuse
set_option maxRecDepth 20000 in
theorem ggX5_refuseFar_X5_refuse : GoodIn wsX5_refuseFar wsX5_refuse := goodIn_r _ [6, 7, 8, 9, 10, 11, 12, 13, 14, 15, 16, 17, 18, 19, 20, 21, 22, 23, 24, 25, 26, 27, 28, 29, 30, 31, 32, 33, 34, 35, 36, 37, 38, 39, 40, 41, 42, 43, 44, 45, 46, 47, 48, 49, 50, 51, 52, 53, 54, 55, 56, 57, 58, 59, 60, 61, 62, 63, 64, 65, 66, 67] (by decide +kernel) (by decide +kernel)
set_option maxRecDepth 20000 in
theorem gX5_refuseFar_X5_refuse : GoodIn wsX5_refuseFar (wsV RX5 137 RX5 yX5_refuse wsX5_refuse) := goodIn_app (goodIn_of _ (by decide +kernel)) ggX5_refuseFar_X5_refuse
set_option maxRecDepth 20000 in
theorem ggX5_isPerson_X5_in : GoodIn wsX5_isPerson wsX5_in := goodIn_r _ [5] (by decide +kernel) (by decide +kernel)
set_option maxRecDepth 20000 in
theorem gX5_isPerson_X5_in : GoodIn wsX5_isPerson (va_wsS RX5 145 yX5_in wsX5_in) := goodIn_app (goodIn_of _ (by decide +kernel)) ggX5_isPerson_X5_in
set_option maxRecDepth 20000 in
theorem ggX5_isPaper_X5_in : GoodIn wsX5_isPaper wsX5_in := goodIn_r _ [5] (by decide +kernel) (by decide +kernel)
set_option maxRecDepth 20000 in
theorem gX5_isPaper_X5_in : GoodIn wsX5_isPaper (va_wsS RX5 145 yX5_in wsX5_in) := goodIn_app (goodIn_of _ (by decide +kernel)) ggX5_isPaper_X5_in
set_option maxRecDepth 20000 in
theorem ggX5_letter_X5_refuse : GoodIn wsX5_letter wsX5_refuse := goodIn_r _ [7, 8, 9, 10, 11, 12, 13, 14, 15, 16, 17, 18, 19, 20, 21, 22, 23, 24, 25, 26, 27, 28, 29, 30, 31, 32, 33, 34, 35, 36, 37, 38, 39, 40, 41, 42, 43, 44, 45, 46, 47, 48, 49, 50, 51, 52, 53, 54, 55, 56, 57, 58, 59, 60, 61, 62, 63, 64, 65, 66, 67, 68] (by decide +kernel) (by decide +kernel)
set_option maxRecDepth 20000 in
theorem gX5_letter_X5_refuse : GoodIn wsX5_letter (wsV RX5 137 RX5 yX5_refuse wsX5_refuse) := goodIn_app (goodIn_of _ (by decide +kernel)) ggX5_letter_X5_refuse
set_option maxRecDepth 20000 in
theorem ggX5_goesBy_X5_sign : GoodIn wsX5_goesBy wsX5_sign := goodIn_r _ [6, 1, 7, 8, 9, 10, 11, 12, 13, 14, 15, 16, 17, 18, 19, 20, 21, 22, 23, 24, 25, 26, 27, 28, 29, 30, 31, 32, 33, 34, 35, 36, 37, 38, 39, 40, 41, 42, 43, 44, 45, 46, 47, 48, 49, 50, 51, 52, 53, 54, 55, 56, 57, 58, 59, 60, 61, 62, 63, 64, 65, 66, 67, 68] (by decide +kernel) (by decide +kernel)
set_option maxRecDepth 20000 in
theorem gX5_goesBy_X5_sign : GoodIn wsX5_goesBy (wsV RX5 158 RX5 yX5_sign wsX5_sign) := goodIn_app (goodIn_of _ (by decide +kernel)) ggX5_goesBy_X5_sign
set_option maxRecDepth 20000 in
theorem ggX5_numberTo_X5_sign : GoodIn wsX5_numberTo wsX5_sign := goodIn_r _ [7, 1, 8, 9, 13, 14, 15, 16, 17, 18, 19, 20, 21, 22, 23, 24, 25, 26, 27, 28, 29, 30, 31, 32, 33, 34, 35, 36, 37, 38, 39, 40, 41, 42, 43, 44, 45, 46, 47, 48, 49, 50, 51, 52, 53, 54, 55, 56, 57, 58, 59, 60, 61, 62, 63, 64, 65, 66, 67, 68, 69, 70, 71, 72] (by decide +kernel) (by decide +kernel)
set_option maxRecDepth 20000 in
theorem gX5_numberTo_X5_sign : GoodIn wsX5_numberTo (wsV RX5 158 RX5 yX5_sign wsX5_sign) := goodIn_app (goodIn_of _ (by decide +kernel)) ggX5_numberTo_X5_sign
set_option maxRecDepth 20000 in
theorem ggX5_numberTo_X5_in : GoodIn wsX5_numberTo wsX5_in := goodIn_r _ [12] (by decide +kernel) (by decide +kernel)
set_option maxRecDepth 20000 in
theorem gX5_numberTo_X5_in : GoodIn wsX5_numberTo (va_wsS RX5 145 yX5_in wsX5_in) := goodIn_app (goodIn_of _ (by decide +kernel)) ggX5_numberTo_X5_in
set_option maxRecDepth 20000 in
theorem ggX5_personTold_X5_sign : GoodIn wsX5_personTold wsX5_sign := goodIn_r _ [7, 1, 8, 9, 20, 21, 22, 23, 24, 25, 26, 27, 28, 29, 30, 31, 32, 33, 34, 35, 36, 37, 38, 39, 40, 41, 42, 43, 44, 45, 46, 47, 48, 49, 50, 51, 52, 53, 54, 55, 56, 57, 58, 59, 60, 61, 62, 63, 64, 65, 66, 67, 68, 69, 70, 71, 72, 73, 74, 75, 76, 77, 78, 79] (by decide +kernel) (by decide +kernel)
set_option maxRecDepth 20000 in
theorem gX5_personTold_X5_sign : GoodIn wsX5_personTold (wsV RX5 158 RX5 yX5_sign wsX5_sign) := goodIn_app (goodIn_of _ (by decide +kernel)) ggX5_personTold_X5_sign
set_option maxRecDepth 20000 in
theorem ggX5_personTold_X5_kindOf : GoodIn wsX5_personTold wsX5_kindOf := goodIn_r _ [12] (by decide +kernel) (by decide +kernel)
set_option maxRecDepth 20000 in
theorem gX5_personTold_X5_kindOf : GoodIn wsX5_personTold (va_wsS RX5 162 yX5_kindOf wsX5_kindOf) := goodIn_app (goodIn_of _ (by decide +kernel)) ggX5_personTold_X5_kindOf
set_option maxRecDepth 20000 in
theorem ggX5_personTold_X5_numberTo : GoodIn wsX5_personTold wsX5_numberTo := goodIn_r _ [16, 1, 2, 3, 4, 5, 6, 7, 8, 9, 17, 18, 19, 20, 21, 22, 23, 24, 25, 26, 27, 28, 29, 30, 31, 32, 33, 34, 35, 36, 37, 38, 39, 40, 41, 42, 43, 44, 45, 46, 47, 48, 49, 50, 51, 52, 53, 54, 55, 56, 57, 58, 59, 60, 61, 62, 63, 64, 65, 66, 67, 68, 69, 70, 71, 72, 73, 74, 75, 76, 77, 78, 79] (by decide +kernel) (by decide +kernel)
set_option maxRecDepth 20000 in
theorem gX5_personTold_X5_numberTo : GoodIn wsX5_personTold (wsV RX5 165 RX5 yX5_numberTo wsX5_numberTo) := goodIn_app (goodIn_of _ (by decide +kernel)) ggX5_personTold_X5_numberTo
set_option maxRecDepth 20000 in
theorem ggX5_paperTold_X5_sign : GoodIn wsX5_paperTold wsX5_sign := goodIn_r _ [7, 1, 8, 9, 21, 22, 23, 24, 25, 26, 27, 28, 29, 30, 31, 32, 33, 34, 35, 36, 37, 38, 39, 40, 41, 42, 43, 44, 45, 46, 47, 48, 49, 50, 51, 52, 53, 54, 55, 56, 57, 58, 59, 60, 61, 62, 63, 64, 65, 66, 67, 68, 69, 70, 71, 72, 73, 74, 75, 76, 77, 78, 79, 80] (by decide +kernel) (by decide +kernel)
set_option maxRecDepth 20000 in
theorem gX5_paperTold_X5_sign : GoodIn wsX5_paperTold (wsV RX5 158 RX5 yX5_sign wsX5_sign) := goodIn_app (goodIn_of _ (by decide +kernel)) ggX5_paperTold_X5_sign
set_option maxRecDepth 20000 in
theorem ggX5_paperTold_X5_in : GoodIn wsX5_paperTold wsX5_in := goodIn_r _ [12] (by decide +kernel) (by decide +kernel)
set_option maxRecDepth 20000 in
theorem gX5_paperTold_X5_in : GoodIn wsX5_paperTold (va_wsS RX5 145 yX5_in wsX5_in) := goodIn_app (goodIn_of _ (by decide +kernel)) ggX5_paperTold_X5_in
set_option maxRecDepth 20000 in
theorem ggX5_paperTold_X5_goesBy : GoodIn wsX5_paperTold wsX5_goesBy := goodIn_r _ [16, 1, 3, 4, 5, 6, 7, 8, 9, 21, 22, 23, 24, 25, 26, 27, 28, 29, 30, 31, 32, 33, 34, 35, 36, 37, 38, 39, 40, 41, 42, 43, 44, 45, 46, 47, 48, 49, 50, 51, 52, 53, 54, 55, 56, 57, 58, 59, 60, 61, 62, 63, 64, 65, 66, 67, 68, 69, 70, 71, 72, 73, 74, 75, 76, 77, 78, 79, 80] (by decide +kernel) (by decide +kernel)
set_option maxRecDepth 20000 in
theorem gX5_paperTold_X5_goesBy : GoodIn wsX5_paperTold (wsV RX5 169 RX5 yX5_goesBy wsX5_goesBy) := goodIn_app (goodIn_of _ (by decide +kernel)) ggX5_paperTold_X5_goesBy
set_option maxRecDepth 20000 in
theorem ggX5_paperTold_X5_numberTo : GoodIn wsX5_paperTold wsX5_numberTo := goodIn_r _ [20, 1, 2, 3, 4, 5, 6, 7, 8, 9, 10, 11, 12, 21, 22, 23, 24, 25, 26, 27, 28, 29, 30, 31, 32, 33, 34, 35, 36, 37, 38, 39, 40, 41, 42, 43, 44, 45, 46, 47, 48, 49, 50, 51, 52, 53, 54, 55, 56, 57, 58, 59, 60, 61, 62, 63, 64, 65, 66, 67, 68, 69, 70, 71, 72, 73, 74, 75, 76, 77, 78, 79, 80] (by decide +kernel) (by decide +kernel)
set_option maxRecDepth 20000 in
theorem gX5_paperTold_X5_numberTo : GoodIn wsX5_paperTold (wsV RX5 165 RX5 yX5_numberTo wsX5_numberTo) := goodIn_app (goodIn_of _ (by decide +kernel)) ggX5_paperTold_X5_numberTo
set_option maxRecDepth 20000 in
theorem ggX5_statementTold_X5_sign : GoodIn wsX5_statementTold wsX5_sign := goodIn_r _ [9, 3, 10, 11, 35, 36, 37, 38, 39, 40, 41, 42, 43, 44, 45, 46, 47, 48, 49, 50, 51, 52, 53, 54, 55, 56, 57, 58, 59, 60, 61, 62, 63, 64, 65, 66, 67, 68, 69, 70, 71, 72, 73, 74, 75, 76, 77, 78, 79, 80, 81, 82, 83, 84, 85, 86, 87, 88, 89, 90, 91, 92, 93, 94] (by decide +kernel) (by decide +kernel)
set_option maxRecDepth 20000 in
theorem gX5_statementTold_X5_sign : GoodIn wsX5_statementTold (wsV RX5 158 RX5 yX5_sign wsX5_sign) := goodIn_app (goodIn_of _ (by decide +kernel)) ggX5_statementTold_X5_sign
set_option maxRecDepth 20000 in
theorem ggX5_statementTold_X5_personTold : GoodIn wsX5_statementTold wsX5_personTold := goodIn_r _ [15, 3, 16, 5, 6, 7, 8, 9, 10, 11, 17, 18, 19, 20, 21, 22, 23, 24, 25, 26, 35, 36, 37, 38, 39, 40, 41, 42, 43, 44, 45, 46, 47, 48, 49, 50, 51, 52, 53, 54, 55, 56, 57, 58, 59, 60, 61, 62, 63, 64, 65, 66, 67, 68, 69, 70, 71, 72, 73, 74, 75, 76, 77, 78, 79, 80, 81, 82, 83, 84, 85, 86, 87, 88, 89, 90, 91, 92, 93, 94] (by decide +kernel) (by decide +kernel)
set_option maxRecDepth 20000 in
theorem gX5_statementTold_X5_personTold : GoodIn wsX5_statementTold (wsV RX5 176 RX5 yX5_personTold wsX5_personTold) := goodIn_app (goodIn_of _ (by decide +kernel)) ggX5_statementTold_X5_personTold
set_option maxRecDepth 20000 in
theorem ggX5_statementTold_X5_paperTold : GoodIn wsX5_statementTold wsX5_paperTold := goodIn_r _ [30, 3, 16, 5, 6, 7, 8, 9, 10, 11, 24, 25, 26, 31, 32, 33, 34, 20, 21, 22, 23, 35, 36, 37, 38, 39, 40, 41, 42, 43, 44, 45, 46, 47, 48, 49, 50, 51, 52, 53, 54, 55, 56, 57, 58, 59, 60, 61, 62, 63, 64, 65, 66, 67, 68, 69, 70, 71, 72, 73, 74, 75, 76, 77, 78, 79, 80, 81, 82, 83, 84, 85, 86, 87, 88, 89, 90, 91, 92, 93, 94] (by decide +kernel) (by decide +kernel)
set_option maxRecDepth 20000 in
theorem gX5_statementTold_X5_paperTold : GoodIn wsX5_statementTold (wsV RX5 179 RX5 yX5_paperTold wsX5_paperTold) := goodIn_app (goodIn_of _ (by decide +kernel)) ggX5_statementTold_X5_paperTold
set_option maxRecDepth 20000 in
theorem ggX5_statementTold_X5_numberTo : GoodIn wsX5_statementTold wsX5_numberTo := goodIn_r _ [23, 3, 16, 5, 6, 7, 8, 9, 10, 11, 24, 25, 26, 35, 36, 37, 38, 39, 40, 41, 42, 43, 44, 45, 46, 47, 48, 49, 50, 51, 52, 53, 54, 55, 56, 57, 58, 59, 60, 61, 62, 63, 64, 65, 66, 67, 68, 69, 70, 71, 72, 73, 74, 75, 76, 77, 78, 79, 80, 81, 82, 83, 84, 85, 86, 87, 88, 89, 90, 91, 92, 93, 94] (by decide +kernel) (by decide +kernel)
set_option maxRecDepth 20000 in
theorem gX5_statementTold_X5_numberTo : GoodIn wsX5_statementTold (wsV RX5 165 RX5 yX5_numberTo wsX5_numberTo) := goodIn_app (goodIn_of _ (by decide +kernel)) ggX5_statementTold_X5_numberTo
set_option maxRecDepth 20000 in
theorem ggX5_statementTold_X5_goesBy : GoodIn wsX5_statementTold wsX5_goesBy := goodIn_r _ [34, 3, 5, 6, 7, 8, 9, 10, 11, 35, 36, 37, 38, 39, 40, 41, 42, 43, 44, 45, 46, 47, 48, 49, 50, 51, 52, 53, 54, 55, 56, 57, 58, 59, 60, 61, 62, 63, 64, 65, 66, 67, 68, 69, 70, 71, 72, 73, 74, 75, 76, 77, 78, 79, 80, 81, 82, 83, 84, 85, 86, 87, 88, 89, 90, 91, 92, 93, 94] (by decide +kernel) (by decide +kernel)
set_option maxRecDepth 20000 in
theorem gX5_statementTold_X5_goesBy : GoodIn wsX5_statementTold (wsV RX5 169 RX5 yX5_goesBy wsX5_goesBy) := goodIn_app (goodIn_of _ (by decide +kernel)) ggX5_statementTold_X5_goesBy
set_option maxRecDepth 20000 in
theorem ggX5_least_X5_common : GoodIn wsX5_least wsX5_common := goodIn_r _ [5] (by decide +kernel) (by decide +kernel)
set_option maxRecDepth 20000 in
theorem gX5_least_X5_common : GoodIn wsX5_least (va_wsS RX5 182 yX5_common wsX5_common) := goodIn_app (goodIn_of _ (by decide +kernel)) ggX5_least_X5_common
set_option maxRecDepth 20000 in
theorem ggX5_comes_X5_fromOf : GoodIn wsX5_comes wsX5_fromOf := goodIn_r _ [23] (by decide +kernel) (by decide +kernel)
set_option maxRecDepth 20000 in
theorem gX5_comes_X5_fromOf : GoodIn wsX5_comes (va_wsS RX5 186 yX5_fromOf wsX5_fromOf) := goodIn_app (goodIn_of _ (by decide +kernel)) ggX5_comes_X5_fromOf
set_option maxRecDepth 20000 in
theorem ggX5_comes_X5_least : GoodIn wsX5_comes wsX5_least := goodIn_r _ [27, 17, 28, 29, 22, 30, 31, 32, 33, 34, 35, 36, 37, 38, 39, 40, 41, 42, 43, 44, 45, 46, 47, 48, 49, 50, 51, 52, 53, 54, 55, 56, 57, 58, 59, 60, 61, 62, 63, 64, 65, 66, 67, 68, 69, 70, 71, 72, 73, 74, 75, 76, 77, 78, 79, 80, 81, 82, 83, 84, 85, 86, 87, 88, 89, 90] (by decide +kernel) (by decide +kernel)
set_option maxRecDepth 20000 in
theorem gX5_comes_X5_least : GoodIn wsX5_comes (wsV RX5 190 RX5 yX5_least wsX5_least) := goodIn_app (goodIn_of _ (by decide +kernel)) ggX5_comes_X5_least
set_option maxRecDepth 20000 in
theorem ggX5_town_X5_statementTold : GoodIn wsX5_town wsX5_statementTold := goodIn_r _ [9, 2, 4, 1, 10, 11, 12, 13, 8, 14, 3, 15, 16, 17, 18, 19, 20, 21, 22, 23, 24, 25, 26, 27, 28, 29, 30, 31, 32, 33, 34, 35, 36, 37, 38, 74, 75, 76, 77, 78, 79, 80, 81, 82, 83, 84, 85, 86, 87, 88, 89, 90, 91, 92, 93, 94, 95, 96, 97, 98, 99, 100, 101, 102, 103, 104, 105, 106, 107, 108, 109, 110, 111, 112, 113, 114, 115, 116, 117, 118, 119, 120, 121, 122, 123, 124, 125, 126, 127, 128, 129, 130, 131, 132, 133] (by decide +kernel) (by decide +kernel)
set_option maxRecDepth 20000 in
theorem gX5_town_X5_statementTold : GoodIn wsX5_town (wsV RX5 197 RX5 yX5_statementTold wsX5_statementTold) := goodIn_app (goodIn_of _ (by decide +kernel)) ggX5_town_X5_statementTold
set_option maxRecDepth 20000 in
theorem ggX5_town_X5_wrongOne : GoodIn wsX5_town wsX5_wrongOne := goodIn_r _ [42, 43, 44, 2, 10, 20, 74, 75, 76, 77, 78, 79, 80, 81, 82, 83, 84, 85, 86, 87, 88, 89, 90, 91, 92, 93, 94, 95, 96, 97, 98, 99, 100, 101, 102, 103, 104, 105, 106, 107, 108, 109, 110, 111, 112, 113, 114, 115, 116, 117, 118, 119, 120, 121, 122, 123, 124, 125, 126, 127, 128, 129, 130, 131, 132, 133] (by decide +kernel) (by decide +kernel)
set_option maxRecDepth 20000 in
theorem gX5_town_X5_wrongOne : GoodIn wsX5_town (wsV RX5 201 RX5 yX5_wrongOne wsX5_wrongOne) := goodIn_app (goodIn_of _ (by decide +kernel)) ggX5_town_X5_wrongOne
set_option maxRecDepth 20000 in
theorem ggX5_town_X5_comes : GoodIn wsX5_town wsX5_comes := goodIn_r _ [48, 10, 49, 43, 20, 50, 51, 52, 53, 44, 54, 55, 56, 57, 58, 59, 60, 61, 62, 63, 64, 65, 8, 66, 67, 68, 69, 70, 71, 72, 73, 74, 75, 76, 77, 78, 79, 80, 81, 82, 83, 84, 85, 86, 87, 88, 89, 90, 91, 92, 93, 94, 95, 96, 97, 98, 99, 100, 101, 102, 103, 104, 105, 106, 107, 108, 109, 110, 111, 112, 113, 114, 115, 116, 117, 118, 119, 120, 121, 122, 123, 124, 125, 126, 127, 128, 129, 130, 131, 132, 133] (by decide +kernel) (by decide +kernel)
set_option maxRecDepth 20000 in
theorem gX5_town_X5_comes : GoodIn wsX5_town (wsV RX5 204 RX5 yX5_comes wsX5_comes) := goodIn_app (goodIn_of _ (by decide +kernel)) ggX5_town_X5_comes
set_option maxRecDepth 20000 in
theorem ggX5_bindsOf_X5_isBound : GoodIn wsX5_bindsOf wsX5_isBound := goodIn_r _ [6, 7, 8, 9, 10, 11, 12, 13, 14, 15, 16, 17, 18, 19, 20, 21, 22, 23, 24, 25, 26, 27, 28, 29, 30, 31, 32, 33, 34, 35, 36, 37, 38, 39, 40, 41, 42, 43, 44, 45, 46, 47, 48, 49, 50, 51, 52, 53, 54, 55, 56, 57, 58, 59, 60, 61, 62, 63, 64, 65, 66, 67] (by decide +kernel) (by decide +kernel)
set_option maxRecDepth 20000 in
theorem gX5_bindsOf_X5_isBound : GoodIn wsX5_bindsOf (wsV RX5 207 RX5 yX5_isBound wsX5_isBound) := goodIn_app (goodIn_of _ (by decide +kernel)) ggX5_bindsOf_X5_isBound
set_option maxRecDepth 20000 in
theorem ggX5_readBy_X5_hasRead : GoodIn wsX5_readBy wsX5_hasRead := goodIn_r _ [6, 7, 8, 9, 10, 11, 12, 13, 14, 15, 16, 17, 18, 19, 20, 21, 22, 23, 24, 25, 26, 27, 28, 29, 30, 31, 32, 33, 34, 35, 36, 37, 38, 39, 40, 41, 42, 43, 44, 45, 46, 47, 48, 49, 50, 51, 52, 53, 54, 55, 56, 57, 58, 59, 60, 61, 62, 63, 64, 65, 66, 67] (by decide +kernel) (by decide +kernel)
set_option maxRecDepth 20000 in
theorem gX5_readBy_X5_hasRead : GoodIn wsX5_readBy (wsV RX5 210 RX5 yX5_hasRead wsX5_hasRead) := goodIn_app (goodIn_of _ (by decide +kernel)) ggX5_readBy_X5_hasRead
set_option maxRecDepth 20000 in
theorem ggX5_person_X5_isPerson : GoodIn wsX5_person wsX5_isPerson := goodIn_r _ [8, 9, 10, 11, 7, 12, 37, 38, 39, 40, 41, 42, 43, 44, 45, 46, 47, 48, 49, 50, 51, 52, 53, 54, 55, 56, 57, 58, 59, 60, 61, 62, 63, 64, 65, 66, 67, 68, 69, 70, 71, 72, 73, 74, 75, 76, 77, 78, 79, 80, 81, 82, 83, 84, 85, 86, 87, 88, 89, 90, 91, 92, 93, 94, 95, 96] (by decide +kernel) (by decide +kernel)
set_option maxRecDepth 20000 in
theorem gX5_person_X5_isPerson : GoodIn wsX5_person (wsV RX5 213 RX5 yX5_isPerson wsX5_isPerson) := goodIn_app (goodIn_of _ (by decide +kernel)) ggX5_person_X5_isPerson
set_option maxRecDepth 20000 in
theorem ggX5_person_X5_refuse : GoodIn wsX5_person wsX5_refuse := goodIn_r _ [16, 17, 37, 38, 39, 40, 41, 42, 43, 44, 45, 46, 47, 48, 49, 50, 51, 52, 53, 54, 55, 56, 57, 58, 59, 60, 61, 62, 63, 64, 65, 66, 67, 68, 69, 70, 71, 72, 73, 74, 75, 76, 77, 78, 79, 80, 81, 82, 83, 84, 85, 86, 87, 88, 89, 90, 91, 92, 93, 94, 95, 96] (by decide +kernel) (by decide +kernel)
set_option maxRecDepth 20000 in
theorem gX5_person_X5_refuse : GoodIn wsX5_person (wsV RX5 137 RX5 yX5_refuse wsX5_refuse) := goodIn_app (goodIn_of _ (by decide +kernel)) ggX5_person_X5_refuse
set_option maxRecDepth 20000 in
theorem ggX5_person_X5_bindsOf : GoodIn wsX5_person wsX5_bindsOf := goodIn_r _ [21, 22, 23, 24, 25, 7, 26, 27, 37, 38, 39, 40, 41, 42, 43, 44, 45, 46, 47, 48, 49, 50, 51, 52, 53, 54, 55, 56, 57, 58, 59, 60, 61, 62, 63, 64, 65, 66, 67, 68, 69, 70, 71, 72, 73, 74, 75, 76, 77, 78, 79, 80, 81, 82, 83, 84, 85, 86, 87, 88, 89, 90, 91, 92, 93, 94, 95, 96] (by decide +kernel) (by decide +kernel)
set_option maxRecDepth 20000 in
theorem gX5_person_X5_bindsOf : GoodIn wsX5_person (wsV RX5 216 RX5 yX5_bindsOf wsX5_bindsOf) := goodIn_app (goodIn_of _ (by decide +kernel)) ggX5_person_X5_bindsOf
set_option maxRecDepth 20000 in
theorem ggX5_person_X5_readBy : GoodIn wsX5_person wsX5_readBy := goodIn_r _ [31, 22, 32, 33, 34, 7, 35, 36, 37, 38, 39, 40, 41, 42, 43, 44, 45, 46, 47, 48, 49, 50, 51, 52, 53, 54, 55, 56, 57, 58, 59, 60, 61, 62, 63, 64, 65, 66, 67, 68, 69, 70, 71, 72, 73, 74, 75, 76, 77, 78, 79, 80, 81, 82, 83, 84, 85, 86, 87, 88, 89, 90, 91, 92, 93, 94, 95, 96] (by decide +kernel) (by decide +kernel)
set_option maxRecDepth 20000 in
theorem gX5_person_X5_readBy : GoodIn wsX5_person (wsV RX5 219 RX5 yX5_readBy wsX5_readBy) := goodIn_app (goodIn_of _ (by decide +kernel)) ggX5_person_X5_readBy
set_option maxRecDepth 20000 in
theorem ggX5_forceBy_X5_ones : GoodIn wsX5_forceBy wsX5_ones := goodIn_r _ [5] (by decide +kernel) (by decide +kernel)
set_option maxRecDepth 20000 in
theorem gX5_forceBy_X5_ones : GoodIn wsX5_forceBy (va_wsS RX5 222 yX5_ones wsX5_ones) := goodIn_app (goodIn_of _ (by decide +kernel)) ggX5_forceBy_X5_ones
set_option maxRecDepth 20000 in
theorem ggX5_isForce_X5_ones : GoodIn wsX5_isForce wsX5_ones := goodIn_r _ [6] (by decide +kernel) (by decide +kernel)
set_option maxRecDepth 20000 in
theorem gX5_isForce_X5_ones : GoodIn wsX5_isForce (va_wsS RX5 222 yX5_ones wsX5_ones) := goodIn_app (goodIn_of _ (by decide +kernel)) ggX5_isForce_X5_ones
set_option maxRecDepth 20000 in
theorem ggX5_isForce_X5_forceBy : GoodIn wsX5_isForce wsX5_forceBy := goodIn_r _ [10, 11, 3, 4, 5, 6, 12, 13, 14, 15, 16, 17, 18, 19, 20, 21, 22, 23, 24, 25, 26, 27, 28, 29, 30, 31, 32, 33, 34, 35, 36, 37, 38, 39, 40, 41, 42, 43, 44, 45, 46, 47, 48, 49, 50, 51, 52, 53, 54, 55, 56, 57, 58, 59, 60, 61, 62, 63, 64, 65, 66, 67, 68, 69, 70, 71] (by decide +kernel) (by decide +kernel)
set_option maxRecDepth 20000 in
theorem gX5_isForce_X5_forceBy : GoodIn wsX5_isForce (wsV RX5 225 RX5 yX5_forceBy wsX5_forceBy) := goodIn_app (goodIn_of _ (by decide +kernel)) ggX5_isForce_X5_forceBy
set_option maxRecDepth 20000 in
theorem ggX5_paper_X5_isPaper : GoodIn wsX5_paper wsX5_isPaper := goodIn_r _ [10, 11, 12, 13, 9, 14, 32, 33, 34, 35, 36, 37, 38, 39, 40, 41, 42, 43, 44, 45, 46, 47, 48, 49, 50, 51, 52, 53, 54, 55, 56, 57, 58, 59, 60, 61, 62, 63, 64, 65, 66, 67, 68, 69, 70, 71, 72, 73, 74, 75, 76, 77, 78, 79, 80, 81, 82, 83, 84, 85, 86, 87, 88, 89, 90, 91] (by decide +kernel) (by decide +kernel)
set_option maxRecDepth 20000 in
theorem gX5_paper_X5_isPaper : GoodIn wsX5_paper (wsV RX5 228 RX5 yX5_isPaper wsX5_isPaper) := goodIn_app (goodIn_of _ (by decide +kernel)) ggX5_paper_X5_isPaper
set_option maxRecDepth 20000 in
theorem ggX5_paper_X5_refuse : GoodIn wsX5_paper wsX5_refuse := goodIn_r _ [18, 19, 32, 33, 34, 35, 36, 37, 38, 39, 40, 41, 42, 43, 44, 45, 46, 47, 48, 49, 50, 51, 52, 53, 54, 55, 56, 57, 58, 59, 60, 61, 62, 63, 64, 65, 66, 67, 68, 69, 70, 71, 72, 73, 74, 75, 76, 77, 78, 79, 80, 81, 82, 83, 84, 85, 86, 87, 88, 89, 90, 91] (by decide +kernel) (by decide +kernel)
set_option maxRecDepth 20000 in
theorem gX5_paper_X5_refuse : GoodIn wsX5_paper (wsV RX5 137 RX5 yX5_refuse wsX5_refuse) := goodIn_app (goodIn_of _ (by decide +kernel)) ggX5_paper_X5_refuse
set_option maxRecDepth 20000 in
theorem ggX5_paper_X5_isForce : GoodIn wsX5_paper wsX5_isForce := goodIn_r _ [23, 24, 4, 25, 26, 9, 27, 28, 29, 30, 31, 1, 32, 33, 34, 35, 36, 37, 38, 39, 40, 41, 42, 43, 44, 45, 46, 47, 48, 49, 50, 51, 52, 53, 54, 55, 56, 57, 58, 59, 60, 61, 62, 63, 64, 65, 66, 67, 68, 69, 70, 71, 72, 73, 74, 75, 76, 77, 78, 79, 80, 81, 82, 83, 84, 85, 86, 87, 88, 89, 90, 91] (by decide +kernel) (by decide +kernel)
set_option maxRecDepth 20000 in
theorem gX5_paper_X5_isForce : GoodIn wsX5_paper (wsV RX5 231 RX5 yX5_isForce wsX5_isForce) := goodIn_app (goodIn_of _ (by decide +kernel)) ggX5_paper_X5_isForce
set_option maxRecDepth 20000 in
theorem ggX5_brings_X5_isPaper : GoodIn wsX5_brings wsX5_isPaper := goodIn_r _ [6, 7, 8, 9, 5, 10, 21, 22, 23, 24, 25, 26, 27, 28, 29, 30, 31, 32, 33, 34, 35, 36, 37, 38, 39, 40, 41, 42, 43, 44, 45, 46, 47, 48, 49, 50, 51, 52, 53, 54, 55, 56, 57, 58, 59, 60, 61, 62, 63, 64, 65, 66, 67, 68, 69, 70, 71, 72, 73, 74, 75, 76, 77, 78, 79, 80] (by decide +kernel) (by decide +kernel)
set_option maxRecDepth 20000 in
theorem gX5_brings_X5_isPaper : GoodIn wsX5_brings (wsV RX5 228 RX5 yX5_isPaper wsX5_isPaper) := goodIn_app (goodIn_of _ (by decide +kernel)) ggX5_brings_X5_isPaper
set_option maxRecDepth 20000 in
theorem ggX5_brings_X5_in : GoodIn wsX5_brings wsX5_in := goodIn_r _ [10] (by decide +kernel) (by decide +kernel)
set_option maxRecDepth 20000 in
theorem gX5_brings_X5_in : GoodIn wsX5_brings (va_wsS RX5 145 yX5_in wsX5_in) := goodIn_app (goodIn_of _ (by decide +kernel)) ggX5_brings_X5_in
set_option maxRecDepth 20000 in
theorem ggX5_brings_X5_refuseFar : GoodIn wsX5_brings wsX5_refuseFar := goodIn_r _ [14, 15, 16, 17, 18, 5, 19, 20, 21, 22, 23, 24, 25, 26, 27, 28, 29, 30, 31, 32, 33, 34, 35, 36, 37, 38, 39, 40, 41, 42, 43, 44, 45, 46, 47, 48, 49, 50, 51, 52, 53, 54, 55, 56, 57, 58, 59, 60, 61, 62, 63, 64, 65, 66, 67, 68, 69, 70, 71, 72, 73, 74, 75, 76, 77, 78, 79, 80] (by decide +kernel) (by decide +kernel)
set_option maxRecDepth 20000 in
theorem gX5_brings_X5_refuseFar : GoodIn wsX5_brings (wsV RX5 234 RX5 yX5_refuseFar wsX5_refuseFar) := goodIn_app (goodIn_of _ (by decide +kernel)) ggX5_brings_X5_refuseFar
set_option maxRecDepth 20000 in
theorem ggX5_truth_X5_isPaper : GoodIn wsX5_truth wsX5_isPaper := goodIn_r _ [7, 8, 9, 10, 6, 11, 17, 18, 19, 20, 21, 22, 23, 24, 25, 26, 27, 28, 29, 30, 31, 32, 33, 34, 35, 36, 37, 38, 39, 40, 41, 42, 43, 44, 45, 46, 47, 48, 49, 50, 51, 52, 53, 54, 55, 56, 57, 58, 59, 60, 61, 62, 63, 64, 65, 66, 67, 68, 69, 70, 71, 72, 73, 74, 75, 76] (by decide +kernel) (by decide +kernel)
set_option maxRecDepth 20000 in
theorem gX5_truth_X5_isPaper : GoodIn wsX5_truth (wsV RX5 228 RX5 yX5_isPaper wsX5_isPaper) := goodIn_app (goodIn_of _ (by decide +kernel)) ggX5_truth_X5_isPaper
set_option maxRecDepth 20000 in
theorem ggX5_truth_X5_in : GoodIn wsX5_truth wsX5_in := goodIn_r _ [11] (by decide +kernel) (by decide +kernel)
set_option maxRecDepth 20000 in
theorem gX5_truth_X5_in : GoodIn wsX5_truth (va_wsS RX5 145 yX5_in wsX5_in) := goodIn_app (goodIn_of _ (by decide +kernel)) ggX5_truth_X5_in
set_option maxRecDepth 20000 in
theorem ggX5_truth_X5_refuse : GoodIn wsX5_truth wsX5_refuse := goodIn_r _ [15, 16, 17, 18, 19, 20, 21, 22, 23, 24, 25, 26, 27, 28, 29, 30, 31, 32, 33, 34, 35, 36, 37, 38, 39, 40, 41, 42, 43, 44, 45, 46, 47, 48, 49, 50, 51, 52, 53, 54, 55, 56, 57, 58, 59, 60, 61, 62, 63, 64, 65, 66, 67, 68, 69, 70, 71, 72, 73, 74, 75, 76] (by decide +kernel) (by decide +kernel)
set_option maxRecDepth 20000 in
theorem gX5_truth_X5_refuse : GoodIn wsX5_truth (wsV RX5 137 RX5 yX5_refuse wsX5_refuse) := goodIn_app (goodIn_of _ (by decide +kernel)) ggX5_truth_X5_refuse
set_option maxRecDepth 20000 in
theorem ggX5_law_X5_in : GoodIn wsX5_law wsX5_in := goodIn_r _ [5] (by decide +kernel) (by decide +kernel)
set_option maxRecDepth 20000 in
theorem gX5_law_X5_in : GoodIn wsX5_law (va_wsS RX5 145 yX5_in wsX5_in) := goodIn_app (goodIn_of _ (by decide +kernel)) ggX5_law_X5_in
set_option maxRecDepth 20000 in
theorem ggX5_law_X5_refuse : GoodIn wsX5_law wsX5_refuse := goodIn_r _ [9, 10, 11, 12, 13, 14, 15, 16, 17, 18, 19, 20, 21, 22, 23, 24, 25, 26, 27, 28, 29, 30, 31, 32, 33, 34, 35, 36, 37, 38, 39, 40, 41, 42, 43, 44, 45, 46, 47, 48, 49, 50, 51, 52, 53, 54, 55, 56, 57, 58, 59, 60, 61, 62, 63, 64, 65, 66, 67, 68, 69, 70] (by decide +kernel) (by decide +kernel)
set_option maxRecDepth 20000 in
theorem gX5_law_X5_refuse : GoodIn wsX5_law (wsV RX5 137 RX5 yX5_refuse wsX5_refuse) := goodIn_app (goodIn_of _ (by decide +kernel)) ggX5_law_X5_refuse
set_option maxRecDepth 20000 in
theorem ggX5_mayRead_X5_isPerson : GoodIn wsX5_mayRead wsX5_isPerson := goodIn_r _ [5, 6, 7, 8, 4, 9, 32, 33, 34, 35, 36, 37, 38, 39, 40, 41, 42, 43, 44, 45, 46, 47, 48, 49, 50, 51, 52, 53, 54, 55, 56, 57, 58, 59, 60, 61, 62, 63, 64, 65, 66, 67, 68, 69, 70, 71, 72, 73, 74, 75, 76, 77, 78, 79, 80, 81, 82, 83, 84, 85, 86, 87, 88, 89, 90, 91] (by decide +kernel) (by decide +kernel)
set_option maxRecDepth 20000 in
theorem gX5_mayRead_X5_isPerson : GoodIn wsX5_mayRead (wsV RX5 213 RX5 yX5_isPerson wsX5_isPerson) := goodIn_app (goodIn_of _ (by decide +kernel)) ggX5_mayRead_X5_isPerson
set_option maxRecDepth 20000 in
theorem ggX5_mayRead_X5_isBound : GoodIn wsX5_mayRead wsX5_isBound := goodIn_r _ [13, 14, 32, 33, 34, 35, 36, 37, 38, 39, 40, 41, 42, 43, 44, 45, 46, 47, 48, 49, 50, 51, 52, 53, 54, 55, 56, 57, 58, 59, 60, 61, 62, 63, 64, 65, 66, 67, 68, 69, 70, 71, 72, 73, 74, 75, 76, 77, 78, 79, 80, 81, 82, 83, 84, 85, 86, 87, 88, 89, 90, 91] (by decide +kernel) (by decide +kernel)
set_option maxRecDepth 20000 in
theorem gX5_mayRead_X5_isBound : GoodIn wsX5_mayRead (wsV RX5 207 RX5 yX5_isBound wsX5_isBound) := goodIn_app (goodIn_of _ (by decide +kernel)) ggX5_mayRead_X5_isBound
set_option maxRecDepth 20000 in
theorem ggX5_mayRead_X5_hasRead : GoodIn wsX5_mayRead wsX5_hasRead := goodIn_r _ [18, 19, 32, 33, 34, 35, 36, 37, 38, 39, 40, 41, 42, 43, 44, 45, 46, 47, 48, 49, 50, 51, 52, 53, 54, 55, 56, 57, 58, 59, 60, 61, 62, 63, 64, 65, 66, 67, 68, 69, 70, 71, 72, 73, 74, 75, 76, 77, 78, 79, 80, 81, 82, 83, 84, 85, 86, 87, 88, 89, 90, 91] (by decide +kernel) (by decide +kernel)
set_option maxRecDepth 20000 in
theorem gX5_mayRead_X5_hasRead : GoodIn wsX5_mayRead (wsV RX5 210 RX5 yX5_hasRead wsX5_hasRead) := goodIn_app (goodIn_of _ (by decide +kernel)) ggX5_mayRead_X5_hasRead
set_option maxRecDepth 20000 in
theorem ggX5_mayRead_X5_isForce : GoodIn wsX5_mayRead wsX5_isForce := goodIn_r _ [23, 24, 19, 25, 26, 4, 27, 28, 29, 30, 31, 14, 32, 33, 34, 35, 36, 37, 38, 39, 40, 41, 42, 43, 44, 45, 46, 47, 48, 49, 50, 51, 52, 53, 54, 55, 56, 57, 58, 59, 60, 61, 62, 63, 64, 65, 66, 67, 68, 69, 70, 71, 72, 73, 74, 75, 76, 77, 78, 79, 80, 81, 82, 83, 84, 85, 86, 87, 88, 89, 90, 91] (by decide +kernel) (by decide +kernel)
set_option maxRecDepth 20000 in
theorem gX5_mayRead_X5_isForce : GoodIn wsX5_mayRead (wsV RX5 231 RX5 yX5_isForce wsX5_isForce) := goodIn_app (goodIn_of _ (by decide +kernel)) ggX5_mayRead_X5_isForce
set_option maxRecDepth 20000 in
theorem ggX5_hasNowRead_X5_fromOf : GoodIn wsX5_hasNowRead wsX5_fromOf := goodIn_r _ [7] (by decide +kernel) (by decide +kernel)
set_option maxRecDepth 20000 in
theorem gX5_hasNowRead_X5_fromOf : GoodIn wsX5_hasNowRead (va_wsS RX5 186 yX5_fromOf wsX5_fromOf) := goodIn_app (goodIn_of _ (by decide +kernel)) ggX5_hasNowRead_X5_fromOf
set_option maxRecDepth 20000 in
theorem ggX5_reads_X5_isPerson : GoodIn wsX5_reads wsX5_isPerson := goodIn_r _ [6, 7, 8, 9, 5, 10, 55, 56, 57, 58, 59, 60, 61, 62, 63, 64, 65, 66, 67, 68, 69, 70, 71, 72, 73, 74, 75, 76, 77, 78, 79, 80, 81, 82, 83, 84, 85, 86, 87, 88, 89, 90, 91, 92, 93, 94, 95, 96, 97, 98, 99, 100, 101, 102, 103, 104, 105, 106, 107, 108, 109, 110, 111, 112, 113, 114] (by decide +kernel) (by decide +kernel)
set_option maxRecDepth 20000 in
theorem gX5_reads_X5_isPerson : GoodIn wsX5_reads (wsV RX5 213 RX5 yX5_isPerson wsX5_isPerson) := goodIn_app (goodIn_of _ (by decide +kernel)) ggX5_reads_X5_isPerson
set_option maxRecDepth 20000 in
theorem ggX5_reads_X5_isPaper : GoodIn wsX5_reads wsX5_isPaper := goodIn_r _ [14, 15, 8, 9, 5, 10, 55, 56, 57, 58, 59, 60, 61, 62, 63, 64, 65, 66, 67, 68, 69, 70, 71, 72, 73, 74, 75, 76, 77, 78, 79, 80, 81, 82, 83, 84, 85, 86, 87, 88, 89, 90, 91, 92, 93, 94, 95, 96, 97, 98, 99, 100, 101, 102, 103, 104, 105, 106, 107, 108, 109, 110, 111, 112, 113, 114] (by decide +kernel) (by decide +kernel)
set_option maxRecDepth 20000 in
theorem gX5_reads_X5_isPaper : GoodIn wsX5_reads (wsV RX5 228 RX5 yX5_isPaper wsX5_isPaper) := goodIn_app (goodIn_of _ (by decide +kernel)) ggX5_reads_X5_isPaper
set_option maxRecDepth 20000 in
theorem ggX5_reads_X5_refuse : GoodIn wsX5_reads wsX5_refuse := goodIn_r _ [19, 20, 55, 56, 57, 58, 59, 60, 61, 62, 63, 64, 65, 66, 67, 68, 69, 70, 71, 72, 73, 74, 75, 76, 77, 78, 79, 80, 81, 82, 83, 84, 85, 86, 87, 88, 89, 90, 91, 92, 93, 94, 95, 96, 97, 98, 99, 100, 101, 102, 103, 104, 105, 106, 107, 108, 109, 110, 111, 112, 113, 114] (by decide +kernel) (by decide +kernel)
set_option maxRecDepth 20000 in
theorem gX5_reads_X5_refuse : GoodIn wsX5_reads (wsV RX5 137 RX5 yX5_refuse wsX5_refuse) := goodIn_app (goodIn_of _ (by decide +kernel)) ggX5_reads_X5_refuse
set_option maxRecDepth 20000 in
theorem ggX5_reads_X5_mayRead : GoodIn wsX5_reads wsX5_mayRead := goodIn_r _ [24, 2, 3, 4, 5, 6, 7, 8, 9, 10, 25, 26, 27, 28, 29, 30, 31, 32, 33, 1, 34, 35, 36, 37, 38, 39, 40, 41, 42, 43, 44, 45, 55, 56, 57, 58, 59, 60, 61, 62, 63, 64, 65, 66, 67, 68, 69, 70, 71, 72, 73, 74, 75, 76, 77, 78, 79, 80, 81, 82, 83, 84, 85, 86, 87, 88, 89, 90, 91, 92, 93, 94, 95, 96, 97, 98, 99, 100, 101, 102, 103, 104, 105, 106, 107, 108, 109, 110, 111, 112, 113, 114] (by decide +kernel) (by decide +kernel)
set_option maxRecDepth 20000 in
theorem gX5_reads_X5_mayRead : GoodIn wsX5_reads (wsV RX5 237 RX5 yX5_mayRead wsX5_mayRead) := goodIn_app (goodIn_of _ (by decide +kernel)) ggX5_reads_X5_mayRead
set_option maxRecDepth 20000 in
theorem ggX5_reads_X5_hasNowRead : GoodIn wsX5_reads wsX5_hasNowRead := goodIn_r _ [49, 1, 50, 51, 52, 53, 5, 54, 55, 56, 57, 58, 59, 60, 61, 62, 63, 64, 65, 66, 67, 68, 69, 70, 71, 72, 73, 74, 75, 76, 77, 78, 79, 80, 81, 82, 83, 84, 85, 86, 87, 88, 89, 90, 91, 92, 93, 94, 95, 96, 97, 98, 99, 100, 101, 102, 103, 104, 105, 106, 107, 108, 109, 110, 111, 112, 113, 114] (by decide +kernel) (by decide +kernel)
set_option maxRecDepth 20000 in
theorem gX5_reads_X5_hasNowRead : GoodIn wsX5_reads (wsV RX5 240 RX5 yX5_hasNowRead wsX5_hasNowRead) := goodIn_app (goodIn_of _ (by decide +kernel)) ggX5_reads_X5_hasNowRead
set_option maxRecDepth 20000 in
theorem ggX5_reads_X5_ones : GoodIn wsX5_reads wsX5_ones := goodIn_r _ [41] (by decide +kernel) (by decide +kernel)
set_option maxRecDepth 20000 in
theorem gX5_reads_X5_ones : GoodIn wsX5_reads (va_wsS RX5 222 yX5_ones wsX5_ones) := goodIn_app (goodIn_of _ (by decide +kernel)) ggX5_reads_X5_ones
set_option maxRecDepth 20000 in
theorem ggX5_hear_X5_isPerson : GoodIn wsX5_hear wsX5_isPerson := goodIn_r _ [8, 9, 10, 11, 7, 12, 43, 44, 45, 46, 47, 48, 49, 50, 51, 52, 53, 54, 55, 56, 57, 58, 59, 60, 61, 62, 63, 64, 65, 66, 67, 68, 69, 70, 71, 72, 73, 74, 75, 76, 77, 78, 79, 80, 81, 82, 83, 84, 85, 86, 87, 88, 89, 90, 91, 92, 93, 94, 95, 96, 97, 98, 99, 100, 101, 102] (by decide +kernel) (by decide +kernel)
set_option maxRecDepth 20000 in
theorem gX5_hear_X5_isPerson : GoodIn wsX5_hear (wsV RX5 213 RX5 yX5_isPerson wsX5_isPerson) := goodIn_app (goodIn_of _ (by decide +kernel)) ggX5_hear_X5_isPerson
set_option maxRecDepth 20000 in
theorem ggX5_hear_X5_isPaper : GoodIn wsX5_hear wsX5_isPaper := goodIn_r _ [16, 17, 10, 11, 7, 12, 43, 44, 45, 46, 47, 48, 49, 50, 51, 52, 53, 54, 55, 56, 57, 58, 59, 60, 61, 62, 63, 64, 65, 66, 67, 68, 69, 70, 71, 72, 73, 74, 75, 76, 77, 78, 79, 80, 81, 82, 83, 84, 85, 86, 87, 88, 89, 90, 91, 92, 93, 94, 95, 96, 97, 98, 99, 100, 101, 102] (by decide +kernel) (by decide +kernel)
set_option maxRecDepth 20000 in
theorem gX5_hear_X5_isPaper : GoodIn wsX5_hear (wsV RX5 228 RX5 yX5_isPaper wsX5_isPaper) := goodIn_app (goodIn_of _ (by decide +kernel)) ggX5_hear_X5_isPaper
set_option maxRecDepth 20000 in
theorem ggX5_hear_X5_in : GoodIn wsX5_hear wsX5_in := goodIn_r _ [12] (by decide +kernel) (by decide +kernel)
set_option maxRecDepth 20000 in
theorem gX5_hear_X5_in : GoodIn wsX5_hear (va_wsS RX5 145 yX5_in wsX5_in) := goodIn_app (goodIn_of _ (by decide +kernel)) ggX5_hear_X5_in
set_option maxRecDepth 20000 in
theorem ggX5_hear_X5_refuse : GoodIn wsX5_hear wsX5_refuse := goodIn_r _ [21, 22, 43, 44, 45, 46, 47, 48, 49, 50, 51, 52, 53, 54, 55, 56, 57, 58, 59, 60, 61, 62, 63, 64, 65, 66, 67, 68, 69, 70, 71, 72, 73, 74, 75, 76, 77, 78, 79, 80, 81, 82, 83, 84, 85, 86, 87, 88, 89, 90, 91, 92, 93, 94, 95, 96, 97, 98, 99, 100, 101, 102] (by decide +kernel) (by decide +kernel)
set_option maxRecDepth 20000 in
theorem gX5_hear_X5_refuse : GoodIn wsX5_hear (wsV RX5 137 RX5 yX5_refuse wsX5_refuse) := goodIn_app (goodIn_of _ (by decide +kernel)) ggX5_hear_X5_refuse
set_option maxRecDepth 20000 in
theorem ggX5_hear_X5_isBound : GoodIn wsX5_hear wsX5_isBound := goodIn_r _ [26, 27, 43, 44, 45, 46, 47, 48, 49, 50, 51, 52, 53, 54, 55, 56, 57, 58, 59, 60, 61, 62, 63, 64, 65, 66, 67, 68, 69, 70, 71, 72, 73, 74, 75, 76, 77, 78, 79, 80, 81, 82, 83, 84, 85, 86, 87, 88, 89, 90, 91, 92, 93, 94, 95, 96, 97, 98, 99, 100, 101, 102] (by decide +kernel) (by decide +kernel)
set_option maxRecDepth 20000 in
theorem gX5_hear_X5_isBound : GoodIn wsX5_hear (wsV RX5 207 RX5 yX5_isBound wsX5_isBound) := goodIn_app (goodIn_of _ (by decide +kernel)) ggX5_hear_X5_isBound
set_option maxRecDepth 20000 in
theorem ggX5_hear_X5_hasRead : GoodIn wsX5_hear wsX5_hasRead := goodIn_r _ [31, 32, 43, 44, 45, 46, 47, 48, 49, 50, 51, 52, 53, 54, 55, 56, 57, 58, 59, 60, 61, 62, 63, 64, 65, 66, 67, 68, 69, 70, 71, 72, 73, 74, 75, 76, 77, 78, 79, 80, 81, 82, 83, 84, 85, 86, 87, 88, 89, 90, 91, 92, 93, 94, 95, 96, 97, 98, 99, 100, 101, 102] (by decide +kernel) (by decide +kernel)
set_option maxRecDepth 20000 in
theorem gX5_hear_X5_hasRead : GoodIn wsX5_hear (wsV RX5 210 RX5 yX5_hasRead wsX5_hasRead) := goodIn_app (goodIn_of _ (by decide +kernel)) ggX5_hear_X5_hasRead
set_option maxRecDepth 20000 in
theorem ggX5_hear_X5_fromOf : GoodIn wsX5_hear wsX5_fromOf := goodIn_r _ [35] (by decide +kernel) (by decide +kernel)
set_option maxRecDepth 20000 in
theorem gX5_hear_X5_fromOf : GoodIn wsX5_hear (va_wsS RX5 186 yX5_fromOf wsX5_fromOf) := goodIn_app (goodIn_of _ (by decide +kernel)) ggX5_hear_X5_fromOf
set_option maxRecDepth 20000 in
theorem ggX5_hear_X5_least : GoodIn wsX5_hear wsX5_least := goodIn_r _ [39, 2, 40, 41, 7, 42, 43, 44, 45, 46, 47, 48, 49, 50, 51, 52, 53, 54, 55, 56, 57, 58, 59, 60, 61, 62, 63, 64, 65, 66, 67, 68, 69, 70, 71, 72, 73, 74, 75, 76, 77, 78, 79, 80, 81, 82, 83, 84, 85, 86, 87, 88, 89, 90, 91, 92, 93, 94, 95, 96, 97, 98, 99, 100, 101, 102] (by decide +kernel) (by decide +kernel)
set_option maxRecDepth 20000 in
theorem gX5_hear_X5_least : GoodIn wsX5_hear (wsV RX5 190 RX5 yX5_least wsX5_least) := goodIn_app (goodIn_of _ (by decide +kernel)) ggX5_hear_X5_least
set_option maxRecDepth 20000 in
theorem ggX5_weight_X5_isPerson : GoodIn wsX5_weight wsX5_isPerson := goodIn_r _ [6, 7, 8, 9, 5, 10, 34, 35, 36, 37, 38, 39, 40, 41, 42, 43, 44, 45, 46, 47, 48, 49, 50, 51, 52, 53, 54, 55, 56, 57, 58, 59, 60, 61, 62, 63, 64, 65, 66, 67, 68, 69, 70, 71, 72, 73, 74, 75, 76, 77, 78, 79, 80, 81, 82, 83, 84, 85, 86, 87, 88, 89, 90, 91, 92, 93] (by decide +kernel) (by decide +kernel)
set_option maxRecDepth 20000 in
theorem gX5_weight_X5_isPerson : GoodIn wsX5_weight (wsV RX5 213 RX5 yX5_isPerson wsX5_isPerson) := goodIn_app (goodIn_of _ (by decide +kernel)) ggX5_weight_X5_isPerson
set_option maxRecDepth 20000 in
theorem ggX5_weight_X5_isPaper : GoodIn wsX5_weight wsX5_isPaper := goodIn_r _ [14, 15, 8, 9, 5, 10, 34, 35, 36, 37, 38, 39, 40, 41, 42, 43, 44, 45, 46, 47, 48, 49, 50, 51, 52, 53, 54, 55, 56, 57, 58, 59, 60, 61, 62, 63, 64, 65, 66, 67, 68, 69, 70, 71, 72, 73, 74, 75, 76, 77, 78, 79, 80, 81, 82, 83, 84, 85, 86, 87, 88, 89, 90, 91, 92, 93] (by decide +kernel) (by decide +kernel)
set_option maxRecDepth 20000 in
theorem gX5_weight_X5_isPaper : GoodIn wsX5_weight (wsV RX5 228 RX5 yX5_isPaper wsX5_isPaper) := goodIn_app (goodIn_of _ (by decide +kernel)) ggX5_weight_X5_isPaper
set_option maxRecDepth 20000 in
theorem ggX5_weight_X5_in : GoodIn wsX5_weight wsX5_in := goodIn_r _ [10] (by decide +kernel) (by decide +kernel)
set_option maxRecDepth 20000 in
theorem gX5_weight_X5_in : GoodIn wsX5_weight (va_wsS RX5 145 yX5_in wsX5_in) := goodIn_app (goodIn_of _ (by decide +kernel)) ggX5_weight_X5_in
set_option maxRecDepth 20000 in
theorem ggX5_weight_X5_refuseLong : GoodIn wsX5_weight wsX5_refuseLong := goodIn_r _ [19, 20, 21, 22, 23, 5, 24, 25, 34, 35, 36, 37, 38, 39, 40, 41, 42, 43, 44, 45, 46, 47, 48, 49, 50, 51, 52, 53, 54, 55, 56, 57, 58, 59, 60, 61, 62, 63, 64, 65, 66, 67, 68, 69, 70, 71, 72, 73, 74, 75, 76, 77, 78, 79, 80, 81, 82, 83, 84, 85, 86, 87, 88, 89, 90, 91, 92, 93] (by decide +kernel) (by decide +kernel)
set_option maxRecDepth 20000 in
theorem gX5_weight_X5_refuseLong : GoodIn wsX5_weight (wsV RX5 244 RX5 yX5_refuseLong wsX5_refuseLong) := goodIn_app (goodIn_of _ (by decide +kernel)) ggX5_weight_X5_refuseLong
set_option maxRecDepth 20000 in
theorem ggX5_weight_X5_isBound : GoodIn wsX5_weight wsX5_isBound := goodIn_r _ [29, 30, 34, 35, 36, 37, 38, 39, 40, 41, 42, 43, 44, 45, 46, 47, 48, 49, 50, 51, 52, 53, 54, 55, 56, 57, 58, 59, 60, 61, 62, 63, 64, 65, 66, 67, 68, 69, 70, 71, 72, 73, 74, 75, 76, 77, 78, 79, 80, 81, 82, 83, 84, 85, 86, 87, 88, 89, 90, 91, 92, 93] (by decide +kernel) (by decide +kernel)
set_option maxRecDepth 20000 in
theorem gX5_weight_X5_isBound : GoodIn wsX5_weight (wsV RX5 207 RX5 yX5_isBound wsX5_isBound) := goodIn_app (goodIn_of _ (by decide +kernel)) ggX5_weight_X5_isBound
set_option maxRecDepth 20000 in
theorem ggX5_weight_X5_fromOf : GoodIn wsX5_weight wsX5_fromOf := goodIn_r _ [33] (by decide +kernel) (by decide +kernel)
set_option maxRecDepth 20000 in
theorem gX5_weight_X5_fromOf : GoodIn wsX5_weight (va_wsS RX5 186 yX5_fromOf wsX5_fromOf) := goodIn_app (goodIn_of _ (by decide +kernel)) ggX5_weight_X5_fromOf
set_option maxRecDepth 20000 in
theorem ggX5_thinkAbove_X5_fromOf : GoodIn wsX5_thinkAbove wsX5_fromOf := goodIn_r _ [6] (by decide +kernel) (by decide +kernel)
set_option maxRecDepth 20000 in
theorem gX5_thinkAbove_X5_fromOf : GoodIn wsX5_thinkAbove (va_wsS RX5 186 yX5_fromOf wsX5_fromOf) := goodIn_app (goodIn_of _ (by decide +kernel)) ggX5_thinkAbove_X5_fromOf
set_option maxRecDepth 20000 in
theorem ggX5_thinkBelow_X5_fromOf : GoodIn wsX5_thinkBelow wsX5_fromOf := goodIn_r _ [5] (by decide +kernel) (by decide +kernel)
set_option maxRecDepth 20000 in
theorem gX5_thinkBelow_X5_fromOf : GoodIn wsX5_thinkBelow (va_wsS RX5 186 yX5_fromOf wsX5_fromOf) := goodIn_app (goodIn_of _ (by decide +kernel)) ggX5_thinkBelow_X5_fromOf
set_option maxRecDepth 20000 in
theorem ggX5_lowest_X5_common : GoodIn wsX5_lowest wsX5_common := goodIn_r _ [4] (by decide +kernel) (by decide +kernel)
set_option maxRecDepth 20000 in
theorem gX5_lowest_X5_common : GoodIn wsX5_lowest (va_wsS RX5 182 yX5_common wsX5_common) := goodIn_app (goodIn_of _ (by decide +kernel)) ggX5_lowest_X5_common
set_option maxRecDepth 20000 in
theorem ggX5_think_X5_isPerson : GoodIn wsX5_think wsX5_isPerson := goodIn_r _ [5, 6, 7, 8, 4, 9, 49, 50, 51, 52, 53, 54, 55, 56, 57, 58, 59, 60, 61, 62, 63, 64, 65, 66, 67, 68, 69, 70, 71, 72, 73, 74, 75, 76, 77, 78, 79, 80, 81, 82, 83, 84, 85, 86, 87, 88, 89, 90, 91, 92, 93, 94, 95, 96, 97, 98, 99, 100, 101, 102, 103, 104, 105, 106, 107, 108] (by decide +kernel) (by decide +kernel)
set_option maxRecDepth 20000 in
theorem gX5_think_X5_isPerson : GoodIn wsX5_think (wsV RX5 213 RX5 yX5_isPerson wsX5_isPerson) := goodIn_app (goodIn_of _ (by decide +kernel)) ggX5_think_X5_isPerson
set_option maxRecDepth 20000 in
theorem ggX5_think_X5_isPaper : GoodIn wsX5_think wsX5_isPaper := goodIn_r _ [13, 14, 7, 8, 4, 9, 49, 50, 51, 52, 53, 54, 55, 56, 57, 58, 59, 60, 61, 62, 63, 64, 65, 66, 67, 68, 69, 70, 71, 72, 73, 74, 75, 76, 77, 78, 79, 80, 81, 82, 83, 84, 85, 86, 87, 88, 89, 90, 91, 92, 93, 94, 95, 96, 97, 98, 99, 100, 101, 102, 103, 104, 105, 106, 107, 108] (by decide +kernel) (by decide +kernel)
set_option maxRecDepth 20000 in
theorem gX5_think_X5_isPaper : GoodIn wsX5_think (wsV RX5 228 RX5 yX5_isPaper wsX5_isPaper) := goodIn_app (goodIn_of _ (by decide +kernel)) ggX5_think_X5_isPaper
set_option maxRecDepth 20000 in
theorem ggX5_think_X5_refuseLong : GoodIn wsX5_think wsX5_refuseLong := goodIn_r _ [18, 19, 20, 21, 22, 4, 23, 24, 49, 50, 51, 52, 53, 54, 55, 56, 57, 58, 59, 60, 61, 62, 63, 64, 65, 66, 67, 68, 69, 70, 71, 72, 73, 74, 75, 76, 77, 78, 79, 80, 81, 82, 83, 84, 85, 86, 87, 88, 89, 90, 91, 92, 93, 94, 95, 96, 97, 98, 99, 100, 101, 102, 103, 104, 105, 106, 107, 108] (by decide +kernel) (by decide +kernel)
set_option maxRecDepth 20000 in
theorem gX5_think_X5_refuseLong : GoodIn wsX5_think (wsV RX5 244 RX5 yX5_refuseLong wsX5_refuseLong) := goodIn_app (goodIn_of _ (by decide +kernel)) ggX5_think_X5_refuseLong
set_option maxRecDepth 20000 in
theorem ggX5_think_X5_in : GoodIn wsX5_think wsX5_in := goodIn_r _ [9] (by decide +kernel) (by decide +kernel)
set_option maxRecDepth 20000 in
theorem gX5_think_X5_in : GoodIn wsX5_think (va_wsS RX5 145 yX5_in wsX5_in) := goodIn_app (goodIn_of _ (by decide +kernel)) ggX5_think_X5_in
set_option maxRecDepth 20000 in
theorem ggX5_think_X5_isBound : GoodIn wsX5_think wsX5_isBound := goodIn_r _ [28, 29, 49, 50, 51, 52, 53, 54, 55, 56, 57, 58, 59, 60, 61, 62, 63, 64, 65, 66, 67, 68, 69, 70, 71, 72, 73, 74, 75, 76, 77, 78, 79, 80, 81, 82, 83, 84, 85, 86, 87, 88, 89, 90, 91, 92, 93, 94, 95, 96, 97, 98, 99, 100, 101, 102, 103, 104, 105, 106, 107, 108] (by decide +kernel) (by decide +kernel)
set_option maxRecDepth 20000 in
theorem gX5_think_X5_isBound : GoodIn wsX5_think (wsV RX5 207 RX5 yX5_isBound wsX5_isBound) := goodIn_app (goodIn_of _ (by decide +kernel)) ggX5_think_X5_isBound
set_option maxRecDepth 20000 in
theorem ggX5_think_X5_thinkAbove : GoodIn wsX5_think wsX5_thinkAbove := goodIn_r _ [33, 34, 35, 36, 37, 4, 38, 49, 50, 51, 52, 53, 54, 55, 56, 57, 58, 59, 60, 61, 62, 63, 64, 65, 66, 67, 68, 69, 70, 71, 72, 73, 74, 75, 76, 77, 78, 79, 80, 81, 82, 83, 84, 85, 86, 87, 88, 89, 90, 91, 92, 93, 94, 95, 96, 97, 98, 99, 100, 101, 102, 103, 104, 105, 106, 107, 108] (by decide +kernel) (by decide +kernel)
set_option maxRecDepth 20000 in
theorem gX5_think_X5_thinkAbove : GoodIn wsX5_think (wsV RX5 248 RX5 yX5_thinkAbove wsX5_thinkAbove) := goodIn_app (goodIn_of _ (by decide +kernel)) ggX5_think_X5_thinkAbove
set_option maxRecDepth 20000 in
theorem ggX5_think_X5_thinkBelow : GoodIn wsX5_think wsX5_thinkBelow := goodIn_r _ [42, 34, 36, 37, 4, 38, 49, 50, 51, 52, 53, 54, 55, 56, 57, 58, 59, 60, 61, 62, 63, 64, 65, 66, 67, 68, 69, 70, 71, 72, 73, 74, 75, 76, 77, 78, 79, 80, 81, 82, 83, 84, 85, 86, 87, 88, 89, 90, 91, 92, 93, 94, 95, 96, 97, 98, 99, 100, 101, 102, 103, 104, 105, 106, 107, 108] (by decide +kernel) (by decide +kernel)
set_option maxRecDepth 20000 in
theorem gX5_think_X5_thinkBelow : GoodIn wsX5_think (wsV RX5 252 RX5 yX5_thinkBelow wsX5_thinkBelow) := goodIn_app (goodIn_of _ (by decide +kernel)) ggX5_think_X5_thinkBelow
set_option maxRecDepth 20000 in
theorem ggX5_think_X5_lowest : GoodIn wsX5_think wsX5_lowest := goodIn_r _ [45, 46, 47, 4, 48] (by decide +kernel) (by decide +kernel)
set_option maxRecDepth 20000 in
theorem gX5_think_X5_lowest : GoodIn wsX5_think (va_wsS RX5 255 yX5_lowest wsX5_lowest) := goodIn_app (goodIn_of _ (by decide +kernel)) ggX5_think_X5_lowest
set_option maxRecDepth 20000 in
theorem ggX5_gives_X5_isBound : GoodIn wsX5_gives wsX5_isBound := goodIn_r _ [6, 7, 22, 23, 24, 25, 26, 27, 28, 29, 30, 31, 32, 33, 34, 35, 36, 37, 38, 39, 40, 41, 42, 43, 44, 45, 46, 47, 48, 49, 50, 51, 52, 53, 54, 55, 56, 57, 58, 59, 60, 61, 62, 63, 64, 65, 66, 67, 68, 69, 70, 71, 72, 73, 74, 75, 76, 77, 78, 79, 80, 81] (by decide +kernel) (by decide +kernel)
set_option maxRecDepth 20000 in
theorem gX5_gives_X5_isBound : GoodIn wsX5_gives (wsV RX5 207 RX5 yX5_isBound wsX5_isBound) := goodIn_app (goodIn_of _ (by decide +kernel)) ggX5_gives_X5_isBound
set_option maxRecDepth 20000 in
theorem ggX5_gives_X5_hasRead : GoodIn wsX5_gives wsX5_hasRead := goodIn_r _ [11, 12, 22, 23, 24, 25, 26, 27, 28, 29, 30, 31, 32, 33, 34, 35, 36, 37, 38, 39, 40, 41, 42, 43, 44, 45, 46, 47, 48, 49, 50, 51, 52, 53, 54, 55, 56, 57, 58, 59, 60, 61, 62, 63, 64, 65, 66, 67, 68, 69, 70, 71, 72, 73, 74, 75, 76, 77, 78, 79, 80, 81] (by decide +kernel) (by decide +kernel)
set_option maxRecDepth 20000 in
theorem gX5_gives_X5_hasRead : GoodIn wsX5_gives (wsV RX5 210 RX5 yX5_hasRead wsX5_hasRead) := goodIn_app (goodIn_of _ (by decide +kernel)) ggX5_gives_X5_hasRead
set_option maxRecDepth 20000 in
theorem ggX5_gives_X5_hasNowRead : GoodIn wsX5_gives wsX5_hasNowRead := goodIn_r _ [16, 12, 17, 18, 19, 20, 5, 21, 22, 23, 24, 25, 26, 27, 28, 29, 30, 31, 32, 33, 34, 35, 36, 37, 38, 39, 40, 41, 42, 43, 44, 45, 46, 47, 48, 49, 50, 51, 52, 53, 54, 55, 56, 57, 58, 59, 60, 61, 62, 63, 64, 65, 66, 67, 68, 69, 70, 71, 72, 73, 74, 75, 76, 77, 78, 79, 80, 81] (by decide +kernel) (by decide +kernel)
set_option maxRecDepth 20000 in
theorem gX5_gives_X5_hasNowRead : GoodIn wsX5_gives (wsV RX5 240 RX5 yX5_hasNowRead wsX5_hasNowRead) := goodIn_app (goodIn_of _ (by decide +kernel)) ggX5_gives_X5_hasNowRead
set_option maxRecDepth 20000 in
theorem ggX5_dares_X5_thinkAbove : GoodIn wsX5_dares wsX5_thinkAbove := goodIn_r _ [7, 8, 9, 10, 11, 6, 12, 17, 18, 19, 20, 21, 22, 23, 24, 25, 26, 27, 28, 29, 30, 31, 32, 33, 34, 35, 36, 37, 38, 39, 40, 41, 42, 43, 44, 45, 46, 47, 48, 49, 50, 51, 52, 53, 54, 55, 56, 57, 58, 59, 60, 61, 62, 63, 64, 65, 66, 67, 68, 69, 70, 71, 72, 73, 74, 75, 76] (by decide +kernel) (by decide +kernel)
set_option maxRecDepth 20000 in
theorem gX5_dares_X5_thinkAbove : GoodIn wsX5_dares (wsV RX5 248 RX5 yX5_thinkAbove wsX5_thinkAbove) := goodIn_app (goodIn_of _ (by decide +kernel)) ggX5_dares_X5_thinkAbove
set_option maxRecDepth 20000 in
theorem ggX5_dares_X5_thinkBelow : GoodIn wsX5_dares wsX5_thinkBelow := goodIn_r _ [16, 8, 10, 11, 6, 12, 17, 18, 19, 20, 21, 22, 23, 24, 25, 26, 27, 28, 29, 30, 31, 32, 33, 34, 35, 36, 37, 38, 39, 40, 41, 42, 43, 44, 45, 46, 47, 48, 49, 50, 51, 52, 53, 54, 55, 56, 57, 58, 59, 60, 61, 62, 63, 64, 65, 66, 67, 68, 69, 70, 71, 72, 73, 74, 75, 76] (by decide +kernel) (by decide +kernel)
set_option maxRecDepth 20000 in
theorem gX5_dares_X5_thinkBelow : GoodIn wsX5_dares (wsV RX5 252 RX5 yX5_thinkBelow wsX5_thinkBelow) := goodIn_app (goodIn_of _ (by decide +kernel)) ggX5_dares_X5_thinkBelow
set_option maxRecDepth 20000 in
theorem ggX5_wouldRead_X5_dares : GoodIn wsX5_wouldRead wsX5_dares := goodIn_r _ [9, 10, 11, 12, 13, 14, 8, 15, 16, 17, 18, 19, 20, 21, 22, 23, 24, 25, 26, 27, 28, 29, 30, 31, 32, 33, 34, 35, 36, 37, 38, 39, 40, 41, 42, 43, 44, 45, 46, 47, 48, 49, 50, 51, 52, 53, 54, 55, 56, 57, 58, 59, 60, 61, 62, 63, 64, 65, 66, 67, 68, 69, 70, 71, 72, 73, 74, 75, 76, 77, 78, 79, 80, 81, 82, 83, 84] (by decide +kernel) (by decide +kernel)
set_option maxRecDepth 20000 in
theorem gX5_wouldRead_X5_dares : GoodIn wsX5_wouldRead (wsV RX5 261 RX5 yX5_dares wsX5_dares) := goodIn_app (goodIn_of _ (by decide +kernel)) ggX5_wouldRead_X5_dares
set_option maxRecDepth 20000 in
theorem ggX5_does_X5_wouldRead : GoodIn wsX5_does wsX5_wouldRead := goodIn_r _ [7, 1, 8, 9, 10, 11, 12, 13, 6, 14, 15, 16, 17, 18, 19, 20, 21, 22, 23, 24, 25, 26, 27, 28, 29, 49, 50, 51, 52, 53, 54, 55, 56, 57, 58, 59, 60, 61, 62, 63, 64, 65, 66, 67, 68, 69, 70, 71, 72, 73, 74, 75, 76, 77, 78, 79, 80, 81, 82, 83, 84, 85, 86, 87, 88, 89, 90, 91, 92, 93, 94, 95, 96, 97, 98, 99, 100, 101, 102, 103, 104, 105, 106, 107, 108] (by decide +kernel) (by decide +kernel)
set_option maxRecDepth 20000 in
theorem gX5_does_X5_wouldRead : GoodIn wsX5_does (wsV RX5 267 RX5 yX5_wouldRead wsX5_wouldRead) := goodIn_app (goodIn_of _ (by decide +kernel)) ggX5_does_X5_wouldRead
set_option maxRecDepth 20000 in
theorem ggX5_does_X5_hasNowRead : GoodIn wsX5_does wsX5_hasNowRead := goodIn_r _ [33, 10, 21, 34, 23, 24, 6, 25, 49, 50, 51, 52, 53, 54, 55, 56, 57, 58, 59, 60, 61, 62, 63, 64, 65, 66, 67, 68, 69, 70, 71, 72, 73, 74, 75, 76, 77, 78, 79, 80, 81, 82, 83, 84, 85, 86, 87, 88, 89, 90, 91, 92, 93, 94, 95, 96, 97, 98, 99, 100, 101, 102, 103, 104, 105, 106, 107, 108] (by decide +kernel) (by decide +kernel)
set_option maxRecDepth 20000 in
theorem gX5_does_X5_hasNowRead : GoodIn wsX5_does (wsV RX5 240 RX5 yX5_hasNowRead wsX5_hasNowRead) := goodIn_app (goodIn_of _ (by decide +kernel)) ggX5_does_X5_hasNowRead
set_option maxRecDepth 20000 in
theorem ggX5_does_X5_gives : GoodIn wsX5_does wsX5_gives := goodIn_r _ [38, 39, 40, 41, 42, 6, 43, 44, 45, 46, 47, 48, 10, 30, 31, 32, 33, 21, 34, 23, 24, 25, 49, 50, 51, 52, 53, 54, 55, 56, 57, 58, 59, 60, 61, 62, 63, 64, 65, 66, 67, 68, 69, 70, 71, 72, 73, 74, 75, 76, 77, 78, 79, 80, 81, 82, 83, 84, 85, 86, 87, 88, 89, 90, 91, 92, 93, 94, 95, 96, 97, 98, 99, 100, 101, 102, 103, 104, 105, 106, 107, 108] (by decide +kernel) (by decide +kernel)
set_option maxRecDepth 20000 in
theorem gX5_does_X5_gives : GoodIn wsX5_does (wsV RX5 270 RX5 yX5_gives wsX5_gives) := goodIn_app (goodIn_of _ (by decide +kernel)) ggX5_does_X5_gives
set_option maxRecDepth 20000 in
theorem ggX5_passes_X5_mayRead : GoodIn wsX5_passes wsX5_mayRead := goodIn_r _ [14, 15, 16, 17, 13, 18, 1, 19, 20, 21, 22, 23, 24, 25, 26, 27, 28, 29, 30, 31, 32, 33, 34, 35, 36, 37, 38, 39, 40, 41, 42, 43, 81, 82, 83, 84, 85, 86, 87, 88, 89, 90, 91, 92, 93, 94, 95, 96, 97, 98, 99, 100, 101, 102, 103, 104, 105, 106, 107, 108, 109, 110, 111, 112, 113, 114, 115, 116, 117, 118, 119, 120, 121, 122, 123, 124, 125, 126, 127, 128, 129, 130, 131, 132, 133, 134, 135, 136, 137, 138, 139, 140] (by decide +kernel) (by decide +kernel)
set_option maxRecDepth 20000 in
theorem gX5_passes_X5_mayRead : GoodIn wsX5_passes (wsV RX5 237 RX5 yX5_mayRead wsX5_mayRead) := goodIn_app (goodIn_of _ (by decide +kernel)) ggX5_passes_X5_mayRead
set_option maxRecDepth 20000 in
theorem ggX5_passes_X5_does : GoodIn wsX5_passes wsX5_does := goodIn_r _ [47, 48, 49, 50, 51, 52, 13, 53, 9, 54, 31, 55, 56, 57, 58, 59, 60, 61, 62, 63, 64, 65, 7, 66, 67, 68, 69, 70, 71, 72, 73, 74, 75, 76, 8, 77, 78, 79, 80, 1, 22, 23, 24, 25, 26, 27, 28, 29, 30, 81, 82, 83, 84, 85, 86, 87, 88, 89, 90, 91, 92, 93, 94, 95, 96, 97, 98, 99, 100, 101, 102, 103, 104, 105, 106, 107, 108, 109, 110, 111, 112, 113, 114, 115, 116, 117, 118, 119, 120, 121, 122, 123, 124, 125, 126, 127, 128, 129, 130, 131, 132, 133, 134, 135, 136, 137, 138, 139, 140] (by decide +kernel) (by decide +kernel)
set_option maxRecDepth 20000 in
theorem gX5_passes_X5_does : GoodIn wsX5_passes (wsV RX5 276 RX5 yX5_does wsX5_does) := goodIn_app (goodIn_of _ (by decide +kernel)) ggX5_passes_X5_does
set_option maxRecDepth 20000 in
theorem ggX5_passes_X5_isForce : GoodIn wsX5_passes wsX5_isForce := goodIn_r _ [35, 36, 31, 37, 38, 13, 39, 40, 41, 42, 43, 26, 81, 82, 83, 84, 85, 86, 87, 88, 89, 90, 91, 92, 93, 94, 95, 96, 97, 98, 99, 100, 101, 102, 103, 104, 105, 106, 107, 108, 109, 110, 111, 112, 113, 114, 115, 116, 117, 118, 119, 120, 121, 122, 123, 124, 125, 126, 127, 128, 129, 130, 131, 132, 133, 134, 135, 136, 137, 138, 139, 140] (by decide +kernel) (by decide +kernel)
set_option maxRecDepth 20000 in
theorem gX5_passes_X5_isForce : GoodIn wsX5_passes (wsV RX5 231 RX5 yX5_isForce wsX5_isForce) := goodIn_app (goodIn_of _ (by decide +kernel)) ggX5_passes_X5_isForce
set_option maxRecDepth 20000 in
theorem ggX5_passes_X5_isBound : GoodIn wsX5_passes wsX5_isBound := goodIn_r _ [25, 26, 81, 82, 83, 84, 85, 86, 87, 88, 89, 90, 91, 92, 93, 94, 95, 96, 97, 98, 99, 100, 101, 102, 103, 104, 105, 106, 107, 108, 109, 110, 111, 112, 113, 114, 115, 116, 117, 118, 119, 120, 121, 122, 123, 124, 125, 126, 127, 128, 129, 130, 131, 132, 133, 134, 135, 136, 137, 138, 139, 140] (by decide +kernel) (by decide +kernel)
set_option maxRecDepth 20000 in
theorem gX5_passes_X5_isBound : GoodIn wsX5_passes (wsV RX5 207 RX5 yX5_isBound wsX5_isBound) := goodIn_app (goodIn_of _ (by decide +kernel)) ggX5_passes_X5_isBound
set_option maxRecDepth 20000 in
theorem ggX5_weeks_X5_refuse : GoodIn wsX5_weeks wsX5_refuse := goodIn_r _ [6, 7, 90, 91, 92, 93, 94, 95, 96, 97, 98, 99, 100, 101, 102, 103, 104, 105, 106, 107, 108, 109, 110, 111, 112, 113, 114, 115, 116, 117, 118, 119, 120, 121, 122, 123, 124, 125, 126, 127, 128, 129, 130, 131, 132, 133, 134, 135, 136, 137, 138, 139, 140, 141, 142, 143, 144, 145, 146, 147, 148, 149] (by decide +kernel) (by decide +kernel)
set_option maxRecDepth 20000 in
theorem gX5_weeks_X5_refuse : GoodIn wsX5_weeks (wsV RX5 137 RX5 yX5_refuse wsX5_refuse) := goodIn_app (goodIn_of _ (by decide +kernel)) ggX5_weeks_X5_refuse
set_option maxRecDepth 20000 in
theorem ggX5_weeks_X5_passes : GoodIn wsX5_weeks wsX5_passes := goodIn_r _ [11, 12, 13, 14, 15, 16, 17, 18, 19, 1, 20, 21, 22, 5, 23, 24, 25, 26, 27, 28, 29, 30, 31, 32, 33, 34, 35, 36, 37, 38, 39, 40, 41, 42, 43, 44, 45, 46, 47, 48, 49, 50, 51, 52, 53, 54, 55, 56, 57, 58, 59, 60, 61, 62, 63, 64, 65, 66, 67, 68, 69, 70, 71, 72, 73, 74, 75, 76, 77, 78, 79, 80, 81, 82, 83, 84, 85, 86, 87, 88, 89, 90, 91, 92, 93, 94, 95, 96, 97, 98, 99, 100, 101, 102, 103, 104, 105, 106, 107, 108, 109, 110, 111, 112, 113, 114, 115, 116, 117, 118, 119, 120, 121, 122, 123, 124, 125, 126, 127, 128, 129, 130, 131, 132, 133, 134, 135, 136, 137, 138, 139, 140, 141, 142, 143, 144, 145, 146, 147, 148, 149] (by decide +kernel) (by decide +kernel)
set_option maxRecDepth 20000 in
theorem gX5_weeks_X5_passes : GoodIn wsX5_weeks (wsV RX5 279 RX5 yX5_passes wsX5_passes) := goodIn_app (goodIn_of _ (by decide +kernel)) ggX5_weeks_X5_passes
set_option maxRecDepth 20000 in
theorem ggX5_had_X5_isPerson : GoodIn wsX5_had wsX5_isPerson := goodIn_r _ [6, 7, 8, 9, 5, 10, 21, 22, 23, 24, 25, 26, 27, 28, 29, 30, 31, 32, 33, 34, 35, 36, 37, 38, 39, 40, 41, 42, 43, 44, 45, 46, 47, 48, 49, 50, 51, 52, 53, 54, 55, 56, 57, 58, 59, 60, 61, 62, 63, 64, 65, 66, 67, 68, 69, 70, 71, 72, 73, 74, 75, 76, 77, 78, 79, 80] (by decide +kernel) (by decide +kernel)
set_option maxRecDepth 20000 in
theorem gX5_had_X5_isPerson : GoodIn wsX5_had (wsV RX5 213 RX5 yX5_isPerson wsX5_isPerson) := goodIn_app (goodIn_of _ (by decide +kernel)) ggX5_had_X5_isPerson
set_option maxRecDepth 20000 in
theorem ggX5_had_X5_refuseFar : GoodIn wsX5_had wsX5_refuseFar := goodIn_r _ [14, 15, 16, 17, 18, 5, 19, 20, 21, 22, 23, 24, 25, 26, 27, 28, 29, 30, 31, 32, 33, 34, 35, 36, 37, 38, 39, 40, 41, 42, 43, 44, 45, 46, 47, 48, 49, 50, 51, 52, 53, 54, 55, 56, 57, 58, 59, 60, 61, 62, 63, 64, 65, 66, 67, 68, 69, 70, 71, 72, 73, 74, 75, 76, 77, 78, 79, 80] (by decide +kernel) (by decide +kernel)
set_option maxRecDepth 20000 in
theorem gX5_had_X5_refuseFar : GoodIn wsX5_had (wsV RX5 234 RX5 yX5_refuseFar wsX5_refuseFar) := goodIn_app (goodIn_of _ (by decide +kernel)) ggX5_had_X5_refuseFar
set_option maxRecDepth 20000 in
theorem ggX5_liars_X5_isPaper : GoodIn wsX5_liars wsX5_isPaper := goodIn_r _ [5, 6, 7, 8, 4, 9, 21, 22, 23, 24, 25, 26, 27, 28, 29, 30, 31, 32, 33, 34, 35, 36, 37, 38, 39, 40, 41, 42, 43, 44, 45, 46, 47, 48, 49, 50, 51, 52, 53, 54, 55, 56, 57, 58, 59, 60, 61, 62, 63, 64, 65, 66, 67, 68, 69, 70, 71, 72, 73, 74, 75, 76, 77, 78, 79, 80] (by decide +kernel) (by decide +kernel)
set_option maxRecDepth 20000 in
theorem gX5_liars_X5_isPaper : GoodIn wsX5_liars (wsV RX5 228 RX5 yX5_isPaper wsX5_isPaper) := goodIn_app (goodIn_of _ (by decide +kernel)) ggX5_liars_X5_isPaper
set_option maxRecDepth 20000 in
theorem ggX5_liars_X5_liarsOf : GoodIn wsX5_liars wsX5_liarsOf := goodIn_r _ [13, 14, 15, 21, 22, 23, 24, 25, 26, 27, 28, 29, 30, 31, 32, 33, 34, 35, 36, 37, 38, 39, 40, 41, 42, 43, 44, 45, 46, 47, 48, 49, 50, 51, 52, 53, 54, 55, 56, 57, 58, 59, 60, 61, 62, 63, 64, 65, 66, 67, 68, 69, 70, 71, 72, 73, 74, 75, 76, 77, 78, 79, 80] (by decide +kernel) (by decide +kernel)
set_option maxRecDepth 20000 in
theorem gX5_liars_X5_liarsOf : GoodIn wsX5_liars (wsV RX5 282 RX5 yX5_liarsOf wsX5_liarsOf) := goodIn_app (goodIn_of _ (by decide +kernel)) ggX5_liars_X5_liarsOf
set_option maxRecDepth 20000 in
theorem ggX5_liars_X5_refuse : GoodIn wsX5_liars wsX5_refuse := goodIn_r _ [19, 20, 21, 22, 23, 24, 25, 26, 27, 28, 29, 30, 31, 32, 33, 34, 35, 36, 37, 38, 39, 40, 41, 42, 43, 44, 45, 46, 47, 48, 49, 50, 51, 52, 53, 54, 55, 56, 57, 58, 59, 60, 61, 62, 63, 64, 65, 66, 67, 68, 69, 70, 71, 72, 73, 74, 75, 76, 77, 78, 79, 80] (by decide +kernel) (by decide +kernel)
set_option maxRecDepth 20000 in
theorem gX5_liars_X5_refuse : GoodIn wsX5_liars (wsV RX5 137 RX5 yX5_refuse wsX5_refuse) := goodIn_app (goodIn_of _ (by decide +kernel)) ggX5_liars_X5_refuse
set_option maxRecDepth 20000 in
theorem ggX5_forceIf_X5_keeps : GoodIn wsX5_forceIf wsX5_keeps := goodIn_r _ [8, 9, 10, 11, 12, 13, 1, 14, 15, 16, 17, 18, 19, 99, 100, 101, 102, 103, 104, 105, 106, 107, 108, 109, 110, 111, 112, 113, 114, 115, 116, 117, 118, 119, 120, 121, 122, 123, 124, 125, 126, 127, 128, 129, 130, 131, 132, 133, 134, 135, 136, 137, 138, 139, 140, 141, 142, 143, 144, 145, 146, 147, 148, 149, 150, 151, 152, 153, 154, 155, 156, 157, 158] (by decide +kernel) (by decide +kernel)
set_option maxRecDepth 20000 in
theorem gX5_forceIf_X5_keeps : GoodIn wsX5_forceIf (wsV RX5 288 RX5 yX5_keeps wsX5_keeps) := goodIn_app (goodIn_of _ (by decide +kernel)) ggX5_forceIf_X5_keeps
set_option maxRecDepth 20000 in
theorem ggX5_forceIf_X5_mayRead : GoodIn wsX5_forceIf wsX5_mayRead := goodIn_r _ [23, 24, 25, 26, 7, 27, 28, 29, 30, 31, 32, 33, 34, 35, 36, 37, 38, 39, 40, 10, 41, 42, 43, 44, 45, 46, 47, 48, 49, 50, 51, 52, 99, 100, 101, 102, 103, 104, 105, 106, 107, 108, 109, 110, 111, 112, 113, 114, 115, 116, 117, 118, 119, 120, 121, 122, 123, 124, 125, 126, 127, 128, 129, 130, 131, 132, 133, 134, 135, 136, 137, 138, 139, 140, 141, 142, 143, 144, 145, 146, 147, 148, 149, 150, 151, 152, 153, 154, 155, 156, 157, 158] (by decide +kernel) (by decide +kernel)
set_option maxRecDepth 20000 in
theorem gX5_forceIf_X5_mayRead : GoodIn wsX5_forceIf (wsV RX5 237 RX5 yX5_mayRead wsX5_mayRead) := goodIn_app (goodIn_of _ (by decide +kernel)) ggX5_forceIf_X5_mayRead
set_option maxRecDepth 20000 in
theorem ggX5_forceIf_X5_hasNowRead : GoodIn wsX5_forceIf wsX5_hasNowRead := goodIn_r _ [56, 10, 17, 57, 58, 59, 7, 60, 99, 100, 101, 102, 103, 104, 105, 106, 107, 108, 109, 110, 111, 112, 113, 114, 115, 116, 117, 118, 119, 120, 121, 122, 123, 124, 125, 126, 127, 128, 129, 130, 131, 132, 133, 134, 135, 136, 137, 138, 139, 140, 141, 142, 143, 144, 145, 146, 147, 148, 149, 150, 151, 152, 153, 154, 155, 156, 157, 158] (by decide +kernel) (by decide +kernel)
set_option maxRecDepth 20000 in
theorem gX5_forceIf_X5_hasNowRead : GoodIn wsX5_forceIf (wsV RX5 240 RX5 yX5_hasNowRead wsX5_hasNowRead) := goodIn_app (goodIn_of _ (by decide +kernel)) ggX5_forceIf_X5_hasNowRead
set_option maxRecDepth 20000 in
theorem ggX5_forceIf_X5_passes : GoodIn wsX5_forceIf wsX5_passes := goodIn_r _ [64, 28, 65, 2, 3, 1, 15, 66, 57, 18, 20, 21, 22, 7, 23, 24, 25, 26, 27, 29, 30, 31, 32, 33, 34, 35, 36, 37, 38, 39, 40, 10, 41, 42, 43, 44, 45, 46, 47, 48, 49, 50, 51, 52, 67, 68, 69, 70, 71, 12, 72, 73, 74, 75, 76, 77, 78, 79, 80, 81, 82, 83, 84, 85, 86, 17, 58, 59, 60, 87, 88, 89, 90, 53, 54, 55, 56, 91, 92, 93, 94, 99, 100, 101, 102, 103, 104, 105, 106, 107, 108, 109, 110, 111, 112, 113, 114, 115, 116, 117, 118, 119, 120, 121, 122, 123, 124, 125, 126, 127, 128, 129, 130, 131, 132, 133, 134, 135, 136, 137, 138, 139, 140, 141, 142, 143, 144, 145, 146, 147, 148, 149, 150, 151, 152, 153, 154, 155, 156, 157, 158] (by decide +kernel) (by decide +kernel)
set_option maxRecDepth 20000 in
theorem gX5_forceIf_X5_passes : GoodIn wsX5_forceIf (wsV RX5 279 RX5 yX5_passes wsX5_passes) := goodIn_app (goodIn_of _ (by decide +kernel)) ggX5_forceIf_X5_passes
set_option maxRecDepth 20000 in
theorem ggX5_forceIf_X5_lays : GoodIn wsX5_forceIf wsX5_lays := goodIn_r _ [98, 10, 9, 12, 11, 1, 13, 15, 14, 17, 16, 19, 18, 99, 100, 101, 102, 103, 104, 105, 106, 107, 108, 109, 110, 111, 112, 113, 114, 115, 116, 117, 118, 119, 120, 121, 122, 123, 124, 125, 126, 127, 128, 129, 130, 131, 132, 133, 134, 135, 136, 137, 138, 139, 140, 141, 142, 143, 144, 145, 146, 147, 148, 149, 150, 151, 152, 153, 154, 155, 156, 157, 158] (by decide +kernel) (by decide +kernel)
set_option maxRecDepth 20000 in
theorem gX5_forceIf_X5_lays : GoodIn wsX5_forceIf (wsV RX5 291 RX5 yX5_lays wsX5_lays) := goodIn_app (goodIn_of _ (by decide +kernel)) ggX5_forceIf_X5_lays
set_option maxRecDepth 20000 in
theorem ggX5_findsWhen_X5_thinkAbove : GoodIn wsX5_findsWhen wsX5_thinkAbove := goodIn_r _ [7, 8, 9, 10, 11, 6, 12, 105, 106, 107, 108, 109, 110, 111, 112, 113, 114, 115, 116, 117, 118, 119, 120, 121, 122, 123, 124, 125, 126, 127, 128, 129, 130, 131, 132, 133, 134, 135, 136, 137, 138, 139, 140, 141, 142, 143, 144, 145, 146, 147, 148, 149, 150, 151, 152, 153, 154, 155, 156, 157, 158, 159, 160, 161, 162, 163, 164] (by decide +kernel) (by decide +kernel)
set_option maxRecDepth 20000 in
theorem gX5_findsWhen_X5_thinkAbove : GoodIn wsX5_findsWhen (wsV RX5 248 RX5 yX5_thinkAbove wsX5_thinkAbove) := goodIn_app (goodIn_of _ (by decide +kernel)) ggX5_findsWhen_X5_thinkAbove
set_option maxRecDepth 20000 in
theorem ggX5_findsWhen_X5_forceIf : GoodIn wsX5_findsWhen wsX5_forceIf := goodIn_r _ [16, 17, 18, 19, 20, 21, 22, 6, 23, 24, 25, 26, 27, 28, 29, 30, 31, 8, 32, 33, 34, 35, 36, 37, 38, 39, 40, 41, 42, 43, 44, 45, 46, 47, 48, 49, 50, 51, 52, 53, 54, 55, 56, 57, 58, 59, 60, 61, 62, 63, 64, 65, 66, 67, 68, 69, 70, 71, 10, 11, 12, 72, 73, 74, 75, 76, 9, 77, 78, 79, 80, 81, 82, 83, 84, 85, 86, 87, 88, 89, 90, 91, 92, 3, 4, 5, 7, 93, 94, 95, 96, 97, 98, 99, 100, 101, 102, 103, 104, 105, 106, 107, 108, 109, 110, 111, 112, 113, 114, 115, 116, 117, 118, 119, 120, 121, 122, 123, 124, 125, 126, 127, 128, 129, 130, 131, 132, 133, 134, 135, 136, 137, 138, 139, 140, 141, 142, 143, 144, 145, 146, 147, 148, 149, 150, 151, 152, 153, 154, 155, 156, 157, 158, 159, 160, 161, 162, 163, 164] (by decide +kernel) (by decide +kernel)
set_option maxRecDepth 20000 in
theorem gX5_findsWhen_X5_forceIf : GoodIn wsX5_findsWhen (wsV RX5 297 RX5 yX5_forceIf wsX5_forceIf) := goodIn_app (goodIn_of _ (by decide +kernel)) ggX5_findsWhen_X5_forceIf
set_option maxRecDepth 20000 in
theorem ggX5_whenWrong_X5_isBound : GoodIn wsX5_whenWrong wsX5_isBound := goodIn_r _ [5, 6, 12, 13, 14, 15, 16, 17, 18, 19, 20, 21, 22, 23, 24, 25, 26, 27, 28, 29, 30, 31, 32, 33, 34, 35, 36, 37, 38, 39, 40, 41, 42, 43, 44, 45, 46, 47, 48, 49, 50, 51, 52, 53, 54, 55, 56, 57, 58, 59, 60, 61, 62, 63, 64, 65, 66, 67, 68, 69, 70, 71] (by decide +kernel) (by decide +kernel)
set_option maxRecDepth 20000 in
theorem gX5_whenWrong_X5_isBound : GoodIn wsX5_whenWrong (wsV RX5 207 RX5 yX5_isBound wsX5_isBound) := goodIn_app (goodIn_of _ (by decide +kernel)) ggX5_whenWrong_X5_isBound
set_option maxRecDepth 20000 in
theorem ggX5_whenWrong_X5_hasRead : GoodIn wsX5_whenWrong wsX5_hasRead := goodIn_r _ [10, 11, 12, 13, 14, 15, 16, 17, 18, 19, 20, 21, 22, 23, 24, 25, 26, 27, 28, 29, 30, 31, 32, 33, 34, 35, 36, 37, 38, 39, 40, 41, 42, 43, 44, 45, 46, 47, 48, 49, 50, 51, 52, 53, 54, 55, 56, 57, 58, 59, 60, 61, 62, 63, 64, 65, 66, 67, 68, 69, 70, 71] (by decide +kernel) (by decide +kernel)
set_option maxRecDepth 20000 in
theorem gX5_whenWrong_X5_hasRead : GoodIn wsX5_whenWrong (wsV RX5 210 RX5 yX5_hasRead wsX5_hasRead) := goodIn_app (goodIn_of _ (by decide +kernel)) ggX5_whenWrong_X5_hasRead
set_option maxRecDepth 20000 in
theorem ggX5_when_X5_isPerson : GoodIn wsX5_when wsX5_isPerson := goodIn_r _ [6, 7, 8, 9, 5, 10, 122, 123, 124, 125, 126, 127, 128, 129, 130, 131, 132, 133, 134, 135, 136, 137, 138, 139, 140, 141, 142, 143, 144, 145, 146, 147, 148, 149, 150, 151, 152, 153, 154, 155, 156, 157, 158, 159, 160, 161, 162, 163, 164, 165, 166, 167, 168, 169, 170, 171, 172, 173, 174, 175, 176, 177, 178, 179, 180, 181] (by decide +kernel) (by decide +kernel)
set_option maxRecDepth 20000 in
theorem gX5_when_X5_isPerson : GoodIn wsX5_when (wsV RX5 213 RX5 yX5_isPerson wsX5_isPerson) := goodIn_app (goodIn_of _ (by decide +kernel)) ggX5_when_X5_isPerson
set_option maxRecDepth 20000 in
theorem ggX5_when_X5_isPaper : GoodIn wsX5_when wsX5_isPaper := goodIn_r _ [14, 15, 8, 9, 5, 10, 122, 123, 124, 125, 126, 127, 128, 129, 130, 131, 132, 133, 134, 135, 136, 137, 138, 139, 140, 141, 142, 143, 144, 145, 146, 147, 148, 149, 150, 151, 152, 153, 154, 155, 156, 157, 158, 159, 160, 161, 162, 163, 164, 165, 166, 167, 168, 169, 170, 171, 172, 173, 174, 175, 176, 177, 178, 179, 180, 181] (by decide +kernel) (by decide +kernel)
set_option maxRecDepth 20000 in
theorem gX5_when_X5_isPaper : GoodIn wsX5_when (wsV RX5 228 RX5 yX5_isPaper wsX5_isPaper) := goodIn_app (goodIn_of _ (by decide +kernel)) ggX5_when_X5_isPaper
set_option maxRecDepth 20000 in
theorem ggX5_when_X5_refuse : GoodIn wsX5_when wsX5_refuse := goodIn_r _ [19, 20, 122, 123, 124, 125, 126, 127, 128, 129, 130, 131, 132, 133, 134, 135, 136, 137, 138, 139, 140, 141, 142, 143, 144, 145, 146, 147, 148, 149, 150, 151, 152, 153, 154, 155, 156, 157, 158, 159, 160, 161, 162, 163, 164, 165, 166, 167, 168, 169, 170, 171, 172, 173, 174, 175, 176, 177, 178, 179, 180, 181] (by decide +kernel) (by decide +kernel)
set_option maxRecDepth 20000 in
theorem gX5_when_X5_refuse : GoodIn wsX5_when (wsV RX5 137 RX5 yX5_refuse wsX5_refuse) := goodIn_app (goodIn_of _ (by decide +kernel)) ggX5_when_X5_refuse
set_option maxRecDepth 20000 in
theorem ggX5_when_X5_whenWrong : GoodIn wsX5_when wsX5_whenWrong := goodIn_r _ [24, 25, 26, 27, 5, 28, 29, 30, 31, 32, 33, 34, 122, 123, 124, 125, 126, 127, 128, 129, 130, 131, 132, 133, 134, 135, 136, 137, 138, 139, 140, 141, 142, 143, 144, 145, 146, 147, 148, 149, 150, 151, 152, 153, 154, 155, 156, 157, 158, 159, 160, 161, 162, 163, 164, 165, 166, 167, 168, 169, 170, 171, 172, 173, 174, 175, 176, 177, 178, 179, 180, 181] (by decide +kernel) (by decide +kernel)
set_option maxRecDepth 20000 in
theorem gX5_when_X5_whenWrong : GoodIn wsX5_when (wsV RX5 304 RX5 yX5_whenWrong wsX5_whenWrong) := goodIn_app (goodIn_of _ (by decide +kernel)) ggX5_when_X5_whenWrong
set_option maxRecDepth 20000 in
theorem ggX5_when_X5_findsWhen : GoodIn wsX5_when wsX5_findsWhen := goodIn_r _ [38, 1, 39, 40, 41, 42, 5, 43, 44, 45, 46, 47, 48, 49, 50, 51, 52, 53, 54, 55, 56, 57, 58, 59, 60, 34, 61, 62, 63, 64, 65, 66, 67, 68, 69, 70, 71, 72, 2, 3, 4, 6, 7, 8, 9, 10, 25, 26, 27, 28, 29, 30, 31, 32, 33, 73, 74, 75, 76, 77, 78, 79, 80, 81, 82, 83, 84, 85, 86, 87, 88, 89, 90, 91, 92, 93, 15, 94, 95, 96, 97, 98, 99, 100, 101, 102, 103, 104, 105, 106, 107, 108, 109, 110, 111, 112, 113, 114, 115, 116, 117, 118, 119, 120, 121, 122, 123, 124, 125, 126, 127, 128, 129, 130, 131, 132, 133, 134, 135, 136, 137, 138, 139, 140, 141, 142, 143, 144, 145, 146, 147, 148, 149, 150, 151, 152, 153, 154, 155, 156, 157, 158, 159, 160, 161, 162, 163, 164, 165, 166, 167, 168, 169, 170, 171, 172, 173, 174, 175, 176, 177, 178, 179, 180, 181] (by decide +kernel) (by decide +kernel)
set_option maxRecDepth 20000 in
theorem gX5_when_X5_findsWhen : GoodIn wsX5_when (wsV RX5 308 RX5 yX5_findsWhen wsX5_findsWhen) := goodIn_app (goodIn_of _ (by decide +kernel)) ggX5_when_X5_findsWhen
set_option maxRecDepth 20000 in
theorem ggX5_mean_X5_isPerson : GoodIn wsX5_mean wsX5_isPerson := goodIn_r _ [6, 7, 8, 9, 5, 10, 133, 134, 135, 136, 137, 138, 139, 140, 141, 142, 143, 144, 145, 146, 147, 148, 149, 150, 151, 152, 153, 154, 155, 156, 157, 158, 159, 160, 161, 162, 163, 164, 165, 166, 167, 168, 169, 170, 171, 172, 173, 174, 175, 176, 177, 178, 179, 180, 181, 182, 183, 184, 185, 186, 187, 188, 189, 190, 191, 192] (by decide +kernel) (by decide +kernel)
set_option maxRecDepth 20000 in
theorem gX5_mean_X5_isPerson : GoodIn wsX5_mean (wsV RX5 213 RX5 yX5_isPerson wsX5_isPerson) := goodIn_app (goodIn_of _ (by decide +kernel)) ggX5_mean_X5_isPerson
set_option maxRecDepth 20000 in
theorem ggX5_mean_X5_isPaper : GoodIn wsX5_mean wsX5_isPaper := goodIn_r _ [14, 15, 8, 9, 5, 10, 133, 134, 135, 136, 137, 138, 139, 140, 141, 142, 143, 144, 145, 146, 147, 148, 149, 150, 151, 152, 153, 154, 155, 156, 157, 158, 159, 160, 161, 162, 163, 164, 165, 166, 167, 168, 169, 170, 171, 172, 173, 174, 175, 176, 177, 178, 179, 180, 181, 182, 183, 184, 185, 186, 187, 188, 189, 190, 191, 192] (by decide +kernel) (by decide +kernel)
set_option maxRecDepth 20000 in
theorem gX5_mean_X5_isPaper : GoodIn wsX5_mean (wsV RX5 228 RX5 yX5_isPaper wsX5_isPaper) := goodIn_app (goodIn_of _ (by decide +kernel)) ggX5_mean_X5_isPaper
set_option maxRecDepth 20000 in
theorem ggX5_mean_X5_refuseLong : GoodIn wsX5_mean wsX5_refuseLong := goodIn_r _ [19, 20, 21, 22, 23, 5, 24, 25, 133, 134, 135, 136, 137, 138, 139, 140, 141, 142, 143, 144, 145, 146, 147, 148, 149, 150, 151, 152, 153, 154, 155, 156, 157, 158, 159, 160, 161, 162, 163, 164, 165, 166, 167, 168, 169, 170, 171, 172, 173, 174, 175, 176, 177, 178, 179, 180, 181, 182, 183, 184, 185, 186, 187, 188, 189, 190, 191, 192] (by decide +kernel) (by decide +kernel)
set_option maxRecDepth 20000 in
theorem gX5_mean_X5_refuseLong : GoodIn wsX5_mean (wsV RX5 244 RX5 yX5_refuseLong wsX5_refuseLong) := goodIn_app (goodIn_of _ (by decide +kernel)) ggX5_mean_X5_refuseLong
set_option maxRecDepth 20000 in
theorem ggX5_mean_X5_in : GoodIn wsX5_mean wsX5_in := goodIn_r _ [10] (by decide +kernel) (by decide +kernel)
set_option maxRecDepth 20000 in
theorem gX5_mean_X5_in : GoodIn wsX5_mean (va_wsS RX5 145 yX5_in wsX5_in) := goodIn_app (goodIn_of _ (by decide +kernel)) ggX5_mean_X5_in
set_option maxRecDepth 20000 in
theorem ggX5_mean_X5_whenWrong : GoodIn wsX5_mean wsX5_whenWrong := goodIn_r _ [29, 30, 31, 32, 5, 33, 34, 35, 36, 37, 38, 39, 133, 134, 135, 136, 137, 138, 139, 140, 141, 142, 143, 144, 145, 146, 147, 148, 149, 150, 151, 152, 153, 154, 155, 156, 157, 158, 159, 160, 161, 162, 163, 164, 165, 166, 167, 168, 169, 170, 171, 172, 173, 174, 175, 176, 177, 178, 179, 180, 181, 182, 183, 184, 185, 186, 187, 188, 189, 190, 191, 192] (by decide +kernel) (by decide +kernel)
set_option maxRecDepth 20000 in
theorem gX5_mean_X5_whenWrong : GoodIn wsX5_mean (wsV RX5 304 RX5 yX5_whenWrong wsX5_whenWrong) := goodIn_app (goodIn_of _ (by decide +kernel)) ggX5_mean_X5_whenWrong
set_option maxRecDepth 20000 in
theorem ggX5_mean_X5_findsWhen : GoodIn wsX5_mean wsX5_findsWhen := goodIn_r _ [43, 44, 1, 45, 46, 47, 5, 48, 49, 50, 51, 52, 53, 54, 55, 56, 57, 58, 59, 60, 61, 62, 63, 64, 65, 39, 66, 67, 68, 69, 70, 71, 72, 73, 74, 75, 76, 77, 2, 3, 4, 6, 7, 8, 9, 10, 30, 31, 32, 33, 34, 35, 36, 37, 38, 78, 79, 80, 81, 82, 83, 84, 85, 86, 87, 88, 89, 90, 91, 92, 93, 94, 95, 96, 97, 98, 15, 99, 100, 101, 102, 103, 104, 105, 106, 107, 108, 109, 110, 111, 112, 113, 114, 115, 116, 117, 118, 119, 120, 121, 122, 123, 124, 125, 126, 133, 134, 135, 136, 137, 138, 139, 140, 141, 142, 143, 144, 145, 146, 147, 148, 149, 150, 151, 152, 153, 154, 155, 156, 157, 158, 159, 160, 161, 162, 163, 164, 165, 166, 167, 168, 169, 170, 171, 172, 173, 174, 175, 176, 177, 178, 179, 180, 181, 182, 183, 184, 185, 186, 187, 188, 189, 190, 191, 192] (by decide +kernel) (by decide +kernel)
set_option maxRecDepth 20000 in
theorem gX5_mean_X5_findsWhen : GoodIn wsX5_mean (wsV RX5 308 RX5 yX5_findsWhen wsX5_findsWhen) := goodIn_app (goodIn_of _ (by decide +kernel)) ggX5_mean_X5_findsWhen
set_option maxRecDepth 20000 in
theorem ggX5_mean_X5_thinkAbove : GoodIn wsX5_mean wsX5_thinkAbove := goodIn_r _ [48, 49, 50, 51, 52, 5, 53, 133, 134, 135, 136, 137, 138, 139, 140, 141, 142, 143, 144, 145, 146, 147, 148, 149, 150, 151, 152, 153, 154, 155, 156, 157, 158, 159, 160, 161, 162, 163, 164, 165, 166, 167, 168, 169, 170, 171, 172, 173, 174, 175, 176, 177, 178, 179, 180, 181, 182, 183, 184, 185, 186, 187, 188, 189, 190, 191, 192] (by decide +kernel) (by decide +kernel)
set_option maxRecDepth 20000 in
theorem gX5_mean_X5_thinkAbove : GoodIn wsX5_mean (wsV RX5 248 RX5 yX5_thinkAbove wsX5_thinkAbove) := goodIn_app (goodIn_of _ (by decide +kernel)) ggX5_mean_X5_thinkAbove
set_option maxRecDepth 20000 in
theorem ggX5_mean_X5_thinkBelow : GoodIn wsX5_mean wsX5_thinkBelow := goodIn_r _ [118, 49, 51, 52, 5, 53, 133, 134, 135, 136, 137, 138, 139, 140, 141, 142, 143, 144, 145, 146, 147, 148, 149, 150, 151, 152, 153, 154, 155, 156, 157, 158, 159, 160, 161, 162, 163, 164, 165, 166, 167, 168, 169, 170, 171, 172, 173, 174, 175, 176, 177, 178, 179, 180, 181, 182, 183, 184, 185, 186, 187, 188, 189, 190, 191, 192] (by decide +kernel) (by decide +kernel)
set_option maxRecDepth 20000 in
theorem gX5_mean_X5_thinkBelow : GoodIn wsX5_mean (wsV RX5 252 RX5 yX5_thinkBelow wsX5_thinkBelow) := goodIn_app (goodIn_of _ (by decide +kernel)) ggX5_mean_X5_thinkBelow
set_option maxRecDepth 20000 in
theorem ggX5_mean_X5_lowest : GoodIn wsX5_mean wsX5_lowest := goodIn_r _ [129, 130, 131, 5, 132] (by decide +kernel) (by decide +kernel)
set_option maxRecDepth 20000 in
theorem gX5_mean_X5_lowest : GoodIn wsX5_mean (va_wsS RX5 255 yX5_lowest wsX5_lowest) := goodIn_app (goodIn_of _ (by decide +kernel)) ggX5_mean_X5_lowest
set_option maxRecDepth 20000 in
theorem ggX5_isRest_X5_ones : GoodIn wsX5_isRest wsX5_ones := goodIn_r _ [7] (by decide +kernel) (by decide +kernel)
set_option maxRecDepth 20000 in
theorem gX5_isRest_X5_ones : GoodIn wsX5_isRest (va_wsS RX5 222 yX5_ones wsX5_ones) := goodIn_app (goodIn_of _ (by decide +kernel)) ggX5_isRest_X5_ones
set_option maxRecDepth 20000 in
theorem ggX5_isRest_X5_forceBy : GoodIn wsX5_isRest wsX5_forceBy := goodIn_r _ [11, 12, 4, 5, 6, 7, 26, 27, 28, 29, 30, 31, 32, 33, 34, 35, 36, 37, 38, 39, 40, 41, 42, 43, 44, 45, 46, 47, 48, 49, 50, 51, 52, 53, 54, 55, 56, 57, 58, 59, 60, 61, 62, 63, 64, 65, 66, 67, 68, 69, 70, 71, 72, 73, 74, 75, 76, 77, 78, 79, 80, 81, 82, 83, 84, 85] (by decide +kernel) (by decide +kernel)
set_option maxRecDepth 20000 in
theorem gX5_isRest_X5_forceBy : GoodIn wsX5_isRest (wsV RX5 225 RX5 yX5_forceBy wsX5_forceBy) := goodIn_app (goodIn_of _ (by decide +kernel)) ggX5_isRest_X5_forceBy
set_option maxRecDepth 20000 in
theorem ggX5_isRest_X5_leftOf : GoodIn wsX5_isRest wsX5_leftOf := goodIn_r _ [16, 12, 1, 26, 27, 28, 29, 30, 31, 32, 33, 34, 35, 36, 37, 38, 39, 40, 41, 42, 43, 44, 45, 46, 47, 48, 49, 50, 51, 52, 53, 54, 55, 56, 57, 58, 59, 60, 61, 62, 63, 64, 65, 66, 67, 68, 69, 70, 71, 72, 73, 74, 75, 76, 77, 78, 79, 80, 81, 82, 83, 84, 85] (by decide +kernel) (by decide +kernel)
set_option maxRecDepth 20000 in
theorem gX5_isRest_X5_leftOf : GoodIn wsX5_isRest (wsV RX5 312 RX5 yX5_leftOf wsX5_leftOf) := goodIn_app (goodIn_of _ (by decide +kernel)) ggX5_isRest_X5_leftOf
set_option maxRecDepth 20000 in
theorem ggX5_isRest_X5_thinkAbove : GoodIn wsX5_isRest wsX5_thinkAbove := goodIn_r _ [20, 21, 22, 23, 24, 6, 25, 26, 27, 28, 29, 30, 31, 32, 33, 34, 35, 36, 37, 38, 39, 40, 41, 42, 43, 44, 45, 46, 47, 48, 49, 50, 51, 52, 53, 54, 55, 56, 57, 58, 59, 60, 61, 62, 63, 64, 65, 66, 67, 68, 69, 70, 71, 72, 73, 74, 75, 76, 77, 78, 79, 80, 81, 82, 83, 84, 85] (by decide +kernel) (by decide +kernel)
set_option maxRecDepth 20000 in
theorem gX5_isRest_X5_thinkAbove : GoodIn wsX5_isRest (wsV RX5 248 RX5 yX5_thinkAbove wsX5_thinkAbove) := goodIn_app (goodIn_of _ (by decide +kernel)) ggX5_isRest_X5_thinkAbove
set_option maxRecDepth 20000 in
theorem ggX5_rests_X5_isPaper : GoodIn wsX5_rests wsX5_isPaper := goodIn_r _ [5, 6, 7, 8, 4, 9, 43, 44, 45, 46, 47, 48, 49, 50, 51, 52, 53, 54, 55, 56, 57, 58, 59, 60, 61, 62, 63, 64, 65, 66, 67, 68, 69, 70, 71, 72, 73, 74, 75, 76, 77, 78, 79, 80, 81, 82, 83, 84, 85, 86, 87, 88, 89, 90, 91, 92, 93, 94, 95, 96, 97, 98, 99, 100, 101, 102] (by decide +kernel) (by decide +kernel)
set_option maxRecDepth 20000 in
theorem gX5_rests_X5_isPaper : GoodIn wsX5_rests (wsV RX5 228 RX5 yX5_isPaper wsX5_isPaper) := goodIn_app (goodIn_of _ (by decide +kernel)) ggX5_rests_X5_isPaper
set_option maxRecDepth 20000 in
theorem ggX5_rests_X5_refuse : GoodIn wsX5_rests wsX5_refuse := goodIn_r _ [13, 14, 43, 44, 45, 46, 47, 48, 49, 50, 51, 52, 53, 54, 55, 56, 57, 58, 59, 60, 61, 62, 63, 64, 65, 66, 67, 68, 69, 70, 71, 72, 73, 74, 75, 76, 77, 78, 79, 80, 81, 82, 83, 84, 85, 86, 87, 88, 89, 90, 91, 92, 93, 94, 95, 96, 97, 98, 99, 100, 101, 102] (by decide +kernel) (by decide +kernel)
set_option maxRecDepth 20000 in
theorem gX5_rests_X5_refuse : GoodIn wsX5_rests (wsV RX5 137 RX5 yX5_refuse wsX5_refuse) := goodIn_app (goodIn_of _ (by decide +kernel)) ggX5_rests_X5_refuse
set_option maxRecDepth 20000 in
theorem ggX5_rests_X5_leftOf : GoodIn wsX5_rests wsX5_leftOf := goodIn_r _ [18, 19, 20, 43, 44, 45, 46, 47, 48, 49, 50, 51, 52, 53, 54, 55, 56, 57, 58, 59, 60, 61, 62, 63, 64, 65, 66, 67, 68, 69, 70, 71, 72, 73, 74, 75, 76, 77, 78, 79, 80, 81, 82, 83, 84, 85, 86, 87, 88, 89, 90, 91, 92, 93, 94, 95, 96, 97, 98, 99, 100, 101, 102] (by decide +kernel) (by decide +kernel)
set_option maxRecDepth 20000 in
theorem gX5_rests_X5_leftOf : GoodIn wsX5_rests (wsV RX5 312 RX5 yX5_leftOf wsX5_leftOf) := goodIn_app (goodIn_of _ (by decide +kernel)) ggX5_rests_X5_leftOf
set_option maxRecDepth 20000 in
theorem ggX5_rests_X5_isRest : GoodIn wsX5_rests wsX5_isRest := goodIn_r _ [24, 20, 25, 26, 27, 28, 4, 29, 30, 31, 32, 33, 19, 15, 16, 17, 18, 34, 35, 36, 37, 38, 39, 40, 41, 42, 43, 44, 45, 46, 47, 48, 49, 50, 51, 52, 53, 54, 55, 56, 57, 58, 59, 60, 61, 62, 63, 64, 65, 66, 67, 68, 69, 70, 71, 72, 73, 74, 75, 76, 77, 78, 79, 80, 81, 82, 83, 84, 85, 86, 87, 88, 89, 90, 91, 92, 93, 94, 95, 96, 97, 98, 99, 100, 101, 102] (by decide +kernel) (by decide +kernel)
set_option maxRecDepth 20000 in
theorem gX5_rests_X5_isRest : GoodIn wsX5_rests (wsV RX5 315 RX5 yX5_isRest wsX5_isRest) := goodIn_app (goodIn_of _ (by decide +kernel)) ggX5_rests_X5_isRest
set_option maxRecDepth 20000 in
theorem ggX5_rest_X5_isPaper : GoodIn wsX5_rest wsX5_isPaper := goodIn_r _ [5, 6, 7, 8, 4, 9, 43, 44, 45, 46, 47, 48, 49, 50, 51, 52, 53, 54, 55, 56, 57, 58, 59, 60, 61, 62, 63, 64, 65, 66, 67, 68, 69, 70, 71, 72, 73, 74, 75, 76, 77, 78, 79, 80, 81, 82, 83, 84, 85, 86, 87, 88, 89, 90, 91, 92, 93, 94, 95, 96, 97, 98, 99, 100, 101, 102] (by decide +kernel) (by decide +kernel)
set_option maxRecDepth 20000 in
theorem gX5_rest_X5_isPaper : GoodIn wsX5_rest (wsV RX5 228 RX5 yX5_isPaper wsX5_isPaper) := goodIn_app (goodIn_of _ (by decide +kernel)) ggX5_rest_X5_isPaper
set_option maxRecDepth 20000 in
theorem ggX5_rest_X5_refuse : GoodIn wsX5_rest wsX5_refuse := goodIn_r _ [13, 14, 43, 44, 45, 46, 47, 48, 49, 50, 51, 52, 53, 54, 55, 56, 57, 58, 59, 60, 61, 62, 63, 64, 65, 66, 67, 68, 69, 70, 71, 72, 73, 74, 75, 76, 77, 78, 79, 80, 81, 82, 83, 84, 85, 86, 87, 88, 89, 90, 91, 92, 93, 94, 95, 96, 97, 98, 99, 100, 101, 102] (by decide +kernel) (by decide +kernel)
set_option maxRecDepth 20000 in
theorem gX5_rest_X5_refuse : GoodIn wsX5_rest (wsV RX5 137 RX5 yX5_refuse wsX5_refuse) := goodIn_app (goodIn_of _ (by decide +kernel)) ggX5_rest_X5_refuse
set_option maxRecDepth 20000 in
theorem ggX5_rest_X5_leftOf : GoodIn wsX5_rest wsX5_leftOf := goodIn_r _ [18, 19, 20, 43, 44, 45, 46, 47, 48, 49, 50, 51, 52, 53, 54, 55, 56, 57, 58, 59, 60, 61, 62, 63, 64, 65, 66, 67, 68, 69, 70, 71, 72, 73, 74, 75, 76, 77, 78, 79, 80, 81, 82, 83, 84, 85, 86, 87, 88, 89, 90, 91, 92, 93, 94, 95, 96, 97, 98, 99, 100, 101, 102] (by decide +kernel) (by decide +kernel)
set_option maxRecDepth 20000 in
theorem gX5_rest_X5_leftOf : GoodIn wsX5_rest (wsV RX5 312 RX5 yX5_leftOf wsX5_leftOf) := goodIn_app (goodIn_of _ (by decide +kernel)) ggX5_rest_X5_leftOf
set_option maxRecDepth 20000 in
theorem ggX5_rest_X5_isRest : GoodIn wsX5_rest wsX5_isRest := goodIn_r _ [24, 20, 25, 26, 27, 28, 4, 29, 30, 31, 32, 33, 19, 15, 16, 17, 18, 34, 35, 36, 37, 38, 39, 40, 41, 42, 43, 44, 45, 46, 47, 48, 49, 50, 51, 52, 53, 54, 55, 56, 57, 58, 59, 60, 61, 62, 63, 64, 65, 66, 67, 68, 69, 70, 71, 72, 73, 74, 75, 76, 77, 78, 79, 80, 81, 82, 83, 84, 85, 86, 87, 88, 89, 90, 91, 92, 93, 94, 95, 96, 97, 98, 99, 100, 101, 102] (by decide +kernel) (by decide +kernel)
set_option maxRecDepth 20000 in
theorem gX5_rest_X5_isRest : GoodIn wsX5_rest (wsV RX5 315 RX5 yX5_isRest wsX5_isRest) := goodIn_app (goodIn_of _ (by decide +kernel)) ggX5_rest_X5_isRest
set_option maxRecDepth 20000 in
theorem ggX5_endsOf_X5_isForce : GoodIn wsX5_endsOf wsX5_isForce := goodIn_r _ [7, 1, 2, 8, 9, 6, 10, 11, 12, 13, 14, 15, 20, 21, 22, 23, 24, 25, 26, 27, 28, 29, 30, 31, 32, 33, 34, 35, 36, 37, 38, 39, 40, 41, 42, 43, 44, 45, 46, 47, 48, 49, 50, 51, 52, 53, 54, 55, 56, 57, 58, 59, 60, 61, 62, 63, 64, 65, 66, 67, 68, 69, 70, 71, 72, 73, 74, 75, 76, 77, 78, 79] (by decide +kernel) (by decide +kernel)
set_option maxRecDepth 20000 in
theorem gX5_endsOf_X5_isForce : GoodIn wsX5_endsOf (wsV RX5 231 RX5 yX5_isForce wsX5_isForce) := goodIn_app (goodIn_of _ (by decide +kernel)) ggX5_endsOf_X5_isForce
set_option maxRecDepth 20000 in
theorem ggX5_endsOf_X5_ones : GoodIn wsX5_endsOf wsX5_ones := goodIn_r _ [10] (by decide +kernel) (by decide +kernel)
set_option maxRecDepth 20000 in
theorem gX5_endsOf_X5_ones : GoodIn wsX5_endsOf (va_wsS RX5 222 yX5_ones wsX5_ones) := goodIn_app (goodIn_of _ (by decide +kernel)) ggX5_endsOf_X5_ones
set_option maxRecDepth 20000 in
theorem ggX5_endsOf_X5_forceBy : GoodIn wsX5_endsOf wsX5_forceBy := goodIn_r _ [14, 15, 8, 9, 6, 10, 20, 21, 22, 23, 24, 25, 26, 27, 28, 29, 30, 31, 32, 33, 34, 35, 36, 37, 38, 39, 40, 41, 42, 43, 44, 45, 46, 47, 48, 49, 50, 51, 52, 53, 54, 55, 56, 57, 58, 59, 60, 61, 62, 63, 64, 65, 66, 67, 68, 69, 70, 71, 72, 73, 74, 75, 76, 77, 78, 79] (by decide +kernel) (by decide +kernel)
set_option maxRecDepth 20000 in
theorem gX5_endsOf_X5_forceBy : GoodIn wsX5_endsOf (wsV RX5 225 RX5 yX5_forceBy wsX5_forceBy) := goodIn_app (goodIn_of _ (by decide +kernel)) ggX5_endsOf_X5_forceBy
set_option maxRecDepth 20000 in
theorem ggX5_endsOf_X5_leftOf : GoodIn wsX5_endsOf wsX5_leftOf := goodIn_r _ [19, 15, 2, 20, 21, 22, 23, 24, 25, 26, 27, 28, 29, 30, 31, 32, 33, 34, 35, 36, 37, 38, 39, 40, 41, 42, 43, 44, 45, 46, 47, 48, 49, 50, 51, 52, 53, 54, 55, 56, 57, 58, 59, 60, 61, 62, 63, 64, 65, 66, 67, 68, 69, 70, 71, 72, 73, 74, 75, 76, 77, 78, 79] (by decide +kernel) (by decide +kernel)
set_option maxRecDepth 20000 in
theorem gX5_endsOf_X5_leftOf : GoodIn wsX5_endsOf (wsV RX5 312 RX5 yX5_leftOf wsX5_leftOf) := goodIn_app (goodIn_of _ (by decide +kernel)) ggX5_endsOf_X5_leftOf
set_option maxRecDepth 20000 in
theorem ggX5_ends_X5_isPaper : GoodIn wsX5_ends wsX5_isPaper := goodIn_r _ [5, 6, 7, 8, 4, 9, 37, 38, 39, 40, 41, 42, 43, 44, 45, 46, 47, 48, 49, 50, 51, 52, 53, 54, 55, 56, 57, 58, 59, 60, 61, 62, 63, 64, 65, 66, 67, 68, 69, 70, 71, 72, 73, 74, 75, 76, 77, 78, 79, 80, 81, 82, 83, 84, 85, 86, 87, 88, 89, 90, 91, 92, 93, 94, 95, 96] (by decide +kernel) (by decide +kernel)
set_option maxRecDepth 20000 in
theorem gX5_ends_X5_isPaper : GoodIn wsX5_ends (wsV RX5 228 RX5 yX5_isPaper wsX5_isPaper) := goodIn_app (goodIn_of _ (by decide +kernel)) ggX5_ends_X5_isPaper
set_option maxRecDepth 20000 in
theorem ggX5_ends_X5_endsOf : GoodIn wsX5_ends wsX5_endsOf := goodIn_r _ [13, 14, 15, 16, 17, 18, 4, 19, 20, 21, 22, 23, 24, 25, 26, 27, 28, 29, 30, 31, 37, 38, 39, 40, 41, 42, 43, 44, 45, 46, 47, 48, 49, 50, 51, 52, 53, 54, 55, 56, 57, 58, 59, 60, 61, 62, 63, 64, 65, 66, 67, 68, 69, 70, 71, 72, 73, 74, 75, 76, 77, 78, 79, 80, 81, 82, 83, 84, 85, 86, 87, 88, 89, 90, 91, 92, 93, 94, 95, 96] (by decide +kernel) (by decide +kernel)
set_option maxRecDepth 20000 in
theorem gX5_ends_X5_endsOf : GoodIn wsX5_ends (wsV RX5 318 RX5 yX5_endsOf wsX5_endsOf) := goodIn_app (goodIn_of _ (by decide +kernel)) ggX5_ends_X5_endsOf
set_option maxRecDepth 20000 in
theorem ggX5_ends_X5_refuse : GoodIn wsX5_ends wsX5_refuse := goodIn_r _ [35, 36, 37, 38, 39, 40, 41, 42, 43, 44, 45, 46, 47, 48, 49, 50, 51, 52, 53, 54, 55, 56, 57, 58, 59, 60, 61, 62, 63, 64, 65, 66, 67, 68, 69, 70, 71, 72, 73, 74, 75, 76, 77, 78, 79, 80, 81, 82, 83, 84, 85, 86, 87, 88, 89, 90, 91, 92, 93, 94, 95, 96] (by decide +kernel) (by decide +kernel)
set_option maxRecDepth 20000 in
theorem gX5_ends_X5_refuse : GoodIn wsX5_ends (wsV RX5 137 RX5 yX5_refuse wsX5_refuse) := goodIn_app (goodIn_of _ (by decide +kernel)) ggX5_ends_X5_refuse
set_option maxRecDepth 20000 in
theorem ggX5_asks_X5_isPerson : GoodIn wsX5_asks wsX5_isPerson := goodIn_r _ [7, 1, 8, 9, 6, 10, 60, 61, 62, 63, 64, 65, 66, 67, 68, 69, 70, 71, 72, 73, 74, 75, 76, 77, 78, 79, 80, 81, 82, 83, 84, 85, 86, 87, 88, 89, 90, 91, 92, 93, 94, 95, 96, 97, 98, 99, 100, 101, 102, 103, 104, 105, 106, 107, 108, 109, 110, 111, 112, 113, 114, 115, 116, 117, 118, 119] (by decide +kernel) (by decide +kernel)
set_option maxRecDepth 20000 in
theorem gX5_asks_X5_isPerson : GoodIn wsX5_asks (wsV RX5 213 RX5 yX5_isPerson wsX5_isPerson) := goodIn_app (goodIn_of _ (by decide +kernel)) ggX5_asks_X5_isPerson
set_option maxRecDepth 20000 in
theorem ggX5_asks_X5_isPaper : GoodIn wsX5_asks wsX5_isPaper := goodIn_r _ [14, 15, 8, 9, 6, 10, 60, 61, 62, 63, 64, 65, 66, 67, 68, 69, 70, 71, 72, 73, 74, 75, 76, 77, 78, 79, 80, 81, 82, 83, 84, 85, 86, 87, 88, 89, 90, 91, 92, 93, 94, 95, 96, 97, 98, 99, 100, 101, 102, 103, 104, 105, 106, 107, 108, 109, 110, 111, 112, 113, 114, 115, 116, 117, 118, 119] (by decide +kernel) (by decide +kernel)
set_option maxRecDepth 20000 in
theorem gX5_asks_X5_isPaper : GoodIn wsX5_asks (wsV RX5 228 RX5 yX5_isPaper wsX5_isPaper) := goodIn_app (goodIn_of _ (by decide +kernel)) ggX5_asks_X5_isPaper
set_option maxRecDepth 20000 in
theorem ggX5_asks_X5_refuse : GoodIn wsX5_asks wsX5_refuse := goodIn_r _ [19, 20, 60, 61, 62, 63, 64, 65, 66, 67, 68, 69, 70, 71, 72, 73, 74, 75, 76, 77, 78, 79, 80, 81, 82, 83, 84, 85, 86, 87, 88, 89, 90, 91, 92, 93, 94, 95, 96, 97, 98, 99, 100, 101, 102, 103, 104, 105, 106, 107, 108, 109, 110, 111, 112, 113, 114, 115, 116, 117, 118, 119] (by decide +kernel) (by decide +kernel)
set_option maxRecDepth 20000 in
theorem gX5_asks_X5_refuse : GoodIn wsX5_asks (wsV RX5 137 RX5 yX5_refuse wsX5_refuse) := goodIn_app (goodIn_of _ (by decide +kernel)) ggX5_asks_X5_refuse
set_option maxRecDepth 20000 in
theorem ggX5_asks_X5_isBound : GoodIn wsX5_asks wsX5_isBound := goodIn_r _ [24, 25, 60, 61, 62, 63, 64, 65, 66, 67, 68, 69, 70, 71, 72, 73, 74, 75, 76, 77, 78, 79, 80, 81, 82, 83, 84, 85, 86, 87, 88, 89, 90, 91, 92, 93, 94, 95, 96, 97, 98, 99, 100, 101, 102, 103, 104, 105, 106, 107, 108, 109, 110, 111, 112, 113, 114, 115, 116, 117, 118, 119] (by decide +kernel) (by decide +kernel)
set_option maxRecDepth 20000 in
theorem gX5_asks_X5_isBound : GoodIn wsX5_asks (wsV RX5 207 RX5 yX5_isBound wsX5_isBound) := goodIn_app (goodIn_of _ (by decide +kernel)) ggX5_asks_X5_isBound
set_option maxRecDepth 20000 in
theorem ggX5_asks_X5_thinkAbove : GoodIn wsX5_asks wsX5_thinkAbove := goodIn_r _ [29, 30, 31, 32, 33, 6, 34, 60, 61, 62, 63, 64, 65, 66, 67, 68, 69, 70, 71, 72, 73, 74, 75, 76, 77, 78, 79, 80, 81, 82, 83, 84, 85, 86, 87, 88, 89, 90, 91, 92, 93, 94, 95, 96, 97, 98, 99, 100, 101, 102, 103, 104, 105, 106, 107, 108, 109, 110, 111, 112, 113, 114, 115, 116, 117, 118, 119] (by decide +kernel) (by decide +kernel)
set_option maxRecDepth 20000 in
theorem gX5_asks_X5_thinkAbove : GoodIn wsX5_asks (wsV RX5 248 RX5 yX5_thinkAbove wsX5_thinkAbove) := goodIn_app (goodIn_of _ (by decide +kernel)) ggX5_asks_X5_thinkAbove
set_option maxRecDepth 20000 in
theorem ggX5_asks_X5_thinkBelow : GoodIn wsX5_asks wsX5_thinkBelow := goodIn_r _ [38, 30, 32, 33, 6, 34, 60, 61, 62, 63, 64, 65, 66, 67, 68, 69, 70, 71, 72, 73, 74, 75, 76, 77, 78, 79, 80, 81, 82, 83, 84, 85, 86, 87, 88, 89, 90, 91, 92, 93, 94, 95, 96, 97, 98, 99, 100, 101, 102, 103, 104, 105, 106, 107, 108, 109, 110, 111, 112, 113, 114, 115, 116, 117, 118, 119] (by decide +kernel) (by decide +kernel)
set_option maxRecDepth 20000 in
theorem gX5_asks_X5_thinkBelow : GoodIn wsX5_asks (wsV RX5 252 RX5 yX5_thinkBelow wsX5_thinkBelow) := goodIn_app (goodIn_of _ (by decide +kernel)) ggX5_asks_X5_thinkBelow
set_option maxRecDepth 20000 in
theorem ggX5_asks_X5_endsOf : GoodIn wsX5_asks wsX5_endsOf := goodIn_r _ [42, 43, 44, 45, 46, 47, 6, 48, 49, 50, 51, 52, 53, 54, 55, 25, 56, 57, 58, 59, 60, 61, 62, 63, 64, 65, 66, 67, 68, 69, 70, 71, 72, 73, 74, 75, 76, 77, 78, 79, 80, 81, 82, 83, 84, 85, 86, 87, 88, 89, 90, 91, 92, 93, 94, 95, 96, 97, 98, 99, 100, 101, 102, 103, 104, 105, 106, 107, 108, 109, 110, 111, 112, 113, 114, 115, 116, 117, 118, 119] (by decide +kernel) (by decide +kernel)
set_option maxRecDepth 20000 in
theorem gX5_asks_X5_endsOf : GoodIn wsX5_asks (wsV RX5 318 RX5 yX5_endsOf wsX5_endsOf) := goodIn_app (goodIn_of _ (by decide +kernel)) ggX5_asks_X5_endsOf
set_option maxRecDepth 20000 in
theorem ggX5_power_X5_isPerson : GoodIn wsX5_power wsX5_isPerson := goodIn_r _ [6, 7, 8, 9, 5, 10, 46, 47, 48, 49, 50, 51, 52, 53, 54, 55, 56, 57, 58, 59, 60, 61, 62, 63, 64, 65, 66, 67, 68, 69, 70, 71, 72, 73, 74, 75, 76, 77, 78, 79, 80, 81, 82, 83, 84, 85, 86, 87, 88, 89, 90, 91, 92, 93, 94, 95, 96, 97, 98, 99, 100, 101, 102, 103, 104, 105] (by decide +kernel) (by decide +kernel)
set_option maxRecDepth 20000 in
theorem gX5_power_X5_isPerson : GoodIn wsX5_power (wsV RX5 213 RX5 yX5_isPerson wsX5_isPerson) := goodIn_app (goodIn_of _ (by decide +kernel)) ggX5_power_X5_isPerson
set_option maxRecDepth 20000 in
theorem ggX5_power_X5_isPaper : GoodIn wsX5_power wsX5_isPaper := goodIn_r _ [14, 15, 8, 9, 5, 10, 46, 47, 48, 49, 50, 51, 52, 53, 54, 55, 56, 57, 58, 59, 60, 61, 62, 63, 64, 65, 66, 67, 68, 69, 70, 71, 72, 73, 74, 75, 76, 77, 78, 79, 80, 81, 82, 83, 84, 85, 86, 87, 88, 89, 90, 91, 92, 93, 94, 95, 96, 97, 98, 99, 100, 101, 102, 103, 104, 105] (by decide +kernel) (by decide +kernel)
set_option maxRecDepth 20000 in
theorem gX5_power_X5_isPaper : GoodIn wsX5_power (wsV RX5 228 RX5 yX5_isPaper wsX5_isPaper) := goodIn_app (goodIn_of _ (by decide +kernel)) ggX5_power_X5_isPaper
set_option maxRecDepth 20000 in
theorem ggX5_power_X5_refuse : GoodIn wsX5_power wsX5_refuse := goodIn_r _ [19, 20, 46, 47, 48, 49, 50, 51, 52, 53, 54, 55, 56, 57, 58, 59, 60, 61, 62, 63, 64, 65, 66, 67, 68, 69, 70, 71, 72, 73, 74, 75, 76, 77, 78, 79, 80, 81, 82, 83, 84, 85, 86, 87, 88, 89, 90, 91, 92, 93, 94, 95, 96, 97, 98, 99, 100, 101, 102, 103, 104, 105] (by decide +kernel) (by decide +kernel)
set_option maxRecDepth 20000 in
theorem gX5_power_X5_refuse : GoodIn wsX5_power (wsV RX5 137 RX5 yX5_refuse wsX5_refuse) := goodIn_app (goodIn_of _ (by decide +kernel)) ggX5_power_X5_refuse
set_option maxRecDepth 20000 in
theorem ggX5_power_X5_in : GoodIn wsX5_power wsX5_in := goodIn_r _ [10] (by decide +kernel) (by decide +kernel)
set_option maxRecDepth 20000 in
theorem gX5_power_X5_in : GoodIn wsX5_power (va_wsS RX5 145 yX5_in wsX5_in) := goodIn_app (goodIn_of _ (by decide +kernel)) ggX5_power_X5_in
set_option maxRecDepth 20000 in
theorem ggX5_power_X5_isBound : GoodIn wsX5_power wsX5_isBound := goodIn_r _ [24, 25, 46, 47, 48, 49, 50, 51, 52, 53, 54, 55, 56, 57, 58, 59, 60, 61, 62, 63, 64, 65, 66, 67, 68, 69, 70, 71, 72, 73, 74, 75, 76, 77, 78, 79, 80, 81, 82, 83, 84, 85, 86, 87, 88, 89, 90, 91, 92, 93, 94, 95, 96, 97, 98, 99, 100, 101, 102, 103, 104, 105] (by decide +kernel) (by decide +kernel)
set_option maxRecDepth 20000 in
theorem gX5_power_X5_isBound : GoodIn wsX5_power (wsV RX5 207 RX5 yX5_isBound wsX5_isBound) := goodIn_app (goodIn_of _ (by decide +kernel)) ggX5_power_X5_isBound
set_option maxRecDepth 20000 in
theorem ggX5_power_X5_hasRead : GoodIn wsX5_power wsX5_hasRead := goodIn_r _ [29, 30, 46, 47, 48, 49, 50, 51, 52, 53, 54, 55, 56, 57, 58, 59, 60, 61, 62, 63, 64, 65, 66, 67, 68, 69, 70, 71, 72, 73, 74, 75, 76, 77, 78, 79, 80, 81, 82, 83, 84, 85, 86, 87, 88, 89, 90, 91, 92, 93, 94, 95, 96, 97, 98, 99, 100, 101, 102, 103, 104, 105] (by decide +kernel) (by decide +kernel)
set_option maxRecDepth 20000 in
theorem gX5_power_X5_hasRead : GoodIn wsX5_power (wsV RX5 210 RX5 yX5_hasRead wsX5_hasRead) := goodIn_app (goodIn_of _ (by decide +kernel)) ggX5_power_X5_hasRead
set_option maxRecDepth 20000 in
theorem ggX5_power_X5_isForce : GoodIn wsX5_power wsX5_isForce := goodIn_r _ [34, 1, 30, 35, 36, 5, 37, 38, 39, 40, 41, 25, 46, 47, 48, 49, 50, 51, 52, 53, 54, 55, 56, 57, 58, 59, 60, 61, 62, 63, 64, 65, 66, 67, 68, 69, 70, 71, 72, 73, 74, 75, 76, 77, 78, 79, 80, 81, 82, 83, 84, 85, 86, 87, 88, 89, 90, 91, 92, 93, 94, 95, 96, 97, 98, 99, 100, 101, 102, 103, 104, 105] (by decide +kernel) (by decide +kernel)
set_option maxRecDepth 20000 in
theorem gX5_power_X5_isForce : GoodIn wsX5_power (wsV RX5 231 RX5 yX5_isForce wsX5_isForce) := goodIn_app (goodIn_of _ (by decide +kernel)) ggX5_power_X5_isForce
set_option maxRecDepth 20000 in
theorem ggX5_power_X5_leftOf : GoodIn wsX5_power wsX5_leftOf := goodIn_r _ [45, 25, 30, 46, 47, 48, 49, 50, 51, 52, 53, 54, 55, 56, 57, 58, 59, 60, 61, 62, 63, 64, 65, 66, 67, 68, 69, 70, 71, 72, 73, 74, 75, 76, 77, 78, 79, 80, 81, 82, 83, 84, 85, 86, 87, 88, 89, 90, 91, 92, 93, 94, 95, 96, 97, 98, 99, 100, 101, 102, 103, 104, 105] (by decide +kernel) (by decide +kernel)
set_option maxRecDepth 20000 in
theorem gX5_power_X5_leftOf : GoodIn wsX5_power (wsV RX5 312 RX5 yX5_leftOf wsX5_leftOf) := goodIn_app (goodIn_of _ (by decide +kernel)) ggX5_power_X5_leftOf
set_option maxRecDepth 20000 in
theorem ggX5_power_X5_ones : GoodIn wsX5_power wsX5_ones := goodIn_r _ [37] (by decide +kernel) (by decide +kernel)
set_option maxRecDepth 20000 in
theorem gX5_power_X5_ones : GoodIn wsX5_power (va_wsS RX5 222 yX5_ones wsX5_ones) := goodIn_app (goodIn_of _ (by decide +kernel)) ggX5_power_X5_ones
set_option maxRecDepth 20000 in
theorem ggX5_chance_X5_isPaper : GoodIn wsX5_chance wsX5_isPaper := goodIn_r _ [8, 9, 10, 11, 7, 12, 44, 45, 46, 47, 48, 49, 50, 51, 52, 53, 54, 55, 56, 57, 58, 59, 60, 61, 62, 63, 64, 65, 66, 67, 68, 69, 70, 71, 72, 73, 74, 75, 76, 77, 78, 79, 80, 81, 82, 83, 84, 85, 86, 87, 88, 89, 90, 91, 92, 93, 94, 95, 96, 97, 98, 99, 100, 101, 102, 103] (by decide +kernel) (by decide +kernel)
set_option maxRecDepth 20000 in
theorem gX5_chance_X5_isPaper : GoodIn wsX5_chance (wsV RX5 228 RX5 yX5_isPaper wsX5_isPaper) := goodIn_app (goodIn_of _ (by decide +kernel)) ggX5_chance_X5_isPaper
set_option maxRecDepth 20000 in
theorem ggX5_chance_X5_refuseLong : GoodIn wsX5_chance wsX5_refuseLong := goodIn_r _ [16, 17, 18, 19, 20, 7, 21, 22, 44, 45, 46, 47, 48, 49, 50, 51, 52, 53, 54, 55, 56, 57, 58, 59, 60, 61, 62, 63, 64, 65, 66, 67, 68, 69, 70, 71, 72, 73, 74, 75, 76, 77, 78, 79, 80, 81, 82, 83, 84, 85, 86, 87, 88, 89, 90, 91, 92, 93, 94, 95, 96, 97, 98, 99, 100, 101, 102, 103] (by decide +kernel) (by decide +kernel)
set_option maxRecDepth 20000 in
theorem gX5_chance_X5_refuseLong : GoodIn wsX5_chance (wsV RX5 244 RX5 yX5_refuseLong wsX5_refuseLong) := goodIn_app (goodIn_of _ (by decide +kernel)) ggX5_chance_X5_refuseLong
set_option maxRecDepth 20000 in
theorem ggX5_chance_X5_in : GoodIn wsX5_chance wsX5_in := goodIn_r _ [12] (by decide +kernel) (by decide +kernel)
set_option maxRecDepth 20000 in
theorem gX5_chance_X5_in : GoodIn wsX5_chance (va_wsS RX5 145 yX5_in wsX5_in) := goodIn_app (goodIn_of _ (by decide +kernel)) ggX5_chance_X5_in
set_option maxRecDepth 20000 in
theorem ggX5_chance_X5_leftOf : GoodIn wsX5_chance wsX5_leftOf := goodIn_r _ [26, 27, 3, 44, 45, 46, 47, 48, 49, 50, 51, 52, 53, 54, 55, 56, 57, 58, 59, 60, 61, 62, 63, 64, 65, 66, 67, 68, 69, 70, 71, 72, 73, 74, 75, 76, 77, 78, 79, 80, 81, 82, 83, 84, 85, 86, 87, 88, 89, 90, 91, 92, 93, 94, 95, 96, 97, 98, 99, 100, 101, 102, 103] (by decide +kernel) (by decide +kernel)
set_option maxRecDepth 20000 in
theorem gX5_chance_X5_leftOf : GoodIn wsX5_chance (wsV RX5 312 RX5 yX5_leftOf wsX5_leftOf) := goodIn_app (goodIn_of _ (by decide +kernel)) ggX5_chance_X5_leftOf
set_option maxRecDepth 20000 in
theorem ggX5_chance_X5_ones : GoodIn wsX5_chance wsX5_ones := goodIn_r _ [30] (by decide +kernel) (by decide +kernel)
set_option maxRecDepth 20000 in
theorem gX5_chance_X5_ones : GoodIn wsX5_chance (va_wsS RX5 222 yX5_ones wsX5_ones) := goodIn_app (goodIn_of _ (by decide +kernel)) ggX5_chance_X5_ones
set_option maxRecDepth 20000 in
theorem ggX5_chance_X5_power0 : GoodIn wsX5_chance wsX5_power0 := goodIn_r _ [33] (by decide +kernel) (by decide +kernel)
set_option maxRecDepth 20000 in
theorem gX5_chance_X5_power0 : GoodIn wsX5_chance (va_wsS RX5 325 yX5_power0 wsX5_power0) := goodIn_app (goodIn_of _ (by decide +kernel)) ggX5_chance_X5_power0
set_option maxRecDepth 20000 in
theorem ggX5_chance_X5_forceBy : GoodIn wsX5_chance wsX5_forceBy := goodIn_r _ [37, 27, 28, 29, 7, 30, 44, 45, 46, 47, 48, 49, 50, 51, 52, 53, 54, 55, 56, 57, 58, 59, 60, 61, 62, 63, 64, 65, 66, 67, 68, 69, 70, 71, 72, 73, 74, 75, 76, 77, 78, 79, 80, 81, 82, 83, 84, 85, 86, 87, 88, 89, 90, 91, 92, 93, 94, 95, 96, 97, 98, 99, 100, 101, 102, 103] (by decide +kernel) (by decide +kernel)
set_option maxRecDepth 20000 in
theorem gX5_chance_X5_forceBy : GoodIn wsX5_chance (wsV RX5 225 RX5 yX5_forceBy wsX5_forceBy) := goodIn_app (goodIn_of _ (by decide +kernel)) ggX5_chance_X5_forceBy
set_option maxRecDepth 20000 in
theorem ggX5_chance_X5_lowest : GoodIn wsX5_chance wsX5_lowest := goodIn_r _ [40, 41, 42, 7, 43] (by decide +kernel) (by decide +kernel)
set_option maxRecDepth 20000 in
theorem gX5_chance_X5_lowest : GoodIn wsX5_chance (va_wsS RX5 255 yX5_lowest wsX5_lowest) := goodIn_app (goodIn_of _ (by decide +kernel)) ggX5_chance_X5_lowest
set_option maxRecDepth 20000 in
theorem ggX5_lawFor_X5_keeps : GoodIn wsX5_lawFor wsX5_keeps := goodIn_r _ [8, 9, 10, 11, 12, 13, 3, 14, 15, 16, 17, 18, 19, 100, 101, 102, 103, 104, 105, 106, 107, 108, 109, 110, 111, 112, 113, 114, 115, 116, 117, 118, 119, 120, 121, 122, 123, 124, 125, 126, 127, 128, 129, 130, 131, 132, 133, 134, 135, 136, 137, 138, 139, 140, 141, 142, 143, 144, 145, 146, 147, 148, 149, 150, 151, 152, 153, 154, 155, 156, 157, 158, 159] (by decide +kernel) (by decide +kernel)
set_option maxRecDepth 20000 in
theorem gX5_lawFor_X5_keeps : GoodIn wsX5_lawFor (wsV RX5 288 RX5 yX5_keeps wsX5_keeps) := goodIn_app (goodIn_of _ (by decide +kernel)) ggX5_lawFor_X5_keeps
set_option maxRecDepth 20000 in
theorem ggX5_lawFor_X5_passes : GoodIn wsX5_lawFor wsX5_passes := goodIn_r _ [23, 24, 25, 26, 27, 3, 15, 28, 29, 18, 30, 31, 32, 7, 33, 34, 35, 36, 37, 38, 39, 40, 41, 42, 43, 44, 45, 46, 47, 48, 49, 10, 50, 51, 52, 53, 1, 54, 55, 56, 57, 58, 59, 60, 61, 62, 63, 64, 65, 12, 66, 67, 68, 69, 70, 71, 72, 73, 74, 75, 76, 77, 78, 79, 80, 17, 81, 82, 83, 84, 85, 86, 87, 88, 89, 90, 91, 92, 93, 94, 95, 100, 101, 102, 103, 104, 105, 106, 107, 108, 109, 110, 111, 112, 113, 114, 115, 116, 117, 118, 119, 120, 121, 122, 123, 124, 125, 126, 127, 128, 129, 130, 131, 132, 133, 134, 135, 136, 137, 138, 139, 140, 141, 142, 143, 144, 145, 146, 147, 148, 149, 150, 151, 152, 153, 154, 155, 156, 157, 158, 159] (by decide +kernel) (by decide +kernel)
set_option maxRecDepth 20000 in
theorem gX5_lawFor_X5_passes : GoodIn wsX5_lawFor (wsV RX5 279 RX5 yX5_passes wsX5_passes) := goodIn_app (goodIn_of _ (by decide +kernel)) ggX5_lawFor_X5_passes
set_option maxRecDepth 20000 in
theorem ggX5_lawFor_X5_lays : GoodIn wsX5_lawFor wsX5_lays := goodIn_r _ [99, 10, 9, 12, 11, 3, 13, 15, 14, 17, 16, 19, 18, 100, 101, 102, 103, 104, 105, 106, 107, 108, 109, 110, 111, 112, 113, 114, 115, 116, 117, 118, 119, 120, 121, 122, 123, 124, 125, 126, 127, 128, 129, 130, 131, 132, 133, 134, 135, 136, 137, 138, 139, 140, 141, 142, 143, 144, 145, 146, 147, 148, 149, 150, 151, 152, 153, 154, 155, 156, 157, 158, 159] (by decide +kernel) (by decide +kernel)
set_option maxRecDepth 20000 in
theorem gX5_lawFor_X5_lays : GoodIn wsX5_lawFor (wsV RX5 291 RX5 yX5_lays wsX5_lays) := goodIn_app (goodIn_of _ (by decide +kernel)) ggX5_lawFor_X5_lays
set_option maxRecDepth 20000 in
theorem ggX5_laws_X5_isPaper : GoodIn wsX5_laws wsX5_isPaper := goodIn_r _ [6, 7, 8, 9, 5, 10, 113, 114, 115, 116, 117, 118, 119, 120, 121, 122, 123, 124, 125, 126, 127, 128, 129, 130, 131, 132, 133, 134, 135, 136, 137, 138, 139, 140, 141, 142, 143, 144, 145, 146, 147, 148, 149, 150, 151, 152, 153, 154, 155, 156, 157, 158, 159, 160, 161, 162, 163, 164, 165, 166, 167, 168, 169, 170, 171, 172] (by decide +kernel) (by decide +kernel)
set_option maxRecDepth 20000 in
theorem gX5_laws_X5_isPaper : GoodIn wsX5_laws (wsV RX5 228 RX5 yX5_isPaper wsX5_isPaper) := goodIn_app (goodIn_of _ (by decide +kernel)) ggX5_laws_X5_isPaper
set_option maxRecDepth 20000 in
theorem ggX5_laws_X5_refuse : GoodIn wsX5_laws wsX5_refuse := goodIn_r _ [14, 15, 113, 114, 115, 116, 117, 118, 119, 120, 121, 122, 123, 124, 125, 126, 127, 128, 129, 130, 131, 132, 133, 134, 135, 136, 137, 138, 139, 140, 141, 142, 143, 144, 145, 146, 147, 148, 149, 150, 151, 152, 153, 154, 155, 156, 157, 158, 159, 160, 161, 162, 163, 164, 165, 166, 167, 168, 169, 170, 171, 172] (by decide +kernel) (by decide +kernel)
set_option maxRecDepth 20000 in
theorem gX5_laws_X5_refuse : GoodIn wsX5_laws (wsV RX5 137 RX5 yX5_refuse wsX5_refuse) := goodIn_app (goodIn_of _ (by decide +kernel)) ggX5_laws_X5_refuse
set_option maxRecDepth 20000 in
theorem ggX5_laws_X5_in : GoodIn wsX5_laws wsX5_in := goodIn_r _ [10] (by decide +kernel) (by decide +kernel)
set_option maxRecDepth 20000 in
theorem gX5_laws_X5_in : GoodIn wsX5_laws (va_wsS RX5 145 yX5_in wsX5_in) := goodIn_app (goodIn_of _ (by decide +kernel)) ggX5_laws_X5_in
set_option maxRecDepth 20000 in
theorem ggX5_laws_X5_lawFor : GoodIn wsX5_laws wsX5_lawFor := goodIn_r _ [19, 20, 1, 21, 22, 23, 24, 5, 25, 26, 27, 28, 29, 30, 31, 32, 33, 34, 35, 36, 37, 38, 39, 40, 41, 7, 42, 43, 44, 45, 46, 47, 48, 49, 50, 51, 52, 53, 8, 9, 10, 54, 55, 56, 57, 58, 59, 60, 61, 62, 63, 64, 65, 66, 67, 68, 69, 70, 71, 72, 73, 74, 75, 76, 77, 78, 79, 80, 81, 82, 83, 84, 85, 86, 87, 88, 89, 90, 91, 92, 93, 94, 95, 96, 97, 98, 99, 100, 101, 102, 103, 104, 105, 106, 107, 108, 109, 110, 111, 112, 113, 114, 115, 116, 117, 118, 119, 120, 121, 122, 123, 124, 125, 126, 127, 128, 129, 130, 131, 132, 133, 134, 135, 136, 137, 138, 139, 140, 141, 142, 143, 144, 145, 146, 147, 148, 149, 150, 151, 152, 153, 154, 155, 156, 157, 158, 159, 160, 161, 162, 163, 164, 165, 166, 167, 168, 169, 170, 171, 172] (by decide +kernel) (by decide +kernel)
set_option maxRecDepth 20000 in
theorem gX5_laws_X5_lawFor : GoodIn wsX5_laws (wsV RX5 329 RX5 yX5_lawFor wsX5_lawFor) := goodIn_app (goodIn_of _ (by decide +kernel)) ggX5_laws_X5_lawFor
set_option maxRecDepth 20000 in
theorem ggX5_lasting_X5_refuse : GoodIn wsX5_lasting wsX5_refuse := goodIn_r _ [8, 9, 109, 110, 111, 112, 113, 114, 115, 116, 117, 118, 119, 120, 121, 122, 123, 124, 125, 126, 127, 128, 129, 130, 131, 132, 133, 134, 135, 136, 137, 138, 139, 140, 141, 142, 143, 144, 145, 146, 147, 148, 149, 150, 151, 152, 153, 154, 155, 156, 157, 158, 159, 160, 161, 162, 163, 164, 165, 166, 167, 168] (by decide +kernel) (by decide +kernel)
set_option maxRecDepth 20000 in
theorem gX5_lasting_X5_refuse : GoodIn wsX5_lasting (wsV RX5 137 RX5 yX5_refuse wsX5_refuse) := goodIn_app (goodIn_of _ (by decide +kernel)) ggX5_lasting_X5_refuse
set_option maxRecDepth 20000 in
theorem ggX5_lasting_X5_lawFor : GoodIn wsX5_lasting wsX5_lawFor := goodIn_r _ [13, 1, 3, 14, 15, 16, 17, 7, 18, 19, 20, 21, 22, 23, 24, 25, 26, 27, 28, 29, 30, 31, 32, 33, 34, 2, 35, 36, 37, 38, 39, 40, 41, 42, 43, 44, 45, 46, 47, 48, 49, 50, 51, 52, 53, 54, 55, 56, 57, 58, 59, 60, 61, 62, 63, 64, 65, 66, 67, 68, 69, 70, 71, 72, 73, 74, 75, 76, 77, 78, 79, 80, 81, 82, 83, 84, 85, 86, 87, 88, 89, 90, 91, 92, 93, 94, 95, 96, 97, 98, 99, 100, 101, 102, 103, 104, 105, 106, 107, 108, 109, 110, 111, 112, 113, 114, 115, 116, 117, 118, 119, 120, 121, 122, 123, 124, 125, 126, 127, 128, 129, 130, 131, 132, 133, 134, 135, 136, 137, 138, 139, 140, 141, 142, 143, 144, 145, 146, 147, 148, 149, 150, 151, 152, 153, 154, 155, 156, 157, 158, 159, 160, 161, 162, 163, 164, 165, 166, 167, 168] (by decide +kernel) (by decide +kernel)
set_option maxRecDepth 20000 in
theorem gX5_lasting_X5_lawFor : GoodIn wsX5_lasting (wsV RX5 329 RX5 yX5_lawFor wsX5_lawFor) := goodIn_app (goodIn_of _ (by decide +kernel)) ggX5_lasting_X5_lawFor
set_option maxRecDepth 20000 in
theorem ggX5_lots_X5_refuseFar : GoodIn wsX5_lots wsX5_refuseFar := goodIn_r _ [8, 9, 10, 11, 12, 7, 13, 14, 121, 122, 123, 124, 125, 126, 127, 128, 129, 130, 131, 132, 133, 134, 135, 136, 137, 138, 139, 140, 141, 142, 143, 144, 145, 146, 147, 148, 149, 150, 151, 152, 153, 154, 155, 156, 157, 158, 159, 160, 161, 162, 163, 164, 165, 166, 167, 168, 169, 170, 171, 172, 173, 174, 175, 176, 177, 178, 179, 180] (by decide +kernel) (by decide +kernel)
set_option maxRecDepth 20000 in
theorem gX5_lots_X5_refuseFar : GoodIn wsX5_lots (wsV RX5 234 RX5 yX5_refuseFar wsX5_refuseFar) := goodIn_app (goodIn_of _ (by decide +kernel)) ggX5_lots_X5_refuseFar
set_option maxRecDepth 20000 in
theorem ggX5_lots_X5_keeps : GoodIn wsX5_lots wsX5_keeps := goodIn_r _ [18, 19, 20, 21, 22, 23, 24, 25, 26, 27, 28, 29, 30, 121, 122, 123, 124, 125, 126, 127, 128, 129, 130, 131, 132, 133, 134, 135, 136, 137, 138, 139, 140, 141, 142, 143, 144, 145, 146, 147, 148, 149, 150, 151, 152, 153, 154, 155, 156, 157, 158, 159, 160, 161, 162, 163, 164, 165, 166, 167, 168, 169, 170, 171, 172, 173, 174, 175, 176, 177, 178, 179, 180] (by decide +kernel) (by decide +kernel)
set_option maxRecDepth 20000 in
theorem gX5_lots_X5_keeps : GoodIn wsX5_lots (wsV RX5 288 RX5 yX5_keeps wsX5_keeps) := goodIn_app (goodIn_of _ (by decide +kernel)) ggX5_lots_X5_keeps
set_option maxRecDepth 20000 in
theorem ggX5_lots_X5_allHad : GoodIn wsX5_lots wsX5_allHad := goodIn_r _ [34, 1, 26, 121, 122, 123, 124, 125, 126, 127, 128, 129, 130, 131, 132, 133, 134, 135, 136, 137, 138, 139, 140, 141, 142, 143, 144, 145, 146, 147, 148, 149, 150, 151, 152, 153, 154, 155, 156, 157, 158, 159, 160, 161, 162, 163, 164, 165, 166, 167, 168, 169, 170, 171, 172, 173, 174, 175, 176, 177, 178, 179, 180] (by decide +kernel) (by decide +kernel)
set_option maxRecDepth 20000 in
theorem gX5_lots_X5_allHad : GoodIn wsX5_lots (wsV RX5 338 RX5 yX5_allHad wsX5_allHad) := goodIn_app (goodIn_of _ (by decide +kernel)) ggX5_lots_X5_allHad
set_option maxRecDepth 20000 in
theorem ggX5_lots_X5_draws : GoodIn wsX5_lots wsX5_draws := goodIn_r _ [38, 3, 39, 40, 41, 121, 122, 123, 124, 125, 126, 127, 128, 129, 130, 131, 132, 133, 134, 135, 136, 137, 138, 139, 140, 141, 142, 143, 144, 145, 146, 147, 148, 149, 150, 151, 152, 153, 154, 155, 156, 157, 158, 159, 160, 161, 162, 163, 164, 165, 166, 167, 168, 169, 170, 171, 172, 173, 174, 175, 176, 177, 178, 179, 180] (by decide +kernel) (by decide +kernel)
set_option maxRecDepth 20000 in
theorem gX5_lots_X5_draws : GoodIn wsX5_lots (wsV RX5 341 RX5 yX5_draws wsX5_draws) := goodIn_app (goodIn_of _ (by decide +kernel)) ggX5_lots_X5_draws
set_option maxRecDepth 20000 in
theorem ggX5_lots_X5_mayRead : GoodIn wsX5_lots wsX5_mayRead := goodIn_r _ [45, 46, 47, 48, 7, 49, 1, 50, 51, 52, 53, 54, 55, 56, 57, 58, 59, 60, 61, 20, 62, 63, 64, 65, 66, 67, 68, 69, 70, 71, 72, 73, 121, 122, 123, 124, 125, 126, 127, 128, 129, 130, 131, 132, 133, 134, 135, 136, 137, 138, 139, 140, 141, 142, 143, 144, 145, 146, 147, 148, 149, 150, 151, 152, 153, 154, 155, 156, 157, 158, 159, 160, 161, 162, 163, 164, 165, 166, 167, 168, 169, 170, 171, 172, 173, 174, 175, 176, 177, 178, 179, 180] (by decide +kernel) (by decide +kernel)
set_option maxRecDepth 20000 in
theorem gX5_lots_X5_mayRead : GoodIn wsX5_lots (wsV RX5 237 RX5 yX5_mayRead wsX5_mayRead) := goodIn_app (goodIn_of _ (by decide +kernel)) ggX5_lots_X5_mayRead
set_option maxRecDepth 20000 in
theorem ggX5_lots_X5_hasNowRead : GoodIn wsX5_lots wsX5_hasNowRead := goodIn_r _ [77, 20, 28, 78, 79, 80, 7, 81, 121, 122, 123, 124, 125, 126, 127, 128, 129, 130, 131, 132, 133, 134, 135, 136, 137, 138, 139, 140, 141, 142, 143, 144, 145, 146, 147, 148, 149, 150, 151, 152, 153, 154, 155, 156, 157, 158, 159, 160, 161, 162, 163, 164, 165, 166, 167, 168, 169, 170, 171, 172, 173, 174, 175, 176, 177, 178, 179, 180] (by decide +kernel) (by decide +kernel)
set_option maxRecDepth 20000 in
theorem gX5_lots_X5_hasNowRead : GoodIn wsX5_lots (wsV RX5 240 RX5 yX5_hasNowRead wsX5_hasNowRead) := goodIn_app (goodIn_of _ (by decide +kernel)) ggX5_lots_X5_hasNowRead
set_option maxRecDepth 20000 in
theorem ggX5_lots_X5_passes : GoodIn wsX5_lots wsX5_passes := goodIn_r _ [85, 1, 2, 86, 87, 24, 26, 88, 78, 29, 42, 43, 44, 7, 45, 46, 47, 48, 49, 50, 51, 52, 53, 54, 55, 56, 57, 58, 59, 60, 61, 20, 62, 63, 64, 65, 66, 67, 68, 69, 70, 71, 72, 73, 89, 90, 91, 92, 93, 22, 94, 95, 96, 97, 98, 99, 100, 101, 102, 103, 104, 105, 106, 107, 108, 28, 79, 80, 81, 109, 110, 111, 112, 74, 75, 76, 77, 113, 114, 115, 116, 121, 122, 123, 124, 125, 126, 127, 128, 129, 130, 131, 132, 133, 134, 135, 136, 137, 138, 139, 140, 141, 142, 143, 144, 145, 146, 147, 148, 149, 150, 151, 152, 153, 154, 155, 156, 157, 158, 159, 160, 161, 162, 163, 164, 165, 166, 167, 168, 169, 170, 171, 172, 173, 174, 175, 176, 177, 178, 179, 180] (by decide +kernel) (by decide +kernel)
set_option maxRecDepth 20000 in
theorem gX5_lots_X5_passes : GoodIn wsX5_lots (wsV RX5 279 RX5 yX5_passes wsX5_passes) := goodIn_app (goodIn_of _ (by decide +kernel)) ggX5_lots_X5_passes
set_option maxRecDepth 20000 in
theorem ggX5_lots_X5_lays : GoodIn wsX5_lots wsX5_lays := goodIn_r _ [120, 20, 19, 22, 21, 24, 23, 26, 25, 28, 27, 30, 29, 121, 122, 123, 124, 125, 126, 127, 128, 129, 130, 131, 132, 133, 134, 135, 136, 137, 138, 139, 140, 141, 142, 143, 144, 145, 146, 147, 148, 149, 150, 151, 152, 153, 154, 155, 156, 157, 158, 159, 160, 161, 162, 163, 164, 165, 166, 167, 168, 169, 170, 171, 172, 173, 174, 175, 176, 177, 178, 179, 180] (by decide +kernel) (by decide +kernel)
set_option maxRecDepth 20000 in
theorem gX5_lots_X5_lays : GoodIn wsX5_lots (wsV RX5 291 RX5 yX5_lays wsX5_lays) := goodIn_app (goodIn_of _ (by decide +kernel)) ggX5_lots_X5_lays
set_option maxRecDepth 20000 in
theorem ggX5_row_X5_refuse : GoodIn wsX5_row wsX5_refuse := goodIn_r _ [7, 8, 9, 10, 11, 12, 13, 14, 15, 16, 17, 18, 19, 20, 21, 22, 23, 24, 25, 26, 27, 28, 29, 30, 31, 32, 33, 34, 35, 36, 37, 38, 39, 40, 41, 42, 43, 44, 45, 46, 47, 48, 49, 50, 51, 52, 53, 54, 55, 56, 57, 58, 59, 60, 61, 62, 63, 64, 65, 66, 67, 68] (by decide +kernel) (by decide +kernel)
set_option maxRecDepth 20000 in
theorem gX5_row_X5_refuse : GoodIn wsX5_row (wsV RX5 137 RX5 yX5_refuse wsX5_refuse) := goodIn_app (goodIn_of _ (by decide +kernel)) ggX5_row_X5_refuse
set_option maxRecDepth 20000 in
theorem ggX5_judge_X5_isPaper : GoodIn wsX5_judge wsX5_isPaper := goodIn_r _ [7, 8, 9, 10, 6, 11, 110, 111, 112, 113, 114, 115, 116, 117, 118, 119, 120, 121, 122, 123, 124, 125, 126, 127, 128, 129, 130, 131, 132, 133, 134, 135, 136, 137, 138, 139, 140, 141, 142, 143, 144, 145, 146, 147, 148, 149, 150, 151, 152, 153, 154, 155, 156, 157, 158, 159, 160, 161, 162, 163, 164, 165, 166, 167, 168, 169] (by decide +kernel) (by decide +kernel)
set_option maxRecDepth 20000 in
theorem gX5_judge_X5_isPaper : GoodIn wsX5_judge (wsV RX5 228 RX5 yX5_isPaper wsX5_isPaper) := goodIn_app (goodIn_of _ (by decide +kernel)) ggX5_judge_X5_isPaper
set_option maxRecDepth 20000 in
theorem ggX5_judge_X5_refuse : GoodIn wsX5_judge wsX5_refuse := goodIn_r _ [15, 16, 110, 111, 112, 113, 114, 115, 116, 117, 118, 119, 120, 121, 122, 123, 124, 125, 126, 127, 128, 129, 130, 131, 132, 133, 134, 135, 136, 137, 138, 139, 140, 141, 142, 143, 144, 145, 146, 147, 148, 149, 150, 151, 152, 153, 154, 155, 156, 157, 158, 159, 160, 161, 162, 163, 164, 165, 166, 167, 168, 169] (by decide +kernel) (by decide +kernel)
set_option maxRecDepth 20000 in
theorem gX5_judge_X5_refuse : GoodIn wsX5_judge (wsV RX5 137 RX5 yX5_refuse wsX5_refuse) := goodIn_app (goodIn_of _ (by decide +kernel)) ggX5_judge_X5_refuse
set_option maxRecDepth 20000 in
theorem ggX5_judge_X5_keeps : GoodIn wsX5_judge wsX5_keeps := goodIn_r _ [20, 21, 22, 23, 24, 25, 26, 27, 28, 29, 30, 31, 32, 110, 111, 112, 113, 114, 115, 116, 117, 118, 119, 120, 121, 122, 123, 124, 125, 126, 127, 128, 129, 130, 131, 132, 133, 134, 135, 136, 137, 138, 139, 140, 141, 142, 143, 144, 145, 146, 147, 148, 149, 150, 151, 152, 153, 154, 155, 156, 157, 158, 159, 160, 161, 162, 163, 164, 165, 166, 167, 168, 169] (by decide +kernel) (by decide +kernel)
set_option maxRecDepth 20000 in
theorem gX5_judge_X5_keeps : GoodIn wsX5_judge (wsV RX5 288 RX5 yX5_keeps wsX5_keeps) := goodIn_app (goodIn_of _ (by decide +kernel)) ggX5_judge_X5_keeps
set_option maxRecDepth 20000 in
theorem ggX5_judge_X5_passes : GoodIn wsX5_judge wsX5_passes := goodIn_r _ [36, 37, 8, 38, 39, 26, 28, 40, 41, 31, 42, 43, 44, 6, 45, 46, 47, 48, 49, 9, 10, 11, 50, 51, 52, 53, 54, 55, 56, 57, 58, 22, 59, 60, 61, 62, 63, 64, 65, 66, 67, 68, 69, 70, 71, 72, 73, 74, 75, 24, 76, 77, 78, 79, 80, 81, 82, 83, 84, 85, 86, 87, 88, 89, 90, 30, 91, 92, 93, 94, 95, 96, 97, 98, 99, 100, 101, 102, 103, 104, 105, 110, 111, 112, 113, 114, 115, 116, 117, 118, 119, 120, 121, 122, 123, 124, 125, 126, 127, 128, 129, 130, 131, 132, 133, 134, 135, 136, 137, 138, 139, 140, 141, 142, 143, 144, 145, 146, 147, 148, 149, 150, 151, 152, 153, 154, 155, 156, 157, 158, 159, 160, 161, 162, 163, 164, 165, 166, 167, 168, 169] (by decide +kernel) (by decide +kernel)
set_option maxRecDepth 20000 in
theorem gX5_judge_X5_passes : GoodIn wsX5_judge (wsV RX5 279 RX5 yX5_passes wsX5_passes) := goodIn_app (goodIn_of _ (by decide +kernel)) ggX5_judge_X5_passes
set_option maxRecDepth 20000 in
theorem ggX5_judge_X5_mayRead : GoodIn wsX5_judge wsX5_mayRead := goodIn_r _ [45, 46, 47, 48, 6, 49, 37, 9, 10, 11, 50, 51, 52, 53, 54, 55, 56, 57, 58, 22, 59, 60, 61, 62, 63, 64, 65, 66, 67, 68, 69, 70, 110, 111, 112, 113, 114, 115, 116, 117, 118, 119, 120, 121, 122, 123, 124, 125, 126, 127, 128, 129, 130, 131, 132, 133, 134, 135, 136, 137, 138, 139, 140, 141, 142, 143, 144, 145, 146, 147, 148, 149, 150, 151, 152, 153, 154, 155, 156, 157, 158, 159, 160, 161, 162, 163, 164, 165, 166, 167, 168, 169] (by decide +kernel) (by decide +kernel)
set_option maxRecDepth 20000 in
theorem gX5_judge_X5_mayRead : GoodIn wsX5_judge (wsV RX5 237 RX5 yX5_mayRead wsX5_mayRead) := goodIn_app (goodIn_of _ (by decide +kernel)) ggX5_judge_X5_mayRead
set_option maxRecDepth 20000 in
theorem ggX5_judge_X5_hasNowRead : GoodIn wsX5_judge wsX5_hasNowRead := goodIn_r _ [101, 22, 30, 41, 91, 92, 6, 93, 110, 111, 112, 113, 114, 115, 116, 117, 118, 119, 120, 121, 122, 123, 124, 125, 126, 127, 128, 129, 130, 131, 132, 133, 134, 135, 136, 137, 138, 139, 140, 141, 142, 143, 144, 145, 146, 147, 148, 149, 150, 151, 152, 153, 154, 155, 156, 157, 158, 159, 160, 161, 162, 163, 164, 165, 166, 167, 168, 169] (by decide +kernel) (by decide +kernel)
set_option maxRecDepth 20000 in
theorem gX5_judge_X5_hasNowRead : GoodIn wsX5_judge (wsV RX5 240 RX5 yX5_hasNowRead wsX5_hasNowRead) := goodIn_app (goodIn_of _ (by decide +kernel)) ggX5_judge_X5_hasNowRead
set_option maxRecDepth 20000 in
theorem ggX5_judge_X5_lays : GoodIn wsX5_judge wsX5_lays := goodIn_r _ [109, 22, 21, 24, 23, 26, 25, 28, 27, 30, 29, 32, 31, 110, 111, 112, 113, 114, 115, 116, 117, 118, 119, 120, 121, 122, 123, 124, 125, 126, 127, 128, 129, 130, 131, 132, 133, 134, 135, 136, 137, 138, 139, 140, 141, 142, 143, 144, 145, 146, 147, 148, 149, 150, 151, 152, 153, 154, 155, 156, 157, 158, 159, 160, 161, 162, 163, 164, 165, 166, 167, 168, 169] (by decide +kernel) (by decide +kernel)
set_option maxRecDepth 20000 in
theorem gX5_judge_X5_lays : GoodIn wsX5_judge (wsV RX5 291 RX5 yX5_lays wsX5_lays) := goodIn_app (goodIn_of _ (by decide +kernel)) ggX5_judge_X5_lays
set_option maxRecDepth 20000 in
theorem ggX5_on_X5_refuse : GoodIn wsX5_on wsX5_refuse := goodIn_r _ [42, 43, 44, 45, 46, 47, 48, 49, 50, 51, 52, 53, 54, 55, 56, 57, 58, 59, 60, 61, 62, 63, 64, 65, 66, 67, 68, 69, 70, 71, 72, 73, 74, 75, 76, 77, 78, 79, 80, 81, 82, 83, 84, 85, 86, 87, 88, 89, 90, 91, 92, 93, 94, 95, 96, 97, 98, 99, 100, 101, 102, 103] (by decide +kernel) (by decide +kernel)
set_option maxRecDepth 20000 in
theorem gX5_on_X5_refuse : GoodIn wsX5_on (wsV RX5 137 RX5 yX5_refuse wsX5_refuse) := goodIn_app (goodIn_of _ (by decide +kernel)) ggX5_on_X5_refuse
set_option maxRecDepth 20000 in
theorem ggX5_inForce_X5_isForce : GoodIn wsX5_inForce wsX5_isForce := goodIn_r _ [6, 7, 8, 9, 10, 5, 11, 12, 13, 14, 15, 16, 17, 18, 19, 20, 21, 22, 23, 24, 25, 26, 27, 28, 29, 30, 31, 32, 33, 34, 35, 36, 37, 38, 39, 40, 41, 42, 43, 44, 45, 46, 47, 48, 49, 50, 51, 52, 53, 54, 55, 56, 57, 58, 59, 60, 61, 62, 63, 64, 65, 66, 67, 68, 69, 70, 71, 72, 73, 74, 75, 76] (by decide +kernel) (by decide +kernel)
set_option maxRecDepth 20000 in
theorem gX5_inForce_X5_isForce : GoodIn wsX5_inForce (wsV RX5 231 RX5 yX5_isForce wsX5_isForce) := goodIn_app (goodIn_of _ (by decide +kernel)) ggX5_inForce_X5_isForce
set_option maxRecDepth 20000 in
theorem ggX5_count_X5_inForce : GoodIn wsX5_count wsX5_inForce := goodIn_r _ [13, 2, 14, 15, 16, 12, 17, 4, 18, 19, 20, 21, 22, 23, 24, 25, 26, 30, 31, 32, 33, 34, 35, 36, 37, 38, 39, 40, 41, 42, 43, 44, 45, 46, 47, 48, 49, 50, 51, 52, 53, 54, 55, 56, 57, 58, 59, 60, 61, 62, 63, 64, 65, 66, 67, 68, 69, 70, 71, 72, 73, 74, 75, 76, 77, 78, 79, 80, 81, 82, 83, 84, 85, 86, 87, 88, 89] (by decide +kernel) (by decide +kernel)
set_option maxRecDepth 20000 in
theorem gX5_count_X5_inForce : GoodIn wsX5_count (wsV RX5 366 RX5 yX5_inForce wsX5_inForce) := goodIn_app (goodIn_of _ (by decide +kernel)) ggX5_count_X5_inForce
set_option maxRecDepth 20000 in
theorem ggX5_count_X5_in : GoodIn wsX5_count wsX5_in := goodIn_r _ [29] (by decide +kernel) (by decide +kernel)
set_option maxRecDepth 20000 in
theorem gX5_count_X5_in : GoodIn wsX5_count (va_wsS RX5 145 yX5_in wsX5_in) := goodIn_app (goodIn_of _ (by decide +kernel)) ggX5_count_X5_in
