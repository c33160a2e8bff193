set_option maxRecDepth 20000 in
theorem ggX6_init_X6_first : GoodIn wsX6_init wsX6_first := goodIn_r _ [32, 5, 33, 6, 7, 8, 34, 35, 36, 37, 38, 39, 40, 41, 42, 43, 44, 45, 46, 47, 48, 49, 50, 51, 52, 53, 54, 55, 56, 57, 58, 59, 60, 61, 62, 63, 64, 65, 66, 67, 68, 69, 70] (by decide +kernel) (by decide +kernel)
set_option maxRecDepth 20000 in
theorem gX6_init_X6_first : GoodIn wsX6_init (wsV RX6 73 RX6 yX6_first wsX6_first) := goodIn_app (goodIn_of _ (by decide +kernel)) ggX6_init_X6_first
set_option maxRecDepth 20000 in
theorem ggX6_isOne_X6_in : GoodIn wsX6_isOne wsX6_in := goodIn_r _ [5] (by decide +kernel) (by decide +kernel)
set_option maxRecDepth 20000 in
theorem gX6_isOne_X6_in : GoodIn wsX6_isOne (va_wsS RX6 87 yX6_in wsX6_in) := goodIn_app (goodIn_of _ (by decide +kernel)) ggX6_isOne_X6_in
set_option maxRecDepth 20000 in
theorem ggX6_write_X6_in : GoodIn wsX6_write wsX6_in := goodIn_r _ [6] (by decide +kernel) (by decide +kernel)
set_option maxRecDepth 20000 in
theorem gX6_write_X6_in : GoodIn wsX6_write (va_wsS RX6 87 yX6_in wsX6_in) := goodIn_app (goodIn_of _ (by decide +kernel)) ggX6_write_X6_in
set_option maxRecDepth 20000 in
theorem ggX6_isFigure_X6_here : GoodIn wsX6_isFigure wsX6_here := goodIn_r _ [5, 6, 7, 8, 12, 13, 14, 15, 16, 17, 18, 19, 20, 21, 22, 23, 24, 25, 26, 27, 28, 29, 30, 31, 32, 33, 34, 35, 36, 37, 38, 39, 40, 41, 42, 43, 44, 45, 46, 47, 48] (by decide +kernel) (by decide +kernel)
set_option maxRecDepth 20000 in
theorem gX6_isFigure_X6_here : GoodIn wsX6_isFigure (wsV RX6 97 RX6 yX6_here wsX6_here) := goodIn_app (goodIn_of _ (by decide +kernel)) ggX6_isFigure_X6_here
set_option maxRecDepth 20000 in
theorem ggX6_isFigure_X6_in : GoodIn wsX6_isFigure wsX6_in := goodIn_r _ [11] (by decide +kernel) (by decide +kernel)
set_option maxRecDepth 20000 in
theorem gX6_isFigure_X6_in : GoodIn wsX6_isFigure (va_wsS RX6 87 yX6_in wsX6_in) := goodIn_app (goodIn_of _ (by decide +kernel)) ggX6_isFigure_X6_in
set_option maxRecDepth 20000 in
theorem ggX6_number_X6_isFigure : GoodIn wsX6_number wsX6_isFigure := goodIn_r _ [7, 8, 9, 10, 6, 11, 1, 12, 13, 14, 15, 16, 17, 18, 19, 20, 21, 22, 23, 24, 25, 26, 27, 28, 29, 30, 31, 32, 33, 34, 35, 36, 37, 38, 39, 40, 41, 42, 43, 44, 45, 46, 47, 48, 49, 50, 51, 52, 53] (by decide +kernel) (by decide +kernel)
set_option maxRecDepth 20000 in
theorem gX6_number_X6_isFigure : GoodIn wsX6_number (wsV RX6 101 RX6 yX6_isFigure wsX6_isFigure) := goodIn_app (goodIn_of _ (by decide +kernel)) ggX6_number_X6_isFigure
set_option maxRecDepth 20000 in
theorem ggX6_number_X6_here : GoodIn wsX6_number wsX6_here := goodIn_r _ [11, 1, 12, 13, 17, 18, 19, 20, 21, 22, 23, 24, 25, 26, 27, 28, 29, 30, 31, 32, 33, 34, 35, 36, 37, 38, 39, 40, 41, 42, 43, 44, 45, 46, 47, 48, 49, 50, 51, 52, 53] (by decide +kernel) (by decide +kernel)
set_option maxRecDepth 20000 in
theorem gX6_number_X6_here : GoodIn wsX6_number (wsV RX6 97 RX6 yX6_here wsX6_here) := goodIn_app (goodIn_of _ (by decide +kernel)) ggX6_number_X6_here
set_option maxRecDepth 20000 in
theorem ggX6_number_X6_in : GoodIn wsX6_number wsX6_in := goodIn_r _ [16] (by decide +kernel) (by decide +kernel)
set_option maxRecDepth 20000 in
theorem gX6_number_X6_in : GoodIn wsX6_number (va_wsS RX6 87 yX6_in wsX6_in) := goodIn_app (goodIn_of _ (by decide +kernel)) ggX6_number_X6_in
set_option maxRecDepth 20000 in
theorem ggX6_readsCaller_X6_number : GoodIn wsX6_readsCaller wsX6_number := goodIn_r _ [11, 12, 3, 13, 14, 15, 10, 16, 17, 18, 19, 20, 21, 22, 23, 24, 25, 26, 27, 28, 29, 30, 31, 32, 33, 34, 35, 36, 37, 38, 39, 40, 41, 42, 43, 44, 45, 46, 47, 48, 49, 50, 51, 52, 53, 54, 55, 56, 57, 58, 59, 60, 61, 62] (by decide +kernel) (by decide +kernel)
set_option maxRecDepth 20000 in
theorem gX6_readsCaller_X6_number : GoodIn wsX6_readsCaller (wsV RX6 111 RX6 yX6_number wsX6_number) := goodIn_app (goodIn_of _ (by decide +kernel)) ggX6_readsCaller_X6_number
set_option maxRecDepth 20000 in
theorem ggX6_readsServe_X6_number : GoodIn wsX6_readsServe wsX6_number := goodIn_r _ [8, 9, 1, 10, 11, 12, 7, 13, 14, 15, 16, 17, 18, 19, 20, 21, 22, 23, 24, 25, 26, 27, 28, 29, 30, 31, 32, 33, 34, 35, 36, 37, 38, 39, 40, 41, 42, 43, 44, 45, 46, 47, 48, 49, 50, 51, 52, 53, 54, 55, 56, 57, 58, 59] (by decide +kernel) (by decide +kernel)
set_option maxRecDepth 20000 in
theorem gX6_readsServe_X6_number : GoodIn wsX6_readsServe (wsV RX6 111 RX6 yX6_number wsX6_number) := goodIn_app (goodIn_of _ (by decide +kernel)) ggX6_readsServe_X6_number
set_option maxRecDepth 20000 in
theorem ggX6_readsRule_X6_number : GoodIn wsX6_readsRule wsX6_number := goodIn_r _ [7, 8, 1, 9, 10, 11, 6, 12, 13, 14, 15, 16, 17, 18, 19, 20, 21, 22, 23, 24, 25, 26, 27, 28, 29, 30, 31, 32, 33, 34, 35, 36, 37, 38, 39, 40, 41, 42, 43, 44, 45, 46, 47, 48, 49, 50, 51, 52, 53, 54, 55, 56, 57, 58] (by decide +kernel) (by decide +kernel)
set_option maxRecDepth 20000 in
theorem gX6_readsRule_X6_number : GoodIn wsX6_readsRule (wsV RX6 111 RX6 yX6_number wsX6_number) := goodIn_app (goodIn_of _ (by decide +kernel)) ggX6_readsRule_X6_number
set_option maxRecDepth 20000 in
theorem ggX6_readsItem_X6_here : GoodIn wsX6_readsItem wsX6_here := goodIn_r _ [6, 1, 7, 8, 41, 42, 43, 44, 45, 46, 47, 48, 49, 50, 51, 52, 53, 54, 55, 56, 57, 58, 59, 60, 61, 62, 63, 64, 65, 66, 67, 68, 69, 70, 71, 72, 73, 74, 75, 76, 77] (by decide +kernel) (by decide +kernel)
set_option maxRecDepth 20000 in
theorem gX6_readsItem_X6_here : GoodIn wsX6_readsItem (wsV RX6 97 RX6 yX6_here wsX6_here) := goodIn_app (goodIn_of _ (by decide +kernel)) ggX6_readsItem_X6_here
set_option maxRecDepth 20000 in
theorem ggX6_readsItem_X6_readsCaller : GoodIn wsX6_readsItem wsX6_readsCaller := goodIn_r _ [12, 13, 14, 15, 16, 17, 18, 19, 20, 21, 5, 22, 1, 23, 24, 25, 26, 2, 3, 4, 6, 7, 8, 27, 28, 29, 41, 42, 43, 44, 45, 46, 47, 48, 49, 50, 51, 52, 53, 54, 55, 56, 57, 58, 59, 60, 61, 62, 63, 64, 65, 66, 67, 68, 69, 70, 71, 72, 73, 74, 75, 76, 77] (by decide +kernel) (by decide +kernel)
set_option maxRecDepth 20000 in
theorem gX6_readsItem_X6_readsCaller : GoodIn wsX6_readsItem (wsV RX6 123 RX6 yX6_readsCaller wsX6_readsCaller) := goodIn_app (goodIn_of _ (by decide +kernel)) ggX6_readsItem_X6_readsCaller
set_option maxRecDepth 20000 in
theorem ggX6_readsItem_X6_readsServe : GoodIn wsX6_readsItem wsX6_readsServe := goodIn_r _ [33, 15, 34, 35, 19, 20, 21, 5, 22, 1, 23, 24, 25, 26, 2, 3, 4, 6, 7, 8, 27, 28, 29, 41, 42, 43, 44, 45, 46, 47, 48, 49, 50, 51, 52, 53, 54, 55, 56, 57, 58, 59, 60, 61, 62, 63, 64, 65, 66, 67, 68, 69, 70, 71, 72, 73, 74, 75, 76, 77] (by decide +kernel) (by decide +kernel)
set_option maxRecDepth 20000 in
theorem gX6_readsItem_X6_readsServe : GoodIn wsX6_readsItem (wsV RX6 126 RX6 yX6_readsServe wsX6_readsServe) := goodIn_app (goodIn_of _ (by decide +kernel)) ggX6_readsItem_X6_readsServe
set_option maxRecDepth 20000 in
theorem ggX6_readsItem_X6_readsRule : GoodIn wsX6_readsItem wsX6_readsRule := goodIn_r _ [39, 15, 40, 19, 20, 21, 5, 22, 1, 23, 24, 25, 26, 2, 3, 4, 6, 7, 8, 27, 28, 29, 41, 42, 43, 44, 45, 46, 47, 48, 49, 50, 51, 52, 53, 54, 55, 56, 57, 58, 59, 60, 61, 62, 63, 64, 65, 66, 67, 68, 69, 70, 71, 72, 73, 74, 75, 76, 77] (by decide +kernel) (by decide +kernel)
set_option maxRecDepth 20000 in
theorem gX6_readsItem_X6_readsRule : GoodIn wsX6_readsItem (wsV RX6 129 RX6 yX6_readsRule wsX6_readsRule) := goodIn_app (goodIn_of _ (by decide +kernel)) ggX6_readsItem_X6_readsRule
set_option maxRecDepth 20000 in
theorem ggX6_fault_X6_readsItem : GoodIn wsX6_fault wsX6_readsItem := goodIn_r _ [11, 1, 12, 13, 14, 10, 15, 6, 16, 17, 18, 19, 20, 2, 21, 22, 23, 24, 25, 26, 27, 28, 29, 30, 31, 32, 33, 34, 35, 36, 37, 38, 39, 40, 3, 4, 41, 42, 43, 44, 5, 45, 46, 47, 48, 49, 50, 51, 52, 53, 54, 55, 56, 57, 58, 59, 60, 61, 62, 63, 64, 65, 66, 67, 68, 69, 70, 71, 72, 73, 74, 75, 76, 77, 78, 79, 80, 81] (by decide +kernel) (by decide +kernel)
set_option maxRecDepth 20000 in
theorem gX6_fault_X6_readsItem : GoodIn wsX6_fault (wsV RX6 132 RX6 yX6_readsItem wsX6_readsItem) := goodIn_app (goodIn_of _ (by decide +kernel)) ggX6_fault_X6_readsItem
set_option maxRecDepth 20000 in
theorem ggX6_lay_X6_fault : GoodIn wsX6_lay wsX6_fault := goodIn_r _ [31, 32, 1, 3, 5, 7, 33, 34, 35, 36, 30, 37, 38, 39, 40, 41, 42, 43, 44, 45, 46, 12, 47, 14, 16, 18, 48, 49, 50, 51, 52, 53, 54, 55, 56, 57, 58, 59, 60, 61, 62, 63, 64, 65, 66, 67, 68, 69, 70, 71, 72, 73, 74, 75, 76, 77, 78, 79, 80, 81, 82, 83, 84, 85, 86, 87, 88, 89, 90, 91, 92, 93, 94, 95, 96, 97, 98, 99, 100, 101, 102, 103] (by decide +kernel) (by decide +kernel)
set_option maxRecDepth 20000 in
theorem gX6_lay_X6_fault : GoodIn wsX6_lay (wsV RX6 135 RX6 yX6_fault wsX6_fault) := goodIn_app (goodIn_of _ (by decide +kernel)) ggX6_lay_X6_fault
set_option maxRecDepth 20000 in
theorem ggX6_ahead_X6_isAhead : GoodIn wsX6_ahead wsX6_isAhead := goodIn_r _ [7, 8, 9, 10, 11, 12, 13, 14, 15, 16, 17, 18, 19, 20, 21, 22, 23, 24, 25, 26, 27, 28, 29, 30, 31, 32, 33, 34, 35, 36, 37, 38, 39, 40, 41, 42, 43, 44, 45, 46, 47] (by decide +kernel) (by decide +kernel)
set_option maxRecDepth 20000 in
theorem gX6_ahead_X6_isAhead : GoodIn wsX6_ahead (wsV RX6 156 RX6 yX6_isAhead wsX6_isAhead) := goodIn_app (goodIn_of _ (by decide +kernel)) ggX6_ahead_X6_isAhead
set_option maxRecDepth 20000 in
theorem ggX6_bearsNow_X6_ahead : GoodIn wsX6_bearsNow wsX6_ahead := goodIn_r _ [8, 9, 10, 11, 12, 13, 7, 14, 15, 16, 17, 21, 22, 23, 24, 25, 26, 27, 28, 29, 30, 31, 32, 33, 34, 35, 36, 37, 38, 39, 40, 41, 42, 43, 44, 45, 46, 47, 48, 49, 50, 51, 52, 53, 54, 55, 56, 57] (by decide +kernel) (by decide +kernel)
set_option maxRecDepth 20000 in
theorem gX6_bearsNow_X6_ahead : GoodIn wsX6_bearsNow (wsV RX6 160 RX6 yX6_ahead wsX6_ahead) := goodIn_app (goodIn_of _ (by decide +kernel)) ggX6_bearsNow_X6_ahead
set_option maxRecDepth 20000 in
theorem ggX6_bearsNow_X6_greater : GoodIn wsX6_bearsNow wsX6_greater := goodIn_r _ [20] (by decide +kernel) (by decide +kernel)
set_option maxRecDepth 20000 in
theorem gX6_bearsNow_X6_greater : GoodIn wsX6_bearsNow (va_wsS RX6 164 yX6_greater wsX6_greater) := goodIn_app (goodIn_of _ (by decide +kernel)) ggX6_bearsNow_X6_greater
set_option maxRecDepth 20000 in
theorem ggX6_next_X6_isAhead : GoodIn wsX6_next wsX6_isAhead := goodIn_r _ [7, 8, 9, 10, 11, 12, 13, 14, 15, 16, 17, 18, 19, 20, 21, 22, 23, 24, 25, 26, 27, 28, 29, 30, 31, 32, 33, 34, 35, 36, 37, 38, 39, 40, 41, 42, 43, 44, 45, 46, 47] (by decide +kernel) (by decide +kernel)
set_option maxRecDepth 20000 in
theorem gX6_next_X6_isAhead : GoodIn wsX6_next (wsV RX6 156 RX6 yX6_isAhead wsX6_isAhead) := goodIn_app (goodIn_of _ (by decide +kernel)) ggX6_next_X6_isAhead
set_option maxRecDepth 20000 in
theorem ggX6_goesBy_X6_comes : GoodIn wsX6_goesBy wsX6_comes := goodIn_r _ [16, 2, 11, 17, 18, 3, 46, 47, 48, 49, 50, 51, 52, 53, 54, 55, 56, 57, 58, 59, 60, 61, 62, 63, 64, 65, 66, 67, 68, 69, 70, 71, 72, 73, 74, 75, 76, 77, 78, 79, 80, 81, 82] (by decide +kernel) (by decide +kernel)
set_option maxRecDepth 20000 in
theorem gX6_goesBy_X6_comes : GoodIn wsX6_goesBy (wsV RX6 168 RX6 yX6_comes wsX6_comes) := goodIn_app (goodIn_of _ (by decide +kernel)) ggX6_goesBy_X6_comes
set_option maxRecDepth 20000 in
theorem ggX6_goesBy_X6_countOfThose : GoodIn wsX6_goesBy wsX6_countOfThose := goodIn_r _ [22, 1, 2, 46, 47, 48, 49, 50, 51, 52, 53, 54, 55, 56, 57, 58, 59, 60, 61, 62, 63, 64, 65, 66, 67, 68, 69, 70, 71, 72, 73, 74, 75, 76, 77, 78, 79, 80, 81, 82] (by decide +kernel) (by decide +kernel)
set_option maxRecDepth 20000 in
theorem gX6_goesBy_X6_countOfThose : GoodIn wsX6_goesBy (wsV RX6 172 RX6 yX6_countOfThose wsX6_countOfThose) := goodIn_app (goodIn_of _ (by decide +kernel)) ggX6_goesBy_X6_countOfThose
set_option maxRecDepth 20000 in
theorem ggX6_goesBy_X6_next : GoodIn wsX6_goesBy wsX6_next := goodIn_r _ [26, 1, 2, 27, 28, 29, 15, 30, 31, 17, 32, 46, 47, 48, 49, 50, 51, 52, 53, 54, 55, 56, 57, 58, 59, 60, 61, 62, 63, 64, 65, 66, 67, 68, 69, 70, 71, 72, 73, 74, 75, 76, 77, 78, 79, 80, 81, 82] (by decide +kernel) (by decide +kernel)
set_option maxRecDepth 20000 in
theorem gX6_goesBy_X6_next : GoodIn wsX6_goesBy (wsV RX6 175 RX6 yX6_next wsX6_next) := goodIn_app (goodIn_of _ (by decide +kernel)) ggX6_goesBy_X6_next
set_option maxRecDepth 20000 in
theorem ggX6_goesBy_X6_bearsNow : GoodIn wsX6_goesBy wsX6_bearsNow := goodIn_r _ [36, 37, 38, 10, 39, 40, 41, 15, 42, 1, 2, 27, 28, 29, 30, 31, 17, 32, 43, 44, 45, 46, 47, 48, 49, 50, 51, 52, 53, 54, 55, 56, 57, 58, 59, 60, 61, 62, 63, 64, 65, 66, 67, 68, 69, 70, 71, 72, 73, 74, 75, 76, 77, 78, 79, 80, 81, 82] (by decide +kernel) (by decide +kernel)
set_option maxRecDepth 20000 in
theorem gX6_goesBy_X6_bearsNow : GoodIn wsX6_goesBy (wsV RX6 178 RX6 yX6_bearsNow wsX6_bearsNow) := goodIn_app (goodIn_of _ (by decide +kernel)) ggX6_goesBy_X6_bearsNow
set_option maxRecDepth 20000 in
theorem ggX6_caller_X6_isOne : GoodIn wsX6_caller wsX6_isOne := goodIn_r _ [12, 13, 14, 15, 11, 16, 34, 35, 36, 37, 38, 39, 40, 41, 42, 43, 44, 45, 46, 47, 48, 49, 50, 51, 52, 53, 54, 55, 56, 57, 58, 59, 60, 61, 62, 63, 64, 65, 66, 67, 68, 69, 70] (by decide +kernel) (by decide +kernel)
set_option maxRecDepth 20000 in
theorem gX6_caller_X6_isOne : GoodIn wsX6_caller (wsV RX6 181 RX6 yX6_isOne wsX6_isOne) := goodIn_app (goodIn_of _ (by decide +kernel)) ggX6_caller_X6_isOne
set_option maxRecDepth 20000 in
theorem ggX6_caller_X6_in : GoodIn wsX6_caller wsX6_in := goodIn_r _ [16] (by decide +kernel) (by decide +kernel)
set_option maxRecDepth 20000 in
theorem gX6_caller_X6_in : GoodIn wsX6_caller (va_wsS RX6 87 yX6_in wsX6_in) := goodIn_app (goodIn_of _ (by decide +kernel)) ggX6_caller_X6_in
set_option maxRecDepth 20000 in
theorem ggX6_caller_X6_bearsNow : GoodIn wsX6_caller wsX6_bearsNow := goodIn_r _ [20, 1, 3, 7, 21, 22, 23, 11, 24, 13, 5, 25, 26, 27, 28, 29, 30, 4, 31, 32, 33, 34, 35, 36, 37, 38, 39, 40, 41, 42, 43, 44, 45, 46, 47, 48, 49, 50, 51, 52, 53, 54, 55, 56, 57, 58, 59, 60, 61, 62, 63, 64, 65, 66, 67, 68, 69, 70] (by decide +kernel) (by decide +kernel)
set_option maxRecDepth 20000 in
theorem gX6_caller_X6_bearsNow : GoodIn wsX6_caller (wsV RX6 178 RX6 yX6_bearsNow wsX6_bearsNow) := goodIn_app (goodIn_of _ (by decide +kernel)) ggX6_caller_X6_bearsNow
set_option maxRecDepth 20000 in
theorem ggX6_notes_X6_lays : GoodIn wsX6_notes wsX6_lays := goodIn_r _ [7, 8, 9, 10, 11, 12, 13, 14, 15, 16, 17, 18, 19, 20, 21, 22, 23, 24, 25, 26, 27, 28, 29, 30, 31, 32, 33, 34, 35, 36, 37, 38, 39, 40, 41, 42, 43, 44, 45, 46, 47, 48, 49, 50, 51, 52, 53] (by decide +kernel) (by decide +kernel)
set_option maxRecDepth 20000 in
theorem gX6_notes_X6_lays : GoodIn wsX6_notes (wsV RX6 185 RX6 yX6_lays wsX6_lays) := goodIn_app (goodIn_of _ (by decide +kernel)) ggX6_notes_X6_lays
set_option maxRecDepth 20000 in
theorem ggX6_pass_X6_in : GoodIn wsX6_pass wsX6_in := goodIn_r _ [5] (by decide +kernel) (by decide +kernel)
set_option maxRecDepth 20000 in
theorem gX6_pass_X6_in : GoodIn wsX6_pass (va_wsS RX6 87 yX6_in wsX6_in) := goodIn_app (goodIn_of _ (by decide +kernel)) ggX6_pass_X6_in
set_option maxRecDepth 20000 in
theorem ggX6_pass_X6_notes : GoodIn wsX6_pass wsX6_notes := goodIn_r _ [9, 10, 11, 12, 13, 14, 4, 15, 1, 16, 17, 18, 19, 20, 21, 22, 23, 67, 68, 69, 70, 71, 72, 73, 74, 75, 76, 77, 78, 79, 80, 81, 82, 83, 84, 85, 86, 87, 88, 89, 90, 91, 92, 93, 94, 95, 96, 97, 98, 99, 100, 101, 102, 103] (by decide +kernel) (by decide +kernel)
set_option maxRecDepth 20000 in
theorem gX6_pass_X6_notes : GoodIn wsX6_pass (wsV RX6 189 RX6 yX6_notes wsX6_notes) := goodIn_app (goodIn_of _ (by decide +kernel)) ggX6_pass_X6_notes
set_option maxRecDepth 20000 in
theorem ggX6_pass_X6_goes : GoodIn wsX6_pass wsX6_goes := goodIn_r _ [27, 28, 29, 30, 4, 31, 32, 19, 23, 33, 1, 22, 34, 16, 35, 36, 20, 37, 38, 39, 40, 21, 17, 41, 42, 43, 44, 45, 46, 47, 48, 49, 50, 51, 52, 18, 53, 54, 55, 56, 57, 58, 59, 60, 61, 62, 63, 64, 65, 66, 67, 68, 69, 70, 71, 72, 73, 74, 75, 76, 77, 78, 79, 80, 81, 82, 83, 84, 85, 86, 87, 88, 89, 90, 91, 92, 93, 94, 95, 96, 97, 98, 99, 100, 101, 102, 103] (by decide +kernel) (by decide +kernel)
set_option maxRecDepth 20000 in
theorem gX6_pass_X6_goes : GoodIn wsX6_pass (wsV RX6 192 RX6 yX6_goes wsX6_goes) := goodIn_app (goodIn_of _ (by decide +kernel)) ggX6_pass_X6_goes
set_option maxRecDepth 20000 in
theorem ggX6_goes_X6_goesBy : GoodIn wsX6_goes wsX6_goesBy := goodIn_r _ [5, 6, 7, 8, 9, 10, 11, 12, 13, 14, 15, 16, 17, 18, 19, 4, 20, 21, 22, 23, 24, 25, 26, 27, 28, 29, 30, 31, 32, 33, 34, 35, 36, 37, 38, 39, 40, 41, 42, 43, 44, 45, 46, 47, 48, 49, 50, 51, 52, 53, 54, 55, 56, 57, 58, 59, 60, 61, 62, 63, 64, 65, 66, 67, 68, 69, 70, 71, 72, 73, 74, 75, 76, 77, 78, 79, 80, 81, 82, 83, 84, 85, 86] (by decide +kernel) (by decide +kernel)
set_option maxRecDepth 20000 in
theorem gX6_goes_X6_goesBy : GoodIn wsX6_goes (wsV RX6 195 RX6 yX6_goesBy wsX6_goesBy) := goodIn_app (goodIn_of _ (by decide +kernel)) ggX6_goes_X6_goesBy
set_option maxRecDepth 20000 in
theorem ggX6_hang_X6_isOne : GoodIn wsX6_hang wsX6_isOne := goodIn_r _ [7, 8, 9, 10, 6, 11, 33, 34, 35, 36, 37, 38, 39, 40, 41, 42, 43, 44, 45, 46, 47, 48, 49, 50, 51, 52, 53, 54, 55, 56, 57, 58, 59, 60, 61, 62, 63, 64, 65, 66, 67, 68, 69] (by decide +kernel) (by decide +kernel)
set_option maxRecDepth 20000 in
theorem gX6_hang_X6_isOne : GoodIn wsX6_hang (wsV RX6 181 RX6 yX6_isOne wsX6_isOne) := goodIn_app (goodIn_of _ (by decide +kernel)) ggX6_hang_X6_isOne
set_option maxRecDepth 20000 in
theorem ggX6_hang_X6_notes : GoodIn wsX6_hang wsX6_notes := goodIn_r _ [15, 16, 17, 18, 19, 20, 6, 21, 22, 23, 24, 25, 1, 2, 26, 27, 28, 33, 34, 35, 36, 37, 38, 39, 40, 41, 42, 43, 44, 45, 46, 47, 48, 49, 50, 51, 52, 53, 54, 55, 56, 57, 58, 59, 60, 61, 62, 63, 64, 65, 66, 67, 68, 69] (by decide +kernel) (by decide +kernel)
set_option maxRecDepth 20000 in
theorem gX6_hang_X6_notes : GoodIn wsX6_hang (wsV RX6 189 RX6 yX6_notes wsX6_notes) := goodIn_app (goodIn_of _ (by decide +kernel)) ggX6_hang_X6_notes
set_option maxRecDepth 20000 in
theorem ggX6_hang_X6_hangs : GoodIn wsX6_hang wsX6_hangs := goodIn_r _ [32, 1, 33, 34, 35, 36, 37, 38, 39, 40, 41, 42, 43, 44, 45, 46, 47, 48, 49, 50, 51, 52, 53, 54, 55, 56, 57, 58, 59, 60, 61, 62, 63, 64, 65, 66, 67, 68, 69] (by decide +kernel) (by decide +kernel)
set_option maxRecDepth 20000 in
theorem gX6_hang_X6_hangs : GoodIn wsX6_hang (wsV RX6 198 RX6 yX6_hangs wsX6_hangs) := goodIn_app (goodIn_of _ (by decide +kernel)) ggX6_hang_X6_hangs
set_option maxRecDepth 20000 in
theorem ggX6_recall_X6_isOne : GoodIn wsX6_recall wsX6_isOne := goodIn_r _ [6, 7, 8, 9, 5, 10, 33, 34, 35, 36, 37, 38, 39, 40, 41, 42, 43, 44, 45, 46, 47, 48, 49, 50, 51, 52, 53, 54, 55, 56, 57, 58, 59, 60, 61, 62, 63, 64, 65, 66, 67, 68, 69] (by decide +kernel) (by decide +kernel)
set_option maxRecDepth 20000 in
theorem gX6_recall_X6_isOne : GoodIn wsX6_recall (wsV RX6 181 RX6 yX6_isOne wsX6_isOne) := goodIn_app (goodIn_of _ (by decide +kernel)) ggX6_recall_X6_isOne
set_option maxRecDepth 20000 in
theorem ggX6_recall_X6_notes : GoodIn wsX6_recall wsX6_notes := goodIn_r _ [14, 15, 16, 17, 18, 19, 5, 20, 21, 22, 23, 24, 1, 25, 26, 27, 28, 33, 34, 35, 36, 37, 38, 39, 40, 41, 42, 43, 44, 45, 46, 47, 48, 49, 50, 51, 52, 53, 54, 55, 56, 57, 58, 59, 60, 61, 62, 63, 64, 65, 66, 67, 68, 69] (by decide +kernel) (by decide +kernel)
set_option maxRecDepth 20000 in
theorem gX6_recall_X6_notes : GoodIn wsX6_recall (wsV RX6 189 RX6 yX6_notes wsX6_notes) := goodIn_app (goodIn_of _ (by decide +kernel)) ggX6_recall_X6_notes
set_option maxRecDepth 20000 in
theorem ggX6_recall_X6_recalls : GoodIn wsX6_recall wsX6_recalls := goodIn_r _ [32, 1, 28, 33, 34, 35, 36, 37, 38, 39, 40, 41, 42, 43, 44, 45, 46, 47, 48, 49, 50, 51, 52, 53, 54, 55, 56, 57, 58, 59, 60, 61, 62, 63, 64, 65, 66, 67, 68, 69] (by decide +kernel) (by decide +kernel)
set_option maxRecDepth 20000 in
theorem gX6_recall_X6_recalls : GoodIn wsX6_recall (wsV RX6 201 RX6 yX6_recalls wsX6_recalls) := goodIn_app (goodIn_of _ (by decide +kernel)) ggX6_recall_X6_recalls
set_option maxRecDepth 20000 in
theorem ggX6_staff_X6_in : GoodIn wsX6_staff wsX6_in := goodIn_r _ [5] (by decide +kernel) (by decide +kernel)
set_option maxRecDepth 20000 in
theorem gX6_staff_X6_in : GoodIn wsX6_staff (va_wsS RX6 87 yX6_in wsX6_in) := goodIn_app (goodIn_of _ (by decide +kernel)) ggX6_staff_X6_in
set_option maxRecDepth 20000 in
theorem ggX6_staff_X6_notes : GoodIn wsX6_staff wsX6_notes := goodIn_r _ [9, 10, 11, 12, 13, 14, 4, 15, 16, 1, 17, 18, 19, 20, 21, 22, 23, 24, 25, 26, 27, 28, 29, 30, 31, 32, 33, 34, 35, 36, 37, 38, 39, 40, 41, 42, 43, 44, 45, 46, 47, 48, 49, 50, 51, 52, 53, 54, 55, 56, 57, 58, 59, 60] (by decide +kernel) (by decide +kernel)
set_option maxRecDepth 20000 in
theorem gX6_staff_X6_notes : GoodIn wsX6_staff (wsV RX6 189 RX6 yX6_notes wsX6_notes) := goodIn_app (goodIn_of _ (by decide +kernel)) ggX6_staff_X6_notes
set_option maxRecDepth 20000 in
theorem ggX6_rule_X6_in : GoodIn wsX6_rule wsX6_in := goodIn_r _ [5] (by decide +kernel) (by decide +kernel)
set_option maxRecDepth 20000 in
theorem gX6_rule_X6_in : GoodIn wsX6_rule (va_wsS RX6 87 yX6_in wsX6_in) := goodIn_app (goodIn_of _ (by decide +kernel)) ggX6_rule_X6_in
set_option maxRecDepth 20000 in
theorem ggX6_rule_X6_notes : GoodIn wsX6_rule wsX6_notes := goodIn_r _ [9, 10, 11, 12, 13, 14, 4, 15, 16, 17, 18, 1, 19, 20, 21, 22, 23, 24, 25, 26, 27, 28, 29, 30, 31, 32, 33, 34, 35, 36, 37, 38, 39, 40, 41, 42, 43, 44, 45, 46, 47, 48, 49, 50, 51, 52, 53, 54, 55, 56, 57, 58, 59, 60] (by decide +kernel) (by decide +kernel)
set_option maxRecDepth 20000 in
theorem gX6_rule_X6_notes : GoodIn wsX6_rule (wsV RX6 189 RX6 yX6_notes wsX6_notes) := goodIn_app (goodIn_of _ (by decide +kernel)) ggX6_rule_X6_notes
set_option maxRecDepth 20000 in
theorem ggX6_undo_X6_takes : GoodIn wsX6_undo wsX6_takes := goodIn_r _ [7, 8, 9, 10, 11, 12, 13, 14, 15, 16, 17, 18, 19, 20, 21, 22, 23, 24, 25, 26, 27, 28, 29, 30, 31, 32, 33, 34, 35, 36, 37, 38, 39, 40, 41, 42, 43, 44, 45, 46, 47, 48, 49, 50, 51, 52, 53] (by decide +kernel) (by decide +kernel)
set_option maxRecDepth 20000 in
theorem gX6_undo_X6_takes : GoodIn wsX6_undo (wsV RX6 204 RX6 yX6_takes wsX6_takes) := goodIn_app (goodIn_of _ (by decide +kernel)) ggX6_undo_X6_takes
set_option maxRecDepth 20000 in
theorem ggX6_puts_X6_lays : GoodIn wsX6_puts wsX6_lays := goodIn_r _ [6, 7, 8, 9, 10, 11, 12, 13, 14, 15, 16, 17, 18, 19, 20, 21, 22, 23, 24, 25, 26, 27, 28, 29, 30, 31, 32, 33, 34, 35, 36, 37, 38, 39, 40, 41, 42, 43, 44, 45, 46, 47, 48, 49, 50, 51, 52] (by decide +kernel) (by decide +kernel)
set_option maxRecDepth 20000 in
theorem gX6_puts_X6_lays : GoodIn wsX6_puts (wsV RX6 185 RX6 yX6_lays wsX6_lays) := goodIn_app (goodIn_of _ (by decide +kernel)) ggX6_puts_X6_lays
set_option maxRecDepth 20000 in
theorem ggX6_puttingBack_X6_takes : GoodIn wsX6_puttingBack wsX6_takes := goodIn_r _ [6, 7, 8, 9, 10, 11, 12, 13, 14, 15, 16, 17, 18, 19, 20, 21, 22, 23, 24, 25, 26, 27, 28, 29, 30, 31, 32, 33, 34, 35, 36, 37, 38, 39, 40, 41, 42, 43, 44, 45, 46, 47, 48, 49, 50, 51, 52] (by decide +kernel) (by decide +kernel)
set_option maxRecDepth 20000 in
theorem gX6_puttingBack_X6_takes : GoodIn wsX6_puttingBack (wsV RX6 204 RX6 yX6_takes wsX6_takes) := goodIn_app (goodIn_of _ (by decide +kernel)) ggX6_puttingBack_X6_takes
set_option maxRecDepth 20000 in
theorem ggX6_behind_X6_in : GoodIn wsX6_behind wsX6_in := goodIn_r _ [5] (by decide +kernel) (by decide +kernel)
set_option maxRecDepth 20000 in
theorem gX6_behind_X6_in : GoodIn wsX6_behind (va_wsS RX6 87 yX6_in wsX6_in) := goodIn_app (goodIn_of _ (by decide +kernel)) ggX6_behind_X6_in
set_option maxRecDepth 20000 in
theorem ggX6_behind_X6_isOne : GoodIn wsX6_behind wsX6_isOne := goodIn_r _ [9, 10, 2, 3, 4, 5, 78, 79, 80, 81, 82, 83, 84, 85, 86, 87, 88, 89, 90, 91, 92, 93, 94, 95, 96, 97, 98, 99, 100, 101, 102, 103, 104, 105, 106, 107, 108, 109, 110, 111, 112, 113, 114] (by decide +kernel) (by decide +kernel)
set_option maxRecDepth 20000 in
theorem gX6_behind_X6_isOne : GoodIn wsX6_behind (wsV RX6 181 RX6 yX6_isOne wsX6_isOne) := goodIn_app (goodIn_of _ (by decide +kernel)) ggX6_behind_X6_isOne
set_option maxRecDepth 20000 in
theorem ggX6_behind_X6_puts : GoodIn wsX6_behind wsX6_puts := goodIn_r _ [14, 15, 16, 17, 18, 4, 19, 20, 21, 22, 23, 1, 24, 25, 26, 27, 78, 79, 80, 81, 82, 83, 84, 85, 86, 87, 88, 89, 90, 91, 92, 93, 94, 95, 96, 97, 98, 99, 100, 101, 102, 103, 104, 105, 106, 107, 108, 109, 110, 111, 112, 113, 114] (by decide +kernel) (by decide +kernel)
set_option maxRecDepth 20000 in
theorem gX6_behind_X6_puts : GoodIn wsX6_behind (wsV RX6 207 RX6 yX6_puts wsX6_puts) := goodIn_app (goodIn_of _ (by decide +kernel)) ggX6_behind_X6_puts
set_option maxRecDepth 20000 in
theorem ggX6_behind_X6_goes : GoodIn wsX6_behind wsX6_goes := goodIn_r _ [31, 32, 33, 34, 4, 35, 10, 1, 27, 36, 20, 26, 37, 21, 38, 39, 24, 40, 41, 42, 43, 25, 22, 44, 45, 46, 47, 48, 49, 50, 51, 52, 53, 54, 55, 23, 56, 57, 58, 59, 60, 61, 62, 63, 64, 65, 66, 67, 68, 69, 78, 79, 80, 81, 82, 83, 84, 85, 86, 87, 88, 89, 90, 91, 92, 93, 94, 95, 96, 97, 98, 99, 100, 101, 102, 103, 104, 105, 106, 107, 108, 109, 110, 111, 112, 113, 114] (by decide +kernel) (by decide +kernel)
set_option maxRecDepth 20000 in
theorem gX6_behind_X6_goes : GoodIn wsX6_behind (wsV RX6 192 RX6 yX6_goes wsX6_goes) := goodIn_app (goodIn_of _ (by decide +kernel)) ggX6_behind_X6_goes
set_option maxRecDepth 20000 in
theorem ggX6_behind_X6_puttingBack : GoodIn wsX6_behind wsX6_puttingBack := goodIn_r _ [73, 15, 74, 75, 76, 4, 77, 20, 21, 22, 23, 1, 24, 25, 26, 27, 78, 79, 80, 81, 82, 83, 84, 85, 86, 87, 88, 89, 90, 91, 92, 93, 94, 95, 96, 97, 98, 99, 100, 101, 102, 103, 104, 105, 106, 107, 108, 109, 110, 111, 112, 113, 114] (by decide +kernel) (by decide +kernel)
set_option maxRecDepth 20000 in
theorem gX6_behind_X6_puttingBack : GoodIn wsX6_behind (wsV RX6 210 RX6 yX6_puttingBack wsX6_puttingBack) := goodIn_app (goodIn_of _ (by decide +kernel)) ggX6_behind_X6_puttingBack
set_option maxRecDepth 20000 in
theorem ggX6_takenFrom_X6_isTaken : GoodIn wsX6_takenFrom wsX6_isTaken := goodIn_r _ [5, 6, 54, 55, 56, 57, 58, 59, 60, 61, 62, 63, 64, 65, 66, 67, 68, 69, 70, 71, 72, 73, 74, 75, 76, 77, 78, 79, 80, 81, 82, 83, 84, 85, 86, 87, 88, 89, 90] (by decide +kernel) (by decide +kernel)
set_option maxRecDepth 20000 in
theorem gX6_takenFrom_X6_isTaken : GoodIn wsX6_takenFrom (wsV RX6 213 RX6 yX6_isTaken wsX6_isTaken) := goodIn_app (goodIn_of _ (by decide +kernel)) ggX6_takenFrom_X6_isTaken
set_option maxRecDepth 20000 in
theorem ggX6_takenFrom_X6_goesBy : GoodIn wsX6_takenFrom wsX6_goesBy := goodIn_r _ [10, 11, 6, 12, 13, 14, 15, 16, 17, 18, 19, 20, 21, 22, 23, 4, 24, 25, 26, 27, 28, 29, 30, 31, 32, 33, 34, 35, 36, 37, 38, 39, 40, 41, 42, 43, 44, 45, 46, 47, 48, 49, 50, 51, 52, 53, 54, 55, 56, 57, 58, 59, 60, 61, 62, 63, 64, 65, 66, 67, 68, 69, 70, 71, 72, 73, 74, 75, 76, 77, 78, 79, 80, 81, 82, 83, 84, 85, 86, 87, 88, 89, 90] (by decide +kernel) (by decide +kernel)
set_option maxRecDepth 20000 in
theorem gX6_takenFrom_X6_goesBy : GoodIn wsX6_takenFrom (wsV RX6 195 RX6 yX6_goesBy wsX6_goesBy) := goodIn_app (goodIn_of _ (by decide +kernel)) ggX6_takenFrom_X6_goesBy
set_option maxRecDepth 20000 in
theorem ggX6_taken_X6_isOne : GoodIn wsX6_taken wsX6_isOne := goodIn_r _ [5, 6, 7, 8, 4, 9, 82, 83, 84, 85, 86, 87, 88, 89, 90, 91, 92, 93, 94, 95, 96, 97, 98, 99, 100, 101, 102, 103, 104, 105, 106, 107, 108, 109, 110, 111, 112, 113, 114, 115, 116, 117, 118] (by decide +kernel) (by decide +kernel)
set_option maxRecDepth 20000 in
theorem gX6_taken_X6_isOne : GoodIn wsX6_taken (wsV RX6 181 RX6 yX6_isOne wsX6_isOne) := goodIn_app (goodIn_of _ (by decide +kernel)) ggX6_taken_X6_isOne
set_option maxRecDepth 20000 in
theorem ggX6_taken_X6_puts : GoodIn wsX6_taken wsX6_puts := goodIn_r _ [13, 14, 15, 16, 17, 4, 18, 19, 20, 21, 22, 23, 24, 25, 26, 27, 82, 83, 84, 85, 86, 87, 88, 89, 90, 91, 92, 93, 94, 95, 96, 97, 98, 99, 100, 101, 102, 103, 104, 105, 106, 107, 108, 109, 110, 111, 112, 113, 114, 115, 116, 117, 118] (by decide +kernel) (by decide +kernel)
set_option maxRecDepth 20000 in
theorem gX6_taken_X6_puts : GoodIn wsX6_taken (wsV RX6 207 RX6 yX6_puts wsX6_puts) := goodIn_app (goodIn_of _ (by decide +kernel)) ggX6_taken_X6_puts
set_option maxRecDepth 20000 in
theorem ggX6_taken_X6_takenFrom : GoodIn wsX6_taken wsX6_takenFrom := goodIn_r _ [31, 32, 33, 34, 4, 35, 23, 36, 37, 38, 39, 6, 27, 40, 19, 26, 41, 20, 42, 43, 24, 44, 45, 46, 47, 25, 21, 48, 49, 50, 51, 52, 53, 54, 55, 56, 57, 58, 59, 22, 60, 61, 62, 63, 64, 65, 66, 67, 68, 69, 70, 71, 72, 73, 82, 83, 84, 85, 86, 87, 88, 89, 90, 91, 92, 93, 94, 95, 96, 97, 98, 99, 100, 101, 102, 103, 104, 105, 106, 107, 108, 109, 110, 111, 112, 113, 114, 115, 116, 117, 118] (by decide +kernel) (by decide +kernel)
set_option maxRecDepth 20000 in
theorem gX6_taken_X6_takenFrom : GoodIn wsX6_taken (wsV RX6 216 RX6 yX6_takenFrom wsX6_takenFrom) := goodIn_app (goodIn_of _ (by decide +kernel)) ggX6_taken_X6_takenFrom
set_option maxRecDepth 20000 in
theorem ggX6_taken_X6_puttingBack : GoodIn wsX6_taken wsX6_puttingBack := goodIn_r _ [77, 14, 78, 79, 80, 4, 81, 19, 20, 21, 22, 23, 24, 25, 26, 27, 82, 83, 84, 85, 86, 87, 88, 89, 90, 91, 92, 93, 94, 95, 96, 97, 98, 99, 100, 101, 102, 103, 104, 105, 106, 107, 108, 109, 110, 111, 112, 113, 114, 115, 116, 117, 118] (by decide +kernel) (by decide +kernel)
set_option maxRecDepth 20000 in
theorem gX6_taken_X6_puttingBack : GoodIn wsX6_taken (wsV RX6 210 RX6 yX6_puttingBack wsX6_puttingBack) := goodIn_app (goodIn_of _ (by decide +kernel)) ggX6_taken_X6_puttingBack
set_option maxRecDepth 20000 in
theorem ggX6_left_X6_isOne : GoodIn wsX6_left wsX6_isOne := goodIn_r _ [6, 7, 8, 9, 5, 10, 74, 75, 76, 77, 78, 79, 80, 81, 82, 83, 84, 85, 86, 87, 88, 89, 90, 91, 92, 93, 94, 95, 96, 97, 98, 99, 100, 101, 102, 103, 104, 105, 106, 107, 108, 109, 110] (by decide +kernel) (by decide +kernel)
set_option maxRecDepth 20000 in
theorem gX6_left_X6_isOne : GoodIn wsX6_left (wsV RX6 181 RX6 yX6_isOne wsX6_isOne) := goodIn_app (goodIn_of _ (by decide +kernel)) ggX6_left_X6_isOne
set_option maxRecDepth 20000 in
theorem ggX6_left_X6_puts : GoodIn wsX6_left wsX6_puts := goodIn_r _ [14, 15, 16, 17, 18, 5, 19, 20, 21, 22, 23, 1, 24, 25, 26, 27, 74, 75, 76, 77, 78, 79, 80, 81, 82, 83, 84, 85, 86, 87, 88, 89, 90, 91, 92, 93, 94, 95, 96, 97, 98, 99, 100, 101, 102, 103, 104, 105, 106, 107, 108, 109, 110] (by decide +kernel) (by decide +kernel)
set_option maxRecDepth 20000 in
theorem gX6_left_X6_puts : GoodIn wsX6_left (wsV RX6 207 RX6 yX6_puts wsX6_puts) := goodIn_app (goodIn_of _ (by decide +kernel)) ggX6_left_X6_puts
set_option maxRecDepth 20000 in
theorem ggX6_left_X6_goesBy : GoodIn wsX6_left wsX6_goesBy := goodIn_r _ [31, 7, 1, 27, 32, 20, 26, 33, 21, 34, 35, 24, 36, 37, 38, 5, 39, 25, 22, 40, 41, 42, 43, 44, 45, 46, 47, 48, 49, 50, 51, 23, 52, 53, 54, 55, 56, 57, 58, 59, 60, 61, 62, 63, 64, 65, 74, 75, 76, 77, 78, 79, 80, 81, 82, 83, 84, 85, 86, 87, 88, 89, 90, 91, 92, 93, 94, 95, 96, 97, 98, 99, 100, 101, 102, 103, 104, 105, 106, 107, 108, 109, 110] (by decide +kernel) (by decide +kernel)
set_option maxRecDepth 20000 in
theorem gX6_left_X6_goesBy : GoodIn wsX6_left (wsV RX6 195 RX6 yX6_goesBy wsX6_goesBy) := goodIn_app (goodIn_of _ (by decide +kernel)) ggX6_left_X6_goesBy
set_option maxRecDepth 20000 in
theorem ggX6_left_X6_puttingBack : GoodIn wsX6_left wsX6_puttingBack := goodIn_r _ [69, 15, 70, 71, 72, 5, 73, 20, 21, 22, 23, 1, 24, 25, 26, 27, 74, 75, 76, 77, 78, 79, 80, 81, 82, 83, 84, 85, 86, 87, 88, 89, 90, 91, 92, 93, 94, 95, 96, 97, 98, 99, 100, 101, 102, 103, 104, 105, 106, 107, 108, 109, 110] (by decide +kernel) (by decide +kernel)
set_option maxRecDepth 20000 in
theorem gX6_left_X6_puttingBack : GoodIn wsX6_left (wsV RX6 210 RX6 yX6_puttingBack wsX6_puttingBack) := goodIn_app (goodIn_of _ (by decide +kernel)) ggX6_left_X6_puttingBack
set_option maxRecDepth 20000 in
theorem ggX6_number__X6_isOne : GoodIn wsX6_number_ wsX6_isOne := goodIn_r _ [6, 7, 8, 9, 5, 10, 22, 23, 24, 25, 26, 27, 28, 29, 30, 31, 32, 33, 34, 35, 36, 37, 38, 39, 40, 41, 42, 43, 44, 45, 46, 47, 48, 49, 50, 51, 52, 53, 54, 55, 56, 57, 58] (by decide +kernel) (by decide +kernel)
set_option maxRecDepth 20000 in
theorem gX6_number__X6_isOne : GoodIn wsX6_number_ (wsV RX6 181 RX6 yX6_isOne wsX6_isOne) := goodIn_app (goodIn_of _ (by decide +kernel)) ggX6_number__X6_isOne
set_option maxRecDepth 20000 in
theorem ggX6_number__X6_ahead : GoodIn wsX6_number_ wsX6_ahead := goodIn_r _ [14, 7, 1, 15, 16, 17, 5, 18, 19, 20, 21, 22, 23, 24, 25, 26, 27, 28, 29, 30, 31, 32, 33, 34, 35, 36, 37, 38, 39, 40, 41, 42, 43, 44, 45, 46, 47, 48, 49, 50, 51, 52, 53, 54, 55, 56, 57, 58] (by decide +kernel) (by decide +kernel)
set_option maxRecDepth 20000 in
theorem gX6_number__X6_ahead : GoodIn wsX6_number_ (wsV RX6 160 RX6 yX6_ahead wsX6_ahead) := goodIn_app (goodIn_of _ (by decide +kernel)) ggX6_number__X6_ahead
set_option maxRecDepth 20000 in
theorem ggX6_again_X6_isOne : GoodIn wsX6_again wsX6_isOne := goodIn_r _ [7, 8, 9, 10, 6, 11, 94, 95, 96, 97, 98, 99, 100, 101, 102, 103, 104, 105, 106, 107, 108, 109, 110, 111, 112, 113, 114, 115, 116, 117, 118, 119, 120, 121, 122, 123, 124, 125, 126, 127, 128, 129, 130] (by decide +kernel) (by decide +kernel)
set_option maxRecDepth 20000 in
theorem gX6_again_X6_isOne : GoodIn wsX6_again (wsV RX6 181 RX6 yX6_isOne wsX6_isOne) := goodIn_app (goodIn_of _ (by decide +kernel)) ggX6_again_X6_isOne
set_option maxRecDepth 20000 in
theorem ggX6_again_X6_in : GoodIn wsX6_again wsX6_in := goodIn_r _ [11] (by decide +kernel) (by decide +kernel)
set_option maxRecDepth 20000 in
theorem gX6_again_X6_in : GoodIn wsX6_again (va_wsS RX6 87 yX6_in wsX6_in) := goodIn_app (goodIn_of _ (by decide +kernel)) ggX6_again_X6_in
set_option maxRecDepth 20000 in
theorem ggX6_again_X6_puts : GoodIn wsX6_again wsX6_puts := goodIn_r _ [15, 16, 17, 18, 19, 6, 20, 21, 22, 23, 24, 1, 25, 26, 27, 28, 94, 95, 96, 97, 98, 99, 100, 101, 102, 103, 104, 105, 106, 107, 108, 109, 110, 111, 112, 113, 114, 115, 116, 117, 118, 119, 120, 121, 122, 123, 124, 125, 126, 127, 128, 129, 130] (by decide +kernel) (by decide +kernel)
set_option maxRecDepth 20000 in
theorem gX6_again_X6_puts : GoodIn wsX6_again (wsV RX6 207 RX6 yX6_puts wsX6_puts) := goodIn_app (goodIn_of _ (by decide +kernel)) ggX6_again_X6_puts
set_option maxRecDepth 20000 in
theorem ggX6_again_X6_hangs : GoodIn wsX6_again wsX6_hangs := goodIn_r _ [32, 1, 94, 95, 96, 97, 98, 99, 100, 101, 102, 103, 104, 105, 106, 107, 108, 109, 110, 111, 112, 113, 114, 115, 116, 117, 118, 119, 120, 121, 122, 123, 124, 125, 126, 127, 128, 129, 130] (by decide +kernel) (by decide +kernel)
set_option maxRecDepth 20000 in
theorem gX6_again_X6_hangs : GoodIn wsX6_again (wsV RX6 198 RX6 yX6_hangs wsX6_hangs) := goodIn_app (goodIn_of _ (by decide +kernel)) ggX6_again_X6_hangs
set_option maxRecDepth 20000 in
theorem ggX6_again_X6_goes : GoodIn wsX6_again wsX6_goes := goodIn_r _ [36, 37, 38, 39, 6, 40, 8, 1, 28, 41, 21, 27, 42, 22, 43, 2, 25, 44, 45, 46, 47, 26, 23, 48, 49, 50, 51, 52, 53, 54, 55, 56, 57, 58, 59, 24, 60, 61, 62, 63, 64, 65, 66, 67, 68, 69, 70, 71, 72, 73, 94, 95, 96, 97, 98, 99, 100, 101, 102, 103, 104, 105, 106, 107, 108, 109, 110, 111, 112, 113, 114, 115, 116, 117, 118, 119, 120, 121, 122, 123, 124, 125, 126, 127, 128, 129, 130] (by decide +kernel) (by decide +kernel)
set_option maxRecDepth 20000 in
theorem gX6_again_X6_goes : GoodIn wsX6_again (wsV RX6 192 RX6 yX6_goes wsX6_goes) := goodIn_app (goodIn_of _ (by decide +kernel)) ggX6_again_X6_goes
set_option maxRecDepth 20000 in
theorem ggX6_again_X6_recalls : GoodIn wsX6_again wsX6_recalls := goodIn_r _ [77, 1, 28, 94, 95, 96, 97, 98, 99, 100, 101, 102, 103, 104, 105, 106, 107, 108, 109, 110, 111, 112, 113, 114, 115, 116, 117, 118, 119, 120, 121, 122, 123, 124, 125, 126, 127, 128, 129, 130] (by decide +kernel) (by decide +kernel)
set_option maxRecDepth 20000 in
theorem gX6_again_X6_recalls : GoodIn wsX6_again (wsV RX6 201 RX6 yX6_recalls wsX6_recalls) := goodIn_app (goodIn_of _ (by decide +kernel)) ggX6_again_X6_recalls
set_option maxRecDepth 20000 in
theorem ggX6_again_X6_takenFrom : GoodIn wsX6_again wsX6_takenFrom := goodIn_r _ [81, 82, 83, 84, 6, 85, 1, 37, 38, 39, 40, 8, 28, 41, 21, 27, 42, 22, 43, 2, 25, 44, 45, 46, 47, 26, 23, 48, 49, 50, 51, 52, 53, 54, 55, 56, 57, 58, 59, 24, 60, 61, 62, 63, 64, 65, 66, 67, 68, 69, 70, 71, 72, 73, 94, 95, 96, 97, 98, 99, 100, 101, 102, 103, 104, 105, 106, 107, 108, 109, 110, 111, 112, 113, 114, 115, 116, 117, 118, 119, 120, 121, 122, 123, 124, 125, 126, 127, 128, 129, 130] (by decide +kernel) (by decide +kernel)
set_option maxRecDepth 20000 in
theorem gX6_again_X6_takenFrom : GoodIn wsX6_again (wsV RX6 216 RX6 yX6_takenFrom wsX6_takenFrom) := goodIn_app (goodIn_of _ (by decide +kernel)) ggX6_again_X6_takenFrom
set_option maxRecDepth 20000 in
theorem ggX6_again_X6_puttingBack : GoodIn wsX6_again wsX6_puttingBack := goodIn_r _ [89, 16, 90, 91, 92, 6, 93, 21, 22, 23, 24, 1, 25, 26, 27, 28, 94, 95, 96, 97, 98, 99, 100, 101, 102, 103, 104, 105, 106, 107, 108, 109, 110, 111, 112, 113, 114, 115, 116, 117, 118, 119, 120, 121, 122, 123, 124, 125, 126, 127, 128, 129, 130] (by decide +kernel) (by decide +kernel)
set_option maxRecDepth 20000 in
theorem gX6_again_X6_puttingBack : GoodIn wsX6_again (wsV RX6 210 RX6 yX6_puttingBack wsX6_puttingBack) := goodIn_app (goodIn_of _ (by decide +kernel)) ggX6_again_X6_puttingBack
set_option maxRecDepth 20000 in
theorem ggX6_best_X6_in : GoodIn wsX6_best wsX6_in := goodIn_r _ [8] (by decide +kernel) (by decide +kernel)
set_option maxRecDepth 20000 in
theorem gX6_best_X6_in : GoodIn wsX6_best (va_wsS RX6 87 yX6_in wsX6_in) := goodIn_app (goodIn_of _ (by decide +kernel)) ggX6_best_X6_in
set_option maxRecDepth 20000 in
theorem ggX6_best_X6_puts : GoodIn wsX6_best wsX6_puts := goodIn_r _ [12, 13, 14, 15, 16, 7, 17, 18, 19, 20, 3, 2, 21, 22, 23, 24, 81, 82, 83, 84, 85, 86, 87, 88, 89, 90, 91, 92, 93, 94, 95, 96, 97, 98, 99, 100, 101, 102, 103, 104, 105, 106, 107, 108, 109, 110, 111, 112, 113, 114, 115, 116, 117] (by decide +kernel) (by decide +kernel)
set_option maxRecDepth 20000 in
theorem gX6_best_X6_puts : GoodIn wsX6_best (wsV RX6 207 RX6 yX6_puts wsX6_puts) := goodIn_app (goodIn_of _ (by decide +kernel)) ggX6_best_X6_puts
set_option maxRecDepth 20000 in
theorem ggX6_best_X6_goes : GoodIn wsX6_best wsX6_goes := goodIn_r _ [28, 29, 30, 31, 7, 32, 1, 2, 24, 33, 18, 23, 34, 19, 35, 36, 21, 37, 38, 39, 40, 22, 20, 41, 42, 43, 44, 45, 46, 47, 48, 49, 50, 51, 52, 3, 4, 53, 54, 55, 56, 57, 58, 59, 60, 61, 62, 63, 64, 65, 81, 82, 83, 84, 85, 86, 87, 88, 89, 90, 91, 92, 93, 94, 95, 96, 97, 98, 99, 100, 101, 102, 103, 104, 105, 106, 107, 108, 109, 110, 111, 112, 113, 114, 115, 116, 117] (by decide +kernel) (by decide +kernel)
set_option maxRecDepth 20000 in
theorem gX6_best_X6_goes : GoodIn wsX6_best (wsV RX6 192 RX6 yX6_goes wsX6_goes) := goodIn_app (goodIn_of _ (by decide +kernel)) ggX6_best_X6_goes
set_option maxRecDepth 20000 in
theorem ggX6_best_X6_has : GoodIn wsX6_best wsX6_has := goodIn_r _ [68] (by decide +kernel) (by decide +kernel)
set_option maxRecDepth 20000 in
theorem gX6_best_X6_has : GoodIn wsX6_best (va_wsS RX6 219 yX6_has wsX6_has) := goodIn_app (goodIn_of _ (by decide +kernel)) ggX6_best_X6_has
set_option maxRecDepth 20000 in
theorem ggX6_best_X6_isTaken : GoodIn wsX6_best wsX6_isTaken := goodIn_r _ [72, 2, 81, 82, 83, 84, 85, 86, 87, 88, 89, 90, 91, 92, 93, 94, 95, 96, 97, 98, 99, 100, 101, 102, 103, 104, 105, 106, 107, 108, 109, 110, 111, 112, 113, 114, 115, 116, 117] (by decide +kernel) (by decide +kernel)
set_option maxRecDepth 20000 in
theorem gX6_best_X6_isTaken : GoodIn wsX6_best (wsV RX6 213 RX6 yX6_isTaken wsX6_isTaken) := goodIn_app (goodIn_of _ (by decide +kernel)) ggX6_best_X6_isTaken
set_option maxRecDepth 20000 in
theorem ggX6_best_X6_puttingBack : GoodIn wsX6_best wsX6_puttingBack := goodIn_r _ [76, 13, 77, 78, 79, 7, 80, 18, 19, 20, 3, 2, 21, 22, 23, 24, 81, 82, 83, 84, 85, 86, 87, 88, 89, 90, 91, 92, 93, 94, 95, 96, 97, 98, 99, 100, 101, 102, 103, 104, 105, 106, 107, 108, 109, 110, 111, 112, 113, 114, 115, 116, 117] (by decide +kernel) (by decide +kernel)
set_option maxRecDepth 20000 in
theorem gX6_best_X6_puttingBack : GoodIn wsX6_best (wsV RX6 210 RX6 yX6_puttingBack wsX6_puttingBack) := goodIn_app (goodIn_of _ (by decide +kernel)) ggX6_best_X6_puttingBack
set_option maxRecDepth 20000 in
theorem ggX6_best_X6_greater : GoodIn wsX6_best wsX6_greater := goodIn_r _ [65] (by decide +kernel) (by decide +kernel)
set_option maxRecDepth 20000 in
theorem gX6_best_X6_greater : GoodIn wsX6_best (va_wsS RX6 164 yX6_greater wsX6_greater) := goodIn_app (goodIn_of _ (by decide +kernel)) ggX6_best_X6_greater
set_option maxRecDepth 20000 in
theorem ggX6_lostNow_X6_countOfThose : GoodIn wsX6_lostNow wsX6_countOfThose := goodIn_r _ [5, 6, 7, 54, 55, 56, 57, 58, 59, 60, 61, 62, 63, 64, 65, 66, 67, 68, 69, 70, 71, 72, 73, 74, 75, 76, 77, 78, 79, 80, 81, 82, 83, 84, 85, 86, 87, 88, 89, 90] (by decide +kernel) (by decide +kernel)
set_option maxRecDepth 20000 in
theorem gX6_lostNow_X6_countOfThose : GoodIn wsX6_lostNow (wsV RX6 172 RX6 yX6_countOfThose wsX6_countOfThose) := goodIn_app (goodIn_of _ (by decide +kernel)) ggX6_lostNow_X6_countOfThose
set_option maxRecDepth 20000 in
theorem ggX6_lostNow_X6_goes : GoodIn wsX6_lostNow wsX6_goes := goodIn_r _ [11, 12, 13, 14, 4, 15, 6, 7, 16, 17, 18, 19, 20, 21, 22, 23, 24, 25, 26, 27, 28, 29, 30, 1, 2, 3, 5, 31, 32, 33, 34, 35, 36, 37, 38, 39, 40, 41, 42, 43, 44, 45, 46, 47, 48, 49, 50, 51, 52, 53, 54, 55, 56, 57, 58, 59, 60, 61, 62, 63, 64, 65, 66, 67, 68, 69, 70, 71, 72, 73, 74, 75, 76, 77, 78, 79, 80, 81, 82, 83, 84, 85, 86, 87, 88, 89, 90] (by decide +kernel) (by decide +kernel)
set_option maxRecDepth 20000 in
theorem gX6_lostNow_X6_goes : GoodIn wsX6_lostNow (wsV RX6 192 RX6 yX6_goes wsX6_goes) := goodIn_app (goodIn_of _ (by decide +kernel)) ggX6_lostNow_X6_goes
set_option maxRecDepth 20000 in
theorem ggX6_needed_X6_puts : GoodIn wsX6_needed wsX6_puts := goodIn_r _ [6, 7, 8, 9, 10, 5, 11, 12, 1, 13, 14, 15, 16, 17, 18, 19, 75, 76, 77, 78, 79, 80, 81, 82, 83, 84, 85, 86, 87, 88, 89, 90, 91, 92, 93, 94, 95, 96, 97, 98, 99, 100, 101, 102, 103, 104, 105, 106, 107, 108, 109, 110, 111] (by decide +kernel) (by decide +kernel)
set_option maxRecDepth 20000 in
theorem gX6_needed_X6_puts : GoodIn wsX6_needed (wsV RX6 207 RX6 yX6_puts wsX6_puts) := goodIn_app (goodIn_of _ (by decide +kernel)) ggX6_needed_X6_puts
set_option maxRecDepth 20000 in
theorem ggX6_needed_X6_lostNow : GoodIn wsX6_needed wsX6_lostNow := goodIn_r _ [23, 24, 25, 26, 5, 27, 28, 15, 29, 30, 31, 32, 33, 34, 35, 36, 19, 37, 12, 18, 38, 1, 39, 40, 16, 41, 42, 43, 44, 17, 13, 45, 46, 47, 48, 49, 50, 51, 52, 14, 53, 54, 55, 56, 57, 58, 59, 60, 61, 62, 63, 64, 65, 66, 75, 76, 77, 78, 79, 80, 81, 82, 83, 84, 85, 86, 87, 88, 89, 90, 91, 92, 93, 94, 95, 96, 97, 98, 99, 100, 101, 102, 103, 104, 105, 106, 107, 108, 109, 110, 111] (by decide +kernel) (by decide +kernel)
set_option maxRecDepth 20000 in
theorem gX6_needed_X6_lostNow : GoodIn wsX6_needed (wsV RX6 222 RX6 yX6_lostNow wsX6_lostNow) := goodIn_app (goodIn_of _ (by decide +kernel)) ggX6_needed_X6_lostNow
set_option maxRecDepth 20000 in
theorem ggX6_needed_X6_puttingBack : GoodIn wsX6_needed wsX6_puttingBack := goodIn_r _ [70, 7, 71, 72, 73, 5, 74, 12, 1, 13, 14, 15, 16, 17, 18, 19, 75, 76, 77, 78, 79, 80, 81, 82, 83, 84, 85, 86, 87, 88, 89, 90, 91, 92, 93, 94, 95, 96, 97, 98, 99, 100, 101, 102, 103, 104, 105, 106, 107, 108, 109, 110, 111] (by decide +kernel) (by decide +kernel)
set_option maxRecDepth 20000 in
theorem gX6_needed_X6_puttingBack : GoodIn wsX6_needed (wsV RX6 210 RX6 yX6_puttingBack wsX6_puttingBack) := goodIn_app (goodIn_of _ (by decide +kernel)) ggX6_needed_X6_puttingBack
set_option maxRecDepth 20000 in
theorem ggX6_lost_X6_puts : GoodIn wsX6_lost wsX6_puts := goodIn_r _ [5, 6, 7, 8, 9, 4, 10, 11, 12, 13, 14, 15, 16, 17, 18, 19, 75, 76, 77, 78, 79, 80, 81, 82, 83, 84, 85, 86, 87, 88, 89, 90, 91, 92, 93, 94, 95, 96, 97, 98, 99, 100, 101, 102, 103, 104, 105, 106, 107, 108, 109, 110, 111] (by decide +kernel) (by decide +kernel)
set_option maxRecDepth 20000 in
theorem gX6_lost_X6_puts : GoodIn wsX6_lost (wsV RX6 207 RX6 yX6_puts wsX6_puts) := goodIn_app (goodIn_of _ (by decide +kernel)) ggX6_lost_X6_puts
set_option maxRecDepth 20000 in
theorem ggX6_lost_X6_lostNow : GoodIn wsX6_lost wsX6_lostNow := goodIn_r _ [23, 24, 25, 26, 4, 27, 28, 15, 29, 30, 31, 32, 33, 34, 35, 36, 19, 37, 11, 18, 38, 12, 39, 40, 16, 41, 42, 43, 44, 17, 13, 45, 46, 47, 48, 49, 50, 51, 52, 14, 53, 54, 55, 56, 57, 58, 59, 60, 61, 62, 63, 64, 65, 66, 75, 76, 77, 78, 79, 80, 81, 82, 83, 84, 85, 86, 87, 88, 89, 90, 91, 92, 93, 94, 95, 96, 97, 98, 99, 100, 101, 102, 103, 104, 105, 106, 107, 108, 109, 110, 111] (by decide +kernel) (by decide +kernel)
set_option maxRecDepth 20000 in
theorem gX6_lost_X6_lostNow : GoodIn wsX6_lost (wsV RX6 222 RX6 yX6_lostNow wsX6_lostNow) := goodIn_app (goodIn_of _ (by decide +kernel)) ggX6_lost_X6_lostNow
set_option maxRecDepth 20000 in
theorem ggX6_lost_X6_puttingBack : GoodIn wsX6_lost wsX6_puttingBack := goodIn_r _ [70, 6, 71, 72, 73, 4, 74, 11, 12, 13, 14, 15, 16, 17, 18, 19, 75, 76, 77, 78, 79, 80, 81, 82, 83, 84, 85, 86, 87, 88, 89, 90, 91, 92, 93, 94, 95, 96, 97, 98, 99, 100, 101, 102, 103, 104, 105, 106, 107, 108, 109, 110, 111] (by decide +kernel) (by decide +kernel)
set_option maxRecDepth 20000 in
theorem gX6_lost_X6_puttingBack : GoodIn wsX6_lost (wsV RX6 210 RX6 yX6_puttingBack wsX6_puttingBack) := goodIn_app (goodIn_of _ (by decide +kernel)) ggX6_lost_X6_puttingBack
set_option maxRecDepth 20000 in
theorem ggX6_helps_X6_in : GoodIn wsX6_helps wsX6_in := goodIn_r _ [7] (by decide +kernel) (by decide +kernel)
set_option maxRecDepth 20000 in
theorem gX6_helps_X6_in : GoodIn wsX6_helps (va_wsS RX6 87 yX6_in wsX6_in) := goodIn_app (goodIn_of _ (by decide +kernel)) ggX6_helps_X6_in
set_option maxRecDepth 20000 in
theorem ggX6_helps_X6_puts : GoodIn wsX6_helps wsX6_puts := goodIn_r _ [11, 12, 13, 14, 15, 6, 16, 17, 18, 19, 20, 3, 21, 22, 23, 24, 82, 83, 84, 85, 86, 87, 88, 89, 90, 91, 92, 93, 94, 95, 96, 97, 98, 99, 100, 101, 102, 103, 104, 105, 106, 107, 108, 109, 110, 111, 112, 113, 114, 115, 116, 117, 118] (by decide +kernel) (by decide +kernel)
set_option maxRecDepth 20000 in
theorem gX6_helps_X6_puts : GoodIn wsX6_helps (wsV RX6 207 RX6 yX6_puts wsX6_puts) := goodIn_app (goodIn_of _ (by decide +kernel)) ggX6_helps_X6_puts
set_option maxRecDepth 20000 in
theorem ggX6_helps_X6_hangs : GoodIn wsX6_helps wsX6_hangs := goodIn_r _ [28, 3, 82, 83, 84, 85, 86, 87, 88, 89, 90, 91, 92, 93, 94, 95, 96, 97, 98, 99, 100, 101, 102, 103, 104, 105, 106, 107, 108, 109, 110, 111, 112, 113, 114, 115, 116, 117, 118] (by decide +kernel) (by decide +kernel)
set_option maxRecDepth 20000 in
theorem gX6_helps_X6_hangs : GoodIn wsX6_helps (wsV RX6 198 RX6 yX6_hangs wsX6_hangs) := goodIn_app (goodIn_of _ (by decide +kernel)) ggX6_helps_X6_hangs
set_option maxRecDepth 20000 in
theorem ggX6_helps_X6_lostNow : GoodIn wsX6_helps wsX6_lostNow := goodIn_r _ [32, 33, 34, 35, 6, 36, 2, 3, 37, 38, 39, 40, 41, 42, 43, 44, 24, 45, 17, 23, 46, 18, 47, 1, 21, 48, 49, 50, 51, 22, 19, 52, 53, 54, 55, 56, 57, 58, 59, 20, 60, 61, 62, 63, 64, 65, 66, 67, 68, 69, 70, 71, 72, 73, 82, 83, 84, 85, 86, 87, 88, 89, 90, 91, 92, 93, 94, 95, 96, 97, 98, 99, 100, 101, 102, 103, 104, 105, 106, 107, 108, 109, 110, 111, 112, 113, 114, 115, 116, 117, 118] (by decide +kernel) (by decide +kernel)
set_option maxRecDepth 20000 in
theorem gX6_helps_X6_lostNow : GoodIn wsX6_helps (wsV RX6 222 RX6 yX6_lostNow wsX6_lostNow) := goodIn_app (goodIn_of _ (by decide +kernel)) ggX6_helps_X6_lostNow
set_option maxRecDepth 20000 in
theorem ggX6_helps_X6_puttingBack : GoodIn wsX6_helps wsX6_puttingBack := goodIn_r _ [77, 12, 78, 79, 80, 6, 81, 17, 18, 19, 20, 3, 21, 22, 23, 24, 82, 83, 84, 85, 86, 87, 88, 89, 90, 91, 92, 93, 94, 95, 96, 97, 98, 99, 100, 101, 102, 103, 104, 105, 106, 107, 108, 109, 110, 111, 112, 113, 114, 115, 116, 117, 118] (by decide +kernel) (by decide +kernel)
set_option maxRecDepth 20000 in
theorem gX6_helps_X6_puttingBack : GoodIn wsX6_helps (wsV RX6 210 RX6 yX6_puttingBack wsX6_puttingBack) := goodIn_app (goodIn_of _ (by decide +kernel)) ggX6_helps_X6_puttingBack
set_option maxRecDepth 20000 in
theorem ggX6_longest_X6_in : GoodIn wsX6_longest wsX6_in := goodIn_r _ [7] (by decide +kernel) (by decide +kernel)
set_option maxRecDepth 20000 in
theorem gX6_longest_X6_in : GoodIn wsX6_longest (va_wsS RX6 87 yX6_in wsX6_in) := goodIn_app (goodIn_of _ (by decide +kernel)) ggX6_longest_X6_in
set_option maxRecDepth 20000 in
theorem ggX6_longest_X6_puts : GoodIn wsX6_longest wsX6_puts := goodIn_r _ [11, 12, 13, 14, 15, 6, 16, 17, 18, 19, 20, 2, 3, 21, 22, 23, 77, 78, 79, 80, 81, 82, 83, 84, 85, 86, 87, 88, 89, 90, 91, 92, 93, 94, 95, 96, 97, 98, 99, 100, 101, 102, 103, 104, 105, 106, 107, 108, 109, 110, 111, 112, 113] (by decide +kernel) (by decide +kernel)
set_option maxRecDepth 20000 in
theorem gX6_longest_X6_puts : GoodIn wsX6_longest (wsV RX6 207 RX6 yX6_puts wsX6_puts) := goodIn_app (goodIn_of _ (by decide +kernel)) ggX6_longest_X6_puts
set_option maxRecDepth 20000 in
theorem ggX6_longest_X6_goes : GoodIn wsX6_longest wsX6_goes := goodIn_r _ [27, 28, 29, 30, 6, 31, 1, 2, 23, 32, 17, 22, 33, 18, 34, 35, 3, 36, 37, 38, 39, 21, 19, 40, 41, 42, 43, 44, 45, 46, 47, 48, 49, 50, 51, 20, 52, 53, 54, 55, 56, 57, 58, 59, 60, 61, 62, 63, 64, 65, 77, 78, 79, 80, 81, 82, 83, 84, 85, 86, 87, 88, 89, 90, 91, 92, 93, 94, 95, 96, 97, 98, 99, 100, 101, 102, 103, 104, 105, 106, 107, 108, 109, 110, 111, 112, 113] (by decide +kernel) (by decide +kernel)
set_option maxRecDepth 20000 in
theorem gX6_longest_X6_goes : GoodIn wsX6_longest (wsV RX6 192 RX6 yX6_goes wsX6_goes) := goodIn_app (goodIn_of _ (by decide +kernel)) ggX6_longest_X6_goes
set_option maxRecDepth 20000 in
theorem ggX6_longest_X6_has : GoodIn wsX6_longest wsX6_has := goodIn_r _ [68] (by decide +kernel) (by decide +kernel)
set_option maxRecDepth 20000 in
theorem gX6_longest_X6_has : GoodIn wsX6_longest (va_wsS RX6 219 yX6_has wsX6_has) := goodIn_app (goodIn_of _ (by decide +kernel)) ggX6_longest_X6_has
set_option maxRecDepth 20000 in
theorem ggX6_longest_X6_greater : GoodIn wsX6_longest wsX6_greater := goodIn_r _ [65] (by decide +kernel) (by decide +kernel)
set_option maxRecDepth 20000 in
theorem gX6_longest_X6_greater : GoodIn wsX6_longest (va_wsS RX6 164 yX6_greater wsX6_greater) := goodIn_app (goodIn_of _ (by decide +kernel)) ggX6_longest_X6_greater
set_option maxRecDepth 20000 in
theorem ggX6_longest_X6_puttingBack : GoodIn wsX6_longest wsX6_puttingBack := goodIn_r _ [72, 12, 73, 74, 75, 6, 76, 17, 18, 19, 20, 2, 3, 21, 22, 23, 77, 78, 79, 80, 81, 82, 83, 84, 85, 86, 87, 88, 89, 90, 91, 92, 93, 94, 95, 96, 97, 98, 99, 100, 101, 102, 103, 104, 105, 106, 107, 108, 109, 110, 111, 112, 113] (by decide +kernel) (by decide +kernel)
set_option maxRecDepth 20000 in
theorem gX6_longest_X6_puttingBack : GoodIn wsX6_longest (wsV RX6 210 RX6 yX6_puttingBack wsX6_puttingBack) := goodIn_app (goodIn_of _ (by decide +kernel)) ggX6_longest_X6_puttingBack
set_option maxRecDepth 20000 in
theorem ggX6_seen_X6_isOne : GoodIn wsX6_seen wsX6_isOne := goodIn_r _ [9, 10, 11, 12, 8, 13, 14, 15, 16, 17, 18, 19, 20, 21, 22, 23, 24, 25, 26, 27, 28, 29, 30, 31, 32, 33, 34, 35, 36, 37, 38, 39, 40, 41, 42, 43, 44, 45, 46, 47, 48, 49, 50] (by decide +kernel) (by decide +kernel)
set_option maxRecDepth 20000 in
theorem gX6_seen_X6_isOne : GoodIn wsX6_seen (wsV RX6 181 RX6 yX6_isOne wsX6_isOne) := goodIn_app (goodIn_of _ (by decide +kernel)) ggX6_seen_X6_isOne
set_option maxRecDepth 20000 in
theorem ggX6_seen_X6_in : GoodIn wsX6_seen wsX6_in := goodIn_r _ [13] (by decide +kernel) (by decide +kernel)
set_option maxRecDepth 20000 in
theorem gX6_seen_X6_in : GoodIn wsX6_seen (va_wsS RX6 87 yX6_in wsX6_in) := goodIn_app (goodIn_of _ (by decide +kernel)) ggX6_seen_X6_in
set_option maxRecDepth 20000 in
theorem ggX6_isSo_X6_puts : GoodIn wsX6_isSo wsX6_puts := goodIn_r _ [12, 13, 14, 15, 16, 11, 17, 18, 19, 20, 21, 4, 22, 23, 24, 25, 71, 72, 73, 74, 75, 76, 77, 78, 79, 80, 81, 82, 83, 84, 85, 86, 87, 88, 89, 90, 91, 92, 93, 94, 95, 96, 97, 98, 99, 100, 101, 102, 103, 104, 105, 106, 107] (by decide +kernel) (by decide +kernel)
set_option maxRecDepth 20000 in
theorem gX6_isSo_X6_puts : GoodIn wsX6_isSo (wsV RX6 207 RX6 yX6_puts wsX6_puts) := goodIn_app (goodIn_of _ (by decide +kernel)) ggX6_isSo_X6_puts
set_option maxRecDepth 20000 in
theorem ggX6_isSo_X6_goesBy : GoodIn wsX6_isSo wsX6_goesBy := goodIn_r _ [29, 30, 4, 25, 31, 18, 24, 32, 19, 33, 34, 22, 35, 36, 37, 11, 38, 23, 20, 39, 40, 41, 42, 43, 44, 45, 46, 47, 48, 49, 50, 21, 51, 52, 53, 54, 55, 1, 2, 56, 57, 58, 59, 60, 61, 62, 71, 72, 73, 74, 75, 76, 77, 78, 79, 80, 81, 82, 83, 84, 85, 86, 87, 88, 89, 90, 91, 92, 93, 94, 95, 96, 97, 98, 99, 100, 101, 102, 103, 104, 105, 106, 107] (by decide +kernel) (by decide +kernel)
set_option maxRecDepth 20000 in
theorem gX6_isSo_X6_goesBy : GoodIn wsX6_isSo (wsV RX6 195 RX6 yX6_goesBy wsX6_goesBy) := goodIn_app (goodIn_of _ (by decide +kernel)) ggX6_isSo_X6_goesBy
set_option maxRecDepth 20000 in
theorem ggX6_isSo_X6_puttingBack : GoodIn wsX6_isSo wsX6_puttingBack := goodIn_r _ [66, 13, 67, 68, 69, 11, 70, 18, 19, 20, 21, 4, 22, 23, 24, 25, 71, 72, 73, 74, 75, 76, 77, 78, 79, 80, 81, 82, 83, 84, 85, 86, 87, 88, 89, 90, 91, 92, 93, 94, 95, 96, 97, 98, 99, 100, 101, 102, 103, 104, 105, 106, 107] (by decide +kernel) (by decide +kernel)
set_option maxRecDepth 20000 in
theorem gX6_isSo_X6_puttingBack : GoodIn wsX6_isSo (wsV RX6 210 RX6 yX6_puttingBack wsX6_puttingBack) := goodIn_app (goodIn_of _ (by decide +kernel)) ggX6_isSo_X6_puttingBack
set_option maxRecDepth 20000 in
theorem ggX6_bears_X6_isOne : GoodIn wsX6_bears wsX6_isOne := goodIn_r _ [6, 7, 8, 9, 5, 10, 82, 83, 84, 85, 86, 87, 88, 89, 90, 91, 92, 93, 94, 95, 96, 97, 98, 99, 100, 101, 102, 103, 104, 105, 106, 107, 108, 109, 110, 111, 112, 113, 114, 115, 116, 117, 118] (by decide +kernel) (by decide +kernel)
set_option maxRecDepth 20000 in
theorem gX6_bears_X6_isOne : GoodIn wsX6_bears (wsV RX6 181 RX6 yX6_isOne wsX6_isOne) := goodIn_app (goodIn_of _ (by decide +kernel)) ggX6_bears_X6_isOne
set_option maxRecDepth 20000 in
theorem ggX6_bears_X6_in : GoodIn wsX6_bears wsX6_in := goodIn_r _ [10] (by decide +kernel) (by decide +kernel)
set_option maxRecDepth 20000 in
theorem gX6_bears_X6_in : GoodIn wsX6_bears (va_wsS RX6 87 yX6_in wsX6_in) := goodIn_app (goodIn_of _ (by decide +kernel)) ggX6_bears_X6_in
set_option maxRecDepth 20000 in
theorem ggX6_bears_X6_isSo : GoodIn wsX6_bears wsX6_isSo := goodIn_r _ [14, 1, 15, 16, 17, 18, 19, 20, 21, 22, 23, 5, 24, 25, 26, 27, 28, 29, 30, 31, 32, 33, 34, 35, 36, 37, 38, 39, 40, 41, 7, 42, 43, 44, 45, 46, 47, 48, 49, 50, 51, 52, 53, 54, 55, 56, 57, 58, 59, 60, 61, 62, 63, 64, 65, 66, 67, 68, 69, 70, 71, 72, 73, 74, 75, 76, 77, 78, 79, 80, 81, 82, 83, 84, 85, 86, 87, 88, 89, 90, 91, 92, 93, 94, 95, 96, 97, 98, 99, 100, 101, 102, 103, 104, 105, 106, 107, 108, 109, 110, 111, 112, 113, 114, 115, 116, 117, 118] (by decide +kernel) (by decide +kernel)
set_option maxRecDepth 20000 in
theorem gX6_bears_X6_isSo : GoodIn wsX6_bears (wsV RX6 225 RX6 yX6_isSo wsX6_isSo) := goodIn_app (goodIn_of _ (by decide +kernel)) ggX6_bears_X6_isSo
set_option maxRecDepth 20000 in
theorem ggX6_kinds_X6_isOne : GoodIn wsX6_kinds wsX6_isOne := goodIn_r _ [6, 7, 8, 9, 5, 10, 82, 83, 84, 85, 86, 87, 88, 89, 90, 91, 92, 93, 94, 95, 96, 97, 98, 99, 100, 101, 102, 103, 104, 105, 106, 107, 108, 109, 110, 111, 112, 113, 114, 115, 116, 117, 118] (by decide +kernel) (by decide +kernel)
set_option maxRecDepth 20000 in
theorem gX6_kinds_X6_isOne : GoodIn wsX6_kinds (wsV RX6 181 RX6 yX6_isOne wsX6_isOne) := goodIn_app (goodIn_of _ (by decide +kernel)) ggX6_kinds_X6_isOne
set_option maxRecDepth 20000 in
theorem ggX6_kinds_X6_isSo : GoodIn wsX6_kinds wsX6_isSo := goodIn_r _ [14, 15, 1, 16, 17, 18, 19, 20, 21, 22, 23, 5, 24, 25, 26, 27, 28, 29, 30, 31, 32, 33, 34, 35, 36, 37, 38, 39, 40, 41, 7, 42, 43, 44, 45, 46, 47, 48, 49, 50, 51, 52, 53, 54, 55, 56, 57, 58, 59, 60, 61, 62, 63, 64, 65, 66, 67, 68, 69, 70, 71, 72, 73, 74, 75, 76, 77, 78, 79, 80, 81, 82, 83, 84, 85, 86, 87, 88, 89, 90, 91, 92, 93, 94, 95, 96, 97, 98, 99, 100, 101, 102, 103, 104, 105, 106, 107, 108, 109, 110, 111, 112, 113, 114, 115, 116, 117, 118] (by decide +kernel) (by decide +kernel)
set_option maxRecDepth 20000 in
theorem gX6_kinds_X6_isSo : GoodIn wsX6_kinds (wsV RX6 225 RX6 yX6_isSo wsX6_isSo) := goodIn_app (goodIn_of _ (by decide +kernel)) ggX6_kinds_X6_isSo
set_option maxRecDepth 20000 in
theorem ggX6_likely_X6_isOne : GoodIn wsX6_likely wsX6_isOne := goodIn_r _ [8, 1, 9, 10, 7, 11, 93, 94, 95, 96, 97, 98, 99, 100, 101, 102, 103, 104, 105, 106, 107, 108, 109, 110, 111, 112, 113, 114, 115, 116, 117, 118, 119, 120, 121, 122, 123, 124, 125, 126, 127, 128, 129] (by decide +kernel) (by decide +kernel)
set_option maxRecDepth 20000 in
theorem gX6_likely_X6_isOne : GoodIn wsX6_likely (wsV RX6 181 RX6 yX6_isOne wsX6_isOne) := goodIn_app (goodIn_of _ (by decide +kernel)) ggX6_likely_X6_isOne
set_option maxRecDepth 20000 in
theorem ggX6_likely_X6_in : GoodIn wsX6_likely wsX6_in := goodIn_r _ [11] (by decide +kernel) (by decide +kernel)
set_option maxRecDepth 20000 in
theorem gX6_likely_X6_in : GoodIn wsX6_likely (va_wsS RX6 87 yX6_in wsX6_in) := goodIn_app (goodIn_of _ (by decide +kernel)) ggX6_likely_X6_in
set_option maxRecDepth 20000 in
theorem ggX6_likely_X6_waitingBut : GoodIn wsX6_likely wsX6_waitingBut := goodIn_r _ [15, 1, 3, 93, 94, 95, 96, 97, 98, 99, 100, 101, 102, 103, 104, 105, 106, 107, 108, 109, 110, 111, 112, 113, 114, 115, 116, 117, 118, 119, 120, 121, 122, 123, 124, 125, 126, 127, 128, 129] (by decide +kernel) (by decide +kernel)
set_option maxRecDepth 20000 in
theorem gX6_likely_X6_waitingBut : GoodIn wsX6_likely (wsV RX6 228 RX6 yX6_waitingBut wsX6_waitingBut) := goodIn_app (goodIn_of _ (by decide +kernel)) ggX6_likely_X6_waitingBut
set_option maxRecDepth 20000 in
theorem ggX6_likely_X6_has : GoodIn wsX6_likely wsX6_has := goodIn_r _ [18] (by decide +kernel) (by decide +kernel)
set_option maxRecDepth 20000 in
theorem gX6_likely_X6_has : GoodIn wsX6_likely (va_wsS RX6 219 yX6_has wsX6_has) := goodIn_app (goodIn_of _ (by decide +kernel)) ggX6_likely_X6_has
set_option maxRecDepth 20000 in
theorem ggX6_likely_X6_puts : GoodIn wsX6_likely wsX6_puts := goodIn_r _ [22, 23, 24, 25, 26, 7, 27, 28, 29, 30, 31, 3, 32, 33, 34, 35, 93, 94, 95, 96, 97, 98, 99, 100, 101, 102, 103, 104, 105, 106, 107, 108, 109, 110, 111, 112, 113, 114, 115, 116, 117, 118, 119, 120, 121, 122, 123, 124, 125, 126, 127, 128, 129] (by decide +kernel) (by decide +kernel)
set_option maxRecDepth 20000 in
theorem gX6_likely_X6_puts : GoodIn wsX6_likely (wsV RX6 207 RX6 yX6_puts wsX6_puts) := goodIn_app (goodIn_of _ (by decide +kernel)) ggX6_likely_X6_puts
set_option maxRecDepth 20000 in
theorem ggX6_likely_X6_takenFrom : GoodIn wsX6_likely wsX6_takenFrom := goodIn_r _ [39, 40, 41, 42, 7, 43, 3, 44, 45, 46, 47, 1, 35, 48, 28, 34, 49, 29, 50, 51, 32, 52, 53, 54, 55, 33, 30, 56, 57, 58, 59, 60, 61, 62, 63, 64, 65, 66, 67, 31, 68, 69, 70, 71, 72, 73, 74, 75, 76, 77, 78, 79, 80, 81, 93, 94, 95, 96, 97, 98, 99, 100, 101, 102, 103, 104, 105, 106, 107, 108, 109, 110, 111, 112, 113, 114, 115, 116, 117, 118, 119, 120, 121, 122, 123, 124, 125, 126, 127, 128, 129] (by decide +kernel) (by decide +kernel)
set_option maxRecDepth 20000 in
theorem gX6_likely_X6_takenFrom : GoodIn wsX6_likely (wsV RX6 216 RX6 yX6_takenFrom wsX6_takenFrom) := goodIn_app (goodIn_of _ (by decide +kernel)) ggX6_likely_X6_takenFrom
set_option maxRecDepth 20000 in
theorem ggX6_likely_X6_puttingBack : GoodIn wsX6_likely wsX6_puttingBack := goodIn_r _ [85, 23, 86, 87, 88, 7, 89, 28, 29, 30, 31, 3, 32, 33, 34, 35, 93, 94, 95, 96, 97, 98, 99, 100, 101, 102, 103, 104, 105, 106, 107, 108, 109, 110, 111, 112, 113, 114, 115, 116, 117, 118, 119, 120, 121, 122, 123, 124, 125, 126, 127, 128, 129] (by decide +kernel) (by decide +kernel)
set_option maxRecDepth 20000 in
theorem gX6_likely_X6_puttingBack : GoodIn wsX6_likely (wsV RX6 210 RX6 yX6_puttingBack wsX6_puttingBack) := goodIn_app (goodIn_of _ (by decide +kernel)) ggX6_likely_X6_puttingBack
set_option maxRecDepth 20000 in
theorem ggX6_likely_X6_common : GoodIn wsX6_likely wsX6_common := goodIn_r _ [92] (by decide +kernel) (by decide +kernel)
set_option maxRecDepth 20000 in
theorem gX6_likely_X6_common : GoodIn wsX6_likely (va_wsS RX6 233 yX6_common wsX6_common) := goodIn_app (goodIn_of _ (by decide +kernel)) ggX6_likely_X6_common
set_option maxRecDepth 20000 in
theorem ggX6_day_X6_in : GoodIn wsX6_day wsX6_in := goodIn_r _ [11] (by decide +kernel) (by decide +kernel)
set_option maxRecDepth 20000 in
theorem gX6_day_X6_in : GoodIn wsX6_day (va_wsS RX6 87 yX6_in wsX6_in) := goodIn_app (goodIn_of _ (by decide +kernel)) ggX6_day_X6_in
set_option maxRecDepth 20000 in
theorem ggX6_day_X6_puts : GoodIn wsX6_day wsX6_puts := goodIn_r _ [15, 16, 17, 18, 19, 10, 20, 21, 7, 22, 23, 6, 24, 25, 26, 27, 86, 87, 88, 89, 90, 91, 92, 93, 94, 95, 96, 97, 98, 99, 100, 101, 102, 103, 104, 105, 106, 107, 108, 109, 110, 111, 112, 113, 114, 115, 116, 117, 118, 119, 120, 121, 122] (by decide +kernel) (by decide +kernel)
set_option maxRecDepth 20000 in
theorem gX6_day_X6_puts : GoodIn wsX6_day (wsV RX6 207 RX6 yX6_puts wsX6_puts) := goodIn_app (goodIn_of _ (by decide +kernel)) ggX6_day_X6_puts
set_option maxRecDepth 20000 in
theorem ggX6_day_X6_hangs : GoodIn wsX6_day wsX6_hangs := goodIn_r _ [31, 6, 86, 87, 88, 89, 90, 91, 92, 93, 94, 95, 96, 97, 98, 99, 100, 101, 102, 103, 104, 105, 106, 107, 108, 109, 110, 111, 112, 113, 114, 115, 116, 117, 118, 119, 120, 121, 122] (by decide +kernel) (by decide +kernel)
set_option maxRecDepth 20000 in
theorem gX6_day_X6_hangs : GoodIn wsX6_day (wsV RX6 198 RX6 yX6_hangs wsX6_hangs) := goodIn_app (goodIn_of _ (by decide +kernel)) ggX6_day_X6_hangs
set_option maxRecDepth 20000 in
theorem ggX6_day_X6_recalls : GoodIn wsX6_day wsX6_recalls := goodIn_r _ [35, 6, 27, 86, 87, 88, 89, 90, 91, 92, 93, 94, 95, 96, 97, 98, 99, 100, 101, 102, 103, 104, 105, 106, 107, 108, 109, 110, 111, 112, 113, 114, 115, 116, 117, 118, 119, 120, 121, 122] (by decide +kernel) (by decide +kernel)
set_option maxRecDepth 20000 in
theorem gX6_day_X6_recalls : GoodIn wsX6_day (wsV RX6 201 RX6 yX6_recalls wsX6_recalls) := goodIn_app (goodIn_of _ (by decide +kernel)) ggX6_day_X6_recalls
set_option maxRecDepth 20000 in
theorem ggX6_day_X6_goesBy : GoodIn wsX6_day wsX6_goesBy := goodIn_r _ [39, 5, 6, 27, 40, 21, 26, 41, 7, 42, 43, 24, 44, 45, 46, 10, 47, 25, 22, 48, 49, 50, 51, 52, 53, 54, 55, 56, 57, 58, 59, 23, 60, 61, 62, 63, 64, 65, 66, 67, 68, 69, 70, 71, 72, 73, 86, 87, 88, 89, 90, 91, 92, 93, 94, 95, 96, 97, 98, 99, 100, 101, 102, 103, 104, 105, 106, 107, 108, 109, 110, 111, 112, 113, 114, 115, 116, 117, 118, 119, 120, 121, 122] (by decide +kernel) (by decide +kernel)
set_option maxRecDepth 20000 in
theorem gX6_day_X6_goesBy : GoodIn wsX6_day (wsV RX6 195 RX6 yX6_goesBy wsX6_goesBy) := goodIn_app (goodIn_of _ (by decide +kernel)) ggX6_day_X6_goesBy
set_option maxRecDepth 20000 in
theorem ggX6_day_X6_countOfThose : GoodIn wsX6_day wsX6_countOfThose := goodIn_r _ [51, 5, 6, 86, 87, 88, 89, 90, 91, 92, 93, 94, 95, 96, 97, 98, 99, 100, 101, 102, 103, 104, 105, 106, 107, 108, 109, 110, 111, 112, 113, 114, 115, 116, 117, 118, 119, 120, 121, 122] (by decide +kernel) (by decide +kernel)
set_option maxRecDepth 20000 in
theorem gX6_day_X6_countOfThose : GoodIn wsX6_day (wsV RX6 172 RX6 yX6_countOfThose wsX6_countOfThose) := goodIn_app (goodIn_of _ (by decide +kernel)) ggX6_day_X6_countOfThose
set_option maxRecDepth 20000 in
theorem ggX6_day_X6_worthThrough : GoodIn wsX6_day wsX6_worthThrough := goodIn_r _ [77, 5, 6, 60, 86, 87, 88, 89, 90, 91, 92, 93, 94, 95, 96, 97, 98, 99, 100, 101, 102, 103, 104, 105, 106, 107, 108, 109, 110, 111, 112, 113, 114, 115, 116, 117, 118, 119, 120, 121, 122] (by decide +kernel) (by decide +kernel)
set_option maxRecDepth 20000 in
theorem gX6_day_X6_worthThrough : GoodIn wsX6_day (wsV RX6 245 RX6 yX6_worthThrough wsX6_worthThrough) := goodIn_app (goodIn_of _ (by decide +kernel)) ggX6_day_X6_worthThrough
set_option maxRecDepth 20000 in
theorem ggX6_day_X6_puttingBack : GoodIn wsX6_day wsX6_puttingBack := goodIn_r _ [81, 16, 82, 83, 84, 10, 85, 21, 7, 22, 23, 6, 24, 25, 26, 27, 86, 87, 88, 89, 90, 91, 92, 93, 94, 95, 96, 97, 98, 99, 100, 101, 102, 103, 104, 105, 106, 107, 108, 109, 110, 111, 112, 113, 114, 115, 116, 117, 118, 119, 120, 121, 122] (by decide +kernel) (by decide +kernel)
set_option maxRecDepth 20000 in
theorem gX6_day_X6_puttingBack : GoodIn wsX6_day (wsV RX6 210 RX6 yX6_puttingBack wsX6_puttingBack) := goodIn_app (goodIn_of _ (by decide +kernel)) ggX6_day_X6_puttingBack
set_option maxRecDepth 20000 in
theorem ggX6_keep_X6_lays : GoodIn wsX6_keep wsX6_lays := goodIn_r _ [7, 8, 9, 10, 11, 12, 13, 14, 15, 16, 17, 18, 19, 20, 21, 22, 23, 24, 25, 26, 27, 28, 29, 30, 31, 32, 33, 34, 35, 36, 37, 38, 39, 40, 41, 42, 43, 44, 45, 46, 47, 48, 49, 50, 51, 52, 53] (by decide +kernel) (by decide +kernel)
set_option maxRecDepth 20000 in
theorem gX6_keep_X6_lays : GoodIn wsX6_keep (wsV RX6 185 RX6 yX6_lays wsX6_lays) := goodIn_app (goodIn_of _ (by decide +kernel)) ggX6_keep_X6_lays
set_option maxRecDepth 20000 in
theorem ggX6_back_X6_takes : GoodIn wsX6_back wsX6_takes := goodIn_r _ [8, 9, 10, 11, 12, 13, 14, 15, 16, 17, 18, 19, 20, 21, 22, 23, 24, 25, 26, 27, 28, 29, 30, 31, 32, 33, 34, 35, 36, 37, 38, 39, 40, 41, 42, 43, 44, 45, 46, 47, 48, 49, 50, 51, 52, 53, 54] (by decide +kernel) (by decide +kernel)
set_option maxRecDepth 20000 in
theorem gX6_back_X6_takes : GoodIn wsX6_back (wsV RX6 204 RX6 yX6_takes wsX6_takes) := goodIn_app (goodIn_of _ (by decide +kernel)) ggX6_back_X6_takes
set_option maxRecDepth 20000 in
theorem ggX6_count_X6_in : GoodIn wsX6_count wsX6_in := goodIn_r _ [13] (by decide +kernel) (by decide +kernel)
set_option maxRecDepth 20000 in
theorem gX6_count_X6_in : GoodIn wsX6_count (va_wsS RX6 87 yX6_in wsX6_in) := goodIn_app (goodIn_of _ (by decide +kernel)) ggX6_count_X6_in
set_option maxRecDepth 20000 in
theorem ggX6_count_X6_countOfThose : GoodIn wsX6_count wsX6_countOfThose := goodIn_r _ [17, 1, 18, 19, 20, 21, 22, 23, 24, 25, 26, 27, 28, 29, 30, 31, 32, 33, 34, 35, 36, 37, 38, 39, 40, 41, 42, 43, 44, 45, 46, 47, 48, 49, 50, 51, 52, 53, 54, 55] (by decide +kernel) (by decide +kernel)
set_option maxRecDepth 20000 in
theorem gX6_count_X6_countOfThose : GoodIn wsX6_count (wsV RX6 172 RX6 yX6_countOfThose wsX6_countOfThose) := goodIn_app (goodIn_of _ (by decide +kernel)) ggX6_count_X6_countOfThose
theorem dX6_in_0 : decode cX6_in 0 = .ok (.iload_n 0, 1) := by decide +kernel
theorem dX6_in_1 : decode cX6_in 1 = .ok (.iload_n 1, 1) := by decide +kernel
theorem dX6_in_2 : decode cX6_in 2 = .ok (.if_icmp .lt 12, 3) := by decide +kernel
theorem dX6_in_5 : decode cX6_in 5 = .ok (.iload_n 0, 1) := by decide +kernel
theorem dX6_in_6 : decode cX6_in 6 = .ok (.iload_n 2, 1) := by decide +kernel
theorem dX6_in_7 : decode cX6_in 7 = .ok (.if_icmp .gt 7, 3) := by decide +kernel
theorem dX6_in_10 : decode cX6_in 10 = .ok (.iconst 1, 1) := by decide +kernel
theorem dX6_in_11 : decode cX6_in 11 = .ok (.goto 4, 3) := by decide +kernel
theorem dX6_in_14 : decode cX6_in 14 = .ok (.iconst 0, 1) := by decide +kernel
theorem dX6_in_15 : decode cX6_in 15 = .ok (.ireturn, 1) := by decide +kernel
theorem dX6_has_0 : decode cX6_has 0 = .ok (.iload_n 0, 1) := by decide +kernel
theorem dX6_has_1 : decode cX6_has 1 = .ok (.iload_n 1, 1) := by decide +kernel
theorem dX6_has_2 : decode cX6_has 2 = .ok (.ishr, 1) := by decide +kernel
theorem dX6_has_3 : decode cX6_has 3 = .ok (.iconst 1, 1) := by decide +kernel
theorem dX6_has_4 : decode cX6_has 4 = .ok (.iand, 1) := by decide +kernel
theorem dX6_has_5 : decode cX6_has 5 = .ok (.iconst 1, 1) := by decide +kernel
theorem dX6_has_6 : decode cX6_has 6 = .ok (.if_icmp .ne 7, 3) := by decide +kernel
theorem dX6_has_9 : decode cX6_has 9 = .ok (.iconst 1, 1) := by decide +kernel
theorem dX6_has_10 : decode cX6_has 10 = .ok (.goto 4, 3) := by decide +kernel
theorem dX6_has_13 : decode cX6_has 13 = .ok (.iconst 0, 1) := by decide +kernel
theorem dX6_has_14 : decode cX6_has 14 = .ok (.ireturn, 1) := by decide +kernel
theorem dX6_greater_0 : decode cX6_greater 0 = .ok (.iload_n 0, 1) := by decide +kernel
theorem dX6_greater_1 : decode cX6_greater 1 = .ok (.iload_n 1, 1) := by decide +kernel
theorem dX6_greater_2 : decode cX6_greater 2 = .ok (.if_icmp .le 7, 3) := by decide +kernel
theorem dX6_greater_5 : decode cX6_greater 5 = .ok (.iload_n 0, 1) := by decide +kernel
theorem dX6_greater_6 : decode cX6_greater 6 = .ok (.goto 4, 3) := by decide +kernel
theorem dX6_greater_9 : decode cX6_greater 9 = .ok (.iload_n 1, 1) := by decide +kernel
theorem dX6_greater_10 : decode cX6_greater 10 = .ok (.ireturn, 1) := by decide +kernel
theorem dX6_init_0 : decode cX6_init 0 = .ok (.aload_n 0, 1) := by decide +kernel
theorem dX6_init_1 : decode cX6_init 1 = .ok (.invokespecial 1, 3) := by decide +kernel
theorem dX6_init_4 : decode cX6_init 4 = .ok (.aload_n 0, 1) := by decide +kernel
theorem dX6_init_5 : decode cX6_init 5 = .ok (.bipush 8, 2) := by decide +kernel
theorem dX6_init_7 : decode cX6_init 7 = .ok (.newarray .int, 2) := by decide +kernel
theorem dX6_init_9 : decode cX6_init 9 = .ok (.putfield 7, 3) := by decide +kernel
theorem dX6_init_12 : decode cX6_init 12 = .ok (.aload_n 0, 1) := by decide +kernel
theorem dX6_init_13 : decode cX6_init 13 = .ok (.bipush 8, 2) := by decide +kernel
theorem dX6_init_15 : decode cX6_init 15 = .ok (.newarray .int, 2) := by decide +kernel
theorem dX6_init_17 : decode cX6_init 17 = .ok (.putfield 13, 3) := by decide +kernel
theorem dX6_init_20 : decode cX6_init 20 = .ok (.aload_n 0, 1) := by decide +kernel
theorem dX6_init_21 : decode cX6_init 21 = .ok (.bipush 8, 2) := by decide +kernel
theorem dX6_init_23 : decode cX6_init 23 = .ok (.newarray .int, 2) := by decide +kernel
theorem dX6_init_25 : decode cX6_init 25 = .ok (.putfield 16, 3) := by decide +kernel
theorem dX6_init_28 : decode cX6_init 28 = .ok (.aload_n 0, 1) := by decide +kernel
theorem dX6_init_29 : decode cX6_init 29 = .ok (.bipush 8, 2) := by decide +kernel
theorem dX6_init_31 : decode cX6_init 31 = .ok (.newarray .int, 2) := by decide +kernel
theorem dX6_init_33 : decode cX6_init 33 = .ok (.putfield 19, 3) := by decide +kernel
theorem dX6_init_36 : decode cX6_init 36 = .ok (.aload_n 0, 1) := by decide +kernel
theorem dX6_init_37 : decode cX6_init 37 = .ok (.bipush 8, 2) := by decide +kernel
theorem dX6_init_39 : decode cX6_init 39 = .ok (.newarray .int, 2) := by decide +kernel
theorem dX6_init_41 : decode cX6_init 41 = .ok (.putfield 22, 3) := by decide +kernel
theorem dX6_init_44 : decode cX6_init 44 = .ok (.aload_n 0, 1) := by decide +kernel
theorem dX6_init_45 : decode cX6_init 45 = .ok (.bipush 8, 2) := by decide +kernel
theorem dX6_init_47 : decode cX6_init 47 = .ok (.newarray .int, 2) := by decide +kernel
theorem dX6_init_49 : decode cX6_init 49 = .ok (.putfield 25, 3) := by decide +kernel
theorem dX6_init_52 : decode cX6_init 52 = .ok (.aload_n 0, 1) := by decide +kernel
theorem dX6_init_53 : decode cX6_init 53 = .ok (.bipush 8, 2) := by decide +kernel
theorem dX6_init_55 : decode cX6_init 55 = .ok (.newarray .int, 2) := by decide +kernel
theorem dX6_init_57 : decode cX6_init 57 = .ok (.putfield 28, 3) := by decide +kernel
theorem dX6_init_60 : decode cX6_init 60 = .ok (.aload_n 0, 1) := by decide +kernel
theorem dX6_init_61 : decode cX6_init 61 = .ok (.bipush 8, 2) := by decide +kernel
theorem dX6_init_63 : decode cX6_init 63 = .ok (.newarray .int, 2) := by decide +kernel
theorem dX6_init_65 : decode cX6_init 65 = .ok (.putfield 31, 3) := by decide +kernel
theorem dX6_init_68 : decode cX6_init 68 = .ok (.aload_n 0, 1) := by decide +kernel
theorem dX6_init_69 : decode cX6_init 69 = .ok (.bipush 8, 2) := by decide +kernel
theorem dX6_init_71 : decode cX6_init 71 = .ok (.newarray .int, 2) := by decide +kernel
theorem dX6_init_73 : decode cX6_init 73 = .ok (.putfield 34, 3) := by decide +kernel
theorem dX6_init_76 : decode cX6_init 76 = .ok (.aload_n 0, 1) := by decide +kernel
theorem dX6_init_77 : decode cX6_init 77 = .ok (.bipush 6, 2) := by decide +kernel
theorem dX6_init_79 : decode cX6_init 79 = .ok (.newarray .int, 2) := by decide +kernel
theorem dX6_init_81 : decode cX6_init 81 = .ok (.putfield 37, 3) := by decide +kernel
theorem dX6_init_84 : decode cX6_init 84 = .ok (.aload_n 0, 1) := by decide +kernel
theorem dX6_init_85 : decode cX6_init 85 = .ok (.bipush 6, 2) := by decide +kernel
theorem dX6_init_87 : decode cX6_init 87 = .ok (.newarray .int, 2) := by decide +kernel
theorem dX6_init_89 : decode cX6_init 89 = .ok (.putfield 40, 3) := by decide +kernel
theorem dX6_init_92 : decode cX6_init 92 = .ok (.aload_n 0, 1) := by decide +kernel
theorem dX6_init_93 : decode cX6_init 93 = .ok (.bipush 6, 2) := by decide +kernel
theorem dX6_init_95 : decode cX6_init 95 = .ok (.newarray .int, 2) := by decide +kernel
theorem dX6_init_97 : decode cX6_init 97 = .ok (.putfield 43, 3) := by decide +kernel
theorem dX6_init_100 : decode cX6_init 100 = .ok (.aload_n 0, 1) := by decide +kernel
theorem dX6_init_101 : decode cX6_init 101 = .ok (.sipush 200, 3) := by decide +kernel
theorem dX6_init_104 : decode cX6_init 104 = .ok (.newarray .int, 2) := by decide +kernel
theorem dX6_init_106 : decode cX6_init 106 = .ok (.putfield 46, 3) := by decide +kernel
theorem dX6_init_109 : decode cX6_init 109 = .ok (.aload_n 0, 1) := by decide +kernel
theorem dX6_init_110 : decode cX6_init 110 = .ok (.bipush 8, 2) := by decide +kernel
theorem dX6_init_112 : decode cX6_init 112 = .ok (.newarray .int, 2) := by decide +kernel
theorem dX6_init_114 : decode cX6_init 114 = .ok (.putfield 49, 3) := by decide +kernel
theorem dX6_init_117 : decode cX6_init 117 = .ok (.aload_n 0, 1) := by decide +kernel
theorem dX6_init_118 : decode cX6_init 118 = .ok (.bipush 8, 2) := by decide +kernel
theorem dX6_init_120 : decode cX6_init 120 = .ok (.newarray .int, 2) := by decide +kernel
theorem dX6_init_122 : decode cX6_init 122 = .ok (.putfield 52, 3) := by decide +kernel
theorem dX6_init_125 : decode cX6_init 125 = .ok (.aload_n 0, 1) := by decide +kernel
theorem dX6_init_126 : decode cX6_init 126 = .ok (.bipush 8, 2) := by decide +kernel
theorem dX6_init_128 : decode cX6_init 128 = .ok (.newarray .int, 2) := by decide +kernel
theorem dX6_init_130 : decode cX6_init 130 = .ok (.putfield 55, 3) := by decide +kernel
theorem dX6_init_133 : decode cX6_init 133 = .ok (.aload_n 0, 1) := by decide +kernel
theorem dX6_init_134 : decode cX6_init 134 = .ok (.bipush 8, 2) := by decide +kernel
theorem dX6_init_136 : decode cX6_init 136 = .ok (.newarray .int, 2) := by decide +kernel
theorem dX6_init_138 : decode cX6_init 138 = .ok (.putfield 58, 3) := by decide +kernel
theorem dX6_init_141 : decode cX6_init 141 = .ok (.aload_n 0, 1) := by decide +kernel
theorem dX6_init_142 : decode cX6_init 142 = .ok (.bipush 8, 2) := by decide +kernel
theorem dX6_init_144 : decode cX6_init 144 = .ok (.newarray .int, 2) := by decide +kernel
theorem dX6_init_146 : decode cX6_init 146 = .ok (.putfield 61, 3) := by decide +kernel
theorem dX6_init_149 : decode cX6_init 149 = .ok (.aload_n 0, 1) := by decide +kernel
theorem dX6_init_150 : decode cX6_init 150 = .ok (.sipush 352, 3) := by decide +kernel
theorem dX6_init_153 : decode cX6_init 153 = .ok (.newarray .int, 2) := by decide +kernel
theorem dX6_init_155 : decode cX6_init 155 = .ok (.putfield 64, 3) := by decide +kernel
theorem dX6_init_158 : decode cX6_init 158 = .ok (.aload_n 0, 1) := by decide +kernel
theorem dX6_init_159 : decode cX6_init 159 = .ok (.bipush 44, 2) := by decide +kernel
theorem dX6_init_161 : decode cX6_init 161 = .ok (.newarray .int, 2) := by decide +kernel
theorem dX6_init_163 : decode cX6_init 163 = .ok (.putfield 67, 3) := by decide +kernel
theorem dX6_init_166 : decode cX6_init 166 = .ok (.aload_n 0, 1) := by decide +kernel
theorem dX6_init_167 : decode cX6_init 167 = .ok (.bipush 88, 2) := by decide +kernel
theorem dX6_init_169 : decode cX6_init 169 = .ok (.newarray .int, 2) := by decide +kernel
theorem dX6_init_171 : decode cX6_init 171 = .ok (.putfield 70, 3) := by decide +kernel
theorem dX6_init_174 : decode cX6_init 174 = .ok (.aload_n 0, 1) := by decide +kernel
theorem dX6_init_175 : decode cX6_init 175 = .ok (.iconst 0, 1) := by decide +kernel
theorem dX6_init_176 : decode cX6_init 176 = .ok (.iconst 0, 1) := by decide +kernel
theorem dX6_init_177 : decode cX6_init 177 = .ok (.bipush 6, 2) := by decide +kernel
theorem dX6_init_179 : decode cX6_init 179 = .ok (.bipush 10, 2) := by decide +kernel
theorem dX6_init_181 : decode cX6_init 181 = .ok (.invokevirtual 73, 3) := by decide +kernel
theorem dX6_init_184 : decode cX6_init 184 = .ok (.aload_n 0, 1) := by decide +kernel
theorem dX6_init_185 : decode cX6_init 185 = .ok (.iconst 1, 1) := by decide +kernel
theorem dX6_init_186 : decode cX6_init 186 = .ok (.iconst 0, 1) := by decide +kernel
theorem dX6_init_187 : decode cX6_init 187 = .ok (.iconst 4, 1) := by decide +kernel
theorem dX6_init_188 : decode cX6_init 188 = .ok (.bipush 25, 2) := by decide +kernel
theorem dX6_init_190 : decode cX6_init 190 = .ok (.invokevirtual 73, 3) := by decide +kernel
theorem dX6_init_193 : decode cX6_init 193 = .ok (.aload_n 0, 1) := by decide +kernel
theorem dX6_init_194 : decode cX6_init 194 = .ok (.iconst 2, 1) := by decide +kernel
theorem dX6_init_195 : decode cX6_init 195 = .ok (.iconst 1, 1) := by decide +kernel
theorem dX6_init_196 : decode cX6_init 196 = .ok (.iconst 3, 1) := by decide +kernel
theorem dX6_init_197 : decode cX6_init 197 = .ok (.bipush 8, 2) := by decide +kernel
theorem dX6_init_199 : decode cX6_init 199 = .ok (.invokevirtual 73, 3) := by decide +kernel
theorem dX6_init_202 : decode cX6_init 202 = .ok (.aload_n 0, 1) := by decide +kernel
theorem dX6_init_203 : decode cX6_init 203 = .ok (.iconst 3, 1) := by decide +kernel
theorem dX6_init_204 : decode cX6_init 204 = .ok (.iconst 2, 1) := by decide +kernel
theorem dX6_init_205 : decode cX6_init 205 = .ok (.bipush 9, 2) := by decide +kernel
theorem dX6_init_207 : decode cX6_init 207 = .ok (.bipush 40, 2) := by decide +kernel
theorem dX6_init_209 : decode cX6_init 209 = .ok (.invokevirtual 73, 3) := by decide +kernel
theorem dX6_init_212 : decode cX6_init 212 = .ok (.aload_n 0, 1) := by decide +kernel
theorem dX6_init_213 : decode cX6_init 213 = .ok (.iconst 0, 1) := by decide +kernel
theorem dX6_init_214 : decode cX6_init 214 = .ok (.iconst 2, 1) := by decide +kernel
theorem dX6_init_215 : decode cX6_init 215 = .ok (.iconst 5, 1) := by decide +kernel
theorem dX6_init_216 : decode cX6_init 216 = .ok (.bipush 12, 2) := by decide +kernel
theorem dX6_init_218 : decode cX6_init 218 = .ok (.invokevirtual 73, 3) := by decide +kernel
theorem dX6_init_221 : decode cX6_init 221 = .ok (.aload_n 0, 1) := by decide +kernel
theorem dX6_init_222 : decode cX6_init 222 = .ok (.iconst 1, 1) := by decide +kernel
theorem dX6_init_223 : decode cX6_init 223 = .ok (.bipush 6, 2) := by decide +kernel
theorem dX6_init_225 : decode cX6_init 225 = .ok (.iconst 2, 1) := by decide +kernel
theorem dX6_init_226 : decode cX6_init 226 = .ok (.bipush 30, 2) := by decide +kernel
theorem dX6_init_228 : decode cX6_init 228 = .ok (.invokevirtual 73, 3) := by decide +kernel
theorem dX6_init_231 : decode cX6_init 231 = .ok (.aload_n 0, 1) := by decide +kernel
theorem dX6_init_232 : decode cX6_init 232 = .ok (.iconst 0, 1) := by decide +kernel
theorem dX6_init_233 : decode cX6_init 233 = .ok (.bipush 9, 2) := by decide +kernel
theorem dX6_init_235 : decode cX6_init 235 = .ok (.iconst 3, 1) := by decide +kernel
theorem dX6_init_236 : decode cX6_init 236 = .ok (.iconst 5, 1) := by decide +kernel
theorem dX6_init_237 : decode cX6_init 237 = .ok (.invokevirtual 73, 3) := by decide +kernel
theorem dX6_init_240 : decode cX6_init 240 = .ok (.aload_n 0, 1) := by decide +kernel
theorem dX6_init_241 : decode cX6_init 241 = .ok (.iconst 1, 1) := by decide +kernel
theorem dX6_init_242 : decode cX6_init 242 = .ok (.putfield 77, 3) := by decide +kernel
theorem dX6_init_245 : decode cX6_init 245 = .ok (.aload_n 0, 1) := by decide +kernel
theorem dX6_init_246 : decode cX6_init 246 = .ok (.iconst 4, 1) := by decide +kernel
theorem dX6_init_247 : decode cX6_init 247 = .ok (.putfield 81, 3) := by decide +kernel
theorem dX6_init_250 : decode cX6_init 250 = .ok (.return_, 1) := by decide +kernel
theorem dX6_first_0 : decode cX6_first 0 = .ok (.aload_n 0, 1) := by decide +kernel
theorem dX6_first_1 : decode cX6_first 1 = .ok (.getfield 7, 3) := by decide +kernel
theorem dX6_first_4 : decode cX6_first 4 = .ok (.aload_n 0, 1) := by decide +kernel
theorem dX6_first_5 : decode cX6_first 5 = .ok (.getfield 84, 3) := by decide +kernel
theorem dX6_first_8 : decode cX6_first 8 = .ok (.iload_n 1, 1) := by decide +kernel
theorem dX6_first_9 : decode cX6_first 9 = .ok (.iastore, 1) := by decide +kernel
theorem dX6_first_10 : decode cX6_first 10 = .ok (.aload_n 0, 1) := by decide +kernel
theorem dX6_first_11 : decode cX6_first 11 = .ok (.getfield 13, 3) := by decide +kernel
theorem dX6_first_14 : decode cX6_first 14 = .ok (.aload_n 0, 1) := by decide +kernel
theorem dX6_first_15 : decode cX6_first 15 = .ok (.getfield 84, 3) := by decide +kernel
theorem dX6_first_18 : decode cX6_first 18 = .ok (.iload_n 2, 1) := by decide +kernel
theorem dX6_first_19 : decode cX6_first 19 = .ok (.iastore, 1) := by decide +kernel
theorem dX6_first_20 : decode cX6_first 20 = .ok (.aload_n 0, 1) := by decide +kernel
theorem dX6_first_21 : decode cX6_first 21 = .ok (.getfield 16, 3) := by decide +kernel
theorem dX6_first_24 : decode cX6_first 24 = .ok (.aload_n 0, 1) := by decide +kernel
theorem dX6_first_25 : decode cX6_first 25 = .ok (.getfield 84, 3) := by decide +kernel
theorem dX6_first_28 : decode cX6_first 28 = .ok (.iload_n 3, 1) := by decide +kernel
theorem dX6_first_29 : decode cX6_first 29 = .ok (.iastore, 1) := by decide +kernel
theorem dX6_first_30 : decode cX6_first 30 = .ok (.aload_n 0, 1) := by decide +kernel
theorem dX6_first_31 : decode cX6_first 31 = .ok (.getfield 19, 3) := by decide +kernel
theorem dX6_first_34 : decode cX6_first 34 = .ok (.aload_n 0, 1) := by decide +kernel
theorem dX6_first_35 : decode cX6_first 35 = .ok (.getfield 84, 3) := by decide +kernel
theorem dX6_first_38 : decode cX6_first 38 = .ok (.iload 4, 2) := by decide +kernel
theorem dX6_first_40 : decode cX6_first 40 = .ok (.iastore, 1) := by decide +kernel
theorem dX6_first_41 : decode cX6_first 41 = .ok (.aload_n 0, 1) := by decide +kernel
theorem dX6_first_42 : decode cX6_first 42 = .ok (.dup, 1) := by decide +kernel
theorem dX6_first_43 : decode cX6_first 43 = .ok (.getfield 84, 3) := by decide +kernel
theorem dX6_first_46 : decode cX6_first 46 = .ok (.iconst 1, 1) := by decide +kernel
theorem dX6_first_47 : decode cX6_first 47 = .ok (.iadd, 1) := by decide +kernel
theorem dX6_first_48 : decode cX6_first 48 = .ok (.putfield 84, 3) := by decide +kernel
theorem dX6_first_51 : decode cX6_first 51 = .ok (.return_, 1) := by decide +kernel
theorem dX6_isOne_0 : decode cX6_isOne 0 = .ok (.iload_n 1, 1) := by decide +kernel
theorem dX6_isOne_1 : decode cX6_isOne 1 = .ok (.iconst 0, 1) := by decide +kernel
theorem dX6_isOne_2 : decode cX6_isOne 2 = .ok (.aload_n 0, 1) := by decide +kernel
theorem dX6_isOne_3 : decode cX6_isOne 3 = .ok (.getfield 84, 3) := by decide +kernel
theorem dX6_isOne_6 : decode cX6_isOne 6 = .ok (.iconst 1, 1) := by decide +kernel
theorem dX6_isOne_7 : decode cX6_isOne 7 = .ok (.isub, 1) := by decide +kernel
theorem dX6_isOne_8 : decode cX6_isOne 8 = .ok (.invokestatic 87, 3) := by decide +kernel
theorem dX6_isOne_11 : decode cX6_isOne 11 = .ok (.ireturn, 1) := by decide +kernel
theorem dX6_write_0 : decode cX6_write 0 = .ok (.iload_n 1, 1) := by decide +kernel
theorem dX6_write_1 : decode cX6_write 1 = .ok (.bipush 32, 2) := by decide +kernel
theorem dX6_write_3 : decode cX6_write 3 = .ok (.bipush 126, 2) := by decide +kernel
theorem dX6_write_5 : decode cX6_write 5 = .ok (.invokestatic 87, 3) := by decide +kernel
theorem dX6_write_8 : decode cX6_write 8 = .ok (.ifCond .ne 5, 3) := by decide +kernel
theorem dX6_write_11 : decode cX6_write 11 = .ok (.iconst (-1), 1) := by decide +kernel
theorem dX6_write_12 : decode cX6_write 12 = .ok (.ireturn, 1) := by decide +kernel
theorem dX6_write_13 : decode cX6_write 13 = .ok (.aload_n 0, 1) := by decide +kernel
theorem dX6_write_14 : decode cX6_write 14 = .ok (.getfield 91, 3) := by decide +kernel
theorem dX6_write_17 : decode cX6_write 17 = .ok (.sipush 200, 3) := by decide +kernel
theorem dX6_write_20 : decode cX6_write 20 = .ok (.if_icmp .ne 6, 3) := by decide +kernel
theorem dX6_write_23 : decode cX6_write 23 = .ok (.bipush (-3), 2) := by decide +kernel
theorem dX6_write_25 : decode cX6_write 25 = .ok (.ireturn, 1) := by decide +kernel
theorem dX6_write_26 : decode cX6_write 26 = .ok (.aload_n 0, 1) := by decide +kernel
theorem dX6_write_27 : decode cX6_write 27 = .ok (.getfield 46, 3) := by decide +kernel
theorem dX6_write_30 : decode cX6_write 30 = .ok (.aload_n 0, 1) := by decide +kernel
theorem dX6_write_31 : decode cX6_write 31 = .ok (.getfield 91, 3) := by decide +kernel
theorem dX6_write_34 : decode cX6_write 34 = .ok (.iload_n 1, 1) := by decide +kernel
theorem dX6_write_35 : decode cX6_write 35 = .ok (.iastore, 1) := by decide +kernel
theorem dX6_write_36 : decode cX6_write 36 = .ok (.aload_n 0, 1) := by decide +kernel
theorem dX6_write_37 : decode cX6_write 37 = .ok (.dup, 1) := by decide +kernel
theorem dX6_write_38 : decode cX6_write 38 = .ok (.getfield 91, 3) := by decide +kernel
theorem dX6_write_41 : decode cX6_write 41 = .ok (.iconst 1, 1) := by decide +kernel
theorem dX6_write_42 : decode cX6_write 42 = .ok (.iadd, 1) := by decide +kernel
theorem dX6_write_43 : decode cX6_write 43 = .ok (.putfield 91, 3) := by decide +kernel
theorem dX6_write_46 : decode cX6_write 46 = .ok (.aload_n 0, 1) := by decide +kernel
theorem dX6_write_47 : decode cX6_write 47 = .ok (.getfield 91, 3) := by decide +kernel
theorem dX6_write_50 : decode cX6_write 50 = .ok (.ireturn, 1) := by decide +kernel
theorem dX6_wipe_0 : decode cX6_wipe 0 = .ok (.aload_n 0, 1) := by decide +kernel
theorem dX6_wipe_1 : decode cX6_wipe 1 = .ok (.getfield 91, 3) := by decide +kernel
theorem dX6_wipe_4 : decode cX6_wipe 4 = .ok (.istore_n 1, 1) := by decide +kernel
theorem dX6_wipe_5 : decode cX6_wipe 5 = .ok (.aload_n 0, 1) := by decide +kernel
theorem dX6_wipe_6 : decode cX6_wipe 6 = .ok (.iconst 0, 1) := by decide +kernel
theorem dX6_wipe_7 : decode cX6_wipe 7 = .ok (.putfield 91, 3) := by decide +kernel
theorem dX6_wipe_10 : decode cX6_wipe 10 = .ok (.iload_n 1, 1) := by decide +kernel
theorem dX6_wipe_11 : decode cX6_wipe 11 = .ok (.ireturn, 1) := by decide +kernel
theorem dX6_here_0 : decode cX6_here 0 = .ok (.aload_n 0, 1) := by decide +kernel
theorem dX6_here_1 : decode cX6_here 1 = .ok (.getfield 94, 3) := by decide +kernel
theorem dX6_here_4 : decode cX6_here 4 = .ok (.aload_n 0, 1) := by decide +kernel
theorem dX6_here_5 : decode cX6_here 5 = .ok (.getfield 91, 3) := by decide +kernel
theorem dX6_here_8 : decode cX6_here 8 = .ok (.if_icmp .ge 15, 3) := by decide +kernel
theorem dX6_here_11 : decode cX6_here 11 = .ok (.aload_n 0, 1) := by decide +kernel
theorem dX6_here_12 : decode cX6_here 12 = .ok (.getfield 46, 3) := by decide +kernel
theorem dX6_here_15 : decode cX6_here 15 = .ok (.aload_n 0, 1) := by decide +kernel
theorem dX6_here_16 : decode cX6_here 16 = .ok (.getfield 94, 3) := by decide +kernel
theorem dX6_here_19 : decode cX6_here 19 = .ok (.iaload, 1) := by decide +kernel
theorem dX6_here_20 : decode cX6_here 20 = .ok (.goto 4, 3) := by decide +kernel
theorem dX6_here_23 : decode cX6_here 23 = .ok (.iconst 0, 1) := by decide +kernel
theorem dX6_here_24 : decode cX6_here 24 = .ok (.ireturn, 1) := by decide +kernel
theorem dX6_isFigure_0 : decode cX6_isFigure 0 = .ok (.aload_n 0, 1) := by decide +kernel
theorem dX6_isFigure_1 : decode cX6_isFigure 1 = .ok (.invokevirtual 97, 3) := by decide +kernel
theorem dX6_isFigure_4 : decode cX6_isFigure 4 = .ok (.bipush 48, 2) := by decide +kernel
theorem dX6_isFigure_6 : decode cX6_isFigure 6 = .ok (.bipush 57, 2) := by decide +kernel
theorem dX6_isFigure_8 : decode cX6_isFigure 8 = .ok (.invokestatic 87, 3) := by decide +kernel
theorem dX6_isFigure_11 : decode cX6_isFigure 11 = .ok (.ireturn, 1) := by decide +kernel
theorem dX6_number_0 : decode cX6_number 0 = .ok (.aload_n 0, 1) := by decide +kernel
theorem dX6_number_1 : decode cX6_number 1 = .ok (.invokevirtual 101, 3) := by decide +kernel
theorem dX6_number_4 : decode cX6_number 4 = .ok (.ifCond .ne 5, 3) := by decide +kernel
theorem dX6_number_7 : decode cX6_number 7 = .ok (.iconst 0, 1) := by decide +kernel
theorem dX6_number_8 : decode cX6_number 8 = .ok (.ireturn, 1) := by decide +kernel
theorem dX6_number_9 : decode cX6_number 9 = .ok (.aload_n 0, 1) := by decide +kernel
theorem dX6_number_10 : decode cX6_number 10 = .ok (.invokevirtual 97, 3) := by decide +kernel
theorem dX6_number_13 : decode cX6_number 13 = .ok (.bipush 48, 2) := by decide +kernel
theorem dX6_number_15 : decode cX6_number 15 = .ok (.isub, 1) := by decide +kernel
theorem dX6_number_16 : decode cX6_number 16 = .ok (.istore 4, 2) := by decide +kernel
theorem dX6_number_18 : decode cX6_number 18 = .ok (.aload_n 0, 1) := by decide +kernel
theorem dX6_number_19 : decode cX6_number 19 = .ok (.dup, 1) := by decide +kernel
theorem dX6_number_20 : decode cX6_number 20 = .ok (.getfield 94, 3) := by decide +kernel
theorem dX6_number_23 : decode cX6_number 23 = .ok (.iconst 1, 1) := by decide +kernel
theorem dX6_number_24 : decode cX6_number 24 = .ok (.iadd, 1) := by decide +kernel
theorem dX6_number_25 : decode cX6_number 25 = .ok (.putfield 94, 3) := by decide +kernel
theorem dX6_number_28 : decode cX6_number 28 = .ok (.aload_n 0, 1) := by decide +kernel
theorem dX6_number_29 : decode cX6_number 29 = .ok (.invokevirtual 101, 3) := by decide +kernel
theorem dX6_number_32 : decode cX6_number 32 = .ok (.ifCond .eq 28, 3) := by decide +kernel
theorem dX6_number_35 : decode cX6_number 35 = .ok (.bipush 10, 2) := by decide +kernel
theorem dX6_number_37 : decode cX6_number 37 = .ok (.iload 4, 2) := by decide +kernel
theorem dX6_number_39 : decode cX6_number 39 = .ok (.imul, 1) := by decide +kernel
theorem dX6_number_40 : decode cX6_number 40 = .ok (.aload_n 0, 1) := by decide +kernel
theorem dX6_number_41 : decode cX6_number 41 = .ok (.invokevirtual 97, 3) := by decide +kernel
theorem dX6_number_44 : decode cX6_number 44 = .ok (.iadd, 1) := by decide +kernel
theorem dX6_number_45 : decode cX6_number 45 = .ok (.bipush 48, 2) := by decide +kernel
theorem dX6_number_47 : decode cX6_number 47 = .ok (.isub, 1) := by decide +kernel
theorem dX6_number_48 : decode cX6_number 48 = .ok (.istore 4, 2) := by decide +kernel
theorem dX6_number_50 : decode cX6_number 50 = .ok (.aload_n 0, 1) := by decide +kernel
theorem dX6_number_51 : decode cX6_number 51 = .ok (.dup, 1) := by decide +kernel
theorem dX6_number_52 : decode cX6_number 52 = .ok (.getfield 94, 3) := by decide +kernel
theorem dX6_number_55 : decode cX6_number 55 = .ok (.iconst 1, 1) := by decide +kernel
theorem dX6_number_56 : decode cX6_number 56 = .ok (.iadd, 1) := by decide +kernel
theorem dX6_number_57 : decode cX6_number 57 = .ok (.putfield 94, 3) := by decide +kernel
theorem dX6_number_60 : decode cX6_number 60 = .ok (.aload_n 0, 1) := by decide +kernel
theorem dX6_number_61 : decode cX6_number 61 = .ok (.iload 4, 2) := by decide +kernel
theorem dX6_number_63 : decode cX6_number 63 = .ok (.putfield 105, 3) := by decide +kernel
theorem dX6_number_66 : decode cX6_number 66 = .ok (.aload_n 0, 1) := by decide +kernel
theorem dX6_number_67 : decode cX6_number 67 = .ok (.invokevirtual 97, 3) := by decide +kernel
theorem dX6_number_70 : decode cX6_number 70 = .ok (.iload_n 3, 1) := by decide +kernel
theorem dX6_number_71 : decode cX6_number 71 = .ok (.if_icmp .ne 13, 3) := by decide +kernel
theorem dX6_number_74 : decode cX6_number 74 = .ok (.iload 4, 2) := by decide +kernel
theorem dX6_number_76 : decode cX6_number 76 = .ok (.iload_n 1, 1) := by decide +kernel
theorem dX6_number_77 : decode cX6_number 77 = .ok (.iload_n 2, 1) := by decide +kernel
theorem dX6_number_78 : decode cX6_number 78 = .ok (.invokestatic 87, 3) := by decide +kernel
theorem dX6_number_81 : decode cX6_number 81 = .ok (.ifCond .ne 5, 3) := by decide +kernel
theorem dX6_number_84 : decode cX6_number 84 = .ok (.iconst 0, 1) := by decide +kernel
theorem dX6_number_85 : decode cX6_number 85 = .ok (.ireturn, 1) := by decide +kernel
theorem dX6_number_86 : decode cX6_number 86 = .ok (.aload_n 0, 1) := by decide +kernel
theorem dX6_number_87 : decode cX6_number 87 = .ok (.dup, 1) := by decide +kernel
theorem dX6_number_88 : decode cX6_number 88 = .ok (.getfield 94, 3) := by decide +kernel
theorem dX6_number_91 : decode cX6_number 91 = .ok (.iconst 1, 1) := by decide +kernel
theorem dX6_number_92 : decode cX6_number 92 = .ok (.iadd, 1) := by decide +kernel
theorem dX6_number_93 : decode cX6_number 93 = .ok (.putfield 94, 3) := by decide +kernel
theorem dX6_number_96 : decode cX6_number 96 = .ok (.iconst 1, 1) := by decide +kernel
theorem dX6_number_97 : decode cX6_number 97 = .ok (.ireturn, 1) := by decide +kernel
theorem dX6_readsCaller_0 : decode cX6_readsCaller 0 = .ok (.aload_n 0, 1) := by decide +kernel
theorem dX6_readsCaller_1 : decode cX6_readsCaller 1 = .ok (.getfield 108, 3) := by decide +kernel
theorem dX6_readsCaller_4 : decode cX6_readsCaller 4 = .ok (.bipush 8, 2) := by decide +kernel
theorem dX6_readsCaller_6 : decode cX6_readsCaller 6 = .ok (.if_icmp .eq 14, 3) := by decide +kernel
theorem dX6_readsCaller_9 : decode cX6_readsCaller 9 = .ok (.aload_n 0, 1) := by decide +kernel
theorem dX6_readsCaller_10 : decode cX6_readsCaller 10 = .ok (.iconst 0, 1) := by decide +kernel
theorem dX6_readsCaller_11 : decode cX6_readsCaller 11 = .ok (.iconst 3, 1) := by decide +kernel
theorem dX6_readsCaller_12 : decode cX6_readsCaller 12 = .ok (.bipush 44, 2) := by decide +kernel
theorem dX6_readsCaller_14 : decode cX6_readsCaller 14 = .ok (.invokevirtual 111, 3) := by decide +kernel
theorem dX6_readsCaller_17 : decode cX6_readsCaller 17 = .ok (.ifCond .ne 5, 3) := by decide +kernel
theorem dX6_readsCaller_20 : decode cX6_readsCaller 20 = .ok (.iconst 0, 1) := by decide +kernel
theorem dX6_readsCaller_21 : decode cX6_readsCaller 21 = .ok (.ireturn, 1) := by decide +kernel
theorem dX6_readsCaller_22 : decode cX6_readsCaller 22 = .ok (.aload_n 0, 1) := by decide +kernel
theorem dX6_readsCaller_23 : decode cX6_readsCaller 23 = .ok (.getfield 49, 3) := by decide +kernel
theorem dX6_readsCaller_26 : decode cX6_readsCaller 26 = .ok (.aload_n 0, 1) := by decide +kernel
theorem dX6_readsCaller_27 : decode cX6_readsCaller 27 = .ok (.getfield 108, 3) := by decide +kernel
theorem dX6_readsCaller_30 : decode cX6_readsCaller 30 = .ok (.aload_n 0, 1) := by decide +kernel
theorem dX6_readsCaller_31 : decode cX6_readsCaller 31 = .ok (.getfield 105, 3) := by decide +kernel
theorem dX6_readsCaller_34 : decode cX6_readsCaller 34 = .ok (.iastore, 1) := by decide +kernel
theorem dX6_readsCaller_35 : decode cX6_readsCaller 35 = .ok (.aload_n 0, 1) := by decide +kernel
theorem dX6_readsCaller_36 : decode cX6_readsCaller 36 = .ok (.iconst 0, 1) := by decide +kernel
theorem dX6_readsCaller_37 : decode cX6_readsCaller 37 = .ok (.bipush 40, 2) := by decide +kernel
theorem dX6_readsCaller_39 : decode cX6_readsCaller 39 = .ok (.bipush 44, 2) := by decide +kernel
theorem dX6_readsCaller_41 : decode cX6_readsCaller 41 = .ok (.invokevirtual 111, 3) := by decide +kernel
theorem dX6_readsCaller_44 : decode cX6_readsCaller 44 = .ok (.ifCond .ne 5, 3) := by decide +kernel
theorem dX6_readsCaller_47 : decode cX6_readsCaller 47 = .ok (.iconst 0, 1) := by decide +kernel
theorem dX6_readsCaller_48 : decode cX6_readsCaller 48 = .ok (.ireturn, 1) := by decide +kernel
theorem dX6_readsCaller_49 : decode cX6_readsCaller 49 = .ok (.aload_n 0, 1) := by decide +kernel
theorem dX6_readsCaller_50 : decode cX6_readsCaller 50 = .ok (.getfield 52, 3) := by decide +kernel
theorem dX6_readsCaller_53 : decode cX6_readsCaller 53 = .ok (.aload_n 0, 1) := by decide +kernel
theorem dX6_readsCaller_54 : decode cX6_readsCaller 54 = .ok (.getfield 108, 3) := by decide +kernel
theorem dX6_readsCaller_57 : decode cX6_readsCaller 57 = .ok (.aload_n 0, 1) := by decide +kernel
theorem dX6_readsCaller_58 : decode cX6_readsCaller 58 = .ok (.getfield 105, 3) := by decide +kernel
theorem dX6_readsCaller_61 : decode cX6_readsCaller 61 = .ok (.iastore, 1) := by decide +kernel
theorem dX6_readsCaller_62 : decode cX6_readsCaller 62 = .ok (.aload_n 0, 1) := by decide +kernel
theorem dX6_readsCaller_63 : decode cX6_readsCaller 63 = .ok (.iconst 1, 1) := by decide +kernel
theorem dX6_readsCaller_64 : decode cX6_readsCaller 64 = .ok (.bipush 30, 2) := by decide +kernel
theorem dX6_readsCaller_66 : decode cX6_readsCaller 66 = .ok (.bipush 44, 2) := by decide +kernel
theorem dX6_readsCaller_68 : decode cX6_readsCaller 68 = .ok (.invokevirtual 111, 3) := by decide +kernel
theorem dX6_readsCaller_71 : decode cX6_readsCaller 71 = .ok (.ifCond .ne 5, 3) := by decide +kernel
theorem dX6_readsCaller_74 : decode cX6_readsCaller 74 = .ok (.iconst 0, 1) := by decide +kernel
theorem dX6_readsCaller_75 : decode cX6_readsCaller 75 = .ok (.ireturn, 1) := by decide +kernel
theorem dX6_readsCaller_76 : decode cX6_readsCaller 76 = .ok (.aload_n 0, 1) := by decide +kernel
theorem dX6_readsCaller_77 : decode cX6_readsCaller 77 = .ok (.getfield 55, 3) := by decide +kernel
theorem dX6_readsCaller_80 : decode cX6_readsCaller 80 = .ok (.aload_n 0, 1) := by decide +kernel
theorem dX6_readsCaller_81 : decode cX6_readsCaller 81 = .ok (.getfield 108, 3) := by decide +kernel
theorem dX6_readsCaller_84 : decode cX6_readsCaller 84 = .ok (.aload_n 0, 1) := by decide +kernel
theorem dX6_readsCaller_85 : decode cX6_readsCaller 85 = .ok (.getfield 105, 3) := by decide +kernel
theorem dX6_readsCaller_88 : decode cX6_readsCaller 88 = .ok (.iastore, 1) := by decide +kernel
theorem dX6_readsCaller_89 : decode cX6_readsCaller 89 = .ok (.aload_n 0, 1) := by decide +kernel
theorem dX6_readsCaller_90 : decode cX6_readsCaller 90 = .ok (.iconst 0, 1) := by decide +kernel
theorem dX6_readsCaller_91 : decode cX6_readsCaller 91 = .ok (.bipush 60, 2) := by decide +kernel
theorem dX6_readsCaller_93 : decode cX6_readsCaller 93 = .ok (.bipush 59, 2) := by decide +kernel
theorem dX6_readsCaller_95 : decode cX6_readsCaller 95 = .ok (.invokevirtual 111, 3) := by decide +kernel
theorem dX6_readsCaller_98 : decode cX6_readsCaller 98 = .ok (.ifCond .ne 5, 3) := by decide +kernel
theorem dX6_readsCaller_101 : decode cX6_readsCaller 101 = .ok (.iconst 0, 1) := by decide +kernel
theorem dX6_readsCaller_102 : decode cX6_readsCaller 102 = .ok (.ireturn, 1) := by decide +kernel
theorem dX6_readsCaller_103 : decode cX6_readsCaller 103 = .ok (.aload_n 0, 1) := by decide +kernel
theorem dX6_readsCaller_104 : decode cX6_readsCaller 104 = .ok (.getfield 58, 3) := by decide +kernel
theorem dX6_readsCaller_107 : decode cX6_readsCaller 107 = .ok (.aload_n 0, 1) := by decide +kernel
theorem dX6_readsCaller_108 : decode cX6_readsCaller 108 = .ok (.getfield 108, 3) := by decide +kernel
theorem dX6_readsCaller_111 : decode cX6_readsCaller 111 = .ok (.aload_n 0, 1) := by decide +kernel
theorem dX6_readsCaller_112 : decode cX6_readsCaller 112 = .ok (.getfield 105, 3) := by decide +kernel
theorem dX6_readsCaller_115 : decode cX6_readsCaller 115 = .ok (.iastore, 1) := by decide +kernel
theorem dX6_readsCaller_116 : decode cX6_readsCaller 116 = .ok (.aload_n 0, 1) := by decide +kernel
theorem dX6_readsCaller_117 : decode cX6_readsCaller 117 = .ok (.dup, 1) := by decide +kernel
theorem dX6_readsCaller_118 : decode cX6_readsCaller 118 = .ok (.getfield 108, 3) := by decide +kernel
theorem dX6_readsCaller_121 : decode cX6_readsCaller 121 = .ok (.iconst 1, 1) := by decide +kernel
theorem dX6_readsCaller_122 : decode cX6_readsCaller 122 = .ok (.iadd, 1) := by decide +kernel
theorem dX6_readsCaller_123 : decode cX6_readsCaller 123 = .ok (.putfield 108, 3) := by decide +kernel
theorem dX6_readsCaller_126 : decode cX6_readsCaller 126 = .ok (.iconst 1, 1) := by decide +kernel
theorem dX6_readsCaller_127 : decode cX6_readsCaller 127 = .ok (.ireturn, 1) := by decide +kernel
theorem dX6_readsServe_0 : decode cX6_readsServe 0 = .ok (.aload_n 0, 1) := by decide +kernel
theorem dX6_readsServe_1 : decode cX6_readsServe 1 = .ok (.iconst 1, 1) := by decide +kernel
theorem dX6_readsServe_2 : decode cX6_readsServe 2 = .ok (.iconst 4, 1) := by decide +kernel
theorem dX6_readsServe_3 : decode cX6_readsServe 3 = .ok (.bipush 44, 2) := by decide +kernel
theorem dX6_readsServe_5 : decode cX6_readsServe 5 = .ok (.invokevirtual 111, 3) := by decide +kernel
theorem dX6_readsServe_8 : decode cX6_readsServe 8 = .ok (.ifCond .ne 5, 3) := by decide +kernel
theorem dX6_readsServe_11 : decode cX6_readsServe 11 = .ok (.iconst 0, 1) := by decide +kernel
theorem dX6_readsServe_12 : decode cX6_readsServe 12 = .ok (.ireturn, 1) := by decide +kernel
theorem dX6_readsServe_13 : decode cX6_readsServe 13 = .ok (.aload_n 0, 1) := by decide +kernel
theorem dX6_readsServe_14 : decode cX6_readsServe 14 = .ok (.getfield 105, 3) := by decide +kernel
theorem dX6_readsServe_17 : decode cX6_readsServe 17 = .ok (.istore_n 1, 1) := by decide +kernel
theorem dX6_readsServe_18 : decode cX6_readsServe 18 = .ok (.aload_n 0, 1) := by decide +kernel
theorem dX6_readsServe_19 : decode cX6_readsServe 19 = .ok (.iconst 1, 1) := by decide +kernel
theorem dX6_readsServe_20 : decode cX6_readsServe 20 = .ok (.bipush 20, 2) := by decide +kernel
theorem dX6_readsServe_22 : decode cX6_readsServe 22 = .ok (.bipush 59, 2) := by decide +kernel
theorem dX6_readsServe_24 : decode cX6_readsServe 24 = .ok (.invokevirtual 111, 3) := by decide +kernel
theorem dX6_readsServe_27 : decode cX6_readsServe 27 = .ok (.ifCond .ne 5, 3) := by decide +kernel
theorem dX6_readsServe_30 : decode cX6_readsServe 30 = .ok (.iconst 0, 1) := by decide +kernel
theorem dX6_readsServe_31 : decode cX6_readsServe 31 = .ok (.ireturn, 1) := by decide +kernel
theorem dX6_readsServe_32 : decode cX6_readsServe 32 = .ok (.aload_n 0, 1) := by decide +kernel
theorem dX6_readsServe_33 : decode cX6_readsServe 33 = .ok (.iload_n 1, 1) := by decide +kernel
theorem dX6_readsServe_34 : decode cX6_readsServe 34 = .ok (.putfield 114, 3) := by decide +kernel
theorem dX6_readsServe_37 : decode cX6_readsServe 37 = .ok (.aload_n 0, 1) := by decide +kernel
theorem dX6_readsServe_38 : decode cX6_readsServe 38 = .ok (.aload_n 0, 1) := by decide +kernel
theorem dX6_readsServe_39 : decode cX6_readsServe 39 = .ok (.getfield 105, 3) := by decide +kernel
theorem dX6_readsServe_42 : decode cX6_readsServe 42 = .ok (.putfield 117, 3) := by decide +kernel
theorem dX6_readsServe_45 : decode cX6_readsServe 45 = .ok (.iconst 1, 1) := by decide +kernel
theorem dX6_readsServe_46 : decode cX6_readsServe 46 = .ok (.ireturn, 1) := by decide +kernel
theorem dX6_readsRule_0 : decode cX6_readsRule 0 = .ok (.aload_n 0, 1) := by decide +kernel
theorem dX6_readsRule_1 : decode cX6_readsRule 1 = .ok (.iconst 0, 1) := by decide +kernel
theorem dX6_readsRule_2 : decode cX6_readsRule 2 = .ok (.iconst 2, 1) := by decide +kernel
theorem dX6_readsRule_3 : decode cX6_readsRule 3 = .ok (.bipush 59, 2) := by decide +kernel
theorem dX6_readsRule_5 : decode cX6_readsRule 5 = .ok (.invokevirtual 111, 3) := by decide +kernel
theorem dX6_readsRule_8 : decode cX6_readsRule 8 = .ok (.istore_n 1, 1) := by decide +kernel
theorem dX6_readsRule_9 : decode cX6_readsRule 9 = .ok (.aload_n 0, 1) := by decide +kernel
theorem dX6_readsRule_10 : decode cX6_readsRule 10 = .ok (.aload_n 0, 1) := by decide +kernel
theorem dX6_readsRule_11 : decode cX6_readsRule 11 = .ok (.getfield 105, 3) := by decide +kernel
theorem dX6_readsRule_14 : decode cX6_readsRule 14 = .ok (.putfield 120, 3) := by decide +kernel
theorem dX6_readsRule_17 : decode cX6_readsRule 17 = .ok (.iload_n 1, 1) := by decide +kernel
theorem dX6_readsRule_18 : decode cX6_readsRule 18 = .ok (.ireturn, 1) := by decide +kernel
theorem dX6_readsItem_0 : decode cX6_readsItem 0 = .ok (.aload_n 0, 1) := by decide +kernel
theorem dX6_readsItem_1 : decode cX6_readsItem 1 = .ok (.invokevirtual 97, 3) := by decide +kernel
theorem dX6_readsItem_4 : decode cX6_readsItem 4 = .ok (.istore_n 1, 1) := by decide +kernel
theorem dX6_readsItem_5 : decode cX6_readsItem 5 = .ok (.aload_n 0, 1) := by decide +kernel
theorem dX6_readsItem_6 : decode cX6_readsItem 6 = .ok (.dup, 1) := by decide +kernel
theorem dX6_readsItem_7 : decode cX6_readsItem 7 = .ok (.getfield 94, 3) := by decide +kernel
theorem dX6_readsItem_10 : decode cX6_readsItem 10 = .ok (.iconst 1, 1) := by decide +kernel
theorem dX6_readsItem_11 : decode cX6_readsItem 11 = .ok (.iadd, 1) := by decide +kernel
theorem dX6_readsItem_12 : decode cX6_readsItem 12 = .ok (.putfield 94, 3) := by decide +kernel
theorem dX6_readsItem_15 : decode cX6_readsItem 15 = .ok (.iload_n 1, 1) := by decide +kernel
theorem dX6_readsItem_16 : decode cX6_readsItem 16 = .ok (.bipush 99, 2) := by decide +kernel
theorem dX6_readsItem_18 : decode cX6_readsItem 18 = .ok (.if_icmp .ne 10, 3) := by decide +kernel
theorem dX6_readsItem_21 : decode cX6_readsItem 21 = .ok (.aload_n 0, 1) := by decide +kernel
theorem dX6_readsItem_22 : decode cX6_readsItem 22 = .ok (.invokevirtual 123, 3) := by decide +kernel
theorem dX6_readsItem_25 : decode cX6_readsItem 25 = .ok (.goto 34, 3) := by decide +kernel
theorem dX6_readsItem_28 : decode cX6_readsItem 28 = .ok (.iload_n 1, 1) := by decide +kernel
theorem dX6_readsItem_29 : decode cX6_readsItem 29 = .ok (.bipush 115, 2) := by decide +kernel
theorem dX6_readsItem_31 : decode cX6_readsItem 31 = .ok (.if_icmp .ne 10, 3) := by decide +kernel
theorem dX6_readsItem_34 : decode cX6_readsItem 34 = .ok (.aload_n 0, 1) := by decide +kernel
theorem dX6_readsItem_35 : decode cX6_readsItem 35 = .ok (.invokevirtual 126, 3) := by decide +kernel
theorem dX6_readsItem_38 : decode cX6_readsItem 38 = .ok (.goto 21, 3) := by decide +kernel
theorem dX6_readsItem_41 : decode cX6_readsItem 41 = .ok (.iload_n 1, 1) := by decide +kernel
theorem dX6_readsItem_42 : decode cX6_readsItem 42 = .ok (.bipush 114, 2) := by decide +kernel
theorem dX6_readsItem_44 : decode cX6_readsItem 44 = .ok (.if_icmp .ne 14, 3) := by decide +kernel
theorem dX6_readsItem_47 : decode cX6_readsItem 47 = .ok (.aload_n 0, 1) := by decide +kernel
theorem dX6_readsItem_48 : decode cX6_readsItem 48 = .ok (.invokevirtual 129, 3) := by decide +kernel
theorem dX6_readsItem_51 : decode cX6_readsItem 51 = .ok (.ifCond .eq 7, 3) := by decide +kernel
theorem dX6_readsItem_54 : decode cX6_readsItem 54 = .ok (.iconst 1, 1) := by decide +kernel
theorem dX6_readsItem_55 : decode cX6_readsItem 55 = .ok (.goto 4, 3) := by decide +kernel
theorem dX6_readsItem_58 : decode cX6_readsItem 58 = .ok (.iconst 0, 1) := by decide +kernel
theorem dX6_readsItem_59 : decode cX6_readsItem 59 = .ok (.ireturn, 1) := by decide +kernel
theorem dX6_fault_0 : decode cX6_fault 0 = .ok (.aload_n 0, 1) := by decide +kernel
theorem dX6_fault_1 : decode cX6_fault 1 = .ok (.iconst 0, 1) := by decide +kernel
theorem dX6_fault_2 : decode cX6_fault 2 = .ok (.putfield 94, 3) := by decide +kernel
theorem dX6_fault_5 : decode cX6_fault 5 = .ok (.aload_n 0, 1) := by decide +kernel
theorem dX6_fault_6 : decode cX6_fault 6 = .ok (.iconst 0, 1) := by decide +kernel
theorem dX6_fault_7 : decode cX6_fault 7 = .ok (.putfield 108, 3) := by decide +kernel
theorem dX6_fault_10 : decode cX6_fault 10 = .ok (.aload_n 0, 1) := by decide +kernel
theorem dX6_fault_11 : decode cX6_fault 11 = .ok (.iconst 1, 1) := by decide +kernel
theorem dX6_fault_12 : decode cX6_fault 12 = .ok (.putfield 114, 3) := by decide +kernel
theorem dX6_fault_15 : decode cX6_fault 15 = .ok (.aload_n 0, 1) := by decide +kernel
theorem dX6_fault_16 : decode cX6_fault 16 = .ok (.iconst 5, 1) := by decide +kernel
theorem dX6_fault_17 : decode cX6_fault 17 = .ok (.putfield 117, 3) := by decide +kernel
theorem dX6_fault_20 : decode cX6_fault 20 = .ok (.aload_n 0, 1) := by decide +kernel
theorem dX6_fault_21 : decode cX6_fault 21 = .ok (.iconst 0, 1) := by decide +kernel
theorem dX6_fault_22 : decode cX6_fault 22 = .ok (.putfield 120, 3) := by decide +kernel
theorem dX6_fault_25 : decode cX6_fault 25 = .ok (.aload_n 0, 1) := by decide +kernel
theorem dX6_fault_26 : decode cX6_fault 26 = .ok (.getfield 94, 3) := by decide +kernel
theorem dX6_fault_29 : decode cX6_fault 29 = .ok (.aload_n 0, 1) := by decide +kernel
theorem dX6_fault_30 : decode cX6_fault 30 = .ok (.getfield 91, 3) := by decide +kernel
theorem dX6_fault_33 : decode cX6_fault 33 = .ok (.if_icmp .ge 20, 3) := by decide +kernel
theorem dX6_fault_36 : decode cX6_fault 36 = .ok (.aload_n 0, 1) := by decide +kernel
theorem dX6_fault_37 : decode cX6_fault 37 = .ok (.getfield 94, 3) := by decide +kernel
theorem dX6_fault_40 : decode cX6_fault 40 = .ok (.istore_n 1, 1) := by decide +kernel
theorem dX6_fault_41 : decode cX6_fault 41 = .ok (.aload_n 0, 1) := by decide +kernel
theorem dX6_fault_42 : decode cX6_fault 42 = .ok (.invokevirtual 132, 3) := by decide +kernel
theorem dX6_fault_45 : decode cX6_fault 45 = .ok (.ifCond .ne 5, 3) := by decide +kernel
theorem dX6_fault_48 : decode cX6_fault 48 = .ok (.iload_n 1, 1) := by decide +kernel
theorem dX6_fault_49 : decode cX6_fault 49 = .ok (.ireturn, 1) := by decide +kernel
theorem dX6_fault_50 : decode cX6_fault 50 = .ok (.goto (-25), 3) := by decide +kernel
theorem dX6_fault_53 : decode cX6_fault 53 = .ok (.bipush (-4), 2) := by decide +kernel
theorem dX6_fault_55 : decode cX6_fault 55 = .ok (.ireturn, 1) := by decide +kernel
theorem dX6_lay_0 : decode cX6_lay 0 = .ok (.aload_n 0, 1) := by decide +kernel
theorem dX6_lay_1 : decode cX6_lay 1 = .ok (.invokevirtual 135, 3) := by decide +kernel
theorem dX6_lay_4 : decode cX6_lay 4 = .ok (.bipush (-4), 2) := by decide +kernel
theorem dX6_lay_6 : decode cX6_lay 6 = .ok (.if_icmp .ne 10, 3) := by decide +kernel
theorem dX6_lay_9 : decode cX6_lay 9 = .ok (.aload_n 0, 1) := by decide +kernel
theorem dX6_lay_10 : decode cX6_lay 10 = .ok (.getfield 108, 3) := by decide +kernel
theorem dX6_lay_13 : decode cX6_lay 13 = .ok (.ifCond .ne 6, 3) := by decide +kernel
theorem dX6_lay_16 : decode cX6_lay 16 = .ok (.bipush (-2), 2) := by decide +kernel
theorem dX6_lay_18 : decode cX6_lay 18 = .ok (.ireturn, 1) := by decide +kernel
theorem dX6_lay_19 : decode cX6_lay 19 = .ok (.aload_n 0, 1) := by decide +kernel
theorem dX6_lay_20 : decode cX6_lay 20 = .ok (.aload_n 0, 1) := by decide +kernel
theorem dX6_lay_21 : decode cX6_lay 21 = .ok (.getfield 108, 3) := by decide +kernel
theorem dX6_lay_24 : decode cX6_lay 24 = .ok (.putfield 84, 3) := by decide +kernel
theorem dX6_lay_27 : decode cX6_lay 27 = .ok (.aload_n 0, 1) := by decide +kernel
theorem dX6_lay_28 : decode cX6_lay 28 = .ok (.aload_n 0, 1) := by decide +kernel
theorem dX6_lay_29 : decode cX6_lay 29 = .ok (.getfield 114, 3) := by decide +kernel
theorem dX6_lay_32 : decode cX6_lay 32 = .ok (.putfield 77, 3) := by decide +kernel
theorem dX6_lay_35 : decode cX6_lay 35 = .ok (.aload_n 0, 1) := by decide +kernel
theorem dX6_lay_36 : decode cX6_lay 36 = .ok (.aload_n 0, 1) := by decide +kernel
theorem dX6_lay_37 : decode cX6_lay 37 = .ok (.getfield 117, 3) := by decide +kernel
theorem dX6_lay_40 : decode cX6_lay 40 = .ok (.putfield 81, 3) := by decide +kernel
theorem dX6_lay_43 : decode cX6_lay 43 = .ok (.aload_n 0, 1) := by decide +kernel
theorem dX6_lay_44 : decode cX6_lay 44 = .ok (.aload_n 0, 1) := by decide +kernel
theorem dX6_lay_45 : decode cX6_lay 45 = .ok (.getfield 120, 3) := by decide +kernel
theorem dX6_lay_48 : decode cX6_lay 48 = .ok (.putfield 138, 3) := by decide +kernel
theorem dX6_lay_51 : decode cX6_lay 51 = .ok (.aload_n 0, 1) := by decide +kernel
theorem dX6_lay_52 : decode cX6_lay 52 = .ok (.iconst 0, 1) := by decide +kernel
theorem dX6_lay_53 : decode cX6_lay 53 = .ok (.putfield 141, 3) := by decide +kernel
theorem dX6_lay_56 : decode cX6_lay 56 = .ok (.aload_n 0, 1) := by decide +kernel
theorem dX6_lay_57 : decode cX6_lay 57 = .ok (.iconst 0, 1) := by decide +kernel
theorem dX6_lay_58 : decode cX6_lay 58 = .ok (.putfield 144, 3) := by decide +kernel
theorem dX6_lay_61 : decode cX6_lay 61 = .ok (.iconst 0, 1) := by decide +kernel
theorem dX6_lay_62 : decode cX6_lay 62 = .ok (.istore_n 1, 1) := by decide +kernel
theorem dX6_lay_63 : decode cX6_lay 63 = .ok (.iload_n 1, 1) := by decide +kernel
theorem dX6_lay_64 : decode cX6_lay 64 = .ok (.aload_n 0, 1) := by decide +kernel
theorem dX6_lay_65 : decode cX6_lay 65 = .ok (.getfield 84, 3) := by decide +kernel
theorem dX6_lay_68 : decode cX6_lay 68 = .ok (.if_icmp .ge 92, 3) := by decide +kernel
theorem dX6_lay_71 : decode cX6_lay 71 = .ok (.aload_n 0, 1) := by decide +kernel
theorem dX6_lay_72 : decode cX6_lay 72 = .ok (.getfield 7, 3) := by decide +kernel
theorem dX6_lay_75 : decode cX6_lay 75 = .ok (.iload_n 1, 1) := by decide +kernel
theorem dX6_lay_76 : decode cX6_lay 76 = .ok (.aload_n 0, 1) := by decide +kernel
theorem dX6_lay_77 : decode cX6_lay 77 = .ok (.getfield 49, 3) := by decide +kernel
theorem dX6_lay_80 : decode cX6_lay 80 = .ok (.iload_n 1, 1) := by decide +kernel
theorem dX6_lay_81 : decode cX6_lay 81 = .ok (.iaload, 1) := by decide +kernel
theorem dX6_lay_82 : decode cX6_lay 82 = .ok (.iastore, 1) := by decide +kernel
theorem dX6_lay_83 : decode cX6_lay 83 = .ok (.aload_n 0, 1) := by decide +kernel
theorem dX6_lay_84 : decode cX6_lay 84 = .ok (.getfield 13, 3) := by decide +kernel
theorem dX6_lay_87 : decode cX6_lay 87 = .ok (.iload_n 1, 1) := by decide +kernel
theorem dX6_lay_88 : decode cX6_lay 88 = .ok (.aload_n 0, 1) := by decide +kernel
theorem dX6_lay_89 : decode cX6_lay 89 = .ok (.getfield 52, 3) := by decide +kernel
theorem dX6_lay_92 : decode cX6_lay 92 = .ok (.iload_n 1, 1) := by decide +kernel
theorem dX6_lay_93 : decode cX6_lay 93 = .ok (.iaload, 1) := by decide +kernel
theorem dX6_lay_94 : decode cX6_lay 94 = .ok (.iastore, 1) := by decide +kernel
theorem dX6_lay_95 : decode cX6_lay 95 = .ok (.aload_n 0, 1) := by decide +kernel
theorem dX6_lay_96 : decode cX6_lay 96 = .ok (.getfield 16, 3) := by decide +kernel
theorem dX6_lay_99 : decode cX6_lay 99 = .ok (.iload_n 1, 1) := by decide +kernel
theorem dX6_lay_100 : decode cX6_lay 100 = .ok (.aload_n 0, 1) := by decide +kernel
theorem dX6_lay_101 : decode cX6_lay 101 = .ok (.getfield 55, 3) := by decide +kernel
theorem dX6_lay_104 : decode cX6_lay 104 = .ok (.iload_n 1, 1) := by decide +kernel
theorem dX6_lay_105 : decode cX6_lay 105 = .ok (.iaload, 1) := by decide +kernel
theorem dX6_lay_106 : decode cX6_lay 106 = .ok (.iastore, 1) := by decide +kernel
theorem dX6_lay_107 : decode cX6_lay 107 = .ok (.aload_n 0, 1) := by decide +kernel
theorem dX6_lay_108 : decode cX6_lay 108 = .ok (.getfield 19, 3) := by decide +kernel
theorem dX6_lay_111 : decode cX6_lay 111 = .ok (.iload_n 1, 1) := by decide +kernel
theorem dX6_lay_112 : decode cX6_lay 112 = .ok (.aload_n 0, 1) := by decide +kernel
theorem dX6_lay_113 : decode cX6_lay 113 = .ok (.getfield 58, 3) := by decide +kernel
theorem dX6_lay_116 : decode cX6_lay 116 = .ok (.iload_n 1, 1) := by decide +kernel
theorem dX6_lay_117 : decode cX6_lay 117 = .ok (.iaload, 1) := by decide +kernel
theorem dX6_lay_118 : decode cX6_lay 118 = .ok (.iastore, 1) := by decide +kernel
theorem dX6_lay_119 : decode cX6_lay 119 = .ok (.aload_n 0, 1) := by decide +kernel
theorem dX6_lay_120 : decode cX6_lay 120 = .ok (.getfield 22, 3) := by decide +kernel
theorem dX6_lay_123 : decode cX6_lay 123 = .ok (.iload_n 1, 1) := by decide +kernel
theorem dX6_lay_124 : decode cX6_lay 124 = .ok (.iconst 0, 1) := by decide +kernel
theorem dX6_lay_125 : decode cX6_lay 125 = .ok (.iastore, 1) := by decide +kernel
theorem dX6_lay_126 : decode cX6_lay 126 = .ok (.aload_n 0, 1) := by decide +kernel
theorem dX6_lay_127 : decode cX6_lay 127 = .ok (.getfield 25, 3) := by decide +kernel
theorem dX6_lay_130 : decode cX6_lay 130 = .ok (.iload_n 1, 1) := by decide +kernel
theorem dX6_lay_131 : decode cX6_lay 131 = .ok (.iconst 0, 1) := by decide +kernel
theorem dX6_lay_132 : decode cX6_lay 132 = .ok (.iastore, 1) := by decide +kernel
theorem dX6_lay_133 : decode cX6_lay 133 = .ok (.aload_n 0, 1) := by decide +kernel
theorem dX6_lay_134 : decode cX6_lay 134 = .ok (.getfield 28, 3) := by decide +kernel
theorem dX6_lay_137 : decode cX6_lay 137 = .ok (.iload_n 1, 1) := by decide +kernel
theorem dX6_lay_138 : decode cX6_lay 138 = .ok (.iconst 0, 1) := by decide +kernel
theorem dX6_lay_139 : decode cX6_lay 139 = .ok (.iastore, 1) := by decide +kernel
theorem dX6_lay_140 : decode cX6_lay 140 = .ok (.aload_n 0, 1) := by decide +kernel
theorem dX6_lay_141 : decode cX6_lay 141 = .ok (.getfield 31, 3) := by decide +kernel
theorem dX6_lay_144 : decode cX6_lay 144 = .ok (.iload_n 1, 1) := by decide +kernel
theorem dX6_lay_145 : decode cX6_lay 145 = .ok (.iconst 0, 1) := by decide +kernel
theorem dX6_lay_146 : decode cX6_lay 146 = .ok (.iastore, 1) := by decide +kernel
theorem dX6_lay_147 : decode cX6_lay 147 = .ok (.aload_n 0, 1) := by decide +kernel
theorem dX6_lay_148 : decode cX6_lay 148 = .ok (.getfield 34, 3) := by decide +kernel
theorem dX6_lay_151 : decode cX6_lay 151 = .ok (.iload_n 1, 1) := by decide +kernel
theorem dX6_lay_152 : decode cX6_lay 152 = .ok (.iconst 0, 1) := by decide +kernel
theorem dX6_lay_153 : decode cX6_lay 153 = .ok (.iastore, 1) := by decide +kernel
theorem dX6_lay_154 : decode cX6_lay 154 = .ok (.iinc 1 1, 3) := by decide +kernel
theorem dX6_lay_157 : decode cX6_lay 157 = .ok (.goto (-94), 3) := by decide +kernel
theorem dX6_lay_160 : decode cX6_lay 160 = .ok (.aload_n 0, 1) := by decide +kernel
theorem dX6_lay_161 : decode cX6_lay 161 = .ok (.iconst 0, 1) := by decide +kernel
theorem dX6_lay_162 : decode cX6_lay 162 = .ok (.putfield 147, 3) := by decide +kernel
theorem dX6_lay_165 : decode cX6_lay 165 = .ok (.aload_n 0, 1) := by decide +kernel
theorem dX6_lay_166 : decode cX6_lay 166 = .ok (.iconst 0, 1) := by decide +kernel
theorem dX6_lay_167 : decode cX6_lay 167 = .ok (.putfield 150, 3) := by decide +kernel
theorem dX6_lay_170 : decode cX6_lay 170 = .ok (.aload_n 0, 1) := by decide +kernel
theorem dX6_lay_171 : decode cX6_lay 171 = .ok (.iconst 0, 1) := by decide +kernel
theorem dX6_lay_172 : decode cX6_lay 172 = .ok (.putfield 153, 3) := by decide +kernel
theorem dX6_lay_175 : decode cX6_lay 175 = .ok (.aload_n 0, 1) := by decide +kernel
theorem dX6_lay_176 : decode cX6_lay 176 = .ok (.getfield 84, 3) := by decide +kernel
theorem dX6_lay_179 : decode cX6_lay 179 = .ok (.ireturn, 1) := by decide +kernel
theorem dX6_isAhead_0 : decode cX6_isAhead 0 = .ok (.aload_n 0, 1) := by decide +kernel
theorem dX6_isAhead_1 : decode cX6_isAhead 1 = .ok (.getfield 138, 3) := by decide +kernel
theorem dX6_isAhead_4 : decode cX6_isAhead 4 = .ok (.iconst 1, 1) := by decide +kernel
theorem dX6_isAhead_5 : decode cX6_isAhead 5 = .ok (.if_icmp .ne 24, 3) := by decide +kernel
theorem dX6_isAhead_8 : decode cX6_isAhead 8 = .ok (.aload_n 0, 1) := by decide +kernel
theorem dX6_isAhead_9 : decode cX6_isAhead 9 = .ok (.getfield 28, 3) := by decide +kernel
theorem dX6_isAhead_12 : decode cX6_isAhead 12 = .ok (.iload_n 1, 1) := by decide +kernel
theorem dX6_isAhead_13 : decode cX6_isAhead 13 = .ok (.iaload, 1) := by decide +kernel
theorem dX6_isAhead_14 : decode cX6_isAhead 14 = .ok (.aload_n 0, 1) := by decide +kernel
theorem dX6_isAhead_15 : decode cX6_isAhead 15 = .ok (.getfield 28, 3) := by decide +kernel
theorem dX6_isAhead_18 : decode cX6_isAhead 18 = .ok (.iload_n 2, 1) := by decide +kernel
theorem dX6_isAhead_19 : decode cX6_isAhead 19 = .ok (.iaload, 1) := by decide +kernel
theorem dX6_isAhead_20 : decode cX6_isAhead 20 = .ok (.if_icmp .le 7, 3) := by decide +kernel
theorem dX6_isAhead_23 : decode cX6_isAhead 23 = .ok (.iconst 1, 1) := by decide +kernel
theorem dX6_isAhead_24 : decode cX6_isAhead 24 = .ok (.goto 4, 3) := by decide +kernel
theorem dX6_isAhead_27 : decode cX6_isAhead 27 = .ok (.iconst 0, 1) := by decide +kernel
theorem dX6_isAhead_28 : decode cX6_isAhead 28 = .ok (.ireturn, 1) := by decide +kernel
theorem dX6_isAhead_29 : decode cX6_isAhead 29 = .ok (.aload_n 0, 1) := by decide +kernel
theorem dX6_isAhead_30 : decode cX6_isAhead 30 = .ok (.getfield 138, 3) := by decide +kernel
theorem dX6_isAhead_33 : decode cX6_isAhead 33 = .ok (.iconst 2, 1) := by decide +kernel
theorem dX6_isAhead_34 : decode cX6_isAhead 34 = .ok (.if_icmp .ne 41, 3) := by decide +kernel
theorem dX6_isAhead_37 : decode cX6_isAhead 37 = .ok (.aload_n 0, 1) := by decide +kernel
theorem dX6_isAhead_38 : decode cX6_isAhead 38 = .ok (.getfield 19, 3) := by decide +kernel
theorem dX6_isAhead_41 : decode cX6_isAhead 41 = .ok (.iload_n 1, 1) := by decide +kernel
theorem dX6_isAhead_42 : decode cX6_isAhead 42 = .ok (.iaload, 1) := by decide +kernel
theorem dX6_isAhead_43 : decode cX6_isAhead 43 = .ok (.aload_n 0, 1) := by decide +kernel
theorem dX6_isAhead_44 : decode cX6_isAhead 44 = .ok (.getfield 19, 3) := by decide +kernel
theorem dX6_isAhead_47 : decode cX6_isAhead 47 = .ok (.iload_n 2, 1) := by decide +kernel
theorem dX6_isAhead_48 : decode cX6_isAhead 48 = .ok (.iaload, 1) := by decide +kernel
theorem dX6_isAhead_49 : decode cX6_isAhead 49 = .ok (.if_icmp .eq 26, 3) := by decide +kernel
theorem dX6_isAhead_52 : decode cX6_isAhead 52 = .ok (.aload_n 0, 1) := by decide +kernel
theorem dX6_isAhead_53 : decode cX6_isAhead 53 = .ok (.getfield 19, 3) := by decide +kernel
theorem dX6_isAhead_56 : decode cX6_isAhead 56 = .ok (.iload_n 1, 1) := by decide +kernel
theorem dX6_isAhead_57 : decode cX6_isAhead 57 = .ok (.iaload, 1) := by decide +kernel
theorem dX6_isAhead_58 : decode cX6_isAhead 58 = .ok (.aload_n 0, 1) := by decide +kernel
theorem dX6_isAhead_59 : decode cX6_isAhead 59 = .ok (.getfield 19, 3) := by decide +kernel
theorem dX6_isAhead_62 : decode cX6_isAhead 62 = .ok (.iload_n 2, 1) := by decide +kernel
theorem dX6_isAhead_63 : decode cX6_isAhead 63 = .ok (.iaload, 1) := by decide +kernel
theorem dX6_isAhead_64 : decode cX6_isAhead 64 = .ok (.if_icmp .le 7, 3) := by decide +kernel
theorem dX6_isAhead_67 : decode cX6_isAhead 67 = .ok (.iconst 1, 1) := by decide +kernel
theorem dX6_isAhead_68 : decode cX6_isAhead 68 = .ok (.goto 27, 3) := by decide +kernel
theorem dX6_isAhead_71 : decode cX6_isAhead 71 = .ok (.iconst 0, 1) := by decide +kernel
theorem dX6_isAhead_72 : decode cX6_isAhead 72 = .ok (.goto 23, 3) := by decide +kernel
theorem dX6_isAhead_75 : decode cX6_isAhead 75 = .ok (.aload_n 0, 1) := by decide +kernel
theorem dX6_isAhead_76 : decode cX6_isAhead 76 = .ok (.getfield 28, 3) := by decide +kernel
theorem dX6_isAhead_79 : decode cX6_isAhead 79 = .ok (.iload_n 1, 1) := by decide +kernel
theorem dX6_isAhead_80 : decode cX6_isAhead 80 = .ok (.iaload, 1) := by decide +kernel
theorem dX6_isAhead_81 : decode cX6_isAhead 81 = .ok (.aload_n 0, 1) := by decide +kernel
theorem dX6_isAhead_82 : decode cX6_isAhead 82 = .ok (.getfield 28, 3) := by decide +kernel
theorem dX6_isAhead_85 : decode cX6_isAhead 85 = .ok (.iload_n 2, 1) := by decide +kernel
theorem dX6_isAhead_86 : decode cX6_isAhead 86 = .ok (.iaload, 1) := by decide +kernel
theorem dX6_isAhead_87 : decode cX6_isAhead 87 = .ok (.if_icmp .ge 7, 3) := by decide +kernel
theorem dX6_isAhead_90 : decode cX6_isAhead 90 = .ok (.iconst 1, 1) := by decide +kernel
theorem dX6_isAhead_91 : decode cX6_isAhead 91 = .ok (.goto 4, 3) := by decide +kernel
theorem dX6_isAhead_94 : decode cX6_isAhead 94 = .ok (.iconst 0, 1) := by decide +kernel
theorem dX6_isAhead_95 : decode cX6_isAhead 95 = .ok (.ireturn, 1) := by decide +kernel
theorem dX6_ahead_0 : decode cX6_ahead 0 = .ok (.iconst 0, 1) := by decide +kernel
theorem dX6_ahead_1 : decode cX6_ahead 1 = .ok (.istore_n 2, 1) := by decide +kernel
theorem dX6_ahead_2 : decode cX6_ahead 2 = .ok (.iconst 0, 1) := by decide +kernel
theorem dX6_ahead_3 : decode cX6_ahead 3 = .ok (.istore_n 3, 1) := by decide +kernel
theorem dX6_ahead_4 : decode cX6_ahead 4 = .ok (.iload_n 3, 1) := by decide +kernel
theorem dX6_ahead_5 : decode cX6_ahead 5 = .ok (.aload_n 0, 1) := by decide +kernel
theorem dX6_ahead_6 : decode cX6_ahead 6 = .ok (.getfield 84, 3) := by decide +kernel
theorem dX6_ahead_9 : decode cX6_ahead 9 = .ok (.if_icmp .ge 41, 3) := by decide +kernel
theorem dX6_ahead_12 : decode cX6_ahead 12 = .ok (.iload_n 2, 1) := by decide +kernel
theorem dX6_ahead_13 : decode cX6_ahead 13 = .ok (.iload_n 3, 1) := by decide +kernel
theorem dX6_ahead_14 : decode cX6_ahead 14 = .ok (.iload_n 1, 1) := by decide +kernel
theorem dX6_ahead_15 : decode cX6_ahead 15 = .ok (.if_icmp .eq 26, 3) := by decide +kernel
theorem dX6_ahead_18 : decode cX6_ahead 18 = .ok (.aload_n 0, 1) := by decide +kernel
theorem dX6_ahead_19 : decode cX6_ahead 19 = .ok (.getfield 22, 3) := by decide +kernel
theorem dX6_ahead_22 : decode cX6_ahead 22 = .ok (.iload_n 3, 1) := by decide +kernel
theorem dX6_ahead_23 : decode cX6_ahead 23 = .ok (.iaload, 1) := by decide +kernel
theorem dX6_ahead_24 : decode cX6_ahead 24 = .ok (.iconst 1, 1) := by decide +kernel
theorem dX6_ahead_25 : decode cX6_ahead 25 = .ok (.if_icmp .ne 16, 3) := by decide +kernel
theorem dX6_ahead_28 : decode cX6_ahead 28 = .ok (.aload_n 0, 1) := by decide +kernel
theorem dX6_ahead_29 : decode cX6_ahead 29 = .ok (.iload_n 3, 1) := by decide +kernel
theorem dX6_ahead_30 : decode cX6_ahead 30 = .ok (.iload_n 1, 1) := by decide +kernel
theorem dX6_ahead_31 : decode cX6_ahead 31 = .ok (.invokevirtual 156, 3) := by decide +kernel
theorem dX6_ahead_34 : decode cX6_ahead 34 = .ok (.ifCond .eq 7, 3) := by decide +kernel
theorem dX6_ahead_37 : decode cX6_ahead 37 = .ok (.iconst 1, 1) := by decide +kernel
theorem dX6_ahead_38 : decode cX6_ahead 38 = .ok (.goto 4, 3) := by decide +kernel
theorem dX6_ahead_41 : decode cX6_ahead 41 = .ok (.iconst 0, 1) := by decide +kernel
theorem dX6_ahead_42 : decode cX6_ahead 42 = .ok (.iadd, 1) := by decide +kernel
theorem dX6_ahead_43 : decode cX6_ahead 43 = .ok (.istore_n 2, 1) := by decide +kernel
theorem dX6_ahead_44 : decode cX6_ahead 44 = .ok (.iinc 3 1, 3) := by decide +kernel
theorem dX6_ahead_47 : decode cX6_ahead 47 = .ok (.goto (-43), 3) := by decide +kernel
theorem dX6_ahead_50 : decode cX6_ahead 50 = .ok (.iload_n 2, 1) := by decide +kernel
theorem dX6_ahead_51 : decode cX6_ahead 51 = .ok (.ireturn, 1) := by decide +kernel
theorem dX6_bearsNow_0 : decode cX6_bearsNow 0 = .ok (.aload_n 0, 1) := by decide +kernel
theorem dX6_bearsNow_1 : decode cX6_bearsNow 1 = .ok (.getfield 7, 3) := by decide +kernel
theorem dX6_bearsNow_4 : decode cX6_bearsNow 4 = .ok (.iload_n 1, 1) := by decide +kernel
theorem dX6_bearsNow_5 : decode cX6_bearsNow 5 = .ok (.iaload, 1) := by decide +kernel
theorem dX6_bearsNow_6 : decode cX6_bearsNow 6 = .ok (.tableswitch 73 1 3 #[26, 47, 56], 26) := by decide +kernel
theorem dX6_bearsNow_32 : decode cX6_bearsNow 32 = .ok (.aload_n 0, 1) := by decide +kernel
theorem dX6_bearsNow_33 : decode cX6_bearsNow 33 = .ok (.iload_n 1, 1) := by decide +kernel
theorem dX6_bearsNow_34 : decode cX6_bearsNow 34 = .ok (.invokevirtual 160, 3) := by decide +kernel
theorem dX6_bearsNow_37 : decode cX6_bearsNow 37 = .ok (.iconst 1, 1) := by decide +kernel
theorem dX6_bearsNow_38 : decode cX6_bearsNow 38 = .ok (.if_icmp .le 12, 3) := by decide +kernel
theorem dX6_bearsNow_41 : decode cX6_bearsNow 41 = .ok (.aload_n 0, 1) := by decide +kernel
theorem dX6_bearsNow_42 : decode cX6_bearsNow 42 = .ok (.getfield 16, 3) := by decide +kernel
theorem dX6_bearsNow_45 : decode cX6_bearsNow 45 = .ok (.iload_n 1, 1) := by decide +kernel
theorem dX6_bearsNow_46 : decode cX6_bearsNow 46 = .ok (.iaload, 1) := by decide +kernel
theorem dX6_bearsNow_47 : decode cX6_bearsNow 47 = .ok (.goto 5, 3) := by decide +kernel
theorem dX6_bearsNow_50 : decode cX6_bearsNow 50 = .ok (.ldc 163, 2) := by decide +kernel
theorem dX6_bearsNow_52 : decode cX6_bearsNow 52 = .ok (.ireturn, 1) := by decide +kernel
theorem dX6_bearsNow_53 : decode cX6_bearsNow 53 = .ok (.iconst 2, 1) := by decide +kernel
theorem dX6_bearsNow_54 : decode cX6_bearsNow 54 = .ok (.aload_n 0, 1) := by decide +kernel
theorem dX6_bearsNow_55 : decode cX6_bearsNow 55 = .ok (.getfield 16, 3) := by decide +kernel
theorem dX6_bearsNow_58 : decode cX6_bearsNow 58 = .ok (.iload_n 1, 1) := by decide +kernel
theorem dX6_bearsNow_59 : decode cX6_bearsNow 59 = .ok (.iaload, 1) := by decide +kernel
theorem dX6_bearsNow_60 : decode cX6_bearsNow 60 = .ok (.imul, 1) := by decide +kernel
theorem dX6_bearsNow_61 : decode cX6_bearsNow 61 = .ok (.ireturn, 1) := by decide +kernel
theorem dX6_bearsNow_62 : decode cX6_bearsNow 62 = .ok (.iconst 1, 1) := by decide +kernel
theorem dX6_bearsNow_63 : decode cX6_bearsNow 63 = .ok (.aload_n 0, 1) := by decide +kernel
theorem dX6_bearsNow_64 : decode cX6_bearsNow 64 = .ok (.getfield 16, 3) := by decide +kernel
theorem dX6_bearsNow_67 : decode cX6_bearsNow 67 = .ok (.iload_n 1, 1) := by decide +kernel
theorem dX6_bearsNow_68 : decode cX6_bearsNow 68 = .ok (.iaload, 1) := by decide +kernel
theorem dX6_bearsNow_69 : decode cX6_bearsNow 69 = .ok (.aload_n 0, 1) := by decide +kernel
theorem dX6_bearsNow_70 : decode cX6_bearsNow 70 = .ok (.iload_n 1, 1) := by decide +kernel
theorem dX6_bearsNow_71 : decode cX6_bearsNow 71 = .ok (.invokevirtual 160, 3) := by decide +kernel
theorem dX6_bearsNow_74 : decode cX6_bearsNow 74 = .ok (.isub, 1) := by decide +kernel
theorem dX6_bearsNow_75 : decode cX6_bearsNow 75 = .ok (.invokestatic 164, 3) := by decide +kernel
theorem dX6_bearsNow_78 : decode cX6_bearsNow 78 = .ok (.ireturn, 1) := by decide +kernel
theorem dX6_bearsNow_79 : decode cX6_bearsNow 79 = .ok (.aload_n 0, 1) := by decide +kernel
theorem dX6_bearsNow_80 : decode cX6_bearsNow 80 = .ok (.getfield 16, 3) := by decide +kernel
theorem dX6_bearsNow_83 : decode cX6_bearsNow 83 = .ok (.iload_n 1, 1) := by decide +kernel
theorem dX6_bearsNow_84 : decode cX6_bearsNow 84 = .ok (.iaload, 1) := by decide +kernel
theorem dX6_bearsNow_85 : decode cX6_bearsNow 85 = .ok (.ireturn, 1) := by decide +kernel
theorem dX6_comes_0 : decode cX6_comes 0 = .ok (.aload_n 0, 1) := by decide +kernel
theorem dX6_comes_1 : decode cX6_comes 1 = .ok (.getfield 22, 3) := by decide +kernel
theorem dX6_comes_4 : decode cX6_comes 4 = .ok (.iload_n 1, 1) := by decide +kernel
theorem dX6_comes_5 : decode cX6_comes 5 = .ok (.iconst 1, 1) := by decide +kernel
theorem dX6_comes_6 : decode cX6_comes 6 = .ok (.iastore, 1) := by decide +kernel
theorem dX6_comes_7 : decode cX6_comes 7 = .ok (.aload_n 0, 1) := by decide +kernel
theorem dX6_comes_8 : decode cX6_comes 8 = .ok (.getfield 25, 3) := by decide +kernel
theorem dX6_comes_11 : decode cX6_comes 11 = .ok (.iload_n 1, 1) := by decide +kernel
theorem dX6_comes_12 : decode cX6_comes 12 = .ok (.iconst 0, 1) := by decide +kernel
theorem dX6_comes_13 : decode cX6_comes 13 = .ok (.iastore, 1) := by decide +kernel
theorem dX6_comes_14 : decode cX6_comes 14 = .ok (.aload_n 0, 1) := by decide +kernel
theorem dX6_comes_15 : decode cX6_comes 15 = .ok (.getfield 28, 3) := by decide +kernel
theorem dX6_comes_18 : decode cX6_comes 18 = .ok (.iload_n 1, 1) := by decide +kernel
theorem dX6_comes_19 : decode cX6_comes 19 = .ok (.aload_n 0, 1) := by decide +kernel
theorem dX6_comes_20 : decode cX6_comes 20 = .ok (.getfield 144, 3) := by decide +kernel
theorem dX6_comes_23 : decode cX6_comes 23 = .ok (.iastore, 1) := by decide +kernel
theorem dX6_comes_24 : decode cX6_comes 24 = .ok (.aload_n 0, 1) := by decide +kernel
theorem dX6_comes_25 : decode cX6_comes 25 = .ok (.dup, 1) := by decide +kernel
theorem dX6_comes_26 : decode cX6_comes 26 = .ok (.getfield 144, 3) := by decide +kernel
theorem dX6_comes_29 : decode cX6_comes 29 = .ok (.iconst 1, 1) := by decide +kernel
theorem dX6_comes_30 : decode cX6_comes 30 = .ok (.iadd, 1) := by decide +kernel
theorem dX6_comes_31 : decode cX6_comes 31 = .ok (.putfield 144, 3) := by decide +kernel
theorem dX6_comes_34 : decode cX6_comes 34 = .ok (.aload_n 0, 1) := by decide +kernel
theorem dX6_comes_35 : decode cX6_comes 35 = .ok (.getfield 34, 3) := by decide +kernel
theorem dX6_comes_38 : decode cX6_comes 38 = .ok (.iload_n 1, 1) := by decide +kernel
theorem dX6_comes_39 : decode cX6_comes 39 = .ok (.iconst 0, 1) := by decide +kernel
theorem dX6_comes_40 : decode cX6_comes 40 = .ok (.iastore, 1) := by decide +kernel
theorem dX6_comes_41 : decode cX6_comes 41 = .ok (.return_, 1) := by decide +kernel
theorem dX6_countOfThose_0 : decode cX6_countOfThose 0 = .ok (.iconst 0, 1) := by decide +kernel
theorem dX6_countOfThose_1 : decode cX6_countOfThose 1 = .ok (.istore_n 2, 1) := by decide +kernel
theorem dX6_countOfThose_2 : decode cX6_countOfThose 2 = .ok (.iconst 0, 1) := by decide +kernel
theorem dX6_countOfThose_3 : decode cX6_countOfThose 3 = .ok (.istore_n 3, 1) := by decide +kernel
theorem dX6_countOfThose_4 : decode cX6_countOfThose 4 = .ok (.iload_n 3, 1) := by decide +kernel
theorem dX6_countOfThose_5 : decode cX6_countOfThose 5 = .ok (.aload_n 0, 1) := by decide +kernel
theorem dX6_countOfThose_6 : decode cX6_countOfThose 6 = .ok (.getfield 84, 3) := by decide +kernel
theorem dX6_countOfThose_9 : decode cX6_countOfThose 9 = .ok (.if_icmp .ge 27, 3) := by decide +kernel
theorem dX6_countOfThose_12 : decode cX6_countOfThose 12 = .ok (.iload_n 2, 1) := by decide +kernel
theorem dX6_countOfThose_13 : decode cX6_countOfThose 13 = .ok (.aload_n 0, 1) := by decide +kernel
theorem dX6_countOfThose_14 : decode cX6_countOfThose 14 = .ok (.getfield 22, 3) := by decide +kernel
theorem dX6_countOfThose_17 : decode cX6_countOfThose 17 = .ok (.iload_n 3, 1) := by decide +kernel
theorem dX6_countOfThose_18 : decode cX6_countOfThose 18 = .ok (.iaload, 1) := by decide +kernel
theorem dX6_countOfThose_19 : decode cX6_countOfThose 19 = .ok (.iload_n 1, 1) := by decide +kernel
theorem dX6_countOfThose_20 : decode cX6_countOfThose 20 = .ok (.if_icmp .ne 7, 3) := by decide +kernel
theorem dX6_countOfThose_23 : decode cX6_countOfThose 23 = .ok (.iconst 1, 1) := by decide +kernel
theorem dX6_countOfThose_24 : decode cX6_countOfThose 24 = .ok (.goto 4, 3) := by decide +kernel
theorem dX6_countOfThose_27 : decode cX6_countOfThose 27 = .ok (.iconst 0, 1) := by decide +kernel
theorem dX6_countOfThose_28 : decode cX6_countOfThose 28 = .ok (.iadd, 1) := by decide +kernel
theorem dX6_countOfThose_29 : decode cX6_countOfThose 29 = .ok (.istore_n 2, 1) := by decide +kernel
theorem dX6_countOfThose_30 : decode cX6_countOfThose 30 = .ok (.iinc 3 1, 3) := by decide +kernel
theorem dX6_countOfThose_33 : decode cX6_countOfThose 33 = .ok (.goto (-29), 3) := by decide +kernel
theorem dX6_countOfThose_36 : decode cX6_countOfThose 36 = .ok (.iload_n 2, 1) := by decide +kernel
theorem dX6_countOfThose_37 : decode cX6_countOfThose 37 = .ok (.ireturn, 1) := by decide +kernel
theorem dX6_next_0 : decode cX6_next 0 = .ok (.bipush (-4), 2) := by decide +kernel
theorem dX6_next_2 : decode cX6_next 2 = .ok (.istore_n 1, 1) := by decide +kernel
theorem dX6_next_3 : decode cX6_next 3 = .ok (.iconst 0, 1) := by decide +kernel
theorem dX6_next_4 : decode cX6_next 4 = .ok (.istore_n 2, 1) := by decide +kernel
theorem dX6_next_5 : decode cX6_next 5 = .ok (.iload_n 2, 1) := by decide +kernel
theorem dX6_next_6 : decode cX6_next 6 = .ok (.aload_n 0, 1) := by decide +kernel
theorem dX6_next_7 : decode cX6_next 7 = .ok (.getfield 84, 3) := by decide +kernel
theorem dX6_next_10 : decode cX6_next 10 = .ok (.if_icmp .ge 40, 3) := by decide +kernel
theorem dX6_next_13 : decode cX6_next 13 = .ok (.aload_n 0, 1) := by decide +kernel
theorem dX6_next_14 : decode cX6_next 14 = .ok (.getfield 22, 3) := by decide +kernel
theorem dX6_next_17 : decode cX6_next 17 = .ok (.iload_n 2, 1) := by decide +kernel
theorem dX6_next_18 : decode cX6_next 18 = .ok (.iaload, 1) := by decide +kernel
theorem dX6_next_19 : decode cX6_next 19 = .ok (.iconst 1, 1) := by decide +kernel
theorem dX6_next_20 : decode cX6_next 20 = .ok (.if_icmp .ne 22, 3) := by decide +kernel
theorem dX6_next_23 : decode cX6_next 23 = .ok (.iload_n 1, 1) := by decide +kernel
theorem dX6_next_24 : decode cX6_next 24 = .ok (.bipush (-4), 2) := by decide +kernel
theorem dX6_next_26 : decode cX6_next 26 = .ok (.if_icmp .eq 12, 3) := by decide +kernel
theorem dX6_next_29 : decode cX6_next 29 = .ok (.aload_n 0, 1) := by decide +kernel
theorem dX6_next_30 : decode cX6_next 30 = .ok (.iload_n 2, 1) := by decide +kernel
theorem dX6_next_31 : decode cX6_next 31 = .ok (.iload_n 1, 1) := by decide +kernel
theorem dX6_next_32 : decode cX6_next 32 = .ok (.invokevirtual 156, 3) := by decide +kernel
theorem dX6_next_35 : decode cX6_next 35 = .ok (.ifCond .eq 7, 3) := by decide +kernel
theorem dX6_next_38 : decode cX6_next 38 = .ok (.iload_n 2, 1) := by decide +kernel
theorem dX6_next_39 : decode cX6_next 39 = .ok (.goto 4, 3) := by decide +kernel
theorem dX6_next_42 : decode cX6_next 42 = .ok (.iload_n 1, 1) := by decide +kernel
theorem dX6_next_43 : decode cX6_next 43 = .ok (.istore_n 1, 1) := by decide +kernel
theorem dX6_next_44 : decode cX6_next 44 = .ok (.iinc 2 1, 3) := by decide +kernel
theorem dX6_next_47 : decode cX6_next 47 = .ok (.goto (-42), 3) := by decide +kernel
theorem dX6_next_50 : decode cX6_next 50 = .ok (.iload_n 1, 1) := by decide +kernel
theorem dX6_next_51 : decode cX6_next 51 = .ok (.ireturn, 1) := by decide +kernel
theorem dX6_goesBy_0 : decode cX6_goesBy 0 = .ok (.iconst 0, 1) := by decide +kernel
theorem dX6_goesBy_1 : decode cX6_goesBy 1 = .ok (.istore_n 1, 1) := by decide +kernel
theorem dX6_goesBy_2 : decode cX6_goesBy 2 = .ok (.iload_n 1, 1) := by decide +kernel
theorem dX6_goesBy_3 : decode cX6_goesBy 3 = .ok (.iconst 2, 1) := by decide +kernel
theorem dX6_goesBy_4 : decode cX6_goesBy 4 = .ok (.if_icmp .ge 67, 3) := by decide +kernel
theorem dX6_goesBy_7 : decode cX6_goesBy 7 = .ok (.iconst 0, 1) := by decide +kernel
theorem dX6_goesBy_8 : decode cX6_goesBy 8 = .ok (.istore_n 2, 1) := by decide +kernel
theorem dX6_goesBy_9 : decode cX6_goesBy 9 = .ok (.iload_n 2, 1) := by decide +kernel
theorem dX6_goesBy_10 : decode cX6_goesBy 10 = .ok (.aload_n 0, 1) := by decide +kernel
theorem dX6_goesBy_11 : decode cX6_goesBy 11 = .ok (.getfield 84, 3) := by decide +kernel
theorem dX6_goesBy_14 : decode cX6_goesBy 14 = .ok (.if_icmp .ge 51, 3) := by decide +kernel
theorem dX6_goesBy_17 : decode cX6_goesBy 17 = .ok (.aload_n 0, 1) := by decide +kernel
theorem dX6_goesBy_18 : decode cX6_goesBy 18 = .ok (.getfield 22, 3) := by decide +kernel
theorem dX6_goesBy_21 : decode cX6_goesBy 21 = .ok (.iload_n 2, 1) := by decide +kernel
theorem dX6_goesBy_22 : decode cX6_goesBy 22 = .ok (.iaload, 1) := by decide +kernel
theorem dX6_goesBy_23 : decode cX6_goesBy 23 = .ok (.ifCond .ne 36, 3) := by decide +kernel
theorem dX6_goesBy_26 : decode cX6_goesBy 26 = .ok (.aload_n 0, 1) := by decide +kernel
theorem dX6_goesBy_27 : decode cX6_goesBy 27 = .ok (.getfield 34, 3) := by decide +kernel
theorem dX6_goesBy_30 : decode cX6_goesBy 30 = .ok (.iload_n 2, 1) := by decide +kernel
theorem dX6_goesBy_31 : decode cX6_goesBy 31 = .ok (.iaload, 1) := by decide +kernel
theorem dX6_goesBy_32 : decode cX6_goesBy 32 = .ok (.iload_n 1, 1) := by decide +kernel
theorem dX6_goesBy_33 : decode cX6_goesBy 33 = .ok (.if_icmp .ne 26, 3) := by decide +kernel
theorem dX6_goesBy_36 : decode cX6_goesBy 36 = .ok (.iload_n 1, 1) := by decide +kernel
theorem dX6_goesBy_37 : decode cX6_goesBy 37 = .ok (.iconst 1, 1) := by decide +kernel
theorem dX6_goesBy_38 : decode cX6_goesBy 38 = .ok (.if_icmp .eq 16, 3) := by decide +kernel
theorem dX6_goesBy_41 : decode cX6_goesBy 41 = .ok (.aload_n 0, 1) := by decide +kernel
theorem dX6_goesBy_42 : decode cX6_goesBy 42 = .ok (.getfield 13, 3) := by decide +kernel
theorem dX6_goesBy_45 : decode cX6_goesBy 45 = .ok (.iload_n 2, 1) := by decide +kernel
theorem dX6_goesBy_46 : decode cX6_goesBy 46 = .ok (.iaload, 1) := by decide +kernel
theorem dX6_goesBy_47 : decode cX6_goesBy 47 = .ok (.aload_n 0, 1) := by decide +kernel
theorem dX6_goesBy_48 : decode cX6_goesBy 48 = .ok (.getfield 141, 3) := by decide +kernel
theorem dX6_goesBy_51 : decode cX6_goesBy 51 = .ok (.if_icmp .ne 8, 3) := by decide +kernel
theorem dX6_goesBy_54 : decode cX6_goesBy 54 = .ok (.aload_n 0, 1) := by decide +kernel
theorem dX6_goesBy_55 : decode cX6_goesBy 55 = .ok (.iload_n 2, 1) := by decide +kernel
theorem dX6_goesBy_56 : decode cX6_goesBy 56 = .ok (.invokevirtual 168, 3) := by decide +kernel
theorem dX6_goesBy_59 : decode cX6_goesBy 59 = .ok (.iinc 2 1, 3) := by decide +kernel
theorem dX6_goesBy_62 : decode cX6_goesBy 62 = .ok (.goto (-53), 3) := by decide +kernel
theorem dX6_goesBy_65 : decode cX6_goesBy 65 = .ok (.iinc 1 1, 3) := by decide +kernel
theorem dX6_goesBy_68 : decode cX6_goesBy 68 = .ok (.goto (-66), 3) := by decide +kernel
theorem dX6_goesBy_71 : decode cX6_goesBy 71 = .ok (.iconst 0, 1) := by decide +kernel
theorem dX6_goesBy_72 : decode cX6_goesBy 72 = .ok (.istore_n 1, 1) := by decide +kernel
theorem dX6_goesBy_73 : decode cX6_goesBy 73 = .ok (.iload_n 1, 1) := by decide +kernel
theorem dX6_goesBy_74 : decode cX6_goesBy 74 = .ok (.aload_n 0, 1) := by decide +kernel
theorem dX6_goesBy_75 : decode cX6_goesBy 75 = .ok (.getfield 84, 3) := by decide +kernel
theorem dX6_goesBy_78 : decode cX6_goesBy 78 = .ok (.if_icmp .ge 53, 3) := by decide +kernel
theorem dX6_goesBy_81 : decode cX6_goesBy 81 = .ok (.aload_n 0, 1) := by decide +kernel
theorem dX6_goesBy_82 : decode cX6_goesBy 82 = .ok (.getfield 22, 3) := by decide +kernel
theorem dX6_goesBy_85 : decode cX6_goesBy 85 = .ok (.iload_n 1, 1) := by decide +kernel
theorem dX6_goesBy_86 : decode cX6_goesBy 86 = .ok (.aload_n 0, 1) := by decide +kernel
theorem dX6_goesBy_87 : decode cX6_goesBy 87 = .ok (.getfield 22, 3) := by decide +kernel
theorem dX6_goesBy_90 : decode cX6_goesBy 90 = .ok (.iload_n 1, 1) := by decide +kernel
theorem dX6_goesBy_91 : decode cX6_goesBy 91 = .ok (.iaload, 1) := by decide +kernel
theorem dX6_goesBy_92 : decode cX6_goesBy 92 = .ok (.iconst 2, 1) := by decide +kernel
theorem dX6_goesBy_93 : decode cX6_goesBy 93 = .ok (.if_icmp .ne 25, 3) := by decide +kernel
theorem dX6_goesBy_96 : decode cX6_goesBy 96 = .ok (.aload_n 0, 1) := by decide +kernel
theorem dX6_goesBy_97 : decode cX6_goesBy 97 = .ok (.getfield 141, 3) := by decide +kernel
theorem dX6_goesBy_100 : decode cX6_goesBy 100 = .ok (.aload_n 0, 1) := by decide +kernel
theorem dX6_goesBy_101 : decode cX6_goesBy 101 = .ok (.getfield 31, 3) := by decide +kernel
theorem dX6_goesBy_104 : decode cX6_goesBy 104 = .ok (.iload_n 1, 1) := by decide +kernel
theorem dX6_goesBy_105 : decode cX6_goesBy 105 = .ok (.iaload, 1) := by decide +kernel
theorem dX6_goesBy_106 : decode cX6_goesBy 106 = .ok (.isub, 1) := by decide +kernel
theorem dX6_goesBy_107 : decode cX6_goesBy 107 = .ok (.aload_n 0, 1) := by decide +kernel
theorem dX6_goesBy_108 : decode cX6_goesBy 108 = .ok (.getfield 81, 3) := by decide +kernel
theorem dX6_goesBy_111 : decode cX6_goesBy 111 = .ok (.if_icmp .lt 7, 3) := by decide +kernel
theorem dX6_goesBy_114 : decode cX6_goesBy 114 = .ok (.iconst 3, 1) := by decide +kernel
theorem dX6_goesBy_115 : decode cX6_goesBy 115 = .ok (.goto 9, 3) := by decide +kernel
theorem dX6_goesBy_118 : decode cX6_goesBy 118 = .ok (.aload_n 0, 1) := by decide +kernel
theorem dX6_goesBy_119 : decode cX6_goesBy 119 = .ok (.getfield 22, 3) := by decide +kernel
theorem dX6_goesBy_122 : decode cX6_goesBy 122 = .ok (.iload_n 1, 1) := by decide +kernel
theorem dX6_goesBy_123 : decode cX6_goesBy 123 = .ok (.iaload, 1) := by decide +kernel
theorem dX6_goesBy_124 : decode cX6_goesBy 124 = .ok (.iastore, 1) := by decide +kernel
theorem dX6_goesBy_125 : decode cX6_goesBy 125 = .ok (.iinc 1 1, 3) := by decide +kernel
theorem dX6_goesBy_128 : decode cX6_goesBy 128 = .ok (.goto (-55), 3) := by decide +kernel
theorem dX6_goesBy_131 : decode cX6_goesBy 131 = .ok (.aload_n 0, 1) := by decide +kernel
theorem dX6_goesBy_132 : decode cX6_goesBy 132 = .ok (.iconst 2, 1) := by decide +kernel
theorem dX6_goesBy_133 : decode cX6_goesBy 133 = .ok (.invokevirtual 172, 3) := by decide +kernel
theorem dX6_goesBy_136 : decode cX6_goesBy 136 = .ok (.aload_n 0, 1) := by decide +kernel
theorem dX6_goesBy_137 : decode cX6_goesBy 137 = .ok (.getfield 77, 3) := by decide +kernel
theorem dX6_goesBy_140 : decode cX6_goesBy 140 = .ok (.if_icmp .ge 37, 3) := by decide +kernel
theorem dX6_goesBy_143 : decode cX6_goesBy 143 = .ok (.aload_n 0, 1) := by decide +kernel
theorem dX6_goesBy_144 : decode cX6_goesBy 144 = .ok (.invokevirtual 175, 3) := by decide +kernel
theorem dX6_goesBy_147 : decode cX6_goesBy 147 = .ok (.bipush (-4), 2) := by decide +kernel
theorem dX6_goesBy_149 : decode cX6_goesBy 149 = .ok (.if_icmp .eq 28, 3) := by decide +kernel
theorem dX6_goesBy_152 : decode cX6_goesBy 152 = .ok (.aload_n 0, 1) := by decide +kernel
theorem dX6_goesBy_153 : decode cX6_goesBy 153 = .ok (.invokevirtual 175, 3) := by decide +kernel
theorem dX6_goesBy_156 : decode cX6_goesBy 156 = .ok (.istore_n 1, 1) := by decide +kernel
theorem dX6_goesBy_157 : decode cX6_goesBy 157 = .ok (.aload_n 0, 1) := by decide +kernel
theorem dX6_goesBy_158 : decode cX6_goesBy 158 = .ok (.getfield 22, 3) := by decide +kernel
theorem dX6_goesBy_161 : decode cX6_goesBy 161 = .ok (.iload_n 1, 1) := by decide +kernel
theorem dX6_goesBy_162 : decode cX6_goesBy 162 = .ok (.iconst 2, 1) := by decide +kernel
theorem dX6_goesBy_163 : decode cX6_goesBy 163 = .ok (.iastore, 1) := by decide +kernel
theorem dX6_goesBy_164 : decode cX6_goesBy 164 = .ok (.aload_n 0, 1) := by decide +kernel
theorem dX6_goesBy_165 : decode cX6_goesBy 165 = .ok (.getfield 31, 3) := by decide +kernel
theorem dX6_goesBy_168 : decode cX6_goesBy 168 = .ok (.iload_n 1, 1) := by decide +kernel
theorem dX6_goesBy_169 : decode cX6_goesBy 169 = .ok (.aload_n 0, 1) := by decide +kernel
theorem dX6_goesBy_170 : decode cX6_goesBy 170 = .ok (.getfield 141, 3) := by decide +kernel
theorem dX6_goesBy_173 : decode cX6_goesBy 173 = .ok (.iastore, 1) := by decide +kernel
theorem dX6_goesBy_174 : decode cX6_goesBy 174 = .ok (.goto (-43), 3) := by decide +kernel
theorem dX6_goesBy_177 : decode cX6_goesBy 177 = .ok (.iconst 0, 1) := by decide +kernel
theorem dX6_goesBy_178 : decode cX6_goesBy 178 = .ok (.istore_n 1, 1) := by decide +kernel
theorem dX6_goesBy_179 : decode cX6_goesBy 179 = .ok (.iload_n 1, 1) := by decide +kernel
theorem dX6_goesBy_180 : decode cX6_goesBy 180 = .ok (.aload_n 0, 1) := by decide +kernel
theorem dX6_goesBy_181 : decode cX6_goesBy 181 = .ok (.getfield 84, 3) := by decide +kernel
theorem dX6_goesBy_184 : decode cX6_goesBy 184 = .ok (.if_icmp .ge 35, 3) := by decide +kernel
theorem dX6_goesBy_187 : decode cX6_goesBy 187 = .ok (.aload_n 0, 1) := by decide +kernel
theorem dX6_goesBy_188 : decode cX6_goesBy 188 = .ok (.getfield 61, 3) := by decide +kernel
theorem dX6_goesBy_191 : decode cX6_goesBy 191 = .ok (.iload_n 1, 1) := by decide +kernel
theorem dX6_goesBy_192 : decode cX6_goesBy 192 = .ok (.aload_n 0, 1) := by decide +kernel
theorem dX6_goesBy_193 : decode cX6_goesBy 193 = .ok (.getfield 22, 3) := by decide +kernel
theorem dX6_goesBy_196 : decode cX6_goesBy 196 = .ok (.iload_n 1, 1) := by decide +kernel
theorem dX6_goesBy_197 : decode cX6_goesBy 197 = .ok (.iaload, 1) := by decide +kernel
theorem dX6_goesBy_198 : decode cX6_goesBy 198 = .ok (.iconst 1, 1) := by decide +kernel
theorem dX6_goesBy_199 : decode cX6_goesBy 199 = .ok (.if_icmp .ne 11, 3) := by decide +kernel
theorem dX6_goesBy_202 : decode cX6_goesBy 202 = .ok (.aload_n 0, 1) := by decide +kernel
theorem dX6_goesBy_203 : decode cX6_goesBy 203 = .ok (.iload_n 1, 1) := by decide +kernel
theorem dX6_goesBy_204 : decode cX6_goesBy 204 = .ok (.invokevirtual 178, 3) := by decide +kernel
theorem dX6_goesBy_207 : decode cX6_goesBy 207 = .ok (.goto 5, 3) := by decide +kernel
theorem dX6_goesBy_210 : decode cX6_goesBy 210 = .ok (.ldc 163, 2) := by decide +kernel
theorem dX6_goesBy_212 : decode cX6_goesBy 212 = .ok (.iastore, 1) := by decide +kernel
theorem dX6_goesBy_213 : decode cX6_goesBy 213 = .ok (.iinc 1 1, 3) := by decide +kernel
theorem dX6_goesBy_216 : decode cX6_goesBy 216 = .ok (.goto (-37), 3) := by decide +kernel
theorem dX6_goesBy_219 : decode cX6_goesBy 219 = .ok (.iconst 0, 1) := by decide +kernel
theorem dX6_goesBy_220 : decode cX6_goesBy 220 = .ok (.istore_n 1, 1) := by decide +kernel
theorem dX6_goesBy_221 : decode cX6_goesBy 221 = .ok (.iload_n 1, 1) := by decide +kernel
theorem dX6_goesBy_222 : decode cX6_goesBy 222 = .ok (.aload_n 0, 1) := by decide +kernel
theorem dX6_goesBy_223 : decode cX6_goesBy 223 = .ok (.getfield 84, 3) := by decide +kernel
theorem dX6_goesBy_226 : decode cX6_goesBy 226 = .ok (.if_icmp .ge 55, 3) := by decide +kernel
theorem dX6_goesBy_229 : decode cX6_goesBy 229 = .ok (.aload_n 0, 1) := by decide +kernel
theorem dX6_goesBy_230 : decode cX6_goesBy 230 = .ok (.getfield 22, 3) := by decide +kernel
theorem dX6_goesBy_233 : decode cX6_goesBy 233 = .ok (.iload_n 1, 1) := by decide +kernel
theorem dX6_goesBy_234 : decode cX6_goesBy 234 = .ok (.iaload, 1) := by decide +kernel
theorem dX6_goesBy_235 : decode cX6_goesBy 235 = .ok (.iconst 1, 1) := by decide +kernel
theorem dX6_goesBy_236 : decode cX6_goesBy 236 = .ok (.if_icmp .ne 39, 3) := by decide +kernel
theorem dX6_goesBy_239 : decode cX6_goesBy 239 = .ok (.aload_n 0, 1) := by decide +kernel
theorem dX6_goesBy_240 : decode cX6_goesBy 240 = .ok (.getfield 25, 3) := by decide +kernel
theorem dX6_goesBy_243 : decode cX6_goesBy 243 = .ok (.iload_n 1, 1) := by decide +kernel
theorem dX6_goesBy_244 : decode cX6_goesBy 244 = .ok (.dup2, 1) := by decide +kernel
theorem dX6_goesBy_245 : decode cX6_goesBy 245 = .ok (.iaload, 1) := by decide +kernel
theorem dX6_goesBy_246 : decode cX6_goesBy 246 = .ok (.iconst 1, 1) := by decide +kernel
theorem dX6_goesBy_247 : decode cX6_goesBy 247 = .ok (.iadd, 1) := by decide +kernel
theorem dX6_goesBy_248 : decode cX6_goesBy 248 = .ok (.iastore, 1) := by decide +kernel
theorem dX6_goesBy_249 : decode cX6_goesBy 249 = .ok (.aload_n 0, 1) := by decide +kernel
theorem dX6_goesBy_250 : decode cX6_goesBy 250 = .ok (.getfield 22, 3) := by decide +kernel
theorem dX6_goesBy_253 : decode cX6_goesBy 253 = .ok (.iload_n 1, 1) := by decide +kernel
theorem dX6_goesBy_254 : decode cX6_goesBy 254 = .ok (.aload_n 0, 1) := by decide +kernel
theorem dX6_goesBy_255 : decode cX6_goesBy 255 = .ok (.getfield 25, 3) := by decide +kernel
theorem dX6_goesBy_258 : decode cX6_goesBy 258 = .ok (.iload_n 1, 1) := by decide +kernel
theorem dX6_goesBy_259 : decode cX6_goesBy 259 = .ok (.iaload, 1) := by decide +kernel
theorem dX6_goesBy_260 : decode cX6_goesBy 260 = .ok (.aload_n 0, 1) := by decide +kernel
theorem dX6_goesBy_261 : decode cX6_goesBy 261 = .ok (.getfield 61, 3) := by decide +kernel
theorem dX6_goesBy_264 : decode cX6_goesBy 264 = .ok (.iload_n 1, 1) := by decide +kernel
theorem dX6_goesBy_265 : decode cX6_goesBy 265 = .ok (.iaload, 1) := by decide +kernel
theorem dX6_goesBy_266 : decode cX6_goesBy 266 = .ok (.if_icmp .lt 7, 3) := by decide +kernel
theorem dX6_goesBy_269 : decode cX6_goesBy 269 = .ok (.iconst 4, 1) := by decide +kernel
theorem dX6_goesBy_270 : decode cX6_goesBy 270 = .ok (.goto 4, 3) := by decide +kernel
theorem dX6_goesBy_273 : decode cX6_goesBy 273 = .ok (.iconst 1, 1) := by decide +kernel
theorem dX6_goesBy_274 : decode cX6_goesBy 274 = .ok (.iastore, 1) := by decide +kernel
theorem dX6_goesBy_275 : decode cX6_goesBy 275 = .ok (.iinc 1 1, 3) := by decide +kernel
theorem dX6_goesBy_278 : decode cX6_goesBy 278 = .ok (.goto (-57), 3) := by decide +kernel
theorem dX6_goesBy_281 : decode cX6_goesBy 281 = .ok (.aload_n 0, 1) := by decide +kernel
theorem dX6_goesBy_282 : decode cX6_goesBy 282 = .ok (.dup, 1) := by decide +kernel
theorem dX6_goesBy_283 : decode cX6_goesBy 283 = .ok (.getfield 141, 3) := by decide +kernel
theorem dX6_goesBy_286 : decode cX6_goesBy 286 = .ok (.iconst 1, 1) := by decide +kernel
theorem dX6_goesBy_287 : decode cX6_goesBy 287 = .ok (.iadd, 1) := by decide +kernel
theorem dX6_goesBy_288 : decode cX6_goesBy 288 = .ok (.putfield 141, 3) := by decide +kernel
theorem dX6_goesBy_291 : decode cX6_goesBy 291 = .ok (.return_, 1) := by decide +kernel
theorem dX6_caller_0 : decode cX6_caller 0 = .ok (.aload_n 0, 1) := by decide +kernel
theorem dX6_caller_1 : decode cX6_caller 1 = .ok (.iload_n 1, 1) := by decide +kernel
theorem dX6_caller_2 : decode cX6_caller 2 = .ok (.invokevirtual 181, 3) := by decide +kernel
theorem dX6_caller_5 : decode cX6_caller 5 = .ok (.ifCond .eq 13, 3) := by decide +kernel
theorem dX6_caller_8 : decode cX6_caller 8 = .ok (.iload_n 2, 1) := by decide +kernel
theorem dX6_caller_9 : decode cX6_caller 9 = .ok (.iconst 0, 1) := by decide +kernel
theorem dX6_caller_10 : decode cX6_caller 10 = .ok (.bipush 6, 2) := by decide +kernel
theorem dX6_caller_12 : decode cX6_caller 12 = .ok (.invokestatic 87, 3) := by decide +kernel
theorem dX6_caller_15 : decode cX6_caller 15 = .ok (.ifCond .ne 5, 3) := by decide +kernel
theorem dX6_caller_18 : decode cX6_caller 18 = .ok (.iconst (-1), 1) := by decide +kernel
theorem dX6_caller_19 : decode cX6_caller 19 = .ok (.ireturn, 1) := by decide +kernel
theorem dX6_caller_20 : decode cX6_caller 20 = .ok (.iload_n 2, 1) := by decide +kernel
theorem dX6_caller_21 : decode cX6_caller 21 = .ok (.tableswitch 81 0 5 #[39, 46, 53, 60, 67, 74], 39) := by decide +kernel
theorem dX6_caller_60 : decode cX6_caller 60 = .ok (.aload_n 0, 1) := by decide +kernel
theorem dX6_caller_61 : decode cX6_caller 61 = .ok (.getfield 7, 3) := by decide +kernel
theorem dX6_caller_64 : decode cX6_caller 64 = .ok (.iload_n 1, 1) := by decide +kernel
theorem dX6_caller_65 : decode cX6_caller 65 = .ok (.iaload, 1) := by decide +kernel
theorem dX6_caller_66 : decode cX6_caller 66 = .ok (.ireturn, 1) := by decide +kernel
theorem dX6_caller_67 : decode cX6_caller 67 = .ok (.aload_n 0, 1) := by decide +kernel
theorem dX6_caller_68 : decode cX6_caller 68 = .ok (.getfield 13, 3) := by decide +kernel
theorem dX6_caller_71 : decode cX6_caller 71 = .ok (.iload_n 1, 1) := by decide +kernel
theorem dX6_caller_72 : decode cX6_caller 72 = .ok (.iaload, 1) := by decide +kernel
theorem dX6_caller_73 : decode cX6_caller 73 = .ok (.ireturn, 1) := by decide +kernel
theorem dX6_caller_74 : decode cX6_caller 74 = .ok (.aload_n 0, 1) := by decide +kernel
theorem dX6_caller_75 : decode cX6_caller 75 = .ok (.getfield 16, 3) := by decide +kernel
theorem dX6_caller_78 : decode cX6_caller 78 = .ok (.iload_n 1, 1) := by decide +kernel
theorem dX6_caller_79 : decode cX6_caller 79 = .ok (.iaload, 1) := by decide +kernel
theorem dX6_caller_80 : decode cX6_caller 80 = .ok (.ireturn, 1) := by decide +kernel
theorem dX6_caller_81 : decode cX6_caller 81 = .ok (.aload_n 0, 1) := by decide +kernel
theorem dX6_caller_82 : decode cX6_caller 82 = .ok (.getfield 19, 3) := by decide +kernel
theorem dX6_caller_85 : decode cX6_caller 85 = .ok (.iload_n 1, 1) := by decide +kernel
theorem dX6_caller_86 : decode cX6_caller 86 = .ok (.iaload, 1) := by decide +kernel
theorem dX6_caller_87 : decode cX6_caller 87 = .ok (.ireturn, 1) := by decide +kernel
theorem dX6_caller_88 : decode cX6_caller 88 = .ok (.aload_n 0, 1) := by decide +kernel
theorem dX6_caller_89 : decode cX6_caller 89 = .ok (.getfield 22, 3) := by decide +kernel
theorem dX6_caller_92 : decode cX6_caller 92 = .ok (.iload_n 1, 1) := by decide +kernel
theorem dX6_caller_93 : decode cX6_caller 93 = .ok (.iaload, 1) := by decide +kernel
theorem dX6_caller_94 : decode cX6_caller 94 = .ok (.ireturn, 1) := by decide +kernel
theorem dX6_caller_95 : decode cX6_caller 95 = .ok (.aload_n 0, 1) := by decide +kernel
theorem dX6_caller_96 : decode cX6_caller 96 = .ok (.getfield 25, 3) := by decide +kernel
theorem dX6_caller_99 : decode cX6_caller 99 = .ok (.iload_n 1, 1) := by decide +kernel
theorem dX6_caller_100 : decode cX6_caller 100 = .ok (.iaload, 1) := by decide +kernel
theorem dX6_caller_101 : decode cX6_caller 101 = .ok (.ireturn, 1) := by decide +kernel
theorem dX6_caller_102 : decode cX6_caller 102 = .ok (.aload_n 0, 1) := by decide +kernel
theorem dX6_caller_103 : decode cX6_caller 103 = .ok (.getfield 22, 3) := by decide +kernel
theorem dX6_caller_106 : decode cX6_caller 106 = .ok (.iload_n 1, 1) := by decide +kernel
theorem dX6_caller_107 : decode cX6_caller 107 = .ok (.iaload, 1) := by decide +kernel
theorem dX6_caller_108 : decode cX6_caller 108 = .ok (.iconst 1, 1) := by decide +kernel
theorem dX6_caller_109 : decode cX6_caller 109 = .ok (.if_icmp .ne 21, 3) := by decide +kernel
theorem dX6_caller_112 : decode cX6_caller 112 = .ok (.aload_n 0, 1) := by decide +kernel
theorem dX6_caller_113 : decode cX6_caller 113 = .ok (.iload_n 1, 1) := by decide +kernel
theorem dX6_caller_114 : decode cX6_caller 114 = .ok (.invokevirtual 178, 3) := by decide +kernel
theorem dX6_caller_117 : decode cX6_caller 117 = .ok (.ldc 163, 2) := by decide +kernel
theorem dX6_caller_119 : decode cX6_caller 119 = .ok (.if_icmp .ge 11, 3) := by decide +kernel
theorem dX6_caller_122 : decode cX6_caller 122 = .ok (.aload_n 0, 1) := by decide +kernel
theorem dX6_caller_123 : decode cX6_caller 123 = .ok (.iload_n 1, 1) := by decide +kernel
theorem dX6_caller_124 : decode cX6_caller 124 = .ok (.invokevirtual 178, 3) := by decide +kernel
theorem dX6_caller_127 : decode cX6_caller 127 = .ok (.goto 5, 3) := by decide +kernel
theorem dX6_caller_130 : decode cX6_caller 130 = .ok (.bipush (-4), 2) := by decide +kernel
theorem dX6_caller_132 : decode cX6_caller 132 = .ok (.ireturn, 1) := by decide +kernel
theorem dX6_lays_0 : decode cX6_lays 0 = .ok (.aload_n 1, 1) := by decide +kernel
theorem dX6_lays_1 : decode cX6_lays 1 = .ok (.iload_n 2, 1) := by decide +kernel
theorem dX6_lays_2 : decode cX6_lays 2 = .ok (.aload_n 0, 1) := by decide +kernel
theorem dX6_lays_3 : decode cX6_lays 3 = .ok (.getfield 141, 3) := by decide +kernel
theorem dX6_lays_6 : decode cX6_lays 6 = .ok (.iastore, 1) := by decide +kernel
theorem dX6_lays_7 : decode cX6_lays 7 = .ok (.aload_n 1, 1) := by decide +kernel
theorem dX6_lays_8 : decode cX6_lays 8 = .ok (.iload_n 2, 1) := by decide +kernel
theorem dX6_lays_9 : decode cX6_lays 9 = .ok (.iconst 1, 1) := by decide +kernel
theorem dX6_lays_10 : decode cX6_lays 10 = .ok (.iadd, 1) := by decide +kernel
theorem dX6_lays_11 : decode cX6_lays 11 = .ok (.aload_n 0, 1) := by decide +kernel
theorem dX6_lays_12 : decode cX6_lays 12 = .ok (.getfield 77, 3) := by decide +kernel
theorem dX6_lays_15 : decode cX6_lays 15 = .ok (.iastore, 1) := by decide +kernel
theorem dX6_lays_16 : decode cX6_lays 16 = .ok (.aload_n 1, 1) := by decide +kernel
theorem dX6_lays_17 : decode cX6_lays 17 = .ok (.iload_n 2, 1) := by decide +kernel
theorem dX6_lays_18 : decode cX6_lays 18 = .ok (.iconst 2, 1) := by decide +kernel
theorem dX6_lays_19 : decode cX6_lays 19 = .ok (.iadd, 1) := by decide +kernel
theorem dX6_lays_20 : decode cX6_lays 20 = .ok (.aload_n 0, 1) := by decide +kernel
theorem dX6_lays_21 : decode cX6_lays 21 = .ok (.getfield 144, 3) := by decide +kernel
theorem dX6_lays_24 : decode cX6_lays 24 = .ok (.iastore, 1) := by decide +kernel
theorem dX6_lays_25 : decode cX6_lays 25 = .ok (.aload_n 1, 1) := by decide +kernel
theorem dX6_lays_26 : decode cX6_lays 26 = .ok (.iload_n 2, 1) := by decide +kernel
theorem dX6_lays_27 : decode cX6_lays 27 = .ok (.iconst 3, 1) := by decide +kernel
theorem dX6_lays_28 : decode cX6_lays 28 = .ok (.iadd, 1) := by decide +kernel
theorem dX6_lays_29 : decode cX6_lays 29 = .ok (.aload_n 0, 1) := by decide +kernel
theorem dX6_lays_30 : decode cX6_lays 30 = .ok (.getfield 138, 3) := by decide +kernel
theorem dX6_lays_33 : decode cX6_lays 33 = .ok (.iastore, 1) := by decide +kernel
theorem dX6_lays_34 : decode cX6_lays 34 = .ok (.iconst 0, 1) := by decide +kernel
theorem dX6_lays_35 : decode cX6_lays 35 = .ok (.istore_n 3, 1) := by decide +kernel
theorem dX6_lays_36 : decode cX6_lays 36 = .ok (.iload_n 3, 1) := by decide +kernel
theorem dX6_lays_37 : decode cX6_lays 37 = .ok (.bipush 8, 2) := by decide +kernel
theorem dX6_lays_39 : decode cX6_lays 39 = .ok (.if_icmp .ge 78, 3) := by decide +kernel
theorem dX6_lays_42 : decode cX6_lays 42 = .ok (.aload_n 1, 1) := by decide +kernel
theorem dX6_lays_43 : decode cX6_lays 43 = .ok (.iload_n 2, 1) := by decide +kernel
theorem dX6_lays_44 : decode cX6_lays 44 = .ok (.iconst 4, 1) := by decide +kernel
theorem dX6_lays_45 : decode cX6_lays 45 = .ok (.iadd, 1) := by decide +kernel
theorem dX6_lays_46 : decode cX6_lays 46 = .ok (.iload_n 3, 1) := by decide +kernel
theorem dX6_lays_47 : decode cX6_lays 47 = .ok (.iadd, 1) := by decide +kernel
theorem dX6_lays_48 : decode cX6_lays 48 = .ok (.aload_n 0, 1) := by decide +kernel
theorem dX6_lays_49 : decode cX6_lays 49 = .ok (.getfield 22, 3) := by decide +kernel
theorem dX6_lays_52 : decode cX6_lays 52 = .ok (.iload_n 3, 1) := by decide +kernel
theorem dX6_lays_53 : decode cX6_lays 53 = .ok (.iaload, 1) := by decide +kernel
theorem dX6_lays_54 : decode cX6_lays 54 = .ok (.iastore, 1) := by decide +kernel
theorem dX6_lays_55 : decode cX6_lays 55 = .ok (.aload_n 1, 1) := by decide +kernel
theorem dX6_lays_56 : decode cX6_lays 56 = .ok (.iload_n 2, 1) := by decide +kernel
theorem dX6_lays_57 : decode cX6_lays 57 = .ok (.bipush 12, 2) := by decide +kernel
theorem dX6_lays_59 : decode cX6_lays 59 = .ok (.iadd, 1) := by decide +kernel
theorem dX6_lays_60 : decode cX6_lays 60 = .ok (.iload_n 3, 1) := by decide +kernel
theorem dX6_lays_61 : decode cX6_lays 61 = .ok (.iadd, 1) := by decide +kernel
theorem dX6_lays_62 : decode cX6_lays 62 = .ok (.aload_n 0, 1) := by decide +kernel
theorem dX6_lays_63 : decode cX6_lays 63 = .ok (.getfield 25, 3) := by decide +kernel
theorem dX6_lays_66 : decode cX6_lays 66 = .ok (.iload_n 3, 1) := by decide +kernel
theorem dX6_lays_67 : decode cX6_lays 67 = .ok (.iaload, 1) := by decide +kernel
theorem dX6_lays_68 : decode cX6_lays 68 = .ok (.iastore, 1) := by decide +kernel
theorem dX6_lays_69 : decode cX6_lays 69 = .ok (.aload_n 1, 1) := by decide +kernel
theorem dX6_lays_70 : decode cX6_lays 70 = .ok (.iload_n 2, 1) := by decide +kernel
theorem dX6_lays_71 : decode cX6_lays 71 = .ok (.bipush 20, 2) := by decide +kernel
theorem dX6_lays_73 : decode cX6_lays 73 = .ok (.iadd, 1) := by decide +kernel
theorem dX6_lays_74 : decode cX6_lays 74 = .ok (.iload_n 3, 1) := by decide +kernel
theorem dX6_lays_75 : decode cX6_lays 75 = .ok (.iadd, 1) := by decide +kernel
theorem dX6_lays_76 : decode cX6_lays 76 = .ok (.aload_n 0, 1) := by decide +kernel
theorem dX6_lays_77 : decode cX6_lays 77 = .ok (.getfield 28, 3) := by decide +kernel
theorem dX6_lays_80 : decode cX6_lays 80 = .ok (.iload_n 3, 1) := by decide +kernel
theorem dX6_lays_81 : decode cX6_lays 81 = .ok (.iaload, 1) := by decide +kernel
theorem dX6_lays_82 : decode cX6_lays 82 = .ok (.iastore, 1) := by decide +kernel
theorem dX6_lays_83 : decode cX6_lays 83 = .ok (.aload_n 1, 1) := by decide +kernel
theorem dX6_lays_84 : decode cX6_lays 84 = .ok (.iload_n 2, 1) := by decide +kernel
theorem dX6_lays_85 : decode cX6_lays 85 = .ok (.bipush 28, 2) := by decide +kernel
theorem dX6_lays_87 : decode cX6_lays 87 = .ok (.iadd, 1) := by decide +kernel
theorem dX6_lays_88 : decode cX6_lays 88 = .ok (.iload_n 3, 1) := by decide +kernel
theorem dX6_lays_89 : decode cX6_lays 89 = .ok (.iadd, 1) := by decide +kernel
theorem dX6_lays_90 : decode cX6_lays 90 = .ok (.aload_n 0, 1) := by decide +kernel
theorem dX6_lays_91 : decode cX6_lays 91 = .ok (.getfield 31, 3) := by decide +kernel
theorem dX6_lays_94 : decode cX6_lays 94 = .ok (.iload_n 3, 1) := by decide +kernel
theorem dX6_lays_95 : decode cX6_lays 95 = .ok (.iaload, 1) := by decide +kernel
theorem dX6_lays_96 : decode cX6_lays 96 = .ok (.iastore, 1) := by decide +kernel
theorem dX6_lays_97 : decode cX6_lays 97 = .ok (.aload_n 1, 1) := by decide +kernel
theorem dX6_lays_98 : decode cX6_lays 98 = .ok (.iload_n 2, 1) := by decide +kernel
theorem dX6_lays_99 : decode cX6_lays 99 = .ok (.bipush 36, 2) := by decide +kernel
theorem dX6_lays_101 : decode cX6_lays 101 = .ok (.iadd, 1) := by decide +kernel
theorem dX6_lays_102 : decode cX6_lays 102 = .ok (.iload_n 3, 1) := by decide +kernel
theorem dX6_lays_103 : decode cX6_lays 103 = .ok (.iadd, 1) := by decide +kernel
theorem dX6_lays_104 : decode cX6_lays 104 = .ok (.aload_n 0, 1) := by decide +kernel
theorem dX6_lays_105 : decode cX6_lays 105 = .ok (.getfield 34, 3) := by decide +kernel
theorem dX6_lays_108 : decode cX6_lays 108 = .ok (.iload_n 3, 1) := by decide +kernel
theorem dX6_lays_109 : decode cX6_lays 109 = .ok (.iaload, 1) := by decide +kernel
theorem dX6_lays_110 : decode cX6_lays 110 = .ok (.iastore, 1) := by decide +kernel
theorem dX6_lays_111 : decode cX6_lays 111 = .ok (.iinc 3 1, 3) := by decide +kernel
theorem dX6_lays_114 : decode cX6_lays 114 = .ok (.goto (-78), 3) := by decide +kernel
theorem dX6_lays_117 : decode cX6_lays 117 = .ok (.return_, 1) := by decide +kernel
theorem dX6_takes_0 : decode cX6_takes 0 = .ok (.aload_n 0, 1) := by decide +kernel
theorem dX6_takes_1 : decode cX6_takes 1 = .ok (.aload_n 1, 1) := by decide +kernel
theorem dX6_takes_2 : decode cX6_takes 2 = .ok (.iload_n 2, 1) := by decide +kernel
theorem dX6_takes_3 : decode cX6_takes 3 = .ok (.iaload, 1) := by decide +kernel
theorem dX6_takes_4 : decode cX6_takes 4 = .ok (.putfield 141, 3) := by decide +kernel
theorem dX6_takes_7 : decode cX6_takes 7 = .ok (.aload_n 0, 1) := by decide +kernel
theorem dX6_takes_8 : decode cX6_takes 8 = .ok (.aload_n 1, 1) := by decide +kernel
theorem dX6_takes_9 : decode cX6_takes 9 = .ok (.iload_n 2, 1) := by decide +kernel
theorem dX6_takes_10 : decode cX6_takes 10 = .ok (.iconst 1, 1) := by decide +kernel
theorem dX6_takes_11 : decode cX6_takes 11 = .ok (.iadd, 1) := by decide +kernel
theorem dX6_takes_12 : decode cX6_takes 12 = .ok (.iaload, 1) := by decide +kernel
theorem dX6_takes_13 : decode cX6_takes 13 = .ok (.putfield 77, 3) := by decide +kernel
theorem dX6_takes_16 : decode cX6_takes 16 = .ok (.aload_n 0, 1) := by decide +kernel
theorem dX6_takes_17 : decode cX6_takes 17 = .ok (.aload_n 1, 1) := by decide +kernel
theorem dX6_takes_18 : decode cX6_takes 18 = .ok (.iload_n 2, 1) := by decide +kernel
theorem dX6_takes_19 : decode cX6_takes 19 = .ok (.iconst 2, 1) := by decide +kernel
theorem dX6_takes_20 : decode cX6_takes 20 = .ok (.iadd, 1) := by decide +kernel
theorem dX6_takes_21 : decode cX6_takes 21 = .ok (.iaload, 1) := by decide +kernel
theorem dX6_takes_22 : decode cX6_takes 22 = .ok (.putfield 144, 3) := by decide +kernel
theorem dX6_takes_25 : decode cX6_takes 25 = .ok (.aload_n 0, 1) := by decide +kernel
theorem dX6_takes_26 : decode cX6_takes 26 = .ok (.aload_n 1, 1) := by decide +kernel
theorem dX6_takes_27 : decode cX6_takes 27 = .ok (.iload_n 2, 1) := by decide +kernel
theorem dX6_takes_28 : decode cX6_takes 28 = .ok (.iconst 3, 1) := by decide +kernel
theorem dX6_takes_29 : decode cX6_takes 29 = .ok (.iadd, 1) := by decide +kernel
theorem dX6_takes_30 : decode cX6_takes 30 = .ok (.iaload, 1) := by decide +kernel
theorem dX6_takes_31 : decode cX6_takes 31 = .ok (.putfield 138, 3) := by decide +kernel
theorem dX6_takes_34 : decode cX6_takes 34 = .ok (.iconst 0, 1) := by decide +kernel
theorem dX6_takes_35 : decode cX6_takes 35 = .ok (.istore_n 3, 1) := by decide +kernel
theorem dX6_takes_36 : decode cX6_takes 36 = .ok (.iload_n 3, 1) := by decide +kernel
theorem dX6_takes_37 : decode cX6_takes 37 = .ok (.bipush 8, 2) := by decide +kernel
theorem dX6_takes_39 : decode cX6_takes 39 = .ok (.if_icmp .ge 78, 3) := by decide +kernel
theorem dX6_takes_42 : decode cX6_takes 42 = .ok (.aload_n 0, 1) := by decide +kernel
theorem dX6_takes_43 : decode cX6_takes 43 = .ok (.getfield 22, 3) := by decide +kernel
theorem dX6_takes_46 : decode cX6_takes 46 = .ok (.iload_n 3, 1) := by decide +kernel
theorem dX6_takes_47 : decode cX6_takes 47 = .ok (.aload_n 1, 1) := by decide +kernel
theorem dX6_takes_48 : decode cX6_takes 48 = .ok (.iload_n 2, 1) := by decide +kernel
theorem dX6_takes_49 : decode cX6_takes 49 = .ok (.iconst 4, 1) := by decide +kernel
theorem dX6_takes_50 : decode cX6_takes 50 = .ok (.iadd, 1) := by decide +kernel
theorem dX6_takes_51 : decode cX6_takes 51 = .ok (.iload_n 3, 1) := by decide +kernel
theorem dX6_takes_52 : decode cX6_takes 52 = .ok (.iadd, 1) := by decide +kernel
theorem dX6_takes_53 : decode cX6_takes 53 = .ok (.iaload, 1) := by decide +kernel
theorem dX6_takes_54 : decode cX6_takes 54 = .ok (.iastore, 1) := by decide +kernel
theorem dX6_takes_55 : decode cX6_takes 55 = .ok (.aload_n 0, 1) := by decide +kernel
theorem dX6_takes_56 : decode cX6_takes 56 = .ok (.getfield 25, 3) := by decide +kernel
theorem dX6_takes_59 : decode cX6_takes 59 = .ok (.iload_n 3, 1) := by decide +kernel
theorem dX6_takes_60 : decode cX6_takes 60 = .ok (.aload_n 1, 1) := by decide +kernel
theorem dX6_takes_61 : decode cX6_takes 61 = .ok (.iload_n 2, 1) := by decide +kernel
theorem dX6_takes_62 : decode cX6_takes 62 = .ok (.bipush 12, 2) := by decide +kernel
theorem dX6_takes_64 : decode cX6_takes 64 = .ok (.iadd, 1) := by decide +kernel
theorem dX6_takes_65 : decode cX6_takes 65 = .ok (.iload_n 3, 1) := by decide +kernel
theorem dX6_takes_66 : decode cX6_takes 66 = .ok (.iadd, 1) := by decide +kernel
theorem dX6_takes_67 : decode cX6_takes 67 = .ok (.iaload, 1) := by decide +kernel
theorem dX6_takes_68 : decode cX6_takes 68 = .ok (.iastore, 1) := by decide +kernel
theorem dX6_takes_69 : decode cX6_takes 69 = .ok (.aload_n 0, 1) := by decide +kernel
theorem dX6_takes_70 : decode cX6_takes 70 = .ok (.getfield 28, 3) := by decide +kernel
theorem dX6_takes_73 : decode cX6_takes 73 = .ok (.iload_n 3, 1) := by decide +kernel
theorem dX6_takes_74 : decode cX6_takes 74 = .ok (.aload_n 1, 1) := by decide +kernel
theorem dX6_takes_75 : decode cX6_takes 75 = .ok (.iload_n 2, 1) := by decide +kernel
theorem dX6_takes_76 : decode cX6_takes 76 = .ok (.bipush 20, 2) := by decide +kernel
theorem dX6_takes_78 : decode cX6_takes 78 = .ok (.iadd, 1) := by decide +kernel
theorem dX6_takes_79 : decode cX6_takes 79 = .ok (.iload_n 3, 1) := by decide +kernel
theorem dX6_takes_80 : decode cX6_takes 80 = .ok (.iadd, 1) := by decide +kernel
theorem dX6_takes_81 : decode cX6_takes 81 = .ok (.iaload, 1) := by decide +kernel
theorem dX6_takes_82 : decode cX6_takes 82 = .ok (.iastore, 1) := by decide +kernel
theorem dX6_takes_83 : decode cX6_takes 83 = .ok (.aload_n 0, 1) := by decide +kernel
theorem dX6_takes_84 : decode cX6_takes 84 = .ok (.getfield 31, 3) := by decide +kernel
theorem dX6_takes_87 : decode cX6_takes 87 = .ok (.iload_n 3, 1) := by decide +kernel
theorem dX6_takes_88 : decode cX6_takes 88 = .ok (.aload_n 1, 1) := by decide +kernel
theorem dX6_takes_89 : decode cX6_takes 89 = .ok (.iload_n 2, 1) := by decide +kernel
theorem dX6_takes_90 : decode cX6_takes 90 = .ok (.bipush 28, 2) := by decide +kernel
theorem dX6_takes_92 : decode cX6_takes 92 = .ok (.iadd, 1) := by decide +kernel
theorem dX6_takes_93 : decode cX6_takes 93 = .ok (.iload_n 3, 1) := by decide +kernel
theorem dX6_takes_94 : decode cX6_takes 94 = .ok (.iadd, 1) := by decide +kernel
theorem dX6_takes_95 : decode cX6_takes 95 = .ok (.iaload, 1) := by decide +kernel
theorem dX6_takes_96 : decode cX6_takes 96 = .ok (.iastore, 1) := by decide +kernel
theorem dX6_takes_97 : decode cX6_takes 97 = .ok (.aload_n 0, 1) := by decide +kernel
theorem dX6_takes_98 : decode cX6_takes 98 = .ok (.getfield 34, 3) := by decide +kernel
theorem dX6_takes_101 : decode cX6_takes 101 = .ok (.iload_n 3, 1) := by decide +kernel
theorem dX6_takes_102 : decode cX6_takes 102 = .ok (.aload_n 1, 1) := by decide +kernel
theorem dX6_takes_103 : decode cX6_takes 103 = .ok (.iload_n 2, 1) := by decide +kernel
theorem dX6_takes_104 : decode cX6_takes 104 = .ok (.bipush 36, 2) := by decide +kernel
theorem dX6_takes_106 : decode cX6_takes 106 = .ok (.iadd, 1) := by decide +kernel
theorem dX6_takes_107 : decode cX6_takes 107 = .ok (.iload_n 3, 1) := by decide +kernel
theorem dX6_takes_108 : decode cX6_takes 108 = .ok (.iadd, 1) := by decide +kernel
theorem dX6_takes_109 : decode cX6_takes 109 = .ok (.iaload, 1) := by decide +kernel
theorem dX6_takes_110 : decode cX6_takes 110 = .ok (.iastore, 1) := by decide +kernel
theorem dX6_takes_111 : decode cX6_takes 111 = .ok (.iinc 3 1, 3) := by decide +kernel
theorem dX6_takes_114 : decode cX6_takes 114 = .ok (.goto (-78), 3) := by decide +kernel
theorem dX6_takes_117 : decode cX6_takes 117 = .ok (.return_, 1) := by decide +kernel
theorem dX6_notes_0 : decode cX6_notes 0 = .ok (.aload_n 0, 1) := by decide +kernel
theorem dX6_notes_1 : decode cX6_notes 1 = .ok (.getfield 150, 3) := by decide +kernel
theorem dX6_notes_4 : decode cX6_notes 4 = .ok (.bipush 8, 2) := by decide +kernel
theorem dX6_notes_6 : decode cX6_notes 6 = .ok (.if_icmp .ne 43, 3) := by decide +kernel
theorem dX6_notes_9 : decode cX6_notes 9 = .ok (.iconst 0, 1) := by decide +kernel
theorem dX6_notes_10 : decode cX6_notes 10 = .ok (.istore_n 1, 1) := by decide +kernel
theorem dX6_notes_11 : decode cX6_notes 11 = .ok (.iload_n 1, 1) := by decide +kernel
theorem dX6_notes_12 : decode cX6_notes 12 = .ok (.sipush 308, 3) := by decide +kernel
theorem dX6_notes_15 : decode cX6_notes 15 = .ok (.if_icmp .ge 24, 3) := by decide +kernel
theorem dX6_notes_18 : decode cX6_notes 18 = .ok (.aload_n 0, 1) := by decide +kernel
theorem dX6_notes_19 : decode cX6_notes 19 = .ok (.getfield 64, 3) := by decide +kernel
theorem dX6_notes_22 : decode cX6_notes 22 = .ok (.iload_n 1, 1) := by decide +kernel
theorem dX6_notes_23 : decode cX6_notes 23 = .ok (.aload_n 0, 1) := by decide +kernel
theorem dX6_notes_24 : decode cX6_notes 24 = .ok (.getfield 64, 3) := by decide +kernel
theorem dX6_notes_27 : decode cX6_notes 27 = .ok (.iload_n 1, 1) := by decide +kernel
theorem dX6_notes_28 : decode cX6_notes 28 = .ok (.bipush 44, 2) := by decide +kernel
theorem dX6_notes_30 : decode cX6_notes 30 = .ok (.iadd, 1) := by decide +kernel
theorem dX6_notes_31 : decode cX6_notes 31 = .ok (.iaload, 1) := by decide +kernel
theorem dX6_notes_32 : decode cX6_notes 32 = .ok (.iastore, 1) := by decide +kernel
theorem dX6_notes_33 : decode cX6_notes 33 = .ok (.iinc 1 1, 3) := by decide +kernel
theorem dX6_notes_36 : decode cX6_notes 36 = .ok (.goto (-25), 3) := by decide +kernel
theorem dX6_notes_39 : decode cX6_notes 39 = .ok (.aload_n 0, 1) := by decide +kernel
theorem dX6_notes_40 : decode cX6_notes 40 = .ok (.dup, 1) := by decide +kernel
theorem dX6_notes_41 : decode cX6_notes 41 = .ok (.getfield 150, 3) := by decide +kernel
theorem dX6_notes_44 : decode cX6_notes 44 = .ok (.iconst 1, 1) := by decide +kernel
theorem dX6_notes_45 : decode cX6_notes 45 = .ok (.isub, 1) := by decide +kernel
theorem dX6_notes_46 : decode cX6_notes 46 = .ok (.putfield 150, 3) := by decide +kernel
theorem dX6_notes_49 : decode cX6_notes 49 = .ok (.aload_n 0, 1) := by decide +kernel
theorem dX6_notes_50 : decode cX6_notes 50 = .ok (.aload_n 0, 1) := by decide +kernel
theorem dX6_notes_51 : decode cX6_notes 51 = .ok (.getfield 64, 3) := by decide +kernel
theorem dX6_notes_54 : decode cX6_notes 54 = .ok (.bipush 44, 2) := by decide +kernel
theorem dX6_notes_56 : decode cX6_notes 56 = .ok (.aload_n 0, 1) := by decide +kernel
theorem dX6_notes_57 : decode cX6_notes 57 = .ok (.getfield 150, 3) := by decide +kernel
theorem dX6_notes_60 : decode cX6_notes 60 = .ok (.imul, 1) := by decide +kernel
theorem dX6_notes_61 : decode cX6_notes 61 = .ok (.invokevirtual 185, 3) := by decide +kernel
theorem dX6_notes_64 : decode cX6_notes 64 = .ok (.aload_n 0, 1) := by decide +kernel
theorem dX6_notes_65 : decode cX6_notes 65 = .ok (.dup, 1) := by decide +kernel
theorem dX6_notes_66 : decode cX6_notes 66 = .ok (.getfield 150, 3) := by decide +kernel
theorem dX6_notes_69 : decode cX6_notes 69 = .ok (.iconst 1, 1) := by decide +kernel
theorem dX6_notes_70 : decode cX6_notes 70 = .ok (.iadd, 1) := by decide +kernel
theorem dX6_notes_71 : decode cX6_notes 71 = .ok (.putfield 150, 3) := by decide +kernel
theorem dX6_notes_74 : decode cX6_notes 74 = .ok (.return_, 1) := by decide +kernel
theorem dX6_pass_0 : decode cX6_pass 0 = .ok (.iload_n 1, 1) := by decide +kernel
theorem dX6_pass_1 : decode cX6_pass 1 = .ok (.iconst 1, 1) := by decide +kernel
theorem dX6_pass_2 : decode cX6_pass 2 = .ok (.bipush 40, 2) := by decide +kernel
theorem dX6_pass_4 : decode cX6_pass 4 = .ok (.invokestatic 87, 3) := by decide +kernel
theorem dX6_pass_7 : decode cX6_pass 7 = .ok (.ifCond .ne 5, 3) := by decide +kernel
theorem dX6_pass_10 : decode cX6_pass 10 = .ok (.iconst (-1), 1) := by decide +kernel
theorem dX6_pass_11 : decode cX6_pass 11 = .ok (.ireturn, 1) := by decide +kernel
theorem dX6_pass_12 : decode cX6_pass 12 = .ok (.aload_n 0, 1) := by decide +kernel
theorem dX6_pass_13 : decode cX6_pass 13 = .ok (.getfield 141, 3) := by decide +kernel
theorem dX6_pass_16 : decode cX6_pass 16 = .ok (.iload_n 1, 1) := by decide +kernel
theorem dX6_pass_17 : decode cX6_pass 17 = .ok (.iadd, 1) := by decide +kernel
theorem dX6_pass_18 : decode cX6_pass 18 = .ok (.sipush 999, 3) := by decide +kernel
theorem dX6_pass_21 : decode cX6_pass 21 = .ok (.if_icmp .le 6, 3) := by decide +kernel
theorem dX6_pass_24 : decode cX6_pass 24 = .ok (.bipush (-2), 2) := by decide +kernel
theorem dX6_pass_26 : decode cX6_pass 26 = .ok (.ireturn, 1) := by decide +kernel
theorem dX6_pass_27 : decode cX6_pass 27 = .ok (.aload_n 0, 1) := by decide +kernel
theorem dX6_pass_28 : decode cX6_pass 28 = .ok (.invokevirtual 189, 3) := by decide +kernel
theorem dX6_pass_31 : decode cX6_pass 31 = .ok (.aload_n 0, 1) := by decide +kernel
theorem dX6_pass_32 : decode cX6_pass 32 = .ok (.iload_n 1, 1) := by decide +kernel
theorem dX6_pass_33 : decode cX6_pass 33 = .ok (.invokevirtual 192, 3) := by decide +kernel
theorem dX6_pass_36 : decode cX6_pass 36 = .ok (.aload_n 0, 1) := by decide +kernel
theorem dX6_pass_37 : decode cX6_pass 37 = .ok (.getfield 141, 3) := by decide +kernel
theorem dX6_pass_40 : decode cX6_pass 40 = .ok (.ireturn, 1) := by decide +kernel
theorem dX6_goes_0 : decode cX6_goes 0 = .ok (.iconst 0, 1) := by decide +kernel
theorem dX6_goes_1 : decode cX6_goes 1 = .ok (.istore_n 2, 1) := by decide +kernel
theorem dX6_goes_2 : decode cX6_goes 2 = .ok (.iload_n 2, 1) := by decide +kernel
theorem dX6_goes_3 : decode cX6_goes 3 = .ok (.iload_n 1, 1) := by decide +kernel
theorem dX6_goes_4 : decode cX6_goes 4 = .ok (.if_icmp .ge 13, 3) := by decide +kernel
theorem dX6_goes_7 : decode cX6_goes 7 = .ok (.aload_n 0, 1) := by decide +kernel
theorem dX6_goes_8 : decode cX6_goes 8 = .ok (.invokevirtual 195, 3) := by decide +kernel
theorem dX6_goes_11 : decode cX6_goes 11 = .ok (.iinc 2 1, 3) := by decide +kernel
theorem dX6_goes_14 : decode cX6_goes 14 = .ok (.goto (-12), 3) := by decide +kernel
theorem dX6_goes_17 : decode cX6_goes 17 = .ok (.return_, 1) := by decide +kernel
theorem dX6_hangs_0 : decode cX6_hangs 0 = .ok (.aload_n 0, 1) := by decide +kernel
theorem dX6_hangs_1 : decode cX6_hangs 1 = .ok (.getfield 22, 3) := by decide +kernel
theorem dX6_hangs_4 : decode cX6_hangs 4 = .ok (.iload_n 1, 1) := by decide +kernel
theorem dX6_hangs_5 : decode cX6_hangs 5 = .ok (.iconst 4, 1) := by decide +kernel
theorem dX6_hangs_6 : decode cX6_hangs 6 = .ok (.iastore, 1) := by decide +kernel
theorem dX6_hangs_7 : decode cX6_hangs 7 = .ok (.return_, 1) := by decide +kernel
theorem dX6_hang_0 : decode cX6_hang 0 = .ok (.aload_n 0, 1) := by decide +kernel
theorem dX6_hang_1 : decode cX6_hang 1 = .ok (.iload_n 1, 1) := by decide +kernel
theorem dX6_hang_2 : decode cX6_hang 2 = .ok (.invokevirtual 181, 3) := by decide +kernel
theorem dX6_hang_5 : decode cX6_hang 5 = .ok (.ifCond .ne 5, 3) := by decide +kernel
theorem dX6_hang_8 : decode cX6_hang 8 = .ok (.iconst (-1), 1) := by decide +kernel
theorem dX6_hang_9 : decode cX6_hang 9 = .ok (.ireturn, 1) := by decide +kernel
theorem dX6_hang_10 : decode cX6_hang 10 = .ok (.aload_n 0, 1) := by decide +kernel
theorem dX6_hang_11 : decode cX6_hang 11 = .ok (.getfield 22, 3) := by decide +kernel
theorem dX6_hang_14 : decode cX6_hang 14 = .ok (.iload_n 1, 1) := by decide +kernel
theorem dX6_hang_15 : decode cX6_hang 15 = .ok (.iaload, 1) := by decide +kernel
theorem dX6_hang_16 : decode cX6_hang 16 = .ok (.iconst 1, 1) := by decide +kernel
theorem dX6_hang_17 : decode cX6_hang 17 = .ok (.if_icmp .eq 6, 3) := by decide +kernel
theorem dX6_hang_20 : decode cX6_hang 20 = .ok (.bipush (-2), 2) := by decide +kernel
theorem dX6_hang_22 : decode cX6_hang 22 = .ok (.ireturn, 1) := by decide +kernel
theorem dX6_hang_23 : decode cX6_hang 23 = .ok (.aload_n 0, 1) := by decide +kernel
theorem dX6_hang_24 : decode cX6_hang 24 = .ok (.invokevirtual 189, 3) := by decide +kernel
theorem dX6_hang_27 : decode cX6_hang 27 = .ok (.aload_n 0, 1) := by decide +kernel
theorem dX6_hang_28 : decode cX6_hang 28 = .ok (.iload_n 1, 1) := by decide +kernel
theorem dX6_hang_29 : decode cX6_hang 29 = .ok (.invokevirtual 198, 3) := by decide +kernel
theorem dX6_hang_32 : decode cX6_hang 32 = .ok (.aload_n 0, 1) := by decide +kernel
theorem dX6_hang_33 : decode cX6_hang 33 = .ok (.getfield 25, 3) := by decide +kernel
theorem dX6_hang_36 : decode cX6_hang 36 = .ok (.iload_n 1, 1) := by decide +kernel
theorem dX6_hang_37 : decode cX6_hang 37 = .ok (.iaload, 1) := by decide +kernel
theorem dX6_hang_38 : decode cX6_hang 38 = .ok (.ireturn, 1) := by decide +kernel
theorem dX6_recalls_0 : decode cX6_recalls 0 = .ok (.aload_n 0, 1) := by decide +kernel
theorem dX6_recalls_1 : decode cX6_recalls 1 = .ok (.getfield 22, 3) := by decide +kernel
theorem dX6_recalls_4 : decode cX6_recalls 4 = .ok (.iload_n 1, 1) := by decide +kernel
theorem dX6_recalls_5 : decode cX6_recalls 5 = .ok (.iconst 0, 1) := by decide +kernel
theorem dX6_recalls_6 : decode cX6_recalls 6 = .ok (.iastore, 1) := by decide +kernel
theorem dX6_recalls_7 : decode cX6_recalls 7 = .ok (.aload_n 0, 1) := by decide +kernel
theorem dX6_recalls_8 : decode cX6_recalls 8 = .ok (.getfield 34, 3) := by decide +kernel
theorem dX6_recalls_11 : decode cX6_recalls 11 = .ok (.iload_n 1, 1) := by decide +kernel
theorem dX6_recalls_12 : decode cX6_recalls 12 = .ok (.iconst 1, 1) := by decide +kernel
theorem dX6_recalls_13 : decode cX6_recalls 13 = .ok (.iastore, 1) := by decide +kernel
theorem dX6_recalls_14 : decode cX6_recalls 14 = .ok (.return_, 1) := by decide +kernel
theorem dX6_recall_0 : decode cX6_recall 0 = .ok (.aload_n 0, 1) := by decide +kernel
theorem dX6_recall_1 : decode cX6_recall 1 = .ok (.iload_n 1, 1) := by decide +kernel
theorem dX6_recall_2 : decode cX6_recall 2 = .ok (.invokevirtual 181, 3) := by decide +kernel
theorem dX6_recall_5 : decode cX6_recall 5 = .ok (.ifCond .ne 5, 3) := by decide +kernel
theorem dX6_recall_8 : decode cX6_recall 8 = .ok (.iconst (-1), 1) := by decide +kernel
theorem dX6_recall_9 : decode cX6_recall 9 = .ok (.ireturn, 1) := by decide +kernel
theorem dX6_recall_10 : decode cX6_recall 10 = .ok (.aload_n 0, 1) := by decide +kernel
theorem dX6_recall_11 : decode cX6_recall 11 = .ok (.getfield 22, 3) := by decide +kernel
theorem dX6_recall_14 : decode cX6_recall 14 = .ok (.iload_n 1, 1) := by decide +kernel
theorem dX6_recall_15 : decode cX6_recall 15 = .ok (.iaload, 1) := by decide +kernel
theorem dX6_recall_16 : decode cX6_recall 16 = .ok (.iconst 3, 1) := by decide +kernel
theorem dX6_recall_17 : decode cX6_recall 17 = .ok (.if_icmp .eq 16, 3) := by decide +kernel
theorem dX6_recall_20 : decode cX6_recall 20 = .ok (.aload_n 0, 1) := by decide +kernel
theorem dX6_recall_21 : decode cX6_recall 21 = .ok (.getfield 22, 3) := by decide +kernel
theorem dX6_recall_24 : decode cX6_recall 24 = .ok (.iload_n 1, 1) := by decide +kernel
theorem dX6_recall_25 : decode cX6_recall 25 = .ok (.iaload, 1) := by decide +kernel
theorem dX6_recall_26 : decode cX6_recall 26 = .ok (.iconst 4, 1) := by decide +kernel
theorem dX6_recall_27 : decode cX6_recall 27 = .ok (.if_icmp .eq 6, 3) := by decide +kernel
theorem dX6_recall_30 : decode cX6_recall 30 = .ok (.bipush (-2), 2) := by decide +kernel
theorem dX6_recall_32 : decode cX6_recall 32 = .ok (.ireturn, 1) := by decide +kernel
theorem dX6_recall_33 : decode cX6_recall 33 = .ok (.aload_n 0, 1) := by decide +kernel
theorem dX6_recall_34 : decode cX6_recall 34 = .ok (.invokevirtual 189, 3) := by decide +kernel
theorem dX6_recall_37 : decode cX6_recall 37 = .ok (.aload_n 0, 1) := by decide +kernel
theorem dX6_recall_38 : decode cX6_recall 38 = .ok (.getfield 22, 3) := by decide +kernel
theorem dX6_recall_41 : decode cX6_recall 41 = .ok (.iload_n 1, 1) := by decide +kernel
theorem dX6_recall_42 : decode cX6_recall 42 = .ok (.iaload, 1) := by decide +kernel
theorem dX6_recall_43 : decode cX6_recall 43 = .ok (.iconst 3, 1) := by decide +kernel
theorem dX6_recall_44 : decode cX6_recall 44 = .ok (.if_icmp .ne 7, 3) := by decide +kernel
theorem dX6_recall_47 : decode cX6_recall 47 = .ok (.iconst 1, 1) := by decide +kernel
theorem dX6_recall_48 : decode cX6_recall 48 = .ok (.goto 4, 3) := by decide +kernel
theorem dX6_recall_51 : decode cX6_recall 51 = .ok (.iconst 0, 1) := by decide +kernel
theorem dX6_recall_52 : decode cX6_recall 52 = .ok (.istore_n 2, 1) := by decide +kernel
theorem dX6_recall_53 : decode cX6_recall 53 = .ok (.aload_n 0, 1) := by decide +kernel
theorem dX6_recall_54 : decode cX6_recall 54 = .ok (.iload_n 1, 1) := by decide +kernel
theorem dX6_recall_55 : decode cX6_recall 55 = .ok (.invokevirtual 201, 3) := by decide +kernel
theorem dX6_recall_58 : decode cX6_recall 58 = .ok (.iload_n 2, 1) := by decide +kernel
theorem dX6_recall_59 : decode cX6_recall 59 = .ok (.ireturn, 1) := by decide +kernel
theorem dX6_staff_0 : decode cX6_staff 0 = .ok (.iload_n 1, 1) := by decide +kernel
theorem dX6_staff_1 : decode cX6_staff 1 = .ok (.iconst 0, 1) := by decide +kernel
theorem dX6_staff_2 : decode cX6_staff 2 = .ok (.iconst 1, 1) := by decide +kernel
theorem dX6_staff_3 : decode cX6_staff 3 = .ok (.invokestatic 87, 3) := by decide +kernel
theorem dX6_staff_6 : decode cX6_staff 6 = .ok (.ifCond .ne 5, 3) := by decide +kernel
theorem dX6_staff_9 : decode cX6_staff 9 = .ok (.iconst (-1), 1) := by decide +kernel
theorem dX6_staff_10 : decode cX6_staff 10 = .ok (.ireturn, 1) := by decide +kernel
theorem dX6_staff_11 : decode cX6_staff 11 = .ok (.iload_n 1, 1) := by decide +kernel
theorem dX6_staff_12 : decode cX6_staff 12 = .ok (.iconst 1, 1) := by decide +kernel
theorem dX6_staff_13 : decode cX6_staff 13 = .ok (.if_icmp .ne 12, 3) := by decide +kernel
theorem dX6_staff_16 : decode cX6_staff 16 = .ok (.aload_n 0, 1) := by decide +kernel
theorem dX6_staff_17 : decode cX6_staff 17 = .ok (.getfield 77, 3) := by decide +kernel
theorem dX6_staff_20 : decode cX6_staff 20 = .ok (.iconst 1, 1) := by decide +kernel
theorem dX6_staff_21 : decode cX6_staff 21 = .ok (.iadd, 1) := by decide +kernel
theorem dX6_staff_22 : decode cX6_staff 22 = .ok (.goto 9, 3) := by decide +kernel
theorem dX6_staff_25 : decode cX6_staff 25 = .ok (.aload_n 0, 1) := by decide +kernel
theorem dX6_staff_26 : decode cX6_staff 26 = .ok (.getfield 77, 3) := by decide +kernel
theorem dX6_staff_29 : decode cX6_staff 29 = .ok (.iconst 1, 1) := by decide +kernel
theorem dX6_staff_30 : decode cX6_staff 30 = .ok (.isub, 1) := by decide +kernel
theorem dX6_staff_31 : decode cX6_staff 31 = .ok (.istore_n 2, 1) := by decide +kernel
theorem dX6_staff_32 : decode cX6_staff 32 = .ok (.iload_n 2, 1) := by decide +kernel
theorem dX6_staff_33 : decode cX6_staff 33 = .ok (.iconst 1, 1) := by decide +kernel
theorem dX6_staff_34 : decode cX6_staff 34 = .ok (.iconst 4, 1) := by decide +kernel
theorem dX6_staff_35 : decode cX6_staff 35 = .ok (.invokestatic 87, 3) := by decide +kernel
theorem dX6_staff_38 : decode cX6_staff 38 = .ok (.ifCond .ne 6, 3) := by decide +kernel
theorem dX6_staff_41 : decode cX6_staff 41 = .ok (.bipush (-2), 2) := by decide +kernel
theorem dX6_staff_43 : decode cX6_staff 43 = .ok (.ireturn, 1) := by decide +kernel
theorem dX6_staff_44 : decode cX6_staff 44 = .ok (.aload_n 0, 1) := by decide +kernel
theorem dX6_staff_45 : decode cX6_staff 45 = .ok (.invokevirtual 189, 3) := by decide +kernel
theorem dX6_staff_48 : decode cX6_staff 48 = .ok (.aload_n 0, 1) := by decide +kernel
theorem dX6_staff_49 : decode cX6_staff 49 = .ok (.iload_n 2, 1) := by decide +kernel
theorem dX6_staff_50 : decode cX6_staff 50 = .ok (.putfield 77, 3) := by decide +kernel
theorem dX6_staff_53 : decode cX6_staff 53 = .ok (.aload_n 0, 1) := by decide +kernel
theorem dX6_staff_54 : decode cX6_staff 54 = .ok (.getfield 77, 3) := by decide +kernel
theorem dX6_staff_57 : decode cX6_staff 57 = .ok (.ireturn, 1) := by decide +kernel
theorem dX6_rule_0 : decode cX6_rule 0 = .ok (.iload_n 1, 1) := by decide +kernel
theorem dX6_rule_1 : decode cX6_rule 1 = .ok (.iconst 0, 1) := by decide +kernel
theorem dX6_rule_2 : decode cX6_rule 2 = .ok (.iconst 2, 1) := by decide +kernel
theorem dX6_rule_3 : decode cX6_rule 3 = .ok (.invokestatic 87, 3) := by decide +kernel
theorem dX6_rule_6 : decode cX6_rule 6 = .ok (.ifCond .ne 5, 3) := by decide +kernel
theorem dX6_rule_9 : decode cX6_rule 9 = .ok (.iconst (-1), 1) := by decide +kernel
theorem dX6_rule_10 : decode cX6_rule 10 = .ok (.ireturn, 1) := by decide +kernel
theorem dX6_rule_11 : decode cX6_rule 11 = .ok (.iload_n 1, 1) := by decide +kernel
theorem dX6_rule_12 : decode cX6_rule 12 = .ok (.aload_n 0, 1) := by decide +kernel
theorem dX6_rule_13 : decode cX6_rule 13 = .ok (.getfield 138, 3) := by decide +kernel
theorem dX6_rule_16 : decode cX6_rule 16 = .ok (.if_icmp .ne 6, 3) := by decide +kernel
theorem dX6_rule_19 : decode cX6_rule 19 = .ok (.bipush (-2), 2) := by decide +kernel
theorem dX6_rule_21 : decode cX6_rule 21 = .ok (.ireturn, 1) := by decide +kernel
theorem dX6_rule_22 : decode cX6_rule 22 = .ok (.aload_n 0, 1) := by decide +kernel
theorem dX6_rule_23 : decode cX6_rule 23 = .ok (.invokevirtual 189, 3) := by decide +kernel
theorem dX6_rule_26 : decode cX6_rule 26 = .ok (.aload_n 0, 1) := by decide +kernel
theorem dX6_rule_27 : decode cX6_rule 27 = .ok (.getfield 138, 3) := by decide +kernel
theorem dX6_rule_30 : decode cX6_rule 30 = .ok (.istore_n 2, 1) := by decide +kernel
theorem dX6_rule_31 : decode cX6_rule 31 = .ok (.aload_n 0, 1) := by decide +kernel
theorem dX6_rule_32 : decode cX6_rule 32 = .ok (.iload_n 1, 1) := by decide +kernel
theorem dX6_rule_33 : decode cX6_rule 33 = .ok (.putfield 138, 3) := by decide +kernel
theorem dX6_rule_36 : decode cX6_rule 36 = .ok (.iload_n 2, 1) := by decide +kernel
theorem dX6_rule_37 : decode cX6_rule 37 = .ok (.ireturn, 1) := by decide +kernel
theorem dX6_undo_0 : decode cX6_undo 0 = .ok (.aload_n 0, 1) := by decide +kernel
theorem dX6_undo_1 : decode cX6_undo 1 = .ok (.getfield 150, 3) := by decide +kernel
theorem dX6_undo_4 : decode cX6_undo 4 = .ok (.ifCond .ne 6, 3) := by decide +kernel
theorem dX6_undo_7 : decode cX6_undo 7 = .ok (.bipush (-2), 2) := by decide +kernel
theorem dX6_undo_9 : decode cX6_undo 9 = .ok (.ireturn, 1) := by decide +kernel
theorem dX6_undo_10 : decode cX6_undo 10 = .ok (.aload_n 0, 1) := by decide +kernel
theorem dX6_undo_11 : decode cX6_undo 11 = .ok (.dup, 1) := by decide +kernel
theorem dX6_undo_12 : decode cX6_undo 12 = .ok (.getfield 150, 3) := by decide +kernel
theorem dX6_undo_15 : decode cX6_undo 15 = .ok (.iconst 1, 1) := by decide +kernel
theorem dX6_undo_16 : decode cX6_undo 16 = .ok (.isub, 1) := by decide +kernel
theorem dX6_undo_17 : decode cX6_undo 17 = .ok (.putfield 150, 3) := by decide +kernel
theorem dX6_undo_20 : decode cX6_undo 20 = .ok (.aload_n 0, 1) := by decide +kernel
theorem dX6_undo_21 : decode cX6_undo 21 = .ok (.aload_n 0, 1) := by decide +kernel
theorem dX6_undo_22 : decode cX6_undo 22 = .ok (.getfield 64, 3) := by decide +kernel
theorem dX6_undo_25 : decode cX6_undo 25 = .ok (.bipush 44, 2) := by decide +kernel
theorem dX6_undo_27 : decode cX6_undo 27 = .ok (.aload_n 0, 1) := by decide +kernel
theorem dX6_undo_28 : decode cX6_undo 28 = .ok (.getfield 150, 3) := by decide +kernel
theorem dX6_undo_31 : decode cX6_undo 31 = .ok (.imul, 1) := by decide +kernel
theorem dX6_undo_32 : decode cX6_undo 32 = .ok (.invokevirtual 204, 3) := by decide +kernel
theorem dX6_undo_35 : decode cX6_undo 35 = .ok (.aload_n 0, 1) := by decide +kernel
theorem dX6_undo_36 : decode cX6_undo 36 = .ok (.getfield 150, 3) := by decide +kernel
theorem dX6_undo_39 : decode cX6_undo 39 = .ok (.ireturn, 1) := by decide +kernel
theorem dX6_puts_0 : decode cX6_puts 0 = .ok (.aload_n 0, 1) := by decide +kernel
theorem dX6_puts_1 : decode cX6_puts 1 = .ok (.aload_n 0, 1) := by decide +kernel
theorem dX6_puts_2 : decode cX6_puts 2 = .ok (.getfield 67, 3) := by decide +kernel
theorem dX6_puts_5 : decode cX6_puts 5 = .ok (.iconst 0, 1) := by decide +kernel
theorem dX6_puts_6 : decode cX6_puts 6 = .ok (.invokevirtual 185, 3) := by decide +kernel
theorem dX6_puts_9 : decode cX6_puts 9 = .ok (.return_, 1) := by decide +kernel
theorem dX6_puttingBack_0 : decode cX6_puttingBack 0 = .ok (.aload_n 0, 1) := by decide +kernel
theorem dX6_puttingBack_1 : decode cX6_puttingBack 1 = .ok (.aload_n 0, 1) := by decide +kernel
theorem dX6_puttingBack_2 : decode cX6_puttingBack 2 = .ok (.getfield 67, 3) := by decide +kernel
theorem dX6_puttingBack_5 : decode cX6_puttingBack 5 = .ok (.iconst 0, 1) := by decide +kernel
theorem dX6_puttingBack_6 : decode cX6_puttingBack 6 = .ok (.invokevirtual 204, 3) := by decide +kernel
theorem dX6_puttingBack_9 : decode cX6_puttingBack 9 = .ok (.return_, 1) := by decide +kernel
theorem dX6_behind_0 : decode cX6_behind 0 = .ok (.iload_n 1, 1) := by decide +kernel
theorem dX6_behind_1 : decode cX6_behind 1 = .ok (.iconst 0, 1) := by decide +kernel
theorem dX6_behind_2 : decode cX6_behind 2 = .ok (.bipush 60, 2) := by decide +kernel
theorem dX6_behind_4 : decode cX6_behind 4 = .ok (.invokestatic 87, 3) := by decide +kernel
theorem dX6_behind_7 : decode cX6_behind 7 = .ok (.ifCond .eq 11, 3) := by decide +kernel
theorem dX6_behind_10 : decode cX6_behind 10 = .ok (.aload_n 0, 1) := by decide +kernel
theorem dX6_behind_11 : decode cX6_behind 11 = .ok (.iload_n 2, 1) := by decide +kernel
theorem dX6_behind_12 : decode cX6_behind 12 = .ok (.invokevirtual 181, 3) := by decide +kernel
theorem dX6_behind_15 : decode cX6_behind 15 = .ok (.ifCond .ne 5, 3) := by decide +kernel
theorem dX6_behind_18 : decode cX6_behind 18 = .ok (.iconst (-1), 1) := by decide +kernel
theorem dX6_behind_19 : decode cX6_behind 19 = .ok (.ireturn, 1) := by decide +kernel
theorem dX6_behind_20 : decode cX6_behind 20 = .ok (.aload_n 0, 1) := by decide +kernel
theorem dX6_behind_21 : decode cX6_behind 21 = .ok (.invokevirtual 207, 3) := by decide +kernel
theorem dX6_behind_24 : decode cX6_behind 24 = .ok (.aload_n 0, 1) := by decide +kernel
theorem dX6_behind_25 : decode cX6_behind 25 = .ok (.iload_n 1, 1) := by decide +kernel
theorem dX6_behind_26 : decode cX6_behind 26 = .ok (.invokevirtual 192, 3) := by decide +kernel
theorem dX6_behind_29 : decode cX6_behind 29 = .ok (.aload_n 0, 1) := by decide +kernel
theorem dX6_behind_30 : decode cX6_behind 30 = .ok (.getfield 22, 3) := by decide +kernel
theorem dX6_behind_33 : decode cX6_behind 33 = .ok (.iload_n 2, 1) := by decide +kernel
theorem dX6_behind_34 : decode cX6_behind 34 = .ok (.iaload, 1) := by decide +kernel
theorem dX6_behind_35 : decode cX6_behind 35 = .ok (.istore_n 3, 1) := by decide +kernel
theorem dX6_behind_36 : decode cX6_behind 36 = .ok (.aload_n 0, 1) := by decide +kernel
theorem dX6_behind_37 : decode cX6_behind 37 = .ok (.invokevirtual 210, 3) := by decide +kernel
theorem dX6_behind_40 : decode cX6_behind 40 = .ok (.iload_n 3, 1) := by decide +kernel
theorem dX6_behind_41 : decode cX6_behind 41 = .ok (.ireturn, 1) := by decide +kernel
theorem dX6_isTaken_0 : decode cX6_isTaken 0 = .ok (.aload_n 0, 1) := by decide +kernel
theorem dX6_isTaken_1 : decode cX6_isTaken 1 = .ok (.getfield 22, 3) := by decide +kernel
theorem dX6_isTaken_4 : decode cX6_isTaken 4 = .ok (.iload_n 1, 1) := by decide +kernel
theorem dX6_isTaken_5 : decode cX6_isTaken 5 = .ok (.iaload, 1) := by decide +kernel
theorem dX6_isTaken_6 : decode cX6_isTaken 6 = .ok (.iconst 2, 1) := by decide +kernel
theorem dX6_isTaken_7 : decode cX6_isTaken 7 = .ok (.if_icmp .eq 13, 3) := by decide +kernel
theorem dX6_isTaken_10 : decode cX6_isTaken 10 = .ok (.aload_n 0, 1) := by decide +kernel
theorem dX6_isTaken_11 : decode cX6_isTaken 11 = .ok (.getfield 22, 3) := by decide +kernel
theorem dX6_isTaken_14 : decode cX6_isTaken 14 = .ok (.iload_n 1, 1) := by decide +kernel
theorem dX6_isTaken_15 : decode cX6_isTaken 15 = .ok (.iaload, 1) := by decide +kernel
theorem dX6_isTaken_16 : decode cX6_isTaken 16 = .ok (.iconst 3, 1) := by decide +kernel
theorem dX6_isTaken_17 : decode cX6_isTaken 17 = .ok (.if_icmp .ne 7, 3) := by decide +kernel
theorem dX6_isTaken_20 : decode cX6_isTaken 20 = .ok (.iconst 1, 1) := by decide +kernel
theorem dX6_isTaken_21 : decode cX6_isTaken 21 = .ok (.goto 4, 3) := by decide +kernel
theorem dX6_isTaken_24 : decode cX6_isTaken 24 = .ok (.iconst 0, 1) := by decide +kernel
theorem dX6_isTaken_25 : decode cX6_isTaken 25 = .ok (.ireturn, 1) := by decide +kernel
theorem dX6_takenFrom_0 : decode cX6_takenFrom 0 = .ok (.iconst 0, 1) := by decide +kernel
theorem dX6_takenFrom_1 : decode cX6_takenFrom 1 = .ok (.istore_n 3, 1) := by decide +kernel
theorem dX6_takenFrom_2 : decode cX6_takenFrom 2 = .ok (.iload_n 3, 1) := by decide +kernel
theorem dX6_takenFrom_3 : decode cX6_takenFrom 3 = .ok (.iload_n 2, 1) := by decide +kernel
theorem dX6_takenFrom_4 : decode cX6_takenFrom 4 = .ok (.if_icmp .ge 21, 3) := by decide +kernel
theorem dX6_takenFrom_7 : decode cX6_takenFrom 7 = .ok (.aload_n 0, 1) := by decide +kernel
theorem dX6_takenFrom_8 : decode cX6_takenFrom 8 = .ok (.iload_n 1, 1) := by decide +kernel
theorem dX6_takenFrom_9 : decode cX6_takenFrom 9 = .ok (.invokevirtual 213, 3) := by decide +kernel
theorem dX6_takenFrom_12 : decode cX6_takenFrom 12 = .ok (.ifCond .ne 13, 3) := by decide +kernel
theorem dX6_takenFrom_15 : decode cX6_takenFrom 15 = .ok (.aload_n 0, 1) := by decide +kernel
theorem dX6_takenFrom_16 : decode cX6_takenFrom 16 = .ok (.invokevirtual 195, 3) := by decide +kernel
theorem dX6_takenFrom_19 : decode cX6_takenFrom 19 = .ok (.iinc 3 1, 3) := by decide +kernel
theorem dX6_takenFrom_22 : decode cX6_takenFrom 22 = .ok (.goto (-20), 3) := by decide +kernel
theorem dX6_takenFrom_25 : decode cX6_takenFrom 25 = .ok (.aload_n 0, 1) := by decide +kernel
theorem dX6_takenFrom_26 : decode cX6_takenFrom 26 = .ok (.iload_n 1, 1) := by decide +kernel
theorem dX6_takenFrom_27 : decode cX6_takenFrom 27 = .ok (.invokevirtual 213, 3) := by decide +kernel
theorem dX6_takenFrom_30 : decode cX6_takenFrom 30 = .ok (.ifCond .eq 7, 3) := by decide +kernel
theorem dX6_takenFrom_33 : decode cX6_takenFrom 33 = .ok (.iload_n 3, 1) := by decide +kernel
theorem dX6_takenFrom_34 : decode cX6_takenFrom 34 = .ok (.goto 5, 3) := by decide +kernel
theorem dX6_takenFrom_37 : decode cX6_takenFrom 37 = .ok (.bipush (-4), 2) := by decide +kernel
theorem dX6_takenFrom_39 : decode cX6_takenFrom 39 = .ok (.ireturn, 1) := by decide +kernel
theorem dX6_taken_0 : decode cX6_taken 0 = .ok (.aload_n 0, 1) := by decide +kernel
theorem dX6_taken_1 : decode cX6_taken 1 = .ok (.iload_n 1, 1) := by decide +kernel
theorem dX6_taken_2 : decode cX6_taken 2 = .ok (.invokevirtual 181, 3) := by decide +kernel
theorem dX6_taken_5 : decode cX6_taken 5 = .ok (.ifCond .ne 5, 3) := by decide +kernel
theorem dX6_taken_8 : decode cX6_taken 8 = .ok (.iconst (-1), 1) := by decide +kernel
theorem dX6_taken_9 : decode cX6_taken 9 = .ok (.ireturn, 1) := by decide +kernel
theorem dX6_taken_10 : decode cX6_taken 10 = .ok (.aload_n 0, 1) := by decide +kernel
theorem dX6_taken_11 : decode cX6_taken 11 = .ok (.invokevirtual 207, 3) := by decide +kernel
theorem dX6_taken_14 : decode cX6_taken 14 = .ok (.aload_n 0, 1) := by decide +kernel
theorem dX6_taken_15 : decode cX6_taken 15 = .ok (.iload_n 1, 1) := by decide +kernel
theorem dX6_taken_16 : decode cX6_taken 16 = .ok (.bipush 60, 2) := by decide +kernel
theorem dX6_taken_18 : decode cX6_taken 18 = .ok (.invokevirtual 216, 3) := by decide +kernel
theorem dX6_taken_21 : decode cX6_taken 21 = .ok (.istore_n 2, 1) := by decide +kernel
theorem dX6_taken_22 : decode cX6_taken 22 = .ok (.aload_n 0, 1) := by decide +kernel
theorem dX6_taken_23 : decode cX6_taken 23 = .ok (.invokevirtual 210, 3) := by decide +kernel
theorem dX6_taken_26 : decode cX6_taken 26 = .ok (.iload_n 2, 1) := by decide +kernel
theorem dX6_taken_27 : decode cX6_taken 27 = .ok (.ireturn, 1) := by decide +kernel
theorem dX6_left_0 : decode cX6_left 0 = .ok (.aload_n 0, 1) := by decide +kernel
theorem dX6_left_1 : decode cX6_left 1 = .ok (.iload_n 1, 1) := by decide +kernel
theorem dX6_left_2 : decode cX6_left 2 = .ok (.invokevirtual 181, 3) := by decide +kernel
theorem dX6_left_5 : decode cX6_left 5 = .ok (.ifCond .ne 5, 3) := by decide +kernel
theorem dX6_left_8 : decode cX6_left 8 = .ok (.iconst (-1), 1) := by decide +kernel
theorem dX6_left_9 : decode cX6_left 9 = .ok (.ireturn, 1) := by decide +kernel
theorem dX6_left_10 : decode cX6_left 10 = .ok (.aload_n 0, 1) := by decide +kernel
theorem dX6_left_11 : decode cX6_left 11 = .ok (.invokevirtual 207, 3) := by decide +kernel
theorem dX6_left_14 : decode cX6_left 14 = .ok (.iconst 0, 1) := by decide +kernel
theorem dX6_left_15 : decode cX6_left 15 = .ok (.istore_n 2, 1) := by decide +kernel
theorem dX6_left_16 : decode cX6_left 16 = .ok (.iload_n 2, 1) := by decide +kernel
theorem dX6_left_17 : decode cX6_left 17 = .ok (.bipush 60, 2) := by decide +kernel
theorem dX6_left_19 : decode cX6_left 19 = .ok (.if_icmp .ge 33, 3) := by decide +kernel
theorem dX6_left_22 : decode cX6_left 22 = .ok (.aload_n 0, 1) := by decide +kernel
theorem dX6_left_23 : decode cX6_left 23 = .ok (.getfield 22, 3) := by decide +kernel
theorem dX6_left_26 : decode cX6_left 26 = .ok (.iload_n 1, 1) := by decide +kernel
theorem dX6_left_27 : decode cX6_left 27 = .ok (.iaload, 1) := by decide +kernel
theorem dX6_left_28 : decode cX6_left 28 = .ok (.iconst 3, 1) := by decide +kernel
theorem dX6_left_29 : decode cX6_left 29 = .ok (.if_icmp .eq 23, 3) := by decide +kernel
theorem dX6_left_32 : decode cX6_left 32 = .ok (.aload_n 0, 1) := by decide +kernel
theorem dX6_left_33 : decode cX6_left 33 = .ok (.getfield 22, 3) := by decide +kernel
theorem dX6_left_36 : decode cX6_left 36 = .ok (.iload_n 1, 1) := by decide +kernel
theorem dX6_left_37 : decode cX6_left 37 = .ok (.iaload, 1) := by decide +kernel
theorem dX6_left_38 : decode cX6_left 38 = .ok (.iconst 4, 1) := by decide +kernel
theorem dX6_left_39 : decode cX6_left 39 = .ok (.if_icmp .eq 13, 3) := by decide +kernel
theorem dX6_left_42 : decode cX6_left 42 = .ok (.aload_n 0, 1) := by decide +kernel
theorem dX6_left_43 : decode cX6_left 43 = .ok (.invokevirtual 195, 3) := by decide +kernel
theorem dX6_left_46 : decode cX6_left 46 = .ok (.iinc 2 1, 3) := by decide +kernel
theorem dX6_left_49 : decode cX6_left 49 = .ok (.goto (-33), 3) := by decide +kernel
theorem dX6_left_52 : decode cX6_left 52 = .ok (.aload_n 0, 1) := by decide +kernel
theorem dX6_left_53 : decode cX6_left 53 = .ok (.getfield 22, 3) := by decide +kernel
theorem dX6_left_56 : decode cX6_left 56 = .ok (.iload_n 1, 1) := by decide +kernel
theorem dX6_left_57 : decode cX6_left 57 = .ok (.iaload, 1) := by decide +kernel
theorem dX6_left_58 : decode cX6_left 58 = .ok (.iconst 3, 1) := by decide +kernel
theorem dX6_left_59 : decode cX6_left 59 = .ok (.if_icmp .eq 13, 3) := by decide +kernel
theorem dX6_left_62 : decode cX6_left 62 = .ok (.aload_n 0, 1) := by decide +kernel
theorem dX6_left_63 : decode cX6_left 63 = .ok (.getfield 22, 3) := by decide +kernel
theorem dX6_left_66 : decode cX6_left 66 = .ok (.iload_n 1, 1) := by decide +kernel
theorem dX6_left_67 : decode cX6_left 67 = .ok (.iaload, 1) := by decide +kernel
theorem dX6_left_68 : decode cX6_left 68 = .ok (.iconst 4, 1) := by decide +kernel
theorem dX6_left_69 : decode cX6_left 69 = .ok (.if_icmp .ne 7, 3) := by decide +kernel
theorem dX6_left_72 : decode cX6_left 72 = .ok (.iconst 1, 1) := by decide +kernel
theorem dX6_left_73 : decode cX6_left 73 = .ok (.goto 4, 3) := by decide +kernel
theorem dX6_left_76 : decode cX6_left 76 = .ok (.iconst 0, 1) := by decide +kernel
theorem dX6_left_77 : decode cX6_left 77 = .ok (.istore_n 3, 1) := by decide +kernel
theorem dX6_left_78 : decode cX6_left 78 = .ok (.aload_n 0, 1) := by decide +kernel
theorem dX6_left_79 : decode cX6_left 79 = .ok (.invokevirtual 210, 3) := by decide +kernel
theorem dX6_left_82 : decode cX6_left 82 = .ok (.iload_n 3, 1) := by decide +kernel
theorem dX6_left_83 : decode cX6_left 83 = .ok (.ifCond .eq 7, 3) := by decide +kernel
theorem dX6_left_86 : decode cX6_left 86 = .ok (.iload_n 2, 1) := by decide +kernel
theorem dX6_left_87 : decode cX6_left 87 = .ok (.goto 5, 3) := by decide +kernel
theorem dX6_left_90 : decode cX6_left 90 = .ok (.bipush (-4), 2) := by decide +kernel
theorem dX6_left_92 : decode cX6_left 92 = .ok (.ireturn, 1) := by decide +kernel
theorem dX6_number__0 : decode cX6_number_ 0 = .ok (.aload_n 0, 1) := by decide +kernel
theorem dX6_number__1 : decode cX6_number_ 1 = .ok (.iload_n 1, 1) := by decide +kernel
theorem dX6_number__2 : decode cX6_number_ 2 = .ok (.invokevirtual 181, 3) := by decide +kernel
theorem dX6_number__5 : decode cX6_number_ 5 = .ok (.ifCond .ne 5, 3) := by decide +kernel
theorem dX6_number__8 : decode cX6_number_ 8 = .ok (.iconst (-1), 1) := by decide +kernel
theorem dX6_number__9 : decode cX6_number_ 9 = .ok (.ireturn, 1) := by decide +kernel
theorem dX6_number__10 : decode cX6_number_ 10 = .ok (.aload_n 0, 1) := by decide +kernel
theorem dX6_number__11 : decode cX6_number_ 11 = .ok (.getfield 22, 3) := by decide +kernel
theorem dX6_number__14 : decode cX6_number_ 14 = .ok (.iload_n 1, 1) := by decide +kernel
theorem dX6_number__15 : decode cX6_number_ 15 = .ok (.iaload, 1) := by decide +kernel
theorem dX6_number__16 : decode cX6_number_ 16 = .ok (.iconst 1, 1) := by decide +kernel
theorem dX6_number__17 : decode cX6_number_ 17 = .ok (.if_icmp .ne 11, 3) := by decide +kernel
theorem dX6_number__20 : decode cX6_number_ 20 = .ok (.aload_n 0, 1) := by decide +kernel
theorem dX6_number__21 : decode cX6_number_ 21 = .ok (.iload_n 1, 1) := by decide +kernel
theorem dX6_number__22 : decode cX6_number_ 22 = .ok (.invokevirtual 160, 3) := by decide +kernel
theorem dX6_number__25 : decode cX6_number_ 25 = .ok (.goto 5, 3) := by decide +kernel
theorem dX6_number__28 : decode cX6_number_ 28 = .ok (.bipush (-2), 2) := by decide +kernel
theorem dX6_number__30 : decode cX6_number_ 30 = .ok (.ireturn, 1) := by decide +kernel
theorem dX6_again_0 : decode cX6_again 0 = .ok (.aload_n 0, 1) := by decide +kernel
theorem dX6_again_1 : decode cX6_again 1 = .ok (.iload_n 1, 1) := by decide +kernel
theorem dX6_again_2 : decode cX6_again 2 = .ok (.invokevirtual 181, 3) := by decide +kernel
theorem dX6_again_5 : decode cX6_again 5 = .ok (.ifCond .eq 12, 3) := by decide +kernel
theorem dX6_again_8 : decode cX6_again 8 = .ok (.iload_n 2, 1) := by decide +kernel
theorem dX6_again_9 : decode cX6_again 9 = .ok (.iconst 0, 1) := by decide +kernel
theorem dX6_again_10 : decode cX6_again 10 = .ok (.iconst 1, 1) := by decide +kernel
theorem dX6_again_11 : decode cX6_again 11 = .ok (.invokestatic 87, 3) := by decide +kernel
theorem dX6_again_14 : decode cX6_again 14 = .ok (.ifCond .ne 5, 3) := by decide +kernel
theorem dX6_again_17 : decode cX6_again 17 = .ok (.iconst (-1), 1) := by decide +kernel
theorem dX6_again_18 : decode cX6_again 18 = .ok (.ireturn, 1) := by decide +kernel
theorem dX6_again_19 : decode cX6_again 19 = .ok (.aload_n 0, 1) := by decide +kernel
theorem dX6_again_20 : decode cX6_again 20 = .ok (.getfield 22, 3) := by decide +kernel
theorem dX6_again_23 : decode cX6_again 23 = .ok (.iload_n 1, 1) := by decide +kernel
theorem dX6_again_24 : decode cX6_again 24 = .ok (.iaload, 1) := by decide +kernel
theorem dX6_again_25 : decode cX6_again 25 = .ok (.iconst 1, 1) := by decide +kernel
theorem dX6_again_26 : decode cX6_again 26 = .ok (.if_icmp .eq 6, 3) := by decide +kernel
theorem dX6_again_29 : decode cX6_again 29 = .ok (.bipush (-2), 2) := by decide +kernel
theorem dX6_again_31 : decode cX6_again 31 = .ok (.ireturn, 1) := by decide +kernel
theorem dX6_again_32 : decode cX6_again 32 = .ok (.bipush (-4), 2) := by decide +kernel
theorem dX6_again_34 : decode cX6_again 34 = .ok (.istore_n 3, 1) := by decide +kernel
theorem dX6_again_35 : decode cX6_again 35 = .ok (.ldc 163, 2) := by decide +kernel
theorem dX6_again_37 : decode cX6_again 37 = .ok (.istore 4, 2) := by decide +kernel
theorem dX6_again_39 : decode cX6_again 39 = .ok (.iconst 0, 1) := by decide +kernel
theorem dX6_again_40 : decode cX6_again 40 = .ok (.istore 5, 2) := by decide +kernel
theorem dX6_again_42 : decode cX6_again 42 = .ok (.iload 5, 2) := by decide +kernel
theorem dX6_again_44 : decode cX6_again 44 = .ok (.bipush 20, 2) := by decide +kernel
theorem dX6_again_46 : decode cX6_again 46 = .ok (.if_icmp .gt 98, 3) := by decide +kernel
theorem dX6_again_49 : decode cX6_again 49 = .ok (.aload_n 0, 1) := by decide +kernel
theorem dX6_again_50 : decode cX6_again 50 = .ok (.invokevirtual 207, 3) := by decide +kernel
theorem dX6_again_53 : decode cX6_again 53 = .ok (.aload_n 0, 1) := by decide +kernel
theorem dX6_again_54 : decode cX6_again 54 = .ok (.iload_n 1, 1) := by decide +kernel
theorem dX6_again_55 : decode cX6_again 55 = .ok (.invokevirtual 198, 3) := by decide +kernel
theorem dX6_again_58 : decode cX6_again 58 = .ok (.aload_n 0, 1) := by decide +kernel
theorem dX6_again_59 : decode cX6_again 59 = .ok (.iload 5, 2) := by decide +kernel
theorem dX6_again_61 : decode cX6_again 61 = .ok (.invokevirtual 192, 3) := by decide +kernel
theorem dX6_again_64 : decode cX6_again 64 = .ok (.aload_n 0, 1) := by decide +kernel
theorem dX6_again_65 : decode cX6_again 65 = .ok (.iload_n 1, 1) := by decide +kernel
theorem dX6_again_66 : decode cX6_again 66 = .ok (.invokevirtual 201, 3) := by decide +kernel
theorem dX6_again_69 : decode cX6_again 69 = .ok (.aload_n 0, 1) := by decide +kernel
theorem dX6_again_70 : decode cX6_again 70 = .ok (.iload_n 1, 1) := by decide +kernel
theorem dX6_again_71 : decode cX6_again 71 = .ok (.bipush 60, 2) := by decide +kernel
theorem dX6_again_73 : decode cX6_again 73 = .ok (.iload 5, 2) := by decide +kernel
theorem dX6_again_75 : decode cX6_again 75 = .ok (.isub, 1) := by decide +kernel
theorem dX6_again_76 : decode cX6_again 76 = .ok (.invokevirtual 216, 3) := by decide +kernel
theorem dX6_again_79 : decode cX6_again 79 = .ok (.istore 6, 2) := by decide +kernel
theorem dX6_again_81 : decode cX6_again 81 = .ok (.aload_n 0, 1) := by decide +kernel
theorem dX6_again_82 : decode cX6_again 82 = .ok (.invokevirtual 210, 3) := by decide +kernel
theorem dX6_again_85 : decode cX6_again 85 = .ok (.iload 6, 2) := by decide +kernel
theorem dX6_again_87 : decode cX6_again 87 = .ok (.bipush (-4), 2) := by decide +kernel
theorem dX6_again_89 : decode cX6_again 89 = .ok (.if_icmp .eq 17, 3) := by decide +kernel
theorem dX6_again_92 : decode cX6_again 92 = .ok (.iload 5, 2) := by decide +kernel
theorem dX6_again_94 : decode cX6_again 94 = .ok (.iload 6, 2) := by decide +kernel
theorem dX6_again_96 : decode cX6_again 96 = .ok (.iadd, 1) := by decide +kernel
theorem dX6_again_97 : decode cX6_again 97 = .ok (.iload 4, 2) := by decide +kernel
theorem dX6_again_99 : decode cX6_again 99 = .ok (.if_icmp .ge 7, 3) := by decide +kernel
theorem dX6_again_102 : decode cX6_again 102 = .ok (.iconst 1, 1) := by decide +kernel
theorem dX6_again_103 : decode cX6_again 103 = .ok (.goto 4, 3) := by decide +kernel
theorem dX6_again_106 : decode cX6_again 106 = .ok (.iconst 0, 1) := by decide +kernel
theorem dX6_again_107 : decode cX6_again 107 = .ok (.istore 7, 2) := by decide +kernel
theorem dX6_again_109 : decode cX6_again 109 = .ok (.iload 7, 2) := by decide +kernel
theorem dX6_again_111 : decode cX6_again 111 = .ok (.ifCond .eq 8, 3) := by decide +kernel
theorem dX6_again_114 : decode cX6_again 114 = .ok (.iload 5, 2) := by decide +kernel
theorem dX6_again_116 : decode cX6_again 116 = .ok (.goto 4, 3) := by decide +kernel
theorem dX6_again_119 : decode cX6_again 119 = .ok (.iload_n 3, 1) := by decide +kernel
theorem dX6_again_120 : decode cX6_again 120 = .ok (.istore_n 3, 1) := by decide +kernel
theorem dX6_again_121 : decode cX6_again 121 = .ok (.iload 7, 2) := by decide +kernel
theorem dX6_again_123 : decode cX6_again 123 = .ok (.ifCond .eq 11, 3) := by decide +kernel
theorem dX6_again_126 : decode cX6_again 126 = .ok (.iload 5, 2) := by decide +kernel
theorem dX6_again_128 : decode cX6_again 128 = .ok (.iload 6, 2) := by decide +kernel
theorem dX6_again_130 : decode cX6_again 130 = .ok (.iadd, 1) := by decide +kernel
theorem dX6_again_131 : decode cX6_again 131 = .ok (.goto 5, 3) := by decide +kernel
theorem dX6_again_134 : decode cX6_again 134 = .ok (.iload 4, 2) := by decide +kernel
theorem dX6_again_136 : decode cX6_again 136 = .ok (.istore 4, 2) := by decide +kernel
theorem dX6_again_138 : decode cX6_again 138 = .ok (.iinc 5 1, 3) := by decide +kernel
theorem dX6_again_141 : decode cX6_again 141 = .ok (.goto (-99), 3) := by decide +kernel
theorem dX6_again_144 : decode cX6_again 144 = .ok (.iload_n 3, 1) := by decide +kernel
theorem dX6_again_145 : decode cX6_again 145 = .ok (.bipush (-4), 2) := by decide +kernel
theorem dX6_again_147 : decode cX6_again 147 = .ok (.if_icmp .eq 7, 3) := by decide +kernel
theorem dX6_again_150 : decode cX6_again 150 = .ok (.iload_n 2, 1) := by decide +kernel
theorem dX6_again_151 : decode cX6_again 151 = .ok (.ifCond .ne 7, 3) := by decide +kernel
theorem dX6_again_154 : decode cX6_again 154 = .ok (.iload_n 3, 1) := by decide +kernel
theorem dX6_again_155 : decode cX6_again 155 = .ok (.goto 5, 3) := by decide +kernel
theorem dX6_again_158 : decode cX6_again 158 = .ok (.iload 4, 2) := by decide +kernel
theorem dX6_again_160 : decode cX6_again 160 = .ok (.ireturn, 1) := by decide +kernel
theorem dX6_best_0 : decode cX6_best 0 = .ok (.iload_n 1, 1) := by decide +kernel
theorem dX6_best_1 : decode cX6_best 1 = .ok (.iconst 0, 1) := by decide +kernel
theorem dX6_best_2 : decode cX6_best 2 = .ok (.iconst 1, 1) := by decide +kernel
theorem dX6_best_3 : decode cX6_best 3 = .ok (.invokestatic 87, 3) := by decide +kernel
theorem dX6_best_6 : decode cX6_best 6 = .ok (.ifCond .ne 5, 3) := by decide +kernel
theorem dX6_best_9 : decode cX6_best 9 = .ok (.iconst (-1), 1) := by decide +kernel
theorem dX6_best_10 : decode cX6_best 10 = .ok (.ireturn, 1) := by decide +kernel
theorem dX6_best_11 : decode cX6_best 11 = .ok (.iconst 0, 1) := by decide +kernel
theorem dX6_best_12 : decode cX6_best 12 = .ok (.istore_n 2, 1) := by decide +kernel
theorem dX6_best_13 : decode cX6_best 13 = .ok (.bipush (-4), 2) := by decide +kernel
theorem dX6_best_15 : decode cX6_best 15 = .ok (.istore_n 3, 1) := by decide +kernel
theorem dX6_best_16 : decode cX6_best 16 = .ok (.iconst 0, 1) := by decide +kernel
theorem dX6_best_17 : decode cX6_best 17 = .ok (.istore 4, 2) := by decide +kernel
theorem dX6_best_19 : decode cX6_best 19 = .ok (.iload 4, 2) := by decide +kernel
theorem dX6_best_21 : decode cX6_best 21 = .ok (.iconst 3, 1) := by decide +kernel
theorem dX6_best_22 : decode cX6_best 22 = .ok (.if_icmp .ge 160, 3) := by decide +kernel
theorem dX6_best_25 : decode cX6_best 25 = .ok (.aload_n 0, 1) := by decide +kernel
theorem dX6_best_26 : decode cX6_best 26 = .ok (.invokevirtual 207, 3) := by decide +kernel
theorem dX6_best_29 : decode cX6_best 29 = .ok (.iconst 0, 1) := by decide +kernel
theorem dX6_best_30 : decode cX6_best 30 = .ok (.istore 5, 2) := by decide +kernel
theorem dX6_best_32 : decode cX6_best 32 = .ok (.iconst 0, 1) := by decide +kernel
theorem dX6_best_33 : decode cX6_best 33 = .ok (.istore 6, 2) := by decide +kernel
theorem dX6_best_35 : decode cX6_best 35 = .ok (.iload 6, 2) := by decide +kernel
theorem dX6_best_37 : decode cX6_best 37 = .ok (.aload_n 0, 1) := by decide +kernel
theorem dX6_best_38 : decode cX6_best 38 = .ok (.getfield 84, 3) := by decide +kernel
theorem dX6_best_41 : decode cX6_best 41 = .ok (.if_icmp .ge 43, 3) := by decide +kernel
theorem dX6_best_44 : decode cX6_best 44 = .ok (.iload 5, 2) := by decide +kernel
theorem dX6_best_46 : decode cX6_best 46 = .ok (.aload_n 0, 1) := by decide +kernel
theorem dX6_best_47 : decode cX6_best 47 = .ok (.getfield 22, 3) := by decide +kernel
theorem dX6_best_50 : decode cX6_best 50 = .ok (.iload 6, 2) := by decide +kernel
theorem dX6_best_52 : decode cX6_best 52 = .ok (.iaload, 1) := by decide +kernel
theorem dX6_best_53 : decode cX6_best 53 = .ok (.ifCond .eq 14, 3) := by decide +kernel
theorem dX6_best_56 : decode cX6_best 56 = .ok (.aload_n 0, 1) := by decide +kernel
theorem dX6_best_57 : decode cX6_best 57 = .ok (.getfield 22, 3) := by decide +kernel
theorem dX6_best_60 : decode cX6_best 60 = .ok (.iload 6, 2) := by decide +kernel
theorem dX6_best_62 : decode cX6_best 62 = .ok (.iaload, 1) := by decide +kernel
theorem dX6_best_63 : decode cX6_best 63 = .ok (.iconst 1, 1) := by decide +kernel
theorem dX6_best_64 : decode cX6_best 64 = .ok (.if_icmp .ne 10, 3) := by decide +kernel
theorem dX6_best_67 : decode cX6_best 67 = .ok (.iconst 1, 1) := by decide +kernel
theorem dX6_best_68 : decode cX6_best 68 = .ok (.iload 6, 2) := by decide +kernel
theorem dX6_best_70 : decode cX6_best 70 = .ok (.ishl, 1) := by decide +kernel
theorem dX6_best_71 : decode cX6_best 71 = .ok (.goto 4, 3) := by decide +kernel
theorem dX6_best_74 : decode cX6_best 74 = .ok (.iconst 0, 1) := by decide +kernel
theorem dX6_best_75 : decode cX6_best 75 = .ok (.ior, 1) := by decide +kernel
theorem dX6_best_76 : decode cX6_best 76 = .ok (.istore 5, 2) := by decide +kernel
theorem dX6_best_78 : decode cX6_best 78 = .ok (.iinc 6 1, 3) := by decide +kernel
theorem dX6_best_81 : decode cX6_best 81 = .ok (.goto (-46), 3) := by decide +kernel
theorem dX6_best_84 : decode cX6_best 84 = .ok (.aload_n 0, 1) := by decide +kernel
theorem dX6_best_85 : decode cX6_best 85 = .ok (.iload 4, 2) := by decide +kernel
theorem dX6_best_87 : decode cX6_best 87 = .ok (.putfield 138, 3) := by decide +kernel
theorem dX6_best_90 : decode cX6_best 90 = .ok (.aload_n 0, 1) := by decide +kernel
theorem dX6_best_91 : decode cX6_best 91 = .ok (.bipush 60, 2) := by decide +kernel
theorem dX6_best_93 : decode cX6_best 93 = .ok (.invokevirtual 192, 3) := by decide +kernel
theorem dX6_best_96 : decode cX6_best 96 = .ok (.iconst 0, 1) := by decide +kernel
theorem dX6_best_97 : decode cX6_best 97 = .ok (.istore 6, 2) := by decide +kernel
theorem dX6_best_99 : decode cX6_best 99 = .ok (.iconst 0, 1) := by decide +kernel
theorem dX6_best_100 : decode cX6_best 100 = .ok (.istore 7, 2) := by decide +kernel
theorem dX6_best_102 : decode cX6_best 102 = .ok (.iload 7, 2) := by decide +kernel
theorem dX6_best_104 : decode cX6_best 104 = .ok (.aload_n 0, 1) := by decide +kernel
theorem dX6_best_105 : decode cX6_best 105 = .ok (.getfield 84, 3) := by decide +kernel
theorem dX6_best_108 : decode cX6_best 108 = .ok (.if_icmp .ge 44, 3) := by decide +kernel
theorem dX6_best_111 : decode cX6_best 111 = .ok (.iload 6, 2) := by decide +kernel
theorem dX6_best_113 : decode cX6_best 113 = .ok (.iload 5, 2) := by decide +kernel
theorem dX6_best_115 : decode cX6_best 115 = .ok (.iload 7, 2) := by decide +kernel
theorem dX6_best_117 : decode cX6_best 117 = .ok (.invokestatic 219, 3) := by decide +kernel
theorem dX6_best_120 : decode cX6_best 120 = .ok (.ifCond .eq 22, 3) := by decide +kernel
theorem dX6_best_123 : decode cX6_best 123 = .ok (.aload_n 0, 1) := by decide +kernel
theorem dX6_best_124 : decode cX6_best 124 = .ok (.iload 7, 2) := by decide +kernel
theorem dX6_best_126 : decode cX6_best 126 = .ok (.invokevirtual 213, 3) := by decide +kernel
theorem dX6_best_129 : decode cX6_best 129 = .ok (.ifCond .eq 13, 3) := by decide +kernel
theorem dX6_best_132 : decode cX6_best 132 = .ok (.aload_n 0, 1) := by decide +kernel
theorem dX6_best_133 : decode cX6_best 133 = .ok (.getfield 19, 3) := by decide +kernel
theorem dX6_best_136 : decode cX6_best 136 = .ok (.iload 7, 2) := by decide +kernel
theorem dX6_best_138 : decode cX6_best 138 = .ok (.iaload, 1) := by decide +kernel
theorem dX6_best_139 : decode cX6_best 139 = .ok (.goto 4, 3) := by decide +kernel
theorem dX6_best_142 : decode cX6_best 142 = .ok (.iconst 0, 1) := by decide +kernel
theorem dX6_best_143 : decode cX6_best 143 = .ok (.iadd, 1) := by decide +kernel
theorem dX6_best_144 : decode cX6_best 144 = .ok (.istore 6, 2) := by decide +kernel
theorem dX6_best_146 : decode cX6_best 146 = .ok (.iinc 7 1, 3) := by decide +kernel
theorem dX6_best_149 : decode cX6_best 149 = .ok (.goto (-47), 3) := by decide +kernel
theorem dX6_best_152 : decode cX6_best 152 = .ok (.aload_n 0, 1) := by decide +kernel
theorem dX6_best_153 : decode cX6_best 153 = .ok (.invokevirtual 210, 3) := by decide +kernel
theorem dX6_best_156 : decode cX6_best 156 = .ok (.iload 6, 2) := by decide +kernel
theorem dX6_best_158 : decode cX6_best 158 = .ok (.iload_n 3, 1) := by decide +kernel
theorem dX6_best_159 : decode cX6_best 159 = .ok (.if_icmp .le 8, 3) := by decide +kernel
theorem dX6_best_162 : decode cX6_best 162 = .ok (.iload 4, 2) := by decide +kernel
theorem dX6_best_164 : decode cX6_best 164 = .ok (.goto 4, 3) := by decide +kernel
theorem dX6_best_167 : decode cX6_best 167 = .ok (.iload_n 2, 1) := by decide +kernel
theorem dX6_best_168 : decode cX6_best 168 = .ok (.istore_n 2, 1) := by decide +kernel
theorem dX6_best_169 : decode cX6_best 169 = .ok (.iload_n 3, 1) := by decide +kernel
theorem dX6_best_170 : decode cX6_best 170 = .ok (.iload 6, 2) := by decide +kernel
theorem dX6_best_172 : decode cX6_best 172 = .ok (.invokestatic 164, 3) := by decide +kernel
theorem dX6_best_175 : decode cX6_best 175 = .ok (.istore_n 3, 1) := by decide +kernel
theorem dX6_best_176 : decode cX6_best 176 = .ok (.iinc 4 1, 3) := by decide +kernel
theorem dX6_best_179 : decode cX6_best 179 = .ok (.goto (-160), 3) := by decide +kernel
theorem dX6_best_182 : decode cX6_best 182 = .ok (.iload_n 1, 1) := by decide +kernel
theorem dX6_best_183 : decode cX6_best 183 = .ok (.ifCond .ne 7, 3) := by decide +kernel
theorem dX6_best_186 : decode cX6_best 186 = .ok (.iload_n 2, 1) := by decide +kernel
theorem dX6_best_187 : decode cX6_best 187 = .ok (.goto 4, 3) := by decide +kernel
theorem dX6_best_190 : decode cX6_best 190 = .ok (.iload_n 3, 1) := by decide +kernel
theorem dX6_best_191 : decode cX6_best 191 = .ok (.ireturn, 1) := by decide +kernel
theorem dX6_lostNow_0 : decode cX6_lostNow 0 = .ok (.aload_n 0, 1) := by decide +kernel
theorem dX6_lostNow_1 : decode cX6_lostNow 1 = .ok (.iconst 4, 1) := by decide +kernel
theorem dX6_lostNow_2 : decode cX6_lostNow 2 = .ok (.invokevirtual 172, 3) := by decide +kernel
theorem dX6_lostNow_5 : decode cX6_lostNow 5 = .ok (.istore_n 1, 1) := by decide +kernel
theorem dX6_lostNow_6 : decode cX6_lostNow 6 = .ok (.aload_n 0, 1) := by decide +kernel
theorem dX6_lostNow_7 : decode cX6_lostNow 7 = .ok (.bipush 60, 2) := by decide +kernel
theorem dX6_lostNow_9 : decode cX6_lostNow 9 = .ok (.invokevirtual 192, 3) := by decide +kernel
theorem dX6_lostNow_12 : decode cX6_lostNow 12 = .ok (.aload_n 0, 1) := by decide +kernel
theorem dX6_lostNow_13 : decode cX6_lostNow 13 = .ok (.iconst 4, 1) := by decide +kernel
theorem dX6_lostNow_14 : decode cX6_lostNow 14 = .ok (.invokevirtual 172, 3) := by decide +kernel
theorem dX6_lostNow_17 : decode cX6_lostNow 17 = .ok (.iload_n 1, 1) := by decide +kernel
theorem dX6_lostNow_18 : decode cX6_lostNow 18 = .ok (.isub, 1) := by decide +kernel
theorem dX6_lostNow_19 : decode cX6_lostNow 19 = .ok (.ireturn, 1) := by decide +kernel
theorem dX6_needed_0 : decode cX6_needed 0 = .ok (.bipush (-4), 2) := by decide +kernel
theorem dX6_needed_2 : decode cX6_needed 2 = .ok (.istore_n 1, 1) := by decide +kernel
theorem dX6_needed_3 : decode cX6_needed 3 = .ok (.iconst 4, 1) := by decide +kernel
theorem dX6_needed_4 : decode cX6_needed 4 = .ok (.istore_n 2, 1) := by decide +kernel
theorem dX6_needed_5 : decode cX6_needed 5 = .ok (.iload_n 2, 1) := by decide +kernel
theorem dX6_needed_6 : decode cX6_needed 6 = .ok (.ifCond .le 35, 3) := by decide +kernel
theorem dX6_needed_9 : decode cX6_needed 9 = .ok (.aload_n 0, 1) := by decide +kernel
theorem dX6_needed_10 : decode cX6_needed 10 = .ok (.invokevirtual 207, 3) := by decide +kernel
theorem dX6_needed_13 : decode cX6_needed 13 = .ok (.aload_n 0, 1) := by decide +kernel
theorem dX6_needed_14 : decode cX6_needed 14 = .ok (.iload_n 2, 1) := by decide +kernel
theorem dX6_needed_15 : decode cX6_needed 15 = .ok (.putfield 77, 3) := by decide +kernel
theorem dX6_needed_18 : decode cX6_needed 18 = .ok (.aload_n 0, 1) := by decide +kernel
theorem dX6_needed_19 : decode cX6_needed 19 = .ok (.invokevirtual 222, 3) := by decide +kernel
theorem dX6_needed_22 : decode cX6_needed 22 = .ok (.ifCond .ne 7, 3) := by decide +kernel
theorem dX6_needed_25 : decode cX6_needed 25 = .ok (.iload_n 2, 1) := by decide +kernel
theorem dX6_needed_26 : decode cX6_needed 26 = .ok (.goto 4, 3) := by decide +kernel
theorem dX6_needed_29 : decode cX6_needed 29 = .ok (.iload_n 1, 1) := by decide +kernel
theorem dX6_needed_30 : decode cX6_needed 30 = .ok (.istore_n 1, 1) := by decide +kernel
theorem dX6_needed_31 : decode cX6_needed 31 = .ok (.aload_n 0, 1) := by decide +kernel
theorem dX6_needed_32 : decode cX6_needed 32 = .ok (.invokevirtual 210, 3) := by decide +kernel
theorem dX6_needed_35 : decode cX6_needed 35 = .ok (.iinc 2 (-1), 3) := by decide +kernel
theorem dX6_needed_38 : decode cX6_needed 38 = .ok (.goto (-33), 3) := by decide +kernel
theorem dX6_needed_41 : decode cX6_needed 41 = .ok (.iload_n 1, 1) := by decide +kernel
theorem dX6_needed_42 : decode cX6_needed 42 = .ok (.ireturn, 1) := by decide +kernel
theorem dX6_lost_0 : decode cX6_lost 0 = .ok (.aload_n 0, 1) := by decide +kernel
theorem dX6_lost_1 : decode cX6_lost 1 = .ok (.invokevirtual 207, 3) := by decide +kernel
theorem dX6_lost_4 : decode cX6_lost 4 = .ok (.aload_n 0, 1) := by decide +kernel
theorem dX6_lost_5 : decode cX6_lost 5 = .ok (.invokevirtual 222, 3) := by decide +kernel
theorem dX6_lost_8 : decode cX6_lost 8 = .ok (.istore_n 1, 1) := by decide +kernel
theorem dX6_lost_9 : decode cX6_lost 9 = .ok (.aload_n 0, 1) := by decide +kernel
theorem dX6_lost_10 : decode cX6_lost 10 = .ok (.invokevirtual 210, 3) := by decide +kernel
theorem dX6_lost_13 : decode cX6_lost 13 = .ok (.iload_n 1, 1) := by decide +kernel
theorem dX6_lost_14 : decode cX6_lost 14 = .ok (.ireturn, 1) := by decide +kernel
theorem dX6_helps_0 : decode cX6_helps 0 = .ok (.iload_n 1, 1) := by decide +kernel
theorem dX6_helps_1 : decode cX6_helps 1 = .ok (.iconst 0, 1) := by decide +kernel
theorem dX6_helps_2 : decode cX6_helps 2 = .ok (.iconst 1, 1) := by decide +kernel
theorem dX6_helps_3 : decode cX6_helps 3 = .ok (.invokestatic 87, 3) := by decide +kernel
theorem dX6_helps_6 : decode cX6_helps 6 = .ok (.ifCond .ne 5, 3) := by decide +kernel
theorem dX6_helps_9 : decode cX6_helps 9 = .ok (.iconst (-1), 1) := by decide +kernel
theorem dX6_helps_10 : decode cX6_helps 10 = .ok (.ireturn, 1) := by decide +kernel
theorem dX6_helps_11 : decode cX6_helps 11 = .ok (.bipush (-4), 2) := by decide +kernel
theorem dX6_helps_13 : decode cX6_helps 13 = .ok (.istore_n 2, 1) := by decide +kernel
theorem dX6_helps_14 : decode cX6_helps 14 = .ok (.ldc 163, 2) := by decide +kernel
theorem dX6_helps_16 : decode cX6_helps 16 = .ok (.istore_n 3, 1) := by decide +kernel
theorem dX6_helps_17 : decode cX6_helps 17 = .ok (.iconst 0, 1) := by decide +kernel
theorem dX6_helps_18 : decode cX6_helps 18 = .ok (.istore 4, 2) := by decide +kernel
theorem dX6_helps_20 : decode cX6_helps 20 = .ok (.iload 4, 2) := by decide +kernel
theorem dX6_helps_22 : decode cX6_helps 22 = .ok (.aload_n 0, 1) := by decide +kernel
theorem dX6_helps_23 : decode cX6_helps 23 = .ok (.getfield 84, 3) := by decide +kernel
theorem dX6_helps_26 : decode cX6_helps 26 = .ok (.if_icmp .ge 66, 3) := by decide +kernel
theorem dX6_helps_29 : decode cX6_helps 29 = .ok (.aload_n 0, 1) := by decide +kernel
theorem dX6_helps_30 : decode cX6_helps 30 = .ok (.getfield 22, 3) := by decide +kernel
theorem dX6_helps_33 : decode cX6_helps 33 = .ok (.iload 4, 2) := by decide +kernel
theorem dX6_helps_35 : decode cX6_helps 35 = .ok (.iaload, 1) := by decide +kernel
theorem dX6_helps_36 : decode cX6_helps 36 = .ok (.iconst 1, 1) := by decide +kernel
theorem dX6_helps_37 : decode cX6_helps 37 = .ok (.if_icmp .ne 49, 3) := by decide +kernel
theorem dX6_helps_40 : decode cX6_helps 40 = .ok (.aload_n 0, 1) := by decide +kernel
theorem dX6_helps_41 : decode cX6_helps 41 = .ok (.invokevirtual 207, 3) := by decide +kernel
theorem dX6_helps_44 : decode cX6_helps 44 = .ok (.aload_n 0, 1) := by decide +kernel
theorem dX6_helps_45 : decode cX6_helps 45 = .ok (.iload 4, 2) := by decide +kernel
theorem dX6_helps_47 : decode cX6_helps 47 = .ok (.invokevirtual 198, 3) := by decide +kernel
theorem dX6_helps_50 : decode cX6_helps 50 = .ok (.aload_n 0, 1) := by decide +kernel
theorem dX6_helps_51 : decode cX6_helps 51 = .ok (.invokevirtual 222, 3) := by decide +kernel
theorem dX6_helps_54 : decode cX6_helps 54 = .ok (.istore 5, 2) := by decide +kernel
theorem dX6_helps_56 : decode cX6_helps 56 = .ok (.aload_n 0, 1) := by decide +kernel
theorem dX6_helps_57 : decode cX6_helps 57 = .ok (.invokevirtual 210, 3) := by decide +kernel
theorem dX6_helps_60 : decode cX6_helps 60 = .ok (.iload 5, 2) := by decide +kernel
theorem dX6_helps_62 : decode cX6_helps 62 = .ok (.iload_n 3, 1) := by decide +kernel
theorem dX6_helps_63 : decode cX6_helps 63 = .ok (.if_icmp .ge 8, 3) := by decide +kernel
theorem dX6_helps_66 : decode cX6_helps 66 = .ok (.iload 4, 2) := by decide +kernel
theorem dX6_helps_68 : decode cX6_helps 68 = .ok (.goto 4, 3) := by decide +kernel
theorem dX6_helps_71 : decode cX6_helps 71 = .ok (.iload_n 2, 1) := by decide +kernel
theorem dX6_helps_72 : decode cX6_helps 72 = .ok (.istore_n 2, 1) := by decide +kernel
theorem dX6_helps_73 : decode cX6_helps 73 = .ok (.iload 5, 2) := by decide +kernel
theorem dX6_helps_75 : decode cX6_helps 75 = .ok (.iload_n 3, 1) := by decide +kernel
theorem dX6_helps_76 : decode cX6_helps 76 = .ok (.if_icmp .ge 8, 3) := by decide +kernel
theorem dX6_helps_79 : decode cX6_helps 79 = .ok (.iload 5, 2) := by decide +kernel
theorem dX6_helps_81 : decode cX6_helps 81 = .ok (.goto 4, 3) := by decide +kernel
theorem dX6_helps_84 : decode cX6_helps 84 = .ok (.iload_n 3, 1) := by decide +kernel
theorem dX6_helps_85 : decode cX6_helps 85 = .ok (.istore_n 3, 1) := by decide +kernel
theorem dX6_helps_86 : decode cX6_helps 86 = .ok (.iinc 4 1, 3) := by decide +kernel
theorem dX6_helps_89 : decode cX6_helps 89 = .ok (.goto (-69), 3) := by decide +kernel
theorem dX6_helps_92 : decode cX6_helps 92 = .ok (.iload_n 2, 1) := by decide +kernel
theorem dX6_helps_93 : decode cX6_helps 93 = .ok (.bipush (-4), 2) := by decide +kernel
theorem dX6_helps_95 : decode cX6_helps 95 = .ok (.if_icmp .eq 7, 3) := by decide +kernel
theorem dX6_helps_98 : decode cX6_helps 98 = .ok (.iload_n 1, 1) := by decide +kernel
theorem dX6_helps_99 : decode cX6_helps 99 = .ok (.ifCond .ne 7, 3) := by decide +kernel
theorem dX6_helps_102 : decode cX6_helps 102 = .ok (.iload_n 2, 1) := by decide +kernel
theorem dX6_helps_103 : decode cX6_helps 103 = .ok (.goto 4, 3) := by decide +kernel
theorem dX6_helps_106 : decode cX6_helps 106 = .ok (.iload_n 3, 1) := by decide +kernel
theorem dX6_helps_107 : decode cX6_helps 107 = .ok (.ireturn, 1) := by decide +kernel
theorem dX6_longest_0 : decode cX6_longest 0 = .ok (.iload_n 1, 1) := by decide +kernel
theorem dX6_longest_1 : decode cX6_longest 1 = .ok (.iconst 0, 1) := by decide +kernel
theorem dX6_longest_2 : decode cX6_longest 2 = .ok (.iconst 1, 1) := by decide +kernel
theorem dX6_longest_3 : decode cX6_longest 3 = .ok (.invokestatic 87, 3) := by decide +kernel
theorem dX6_longest_6 : decode cX6_longest 6 = .ok (.ifCond .ne 5, 3) := by decide +kernel
theorem dX6_longest_9 : decode cX6_longest 9 = .ok (.iconst (-1), 1) := by decide +kernel
theorem dX6_longest_10 : decode cX6_longest 10 = .ok (.ireturn, 1) := by decide +kernel
theorem dX6_longest_11 : decode cX6_longest 11 = .ok (.aload_n 0, 1) := by decide +kernel
theorem dX6_longest_12 : decode cX6_longest 12 = .ok (.invokevirtual 207, 3) := by decide +kernel
theorem dX6_longest_15 : decode cX6_longest 15 = .ok (.iconst 0, 1) := by decide +kernel
theorem dX6_longest_16 : decode cX6_longest 16 = .ok (.istore_n 2, 1) := by decide +kernel
theorem dX6_longest_17 : decode cX6_longest 17 = .ok (.iconst 0, 1) := by decide +kernel
theorem dX6_longest_18 : decode cX6_longest 18 = .ok (.istore_n 3, 1) := by decide +kernel
theorem dX6_longest_19 : decode cX6_longest 19 = .ok (.iload_n 3, 1) := by decide +kernel
theorem dX6_longest_20 : decode cX6_longest 20 = .ok (.aload_n 0, 1) := by decide +kernel
theorem dX6_longest_21 : decode cX6_longest 21 = .ok (.getfield 84, 3) := by decide +kernel
theorem dX6_longest_24 : decode cX6_longest 24 = .ok (.if_icmp .ge 38, 3) := by decide +kernel
theorem dX6_longest_27 : decode cX6_longest 27 = .ok (.iload_n 2, 1) := by decide +kernel
theorem dX6_longest_28 : decode cX6_longest 28 = .ok (.aload_n 0, 1) := by decide +kernel
theorem dX6_longest_29 : decode cX6_longest 29 = .ok (.getfield 22, 3) := by decide +kernel
theorem dX6_longest_32 : decode cX6_longest 32 = .ok (.iload_n 3, 1) := by decide +kernel
theorem dX6_longest_33 : decode cX6_longest 33 = .ok (.iaload, 1) := by decide +kernel
theorem dX6_longest_34 : decode cX6_longest 34 = .ok (.ifCond .eq 13, 3) := by decide +kernel
theorem dX6_longest_37 : decode cX6_longest 37 = .ok (.aload_n 0, 1) := by decide +kernel
theorem dX6_longest_38 : decode cX6_longest 38 = .ok (.getfield 22, 3) := by decide +kernel
theorem dX6_longest_41 : decode cX6_longest 41 = .ok (.iload_n 3, 1) := by decide +kernel
theorem dX6_longest_42 : decode cX6_longest 42 = .ok (.iaload, 1) := by decide +kernel
theorem dX6_longest_43 : decode cX6_longest 43 = .ok (.iconst 1, 1) := by decide +kernel
theorem dX6_longest_44 : decode cX6_longest 44 = .ok (.if_icmp .ne 9, 3) := by decide +kernel
theorem dX6_longest_47 : decode cX6_longest 47 = .ok (.iconst 1, 1) := by decide +kernel
theorem dX6_longest_48 : decode cX6_longest 48 = .ok (.iload_n 3, 1) := by decide +kernel
theorem dX6_longest_49 : decode cX6_longest 49 = .ok (.ishl, 1) := by decide +kernel
theorem dX6_longest_50 : decode cX6_longest 50 = .ok (.goto 4, 3) := by decide +kernel
theorem dX6_longest_53 : decode cX6_longest 53 = .ok (.iconst 0, 1) := by decide +kernel
theorem dX6_longest_54 : decode cX6_longest 54 = .ok (.ior, 1) := by decide +kernel
theorem dX6_longest_55 : decode cX6_longest 55 = .ok (.istore_n 2, 1) := by decide +kernel
theorem dX6_longest_56 : decode cX6_longest 56 = .ok (.iinc 3 1, 3) := by decide +kernel
theorem dX6_longest_59 : decode cX6_longest 59 = .ok (.goto (-40), 3) := by decide +kernel
theorem dX6_longest_62 : decode cX6_longest 62 = .ok (.aload_n 0, 1) := by decide +kernel
theorem dX6_longest_63 : decode cX6_longest 63 = .ok (.bipush 60, 2) := by decide +kernel
theorem dX6_longest_65 : decode cX6_longest 65 = .ok (.invokevirtual 192, 3) := by decide +kernel
theorem dX6_longest_68 : decode cX6_longest 68 = .ok (.bipush (-4), 2) := by decide +kernel
theorem dX6_longest_70 : decode cX6_longest 70 = .ok (.istore_n 3, 1) := by decide +kernel
theorem dX6_longest_71 : decode cX6_longest 71 = .ok (.bipush (-4), 2) := by decide +kernel
theorem dX6_longest_73 : decode cX6_longest 73 = .ok (.istore 4, 2) := by decide +kernel
theorem dX6_longest_75 : decode cX6_longest 75 = .ok (.iconst 0, 1) := by decide +kernel
theorem dX6_longest_76 : decode cX6_longest 76 = .ok (.istore 5, 2) := by decide +kernel
theorem dX6_longest_78 : decode cX6_longest 78 = .ok (.iload 5, 2) := by decide +kernel
theorem dX6_longest_80 : decode cX6_longest 80 = .ok (.aload_n 0, 1) := by decide +kernel
theorem dX6_longest_81 : decode cX6_longest 81 = .ok (.getfield 84, 3) := by decide +kernel
theorem dX6_longest_84 : decode cX6_longest 84 = .ok (.if_icmp .ge 65, 3) := by decide +kernel
theorem dX6_longest_87 : decode cX6_longest 87 = .ok (.iload_n 2, 1) := by decide +kernel
theorem dX6_longest_88 : decode cX6_longest 88 = .ok (.iload 5, 2) := by decide +kernel
theorem dX6_longest_90 : decode cX6_longest 90 = .ok (.invokestatic 219, 3) := by decide +kernel
theorem dX6_longest_93 : decode cX6_longest 93 = .ok (.ifCond .eq 20, 3) := by decide +kernel
theorem dX6_longest_96 : decode cX6_longest 96 = .ok (.aload_n 0, 1) := by decide +kernel
theorem dX6_longest_97 : decode cX6_longest 97 = .ok (.getfield 25, 3) := by decide +kernel
theorem dX6_longest_100 : decode cX6_longest 100 = .ok (.iload 5, 2) := by decide +kernel
theorem dX6_longest_102 : decode cX6_longest 102 = .ok (.iaload, 1) := by decide +kernel
theorem dX6_longest_103 : decode cX6_longest 103 = .ok (.iload 4, 2) := by decide +kernel
theorem dX6_longest_105 : decode cX6_longest 105 = .ok (.if_icmp .le 8, 3) := by decide +kernel
theorem dX6_longest_108 : decode cX6_longest 108 = .ok (.iload 5, 2) := by decide +kernel
theorem dX6_longest_110 : decode cX6_longest 110 = .ok (.goto 4, 3) := by decide +kernel
theorem dX6_longest_113 : decode cX6_longest 113 = .ok (.iload_n 3, 1) := by decide +kernel
theorem dX6_longest_114 : decode cX6_longest 114 = .ok (.istore_n 3, 1) := by decide +kernel
theorem dX6_longest_115 : decode cX6_longest 115 = .ok (.iload_n 2, 1) := by decide +kernel
theorem dX6_longest_116 : decode cX6_longest 116 = .ok (.iload 5, 2) := by decide +kernel
theorem dX6_longest_118 : decode cX6_longest 118 = .ok (.invokestatic 219, 3) := by decide +kernel
theorem dX6_longest_121 : decode cX6_longest 121 = .ok (.ifCond .eq 18, 3) := by decide +kernel
theorem dX6_longest_124 : decode cX6_longest 124 = .ok (.iload 4, 2) := by decide +kernel
theorem dX6_longest_126 : decode cX6_longest 126 = .ok (.aload_n 0, 1) := by decide +kernel
theorem dX6_longest_127 : decode cX6_longest 127 = .ok (.getfield 25, 3) := by decide +kernel
theorem dX6_longest_130 : decode cX6_longest 130 = .ok (.iload 5, 2) := by decide +kernel
theorem dX6_longest_132 : decode cX6_longest 132 = .ok (.iaload, 1) := by decide +kernel
theorem dX6_longest_133 : decode cX6_longest 133 = .ok (.invokestatic 164, 3) := by decide +kernel
theorem dX6_longest_136 : decode cX6_longest 136 = .ok (.goto 5, 3) := by decide +kernel
theorem dX6_longest_139 : decode cX6_longest 139 = .ok (.iload 4, 2) := by decide +kernel
theorem dX6_longest_141 : decode cX6_longest 141 = .ok (.istore 4, 2) := by decide +kernel
theorem dX6_longest_143 : decode cX6_longest 143 = .ok (.iinc 5 1, 3) := by decide +kernel
theorem dX6_longest_146 : decode cX6_longest 146 = .ok (.goto (-68), 3) := by decide +kernel
theorem dX6_longest_149 : decode cX6_longest 149 = .ok (.aload_n 0, 1) := by decide +kernel
theorem dX6_longest_150 : decode cX6_longest 150 = .ok (.invokevirtual 210, 3) := by decide +kernel
theorem dX6_longest_153 : decode cX6_longest 153 = .ok (.iload_n 1, 1) := by decide +kernel
theorem dX6_longest_154 : decode cX6_longest 154 = .ok (.ifCond .ne 7, 3) := by decide +kernel
theorem dX6_longest_157 : decode cX6_longest 157 = .ok (.iload_n 3, 1) := by decide +kernel
theorem dX6_longest_158 : decode cX6_longest 158 = .ok (.goto 5, 3) := by decide +kernel
theorem dX6_longest_161 : decode cX6_longest 161 = .ok (.iload 4, 2) := by decide +kernel
theorem dX6_longest_163 : decode cX6_longest 163 = .ok (.ireturn, 1) := by decide +kernel
theorem dX6_seen_0 : decode cX6_seen 0 = .ok (.aload_n 0, 1) := by decide +kernel
theorem dX6_seen_1 : decode cX6_seen 1 = .ok (.iload_n 1, 1) := by decide +kernel
theorem dX6_seen_2 : decode cX6_seen 2 = .ok (.invokevirtual 181, 3) := by decide +kernel
theorem dX6_seen_5 : decode cX6_seen 5 = .ok (.ifCond .eq 22, 3) := by decide +kernel
theorem dX6_seen_8 : decode cX6_seen 8 = .ok (.iload_n 2, 1) := by decide +kernel
theorem dX6_seen_9 : decode cX6_seen 9 = .ok (.iconst 1, 1) := by decide +kernel
theorem dX6_seen_10 : decode cX6_seen 10 = .ok (.bipush 40, 2) := by decide +kernel
theorem dX6_seen_12 : decode cX6_seen 12 = .ok (.invokestatic 87, 3) := by decide +kernel
theorem dX6_seen_15 : decode cX6_seen 15 = .ok (.ifCond .eq 12, 3) := by decide +kernel
theorem dX6_seen_18 : decode cX6_seen 18 = .ok (.iload_n 3, 1) := by decide +kernel
theorem dX6_seen_19 : decode cX6_seen 19 = .ok (.iconst 0, 1) := by decide +kernel
theorem dX6_seen_20 : decode cX6_seen 20 = .ok (.iconst 1, 1) := by decide +kernel
theorem dX6_seen_21 : decode cX6_seen 21 = .ok (.invokestatic 87, 3) := by decide +kernel
theorem dX6_seen_24 : decode cX6_seen 24 = .ok (.ifCond .ne 5, 3) := by decide +kernel
theorem dX6_seen_27 : decode cX6_seen 27 = .ok (.iconst (-1), 1) := by decide +kernel
theorem dX6_seen_28 : decode cX6_seen 28 = .ok (.ireturn, 1) := by decide +kernel
theorem dX6_seen_29 : decode cX6_seen 29 = .ok (.aload_n 0, 1) := by decide +kernel
theorem dX6_seen_30 : decode cX6_seen 30 = .ok (.getfield 147, 3) := by decide +kernel
theorem dX6_seen_33 : decode cX6_seen 33 = .ok (.bipush 6, 2) := by decide +kernel
theorem dX6_seen_35 : decode cX6_seen 35 = .ok (.if_icmp .ne 6, 3) := by decide +kernel
theorem dX6_seen_38 : decode cX6_seen 38 = .ok (.bipush (-3), 2) := by decide +kernel
theorem dX6_seen_40 : decode cX6_seen 40 = .ok (.ireturn, 1) := by decide +kernel
theorem dX6_seen_41 : decode cX6_seen 41 = .ok (.aload_n 0, 1) := by decide +kernel
theorem dX6_seen_42 : decode cX6_seen 42 = .ok (.getfield 37, 3) := by decide +kernel
theorem dX6_seen_45 : decode cX6_seen 45 = .ok (.aload_n 0, 1) := by decide +kernel
theorem dX6_seen_46 : decode cX6_seen 46 = .ok (.getfield 147, 3) := by decide +kernel
theorem dX6_seen_49 : decode cX6_seen 49 = .ok (.iload_n 1, 1) := by decide +kernel
theorem dX6_seen_50 : decode cX6_seen 50 = .ok (.iastore, 1) := by decide +kernel
theorem dX6_seen_51 : decode cX6_seen 51 = .ok (.aload_n 0, 1) := by decide +kernel
theorem dX6_seen_52 : decode cX6_seen 52 = .ok (.getfield 40, 3) := by decide +kernel
theorem dX6_seen_55 : decode cX6_seen 55 = .ok (.aload_n 0, 1) := by decide +kernel
theorem dX6_seen_56 : decode cX6_seen 56 = .ok (.getfield 147, 3) := by decide +kernel
theorem dX6_seen_59 : decode cX6_seen 59 = .ok (.iload_n 2, 1) := by decide +kernel
theorem dX6_seen_60 : decode cX6_seen 60 = .ok (.iastore, 1) := by decide +kernel
theorem dX6_seen_61 : decode cX6_seen 61 = .ok (.aload_n 0, 1) := by decide +kernel
theorem dX6_seen_62 : decode cX6_seen 62 = .ok (.getfield 43, 3) := by decide +kernel
theorem dX6_seen_65 : decode cX6_seen 65 = .ok (.aload_n 0, 1) := by decide +kernel
theorem dX6_seen_66 : decode cX6_seen 66 = .ok (.getfield 147, 3) := by decide +kernel
theorem dX6_seen_69 : decode cX6_seen 69 = .ok (.iload_n 3, 1) := by decide +kernel
theorem dX6_seen_70 : decode cX6_seen 70 = .ok (.iastore, 1) := by decide +kernel
theorem dX6_seen_71 : decode cX6_seen 71 = .ok (.aload_n 0, 1) := by decide +kernel
theorem dX6_seen_72 : decode cX6_seen 72 = .ok (.dup, 1) := by decide +kernel
theorem dX6_seen_73 : decode cX6_seen 73 = .ok (.getfield 147, 3) := by decide +kernel
theorem dX6_seen_76 : decode cX6_seen 76 = .ok (.iconst 1, 1) := by decide +kernel
theorem dX6_seen_77 : decode cX6_seen 77 = .ok (.iadd, 1) := by decide +kernel
theorem dX6_seen_78 : decode cX6_seen 78 = .ok (.putfield 147, 3) := by decide +kernel
theorem dX6_seen_81 : decode cX6_seen 81 = .ok (.aload_n 0, 1) := by decide +kernel
theorem dX6_seen_82 : decode cX6_seen 82 = .ok (.getfield 147, 3) := by decide +kernel
theorem dX6_seen_85 : decode cX6_seen 85 = .ok (.ireturn, 1) := by decide +kernel
theorem dX6_forget_0 : decode cX6_forget 0 = .ok (.aload_n 0, 1) := by decide +kernel
theorem dX6_forget_1 : decode cX6_forget 1 = .ok (.getfield 147, 3) := by decide +kernel
theorem dX6_forget_4 : decode cX6_forget 4 = .ok (.istore_n 1, 1) := by decide +kernel
theorem dX6_forget_5 : decode cX6_forget 5 = .ok (.aload_n 0, 1) := by decide +kernel
theorem dX6_forget_6 : decode cX6_forget 6 = .ok (.iconst 0, 1) := by decide +kernel
theorem dX6_forget_7 : decode cX6_forget 7 = .ok (.putfield 147, 3) := by decide +kernel
theorem dX6_forget_10 : decode cX6_forget 10 = .ok (.iload_n 1, 1) := by decide +kernel
theorem dX6_forget_11 : decode cX6_forget 11 = .ok (.ireturn, 1) := by decide +kernel
theorem dX6_isSo_0 : decode cX6_isSo 0 = .ok (.aload_n 0, 1) := by decide +kernel
theorem dX6_isSo_1 : decode cX6_isSo 1 = .ok (.getfield 7, 3) := by decide +kernel
theorem dX6_isSo_4 : decode cX6_isSo 4 = .ok (.iload_n 1, 1) := by decide +kernel
theorem dX6_isSo_5 : decode cX6_isSo 5 = .ok (.iaload, 1) := by decide +kernel
theorem dX6_isSo_6 : decode cX6_isSo 6 = .ok (.istore 4, 2) := by decide +kernel
theorem dX6_isSo_8 : decode cX6_isSo 8 = .ok (.aload_n 0, 1) := by decide +kernel
theorem dX6_isSo_9 : decode cX6_isSo 9 = .ok (.getfield 16, 3) := by decide +kernel
theorem dX6_isSo_12 : decode cX6_isSo 12 = .ok (.iload_n 1, 1) := by decide +kernel
theorem dX6_isSo_13 : decode cX6_isSo 13 = .ok (.iaload, 1) := by decide +kernel
theorem dX6_isSo_14 : decode cX6_isSo 14 = .ok (.istore 5, 2) := by decide +kernel
theorem dX6_isSo_16 : decode cX6_isSo 16 = .ok (.aload_n 0, 1) := by decide +kernel
theorem dX6_isSo_17 : decode cX6_isSo 17 = .ok (.getfield 7, 3) := by decide +kernel
theorem dX6_isSo_20 : decode cX6_isSo 20 = .ok (.iload_n 1, 1) := by decide +kernel
theorem dX6_isSo_21 : decode cX6_isSo 21 = .ok (.iload_n 2, 1) := by decide +kernel
theorem dX6_isSo_22 : decode cX6_isSo 22 = .ok (.iastore, 1) := by decide +kernel
theorem dX6_isSo_23 : decode cX6_isSo 23 = .ok (.aload_n 0, 1) := by decide +kernel
theorem dX6_isSo_24 : decode cX6_isSo 24 = .ok (.getfield 16, 3) := by decide +kernel
theorem dX6_isSo_27 : decode cX6_isSo 27 = .ok (.iload_n 1, 1) := by decide +kernel
theorem dX6_isSo_28 : decode cX6_isSo 28 = .ok (.iload_n 3, 1) := by decide +kernel
theorem dX6_isSo_29 : decode cX6_isSo 29 = .ok (.iastore, 1) := by decide +kernel
theorem dX6_isSo_30 : decode cX6_isSo 30 = .ok (.iconst 1, 1) := by decide +kernel
theorem dX6_isSo_31 : decode cX6_isSo 31 = .ok (.istore 6, 2) := by decide +kernel
theorem dX6_isSo_33 : decode cX6_isSo 33 = .ok (.aload_n 0, 1) := by decide +kernel
theorem dX6_isSo_34 : decode cX6_isSo 34 = .ok (.invokevirtual 207, 3) := by decide +kernel
theorem dX6_isSo_37 : decode cX6_isSo 37 = .ok (.iconst 1, 1) := by decide +kernel
theorem dX6_isSo_38 : decode cX6_isSo 38 = .ok (.istore 7, 2) := by decide +kernel
theorem dX6_isSo_40 : decode cX6_isSo 40 = .ok (.iload 7, 2) := by decide +kernel
theorem dX6_isSo_42 : decode cX6_isSo 42 = .ok (.bipush 40, 2) := by decide +kernel
theorem dX6_isSo_44 : decode cX6_isSo 44 = .ok (.if_icmp .gt 112, 3) := by decide +kernel
theorem dX6_isSo_47 : decode cX6_isSo 47 = .ok (.aload_n 0, 1) := by decide +kernel
theorem dX6_isSo_48 : decode cX6_isSo 48 = .ok (.invokevirtual 195, 3) := by decide +kernel
theorem dX6_isSo_51 : decode cX6_isSo 51 = .ok (.iconst 0, 1) := by decide +kernel
theorem dX6_isSo_52 : decode cX6_isSo 52 = .ok (.istore 8, 2) := by decide +kernel
theorem dX6_isSo_54 : decode cX6_isSo 54 = .ok (.iload 8, 2) := by decide +kernel
theorem dX6_isSo_56 : decode cX6_isSo 56 = .ok (.aload_n 0, 1) := by decide +kernel
theorem dX6_isSo_57 : decode cX6_isSo 57 = .ok (.getfield 147, 3) := by decide +kernel
theorem dX6_isSo_60 : decode cX6_isSo 60 = .ok (.if_icmp .ge 90, 3) := by decide +kernel
theorem dX6_isSo_63 : decode cX6_isSo 63 = .ok (.aload_n 0, 1) := by decide +kernel
theorem dX6_isSo_64 : decode cX6_isSo 64 = .ok (.getfield 22, 3) := by decide +kernel
theorem dX6_isSo_67 : decode cX6_isSo 67 = .ok (.iload_n 1, 1) := by decide +kernel
theorem dX6_isSo_68 : decode cX6_isSo 68 = .ok (.iaload, 1) := by decide +kernel
theorem dX6_isSo_69 : decode cX6_isSo 69 = .ok (.iconst 4, 1) := by decide +kernel
theorem dX6_isSo_70 : decode cX6_isSo 70 = .ok (.if_icmp .ne 7, 3) := by decide +kernel
theorem dX6_isSo_73 : decode cX6_isSo 73 = .ok (.iconst 1, 1) := by decide +kernel
theorem dX6_isSo_74 : decode cX6_isSo 74 = .ok (.goto 4, 3) := by decide +kernel
theorem dX6_isSo_77 : decode cX6_isSo 77 = .ok (.iconst 0, 1) := by decide +kernel
theorem dX6_isSo_78 : decode cX6_isSo 78 = .ok (.aload_n 0, 1) := by decide +kernel
theorem dX6_isSo_79 : decode cX6_isSo 79 = .ok (.getfield 43, 3) := by decide +kernel
theorem dX6_isSo_82 : decode cX6_isSo 82 = .ok (.iload 8, 2) := by decide +kernel
theorem dX6_isSo_84 : decode cX6_isSo 84 = .ok (.iaload, 1) := by decide +kernel
theorem dX6_isSo_85 : decode cX6_isSo 85 = .ok (.iconst 1, 1) := by decide +kernel
theorem dX6_isSo_86 : decode cX6_isSo 86 = .ok (.if_icmp .ne 7, 3) := by decide +kernel
theorem dX6_isSo_89 : decode cX6_isSo 89 = .ok (.iconst 1, 1) := by decide +kernel
theorem dX6_isSo_90 : decode cX6_isSo 90 = .ok (.goto 4, 3) := by decide +kernel
theorem dX6_isSo_93 : decode cX6_isSo 93 = .ok (.iconst 0, 1) := by decide +kernel
theorem dX6_isSo_94 : decode cX6_isSo 94 = .ok (.if_icmp .ne 7, 3) := by decide +kernel
theorem dX6_isSo_97 : decode cX6_isSo 97 = .ok (.iconst 1, 1) := by decide +kernel
theorem dX6_isSo_98 : decode cX6_isSo 98 = .ok (.goto 4, 3) := by decide +kernel
theorem dX6_isSo_101 : decode cX6_isSo 101 = .ok (.iconst 0, 1) := by decide +kernel
theorem dX6_isSo_102 : decode cX6_isSo 102 = .ok (.istore 9, 2) := by decide +kernel
theorem dX6_isSo_104 : decode cX6_isSo 104 = .ok (.iload 6, 2) := by decide +kernel
theorem dX6_isSo_106 : decode cX6_isSo 106 = .ok (.ifCond .eq 35, 3) := by decide +kernel
theorem dX6_isSo_109 : decode cX6_isSo 109 = .ok (.aload_n 0, 1) := by decide +kernel
theorem dX6_isSo_110 : decode cX6_isSo 110 = .ok (.getfield 37, 3) := by decide +kernel
theorem dX6_isSo_113 : decode cX6_isSo 113 = .ok (.iload 8, 2) := by decide +kernel
theorem dX6_isSo_115 : decode cX6_isSo 115 = .ok (.iaload, 1) := by decide +kernel
theorem dX6_isSo_116 : decode cX6_isSo 116 = .ok (.iload_n 1, 1) := by decide +kernel
theorem dX6_isSo_117 : decode cX6_isSo 117 = .ok (.if_icmp .ne 20, 3) := by decide +kernel
theorem dX6_isSo_120 : decode cX6_isSo 120 = .ok (.aload_n 0, 1) := by decide +kernel
theorem dX6_isSo_121 : decode cX6_isSo 121 = .ok (.getfield 40, 3) := by decide +kernel
theorem dX6_isSo_124 : decode cX6_isSo 124 = .ok (.iload 8, 2) := by decide +kernel
theorem dX6_isSo_126 : decode cX6_isSo 126 = .ok (.iaload, 1) := by decide +kernel
theorem dX6_isSo_127 : decode cX6_isSo 127 = .ok (.iload 7, 2) := by decide +kernel
theorem dX6_isSo_129 : decode cX6_isSo 129 = .ok (.if_icmp .ne 8, 3) := by decide +kernel
theorem dX6_isSo_132 : decode cX6_isSo 132 = .ok (.iload 9, 2) := by decide +kernel
theorem dX6_isSo_134 : decode cX6_isSo 134 = .ok (.ifCond .eq 7, 3) := by decide +kernel
theorem dX6_isSo_137 : decode cX6_isSo 137 = .ok (.iconst 1, 1) := by decide +kernel
theorem dX6_isSo_138 : decode cX6_isSo 138 = .ok (.goto 4, 3) := by decide +kernel
theorem dX6_isSo_141 : decode cX6_isSo 141 = .ok (.iconst 0, 1) := by decide +kernel
theorem dX6_isSo_142 : decode cX6_isSo 142 = .ok (.istore 6, 2) := by decide +kernel
theorem dX6_isSo_144 : decode cX6_isSo 144 = .ok (.iinc 8 1, 3) := by decide +kernel
theorem dX6_isSo_147 : decode cX6_isSo 147 = .ok (.goto (-93), 3) := by decide +kernel
theorem dX6_isSo_150 : decode cX6_isSo 150 = .ok (.iinc 7 1, 3) := by decide +kernel
theorem dX6_isSo_153 : decode cX6_isSo 153 = .ok (.goto (-113), 3) := by decide +kernel
theorem dX6_isSo_156 : decode cX6_isSo 156 = .ok (.aload_n 0, 1) := by decide +kernel
theorem dX6_isSo_157 : decode cX6_isSo 157 = .ok (.invokevirtual 210, 3) := by decide +kernel
theorem dX6_isSo_160 : decode cX6_isSo 160 = .ok (.aload_n 0, 1) := by decide +kernel
theorem dX6_isSo_161 : decode cX6_isSo 161 = .ok (.getfield 7, 3) := by decide +kernel
theorem dX6_isSo_164 : decode cX6_isSo 164 = .ok (.iload_n 1, 1) := by decide +kernel
theorem dX6_isSo_165 : decode cX6_isSo 165 = .ok (.iload 4, 2) := by decide +kernel
theorem dX6_isSo_167 : decode cX6_isSo 167 = .ok (.iastore, 1) := by decide +kernel
theorem dX6_isSo_168 : decode cX6_isSo 168 = .ok (.aload_n 0, 1) := by decide +kernel
theorem dX6_isSo_169 : decode cX6_isSo 169 = .ok (.getfield 16, 3) := by decide +kernel
theorem dX6_isSo_172 : decode cX6_isSo 172 = .ok (.iload_n 1, 1) := by decide +kernel
theorem dX6_isSo_173 : decode cX6_isSo 173 = .ok (.iload 5, 2) := by decide +kernel
theorem dX6_isSo_175 : decode cX6_isSo 175 = .ok (.iastore, 1) := by decide +kernel
theorem dX6_isSo_176 : decode cX6_isSo 176 = .ok (.iload 6, 2) := by decide +kernel
theorem dX6_isSo_178 : decode cX6_isSo 178 = .ok (.ireturn, 1) := by decide +kernel
theorem dX6_bears_0 : decode cX6_bears 0 = .ok (.aload_n 0, 1) := by decide +kernel
theorem dX6_bears_1 : decode cX6_bears 1 = .ok (.iload_n 1, 1) := by decide +kernel
theorem dX6_bears_2 : decode cX6_bears 2 = .ok (.invokevirtual 181, 3) := by decide +kernel
theorem dX6_bears_5 : decode cX6_bears 5 = .ok (.ifCond .eq 12, 3) := by decide +kernel
theorem dX6_bears_8 : decode cX6_bears 8 = .ok (.iload_n 2, 1) := by decide +kernel
theorem dX6_bears_9 : decode cX6_bears 9 = .ok (.iconst 0, 1) := by decide +kernel
theorem dX6_bears_10 : decode cX6_bears 10 = .ok (.iconst 1, 1) := by decide +kernel
theorem dX6_bears_11 : decode cX6_bears 11 = .ok (.invokestatic 87, 3) := by decide +kernel
theorem dX6_bears_14 : decode cX6_bears 14 = .ok (.ifCond .ne 5, 3) := by decide +kernel
theorem dX6_bears_17 : decode cX6_bears 17 = .ok (.iconst (-1), 1) := by decide +kernel
theorem dX6_bears_18 : decode cX6_bears 18 = .ok (.ireturn, 1) := by decide +kernel
theorem dX6_bears_19 : decode cX6_bears 19 = .ok (.iconst 0, 1) := by decide +kernel
theorem dX6_bears_20 : decode cX6_bears 20 = .ok (.istore_n 3, 1) := by decide +kernel
theorem dX6_bears_21 : decode cX6_bears 21 = .ok (.bipush (-4), 2) := by decide +kernel
theorem dX6_bears_23 : decode cX6_bears 23 = .ok (.istore 4, 2) := by decide +kernel
theorem dX6_bears_25 : decode cX6_bears 25 = .ok (.bipush 30, 2) := by decide +kernel
theorem dX6_bears_27 : decode cX6_bears 27 = .ok (.istore 5, 2) := by decide +kernel
theorem dX6_bears_29 : decode cX6_bears 29 = .ok (.iload 5, 2) := by decide +kernel
theorem dX6_bears_31 : decode cX6_bears 31 = .ok (.ifCond .le 32, 3) := by decide +kernel
theorem dX6_bears_34 : decode cX6_bears 34 = .ok (.aload_n 0, 1) := by decide +kernel
theorem dX6_bears_35 : decode cX6_bears 35 = .ok (.iload_n 1, 1) := by decide +kernel
theorem dX6_bears_36 : decode cX6_bears 36 = .ok (.aload_n 0, 1) := by decide +kernel
theorem dX6_bears_37 : decode cX6_bears 37 = .ok (.getfield 7, 3) := by decide +kernel
theorem dX6_bears_40 : decode cX6_bears 40 = .ok (.iload_n 1, 1) := by decide +kernel
theorem dX6_bears_41 : decode cX6_bears 41 = .ok (.iaload, 1) := by decide +kernel
theorem dX6_bears_42 : decode cX6_bears 42 = .ok (.iload 5, 2) := by decide +kernel
theorem dX6_bears_44 : decode cX6_bears 44 = .ok (.invokevirtual 225, 3) := by decide +kernel
theorem dX6_bears_47 : decode cX6_bears 47 = .ok (.ifCond .eq 10, 3) := by decide +kernel
theorem dX6_bears_50 : decode cX6_bears 50 = .ok (.iinc 3 1, 3) := by decide +kernel
theorem dX6_bears_53 : decode cX6_bears 53 = .ok (.iload 5, 2) := by decide +kernel
theorem dX6_bears_55 : decode cX6_bears 55 = .ok (.istore 4, 2) := by decide +kernel
theorem dX6_bears_57 : decode cX6_bears 57 = .ok (.iinc 5 (-1), 3) := by decide +kernel
theorem dX6_bears_60 : decode cX6_bears 60 = .ok (.goto (-31), 3) := by decide +kernel
theorem dX6_bears_63 : decode cX6_bears 63 = .ok (.iload_n 2, 1) := by decide +kernel
theorem dX6_bears_64 : decode cX6_bears 64 = .ok (.ifCond .ne 7, 3) := by decide +kernel
theorem dX6_bears_67 : decode cX6_bears 67 = .ok (.iload_n 3, 1) := by decide +kernel
theorem dX6_bears_68 : decode cX6_bears 68 = .ok (.goto 5, 3) := by decide +kernel
theorem dX6_bears_71 : decode cX6_bears 71 = .ok (.iload 4, 2) := by decide +kernel
theorem dX6_bears_73 : decode cX6_bears 73 = .ok (.ireturn, 1) := by decide +kernel
theorem dX6_kinds_0 : decode cX6_kinds 0 = .ok (.aload_n 0, 1) := by decide +kernel
theorem dX6_kinds_1 : decode cX6_kinds 1 = .ok (.iload_n 1, 1) := by decide +kernel
theorem dX6_kinds_2 : decode cX6_kinds 2 = .ok (.invokevirtual 181, 3) := by decide +kernel
theorem dX6_kinds_5 : decode cX6_kinds 5 = .ok (.ifCond .ne 5, 3) := by decide +kernel
theorem dX6_kinds_8 : decode cX6_kinds 8 = .ok (.iconst (-1), 1) := by decide +kernel
theorem dX6_kinds_9 : decode cX6_kinds 9 = .ok (.ireturn, 1) := by decide +kernel
theorem dX6_kinds_10 : decode cX6_kinds 10 = .ok (.iconst 0, 1) := by decide +kernel
theorem dX6_kinds_11 : decode cX6_kinds 11 = .ok (.istore_n 2, 1) := by decide +kernel
theorem dX6_kinds_12 : decode cX6_kinds 12 = .ok (.iconst 0, 1) := by decide +kernel
theorem dX6_kinds_13 : decode cX6_kinds 13 = .ok (.istore_n 3, 1) := by decide +kernel
theorem dX6_kinds_14 : decode cX6_kinds 14 = .ok (.iload_n 3, 1) := by decide +kernel
theorem dX6_kinds_15 : decode cX6_kinds 15 = .ok (.iconst 3, 1) := by decide +kernel
theorem dX6_kinds_16 : decode cX6_kinds 16 = .ok (.if_icmp .gt 34, 3) := by decide +kernel
theorem dX6_kinds_19 : decode cX6_kinds 19 = .ok (.iload_n 2, 1) := by decide +kernel
theorem dX6_kinds_20 : decode cX6_kinds 20 = .ok (.aload_n 0, 1) := by decide +kernel
theorem dX6_kinds_21 : decode cX6_kinds 21 = .ok (.iload_n 1, 1) := by decide +kernel
theorem dX6_kinds_22 : decode cX6_kinds 22 = .ok (.iload_n 3, 1) := by decide +kernel
theorem dX6_kinds_23 : decode cX6_kinds 23 = .ok (.aload_n 0, 1) := by decide +kernel
theorem dX6_kinds_24 : decode cX6_kinds 24 = .ok (.getfield 16, 3) := by decide +kernel
theorem dX6_kinds_27 : decode cX6_kinds 27 = .ok (.iload_n 1, 1) := by decide +kernel
theorem dX6_kinds_28 : decode cX6_kinds 28 = .ok (.iaload, 1) := by decide +kernel
theorem dX6_kinds_29 : decode cX6_kinds 29 = .ok (.invokevirtual 225, 3) := by decide +kernel
theorem dX6_kinds_32 : decode cX6_kinds 32 = .ok (.ifCond .eq 9, 3) := by decide +kernel
theorem dX6_kinds_35 : decode cX6_kinds 35 = .ok (.iconst 1, 1) := by decide +kernel
theorem dX6_kinds_36 : decode cX6_kinds 36 = .ok (.iload_n 3, 1) := by decide +kernel
theorem dX6_kinds_37 : decode cX6_kinds 37 = .ok (.ishl, 1) := by decide +kernel
theorem dX6_kinds_38 : decode cX6_kinds 38 = .ok (.goto 4, 3) := by decide +kernel
theorem dX6_kinds_41 : decode cX6_kinds 41 = .ok (.iconst 0, 1) := by decide +kernel
theorem dX6_kinds_42 : decode cX6_kinds 42 = .ok (.ior, 1) := by decide +kernel
theorem dX6_kinds_43 : decode cX6_kinds 43 = .ok (.istore_n 2, 1) := by decide +kernel
theorem dX6_kinds_44 : decode cX6_kinds 44 = .ok (.iinc 3 1, 3) := by decide +kernel
theorem dX6_kinds_47 : decode cX6_kinds 47 = .ok (.goto (-33), 3) := by decide +kernel
theorem dX6_kinds_50 : decode cX6_kinds 50 = .ok (.iload_n 2, 1) := by decide +kernel
theorem dX6_kinds_51 : decode cX6_kinds 51 = .ok (.ireturn, 1) := by decide +kernel
theorem dX6_common_0 : decode cX6_common 0 = .ok (.lload_n 0, 1) := by decide +kernel
theorem dX6_common_1 : decode cX6_common 1 = .ok (.lstore 4, 2) := by decide +kernel
theorem dX6_common_3 : decode cX6_common 3 = .ok (.lload_n 2, 1) := by decide +kernel
theorem dX6_common_4 : decode cX6_common 4 = .ok (.lstore 6, 2) := by decide +kernel
theorem dX6_common_6 : decode cX6_common 6 = .ok (.lload 6, 2) := by decide +kernel
theorem dX6_common_8 : decode cX6_common 8 = .ok (.lconst 0, 1) := by decide +kernel
theorem dX6_common_9 : decode cX6_common 9 = .ok (.lcmp, 1) := by decide +kernel
theorem dX6_common_10 : decode cX6_common 10 = .ok (.ifCond .eq 21, 3) := by decide +kernel
theorem dX6_common_13 : decode cX6_common 13 = .ok (.lload 4, 2) := by decide +kernel
theorem dX6_common_15 : decode cX6_common 15 = .ok (.lload 6, 2) := by decide +kernel
theorem dX6_common_17 : decode cX6_common 17 = .ok (.lrem, 1) := by decide +kernel
theorem dX6_common_18 : decode cX6_common 18 = .ok (.lstore 8, 2) := by decide +kernel
theorem dX6_common_20 : decode cX6_common 20 = .ok (.lload 6, 2) := by decide +kernel
theorem dX6_common_22 : decode cX6_common 22 = .ok (.lstore 4, 2) := by decide +kernel
theorem dX6_common_24 : decode cX6_common 24 = .ok (.lload 8, 2) := by decide +kernel
theorem dX6_common_26 : decode cX6_common 26 = .ok (.lstore 6, 2) := by decide +kernel
theorem dX6_common_28 : decode cX6_common 28 = .ok (.goto (-22), 3) := by decide +kernel
theorem dX6_common_31 : decode cX6_common 31 = .ok (.lload 4, 2) := by decide +kernel
theorem dX6_common_33 : decode cX6_common 33 = .ok (.lreturn, 1) := by decide +kernel
theorem dX6_waitingBut_0 : decode cX6_waitingBut 0 = .ok (.iconst 0, 1) := by decide +kernel
theorem dX6_waitingBut_1 : decode cX6_waitingBut 1 = .ok (.istore_n 2, 1) := by decide +kernel
theorem dX6_waitingBut_2 : decode cX6_waitingBut 2 = .ok (.iconst 0, 1) := by decide +kernel
theorem dX6_waitingBut_3 : decode cX6_waitingBut 3 = .ok (.istore_n 3, 1) := by decide +kernel
theorem dX6_waitingBut_4 : decode cX6_waitingBut 4 = .ok (.iload_n 3, 1) := by decide +kernel
theorem dX6_waitingBut_5 : decode cX6_waitingBut 5 = .ok (.aload_n 0, 1) := by decide +kernel
theorem dX6_waitingBut_6 : decode cX6_waitingBut 6 = .ok (.getfield 84, 3) := by decide +kernel
theorem dX6_waitingBut_9 : decode cX6_waitingBut 9 = .ok (.if_icmp .ge 34, 3) := by decide +kernel
theorem dX6_waitingBut_12 : decode cX6_waitingBut 12 = .ok (.iload_n 2, 1) := by decide +kernel
theorem dX6_waitingBut_13 : decode cX6_waitingBut 13 = .ok (.iload_n 3, 1) := by decide +kernel
theorem dX6_waitingBut_14 : decode cX6_waitingBut 14 = .ok (.iload_n 1, 1) := by decide +kernel
theorem dX6_waitingBut_15 : decode cX6_waitingBut 15 = .ok (.if_icmp .eq 19, 3) := by decide +kernel
theorem dX6_waitingBut_18 : decode cX6_waitingBut 18 = .ok (.aload_n 0, 1) := by decide +kernel
theorem dX6_waitingBut_19 : decode cX6_waitingBut 19 = .ok (.getfield 22, 3) := by decide +kernel
theorem dX6_waitingBut_22 : decode cX6_waitingBut 22 = .ok (.iload_n 3, 1) := by decide +kernel
theorem dX6_waitingBut_23 : decode cX6_waitingBut 23 = .ok (.iaload, 1) := by decide +kernel
theorem dX6_waitingBut_24 : decode cX6_waitingBut 24 = .ok (.iconst 1, 1) := by decide +kernel
theorem dX6_waitingBut_25 : decode cX6_waitingBut 25 = .ok (.if_icmp .ne 9, 3) := by decide +kernel
theorem dX6_waitingBut_28 : decode cX6_waitingBut 28 = .ok (.iconst 1, 1) := by decide +kernel
theorem dX6_waitingBut_29 : decode cX6_waitingBut 29 = .ok (.iload_n 3, 1) := by decide +kernel
theorem dX6_waitingBut_30 : decode cX6_waitingBut 30 = .ok (.ishl, 1) := by decide +kernel
theorem dX6_waitingBut_31 : decode cX6_waitingBut 31 = .ok (.goto 4, 3) := by decide +kernel
theorem dX6_waitingBut_34 : decode cX6_waitingBut 34 = .ok (.iconst 0, 1) := by decide +kernel
theorem dX6_waitingBut_35 : decode cX6_waitingBut 35 = .ok (.ior, 1) := by decide +kernel
theorem dX6_waitingBut_36 : decode cX6_waitingBut 36 = .ok (.istore_n 2, 1) := by decide +kernel
theorem dX6_waitingBut_37 : decode cX6_waitingBut 37 = .ok (.iinc 3 1, 3) := by decide +kernel
theorem dX6_waitingBut_40 : decode cX6_waitingBut 40 = .ok (.goto (-36), 3) := by decide +kernel
theorem dX6_waitingBut_43 : decode cX6_waitingBut 43 = .ok (.iload_n 2, 1) := by decide +kernel
theorem dX6_waitingBut_44 : decode cX6_waitingBut 44 = .ok (.ireturn, 1) := by decide +kernel
theorem dX6_likely_0 : decode cX6_likely 0 = .ok (.aload_n 0, 1) := by decide +kernel
theorem dX6_likely_1 : decode cX6_likely 1 = .ok (.iload_n 1, 1) := by decide +kernel
theorem dX6_likely_2 : decode cX6_likely 2 = .ok (.invokevirtual 181, 3) := by decide +kernel
theorem dX6_likely_5 : decode cX6_likely 5 = .ok (.ifCond .eq 22, 3) := by decide +kernel
theorem dX6_likely_8 : decode cX6_likely 8 = .ok (.iload_n 2, 1) := by decide +kernel
theorem dX6_likely_9 : decode cX6_likely 9 = .ok (.iconst 0, 1) := by decide +kernel
theorem dX6_likely_10 : decode cX6_likely 10 = .ok (.bipush 10, 2) := by decide +kernel
theorem dX6_likely_12 : decode cX6_likely 12 = .ok (.invokestatic 87, 3) := by decide +kernel
theorem dX6_likely_15 : decode cX6_likely 15 = .ok (.ifCond .eq 12, 3) := by decide +kernel
theorem dX6_likely_18 : decode cX6_likely 18 = .ok (.iload_n 3, 1) := by decide +kernel
theorem dX6_likely_19 : decode cX6_likely 19 = .ok (.iconst 0, 1) := by decide +kernel
theorem dX6_likely_20 : decode cX6_likely 20 = .ok (.iconst 1, 1) := by decide +kernel
theorem dX6_likely_21 : decode cX6_likely 21 = .ok (.invokestatic 87, 3) := by decide +kernel
theorem dX6_likely_24 : decode cX6_likely 24 = .ok (.ifCond .ne 5, 3) := by decide +kernel
theorem dX6_likely_27 : decode cX6_likely 27 = .ok (.iconst (-1), 1) := by decide +kernel
theorem dX6_likely_28 : decode cX6_likely 28 = .ok (.ireturn, 1) := by decide +kernel
theorem dX6_likely_29 : decode cX6_likely 29 = .ok (.aload_n 0, 1) := by decide +kernel
theorem dX6_likely_30 : decode cX6_likely 30 = .ok (.iload_n 1, 1) := by decide +kernel
theorem dX6_likely_31 : decode cX6_likely 31 = .ok (.invokevirtual 228, 3) := by decide +kernel
theorem dX6_likely_34 : decode cX6_likely 34 = .ok (.istore 4, 2) := by decide +kernel
theorem dX6_likely_36 : decode cX6_likely 36 = .ok (.lconst 0, 1) := by decide +kernel
theorem dX6_likely_37 : decode cX6_likely 37 = .ok (.lstore 5, 2) := by decide +kernel
theorem dX6_likely_39 : decode cX6_likely 39 = .ok (.lconst 1, 1) := by decide +kernel
theorem dX6_likely_40 : decode cX6_likely 40 = .ok (.lstore 7, 2) := by decide +kernel
theorem dX6_likely_42 : decode cX6_likely 42 = .ok (.iconst 0, 1) := by decide +kernel
theorem dX6_likely_43 : decode cX6_likely 43 = .ok (.istore 9, 2) := by decide +kernel
theorem dX6_likely_45 : decode cX6_likely 45 = .ok (.iload 9, 2) := by decide +kernel
theorem dX6_likely_47 : decode cX6_likely 47 = .ok (.aload_n 0, 1) := by decide +kernel
theorem dX6_likely_48 : decode cX6_likely 48 = .ok (.getfield 84, 3) := by decide +kernel
theorem dX6_likely_51 : decode cX6_likely 51 = .ok (.if_icmp .ge 31, 3) := by decide +kernel
theorem dX6_likely_54 : decode cX6_likely 54 = .ok (.lload 7, 2) := by decide +kernel
theorem dX6_likely_56 : decode cX6_likely 56 = .ok (.iload 4, 2) := by decide +kernel
theorem dX6_likely_58 : decode cX6_likely 58 = .ok (.iload 9, 2) := by decide +kernel
theorem dX6_likely_60 : decode cX6_likely 60 = .ok (.invokestatic 219, 3) := by decide +kernel
theorem dX6_likely_63 : decode cX6_likely 63 = .ok (.ifCond .eq 9, 3) := by decide +kernel
theorem dX6_likely_66 : decode cX6_likely 66 = .ok (.ldc2_w 231, 3) := by decide +kernel
theorem dX6_likely_69 : decode cX6_likely 69 = .ok (.goto 4, 3) := by decide +kernel
theorem dX6_likely_72 : decode cX6_likely 72 = .ok (.lconst 1, 1) := by decide +kernel
theorem dX6_likely_73 : decode cX6_likely 73 = .ok (.lmul, 1) := by decide +kernel
theorem dX6_likely_74 : decode cX6_likely 74 = .ok (.lstore 7, 2) := by decide +kernel
theorem dX6_likely_76 : decode cX6_likely 76 = .ok (.iinc 9 1, 3) := by decide +kernel
theorem dX6_likely_79 : decode cX6_likely 79 = .ok (.goto (-34), 3) := by decide +kernel
theorem dX6_likely_82 : decode cX6_likely 82 = .ok (.iconst 0, 1) := by decide +kernel
theorem dX6_likely_83 : decode cX6_likely 83 = .ok (.istore 9, 2) := by decide +kernel
theorem dX6_likely_85 : decode cX6_likely 85 = .ok (.iload 9, 2) := by decide +kernel
theorem dX6_likely_87 : decode cX6_likely 87 = .ok (.iload 4, 2) := by decide +kernel
theorem dX6_likely_89 : decode cX6_likely 89 = .ok (.if_icmp .gt 138, 3) := by decide +kernel
theorem dX6_likely_92 : decode cX6_likely 92 = .ok (.iload 9, 2) := by decide +kernel
theorem dX6_likely_94 : decode cX6_likely 94 = .ok (.iload 4, 2) := by decide +kernel
theorem dX6_likely_96 : decode cX6_likely 96 = .ok (.iconst (-1), 1) := by decide +kernel
theorem dX6_likely_97 : decode cX6_likely 97 = .ok (.ixor, 1) := by decide +kernel
theorem dX6_likely_98 : decode cX6_likely 98 = .ok (.iand, 1) := by decide +kernel
theorem dX6_likely_99 : decode cX6_likely 99 = .ok (.ifCond .ne 122, 3) := by decide +kernel
theorem dX6_likely_102 : decode cX6_likely 102 = .ok (.lconst 1, 1) := by decide +kernel
theorem dX6_likely_103 : decode cX6_likely 103 = .ok (.lstore 10, 2) := by decide +kernel
theorem dX6_likely_105 : decode cX6_likely 105 = .ok (.aload_n 0, 1) := by decide +kernel
theorem dX6_likely_106 : decode cX6_likely 106 = .ok (.invokevirtual 207, 3) := by decide +kernel
theorem dX6_likely_109 : decode cX6_likely 109 = .ok (.iconst 0, 1) := by decide +kernel
theorem dX6_likely_110 : decode cX6_likely 110 = .ok (.istore 12, 2) := by decide +kernel
theorem dX6_likely_112 : decode cX6_likely 112 = .ok (.iload 12, 2) := by decide +kernel
theorem dX6_likely_114 : decode cX6_likely 114 = .ok (.aload_n 0, 1) := by decide +kernel
theorem dX6_likely_115 : decode cX6_likely 115 = .ok (.getfield 84, 3) := by decide +kernel
theorem dX6_likely_118 : decode cX6_likely 118 = .ok (.if_icmp .ge 76, 3) := by decide +kernel
theorem dX6_likely_121 : decode cX6_likely 121 = .ok (.lload 10, 2) := by decide +kernel
theorem dX6_likely_123 : decode cX6_likely 123 = .ok (.iload 4, 2) := by decide +kernel
theorem dX6_likely_125 : decode cX6_likely 125 = .ok (.iload 12, 2) := by decide +kernel
theorem dX6_likely_127 : decode cX6_likely 127 = .ok (.invokestatic 219, 3) := by decide +kernel
theorem dX6_likely_130 : decode cX6_likely 130 = .ok (.ifCond .ne 7, 3) := by decide +kernel
theorem dX6_likely_133 : decode cX6_likely 133 = .ok (.lconst 1, 1) := by decide +kernel
theorem dX6_likely_134 : decode cX6_likely 134 = .ok (.goto 23, 3) := by decide +kernel
theorem dX6_likely_137 : decode cX6_likely 137 = .ok (.iload 9, 2) := by decide +kernel
theorem dX6_likely_139 : decode cX6_likely 139 = .ok (.iload 12, 2) := by decide +kernel
theorem dX6_likely_141 : decode cX6_likely 141 = .ok (.invokestatic 219, 3) := by decide +kernel
theorem dX6_likely_144 : decode cX6_likely 144 = .ok (.ifCond .eq 8, 3) := by decide +kernel
theorem dX6_likely_147 : decode cX6_likely 147 = .ok (.iload_n 2, 1) := by decide +kernel
theorem dX6_likely_148 : decode cX6_likely 148 = .ok (.i2l, 1) := by decide +kernel
theorem dX6_likely_149 : decode cX6_likely 149 = .ok (.goto 8, 3) := by decide +kernel
theorem dX6_likely_152 : decode cX6_likely 152 = .ok (.bipush 10, 2) := by decide +kernel
theorem dX6_likely_154 : decode cX6_likely 154 = .ok (.iload_n 2, 1) := by decide +kernel
theorem dX6_likely_155 : decode cX6_likely 155 = .ok (.isub, 1) := by decide +kernel
theorem dX6_likely_156 : decode cX6_likely 156 = .ok (.i2l, 1) := by decide +kernel
theorem dX6_likely_157 : decode cX6_likely 157 = .ok (.lmul, 1) := by decide +kernel
theorem dX6_likely_158 : decode cX6_likely 158 = .ok (.lstore 10, 2) := by decide +kernel
theorem dX6_likely_160 : decode cX6_likely 160 = .ok (.aload_n 0, 1) := by decide +kernel
theorem dX6_likely_161 : decode cX6_likely 161 = .ok (.getfield 22, 3) := by decide +kernel
theorem dX6_likely_164 : decode cX6_likely 164 = .ok (.iload 12, 2) := by decide +kernel
theorem dX6_likely_166 : decode cX6_likely 166 = .ok (.iload 9, 2) := by decide +kernel
theorem dX6_likely_168 : decode cX6_likely 168 = .ok (.iload 12, 2) := by decide +kernel
theorem dX6_likely_170 : decode cX6_likely 170 = .ok (.invokestatic 219, 3) := by decide +kernel
theorem dX6_likely_173 : decode cX6_likely 173 = .ok (.ifCond .eq 7, 3) := by decide +kernel
theorem dX6_likely_176 : decode cX6_likely 176 = .ok (.iconst 4, 1) := by decide +kernel
theorem dX6_likely_177 : decode cX6_likely 177 = .ok (.goto 10, 3) := by decide +kernel
theorem dX6_likely_180 : decode cX6_likely 180 = .ok (.aload_n 0, 1) := by decide +kernel
theorem dX6_likely_181 : decode cX6_likely 181 = .ok (.getfield 22, 3) := by decide +kernel
theorem dX6_likely_184 : decode cX6_likely 184 = .ok (.iload 12, 2) := by decide +kernel
theorem dX6_likely_186 : decode cX6_likely 186 = .ok (.iaload, 1) := by decide +kernel
theorem dX6_likely_187 : decode cX6_likely 187 = .ok (.iastore, 1) := by decide +kernel
theorem dX6_likely_188 : decode cX6_likely 188 = .ok (.iinc 12 1, 3) := by decide +kernel
theorem dX6_likely_191 : decode cX6_likely 191 = .ok (.goto (-79), 3) := by decide +kernel
theorem dX6_likely_194 : decode cX6_likely 194 = .ok (.lload 5, 2) := by decide +kernel
theorem dX6_likely_196 : decode cX6_likely 196 = .ok (.aload_n 0, 1) := by decide +kernel
theorem dX6_likely_197 : decode cX6_likely 197 = .ok (.iload_n 1, 1) := by decide +kernel
theorem dX6_likely_198 : decode cX6_likely 198 = .ok (.bipush 60, 2) := by decide +kernel
theorem dX6_likely_200 : decode cX6_likely 200 = .ok (.invokevirtual 216, 3) := by decide +kernel
theorem dX6_likely_203 : decode cX6_likely 203 = .ok (.bipush (-4), 2) := by decide +kernel
theorem dX6_likely_205 : decode cX6_likely 205 = .ok (.if_icmp .eq 8, 3) := by decide +kernel
theorem dX6_likely_208 : decode cX6_likely 208 = .ok (.lload 10, 2) := by decide +kernel
theorem dX6_likely_210 : decode cX6_likely 210 = .ok (.goto 4, 3) := by decide +kernel
theorem dX6_likely_213 : decode cX6_likely 213 = .ok (.lconst 0, 1) := by decide +kernel
theorem dX6_likely_214 : decode cX6_likely 214 = .ok (.ladd, 1) := by decide +kernel
theorem dX6_likely_215 : decode cX6_likely 215 = .ok (.lstore 5, 2) := by decide +kernel
theorem dX6_likely_217 : decode cX6_likely 217 = .ok (.aload_n 0, 1) := by decide +kernel
theorem dX6_likely_218 : decode cX6_likely 218 = .ok (.invokevirtual 210, 3) := by decide +kernel
theorem dX6_likely_221 : decode cX6_likely 221 = .ok (.iinc 9 1, 3) := by decide +kernel
theorem dX6_likely_224 : decode cX6_likely 224 = .ok (.goto (-139), 3) := by decide +kernel
theorem dX6_likely_227 : decode cX6_likely 227 = .ok (.lload 5, 2) := by decide +kernel
theorem dX6_likely_229 : decode cX6_likely 229 = .ok (.lload 7, 2) := by decide +kernel
theorem dX6_likely_231 : decode cX6_likely 231 = .ok (.invokestatic 233, 3) := by decide +kernel
theorem dX6_likely_234 : decode cX6_likely 234 = .ok (.lstore 9, 2) := by decide +kernel
theorem dX6_likely_236 : decode cX6_likely 236 = .ok (.iload_n 3, 1) := by decide +kernel
theorem dX6_likely_237 : decode cX6_likely 237 = .ok (.ifCond .ne 11, 3) := by decide +kernel
theorem dX6_likely_240 : decode cX6_likely 240 = .ok (.lload 5, 2) := by decide +kernel
theorem dX6_likely_242 : decode cX6_likely 242 = .ok (.lload 9, 2) := by decide +kernel
theorem dX6_likely_244 : decode cX6_likely 244 = .ok (.ldiv, 1) := by decide +kernel
theorem dX6_likely_245 : decode cX6_likely 245 = .ok (.goto 8, 3) := by decide +kernel
theorem dX6_likely_248 : decode cX6_likely 248 = .ok (.lload 7, 2) := by decide +kernel
theorem dX6_likely_250 : decode cX6_likely 250 = .ok (.lload 9, 2) := by decide +kernel
theorem dX6_likely_252 : decode cX6_likely 252 = .ok (.ldiv, 1) := by decide +kernel
theorem dX6_likely_253 : decode cX6_likely 253 = .ok (.l2i, 1) := by decide +kernel
theorem dX6_likely_254 : decode cX6_likely 254 = .ok (.ireturn, 1) := by decide +kernel
theorem dX6_worthThrough_0 : decode cX6_worthThrough 0 = .ok (.iconst 0, 1) := by decide +kernel
theorem dX6_worthThrough_1 : decode cX6_worthThrough 1 = .ok (.istore_n 1, 1) := by decide +kernel
theorem dX6_worthThrough_2 : decode cX6_worthThrough 2 = .ok (.iconst 0, 1) := by decide +kernel
theorem dX6_worthThrough_3 : decode cX6_worthThrough 3 = .ok (.istore_n 2, 1) := by decide +kernel
theorem dX6_worthThrough_4 : decode cX6_worthThrough 4 = .ok (.iload_n 2, 1) := by decide +kernel
theorem dX6_worthThrough_5 : decode cX6_worthThrough 5 = .ok (.aload_n 0, 1) := by decide +kernel
theorem dX6_worthThrough_6 : decode cX6_worthThrough 6 = .ok (.getfield 84, 3) := by decide +kernel
theorem dX6_worthThrough_9 : decode cX6_worthThrough 9 = .ok (.if_icmp .ge 32, 3) := by decide +kernel
theorem dX6_worthThrough_12 : decode cX6_worthThrough 12 = .ok (.iload_n 1, 1) := by decide +kernel
theorem dX6_worthThrough_13 : decode cX6_worthThrough 13 = .ok (.aload_n 0, 1) := by decide +kernel
theorem dX6_worthThrough_14 : decode cX6_worthThrough 14 = .ok (.getfield 22, 3) := by decide +kernel
theorem dX6_worthThrough_17 : decode cX6_worthThrough 17 = .ok (.iload_n 2, 1) := by decide +kernel
theorem dX6_worthThrough_18 : decode cX6_worthThrough 18 = .ok (.iaload, 1) := by decide +kernel
theorem dX6_worthThrough_19 : decode cX6_worthThrough 19 = .ok (.iconst 3, 1) := by decide +kernel
theorem dX6_worthThrough_20 : decode cX6_worthThrough 20 = .ok (.if_icmp .ne 12, 3) := by decide +kernel
theorem dX6_worthThrough_23 : decode cX6_worthThrough 23 = .ok (.aload_n 0, 1) := by decide +kernel
theorem dX6_worthThrough_24 : decode cX6_worthThrough 24 = .ok (.getfield 19, 3) := by decide +kernel
theorem dX6_worthThrough_27 : decode cX6_worthThrough 27 = .ok (.iload_n 2, 1) := by decide +kernel
theorem dX6_worthThrough_28 : decode cX6_worthThrough 28 = .ok (.iaload, 1) := by decide +kernel
theorem dX6_worthThrough_29 : decode cX6_worthThrough 29 = .ok (.goto 4, 3) := by decide +kernel
theorem dX6_worthThrough_32 : decode cX6_worthThrough 32 = .ok (.iconst 0, 1) := by decide +kernel
theorem dX6_worthThrough_33 : decode cX6_worthThrough 33 = .ok (.iadd, 1) := by decide +kernel
theorem dX6_worthThrough_34 : decode cX6_worthThrough 34 = .ok (.istore_n 1, 1) := by decide +kernel
theorem dX6_worthThrough_35 : decode cX6_worthThrough 35 = .ok (.iinc 2 1, 3) := by decide +kernel
theorem dX6_worthThrough_38 : decode cX6_worthThrough 38 = .ok (.goto (-34), 3) := by decide +kernel
theorem dX6_worthThrough_41 : decode cX6_worthThrough 41 = .ok (.iload_n 1, 1) := by decide +kernel
theorem dX6_worthThrough_42 : decode cX6_worthThrough 42 = .ok (.ireturn, 1) := by decide +kernel
theorem dX6_day_0 : decode cX6_day 0 = .ok (.iload_n 1, 1) := by decide +kernel
theorem dX6_day_1 : decode cX6_day 1 = .ok (.iconst 0, 1) := by decide +kernel
theorem dX6_day_2 : decode cX6_day 2 = .ok (.sipush 9999, 3) := by decide +kernel
theorem dX6_day_5 : decode cX6_day 5 = .ok (.invokestatic 87, 3) := by decide +kernel
theorem dX6_day_8 : decode cX6_day 8 = .ok (.ifCond .eq 22, 3) := by decide +kernel
theorem dX6_day_11 : decode cX6_day 11 = .ok (.iload_n 2, 1) := by decide +kernel
theorem dX6_day_12 : decode cX6_day 12 = .ok (.iconst 1, 1) := by decide +kernel
theorem dX6_day_13 : decode cX6_day 13 = .ok (.bipush 60, 2) := by decide +kernel
theorem dX6_day_15 : decode cX6_day 15 = .ok (.invokestatic 87, 3) := by decide +kernel
theorem dX6_day_18 : decode cX6_day 18 = .ok (.ifCond .eq 12, 3) := by decide +kernel
theorem dX6_day_21 : decode cX6_day 21 = .ok (.iload_n 3, 1) := by decide +kernel
theorem dX6_day_22 : decode cX6_day 22 = .ok (.iconst 0, 1) := by decide +kernel
theorem dX6_day_23 : decode cX6_day 23 = .ok (.iconst 2, 1) := by decide +kernel
theorem dX6_day_24 : decode cX6_day 24 = .ok (.invokestatic 87, 3) := by decide +kernel
theorem dX6_day_27 : decode cX6_day 27 = .ok (.ifCond .ne 5, 3) := by decide +kernel
theorem dX6_day_30 : decode cX6_day 30 = .ok (.iconst (-1), 1) := by decide +kernel
theorem dX6_day_31 : decode cX6_day 31 = .ok (.ireturn, 1) := by decide +kernel
theorem dX6_day_32 : decode cX6_day 32 = .ok (.aload_n 0, 1) := by decide +kernel
theorem dX6_day_33 : decode cX6_day 33 = .ok (.invokevirtual 207, 3) := by decide +kernel
theorem dX6_day_36 : decode cX6_day 36 = .ok (.iconst 0, 1) := by decide +kernel
theorem dX6_day_37 : decode cX6_day 37 = .ok (.istore 4, 2) := by decide +kernel
theorem dX6_day_39 : decode cX6_day 39 = .ok (.iload 4, 2) := by decide +kernel
theorem dX6_day_41 : decode cX6_day 41 = .ok (.iload_n 2, 1) := by decide +kernel
theorem dX6_day_42 : decode cX6_day 42 = .ok (.if_icmp .ge 179, 3) := by decide +kernel
theorem dX6_day_45 : decode cX6_day 45 = .ok (.ldc2_w 237, 3) := by decide +kernel
theorem dX6_day_48 : decode cX6_day 48 = .ok (.iload_n 1, 1) := by decide +kernel
theorem dX6_day_49 : decode cX6_day 49 = .ok (.i2l, 1) := by decide +kernel
theorem dX6_day_50 : decode cX6_day 50 = .ok (.lmul, 1) := by decide +kernel
theorem dX6_day_51 : decode cX6_day 51 = .ok (.ldc2_w 239, 3) := by decide +kernel
theorem dX6_day_54 : decode cX6_day 54 = .ok (.iload 4, 2) := by decide +kernel
theorem dX6_day_56 : decode cX6_day 56 = .ok (.i2l, 1) := by decide +kernel
theorem dX6_day_57 : decode cX6_day 57 = .ok (.lmul, 1) := by decide +kernel
theorem dX6_day_58 : decode cX6_day 58 = .ok (.ladd, 1) := by decide +kernel
theorem dX6_day_59 : decode cX6_day 59 = .ok (.lconst 1, 1) := by decide +kernel
theorem dX6_day_60 : decode cX6_day 60 = .ok (.ladd, 1) := by decide +kernel
theorem dX6_day_61 : decode cX6_day 61 = .ok (.lstore 5, 2) := by decide +kernel
theorem dX6_day_63 : decode cX6_day 63 = .ok (.lload 5, 2) := by decide +kernel
theorem dX6_day_65 : decode cX6_day 65 = .ok (.lload 5, 2) := by decide +kernel
theorem dX6_day_67 : decode cX6_day 67 = .ok (.lmul, 1) := by decide +kernel
theorem dX6_day_68 : decode cX6_day 68 = .ok (.ldc2_w 241, 3) := by decide +kernel
theorem dX6_day_71 : decode cX6_day 71 = .ok (.lrem, 1) := by decide +kernel
theorem dX6_day_72 : decode cX6_day 72 = .ok (.ldc2_w 243, 3) := by decide +kernel
theorem dX6_day_75 : decode cX6_day 75 = .ok (.ldiv, 1) := by decide +kernel
theorem dX6_day_76 : decode cX6_day 76 = .ok (.l2i, 1) := by decide +kernel
theorem dX6_day_77 : decode cX6_day 77 = .ok (.istore 7, 2) := by decide +kernel
theorem dX6_day_79 : decode cX6_day 79 = .ok (.iload 7, 2) := by decide +kernel
theorem dX6_day_81 : decode cX6_day 81 = .ok (.aload_n 0, 1) := by decide +kernel
theorem dX6_day_82 : decode cX6_day 82 = .ok (.getfield 84, 3) := by decide +kernel
theorem dX6_day_85 : decode cX6_day 85 = .ok (.irem, 1) := by decide +kernel
theorem dX6_day_86 : decode cX6_day 86 = .ok (.istore 8, 2) := by decide +kernel
theorem dX6_day_88 : decode cX6_day 88 = .ok (.iload 7, 2) := by decide +kernel
theorem dX6_day_90 : decode cX6_day 90 = .ok (.bipush 8, 2) := by decide +kernel
theorem dX6_day_92 : decode cX6_day 92 = .ok (.idiv, 1) := by decide +kernel
theorem dX6_day_93 : decode cX6_day 93 = .ok (.bipush 6, 2) := by decide +kernel
theorem dX6_day_95 : decode cX6_day 95 = .ok (.irem, 1) := by decide +kernel
theorem dX6_day_96 : decode cX6_day 96 = .ok (.istore 9, 2) := by decide +kernel
theorem dX6_day_98 : decode cX6_day 98 = .ok (.iload 9, 2) := by decide +kernel
theorem dX6_day_100 : decode cX6_day 100 = .ok (.ifCond .ne 23, 3) := by decide +kernel
theorem dX6_day_103 : decode cX6_day 103 = .ok (.aload_n 0, 1) := by decide +kernel
theorem dX6_day_104 : decode cX6_day 104 = .ok (.getfield 22, 3) := by decide +kernel
theorem dX6_day_107 : decode cX6_day 107 = .ok (.iload 8, 2) := by decide +kernel
theorem dX6_day_109 : decode cX6_day 109 = .ok (.iaload, 1) := by decide +kernel
theorem dX6_day_110 : decode cX6_day 110 = .ok (.iconst 1, 1) := by decide +kernel
theorem dX6_day_111 : decode cX6_day 111 = .ok (.if_icmp .ne 12, 3) := by decide +kernel
theorem dX6_day_114 : decode cX6_day 114 = .ok (.aload_n 0, 1) := by decide +kernel
theorem dX6_day_115 : decode cX6_day 115 = .ok (.iload 8, 2) := by decide +kernel
theorem dX6_day_117 : decode cX6_day 117 = .ok (.invokevirtual 198, 3) := by decide +kernel
theorem dX6_day_120 : decode cX6_day 120 = .ok (.goto 91, 3) := by decide +kernel
theorem dX6_day_123 : decode cX6_day 123 = .ok (.iload 9, 2) := by decide +kernel
theorem dX6_day_125 : decode cX6_day 125 = .ok (.iconst 1, 1) := by decide +kernel
theorem dX6_day_126 : decode cX6_day 126 = .ok (.if_icmp .ne 34, 3) := by decide +kernel
theorem dX6_day_129 : decode cX6_day 129 = .ok (.aload_n 0, 1) := by decide +kernel
theorem dX6_day_130 : decode cX6_day 130 = .ok (.getfield 22, 3) := by decide +kernel
theorem dX6_day_133 : decode cX6_day 133 = .ok (.iload 8, 2) := by decide +kernel
theorem dX6_day_135 : decode cX6_day 135 = .ok (.iaload, 1) := by decide +kernel
theorem dX6_day_136 : decode cX6_day 136 = .ok (.iconst 3, 1) := by decide +kernel
theorem dX6_day_137 : decode cX6_day 137 = .ok (.if_icmp .eq 14, 3) := by decide +kernel
theorem dX6_day_140 : decode cX6_day 140 = .ok (.aload_n 0, 1) := by decide +kernel
theorem dX6_day_141 : decode cX6_day 141 = .ok (.getfield 22, 3) := by decide +kernel
theorem dX6_day_144 : decode cX6_day 144 = .ok (.iload 8, 2) := by decide +kernel
theorem dX6_day_146 : decode cX6_day 146 = .ok (.iaload, 1) := by decide +kernel
theorem dX6_day_147 : decode cX6_day 147 = .ok (.iconst 4, 1) := by decide +kernel
theorem dX6_day_148 : decode cX6_day 148 = .ok (.if_icmp .ne 12, 3) := by decide +kernel
theorem dX6_day_151 : decode cX6_day 151 = .ok (.aload_n 0, 1) := by decide +kernel
theorem dX6_day_152 : decode cX6_day 152 = .ok (.iload 8, 2) := by decide +kernel
theorem dX6_day_154 : decode cX6_day 154 = .ok (.invokevirtual 201, 3) := by decide +kernel
theorem dX6_day_157 : decode cX6_day 157 = .ok (.goto 54, 3) := by decide +kernel
theorem dX6_day_160 : decode cX6_day 160 = .ok (.iload 9, 2) := by decide +kernel
theorem dX6_day_162 : decode cX6_day 162 = .ok (.iconst 2, 1) := by decide +kernel
theorem dX6_day_163 : decode cX6_day 163 = .ok (.if_icmp .ne 24, 3) := by decide +kernel
theorem dX6_day_166 : decode cX6_day 166 = .ok (.aload_n 0, 1) := by decide +kernel
theorem dX6_day_167 : decode cX6_day 167 = .ok (.getfield 77, 3) := by decide +kernel
theorem dX6_day_170 : decode cX6_day 170 = .ok (.iconst 4, 1) := by decide +kernel
theorem dX6_day_171 : decode cX6_day 171 = .ok (.if_icmp .ge 16, 3) := by decide +kernel
theorem dX6_day_174 : decode cX6_day 174 = .ok (.aload_n 0, 1) := by decide +kernel
theorem dX6_day_175 : decode cX6_day 175 = .ok (.dup, 1) := by decide +kernel
theorem dX6_day_176 : decode cX6_day 176 = .ok (.getfield 77, 3) := by decide +kernel
theorem dX6_day_179 : decode cX6_day 179 = .ok (.iconst 1, 1) := by decide +kernel
theorem dX6_day_180 : decode cX6_day 180 = .ok (.iadd, 1) := by decide +kernel
theorem dX6_day_181 : decode cX6_day 181 = .ok (.putfield 77, 3) := by decide +kernel
theorem dX6_day_184 : decode cX6_day 184 = .ok (.goto 27, 3) := by decide +kernel
theorem dX6_day_187 : decode cX6_day 187 = .ok (.iload 9, 2) := by decide +kernel
theorem dX6_day_189 : decode cX6_day 189 = .ok (.iconst 3, 1) := by decide +kernel
theorem dX6_day_190 : decode cX6_day 190 = .ok (.if_icmp .ne 21, 3) := by decide +kernel
theorem dX6_day_193 : decode cX6_day 193 = .ok (.aload_n 0, 1) := by decide +kernel
theorem dX6_day_194 : decode cX6_day 194 = .ok (.getfield 77, 3) := by decide +kernel
theorem dX6_day_197 : decode cX6_day 197 = .ok (.iconst 1, 1) := by decide +kernel
theorem dX6_day_198 : decode cX6_day 198 = .ok (.if_icmp .le 13, 3) := by decide +kernel
theorem dX6_day_201 : decode cX6_day 201 = .ok (.aload_n 0, 1) := by decide +kernel
theorem dX6_day_202 : decode cX6_day 202 = .ok (.dup, 1) := by decide +kernel
theorem dX6_day_203 : decode cX6_day 203 = .ok (.getfield 77, 3) := by decide +kernel
theorem dX6_day_206 : decode cX6_day 206 = .ok (.iconst 1, 1) := by decide +kernel
theorem dX6_day_207 : decode cX6_day 207 = .ok (.isub, 1) := by decide +kernel
theorem dX6_day_208 : decode cX6_day 208 = .ok (.putfield 77, 3) := by decide +kernel
theorem dX6_day_211 : decode cX6_day 211 = .ok (.aload_n 0, 1) := by decide +kernel
theorem dX6_day_212 : decode cX6_day 212 = .ok (.invokevirtual 195, 3) := by decide +kernel
theorem dX6_day_215 : decode cX6_day 215 = .ok (.iinc 4 1, 3) := by decide +kernel
theorem dX6_day_218 : decode cX6_day 218 = .ok (.goto (-179), 3) := by decide +kernel
theorem dX6_day_221 : decode cX6_day 221 = .ok (.iload_n 3, 1) := by decide +kernel
theorem dX6_day_222 : decode cX6_day 222 = .ok (.ifCond .ne 11, 3) := by decide +kernel
theorem dX6_day_225 : decode cX6_day 225 = .ok (.aload_n 0, 1) := by decide +kernel
theorem dX6_day_226 : decode cX6_day 226 = .ok (.iconst 3, 1) := by decide +kernel
theorem dX6_day_227 : decode cX6_day 227 = .ok (.invokevirtual 172, 3) := by decide +kernel
theorem dX6_day_230 : decode cX6_day 230 = .ok (.goto 20, 3) := by decide +kernel
theorem dX6_day_233 : decode cX6_day 233 = .ok (.iload_n 3, 1) := by decide +kernel
theorem dX6_day_234 : decode cX6_day 234 = .ok (.iconst 1, 1) := by decide +kernel
theorem dX6_day_235 : decode cX6_day 235 = .ok (.if_icmp .ne 11, 3) := by decide +kernel
theorem dX6_day_238 : decode cX6_day 238 = .ok (.aload_n 0, 1) := by decide +kernel
theorem dX6_day_239 : decode cX6_day 239 = .ok (.iconst 4, 1) := by decide +kernel
theorem dX6_day_240 : decode cX6_day 240 = .ok (.invokevirtual 172, 3) := by decide +kernel
theorem dX6_day_243 : decode cX6_day 243 = .ok (.goto 7, 3) := by decide +kernel
theorem dX6_day_246 : decode cX6_day 246 = .ok (.aload_n 0, 1) := by decide +kernel
theorem dX6_day_247 : decode cX6_day 247 = .ok (.invokevirtual 245, 3) := by decide +kernel
theorem dX6_day_250 : decode cX6_day 250 = .ok (.istore 4, 2) := by decide +kernel
theorem dX6_day_252 : decode cX6_day 252 = .ok (.aload_n 0, 1) := by decide +kernel
theorem dX6_day_253 : decode cX6_day 253 = .ok (.invokevirtual 210, 3) := by decide +kernel
theorem dX6_day_256 : decode cX6_day 256 = .ok (.iload 4, 2) := by decide +kernel
theorem dX6_day_258 : decode cX6_day 258 = .ok (.ireturn, 1) := by decide +kernel
theorem dX6_keep_0 : decode cX6_keep 0 = .ok (.aload_n 0, 1) := by decide +kernel
theorem dX6_keep_1 : decode cX6_keep 1 = .ok (.getfield 153, 3) := by decide +kernel
theorem dX6_keep_4 : decode cX6_keep 4 = .ok (.iconst 2, 1) := by decide +kernel
theorem dX6_keep_5 : decode cX6_keep 5 = .ok (.if_icmp .ne 6, 3) := by decide +kernel
theorem dX6_keep_8 : decode cX6_keep 8 = .ok (.bipush (-3), 2) := by decide +kernel
theorem dX6_keep_10 : decode cX6_keep 10 = .ok (.ireturn, 1) := by decide +kernel
theorem dX6_keep_11 : decode cX6_keep 11 = .ok (.aload_n 0, 1) := by decide +kernel
theorem dX6_keep_12 : decode cX6_keep 12 = .ok (.aload_n 0, 1) := by decide +kernel
theorem dX6_keep_13 : decode cX6_keep 13 = .ok (.getfield 70, 3) := by decide +kernel
theorem dX6_keep_16 : decode cX6_keep 16 = .ok (.bipush 44, 2) := by decide +kernel
theorem dX6_keep_18 : decode cX6_keep 18 = .ok (.aload_n 0, 1) := by decide +kernel
theorem dX6_keep_19 : decode cX6_keep 19 = .ok (.getfield 153, 3) := by decide +kernel
theorem dX6_keep_22 : decode cX6_keep 22 = .ok (.imul, 1) := by decide +kernel
theorem dX6_keep_23 : decode cX6_keep 23 = .ok (.invokevirtual 185, 3) := by decide +kernel
theorem dX6_keep_26 : decode cX6_keep 26 = .ok (.aload_n 0, 1) := by decide +kernel
theorem dX6_keep_27 : decode cX6_keep 27 = .ok (.dup, 1) := by decide +kernel
theorem dX6_keep_28 : decode cX6_keep 28 = .ok (.getfield 153, 3) := by decide +kernel
theorem dX6_keep_31 : decode cX6_keep 31 = .ok (.iconst 1, 1) := by decide +kernel
theorem dX6_keep_32 : decode cX6_keep 32 = .ok (.iadd, 1) := by decide +kernel
theorem dX6_keep_33 : decode cX6_keep 33 = .ok (.putfield 153, 3) := by decide +kernel
theorem dX6_keep_36 : decode cX6_keep 36 = .ok (.aload_n 0, 1) := by decide +kernel
theorem dX6_keep_37 : decode cX6_keep 37 = .ok (.getfield 153, 3) := by decide +kernel
theorem dX6_keep_40 : decode cX6_keep 40 = .ok (.ireturn, 1) := by decide +kernel
theorem dX6_back_0 : decode cX6_back 0 = .ok (.aload_n 0, 1) := by decide +kernel
theorem dX6_back_1 : decode cX6_back 1 = .ok (.getfield 153, 3) := by decide +kernel
theorem dX6_back_4 : decode cX6_back 4 = .ok (.ifCond .ne 6, 3) := by decide +kernel
theorem dX6_back_7 : decode cX6_back 7 = .ok (.bipush (-2), 2) := by decide +kernel
theorem dX6_back_9 : decode cX6_back 9 = .ok (.ireturn, 1) := by decide +kernel
theorem dX6_back_10 : decode cX6_back 10 = .ok (.aload_n 0, 1) := by decide +kernel
theorem dX6_back_11 : decode cX6_back 11 = .ok (.dup, 1) := by decide +kernel
theorem dX6_back_12 : decode cX6_back 12 = .ok (.getfield 153, 3) := by decide +kernel
theorem dX6_back_15 : decode cX6_back 15 = .ok (.iconst 1, 1) := by decide +kernel
theorem dX6_back_16 : decode cX6_back 16 = .ok (.isub, 1) := by decide +kernel
theorem dX6_back_17 : decode cX6_back 17 = .ok (.putfield 153, 3) := by decide +kernel
theorem dX6_back_20 : decode cX6_back 20 = .ok (.aload_n 0, 1) := by decide +kernel
theorem dX6_back_21 : decode cX6_back 21 = .ok (.aload_n 0, 1) := by decide +kernel
theorem dX6_back_22 : decode cX6_back 22 = .ok (.getfield 70, 3) := by decide +kernel
theorem dX6_back_25 : decode cX6_back 25 = .ok (.bipush 44, 2) := by decide +kernel
theorem dX6_back_27 : decode cX6_back 27 = .ok (.aload_n 0, 1) := by decide +kernel
theorem dX6_back_28 : decode cX6_back 28 = .ok (.getfield 153, 3) := by decide +kernel
theorem dX6_back_31 : decode cX6_back 31 = .ok (.imul, 1) := by decide +kernel
theorem dX6_back_32 : decode cX6_back 32 = .ok (.invokevirtual 204, 3) := by decide +kernel
theorem dX6_back_35 : decode cX6_back 35 = .ok (.aload_n 0, 1) := by decide +kernel
theorem dX6_back_36 : decode cX6_back 36 = .ok (.iconst 0, 1) := by decide +kernel
theorem dX6_back_37 : decode cX6_back 37 = .ok (.putfield 150, 3) := by decide +kernel
theorem dX6_back_40 : decode cX6_back 40 = .ok (.aload_n 0, 1) := by decide +kernel
theorem dX6_back_41 : decode cX6_back 41 = .ok (.getfield 153, 3) := by decide +kernel
theorem dX6_back_44 : decode cX6_back 44 = .ok (.ireturn, 1) := by decide +kernel
theorem dX6_count_0 : decode cX6_count 0 = .ok (.iload_n 1, 1) := by decide +kernel
theorem dX6_count_1 : decode cX6_count 1 = .ok (.iconst 0, 1) := by decide +kernel
theorem dX6_count_2 : decode cX6_count 2 = .ok (.bipush 12, 2) := by decide +kernel
theorem dX6_count_4 : decode cX6_count 4 = .ok (.invokestatic 87, 3) := by decide +kernel
theorem dX6_count_7 : decode cX6_count 7 = .ok (.ifCond .ne 5, 3) := by decide +kernel
theorem dX6_count_10 : decode cX6_count 10 = .ok (.iconst (-1), 1) := by decide +kernel
theorem dX6_count_11 : decode cX6_count 11 = .ok (.ireturn, 1) := by decide +kernel
theorem dX6_count_12 : decode cX6_count 12 = .ok (.iload_n 1, 1) := by decide +kernel
theorem dX6_count_13 : decode cX6_count 13 = .ok (.tableswitch 127 0 11 #[63, 68, 73, 79, 85, 91, 97, 102, 107, 112, 117, 122], 63) := by decide +kernel
theorem dX6_count_76 : decode cX6_count 76 = .ok (.aload_n 0, 1) := by decide +kernel
theorem dX6_count_77 : decode cX6_count 77 = .ok (.getfield 84, 3) := by decide +kernel
theorem dX6_count_80 : decode cX6_count 80 = .ok (.ireturn, 1) := by decide +kernel
theorem dX6_count_81 : decode cX6_count 81 = .ok (.aload_n 0, 1) := by decide +kernel
theorem dX6_count_82 : decode cX6_count 82 = .ok (.getfield 141, 3) := by decide +kernel
theorem dX6_count_85 : decode cX6_count 85 = .ok (.ireturn, 1) := by decide +kernel
theorem dX6_count_86 : decode cX6_count 86 = .ok (.aload_n 0, 1) := by decide +kernel
theorem dX6_count_87 : decode cX6_count 87 = .ok (.iconst 1, 1) := by decide +kernel
theorem dX6_count_88 : decode cX6_count 88 = .ok (.invokevirtual 172, 3) := by decide +kernel
theorem dX6_count_91 : decode cX6_count 91 = .ok (.ireturn, 1) := by decide +kernel
theorem dX6_count_92 : decode cX6_count 92 = .ok (.aload_n 0, 1) := by decide +kernel
theorem dX6_count_93 : decode cX6_count 93 = .ok (.iconst 2, 1) := by decide +kernel
theorem dX6_count_94 : decode cX6_count 94 = .ok (.invokevirtual 172, 3) := by decide +kernel
theorem dX6_count_97 : decode cX6_count 97 = .ok (.ireturn, 1) := by decide +kernel
theorem dX6_count_98 : decode cX6_count 98 = .ok (.aload_n 0, 1) := by decide +kernel
theorem dX6_count_99 : decode cX6_count 99 = .ok (.iconst 3, 1) := by decide +kernel
theorem dX6_count_100 : decode cX6_count 100 = .ok (.invokevirtual 172, 3) := by decide +kernel
theorem dX6_count_103 : decode cX6_count 103 = .ok (.ireturn, 1) := by decide +kernel
theorem dX6_count_104 : decode cX6_count 104 = .ok (.aload_n 0, 1) := by decide +kernel
theorem dX6_count_105 : decode cX6_count 105 = .ok (.iconst 4, 1) := by decide +kernel
theorem dX6_count_106 : decode cX6_count 106 = .ok (.invokevirtual 172, 3) := by decide +kernel
theorem dX6_count_109 : decode cX6_count 109 = .ok (.ireturn, 1) := by decide +kernel
theorem dX6_count_110 : decode cX6_count 110 = .ok (.aload_n 0, 1) := by decide +kernel
theorem dX6_count_111 : decode cX6_count 111 = .ok (.getfield 77, 3) := by decide +kernel
theorem dX6_count_114 : decode cX6_count 114 = .ok (.ireturn, 1) := by decide +kernel
theorem dX6_count_115 : decode cX6_count 115 = .ok (.aload_n 0, 1) := by decide +kernel
theorem dX6_count_116 : decode cX6_count 116 = .ok (.getfield 81, 3) := by decide +kernel
theorem dX6_count_119 : decode cX6_count 119 = .ok (.ireturn, 1) := by decide +kernel
theorem dX6_count_120 : decode cX6_count 120 = .ok (.aload_n 0, 1) := by decide +kernel
theorem dX6_count_121 : decode cX6_count 121 = .ok (.getfield 138, 3) := by decide +kernel
theorem dX6_count_124 : decode cX6_count 124 = .ok (.ireturn, 1) := by decide +kernel
theorem dX6_count_125 : decode cX6_count 125 = .ok (.aload_n 0, 1) := by decide +kernel
theorem dX6_count_126 : decode cX6_count 126 = .ok (.getfield 147, 3) := by decide +kernel
theorem dX6_count_129 : decode cX6_count 129 = .ok (.ireturn, 1) := by decide +kernel
theorem dX6_count_130 : decode cX6_count 130 = .ok (.aload_n 0, 1) := by decide +kernel
theorem dX6_count_131 : decode cX6_count 131 = .ok (.getfield 150, 3) := by decide +kernel
theorem dX6_count_134 : decode cX6_count 134 = .ok (.ireturn, 1) := by decide +kernel
theorem dX6_count_135 : decode cX6_count 135 = .ok (.aload_n 0, 1) := by decide +kernel
theorem dX6_count_136 : decode cX6_count 136 = .ok (.getfield 153, 3) := by decide +kernel
theorem dX6_count_139 : decode cX6_count 139 = .ok (.ireturn, 1) := by decide +kernel
theorem dX6_count_140 : decode cX6_count 140 = .ok (.aload_n 0, 1) := by decide +kernel
theorem dX6_count_141 : decode cX6_count 141 = .ok (.getfield 91, 3) := by decide +kernel
theorem dX6_count_144 : decode cX6_count 144 = .ok (.ireturn, 1) := by decide +kernel
