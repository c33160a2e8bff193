set_option maxRecDepth 20000 in
theorem ggX5_init_X4_init : GoodIn wsX5_init wsX4_init := goodIn_r _ [28, 29, 2, 3, 30, 31, 32, 33, 184, 185, 186] (by decide +kernel) (by decide +kernel)
set_option maxRecDepth 20000 in
theorem gX5_init_X4_init_n9 : GoodIn wsX5_init (wsX4_init) := ggX5_init_X4_init
set_option maxRecDepth 20000 in
theorem ggX5_init_X1_init : GoodIn wsX5_init wsX1_init := goodIn_r _ [35, 36, 2, 3, 32, 37, 38, 39, 40, 195, 196, 197, 198, 199, 200, 201, 202] (by decide +kernel) (by decide +kernel)
set_option maxRecDepth 20000 in
theorem gX5_init_X1_init_n18 : GoodIn wsX5_init (wsX1_init) := ggX5_init_X1_init
set_option maxRecDepth 20000 in
theorem ggX5_init_X0_init : GoodIn wsX5_init wsX0_init := goodIn_r _ [42, 43, 2, 3, 32, 44, 45, 46, 47, 203, 204, 205, 206, 207, 208, 209, 210, 211] (by decide +kernel) (by decide +kernel)
set_option maxRecDepth 20000 in
theorem gX5_init_X0_init_n28 : GoodIn wsX5_init (wsX0_init) := ggX5_init_X0_init
set_option maxRecDepth 20000 in
theorem ggX5_init_X2_init : GoodIn wsX5_init wsX2_init := goodIn_r _ [50, 51, 2, 3, 52, 53, 54, 55, 56, 57, 14, 15, 41, 42, 43, 32, 44, 45, 46, 47, 212, 213, 214, 203, 204, 205, 206, 207, 208, 209, 210, 211] (by decide +kernel) (by decide +kernel)
set_option maxRecDepth 20000 in
theorem gX5_init_X2_init : GoodIn wsX5_init (wsX2_init) := ggX5_init_X2_init
set_option maxRecDepth 20000 in
theorem ggX5_init_X3_init : GoodIn wsX5_init wsX3_init := goodIn_r _ [59, 60, 2, 3, 32, 61, 62, 63, 64, 215, 216, 217, 218] (by decide +kernel) (by decide +kernel)
set_option maxRecDepth 20000 in
theorem gX5_init_X3_init_n50 : GoodIn wsX5_init (wsX3_init) := ggX5_init_X3_init
set_option maxRecDepth 20000 in
theorem ggX5_init_J0_length_8abf5 : GoodIn wsX5_init wsJ0_length_8abf5 := goodIn_r _ [69, 70, 71, 72, 73, 68, 74, 75, 76] (by decide +kernel) (by decide +kernel)
set_option maxRecDepth 20000 in
theorem gX5_init_J0_length_8abf5 : GoodIn wsX5_init (wsV RX5 57 RJ0 yJ0_length_8abf5 wsJ0_length_8abf5) := goodIn_app (goodIn_of _ (by decide +kernel)) ggX5_init_J0_length_8abf5
set_option maxRecDepth 20000 in
theorem ggX5_init_J0_charAt_5068e : GoodIn wsX5_init wsJ0_charAt_5068e := goodIn_r _ [80, 70, 81, 82, 83, 68, 84, 75, 76, 85, 86, 87, 88, 89, 90, 91, 92, 93, 94, 95, 96, 97, 98, 99, 100, 101, 102, 103, 104, 105, 106, 107, 108, 109, 110, 111, 112, 113] (by decide +kernel) (by decide +kernel)
set_option maxRecDepth 20000 in
theorem gX5_init_J0_charAt_5068e : GoodIn wsX5_init (wsV RX5 63 RJ0 yJ0_charAt_5068e wsJ0_charAt_5068e) := goodIn_app (goodIn_of _ (by decide +kernel)) ggX5_init_J0_charAt_5068e
set_option maxRecDepth 20000 in
theorem ggX5_init_X4_append : GoodIn wsX5_init wsX4_append := goodIn_r _ [117, 118, 31, 184, 185, 186] (by decide +kernel) (by decide +kernel)
set_option maxRecDepth 20000 in
theorem gX5_init_X4_append : GoodIn wsX5_init (wsV RX5 67 RX4 yX4_append wsX4_append) := goodIn_app (goodIn_of _ (by decide +kernel)) ggX5_init_X4_append
set_option maxRecDepth 20000 in
theorem ggX5_init_X4_readInto : GoodIn wsX5_init wsX4_readInto := goodIn_r _ [122, 118, 123, 124, 125, 10, 126, 127, 128, 129, 130, 131, 132, 133, 6, 134, 31, 33, 135, 136, 137, 138, 139, 140, 141, 142, 143, 144, 145, 146, 147, 148, 149, 150, 151, 152, 153, 154, 155, 156, 157, 37, 38, 39, 40, 158, 159, 160, 161, 162, 163, 164, 165, 166, 167, 168, 184, 185, 186, 195, 196, 197, 198, 199, 200, 201, 202] (by decide +kernel) (by decide +kernel)
set_option maxRecDepth 20000 in
theorem gX5_init_X4_readInto : GoodIn wsX5_init (wsV RX5 71 RX4 yX4_readInto wsX4_readInto) := goodIn_app (goodIn_of _ (by decide +kernel)) ggX5_init_X4_readInto
set_option maxRecDepth 20000 in
theorem ggX5_init_X4_clear : GoodIn wsX5_init wsX4_clear := goodIn_r _ [172, 118, 184, 185, 186] (by decide +kernel) (by decide +kernel)
set_option maxRecDepth 20000 in
theorem gX5_init_X4_clear : GoodIn wsX5_init (wsV RX5 75 RX4 yX4_clear wsX4_clear) := goodIn_app (goodIn_of _ (by decide +kernel)) ggX5_init_X4_clear
set_option maxRecDepth 20000 in
theorem ggX5_init_X0_start : GoodIn wsX5_init wsX0_start := goodIn_r _ [176, 44, 45, 46, 47, 177, 178, 179, 180, 181, 182, 183, 203, 204, 205, 206, 207, 208, 209, 210, 211, 195, 196, 197, 198, 199, 200, 201, 202] (by decide +kernel) (by decide +kernel)
set_option maxRecDepth 20000 in
theorem gX5_init_X0_start : GoodIn wsX5_init (wsV RX5 78 RX0 yX0_start wsX0_start) := goodIn_app (goodIn_of _ (by decide +kernel)) ggX5_init_X0_start
set_option maxRecDepth 20000 in
theorem ggX5_write_X5_isWithin : GoodIn wsX5_write wsX5_isWithin := goodIn_r _ [6] (by decide +kernel) (by decide +kernel)
set_option maxRecDepth 20000 in
theorem gX5_write_X5_isWithin : GoodIn wsX5_write (va_wsS RX5 82 yX5_isWithin wsX5_isWithin) := goodIn_app (goodIn_of _ (by decide +kernel)) ggX5_write_X5_isWithin
set_option maxRecDepth 20000 in
theorem ggX5_write_X4_append : GoodIn wsX5_write wsX4_append := goodIn_r _ [11, 12, 13, 22, 23, 24] (by decide +kernel) (by decide +kernel)
set_option maxRecDepth 20000 in
theorem gX5_write_X4_append : GoodIn wsX5_write (wsV RX5 67 RX4 yX4_append wsX4_append) := goodIn_app (goodIn_of _ (by decide +kernel)) ggX5_write_X4_append
set_option maxRecDepth 20000 in
theorem ggX5_wipe_X4_clear : GoodIn wsX5_wipe wsX4_clear := goodIn_r _ [7, 8, 17, 18, 19] (by decide +kernel) (by decide +kernel)
set_option maxRecDepth 20000 in
theorem gX5_wipe_X4_clear : GoodIn wsX5_wipe (wsV RX5 75 RX4 yX4_clear wsX4_clear) := goodIn_app (goodIn_of _ (by decide +kernel)) ggX5_wipe_X4_clear
set_option maxRecDepth 20000 in
theorem ggX5_fault_X4_readInto : GoodIn wsX5_fault wsX4_readInto := goodIn_r _ [7, 8, 9, 10, 11, 12, 13, 14, 15, 16, 17, 18, 19, 20, 6, 21, 22, 23, 24, 25, 26, 27, 28, 29, 30, 31, 32, 33, 34, 35, 36, 37, 38, 39, 40, 41, 42, 43, 44, 45, 46, 47, 48, 49, 50, 51, 52, 53, 54, 55, 56, 57, 58, 59, 60, 61, 70, 71, 72, 73, 74, 75, 76, 77, 78, 79, 80] (by decide +kernel) (by decide +kernel)
set_option maxRecDepth 20000 in
theorem gX5_fault_X4_readInto : GoodIn wsX5_fault (wsV RX5 71 RX4 yX4_readInto wsX4_readInto) := goodIn_app (goodIn_of _ (by decide +kernel)) ggX5_fault_X4_readInto
set_option maxRecDepth 20000 in
theorem ggX5_lay_X4_readInto : GoodIn wsX5_lay wsX4_readInto := goodIn_r _ [13, 14, 15, 16, 17, 18, 19, 20, 21, 22, 23, 24, 25, 26, 12, 27, 28, 29, 30, 31, 32, 33, 34, 35, 36, 37, 38, 39, 40, 41, 42, 43, 44, 45, 46, 47, 48, 49, 50, 51, 52, 53, 54, 55, 56, 57, 58, 59, 60, 61, 62, 63, 64, 65, 66, 67, 120, 121, 122, 112, 113, 114, 115, 116, 117, 118, 119] (by decide +kernel) (by decide +kernel)
set_option maxRecDepth 20000 in
theorem gX5_lay_X4_readInto : GoodIn wsX5_lay (wsV RX5 71 RX4 yX4_readInto wsX4_readInto) := goodIn_app (goodIn_of _ (by decide +kernel)) ggX5_lay_X4_readInto
set_option maxRecDepth 20000 in
theorem ggX5_lay_X1_copyFrom : GoodIn wsX5_lay wsX1_copyFrom := goodIn_r _ [71, 20, 21, 22, 23, 53, 72, 73, 74, 75, 54, 55, 56, 112, 113, 114, 115, 116, 117, 118, 119] (by decide +kernel) (by decide +kernel)
set_option maxRecDepth 20000 in
theorem gX5_lay_X1_copyFrom : GoodIn wsX5_lay (wsV RX5 92 RX1 yX1_copyFrom wsX1_copyFrom) := goodIn_app (goodIn_of _ (by decide +kernel)) ggX5_lay_X1_copyFrom
set_option maxRecDepth 20000 in
theorem ggX5_lay_X0_start : GoodIn wsX5_lay wsX0_start := goodIn_r _ [80, 81, 82, 83, 84, 85, 86, 87, 88, 89, 90, 91, 123, 124, 125, 126, 127, 128, 129, 130, 131, 112, 113, 114, 115, 116, 117, 118, 119] (by decide +kernel) (by decide +kernel)
set_option maxRecDepth 20000 in
theorem gX5_lay_X0_start : GoodIn wsX5_lay (wsV RX5 78 RX0 yX0_start wsX0_start) := goodIn_app (goodIn_of _ (by decide +kernel)) ggX5_lay_X0_start
set_option maxRecDepth 20000 in
theorem ggX5_lay_X3_clear : GoodIn wsX5_lay wsX3_clear := goodIn_r _ [96, 97, 132, 133, 134, 135] (by decide +kernel) (by decide +kernel)
set_option maxRecDepth 20000 in
theorem gX5_lay_X3_clear : GoodIn wsX5_lay (wsV RX5 95 RX3 yX3_clear wsX3_clear) := goodIn_app (goodIn_of _ (by decide +kernel)) ggX5_lay_X3_clear
set_option maxRecDepth 20000 in
theorem ggX5_lay_X2_clear : GoodIn wsX5_lay wsX2_clear := goodIn_r _ [102, 103, 136, 137, 138] (by decide +kernel) (by decide +kernel)
set_option maxRecDepth 20000 in
theorem gX5_lay_X2_clear : GoodIn wsX5_lay (wsV RX5 96 RX2 yX2_clear wsX2_clear) := goodIn_app (goodIn_of _ (by decide +kernel)) ggX5_lay_X2_clear
set_option maxRecDepth 20000 in
theorem ggX5_caller_X5_isCaller : GoodIn wsX5_caller wsX5_isCaller := goodIn_r _ [13, 1, 14, 15, 16, 12, 17, 41, 42, 43, 44, 45, 46, 47, 48, 49, 50, 51, 52, 53, 54, 55, 56] (by decide +kernel) (by decide +kernel)
set_option maxRecDepth 20000 in
theorem gX5_caller_X5_isCaller : GoodIn wsX5_caller (wsV RX5 97 RX5 yX5_isCaller wsX5_isCaller) := goodIn_app (goodIn_of _ (by decide +kernel)) ggX5_caller_X5_isCaller
set_option maxRecDepth 20000 in
theorem ggX5_caller_X0_countAhead : GoodIn wsX5_caller wsX0_countAhead := goodIn_r _ [22, 23, 24, 25, 26, 27, 21, 28, 29, 30, 31, 49, 50, 51, 52, 53, 54, 55, 56, 57, 58, 59, 60, 61, 62, 63, 64, 65] (by decide +kernel) (by decide +kernel)
set_option maxRecDepth 20000 in
theorem gX5_caller_X0_countAhead : GoodIn wsX5_caller (wsV RX5 120 RX0 yX0_countAhead wsX0_countAhead) := goodIn_app (goodIn_of _ (by decide +kernel)) ggX5_caller_X0_countAhead
set_option maxRecDepth 20000 in
theorem ggX5_caller_X0_mostBorne : GoodIn wsX5_caller wsX0_mostBorne := goodIn_r _ [34, 35, 36, 37, 38, 39, 40, 49, 50, 51, 52, 53, 54, 55, 56] (by decide +kernel) (by decide +kernel)
set_option maxRecDepth 20000 in
theorem gX5_caller_X0_mostBorne : GoodIn wsX5_caller (va_wsS RX5 124 yX0_mostBorne wsX0_mostBorne) := goodIn_app (goodIn_of _ (by decide +kernel)) ggX5_caller_X0_mostBorne
set_option maxRecDepth 20000 in
theorem ggX5_pass_X5_isWithin : GoodIn wsX5_pass wsX5_isWithin := goodIn_r _ [8] (by decide +kernel) (by decide +kernel)
set_option maxRecDepth 20000 in
theorem gX5_pass_X5_isWithin : GoodIn wsX5_pass (va_wsS RX5 82 yX5_isWithin wsX5_isWithin) := goodIn_app (goodIn_of _ (by decide +kernel)) ggX5_pass_X5_isWithin
set_option maxRecDepth 20000 in
theorem ggX5_pass_X2_put : GoodIn wsX5_pass wsX2_put := goodIn_r _ [13, 14, 15, 16, 17, 18, 19, 20, 21, 22, 23, 24, 25, 26, 27, 28, 29, 30, 31, 32, 33, 34, 121, 122, 123, 112, 113, 114, 115, 116, 117, 118, 119, 120] (by decide +kernel) (by decide +kernel)
set_option maxRecDepth 20000 in
theorem gX5_pass_X2_put : GoodIn wsX5_pass (wsV RX5 131 RX2 yX2_put wsX2_put) := goodIn_app (goodIn_of _ (by decide +kernel)) ggX5_pass_X2_put
set_option maxRecDepth 20000 in
theorem ggX5_pass_X0_goOnFor : GoodIn wsX5_pass wsX0_goOnFor := goodIn_r _ [38, 39, 40, 41, 20, 42, 32, 43, 44, 45, 46, 47, 22, 48, 49, 50, 51, 52, 30, 53, 54, 55, 56, 27, 28, 31, 57, 58, 59, 60, 61, 62, 63, 64, 29, 65, 66, 67, 68, 69, 33, 70, 71, 72, 73, 74, 75, 76, 77, 78, 79, 80, 81, 34, 82, 83, 84, 85, 86, 87, 88, 89, 90, 91, 92, 93, 94, 95, 96, 97, 98, 99, 100, 101, 102, 103, 112, 113, 114, 115, 116, 117, 118, 119, 120, 124, 125, 126, 127, 128, 129, 130, 131] (by decide +kernel) (by decide +kernel)
set_option maxRecDepth 20000 in
theorem gX5_pass_X0_goOnFor : GoodIn wsX5_pass (wsV RX5 135 RX0 yX0_goOnFor wsX0_goOnFor) := goodIn_app (goodIn_of _ (by decide +kernel)) ggX5_pass_X0_goOnFor
set_option maxRecDepth 20000 in
theorem ggX5_hang_X5_isCaller : GoodIn wsX5_hang wsX5_isCaller := goodIn_r _ [8, 9, 10, 11, 12, 7, 13, 48, 49, 50, 51, 52, 53, 54, 55, 65, 66, 67, 68, 69, 70, 71, 72] (by decide +kernel) (by decide +kernel)
set_option maxRecDepth 20000 in
theorem gX5_hang_X5_isCaller : GoodIn wsX5_hang (wsV RX5 97 RX5 yX5_isCaller wsX5_isCaller) := goodIn_app (goodIn_of _ (by decide +kernel)) ggX5_hang_X5_isCaller
set_option maxRecDepth 20000 in
theorem ggX5_hang_X0_canHangUp : GoodIn wsX5_hang wsX0_canHangUp := goodIn_r _ [18, 19, 56, 57, 58, 59, 60, 61, 62, 63, 64] (by decide +kernel) (by decide +kernel)
set_option maxRecDepth 20000 in
theorem gX5_hang_X0_canHangUp : GoodIn wsX5_hang (wsV RX5 139 RX0 yX0_canHangUp wsX0_canHangUp) := goodIn_app (goodIn_of _ (by decide +kernel)) ggX5_hang_X0_canHangUp
set_option maxRecDepth 20000 in
theorem ggX5_hang_X2_put : GoodIn wsX5_hang wsX2_put := goodIn_r _ [24, 25, 26, 27, 28, 29, 30, 17, 31, 19, 32, 33, 34, 35, 36, 37, 38, 39, 40, 41, 42, 43, 73, 74, 75, 56, 57, 58, 59, 60, 61, 62, 63, 64] (by decide +kernel) (by decide +kernel)
set_option maxRecDepth 20000 in
theorem gX5_hang_X2_put : GoodIn wsX5_hang (wsV RX5 131 RX2 yX2_put wsX2_put) := goodIn_app (goodIn_of _ (by decide +kernel)) ggX5_hang_X2_put
set_option maxRecDepth 20000 in
theorem ggX5_hang_X0_hangUp : GoodIn wsX5_hang wsX0_hangUp := goodIn_r _ [47, 19, 56, 57, 58, 59, 60, 61, 62, 63, 64] (by decide +kernel) (by decide +kernel)
set_option maxRecDepth 20000 in
theorem gX5_hang_X0_hangUp : GoodIn wsX5_hang (wsV RX5 142 RX0 yX0_hangUp wsX0_hangUp) := goodIn_app (goodIn_of _ (by decide +kernel)) ggX5_hang_X0_hangUp
set_option maxRecDepth 20000 in
theorem ggX5_recall_X5_isCaller : GoodIn wsX5_recall wsX5_isCaller := goodIn_r _ [8, 9, 10, 11, 12, 7, 13, 48, 49, 50, 51, 52, 53, 54, 55, 65, 66, 67, 68, 69, 70, 71, 72] (by decide +kernel) (by decide +kernel)
set_option maxRecDepth 20000 in
theorem gX5_recall_X5_isCaller : GoodIn wsX5_recall (wsV RX5 97 RX5 yX5_isCaller wsX5_isCaller) := goodIn_app (goodIn_of _ (by decide +kernel)) ggX5_recall_X5_isCaller
set_option maxRecDepth 20000 in
theorem ggX5_recall_X0_canCallAgain : GoodIn wsX5_recall wsX0_canCallAgain := goodIn_r _ [18, 19, 56, 57, 58, 59, 60, 61, 62, 63, 64] (by decide +kernel) (by decide +kernel)
set_option maxRecDepth 20000 in
theorem gX5_recall_X0_canCallAgain : GoodIn wsX5_recall (wsV RX5 145 RX0 yX0_canCallAgain wsX0_canCallAgain) := goodIn_app (goodIn_of _ (by decide +kernel)) ggX5_recall_X0_canCallAgain
set_option maxRecDepth 20000 in
theorem ggX5_recall_X2_put : GoodIn wsX5_recall wsX2_put := goodIn_r _ [24, 25, 26, 27, 28, 29, 30, 17, 31, 19, 32, 33, 34, 35, 36, 37, 38, 39, 40, 41, 42, 43, 73, 74, 75, 56, 57, 58, 59, 60, 61, 62, 63, 64] (by decide +kernel) (by decide +kernel)
set_option maxRecDepth 20000 in
theorem gX5_recall_X2_put : GoodIn wsX5_recall (wsV RX5 131 RX2 yX2_put wsX2_put) := goodIn_app (goodIn_of _ (by decide +kernel)) ggX5_recall_X2_put
set_option maxRecDepth 20000 in
theorem ggX5_recall_X0_callAgain : GoodIn wsX5_recall wsX0_callAgain := goodIn_r _ [47, 19, 39, 56, 57, 58, 59, 60, 61, 62, 63, 64] (by decide +kernel) (by decide +kernel)
set_option maxRecDepth 20000 in
theorem gX5_recall_X0_callAgain : GoodIn wsX5_recall (wsV RX5 148 RX0 yX0_callAgain wsX0_callAgain) := goodIn_app (goodIn_of _ (by decide +kernel)) ggX5_recall_X0_callAgain
set_option maxRecDepth 20000 in
theorem ggX5_staff_X5_isWithin : GoodIn wsX5_staff wsX5_isWithin := goodIn_r _ [7] (by decide +kernel) (by decide +kernel)
set_option maxRecDepth 20000 in
theorem gX5_staff_X5_isWithin : GoodIn wsX5_staff (va_wsS RX5 82 yX5_isWithin wsX5_isWithin) := goodIn_app (goodIn_of _ (by decide +kernel)) ggX5_staff_X5_isWithin
set_option maxRecDepth 20000 in
theorem ggX5_staff_X2_put : GoodIn wsX5_staff wsX2_put := goodIn_r _ [12, 13, 14, 15, 16, 17, 18, 19, 20, 21, 22, 23, 24, 25, 26, 27, 28, 29, 30, 31, 32, 33, 51, 52, 53, 42, 43, 44, 45, 46, 47, 48, 49, 50] (by decide +kernel) (by decide +kernel)
set_option maxRecDepth 20000 in
theorem gX5_staff_X2_put : GoodIn wsX5_staff (wsV RX5 131 RX2 yX2_put wsX2_put) := goodIn_app (goodIn_of _ (by decide +kernel)) ggX5_staff_X2_put
set_option maxRecDepth 20000 in
theorem ggX5_rule_X5_isWithin : GoodIn wsX5_rule wsX5_isWithin := goodIn_r _ [7] (by decide +kernel) (by decide +kernel)
set_option maxRecDepth 20000 in
theorem gX5_rule_X5_isWithin : GoodIn wsX5_rule (va_wsS RX5 82 yX5_isWithin wsX5_isWithin) := goodIn_app (goodIn_of _ (by decide +kernel)) ggX5_rule_X5_isWithin
set_option maxRecDepth 20000 in
theorem ggX5_rule_X2_put : GoodIn wsX5_rule wsX2_put := goodIn_r _ [12, 13, 14, 15, 16, 17, 18, 19, 20, 21, 22, 23, 24, 25, 26, 27, 28, 29, 30, 31, 32, 33, 51, 52, 53, 42, 43, 44, 45, 46, 47, 48, 49, 50] (by decide +kernel) (by decide +kernel)
set_option maxRecDepth 20000 in
theorem gX5_rule_X2_put : GoodIn wsX5_rule (wsV RX5 131 RX2 yX2_put wsX2_put) := goodIn_app (goodIn_of _ (by decide +kernel)) ggX5_rule_X2_put
set_option maxRecDepth 20000 in
theorem ggX5_undo_X2_giveLastTo : GoodIn wsX5_undo wsX2_giveLastTo := goodIn_r _ [8, 9, 10, 11, 12, 13, 14, 15, 16, 17, 18, 19, 20, 21, 22, 23, 24, 25, 26, 27, 28, 29, 38, 39, 40, 41, 42, 43, 44, 45, 46, 47, 48, 49] (by decide +kernel) (by decide +kernel)
set_option maxRecDepth 20000 in
theorem gX5_undo_X2_giveLastTo : GoodIn wsX5_undo (wsV RX5 157 RX2 yX2_giveLastTo wsX2_giveLastTo) := goodIn_app (goodIn_of _ (by decide +kernel)) ggX5_undo_X2_giveLastTo
set_option maxRecDepth 20000 in
theorem ggX5_behind_X5_isWithin : GoodIn wsX5_behind wsX5_isWithin := goodIn_r _ [8] (by decide +kernel) (by decide +kernel)
set_option maxRecDepth 20000 in
theorem gX5_behind_X5_isWithin : GoodIn wsX5_behind (va_wsS RX5 82 yX5_isWithin wsX5_isWithin) := goodIn_app (goodIn_of _ (by decide +kernel)) ggX5_behind_X5_isWithin
set_option maxRecDepth 20000 in
theorem ggX5_behind_X5_isCaller : GoodIn wsX5_behind wsX5_isCaller := goodIn_r _ [12, 3, 13, 5, 6, 7, 8, 101, 102, 103, 104, 105, 106, 107, 108, 118, 119, 120, 121, 122, 123, 124, 125] (by decide +kernel) (by decide +kernel)
set_option maxRecDepth 20000 in
theorem gX5_behind_X5_isCaller : GoodIn wsX5_behind (wsV RX5 97 RX5 yX5_isCaller wsX5_isCaller) := goodIn_app (goodIn_of _ (by decide +kernel)) ggX5_behind_X5_isCaller
set_option maxRecDepth 20000 in
theorem ggX5_behind_X0_copyFrom : GoodIn wsX5_behind wsX0_copyFrom := goodIn_r _ [18, 19, 20, 21, 22, 23, 24, 25, 26, 27, 28, 29, 30, 31, 109, 110, 111, 112, 113, 114, 115, 116, 117] (by decide +kernel) (by decide +kernel)
set_option maxRecDepth 20000 in
theorem gX5_behind_X0_copyFrom : GoodIn wsX5_behind (wsV RX5 164 RX0 yX0_copyFrom wsX0_copyFrom) := goodIn_app (goodIn_of _ (by decide +kernel)) ggX5_behind_X0_copyFrom
set_option maxRecDepth 20000 in
theorem ggX5_behind_X0_goOnFor : GoodIn wsX5_behind wsX0_goOnFor := goodIn_r _ [35, 36, 37, 38, 17, 39, 29, 40, 41, 42, 43, 44, 19, 45, 46, 47, 48, 49, 27, 50, 51, 52, 53, 24, 25, 28, 54, 55, 56, 57, 58, 59, 60, 61, 26, 62, 63, 64, 65, 66, 30, 67, 68, 69, 70, 71, 72, 73, 74, 75, 76, 77, 78, 31, 79, 80, 81, 82, 83, 84, 85, 86, 87, 88, 89, 90, 91, 92, 93, 94, 95, 96, 97, 98, 99, 100, 109, 110, 111, 112, 113, 114, 115, 116, 117, 118, 119, 120, 121, 122, 123, 124, 125] (by decide +kernel) (by decide +kernel)
set_option maxRecDepth 20000 in
theorem gX5_behind_X0_goOnFor : GoodIn wsX5_behind (wsV RX5 135 RX0 yX0_goOnFor wsX0_goOnFor) := goodIn_app (goodIn_of _ (by decide +kernel)) ggX5_behind_X0_goOnFor
set_option maxRecDepth 20000 in
theorem ggX5_taken_X5_isCaller : GoodIn wsX5_taken wsX5_isCaller := goodIn_r _ [7, 8, 9, 10, 11, 6, 12, 104, 105, 106, 107, 108, 109, 110, 111, 112, 113, 114, 115, 116, 117, 118, 119] (by decide +kernel) (by decide +kernel)
set_option maxRecDepth 20000 in
theorem gX5_taken_X5_isCaller : GoodIn wsX5_taken (wsV RX5 97 RX5 yX5_isCaller wsX5_isCaller) := goodIn_app (goodIn_of _ (by decide +kernel)) ggX5_taken_X5_isCaller
set_option maxRecDepth 20000 in
theorem ggX5_taken_X0_copyFrom : GoodIn wsX5_taken wsX0_copyFrom := goodIn_r _ [17, 18, 19, 20, 21, 22, 23, 24, 25, 26, 27, 28, 29, 30, 120, 121, 122, 123, 124, 125, 126, 127, 128] (by decide +kernel) (by decide +kernel)
set_option maxRecDepth 20000 in
theorem gX5_taken_X0_copyFrom : GoodIn wsX5_taken (wsV RX5 164 RX0 yX0_copyFrom wsX0_copyFrom) := goodIn_app (goodIn_of _ (by decide +kernel)) ggX5_taken_X0_copyFrom
set_option maxRecDepth 20000 in
theorem ggX5_taken_X5_minutesTillTaken : GoodIn wsX5_taken wsX5_minutesTillTaken := goodIn_r _ [34, 1, 8, 35, 36, 37, 16, 38, 18, 39, 40, 41, 42, 28, 43, 44, 45, 46, 47, 48, 49, 50, 51, 52, 26, 53, 54, 55, 56, 23, 24, 27, 57, 58, 59, 60, 61, 62, 63, 64, 25, 65, 66, 67, 68, 69, 29, 70, 71, 72, 73, 74, 75, 76, 77, 78, 79, 80, 81, 30, 82, 83, 84, 85, 86, 87, 88, 89, 90, 91, 92, 93, 94, 95, 96, 97, 98, 99, 100, 101, 102, 103, 104, 105, 106, 107, 108, 109, 110, 111, 120, 121, 122, 123, 124, 125, 126, 127, 128, 112, 113, 114, 115, 116, 117, 118, 119] (by decide +kernel) (by decide +kernel)
set_option maxRecDepth 20000 in
theorem gX5_taken_X5_minutesTillTaken : GoodIn wsX5_taken (wsV RX5 166 RX5 yX5_minutesTillTaken wsX5_minutesTillTaken) := goodIn_app (goodIn_of _ (by decide +kernel)) ggX5_taken_X5_minutesTillTaken
set_option maxRecDepth 20000 in
theorem ggX5_left_X5_isCaller : GoodIn wsX5_left wsX5_isCaller := goodIn_r _ [8, 3, 9, 10, 11, 7, 12, 100, 101, 102, 103, 104, 105, 106, 107, 108, 109, 110, 111, 112, 113, 114, 115] (by decide +kernel) (by decide +kernel)
set_option maxRecDepth 20000 in
theorem gX5_left_X5_isCaller : GoodIn wsX5_left (wsV RX5 97 RX5 yX5_isCaller wsX5_isCaller) := goodIn_app (goodIn_of _ (by decide +kernel)) ggX5_left_X5_isCaller
set_option maxRecDepth 20000 in
theorem ggX5_left_X0_copyFrom : GoodIn wsX5_left wsX0_copyFrom := goodIn_r _ [17, 18, 19, 20, 21, 22, 23, 24, 25, 26, 27, 28, 29, 30, 116, 117, 118, 119, 120, 121, 122, 123, 124] (by decide +kernel) (by decide +kernel)
set_option maxRecDepth 20000 in
theorem gX5_left_X0_copyFrom : GoodIn wsX5_left (wsV RX5 164 RX0 yX0_copyFrom wsX0_copyFrom) := goodIn_app (goodIn_of _ (by decide +kernel)) ggX5_left_X0_copyFrom
set_option maxRecDepth 20000 in
theorem ggX5_left_X0_hasLeft : GoodIn wsX5_left wsX0_hasLeft := goodIn_r _ [34, 18, 116, 117, 118, 119, 120, 121, 122, 123, 124] (by decide +kernel) (by decide +kernel)
set_option maxRecDepth 20000 in
theorem gX5_left_X0_hasLeft : GoodIn wsX5_left (wsV RX5 170 RX0 yX0_hasLeft wsX0_hasLeft) := goodIn_app (goodIn_of _ (by decide +kernel)) ggX5_left_X0_hasLeft
set_option maxRecDepth 20000 in
theorem ggX5_left_X0_goOn : GoodIn wsX5_left wsX0_goOn := goodIn_r _ [38, 28, 39, 40, 41, 16, 42, 43, 18, 44, 45, 46, 47, 48, 26, 49, 50, 51, 52, 23, 24, 27, 53, 54, 55, 56, 57, 58, 59, 60, 25, 61, 62, 63, 64, 65, 29, 66, 67, 68, 69, 70, 71, 72, 73, 74, 75, 76, 77, 30, 78, 79, 80, 81, 82, 83, 84, 85, 86, 87, 88, 89, 90, 91, 92, 93, 94, 95, 96, 97, 98, 99, 116, 117, 118, 119, 120, 121, 122, 123, 124, 108, 109, 110, 111, 112, 113, 114, 115] (by decide +kernel) (by decide +kernel)
set_option maxRecDepth 20000 in
theorem gX5_left_X0_goOn : GoodIn wsX5_left (wsV RX5 173 RX0 yX0_goOn wsX0_goOn) := goodIn_app (goodIn_of _ (by decide +kernel)) ggX5_left_X0_goOn
set_option maxRecDepth 20000 in
theorem ggX5_number_X5_isCaller : GoodIn wsX5_number wsX5_isCaller := goodIn_r _ [8, 3, 9, 10, 11, 7, 12, 27, 28, 29, 30, 31, 32, 33, 34, 44, 45, 46, 47, 48, 49, 50, 51] (by decide +kernel) (by decide +kernel)
set_option maxRecDepth 20000 in
theorem gX5_number_X5_isCaller : GoodIn wsX5_number (wsV RX5 97 RX5 yX5_isCaller wsX5_isCaller) := goodIn_app (goodIn_of _ (by decide +kernel)) ggX5_number_X5_isCaller
set_option maxRecDepth 20000 in
theorem ggX5_number_X0_countAhead : GoodIn wsX5_number wsX0_countAhead := goodIn_r _ [17, 18, 19, 20, 21, 22, 16, 23, 24, 25, 26, 44, 45, 46, 47, 48, 49, 50, 51, 35, 36, 37, 38, 39, 40, 41, 42, 43] (by decide +kernel) (by decide +kernel)
set_option maxRecDepth 20000 in
theorem gX5_number_X0_countAhead : GoodIn wsX5_number (wsV RX5 120 RX0 yX0_countAhead wsX0_countAhead) := goodIn_app (goodIn_of _ (by decide +kernel)) ggX5_number_X0_countAhead
set_option maxRecDepth 20000 in
theorem ggX5_again_X5_isCaller : GoodIn wsX5_again wsX5_isCaller := goodIn_r _ [7, 8, 9, 10, 11, 6, 12, 122, 123, 124, 125, 126, 127, 128, 129, 139, 140, 141, 142, 143, 144, 145, 146] (by decide +kernel) (by decide +kernel)
set_option maxRecDepth 20000 in
theorem gX5_again_X5_isCaller : GoodIn wsX5_again (wsV RX5 97 RX5 yX5_isCaller wsX5_isCaller) := goodIn_app (goodIn_of _ (by decide +kernel)) ggX5_again_X5_isCaller
set_option maxRecDepth 20000 in
theorem ggX5_again_X5_isWithin : GoodIn wsX5_again wsX5_isWithin := goodIn_r _ [12] (by decide +kernel) (by decide +kernel)
set_option maxRecDepth 20000 in
theorem gX5_again_X5_isWithin : GoodIn wsX5_again (va_wsS RX5 82 yX5_isWithin wsX5_isWithin) := goodIn_app (goodIn_of _ (by decide +kernel)) ggX5_again_X5_isWithin
set_option maxRecDepth 20000 in
theorem ggX5_again_X5_minutesByPause : GoodIn wsX5_again wsX5_minutesByPause := goodIn_r _ [16, 17, 1, 8, 18, 19, 20, 21, 22, 23, 24, 25, 26, 27, 28, 29, 30, 31, 32, 33, 34, 35, 36, 37, 38, 39, 40, 41, 42, 43, 44, 45, 46, 47, 48, 49, 50, 51, 52, 53, 54, 55, 56, 57, 58, 59, 60, 61, 62, 63, 64, 65, 66, 67, 68, 69, 70, 71, 72, 73, 74, 75, 76, 77, 78, 79, 80, 81, 82, 83, 84, 85, 86, 87, 88, 89, 90, 91, 92, 93, 94, 95, 96, 97, 98, 99, 100, 101, 102, 103, 104, 105, 106, 107, 108, 109, 110, 111, 112, 113, 114, 115, 6, 116, 117, 118, 119, 120, 121, 122, 123, 124, 125, 126, 127, 128, 129, 130, 131, 132, 133, 134, 135, 136, 137, 138, 139, 140, 141, 142, 143, 144, 145, 146] (by decide +kernel) (by decide +kernel)
set_option maxRecDepth 20000 in
theorem gX5_again_X5_minutesByPause : GoodIn wsX5_again (wsV RX5 176 RX5 yX5_minutesByPause wsX5_minutesByPause) := goodIn_app (goodIn_of _ (by decide +kernel)) ggX5_again_X5_minutesByPause
set_option maxRecDepth 20000 in
theorem ggX5_best_X5_isWithin : GoodIn wsX5_best wsX5_isWithin := goodIn_r _ [4] (by decide +kernel) (by decide +kernel)
set_option maxRecDepth 20000 in
theorem gX5_best_X5_isWithin : GoodIn wsX5_best (va_wsS RX5 82 yX5_isWithin wsX5_isWithin) := goodIn_app (goodIn_of _ (by decide +kernel)) ggX5_best_X5_isWithin
set_option maxRecDepth 20000 in
theorem ggX5_best_X5_worthServedBy : GoodIn wsX5_best wsX5_worthServedBy := goodIn_r _ [8, 9, 10, 11, 12, 13, 14, 15, 16, 17, 18, 19, 20, 21, 22, 23, 24, 25, 26, 27, 28, 29, 30, 31, 32, 33, 34, 35, 36, 37, 38, 39, 40, 41, 42, 43, 44, 45, 46, 47, 48, 49, 50, 51, 52, 53, 54, 55, 56, 57, 58, 59, 60, 61, 62, 63, 64, 65, 66, 67, 68, 69, 70, 71, 72, 73, 74, 75, 76, 77, 78, 79, 80, 81, 82, 83, 84, 85, 86, 87, 88, 89, 90, 91, 92, 93, 94, 95, 96, 97, 98, 99, 100, 101, 102, 103, 104, 105, 106, 107, 108, 109, 110, 111, 112, 113, 114, 115, 116, 117, 118, 119, 120, 121, 122, 123, 124, 125, 126, 127, 128, 129, 130, 131, 132, 133, 134] (by decide +kernel) (by decide +kernel)
set_option maxRecDepth 20000 in
theorem gX5_best_X5_worthServedBy : GoodIn wsX5_best (wsV RX5 179 RX5 yX5_worthServedBy wsX5_worthServedBy) := goodIn_app (goodIn_of _ (by decide +kernel)) ggX5_best_X5_worthServedBy
set_option maxRecDepth 20000 in
theorem ggX5_needed_X0_copyFrom : GoodIn wsX5_needed wsX0_copyFrom := goodIn_r _ [8, 9, 10, 11, 12, 13, 14, 15, 16, 17, 18, 19, 20, 21, 106, 107, 108, 109, 110, 111, 112, 113, 114] (by decide +kernel) (by decide +kernel)
set_option maxRecDepth 20000 in
theorem gX5_needed_X0_copyFrom : GoodIn wsX5_needed (wsV RX5 164 RX0 yX0_copyFrom wsX0_copyFrom) := goodIn_app (goodIn_of _ (by decide +kernel)) ggX5_needed_X0_copyFrom
set_option maxRecDepth 20000 in
theorem ggX5_needed_X5_giveUpsInTrial : GoodIn wsX5_needed wsX5_giveUpsInTrial := goodIn_r _ [26, 1, 27, 28, 29, 30, 7, 31, 32, 9, 33, 34, 35, 36, 37, 38, 39, 40, 19, 41, 42, 43, 44, 45, 46, 47, 48, 49, 17, 50, 51, 52, 53, 14, 15, 18, 54, 55, 56, 57, 58, 59, 60, 61, 16, 62, 63, 64, 65, 66, 20, 67, 68, 69, 70, 71, 72, 73, 74, 75, 21, 76, 77, 78, 79, 80, 81, 82, 83, 84, 85, 86, 87, 88, 89, 90, 91, 92, 93, 94, 95, 96, 97, 98, 99, 100, 101, 102, 103, 104, 105, 115, 116, 117, 118, 119, 120, 121, 122, 106, 107, 108, 109, 110, 111, 112, 113, 114] (by decide +kernel) (by decide +kernel)
set_option maxRecDepth 20000 in
theorem gX5_needed_X5_giveUpsInTrial : GoodIn wsX5_needed (wsV RX5 183 RX5 yX5_giveUpsInTrial wsX5_giveUpsInTrial) := goodIn_app (goodIn_of _ (by decide +kernel)) ggX5_needed_X5_giveUpsInTrial
set_option maxRecDepth 20000 in
theorem ggX5_lost_X0_copyFrom : GoodIn wsX5_lost wsX0_copyFrom := goodIn_r _ [7, 8, 9, 10, 11, 12, 13, 14, 15, 16, 17, 18, 19, 20, 105, 106, 107, 108, 109, 110, 111, 112, 113] (by decide +kernel) (by decide +kernel)
set_option maxRecDepth 20000 in
theorem gX5_lost_X0_copyFrom : GoodIn wsX5_lost (wsV RX5 164 RX0 yX0_copyFrom wsX0_copyFrom) := goodIn_app (goodIn_of _ (by decide +kernel)) ggX5_lost_X0_copyFrom
set_option maxRecDepth 20000 in
theorem ggX5_lost_X5_giveUpsInTrial : GoodIn wsX5_lost wsX5_giveUpsInTrial := goodIn_r _ [25, 1, 26, 27, 28, 29, 6, 30, 31, 8, 32, 33, 34, 35, 36, 37, 38, 39, 18, 40, 41, 42, 43, 44, 45, 46, 47, 48, 16, 49, 50, 51, 52, 13, 14, 17, 53, 54, 55, 56, 57, 58, 59, 60, 15, 61, 62, 63, 64, 65, 19, 66, 67, 68, 69, 70, 71, 72, 73, 74, 20, 75, 76, 77, 78, 79, 80, 81, 82, 83, 84, 85, 86, 87, 88, 89, 90, 91, 92, 93, 94, 95, 96, 97, 98, 99, 100, 101, 102, 103, 104, 114, 115, 116, 117, 118, 119, 120, 121, 105, 106, 107, 108, 109, 110, 111, 112, 113] (by decide +kernel) (by decide +kernel)
set_option maxRecDepth 20000 in
theorem gX5_lost_X5_giveUpsInTrial : GoodIn wsX5_lost (wsV RX5 183 RX5 yX5_giveUpsInTrial wsX5_giveUpsInTrial) := goodIn_app (goodIn_of _ (by decide +kernel)) ggX5_lost_X5_giveUpsInTrial
set_option maxRecDepth 20000 in
theorem ggX5_helps_X5_isWithin : GoodIn wsX5_helps wsX5_isWithin := goodIn_r _ [8] (by decide +kernel) (by decide +kernel)
set_option maxRecDepth 20000 in
theorem gX5_helps_X5_isWithin : GoodIn wsX5_helps (va_wsS RX5 82 yX5_isWithin wsX5_isWithin) := goodIn_app (goodIn_of _ (by decide +kernel)) ggX5_helps_X5_isWithin
set_option maxRecDepth 20000 in
theorem ggX5_helps_X0_canHangUp : GoodIn wsX5_helps wsX0_canHangUp := goodIn_r _ [13, 14, 125, 126, 127, 128, 129, 130, 131, 132, 133] (by decide +kernel) (by decide +kernel)
set_option maxRecDepth 20000 in
theorem gX5_helps_X0_canHangUp : GoodIn wsX5_helps (wsV RX5 139 RX0 yX0_canHangUp wsX0_canHangUp) := goodIn_app (goodIn_of _ (by decide +kernel)) ggX5_helps_X0_canHangUp
set_option maxRecDepth 20000 in
theorem ggX5_helps_X0_copyFrom : GoodIn wsX5_helps wsX0_copyFrom := goodIn_r _ [18, 14, 19, 20, 21, 22, 23, 24, 25, 26, 27, 28, 29, 30, 125, 126, 127, 128, 129, 130, 131, 132, 133] (by decide +kernel) (by decide +kernel)
set_option maxRecDepth 20000 in
theorem gX5_helps_X0_copyFrom : GoodIn wsX5_helps (wsV RX5 164 RX0 yX0_copyFrom wsX0_copyFrom) := goodIn_app (goodIn_of _ (by decide +kernel)) ggX5_helps_X0_copyFrom
set_option maxRecDepth 20000 in
theorem ggX5_helps_X0_hangUp : GoodIn wsX5_helps wsX0_hangUp := goodIn_r _ [34, 14, 125, 126, 127, 128, 129, 130, 131, 132, 133] (by decide +kernel) (by decide +kernel)
set_option maxRecDepth 20000 in
theorem gX5_helps_X0_hangUp : GoodIn wsX5_helps (wsV RX5 142 RX0 yX0_hangUp wsX0_hangUp) := goodIn_app (goodIn_of _ (by decide +kernel)) ggX5_helps_X0_hangUp
set_option maxRecDepth 20000 in
theorem ggX5_helps_X5_giveUpsInTrial : GoodIn wsX5_helps wsX5_giveUpsInTrial := goodIn_r _ [38, 4, 1, 39, 40, 41, 12, 42, 43, 14, 44, 45, 46, 47, 48, 49, 50, 51, 28, 52, 53, 54, 55, 56, 57, 58, 59, 60, 26, 61, 62, 63, 64, 23, 24, 27, 65, 66, 67, 68, 69, 70, 71, 72, 25, 73, 74, 75, 76, 77, 29, 78, 79, 80, 81, 82, 83, 84, 85, 86, 30, 87, 88, 89, 90, 91, 92, 93, 94, 95, 96, 97, 98, 99, 100, 101, 102, 103, 104, 105, 106, 107, 108, 109, 110, 111, 112, 113, 114, 115, 116, 117, 118, 119, 120, 121, 122, 123, 124, 125, 126, 127, 128, 129, 130, 131, 132, 133] (by decide +kernel) (by decide +kernel)
set_option maxRecDepth 20000 in
theorem gX5_helps_X5_giveUpsInTrial : GoodIn wsX5_helps (wsV RX5 183 RX5 yX5_giveUpsInTrial wsX5_giveUpsInTrial) := goodIn_app (goodIn_of _ (by decide +kernel)) ggX5_helps_X5_giveUpsInTrial
set_option maxRecDepth 20000 in
theorem ggX5_longest_X5_isWithin : GoodIn wsX5_longest wsX5_isWithin := goodIn_r _ [9] (by decide +kernel) (by decide +kernel)
set_option maxRecDepth 20000 in
theorem gX5_longest_X5_isWithin : GoodIn wsX5_longest (va_wsS RX5 82 yX5_isWithin wsX5_isWithin) := goodIn_app (goodIn_of _ (by decide +kernel)) ggX5_longest_X5_isWithin
set_option maxRecDepth 20000 in
theorem ggX5_longest_X0_copyFrom : GoodIn wsX5_longest wsX0_copyFrom := goodIn_r _ [14, 15, 16, 17, 18, 19, 20, 21, 22, 23, 24, 25, 26, 27, 117, 118, 119, 120, 121, 122, 123, 124, 125] (by decide +kernel) (by decide +kernel)
set_option maxRecDepth 20000 in
theorem gX5_longest_X0_copyFrom : GoodIn wsX5_longest (wsV RX5 164 RX0 yX0_copyFrom wsX0_copyFrom) := goodIn_app (goodIn_of _ (by decide +kernel)) ggX5_longest_X0_copyFrom
set_option maxRecDepth 20000 in
theorem ggX5_longest_X0_goOnFor : GoodIn wsX5_longest wsX0_goOnFor := goodIn_r _ [31, 32, 33, 34, 13, 35, 25, 36, 37, 38, 39, 40, 15, 41, 42, 43, 44, 45, 23, 46, 47, 48, 49, 20, 21, 24, 50, 51, 52, 53, 54, 55, 56, 57, 22, 58, 59, 60, 61, 62, 26, 63, 64, 65, 66, 67, 68, 69, 70, 71, 72, 73, 74, 27, 75, 76, 77, 78, 79, 80, 81, 82, 83, 84, 85, 86, 87, 88, 89, 90, 91, 92, 93, 94, 95, 96, 117, 118, 119, 120, 121, 122, 123, 124, 125, 109, 110, 111, 112, 113, 114, 115, 116] (by decide +kernel) (by decide +kernel)
set_option maxRecDepth 20000 in
theorem gX5_longest_X0_goOnFor : GoodIn wsX5_longest (wsV RX5 135 RX0 yX0_goOnFor wsX0_goOnFor) := goodIn_app (goodIn_of _ (by decide +kernel)) ggX5_longest_X0_goOnFor
set_option maxRecDepth 20000 in
theorem ggX5_longest_X0_isToBeTaken : GoodIn wsX5_longest wsX0_isToBeTaken := goodIn_r _ [100, 15, 117, 118, 119, 120, 121, 122, 123, 124, 125] (by decide +kernel) (by decide +kernel)
set_option maxRecDepth 20000 in
theorem gX5_longest_X0_isToBeTaken : GoodIn wsX5_longest (wsV RX5 186 RX0 yX0_isToBeTaken wsX0_isToBeTaken) := goodIn_app (goodIn_of _ (by decide +kernel)) ggX5_longest_X0_isToBeTaken
set_option maxRecDepth 20000 in
theorem ggX5_seen_X5_isCaller : GoodIn wsX5_seen wsX5_isCaller := goodIn_r _ [7, 8, 9, 10, 11, 6, 12, 22, 23, 24, 25, 26, 27, 28, 29, 34, 35, 36, 37, 38, 39, 40, 41] (by decide +kernel) (by decide +kernel)
set_option maxRecDepth 20000 in
theorem gX5_seen_X5_isCaller : GoodIn wsX5_seen (wsV RX5 97 RX5 yX5_isCaller wsX5_isCaller) := goodIn_app (goodIn_of _ (by decide +kernel)) ggX5_seen_X5_isCaller
set_option maxRecDepth 20000 in
theorem ggX5_seen_X5_isWithin : GoodIn wsX5_seen wsX5_isWithin := goodIn_r _ [12] (by decide +kernel) (by decide +kernel)
set_option maxRecDepth 20000 in
theorem gX5_seen_X5_isWithin : GoodIn wsX5_seen (va_wsS RX5 82 yX5_isWithin wsX5_isWithin) := goodIn_app (goodIn_of _ (by decide +kernel)) ggX5_seen_X5_isWithin
set_option maxRecDepth 20000 in
theorem ggX5_seen_X3_add : GoodIn wsX5_seen wsX3_add := goodIn_r _ [17, 18, 19, 20, 21, 30, 31, 32, 33] (by decide +kernel) (by decide +kernel)
set_option maxRecDepth 20000 in
theorem gX5_seen_X3_add : GoodIn wsX5_seen (wsV RX5 190 RX3 yX3_add wsX3_add) := goodIn_app (goodIn_of _ (by decide +kernel)) ggX5_seen_X3_add
set_option maxRecDepth 20000 in
theorem ggX5_forget_X3_clear : GoodIn wsX5_forget wsX3_clear := goodIn_r _ [7, 8, 17, 18, 19, 20] (by decide +kernel) (by decide +kernel)
set_option maxRecDepth 20000 in
theorem gX5_forget_X3_clear : GoodIn wsX5_forget (wsV RX5 95 RX3 yX3_clear wsX3_clear) := goodIn_app (goodIn_of _ (by decide +kernel)) ggX5_forget_X3_clear
set_option maxRecDepth 20000 in
theorem ggX5_bears_X5_isCaller : GoodIn wsX5_bears wsX5_isCaller := goodIn_r _ [8, 2, 9, 10, 11, 7, 12, 126, 127, 128, 129, 130, 131, 132, 133, 134, 135, 136, 137, 138, 139, 140, 141] (by decide +kernel) (by decide +kernel)
set_option maxRecDepth 20000 in
theorem gX5_bears_X5_isCaller : GoodIn wsX5_bears (wsV RX5 97 RX5 yX5_isCaller wsX5_isCaller) := goodIn_app (goodIn_of _ (by decide +kernel)) ggX5_bears_X5_isCaller
set_option maxRecDepth 20000 in
theorem ggX5_bears_X5_isWithin : GoodIn wsX5_bears wsX5_isWithin := goodIn_r _ [12] (by decide +kernel) (by decide +kernel)
set_option maxRecDepth 20000 in
theorem gX5_bears_X5_isWithin : GoodIn wsX5_bears (va_wsS RX5 82 yX5_isWithin wsX5_isWithin) := goodIn_app (goodIn_of _ (by decide +kernel)) ggX5_bears_X5_isWithin
set_option maxRecDepth 20000 in
theorem ggX5_bears_X1_copyFrom : GoodIn wsX5_bears wsX1_copyFrom := goodIn_r _ [17, 18, 19, 20, 21, 22, 23, 24, 25, 26, 27, 28, 29, 134, 135, 136, 137, 138, 139, 140, 141] (by decide +kernel) (by decide +kernel)
set_option maxRecDepth 20000 in
theorem gX5_bears_X1_copyFrom : GoodIn wsX5_bears (wsV RX5 92 RX1 yX1_copyFrom wsX1_copyFrom) := goodIn_app (goodIn_of _ (by decide +kernel)) ggX5_bears_X1_copyFrom
set_option maxRecDepth 20000 in
theorem ggX5_bears_X5_allSeenIsSo : GoodIn wsX5_bears wsX5_allSeenIsSo := goodIn_r _ [33, 34, 35, 36, 37, 38, 1, 39, 40, 41, 42, 43, 44, 45, 46, 47, 48, 24, 25, 26, 49, 50, 51, 52, 53, 54, 55, 56, 57, 58, 59, 60, 61, 62, 63, 64, 65, 66, 67, 68, 69, 70, 71, 72, 73, 74, 75, 76, 77, 78, 79, 80, 81, 82, 83, 84, 85, 86, 87, 88, 89, 90, 91, 92, 93, 94, 95, 96, 97, 98, 99, 100, 101, 102, 103, 104, 105, 106, 107, 108, 109, 110, 111, 112, 113, 114, 115, 116, 117, 118, 119, 120, 121, 122, 123, 124, 125, 126, 127, 128, 129, 130, 131, 132, 133, 142, 143, 144, 145, 146, 147, 148, 149, 150, 151, 152, 153, 154, 134, 135, 136, 137, 138, 139, 140, 141] (by decide +kernel) (by decide +kernel)
set_option maxRecDepth 20000 in
theorem gX5_bears_X5_allSeenIsSo : GoodIn wsX5_bears (wsV RX5 194 RX5 yX5_allSeenIsSo wsX5_allSeenIsSo) := goodIn_app (goodIn_of _ (by decide +kernel)) ggX5_bears_X5_allSeenIsSo
set_option maxRecDepth 20000 in
theorem ggX5_kinds_X5_isCaller : GoodIn wsX5_kinds wsX5_isCaller := goodIn_r _ [8, 2, 9, 10, 11, 7, 12, 126, 127, 128, 129, 130, 131, 132, 133, 134, 135, 136, 137, 138, 139, 140, 141] (by decide +kernel) (by decide +kernel)
set_option maxRecDepth 20000 in
theorem gX5_kinds_X5_isCaller : GoodIn wsX5_kinds (wsV RX5 97 RX5 yX5_isCaller wsX5_isCaller) := goodIn_app (goodIn_of _ (by decide +kernel)) ggX5_kinds_X5_isCaller
set_option maxRecDepth 20000 in
theorem ggX5_kinds_X1_copyFrom : GoodIn wsX5_kinds wsX1_copyFrom := goodIn_r _ [17, 18, 19, 20, 21, 22, 23, 24, 25, 26, 27, 28, 29, 134, 135, 136, 137, 138, 139, 140, 141] (by decide +kernel) (by decide +kernel)
set_option maxRecDepth 20000 in
theorem gX5_kinds_X1_copyFrom : GoodIn wsX5_kinds (wsV RX5 92 RX1 yX1_copyFrom wsX1_copyFrom) := goodIn_app (goodIn_of _ (by decide +kernel)) ggX5_kinds_X1_copyFrom
set_option maxRecDepth 20000 in
theorem ggX5_kinds_X5_allSeenIsSo : GoodIn wsX5_kinds wsX5_allSeenIsSo := goodIn_r _ [33, 34, 35, 36, 37, 38, 1, 39, 40, 41, 42, 43, 44, 45, 46, 47, 48, 24, 25, 26, 49, 50, 51, 52, 53, 54, 55, 56, 57, 58, 59, 60, 61, 62, 63, 64, 65, 66, 67, 68, 69, 70, 71, 72, 73, 74, 75, 76, 77, 78, 79, 80, 81, 82, 83, 84, 85, 86, 87, 88, 89, 90, 91, 92, 93, 94, 95, 96, 97, 98, 99, 100, 101, 102, 103, 104, 105, 106, 107, 108, 109, 110, 111, 112, 113, 114, 115, 116, 117, 118, 119, 120, 121, 122, 123, 124, 125, 126, 127, 128, 129, 130, 131, 132, 133, 142, 143, 144, 145, 146, 147, 148, 149, 150, 151, 152, 153, 154, 134, 135, 136, 137, 138, 139, 140, 141] (by decide +kernel) (by decide +kernel)
set_option maxRecDepth 20000 in
theorem gX5_kinds_X5_allSeenIsSo : GoodIn wsX5_kinds (wsV RX5 194 RX5 yX5_allSeenIsSo wsX5_allSeenIsSo) := goodIn_app (goodIn_of _ (by decide +kernel)) ggX5_kinds_X5_allSeenIsSo
set_option maxRecDepth 20000 in
theorem ggX5_likely_X5_isCaller : GoodIn wsX5_likely wsX5_isCaller := goodIn_r _ [11, 1, 2, 12, 13, 10, 14, 134, 135, 136, 137, 138, 139, 140, 141, 142, 143, 144, 145, 146, 147, 148, 149] (by decide +kernel) (by decide +kernel)
set_option maxRecDepth 20000 in
theorem gX5_likely_X5_isCaller : GoodIn wsX5_likely (wsV RX5 97 RX5 yX5_isCaller wsX5_isCaller) := goodIn_app (goodIn_of _ (by decide +kernel)) ggX5_likely_X5_isCaller
set_option maxRecDepth 20000 in
theorem ggX5_likely_X5_isWithin : GoodIn wsX5_likely wsX5_isWithin := goodIn_r _ [14] (by decide +kernel) (by decide +kernel)
set_option maxRecDepth 20000 in
theorem gX5_likely_X5_isWithin : GoodIn wsX5_likely (va_wsS RX5 82 yX5_isWithin wsX5_isWithin) := goodIn_app (goodIn_of _ (by decide +kernel)) ggX5_likely_X5_isWithin
set_option maxRecDepth 20000 in
theorem ggX5_likely_X5_othersWhoWait : GoodIn wsX5_likely wsX5_othersWhoWait := goodIn_r _ [18, 1, 2, 19, 20, 21, 22, 23, 24, 25, 134, 135, 136, 137, 138, 139, 140, 141, 142, 143, 144, 145, 146, 147, 148, 149, 150, 151, 152, 153, 154, 155, 156, 157, 158] (by decide +kernel) (by decide +kernel)
set_option maxRecDepth 20000 in
theorem gX5_likely_X5_othersWhoWait : GoodIn wsX5_likely (wsV RX5 197 RX5 yX5_othersWhoWait wsX5_othersWhoWait) := goodIn_app (goodIn_of _ (by decide +kernel)) ggX5_likely_X5_othersWhoWait
set_option maxRecDepth 20000 in
theorem ggX5_likely_X5_weightIfTaken : GoodIn wsX5_likely wsX5_weightIfTaken := goodIn_r _ [29, 30, 19, 1, 2, 31, 32, 33, 34, 35, 36, 37, 38, 39, 10, 40, 41, 42, 43, 23, 44, 25, 45, 46, 47, 48, 49, 50, 51, 52, 53, 54, 55, 56, 57, 58, 59, 60, 61, 62, 63, 64, 65, 66, 67, 68, 69, 70, 71, 72, 73, 74, 75, 76, 77, 78, 79, 80, 81, 82, 83, 84, 85, 86, 87, 88, 89, 90, 91, 92, 93, 94, 95, 96, 97, 98, 99, 100, 101, 102, 103, 104, 105, 106, 107, 108, 109, 110, 111, 112, 113, 114, 115, 116, 117, 118, 119, 120, 121, 122, 123, 124, 125, 126, 127, 128, 129, 130, 4, 5, 6, 134, 135, 136, 137, 138, 139, 140, 141, 142, 143, 144, 145, 146, 147, 148, 149, 150, 151, 152, 153, 154, 155, 156, 157, 158] (by decide +kernel) (by decide +kernel)
set_option maxRecDepth 20000 in
theorem gX5_likely_X5_weightIfTaken : GoodIn wsX5_likely (wsV RX5 200 RX5 yX5_weightIfTaken wsX5_weightIfTaken) := goodIn_app (goodIn_of _ (by decide +kernel)) ggX5_likely_X5_weightIfTaken
set_option maxRecDepth 20000 in
theorem ggX5_likely_J6_bitCount_0f7a4 : GoodIn wsX5_likely wsJ6_bitCount_0f7a4 := goodIn_r _ [34, 35, 36, 37] (by decide +kernel) (by decide +kernel)
set_option maxRecDepth 20000 in
theorem gX5_likely_J6_bitCount_0f7a4 : GoodIn wsX5_likely (va_wsS RX5 204 yJ6_bitCount_0f7a4 wsJ6_bitCount_0f7a4) := goodIn_app (goodIn_of _ (by decide +kernel)) ggX5_likely_J6_bitCount_0f7a4
set_option maxRecDepth 20000 in
theorem ggX5_likely_X5_power : GoodIn wsX5_likely wsX5_power := goodIn_r _ [40] (by decide +kernel) (by decide +kernel)
set_option maxRecDepth 20000 in
theorem gX5_likely_X5_power : GoodIn wsX5_likely (va_wsS RX5 209 yX5_power wsX5_power) := goodIn_app (goodIn_of _ (by decide +kernel)) ggX5_likely_X5_power
set_option maxRecDepth 20000 in
theorem ggX5_likely_X5_commonDivisor : GoodIn wsX5_likely wsX5_commonDivisor := goodIn_r _ [133] (by decide +kernel) (by decide +kernel)
set_option maxRecDepth 20000 in
theorem gX5_likely_X5_commonDivisor : GoodIn wsX5_likely (va_wsS RX5 212 yX5_commonDivisor wsX5_commonDivisor) := goodIn_app (goodIn_of _ (by decide +kernel)) ggX5_likely_X5_commonDivisor
set_option maxRecDepth 20000 in
theorem ggX5_day_X5_isWithin : GoodIn wsX5_day wsX5_isWithin := goodIn_r _ [7] (by decide +kernel) (by decide +kernel)
set_option maxRecDepth 20000 in
theorem gX5_day_X5_isWithin : GoodIn wsX5_day (va_wsS RX5 82 yX5_isWithin wsX5_isWithin) := goodIn_app (goodIn_of _ (by decide +kernel)) ggX5_day_X5_isWithin
set_option maxRecDepth 20000 in
theorem ggX5_day_X0_copyFrom : GoodIn wsX5_day wsX0_copyFrom := goodIn_r _ [12, 13, 14, 15, 16, 17, 18, 19, 20, 21, 22, 23, 24, 25, 137, 138, 139, 140, 141, 142, 143, 144, 145] (by decide +kernel) (by decide +kernel)
set_option maxRecDepth 20000 in
theorem gX5_day_X0_copyFrom : GoodIn wsX5_day (wsV RX5 164 RX0 yX0_copyFrom wsX0_copyFrom) := goodIn_app (goodIn_of _ (by decide +kernel)) ggX5_day_X0_copyFrom
set_option maxRecDepth 20000 in
theorem ggX5_day_X5_draw : GoodIn wsX5_day wsX5_draw := goodIn_r _ [28, 29, 30, 31, 32] (by decide +kernel) (by decide +kernel)
set_option maxRecDepth 20000 in
theorem gX5_day_X5_draw : GoodIn wsX5_day (va_wsS RX5 220 yX5_draw wsX5_draw) := goodIn_app (goodIn_of _ (by decide +kernel)) ggX5_day_X5_draw
set_option maxRecDepth 20000 in
theorem ggX5_day_X5_actByDraw : GoodIn wsX5_day wsX5_actByDraw := goodIn_r _ [36, 3, 37, 38, 39, 40, 41, 1, 42, 43, 44, 45, 46, 47, 48, 11, 49, 13, 50, 51, 52, 53, 54, 55, 56, 57, 58, 59, 60, 61, 21, 129, 130, 131, 132, 133, 134, 135, 136, 146, 147, 148, 149, 150, 151, 152, 153, 137, 138, 139, 140, 141, 142, 143, 144, 145] (by decide +kernel) (by decide +kernel)
set_option maxRecDepth 20000 in
theorem gX5_day_X5_actByDraw : GoodIn wsX5_day (wsV RX5 223 RX5 yX5_actByDraw wsX5_actByDraw) := goodIn_app (goodIn_of _ (by decide +kernel)) ggX5_day_X5_actByDraw
set_option maxRecDepth 20000 in
theorem ggX5_day_X0_goOn : GoodIn wsX5_day wsX0_goOn := goodIn_r _ [65, 23, 66, 67, 68, 11, 69, 70, 13, 71, 72, 73, 74, 75, 21, 76, 77, 78, 79, 18, 19, 22, 80, 81, 82, 83, 84, 85, 86, 87, 20, 88, 89, 90, 91, 92, 24, 93, 94, 95, 96, 97, 98, 99, 100, 101, 102, 103, 104, 25, 105, 106, 107, 108, 109, 110, 111, 112, 113, 114, 115, 116, 117, 118, 119, 120, 121, 122, 123, 39, 40, 41, 137, 138, 139, 140, 141, 142, 143, 144, 145, 146, 147, 148, 149, 150, 151, 152, 153] (by decide +kernel) (by decide +kernel)
set_option maxRecDepth 20000 in
theorem gX5_day_X0_goOn : GoodIn wsX5_day (wsV RX5 173 RX0 yX0_goOn wsX0_goOn) := goodIn_app (goodIn_of _ (by decide +kernel)) ggX5_day_X0_goOn
set_option maxRecDepth 20000 in
theorem ggX5_day_X0_countIn : GoodIn wsX5_day wsX0_countIn := goodIn_r _ [96, 70, 13, 146, 147, 148, 149, 150, 151, 152, 153, 137, 138, 139, 140, 141, 142, 143, 144, 145] (by decide +kernel) (by decide +kernel)
set_option maxRecDepth 20000 in
theorem gX5_day_X0_countIn : GoodIn wsX5_day (wsV RX5 226 RX0 yX0_countIn wsX0_countIn) := goodIn_app (goodIn_of _ (by decide +kernel)) ggX5_day_X0_countIn
set_option maxRecDepth 20000 in
theorem ggX5_day_X0_worthThrough : GoodIn wsX5_day wsX0_worthThrough := goodIn_r _ [128, 70, 13, 105, 146, 147, 148, 149, 150, 151, 152, 153, 137, 138, 139, 140, 141, 142, 143, 144, 145] (by decide +kernel) (by decide +kernel)
set_option maxRecDepth 20000 in
theorem gX5_day_X0_worthThrough : GoodIn wsX5_day (wsV RX5 229 RX0 yX0_worthThrough wsX0_worthThrough) := goodIn_app (goodIn_of _ (by decide +kernel)) ggX5_day_X0_worthThrough
set_option maxRecDepth 20000 in
theorem ggX5_keep_X2_put : GoodIn wsX5_keep wsX2_put := goodIn_r _ [8, 9, 10, 11, 12, 13, 14, 15, 16, 17, 18, 19, 20, 21, 22, 23, 24, 25, 26, 27, 28, 29, 38, 39, 40, 41, 42, 43, 44, 45, 46, 47, 48, 49] (by decide +kernel) (by decide +kernel)
set_option maxRecDepth 20000 in
theorem gX5_keep_X2_put : GoodIn wsX5_keep (wsV RX5 131 RX2 yX2_put wsX2_put) := goodIn_app (goodIn_of _ (by decide +kernel)) ggX5_keep_X2_put
set_option maxRecDepth 20000 in
theorem ggX5_back_X2_giveLastTo : GoodIn wsX5_back wsX2_giveLastTo := goodIn_r _ [9, 10, 11, 12, 13, 14, 15, 16, 17, 18, 19, 20, 21, 22, 23, 24, 25, 26, 27, 28, 29, 30, 43, 44, 45, 46, 47, 48, 49, 50, 51, 52, 53, 54] (by decide +kernel) (by decide +kernel)
set_option maxRecDepth 20000 in
theorem gX5_back_X2_giveLastTo : GoodIn wsX5_back (wsV RX5 157 RX2 yX2_giveLastTo wsX2_giveLastTo) := goodIn_app (goodIn_of _ (by decide +kernel)) ggX5_back_X2_giveLastTo
set_option maxRecDepth 20000 in
theorem ggX5_back_X2_clear : GoodIn wsX5_back wsX2_clear := goodIn_r _ [34, 10, 43, 44, 45] (by decide +kernel) (by decide +kernel)
set_option maxRecDepth 20000 in
theorem gX5_back_X2_clear : GoodIn wsX5_back (wsV RX5 96 RX2 yX2_clear wsX2_clear) := goodIn_app (goodIn_of _ (by decide +kernel)) ggX5_back_X2_clear
set_option maxRecDepth 20000 in
theorem ggX5_count_X0_countIn : GoodIn wsX5_count wsX0_countIn := goodIn_r _ [19, 20, 21, 30, 31, 32, 33, 34, 35, 36, 37, 38, 39, 40, 41, 42, 43, 44, 45, 46] (by decide +kernel) (by decide +kernel)
set_option maxRecDepth 20000 in
theorem gX5_count_X0_countIn : GoodIn wsX5_count (wsV RX5 226 RX0 yX0_countIn wsX0_countIn) := goodIn_app (goodIn_of _ (by decide +kernel)) ggX5_count_X0_countIn
set_option maxRecDepth 20000 in
theorem ggX5_isCaller_X5_isWithin : GoodIn wsX5_isCaller wsX5_isWithin := goodIn_r _ [6] (by decide +kernel) (by decide +kernel)
set_option maxRecDepth 20000 in
theorem gX5_isCaller_X5_isWithin : GoodIn wsX5_isCaller (va_wsS RX5 82 yX5_isWithin wsX5_isWithin) := goodIn_app (goodIn_of _ (by decide +kernel)) ggX5_isCaller_X5_isWithin
set_option maxRecDepth 20000 in
theorem ggX5_minutesTillTaken_X0_isTaken : GoodIn wsX5_minutesTillTaken wsX0_isTaken := goodIn_r _ [7, 8, 90, 91, 92, 93, 94, 95, 96, 97, 98] (by decide +kernel) (by decide +kernel)
set_option maxRecDepth 20000 in
theorem gX5_minutesTillTaken_X0_isTaken : GoodIn wsX5_minutesTillTaken (wsV RX5 235 RX0 yX0_isTaken wsX0_isTaken) := goodIn_app (goodIn_of _ (by decide +kernel)) ggX5_minutesTillTaken_X0_isTaken
set_option maxRecDepth 20000 in
theorem ggX5_minutesTillTaken_X0_goOn : GoodIn wsX5_minutesTillTaken wsX0_goOn := goodIn_r _ [12, 13, 14, 15, 16, 6, 17, 18, 8, 19, 20, 21, 22, 23, 24, 25, 26, 27, 28, 29, 30, 31, 32, 33, 34, 35, 36, 37, 38, 39, 40, 41, 42, 43, 44, 45, 46, 47, 48, 49, 50, 51, 52, 53, 54, 55, 56, 57, 58, 59, 60, 61, 62, 63, 64, 65, 66, 67, 68, 69, 70, 71, 72, 73, 74, 75, 76, 77, 78, 79, 80, 81, 90, 91, 92, 93, 94, 95, 96, 97, 98, 99, 100, 101, 102, 103, 104, 105, 106] (by decide +kernel) (by decide +kernel)
set_option maxRecDepth 20000 in
theorem gX5_minutesTillTaken_X0_goOn : GoodIn wsX5_minutesTillTaken (wsV RX5 173 RX0 yX0_goOn wsX0_goOn) := goodIn_app (goodIn_of _ (by decide +kernel)) ggX5_minutesTillTaken_X0_goOn
set_option maxRecDepth 20000 in
theorem ggX5_minutesByPause_X0_copyFrom : GoodIn wsX5_minutesByPause wsX0_copyFrom := goodIn_r _ [8, 9, 10, 11, 12, 13, 14, 15, 16, 17, 18, 19, 20, 21, 117, 118, 119, 120, 121, 122, 123, 124, 125] (by decide +kernel) (by decide +kernel)
set_option maxRecDepth 20000 in
theorem gX5_minutesByPause_X0_copyFrom : GoodIn wsX5_minutesByPause (wsV RX5 164 RX0 yX0_copyFrom wsX0_copyFrom) := goodIn_app (goodIn_of _ (by decide +kernel)) ggX5_minutesByPause_X0_copyFrom
set_option maxRecDepth 20000 in
theorem ggX5_minutesByPause_X0_hangUp : GoodIn wsX5_minutesByPause wsX0_hangUp := goodIn_r _ [25, 9, 117, 118, 119, 120, 121, 122, 123, 124, 125] (by decide +kernel) (by decide +kernel)
set_option maxRecDepth 20000 in
theorem gX5_minutesByPause_X0_hangUp : GoodIn wsX5_minutesByPause (wsV RX5 142 RX0 yX0_hangUp wsX0_hangUp) := goodIn_app (goodIn_of _ (by decide +kernel)) ggX5_minutesByPause_X0_hangUp
set_option maxRecDepth 20000 in
theorem ggX5_minutesByPause_X0_goOnFor : GoodIn wsX5_minutesByPause wsX0_goOnFor := goodIn_r _ [29, 30, 31, 32, 7, 33, 19, 34, 35, 36, 37, 38, 9, 39, 40, 41, 42, 43, 17, 44, 45, 46, 47, 14, 15, 18, 48, 49, 50, 51, 52, 53, 54, 55, 16, 56, 57, 58, 59, 60, 20, 61, 62, 63, 64, 65, 66, 67, 68, 69, 70, 71, 72, 21, 73, 74, 75, 76, 77, 78, 79, 80, 81, 82, 83, 84, 85, 86, 87, 88, 89, 90, 91, 92, 93, 94, 117, 118, 119, 120, 121, 122, 123, 124, 125, 126, 127, 128, 129, 130, 131, 132, 133] (by decide +kernel) (by decide +kernel)
set_option maxRecDepth 20000 in
theorem gX5_minutesByPause_X0_goOnFor : GoodIn wsX5_minutesByPause (wsV RX5 135 RX0 yX0_goOnFor wsX0_goOnFor) := goodIn_app (goodIn_of _ (by decide +kernel)) ggX5_minutesByPause_X0_goOnFor
set_option maxRecDepth 20000 in
theorem ggX5_minutesByPause_X0_callAgain : GoodIn wsX5_minutesByPause wsX0_callAgain := goodIn_r _ [98, 9, 17, 117, 118, 119, 120, 121, 122, 123, 124, 125] (by decide +kernel) (by decide +kernel)
set_option maxRecDepth 20000 in
theorem gX5_minutesByPause_X0_callAgain : GoodIn wsX5_minutesByPause (wsV RX5 148 RX0 yX0_callAgain wsX0_callAgain) := goodIn_app (goodIn_of _ (by decide +kernel)) ggX5_minutesByPause_X0_callAgain
set_option maxRecDepth 20000 in
theorem ggX5_minutesByPause_X5_minutesTillTaken : GoodIn wsX5_minutesByPause wsX5_minutesTillTaken := goodIn_r _ [103, 1, 3, 104, 105, 106, 7, 107, 9, 108, 31, 32, 33, 19, 34, 35, 36, 37, 38, 39, 40, 41, 42, 43, 17, 44, 45, 46, 47, 14, 15, 18, 48, 49, 50, 51, 52, 53, 54, 55, 16, 56, 57, 58, 59, 60, 20, 61, 62, 63, 64, 65, 66, 67, 68, 69, 70, 71, 72, 21, 73, 74, 75, 76, 77, 78, 79, 80, 81, 82, 83, 84, 85, 86, 87, 88, 89, 90, 91, 92, 93, 94, 109, 110, 111, 112, 113, 114, 115, 116, 117, 118, 119, 120, 121, 122, 123, 124, 125, 126, 127, 128, 129, 130, 131, 132, 133] (by decide +kernel) (by decide +kernel)
set_option maxRecDepth 20000 in
theorem gX5_minutesByPause_X5_minutesTillTaken : GoodIn wsX5_minutesByPause (wsV RX5 166 RX5 yX5_minutesTillTaken wsX5_minutesTillTaken) := goodIn_app (goodIn_of _ (by decide +kernel)) ggX5_minutesByPause_X5_minutesTillTaken
set_option maxRecDepth 20000 in
theorem ggX5_worthServedBy_X0_copyFrom : GoodIn wsX5_worthServedBy wsX0_copyFrom := goodIn_r _ [11, 12, 13, 14, 15, 16, 17, 18, 19, 20, 21, 22, 23, 24, 110, 111, 112, 113, 114, 115, 116, 117, 118] (by decide +kernel) (by decide +kernel)
set_option maxRecDepth 20000 in
theorem gX5_worthServedBy_X0_copyFrom : GoodIn wsX5_worthServedBy (wsV RX5 164 RX0 yX0_copyFrom wsX0_copyFrom) := goodIn_app (goodIn_of _ (by decide +kernel)) ggX5_worthServedBy_X0_copyFrom
set_option maxRecDepth 20000 in
theorem ggX5_worthServedBy_X0_goOnFor : GoodIn wsX5_worthServedBy wsX0_goOnFor := goodIn_r _ [28, 29, 30, 31, 10, 32, 22, 33, 34, 35, 36, 37, 12, 38, 39, 40, 41, 42, 20, 43, 44, 45, 46, 17, 18, 21, 47, 48, 49, 50, 51, 52, 53, 54, 19, 55, 56, 57, 58, 59, 23, 60, 61, 62, 63, 64, 65, 66, 67, 68, 69, 70, 71, 24, 72, 73, 74, 75, 76, 77, 78, 79, 80, 81, 82, 83, 84, 85, 86, 87, 88, 89, 90, 91, 92, 93, 110, 111, 112, 113, 114, 115, 116, 117, 118, 119, 120, 121, 122, 123, 124, 125, 126] (by decide +kernel) (by decide +kernel)
set_option maxRecDepth 20000 in
theorem gX5_worthServedBy_X0_goOnFor : GoodIn wsX5_worthServedBy (wsV RX5 135 RX0 yX0_goOnFor wsX0_goOnFor) := goodIn_app (goodIn_of _ (by decide +kernel)) ggX5_worthServedBy_X0_goOnFor
set_option maxRecDepth 20000 in
theorem ggX5_worthServedBy_X0_isToBeTaken : GoodIn wsX5_worthServedBy wsX0_isToBeTaken := goodIn_r _ [97, 12, 110, 111, 112, 113, 114, 115, 116, 117, 118] (by decide +kernel) (by decide +kernel)
set_option maxRecDepth 20000 in
theorem gX5_worthServedBy_X0_isToBeTaken : GoodIn wsX5_worthServedBy (wsV RX5 186 RX0 yX0_isToBeTaken wsX0_isToBeTaken) := goodIn_app (goodIn_of _ (by decide +kernel)) ggX5_worthServedBy_X0_isToBeTaken
set_option maxRecDepth 20000 in
theorem ggX5_worthServedBy_X0_isTaken : GoodIn wsX5_worthServedBy wsX0_isTaken := goodIn_r _ [101, 12, 110, 111, 112, 113, 114, 115, 116, 117, 118] (by decide +kernel) (by decide +kernel)
set_option maxRecDepth 20000 in
theorem gX5_worthServedBy_X0_isTaken : GoodIn wsX5_worthServedBy (wsV RX5 235 RX0 yX0_isTaken wsX0_isTaken) := goodIn_app (goodIn_of _ (by decide +kernel)) ggX5_worthServedBy_X0_isTaken
set_option maxRecDepth 20000 in
theorem ggX5_giveUpsInTrial_X0_countIn : GoodIn wsX5_giveUpsInTrial wsX0_countIn := goodIn_r _ [7, 8, 9, 91, 92, 93, 94, 95, 96, 97, 98, 99, 100, 101, 102, 103, 104, 105, 106, 107] (by decide +kernel) (by decide +kernel)
set_option maxRecDepth 20000 in
theorem gX5_giveUpsInTrial_X0_countIn : GoodIn wsX5_giveUpsInTrial (wsV RX5 226 RX0 yX0_countIn wsX0_countIn) := goodIn_app (goodIn_of _ (by decide +kernel)) ggX5_giveUpsInTrial_X0_countIn
set_option maxRecDepth 20000 in
theorem ggX5_giveUpsInTrial_X0_goOnFor : GoodIn wsX5_giveUpsInTrial wsX0_goOnFor := goodIn_r _ [13, 14, 15, 16, 6, 17, 18, 19, 20, 21, 22, 8, 9, 23, 24, 25, 26, 27, 28, 29, 30, 31, 32, 33, 34, 35, 36, 37, 38, 39, 40, 41, 42, 43, 44, 45, 46, 47, 48, 49, 50, 51, 4, 5, 7, 52, 53, 54, 55, 56, 57, 58, 59, 60, 61, 62, 63, 64, 65, 66, 67, 68, 69, 70, 71, 72, 73, 74, 75, 76, 77, 78, 79, 80, 81, 82, 99, 100, 101, 102, 103, 104, 105, 106, 107, 91, 92, 93, 94, 95, 96, 97, 98] (by decide +kernel) (by decide +kernel)
set_option maxRecDepth 20000 in
theorem gX5_giveUpsInTrial_X0_goOnFor : GoodIn wsX5_giveUpsInTrial (wsV RX5 135 RX0 yX0_goOnFor wsX0_goOnFor) := goodIn_app (goodIn_of _ (by decide +kernel)) ggX5_giveUpsInTrial_X0_goOnFor
set_option maxRecDepth 20000 in
theorem ggX5_allSeenIsSo_X0_copyFrom : GoodIn wsX5_allSeenIsSo wsX0_copyFrom := goodIn_r _ [14, 15, 16, 17, 18, 19, 20, 21, 22, 23, 24, 25, 26, 27, 109, 110, 111, 112, 113, 114, 115, 116, 117] (by decide +kernel) (by decide +kernel)
set_option maxRecDepth 20000 in
theorem gX5_allSeenIsSo_X0_copyFrom : GoodIn wsX5_allSeenIsSo (wsV RX5 164 RX0 yX0_copyFrom wsX0_copyFrom) := goodIn_app (goodIn_of _ (by decide +kernel)) ggX5_allSeenIsSo_X0_copyFrom
set_option maxRecDepth 20000 in
theorem ggX5_allSeenIsSo_X0_goOnFor : GoodIn wsX5_allSeenIsSo wsX0_goOnFor := goodIn_r _ [31, 32, 33, 34, 13, 35, 25, 36, 37, 38, 39, 40, 15, 41, 42, 43, 44, 45, 23, 46, 47, 48, 49, 20, 21, 24, 50, 51, 52, 53, 54, 55, 56, 57, 22, 58, 59, 60, 61, 62, 26, 63, 64, 65, 66, 67, 68, 69, 70, 71, 72, 73, 74, 27, 75, 76, 77, 78, 79, 80, 81, 82, 83, 84, 85, 86, 87, 88, 89, 90, 91, 92, 93, 94, 95, 96, 109, 110, 111, 112, 113, 114, 115, 116, 117, 118, 119, 120, 121, 122, 123, 124, 125] (by decide +kernel) (by decide +kernel)
set_option maxRecDepth 20000 in
theorem gX5_allSeenIsSo_X0_goOnFor : GoodIn wsX5_allSeenIsSo (wsV RX5 135 RX0 yX0_goOnFor wsX0_goOnFor) := goodIn_app (goodIn_of _ (by decide +kernel)) ggX5_allSeenIsSo_X0_goOnFor
set_option maxRecDepth 20000 in
theorem ggX5_othersWhoWait_X0_canHangUp : GoodIn wsX5_othersWhoWait wsX0_canHangUp := goodIn_r _ [8, 9, 26, 27, 28, 29, 30, 31, 32, 33, 34] (by decide +kernel) (by decide +kernel)
set_option maxRecDepth 20000 in
theorem gX5_othersWhoWait_X0_canHangUp : GoodIn wsX5_othersWhoWait (wsV RX5 139 RX0 yX0_canHangUp wsX0_canHangUp) := goodIn_app (goodIn_of _ (by decide +kernel)) ggX5_othersWhoWait_X0_canHangUp
set_option maxRecDepth 20000 in
theorem ggX5_weightIfTaken_J6_bitCount_0f7a4 : GoodIn wsX5_weightIfTaken wsJ6_bitCount_0f7a4 := goodIn_r _ [8, 9, 10, 11] (by decide +kernel) (by decide +kernel)
set_option maxRecDepth 20000 in
theorem gX5_weightIfTaken_J6_bitCount_0f7a4 : GoodIn wsX5_weightIfTaken (va_wsS RX5 204 yJ6_bitCount_0f7a4 wsJ6_bitCount_0f7a4) := goodIn_app (goodIn_of _ (by decide +kernel)) ggX5_weightIfTaken_J6_bitCount_0f7a4
set_option maxRecDepth 20000 in
theorem ggX5_weightIfTaken_X5_power : GoodIn wsX5_weightIfTaken wsX5_power := goodIn_r _ [15] (by decide +kernel) (by decide +kernel)
set_option maxRecDepth 20000 in
theorem gX5_weightIfTaken_X5_power : GoodIn wsX5_weightIfTaken (va_wsS RX5 209 yX5_power wsX5_power) := goodIn_app (goodIn_of _ (by decide +kernel)) ggX5_weightIfTaken_X5_power
set_option maxRecDepth 20000 in
theorem ggX5_weightIfTaken_X0_copyFrom : GoodIn wsX5_weightIfTaken wsX0_copyFrom := goodIn_r _ [20, 21, 22, 23, 24, 25, 26, 27, 28, 29, 30, 31, 32, 33, 127, 128, 129, 130, 131, 132, 133, 134, 135] (by decide +kernel) (by decide +kernel)
set_option maxRecDepth 20000 in
theorem gX5_weightIfTaken_X0_copyFrom : GoodIn wsX5_weightIfTaken (wsV RX5 164 RX0 yX0_copyFrom wsX0_copyFrom) := goodIn_app (goodIn_of _ (by decide +kernel)) ggX5_weightIfTaken_X0_copyFrom
set_option maxRecDepth 20000 in
theorem ggX5_weightIfTaken_X0_hangUp : GoodIn wsX5_weightIfTaken wsX0_hangUp := goodIn_r _ [37, 21, 127, 128, 129, 130, 131, 132, 133, 134, 135] (by decide +kernel) (by decide +kernel)
set_option maxRecDepth 20000 in
theorem gX5_weightIfTaken_X0_hangUp : GoodIn wsX5_weightIfTaken (wsV RX5 142 RX0 yX0_hangUp wsX0_hangUp) := goodIn_app (goodIn_of _ (by decide +kernel)) ggX5_weightIfTaken_X0_hangUp
set_option maxRecDepth 20000 in
theorem ggX5_weightIfTaken_X5_minutesTillTaken : GoodIn wsX5_weightIfTaken wsX5_minutesTillTaken := goodIn_r _ [41, 1, 3, 42, 43, 44, 19, 45, 21, 46, 47, 48, 49, 31, 50, 51, 52, 53, 54, 55, 56, 57, 58, 59, 29, 60, 61, 62, 63, 26, 27, 30, 64, 65, 66, 67, 68, 69, 70, 71, 28, 72, 73, 74, 75, 76, 32, 77, 78, 79, 80, 81, 82, 83, 84, 85, 86, 87, 88, 33, 89, 90, 91, 92, 93, 94, 95, 96, 97, 98, 99, 100, 101, 102, 103, 104, 105, 106, 107, 108, 109, 110, 111, 112, 113, 114, 115, 116, 117, 118, 127, 128, 129, 130, 131, 132, 133, 134, 135, 119, 120, 121, 122, 123, 124, 125, 126] (by decide +kernel) (by decide +kernel)
set_option maxRecDepth 20000 in
theorem gX5_weightIfTaken_X5_minutesTillTaken : GoodIn wsX5_weightIfTaken (wsV RX5 166 RX5 yX5_minutesTillTaken wsX5_minutesTillTaken) := goodIn_app (goodIn_of _ (by decide +kernel)) ggX5_weightIfTaken_X5_minutesTillTaken
set_option maxRecDepth 20000 in
theorem ggX5_actByDraw_X0_canHangUp : GoodIn wsX5_actByDraw wsX0_canHangUp := goodIn_r _ [16, 17, 47, 48, 49, 50, 51, 52, 53, 54, 55] (by decide +kernel) (by decide +kernel)
set_option maxRecDepth 20000 in
theorem gX5_actByDraw_X0_canHangUp : GoodIn wsX5_actByDraw (wsV RX5 139 RX0 yX0_canHangUp wsX0_canHangUp) := goodIn_app (goodIn_of _ (by decide +kernel)) ggX5_actByDraw_X0_canHangUp
set_option maxRecDepth 20000 in
theorem ggX5_actByDraw_X0_hangUp : GoodIn wsX5_actByDraw wsX0_hangUp := goodIn_r _ [21, 17, 47, 48, 49, 50, 51, 52, 53, 54, 55] (by decide +kernel) (by decide +kernel)
set_option maxRecDepth 20000 in
theorem gX5_actByDraw_X0_hangUp : GoodIn wsX5_actByDraw (wsV RX5 142 RX0 yX0_hangUp wsX0_hangUp) := goodIn_app (goodIn_of _ (by decide +kernel)) ggX5_actByDraw_X0_hangUp
set_option maxRecDepth 20000 in
theorem ggX5_actByDraw_X0_canCallAgain : GoodIn wsX5_actByDraw wsX0_canCallAgain := goodIn_r _ [25, 17, 47, 48, 49, 50, 51, 52, 53, 54, 55] (by decide +kernel) (by decide +kernel)
set_option maxRecDepth 20000 in
theorem gX5_actByDraw_X0_canCallAgain : GoodIn wsX5_actByDraw (wsV RX5 145 RX0 yX0_canCallAgain wsX0_canCallAgain) := goodIn_app (goodIn_of _ (by decide +kernel)) ggX5_actByDraw_X0_canCallAgain
set_option maxRecDepth 20000 in
theorem ggX5_actByDraw_X0_callAgain : GoodIn wsX5_actByDraw wsX0_callAgain := goodIn_r _ [29, 17, 30, 47, 48, 49, 50, 51, 52, 53, 54, 55] (by decide +kernel) (by decide +kernel)
set_option maxRecDepth 20000 in
theorem gX5_actByDraw_X0_callAgain : GoodIn wsX5_actByDraw (wsV RX5 148 RX0 yX0_callAgain wsX0_callAgain) := goodIn_app (goodIn_of _ (by decide +kernel)) ggX5_actByDraw_X0_callAgain
theorem dX5_init_0 : decode cX5_init 0 = .ok (.aload_n 0, 1) := by decide +kernel
theorem dX5_init_1 : decode cX5_init 1 = .ok (.invokespecial 1, 3) := by decide +kernel
theorem dX5_init_4 : decode cX5_init 4 = .ok (.aload_n 0, 1) := by decide +kernel
theorem dX5_init_5 : decode cX5_init 5 = .ok (.new 7, 3) := by decide +kernel
theorem dX5_init_8 : decode cX5_init 8 = .ok (.dup, 1) := by decide +kernel
theorem dX5_init_9 : decode cX5_init 9 = .ok (.invokespecial 9, 3) := by decide +kernel
theorem dX5_init_12 : decode cX5_init 12 = .ok (.putfield 10, 3) := by decide +kernel
theorem dX5_init_15 : decode cX5_init 15 = .ok (.aload_n 0, 1) := by decide +kernel
theorem dX5_init_16 : decode cX5_init 16 = .ok (.new 16, 3) := by decide +kernel
theorem dX5_init_19 : decode cX5_init 19 = .ok (.dup, 1) := by decide +kernel
theorem dX5_init_20 : decode cX5_init 20 = .ok (.invokespecial 18, 3) := by decide +kernel
theorem dX5_init_23 : decode cX5_init 23 = .ok (.putfield 19, 3) := by decide +kernel
theorem dX5_init_26 : decode cX5_init 26 = .ok (.aload_n 0, 1) := by decide +kernel
theorem dX5_init_27 : decode cX5_init 27 = .ok (.new 16, 3) := by decide +kernel
theorem dX5_init_30 : decode cX5_init 30 = .ok (.dup, 1) := by decide +kernel
theorem dX5_init_31 : decode cX5_init 31 = .ok (.invokespecial 18, 3) := by decide +kernel
theorem dX5_init_34 : decode cX5_init 34 = .ok (.putfield 23, 3) := by decide +kernel
theorem dX5_init_37 : decode cX5_init 37 = .ok (.aload_n 0, 1) := by decide +kernel
theorem dX5_init_38 : decode cX5_init 38 = .ok (.new 26, 3) := by decide +kernel
theorem dX5_init_41 : decode cX5_init 41 = .ok (.dup, 1) := by decide +kernel
theorem dX5_init_42 : decode cX5_init 42 = .ok (.invokespecial 28, 3) := by decide +kernel
theorem dX5_init_45 : decode cX5_init 45 = .ok (.putfield 29, 3) := by decide +kernel
theorem dX5_init_48 : decode cX5_init 48 = .ok (.aload_n 0, 1) := by decide +kernel
theorem dX5_init_49 : decode cX5_init 49 = .ok (.new 26, 3) := by decide +kernel
theorem dX5_init_52 : decode cX5_init 52 = .ok (.dup, 1) := by decide +kernel
theorem dX5_init_53 : decode cX5_init 53 = .ok (.invokespecial 28, 3) := by decide +kernel
theorem dX5_init_56 : decode cX5_init 56 = .ok (.putfield 33, 3) := by decide +kernel
theorem dX5_init_59 : decode cX5_init 59 = .ok (.aload_n 0, 1) := by decide +kernel
theorem dX5_init_60 : decode cX5_init 60 = .ok (.new 36, 3) := by decide +kernel
theorem dX5_init_63 : decode cX5_init 63 = .ok (.dup, 1) := by decide +kernel
theorem dX5_init_64 : decode cX5_init 64 = .ok (.bipush 8, 2) := by decide +kernel
theorem dX5_init_66 : decode cX5_init 66 = .ok (.invokespecial 38, 3) := by decide +kernel
theorem dX5_init_69 : decode cX5_init 69 = .ok (.putfield 41, 3) := by decide +kernel
theorem dX5_init_72 : decode cX5_init 72 = .ok (.aload_n 0, 1) := by decide +kernel
theorem dX5_init_73 : decode cX5_init 73 = .ok (.new 36, 3) := by decide +kernel
theorem dX5_init_76 : decode cX5_init 76 = .ok (.dup, 1) := by decide +kernel
theorem dX5_init_77 : decode cX5_init 77 = .ok (.iconst 2, 1) := by decide +kernel
theorem dX5_init_78 : decode cX5_init 78 = .ok (.invokespecial 38, 3) := by decide +kernel
theorem dX5_init_81 : decode cX5_init 81 = .ok (.putfield 45, 3) := by decide +kernel
theorem dX5_init_84 : decode cX5_init 84 = .ok (.aload_n 0, 1) := by decide +kernel
theorem dX5_init_85 : decode cX5_init 85 = .ok (.new 48, 3) := by decide +kernel
theorem dX5_init_88 : decode cX5_init 88 = .ok (.dup, 1) := by decide +kernel
theorem dX5_init_89 : decode cX5_init 89 = .ok (.invokespecial 50, 3) := by decide +kernel
theorem dX5_init_92 : decode cX5_init 92 = .ok (.putfield 51, 3) := by decide +kernel
theorem dX5_init_95 : decode cX5_init 95 = .ok (.ldc 55, 2) := by decide +kernel
theorem dX5_init_97 : decode cX5_init 97 = .ok (.invokevirtual 57, 3) := by decide +kernel
theorem dX5_init_100 : decode cX5_init 100 = .ok (.istore_n 1, 1) := by decide +kernel
theorem dX5_init_101 : decode cX5_init 101 = .ok (.iconst 0, 1) := by decide +kernel
theorem dX5_init_102 : decode cX5_init 102 = .ok (.istore_n 2, 1) := by decide +kernel
theorem dX5_init_103 : decode cX5_init 103 = .ok (.iload_n 2, 1) := by decide +kernel
theorem dX5_init_104 : decode cX5_init 104 = .ok (.iload_n 1, 1) := by decide +kernel
theorem dX5_init_105 : decode cX5_init 105 = .ok (.if_icmp .ge 22, 3) := by decide +kernel
theorem dX5_init_108 : decode cX5_init 108 = .ok (.aload_n 0, 1) := by decide +kernel
theorem dX5_init_109 : decode cX5_init 109 = .ok (.getfield 10, 3) := by decide +kernel
theorem dX5_init_112 : decode cX5_init 112 = .ok (.ldc 55, 2) := by decide +kernel
theorem dX5_init_114 : decode cX5_init 114 = .ok (.iload_n 2, 1) := by decide +kernel
theorem dX5_init_115 : decode cX5_init 115 = .ok (.invokevirtual 63, 3) := by decide +kernel
theorem dX5_init_118 : decode cX5_init 118 = .ok (.invokevirtual 67, 3) := by decide +kernel
theorem dX5_init_121 : decode cX5_init 121 = .ok (.iinc 2 1, 3) := by decide +kernel
theorem dX5_init_124 : decode cX5_init 124 = .ok (.goto (-21), 3) := by decide +kernel
theorem dX5_init_127 : decode cX5_init 127 = .ok (.aload_n 0, 1) := by decide +kernel
theorem dX5_init_128 : decode cX5_init 128 = .ok (.getfield 10, 3) := by decide +kernel
theorem dX5_init_131 : decode cX5_init 131 = .ok (.aload_n 0, 1) := by decide +kernel
theorem dX5_init_132 : decode cX5_init 132 = .ok (.getfield 19, 3) := by decide +kernel
theorem dX5_init_135 : decode cX5_init 135 = .ok (.invokevirtual 71, 3) := by decide +kernel
theorem dX5_init_138 : decode cX5_init 138 = .ok (.pop, 1) := by decide +kernel
theorem dX5_init_139 : decode cX5_init 139 = .ok (.aload_n 0, 1) := by decide +kernel
theorem dX5_init_140 : decode cX5_init 140 = .ok (.getfield 10, 3) := by decide +kernel
theorem dX5_init_143 : decode cX5_init 143 = .ok (.invokevirtual 75, 3) := by decide +kernel
theorem dX5_init_146 : decode cX5_init 146 = .ok (.aload_n 0, 1) := by decide +kernel
theorem dX5_init_147 : decode cX5_init 147 = .ok (.getfield 29, 3) := by decide +kernel
theorem dX5_init_150 : decode cX5_init 150 = .ok (.aload_n 0, 1) := by decide +kernel
theorem dX5_init_151 : decode cX5_init 151 = .ok (.getfield 19, 3) := by decide +kernel
theorem dX5_init_154 : decode cX5_init 154 = .ok (.invokevirtual 78, 3) := by decide +kernel
theorem dX5_init_157 : decode cX5_init 157 = .ok (.return_, 1) := by decide +kernel
theorem dX5_write_0 : decode cX5_write 0 = .ok (.iload_n 1, 1) := by decide +kernel
theorem dX5_write_1 : decode cX5_write 1 = .ok (.bipush 32, 2) := by decide +kernel
theorem dX5_write_3 : decode cX5_write 3 = .ok (.bipush 126, 2) := by decide +kernel
theorem dX5_write_5 : decode cX5_write 5 = .ok (.invokestatic 82, 3) := by decide +kernel
theorem dX5_write_8 : decode cX5_write 8 = .ok (.ifCond .ne 5, 3) := by decide +kernel
theorem dX5_write_11 : decode cX5_write 11 = .ok (.iconst (-1), 1) := by decide +kernel
theorem dX5_write_12 : decode cX5_write 12 = .ok (.ireturn, 1) := by decide +kernel
theorem dX5_write_13 : decode cX5_write 13 = .ok (.aload_n 0, 1) := by decide +kernel
theorem dX5_write_14 : decode cX5_write 14 = .ok (.getfield 10, 3) := by decide +kernel
theorem dX5_write_17 : decode cX5_write 17 = .ok (.getfield 86, 3) := by decide +kernel
theorem dX5_write_20 : decode cX5_write 20 = .ok (.sipush 200, 3) := by decide +kernel
theorem dX5_write_23 : decode cX5_write 23 = .ok (.if_icmp .ne 6, 3) := by decide +kernel
theorem dX5_write_26 : decode cX5_write 26 = .ok (.bipush (-3), 2) := by decide +kernel
theorem dX5_write_28 : decode cX5_write 28 = .ok (.ireturn, 1) := by decide +kernel
theorem dX5_write_29 : decode cX5_write 29 = .ok (.aload_n 0, 1) := by decide +kernel
theorem dX5_write_30 : decode cX5_write 30 = .ok (.getfield 10, 3) := by decide +kernel
theorem dX5_write_33 : decode cX5_write 33 = .ok (.iload_n 1, 1) := by decide +kernel
theorem dX5_write_34 : decode cX5_write 34 = .ok (.i2c, 1) := by decide +kernel
theorem dX5_write_35 : decode cX5_write 35 = .ok (.invokevirtual 67, 3) := by decide +kernel
theorem dX5_write_38 : decode cX5_write 38 = .ok (.aload_n 0, 1) := by decide +kernel
theorem dX5_write_39 : decode cX5_write 39 = .ok (.getfield 10, 3) := by decide +kernel
theorem dX5_write_42 : decode cX5_write 42 = .ok (.getfield 86, 3) := by decide +kernel
theorem dX5_write_45 : decode cX5_write 45 = .ok (.ireturn, 1) := by decide +kernel
theorem dX5_wipe_0 : decode cX5_wipe 0 = .ok (.aload_n 0, 1) := by decide +kernel
theorem dX5_wipe_1 : decode cX5_wipe 1 = .ok (.getfield 10, 3) := by decide +kernel
theorem dX5_wipe_4 : decode cX5_wipe 4 = .ok (.getfield 86, 3) := by decide +kernel
theorem dX5_wipe_7 : decode cX5_wipe 7 = .ok (.istore_n 1, 1) := by decide +kernel
theorem dX5_wipe_8 : decode cX5_wipe 8 = .ok (.aload_n 0, 1) := by decide +kernel
theorem dX5_wipe_9 : decode cX5_wipe 9 = .ok (.getfield 10, 3) := by decide +kernel
theorem dX5_wipe_12 : decode cX5_wipe 12 = .ok (.invokevirtual 75, 3) := by decide +kernel
theorem dX5_wipe_15 : decode cX5_wipe 15 = .ok (.iload_n 1, 1) := by decide +kernel
theorem dX5_wipe_16 : decode cX5_wipe 16 = .ok (.ireturn, 1) := by decide +kernel
theorem dX5_fault_0 : decode cX5_fault 0 = .ok (.aload_n 0, 1) := by decide +kernel
theorem dX5_fault_1 : decode cX5_fault 1 = .ok (.getfield 10, 3) := by decide +kernel
theorem dX5_fault_4 : decode cX5_fault 4 = .ok (.aload_n 0, 1) := by decide +kernel
theorem dX5_fault_5 : decode cX5_fault 5 = .ok (.getfield 23, 3) := by decide +kernel
theorem dX5_fault_8 : decode cX5_fault 8 = .ok (.invokevirtual 71, 3) := by decide +kernel
theorem dX5_fault_11 : decode cX5_fault 11 = .ok (.ireturn, 1) := by decide +kernel
theorem dX5_lay_0 : decode cX5_lay 0 = .ok (.aload_n 0, 1) := by decide +kernel
theorem dX5_lay_1 : decode cX5_lay 1 = .ok (.getfield 10, 3) := by decide +kernel
theorem dX5_lay_4 : decode cX5_lay 4 = .ok (.aload_n 0, 1) := by decide +kernel
theorem dX5_lay_5 : decode cX5_lay 5 = .ok (.getfield 23, 3) := by decide +kernel
theorem dX5_lay_8 : decode cX5_lay 8 = .ok (.invokevirtual 71, 3) := by decide +kernel
theorem dX5_lay_11 : decode cX5_lay 11 = .ok (.bipush (-4), 2) := by decide +kernel
theorem dX5_lay_13 : decode cX5_lay 13 = .ok (.if_icmp .ne 13, 3) := by decide +kernel
theorem dX5_lay_16 : decode cX5_lay 16 = .ok (.aload_n 0, 1) := by decide +kernel
theorem dX5_lay_17 : decode cX5_lay 17 = .ok (.getfield 23, 3) := by decide +kernel
theorem dX5_lay_20 : decode cX5_lay 20 = .ok (.getfield 89, 3) := by decide +kernel
theorem dX5_lay_23 : decode cX5_lay 23 = .ok (.ifCond .ne 6, 3) := by decide +kernel
theorem dX5_lay_26 : decode cX5_lay 26 = .ok (.bipush (-2), 2) := by decide +kernel
theorem dX5_lay_28 : decode cX5_lay 28 = .ok (.ireturn, 1) := by decide +kernel
theorem dX5_lay_29 : decode cX5_lay 29 = .ok (.aload_n 0, 1) := by decide +kernel
theorem dX5_lay_30 : decode cX5_lay 30 = .ok (.getfield 19, 3) := by decide +kernel
theorem dX5_lay_33 : decode cX5_lay 33 = .ok (.aload_n 0, 1) := by decide +kernel
theorem dX5_lay_34 : decode cX5_lay 34 = .ok (.getfield 23, 3) := by decide +kernel
theorem dX5_lay_37 : decode cX5_lay 37 = .ok (.invokevirtual 92, 3) := by decide +kernel
theorem dX5_lay_40 : decode cX5_lay 40 = .ok (.aload_n 0, 1) := by decide +kernel
theorem dX5_lay_41 : decode cX5_lay 41 = .ok (.getfield 29, 3) := by decide +kernel
theorem dX5_lay_44 : decode cX5_lay 44 = .ok (.aload_n 0, 1) := by decide +kernel
theorem dX5_lay_45 : decode cX5_lay 45 = .ok (.getfield 19, 3) := by decide +kernel
theorem dX5_lay_48 : decode cX5_lay 48 = .ok (.invokevirtual 78, 3) := by decide +kernel
theorem dX5_lay_51 : decode cX5_lay 51 = .ok (.aload_n 0, 1) := by decide +kernel
theorem dX5_lay_52 : decode cX5_lay 52 = .ok (.getfield 51, 3) := by decide +kernel
theorem dX5_lay_55 : decode cX5_lay 55 = .ok (.invokevirtual 95, 3) := by decide +kernel
theorem dX5_lay_58 : decode cX5_lay 58 = .ok (.aload_n 0, 1) := by decide +kernel
theorem dX5_lay_59 : decode cX5_lay 59 = .ok (.getfield 41, 3) := by decide +kernel
theorem dX5_lay_62 : decode cX5_lay 62 = .ok (.invokevirtual 96, 3) := by decide +kernel
theorem dX5_lay_65 : decode cX5_lay 65 = .ok (.aload_n 0, 1) := by decide +kernel
theorem dX5_lay_66 : decode cX5_lay 66 = .ok (.getfield 45, 3) := by decide +kernel
theorem dX5_lay_69 : decode cX5_lay 69 = .ok (.invokevirtual 96, 3) := by decide +kernel
theorem dX5_lay_72 : decode cX5_lay 72 = .ok (.aload_n 0, 1) := by decide +kernel
theorem dX5_lay_73 : decode cX5_lay 73 = .ok (.getfield 19, 3) := by decide +kernel
theorem dX5_lay_76 : decode cX5_lay 76 = .ok (.getfield 89, 3) := by decide +kernel
theorem dX5_lay_79 : decode cX5_lay 79 = .ok (.ireturn, 1) := by decide +kernel
theorem dX5_caller_0 : decode cX5_caller 0 = .ok (.aload_n 0, 1) := by decide +kernel
theorem dX5_caller_1 : decode cX5_caller 1 = .ok (.iload_n 1, 1) := by decide +kernel
theorem dX5_caller_2 : decode cX5_caller 2 = .ok (.invokevirtual 97, 3) := by decide +kernel
theorem dX5_caller_5 : decode cX5_caller 5 = .ok (.ifCond .ne 5, 3) := by decide +kernel
theorem dX5_caller_8 : decode cX5_caller 8 = .ok (.iconst (-1), 1) := by decide +kernel
theorem dX5_caller_9 : decode cX5_caller 9 = .ok (.ireturn, 1) := by decide +kernel
theorem dX5_caller_10 : decode cX5_caller 10 = .ok (.iload_n 2, 1) := by decide +kernel
theorem dX5_caller_11 : decode cX5_caller 11 = .ok (.tableswitch 140 0 6 #[41, 51, 61, 71, 81, 91, 101], 41) := by decide +kernel
theorem dX5_caller_52 : decode cX5_caller 52 = .ok (.aload_n 0, 1) := by decide +kernel
theorem dX5_caller_53 : decode cX5_caller 53 = .ok (.getfield 19, 3) := by decide +kernel
theorem dX5_caller_56 : decode cX5_caller 56 = .ok (.getfield 101, 3) := by decide +kernel
theorem dX5_caller_59 : decode cX5_caller 59 = .ok (.iload_n 1, 1) := by decide +kernel
theorem dX5_caller_60 : decode cX5_caller 60 = .ok (.iaload, 1) := by decide +kernel
theorem dX5_caller_61 : decode cX5_caller 61 = .ok (.ireturn, 1) := by decide +kernel
theorem dX5_caller_62 : decode cX5_caller 62 = .ok (.aload_n 0, 1) := by decide +kernel
theorem dX5_caller_63 : decode cX5_caller 63 = .ok (.getfield 19, 3) := by decide +kernel
theorem dX5_caller_66 : decode cX5_caller 66 = .ok (.getfield 105, 3) := by decide +kernel
theorem dX5_caller_69 : decode cX5_caller 69 = .ok (.iload_n 1, 1) := by decide +kernel
theorem dX5_caller_70 : decode cX5_caller 70 = .ok (.iaload, 1) := by decide +kernel
theorem dX5_caller_71 : decode cX5_caller 71 = .ok (.ireturn, 1) := by decide +kernel
theorem dX5_caller_72 : decode cX5_caller 72 = .ok (.aload_n 0, 1) := by decide +kernel
theorem dX5_caller_73 : decode cX5_caller 73 = .ok (.getfield 19, 3) := by decide +kernel
theorem dX5_caller_76 : decode cX5_caller 76 = .ok (.getfield 108, 3) := by decide +kernel
theorem dX5_caller_79 : decode cX5_caller 79 = .ok (.iload_n 1, 1) := by decide +kernel
theorem dX5_caller_80 : decode cX5_caller 80 = .ok (.iaload, 1) := by decide +kernel
theorem dX5_caller_81 : decode cX5_caller 81 = .ok (.ireturn, 1) := by decide +kernel
theorem dX5_caller_82 : decode cX5_caller 82 = .ok (.aload_n 0, 1) := by decide +kernel
theorem dX5_caller_83 : decode cX5_caller 83 = .ok (.getfield 19, 3) := by decide +kernel
theorem dX5_caller_86 : decode cX5_caller 86 = .ok (.getfield 111, 3) := by decide +kernel
theorem dX5_caller_89 : decode cX5_caller 89 = .ok (.iload_n 1, 1) := by decide +kernel
theorem dX5_caller_90 : decode cX5_caller 90 = .ok (.iaload, 1) := by decide +kernel
theorem dX5_caller_91 : decode cX5_caller 91 = .ok (.ireturn, 1) := by decide +kernel
theorem dX5_caller_92 : decode cX5_caller 92 = .ok (.aload_n 0, 1) := by decide +kernel
theorem dX5_caller_93 : decode cX5_caller 93 = .ok (.getfield 29, 3) := by decide +kernel
theorem dX5_caller_96 : decode cX5_caller 96 = .ok (.getfield 114, 3) := by decide +kernel
theorem dX5_caller_99 : decode cX5_caller 99 = .ok (.iload_n 1, 1) := by decide +kernel
theorem dX5_caller_100 : decode cX5_caller 100 = .ok (.iaload, 1) := by decide +kernel
theorem dX5_caller_101 : decode cX5_caller 101 = .ok (.ireturn, 1) := by decide +kernel
theorem dX5_caller_102 : decode cX5_caller 102 = .ok (.aload_n 0, 1) := by decide +kernel
theorem dX5_caller_103 : decode cX5_caller 103 = .ok (.getfield 29, 3) := by decide +kernel
theorem dX5_caller_106 : decode cX5_caller 106 = .ok (.getfield 117, 3) := by decide +kernel
theorem dX5_caller_109 : decode cX5_caller 109 = .ok (.iload_n 1, 1) := by decide +kernel
theorem dX5_caller_110 : decode cX5_caller 110 = .ok (.iaload, 1) := by decide +kernel
theorem dX5_caller_111 : decode cX5_caller 111 = .ok (.ireturn, 1) := by decide +kernel
theorem dX5_caller_112 : decode cX5_caller 112 = .ok (.aload_n 0, 1) := by decide +kernel
theorem dX5_caller_113 : decode cX5_caller 113 = .ok (.getfield 29, 3) := by decide +kernel
theorem dX5_caller_116 : decode cX5_caller 116 = .ok (.getfield 114, 3) := by decide +kernel
theorem dX5_caller_119 : decode cX5_caller 119 = .ok (.iload_n 1, 1) := by decide +kernel
theorem dX5_caller_120 : decode cX5_caller 120 = .ok (.iaload, 1) := by decide +kernel
theorem dX5_caller_121 : decode cX5_caller 121 = .ok (.iconst 1, 1) := by decide +kernel
theorem dX5_caller_122 : decode cX5_caller 122 = .ok (.if_icmp .ne 26, 3) := by decide +kernel
theorem dX5_caller_125 : decode cX5_caller 125 = .ok (.aload_n 0, 1) := by decide +kernel
theorem dX5_caller_126 : decode cX5_caller 126 = .ok (.getfield 19, 3) := by decide +kernel
theorem dX5_caller_129 : decode cX5_caller 129 = .ok (.iload_n 1, 1) := by decide +kernel
theorem dX5_caller_130 : decode cX5_caller 130 = .ok (.aload_n 0, 1) := by decide +kernel
theorem dX5_caller_131 : decode cX5_caller 131 = .ok (.getfield 29, 3) := by decide +kernel
theorem dX5_caller_134 : decode cX5_caller 134 = .ok (.aload_n 0, 1) := by decide +kernel
theorem dX5_caller_135 : decode cX5_caller 135 = .ok (.getfield 19, 3) := by decide +kernel
theorem dX5_caller_138 : decode cX5_caller 138 = .ok (.iload_n 1, 1) := by decide +kernel
theorem dX5_caller_139 : decode cX5_caller 139 = .ok (.invokevirtual 120, 3) := by decide +kernel
theorem dX5_caller_142 : decode cX5_caller 142 = .ok (.invokestatic 124, 3) := by decide +kernel
theorem dX5_caller_145 : decode cX5_caller 145 = .ok (.goto 5, 3) := by decide +kernel
theorem dX5_caller_148 : decode cX5_caller 148 = .ok (.bipush (-4), 2) := by decide +kernel
theorem dX5_caller_150 : decode cX5_caller 150 = .ok (.ireturn, 1) := by decide +kernel
theorem dX5_caller_151 : decode cX5_caller 151 = .ok (.iconst (-1), 1) := by decide +kernel
theorem dX5_caller_152 : decode cX5_caller 152 = .ok (.ireturn, 1) := by decide +kernel
theorem dX5_pass_0 : decode cX5_pass 0 = .ok (.iload_n 1, 1) := by decide +kernel
theorem dX5_pass_1 : decode cX5_pass 1 = .ok (.iconst 1, 1) := by decide +kernel
theorem dX5_pass_2 : decode cX5_pass 2 = .ok (.bipush 40, 2) := by decide +kernel
theorem dX5_pass_4 : decode cX5_pass 4 = .ok (.invokestatic 82, 3) := by decide +kernel
theorem dX5_pass_7 : decode cX5_pass 7 = .ok (.ifCond .ne 5, 3) := by decide +kernel
theorem dX5_pass_10 : decode cX5_pass 10 = .ok (.iconst (-1), 1) := by decide +kernel
theorem dX5_pass_11 : decode cX5_pass 11 = .ok (.ireturn, 1) := by decide +kernel
theorem dX5_pass_12 : decode cX5_pass 12 = .ok (.aload_n 0, 1) := by decide +kernel
theorem dX5_pass_13 : decode cX5_pass 13 = .ok (.getfield 29, 3) := by decide +kernel
theorem dX5_pass_16 : decode cX5_pass 16 = .ok (.getfield 128, 3) := by decide +kernel
theorem dX5_pass_19 : decode cX5_pass 19 = .ok (.iload_n 1, 1) := by decide +kernel
theorem dX5_pass_20 : decode cX5_pass 20 = .ok (.iadd, 1) := by decide +kernel
theorem dX5_pass_21 : decode cX5_pass 21 = .ok (.sipush 999, 3) := by decide +kernel
theorem dX5_pass_24 : decode cX5_pass 24 = .ok (.if_icmp .le 6, 3) := by decide +kernel
theorem dX5_pass_27 : decode cX5_pass 27 = .ok (.bipush (-2), 2) := by decide +kernel
theorem dX5_pass_29 : decode cX5_pass 29 = .ok (.ireturn, 1) := by decide +kernel
theorem dX5_pass_30 : decode cX5_pass 30 = .ok (.aload_n 0, 1) := by decide +kernel
theorem dX5_pass_31 : decode cX5_pass 31 = .ok (.getfield 41, 3) := by decide +kernel
theorem dX5_pass_34 : decode cX5_pass 34 = .ok (.aload_n 0, 1) := by decide +kernel
theorem dX5_pass_35 : decode cX5_pass 35 = .ok (.getfield 29, 3) := by decide +kernel
theorem dX5_pass_38 : decode cX5_pass 38 = .ok (.invokevirtual 131, 3) := by decide +kernel
theorem dX5_pass_41 : decode cX5_pass 41 = .ok (.aload_n 0, 1) := by decide +kernel
theorem dX5_pass_42 : decode cX5_pass 42 = .ok (.getfield 29, 3) := by decide +kernel
theorem dX5_pass_45 : decode cX5_pass 45 = .ok (.aload_n 0, 1) := by decide +kernel
theorem dX5_pass_46 : decode cX5_pass 46 = .ok (.getfield 19, 3) := by decide +kernel
theorem dX5_pass_49 : decode cX5_pass 49 = .ok (.iload_n 1, 1) := by decide +kernel
theorem dX5_pass_50 : decode cX5_pass 50 = .ok (.invokevirtual 135, 3) := by decide +kernel
theorem dX5_pass_53 : decode cX5_pass 53 = .ok (.aload_n 0, 1) := by decide +kernel
theorem dX5_pass_54 : decode cX5_pass 54 = .ok (.getfield 29, 3) := by decide +kernel
theorem dX5_pass_57 : decode cX5_pass 57 = .ok (.getfield 128, 3) := by decide +kernel
theorem dX5_pass_60 : decode cX5_pass 60 = .ok (.ireturn, 1) := by decide +kernel
theorem dX5_hang_0 : decode cX5_hang 0 = .ok (.aload_n 0, 1) := by decide +kernel
theorem dX5_hang_1 : decode cX5_hang 1 = .ok (.iload_n 1, 1) := by decide +kernel
theorem dX5_hang_2 : decode cX5_hang 2 = .ok (.invokevirtual 97, 3) := by decide +kernel
theorem dX5_hang_5 : decode cX5_hang 5 = .ok (.ifCond .ne 5, 3) := by decide +kernel
theorem dX5_hang_8 : decode cX5_hang 8 = .ok (.iconst (-1), 1) := by decide +kernel
theorem dX5_hang_9 : decode cX5_hang 9 = .ok (.ireturn, 1) := by decide +kernel
theorem dX5_hang_10 : decode cX5_hang 10 = .ok (.aload_n 0, 1) := by decide +kernel
theorem dX5_hang_11 : decode cX5_hang 11 = .ok (.getfield 29, 3) := by decide +kernel
theorem dX5_hang_14 : decode cX5_hang 14 = .ok (.iload_n 1, 1) := by decide +kernel
theorem dX5_hang_15 : decode cX5_hang 15 = .ok (.invokevirtual 139, 3) := by decide +kernel
theorem dX5_hang_18 : decode cX5_hang 18 = .ok (.ifCond .ne 6, 3) := by decide +kernel
theorem dX5_hang_21 : decode cX5_hang 21 = .ok (.bipush (-2), 2) := by decide +kernel
theorem dX5_hang_23 : decode cX5_hang 23 = .ok (.ireturn, 1) := by decide +kernel
theorem dX5_hang_24 : decode cX5_hang 24 = .ok (.aload_n 0, 1) := by decide +kernel
theorem dX5_hang_25 : decode cX5_hang 25 = .ok (.getfield 41, 3) := by decide +kernel
theorem dX5_hang_28 : decode cX5_hang 28 = .ok (.aload_n 0, 1) := by decide +kernel
theorem dX5_hang_29 : decode cX5_hang 29 = .ok (.getfield 29, 3) := by decide +kernel
theorem dX5_hang_32 : decode cX5_hang 32 = .ok (.invokevirtual 131, 3) := by decide +kernel
theorem dX5_hang_35 : decode cX5_hang 35 = .ok (.aload_n 0, 1) := by decide +kernel
theorem dX5_hang_36 : decode cX5_hang 36 = .ok (.getfield 29, 3) := by decide +kernel
theorem dX5_hang_39 : decode cX5_hang 39 = .ok (.iload_n 1, 1) := by decide +kernel
theorem dX5_hang_40 : decode cX5_hang 40 = .ok (.invokevirtual 142, 3) := by decide +kernel
theorem dX5_hang_43 : decode cX5_hang 43 = .ok (.aload_n 0, 1) := by decide +kernel
theorem dX5_hang_44 : decode cX5_hang 44 = .ok (.getfield 29, 3) := by decide +kernel
theorem dX5_hang_47 : decode cX5_hang 47 = .ok (.getfield 117, 3) := by decide +kernel
theorem dX5_hang_50 : decode cX5_hang 50 = .ok (.iload_n 1, 1) := by decide +kernel
theorem dX5_hang_51 : decode cX5_hang 51 = .ok (.iaload, 1) := by decide +kernel
theorem dX5_hang_52 : decode cX5_hang 52 = .ok (.ireturn, 1) := by decide +kernel
theorem dX5_recall_0 : decode cX5_recall 0 = .ok (.aload_n 0, 1) := by decide +kernel
theorem dX5_recall_1 : decode cX5_recall 1 = .ok (.iload_n 1, 1) := by decide +kernel
theorem dX5_recall_2 : decode cX5_recall 2 = .ok (.invokevirtual 97, 3) := by decide +kernel
theorem dX5_recall_5 : decode cX5_recall 5 = .ok (.ifCond .ne 5, 3) := by decide +kernel
theorem dX5_recall_8 : decode cX5_recall 8 = .ok (.iconst (-1), 1) := by decide +kernel
theorem dX5_recall_9 : decode cX5_recall 9 = .ok (.ireturn, 1) := by decide +kernel
theorem dX5_recall_10 : decode cX5_recall 10 = .ok (.aload_n 0, 1) := by decide +kernel
theorem dX5_recall_11 : decode cX5_recall 11 = .ok (.getfield 29, 3) := by decide +kernel
theorem dX5_recall_14 : decode cX5_recall 14 = .ok (.iload_n 1, 1) := by decide +kernel
theorem dX5_recall_15 : decode cX5_recall 15 = .ok (.invokevirtual 145, 3) := by decide +kernel
theorem dX5_recall_18 : decode cX5_recall 18 = .ok (.ifCond .ne 6, 3) := by decide +kernel
theorem dX5_recall_21 : decode cX5_recall 21 = .ok (.bipush (-2), 2) := by decide +kernel
theorem dX5_recall_23 : decode cX5_recall 23 = .ok (.ireturn, 1) := by decide +kernel
theorem dX5_recall_24 : decode cX5_recall 24 = .ok (.aload_n 0, 1) := by decide +kernel
theorem dX5_recall_25 : decode cX5_recall 25 = .ok (.getfield 29, 3) := by decide +kernel
theorem dX5_recall_28 : decode cX5_recall 28 = .ok (.getfield 114, 3) := by decide +kernel
theorem dX5_recall_31 : decode cX5_recall 31 = .ok (.iload_n 1, 1) := by decide +kernel
theorem dX5_recall_32 : decode cX5_recall 32 = .ok (.iaload, 1) := by decide +kernel
theorem dX5_recall_33 : decode cX5_recall 33 = .ok (.iconst 3, 1) := by decide +kernel
theorem dX5_recall_34 : decode cX5_recall 34 = .ok (.if_icmp .ne 7, 3) := by decide +kernel
theorem dX5_recall_37 : decode cX5_recall 37 = .ok (.iconst 1, 1) := by decide +kernel
theorem dX5_recall_38 : decode cX5_recall 38 = .ok (.goto 4, 3) := by decide +kernel
theorem dX5_recall_41 : decode cX5_recall 41 = .ok (.iconst 0, 1) := by decide +kernel
theorem dX5_recall_42 : decode cX5_recall 42 = .ok (.istore_n 2, 1) := by decide +kernel
theorem dX5_recall_43 : decode cX5_recall 43 = .ok (.aload_n 0, 1) := by decide +kernel
theorem dX5_recall_44 : decode cX5_recall 44 = .ok (.getfield 41, 3) := by decide +kernel
theorem dX5_recall_47 : decode cX5_recall 47 = .ok (.aload_n 0, 1) := by decide +kernel
theorem dX5_recall_48 : decode cX5_recall 48 = .ok (.getfield 29, 3) := by decide +kernel
theorem dX5_recall_51 : decode cX5_recall 51 = .ok (.invokevirtual 131, 3) := by decide +kernel
theorem dX5_recall_54 : decode cX5_recall 54 = .ok (.aload_n 0, 1) := by decide +kernel
theorem dX5_recall_55 : decode cX5_recall 55 = .ok (.getfield 29, 3) := by decide +kernel
theorem dX5_recall_58 : decode cX5_recall 58 = .ok (.iload_n 1, 1) := by decide +kernel
theorem dX5_recall_59 : decode cX5_recall 59 = .ok (.invokevirtual 148, 3) := by decide +kernel
theorem dX5_recall_62 : decode cX5_recall 62 = .ok (.iload_n 2, 1) := by decide +kernel
theorem dX5_recall_63 : decode cX5_recall 63 = .ok (.ireturn, 1) := by decide +kernel
theorem dX5_staff_0 : decode cX5_staff 0 = .ok (.iload_n 1, 1) := by decide +kernel
theorem dX5_staff_1 : decode cX5_staff 1 = .ok (.iconst 0, 1) := by decide +kernel
theorem dX5_staff_2 : decode cX5_staff 2 = .ok (.iconst 1, 1) := by decide +kernel
theorem dX5_staff_3 : decode cX5_staff 3 = .ok (.invokestatic 82, 3) := by decide +kernel
theorem dX5_staff_6 : decode cX5_staff 6 = .ok (.ifCond .ne 5, 3) := by decide +kernel
theorem dX5_staff_9 : decode cX5_staff 9 = .ok (.iconst (-1), 1) := by decide +kernel
theorem dX5_staff_10 : decode cX5_staff 10 = .ok (.ireturn, 1) := by decide +kernel
theorem dX5_staff_11 : decode cX5_staff 11 = .ok (.iload_n 1, 1) := by decide +kernel
theorem dX5_staff_12 : decode cX5_staff 12 = .ok (.iconst 1, 1) := by decide +kernel
theorem dX5_staff_13 : decode cX5_staff 13 = .ok (.if_icmp .ne 15, 3) := by decide +kernel
theorem dX5_staff_16 : decode cX5_staff 16 = .ok (.aload_n 0, 1) := by decide +kernel
theorem dX5_staff_17 : decode cX5_staff 17 = .ok (.getfield 29, 3) := by decide +kernel
theorem dX5_staff_20 : decode cX5_staff 20 = .ok (.getfield 151, 3) := by decide +kernel
theorem dX5_staff_23 : decode cX5_staff 23 = .ok (.iconst 1, 1) := by decide +kernel
theorem dX5_staff_24 : decode cX5_staff 24 = .ok (.iadd, 1) := by decide +kernel
theorem dX5_staff_25 : decode cX5_staff 25 = .ok (.goto 12, 3) := by decide +kernel
theorem dX5_staff_28 : decode cX5_staff 28 = .ok (.aload_n 0, 1) := by decide +kernel
theorem dX5_staff_29 : decode cX5_staff 29 = .ok (.getfield 29, 3) := by decide +kernel
theorem dX5_staff_32 : decode cX5_staff 32 = .ok (.getfield 151, 3) := by decide +kernel
theorem dX5_staff_35 : decode cX5_staff 35 = .ok (.iconst 1, 1) := by decide +kernel
theorem dX5_staff_36 : decode cX5_staff 36 = .ok (.isub, 1) := by decide +kernel
theorem dX5_staff_37 : decode cX5_staff 37 = .ok (.istore_n 2, 1) := by decide +kernel
theorem dX5_staff_38 : decode cX5_staff 38 = .ok (.iload_n 2, 1) := by decide +kernel
theorem dX5_staff_39 : decode cX5_staff 39 = .ok (.iconst 1, 1) := by decide +kernel
theorem dX5_staff_40 : decode cX5_staff 40 = .ok (.iconst 4, 1) := by decide +kernel
theorem dX5_staff_41 : decode cX5_staff 41 = .ok (.invokestatic 82, 3) := by decide +kernel
theorem dX5_staff_44 : decode cX5_staff 44 = .ok (.ifCond .ne 6, 3) := by decide +kernel
theorem dX5_staff_47 : decode cX5_staff 47 = .ok (.bipush (-2), 2) := by decide +kernel
theorem dX5_staff_49 : decode cX5_staff 49 = .ok (.ireturn, 1) := by decide +kernel
theorem dX5_staff_50 : decode cX5_staff 50 = .ok (.aload_n 0, 1) := by decide +kernel
theorem dX5_staff_51 : decode cX5_staff 51 = .ok (.getfield 41, 3) := by decide +kernel
theorem dX5_staff_54 : decode cX5_staff 54 = .ok (.aload_n 0, 1) := by decide +kernel
theorem dX5_staff_55 : decode cX5_staff 55 = .ok (.getfield 29, 3) := by decide +kernel
theorem dX5_staff_58 : decode cX5_staff 58 = .ok (.invokevirtual 131, 3) := by decide +kernel
theorem dX5_staff_61 : decode cX5_staff 61 = .ok (.aload_n 0, 1) := by decide +kernel
theorem dX5_staff_62 : decode cX5_staff 62 = .ok (.getfield 29, 3) := by decide +kernel
theorem dX5_staff_65 : decode cX5_staff 65 = .ok (.iload_n 2, 1) := by decide +kernel
theorem dX5_staff_66 : decode cX5_staff 66 = .ok (.putfield 151, 3) := by decide +kernel
theorem dX5_staff_69 : decode cX5_staff 69 = .ok (.iload_n 2, 1) := by decide +kernel
theorem dX5_staff_70 : decode cX5_staff 70 = .ok (.ireturn, 1) := by decide +kernel
theorem dX5_rule_0 : decode cX5_rule 0 = .ok (.iload_n 1, 1) := by decide +kernel
theorem dX5_rule_1 : decode cX5_rule 1 = .ok (.iconst 0, 1) := by decide +kernel
theorem dX5_rule_2 : decode cX5_rule 2 = .ok (.iconst 2, 1) := by decide +kernel
theorem dX5_rule_3 : decode cX5_rule 3 = .ok (.invokestatic 82, 3) := by decide +kernel
theorem dX5_rule_6 : decode cX5_rule 6 = .ok (.ifCond .ne 5, 3) := by decide +kernel
theorem dX5_rule_9 : decode cX5_rule 9 = .ok (.iconst (-1), 1) := by decide +kernel
theorem dX5_rule_10 : decode cX5_rule 10 = .ok (.ireturn, 1) := by decide +kernel
theorem dX5_rule_11 : decode cX5_rule 11 = .ok (.aload_n 0, 1) := by decide +kernel
theorem dX5_rule_12 : decode cX5_rule 12 = .ok (.getfield 29, 3) := by decide +kernel
theorem dX5_rule_15 : decode cX5_rule 15 = .ok (.getfield 154, 3) := by decide +kernel
theorem dX5_rule_18 : decode cX5_rule 18 = .ok (.istore_n 2, 1) := by decide +kernel
theorem dX5_rule_19 : decode cX5_rule 19 = .ok (.iload_n 2, 1) := by decide +kernel
theorem dX5_rule_20 : decode cX5_rule 20 = .ok (.iload_n 1, 1) := by decide +kernel
theorem dX5_rule_21 : decode cX5_rule 21 = .ok (.if_icmp .ne 6, 3) := by decide +kernel
theorem dX5_rule_24 : decode cX5_rule 24 = .ok (.bipush (-2), 2) := by decide +kernel
theorem dX5_rule_26 : decode cX5_rule 26 = .ok (.ireturn, 1) := by decide +kernel
theorem dX5_rule_27 : decode cX5_rule 27 = .ok (.aload_n 0, 1) := by decide +kernel
theorem dX5_rule_28 : decode cX5_rule 28 = .ok (.getfield 41, 3) := by decide +kernel
theorem dX5_rule_31 : decode cX5_rule 31 = .ok (.aload_n 0, 1) := by decide +kernel
theorem dX5_rule_32 : decode cX5_rule 32 = .ok (.getfield 29, 3) := by decide +kernel
theorem dX5_rule_35 : decode cX5_rule 35 = .ok (.invokevirtual 131, 3) := by decide +kernel
theorem dX5_rule_38 : decode cX5_rule 38 = .ok (.aload_n 0, 1) := by decide +kernel
theorem dX5_rule_39 : decode cX5_rule 39 = .ok (.getfield 29, 3) := by decide +kernel
theorem dX5_rule_42 : decode cX5_rule 42 = .ok (.iload_n 1, 1) := by decide +kernel
theorem dX5_rule_43 : decode cX5_rule 43 = .ok (.putfield 154, 3) := by decide +kernel
theorem dX5_rule_46 : decode cX5_rule 46 = .ok (.iload_n 2, 1) := by decide +kernel
theorem dX5_rule_47 : decode cX5_rule 47 = .ok (.ireturn, 1) := by decide +kernel
theorem dX5_undo_0 : decode cX5_undo 0 = .ok (.aload_n 0, 1) := by decide +kernel
theorem dX5_undo_1 : decode cX5_undo 1 = .ok (.getfield 41, 3) := by decide +kernel
theorem dX5_undo_4 : decode cX5_undo 4 = .ok (.aload_n 0, 1) := by decide +kernel
theorem dX5_undo_5 : decode cX5_undo 5 = .ok (.getfield 29, 3) := by decide +kernel
theorem dX5_undo_8 : decode cX5_undo 8 = .ok (.invokevirtual 157, 3) := by decide +kernel
theorem dX5_undo_11 : decode cX5_undo 11 = .ok (.ifCond .eq 13, 3) := by decide +kernel
theorem dX5_undo_14 : decode cX5_undo 14 = .ok (.aload_n 0, 1) := by decide +kernel
theorem dX5_undo_15 : decode cX5_undo 15 = .ok (.getfield 41, 3) := by decide +kernel
theorem dX5_undo_18 : decode cX5_undo 18 = .ok (.getfield 161, 3) := by decide +kernel
theorem dX5_undo_21 : decode cX5_undo 21 = .ok (.goto 5, 3) := by decide +kernel
theorem dX5_undo_24 : decode cX5_undo 24 = .ok (.bipush (-2), 2) := by decide +kernel
theorem dX5_undo_26 : decode cX5_undo 26 = .ok (.ireturn, 1) := by decide +kernel
theorem dX5_behind_0 : decode cX5_behind 0 = .ok (.iload_n 1, 1) := by decide +kernel
theorem dX5_behind_1 : decode cX5_behind 1 = .ok (.iconst 0, 1) := by decide +kernel
theorem dX5_behind_2 : decode cX5_behind 2 = .ok (.bipush 60, 2) := by decide +kernel
theorem dX5_behind_4 : decode cX5_behind 4 = .ok (.invokestatic 82, 3) := by decide +kernel
theorem dX5_behind_7 : decode cX5_behind 7 = .ok (.ifCond .eq 11, 3) := by decide +kernel
theorem dX5_behind_10 : decode cX5_behind 10 = .ok (.aload_n 0, 1) := by decide +kernel
theorem dX5_behind_11 : decode cX5_behind 11 = .ok (.iload_n 2, 1) := by decide +kernel
theorem dX5_behind_12 : decode cX5_behind 12 = .ok (.invokevirtual 97, 3) := by decide +kernel
theorem dX5_behind_15 : decode cX5_behind 15 = .ok (.ifCond .ne 5, 3) := by decide +kernel
theorem dX5_behind_18 : decode cX5_behind 18 = .ok (.iconst (-1), 1) := by decide +kernel
theorem dX5_behind_19 : decode cX5_behind 19 = .ok (.ireturn, 1) := by decide +kernel
theorem dX5_behind_20 : decode cX5_behind 20 = .ok (.aload_n 0, 1) := by decide +kernel
theorem dX5_behind_21 : decode cX5_behind 21 = .ok (.getfield 33, 3) := by decide +kernel
theorem dX5_behind_24 : decode cX5_behind 24 = .ok (.aload_n 0, 1) := by decide +kernel
theorem dX5_behind_25 : decode cX5_behind 25 = .ok (.getfield 29, 3) := by decide +kernel
theorem dX5_behind_28 : decode cX5_behind 28 = .ok (.invokevirtual 164, 3) := by decide +kernel
theorem dX5_behind_31 : decode cX5_behind 31 = .ok (.aload_n 0, 1) := by decide +kernel
theorem dX5_behind_32 : decode cX5_behind 32 = .ok (.getfield 33, 3) := by decide +kernel
theorem dX5_behind_35 : decode cX5_behind 35 = .ok (.aload_n 0, 1) := by decide +kernel
theorem dX5_behind_36 : decode cX5_behind 36 = .ok (.getfield 19, 3) := by decide +kernel
theorem dX5_behind_39 : decode cX5_behind 39 = .ok (.iload_n 1, 1) := by decide +kernel
theorem dX5_behind_40 : decode cX5_behind 40 = .ok (.invokevirtual 135, 3) := by decide +kernel
theorem dX5_behind_43 : decode cX5_behind 43 = .ok (.aload_n 0, 1) := by decide +kernel
theorem dX5_behind_44 : decode cX5_behind 44 = .ok (.getfield 33, 3) := by decide +kernel
theorem dX5_behind_47 : decode cX5_behind 47 = .ok (.getfield 114, 3) := by decide +kernel
theorem dX5_behind_50 : decode cX5_behind 50 = .ok (.iload_n 2, 1) := by decide +kernel
theorem dX5_behind_51 : decode cX5_behind 51 = .ok (.iaload, 1) := by decide +kernel
theorem dX5_behind_52 : decode cX5_behind 52 = .ok (.ireturn, 1) := by decide +kernel
theorem dX5_taken_0 : decode cX5_taken 0 = .ok (.aload_n 0, 1) := by decide +kernel
theorem dX5_taken_1 : decode cX5_taken 1 = .ok (.iload_n 1, 1) := by decide +kernel
theorem dX5_taken_2 : decode cX5_taken 2 = .ok (.invokevirtual 97, 3) := by decide +kernel
theorem dX5_taken_5 : decode cX5_taken 5 = .ok (.ifCond .ne 5, 3) := by decide +kernel
theorem dX5_taken_8 : decode cX5_taken 8 = .ok (.iconst (-1), 1) := by decide +kernel
theorem dX5_taken_9 : decode cX5_taken 9 = .ok (.ireturn, 1) := by decide +kernel
theorem dX5_taken_10 : decode cX5_taken 10 = .ok (.aload_n 0, 1) := by decide +kernel
theorem dX5_taken_11 : decode cX5_taken 11 = .ok (.getfield 33, 3) := by decide +kernel
theorem dX5_taken_14 : decode cX5_taken 14 = .ok (.aload_n 0, 1) := by decide +kernel
theorem dX5_taken_15 : decode cX5_taken 15 = .ok (.getfield 29, 3) := by decide +kernel
theorem dX5_taken_18 : decode cX5_taken 18 = .ok (.invokevirtual 164, 3) := by decide +kernel
theorem dX5_taken_21 : decode cX5_taken 21 = .ok (.aload_n 0, 1) := by decide +kernel
theorem dX5_taken_22 : decode cX5_taken 22 = .ok (.iload_n 1, 1) := by decide +kernel
theorem dX5_taken_23 : decode cX5_taken 23 = .ok (.bipush 60, 2) := by decide +kernel
theorem dX5_taken_25 : decode cX5_taken 25 = .ok (.invokevirtual 166, 3) := by decide +kernel
theorem dX5_taken_28 : decode cX5_taken 28 = .ok (.ireturn, 1) := by decide +kernel
theorem dX5_left_0 : decode cX5_left 0 = .ok (.aload_n 0, 1) := by decide +kernel
theorem dX5_left_1 : decode cX5_left 1 = .ok (.iload_n 1, 1) := by decide +kernel
theorem dX5_left_2 : decode cX5_left 2 = .ok (.invokevirtual 97, 3) := by decide +kernel
theorem dX5_left_5 : decode cX5_left 5 = .ok (.ifCond .ne 5, 3) := by decide +kernel
theorem dX5_left_8 : decode cX5_left 8 = .ok (.iconst (-1), 1) := by decide +kernel
theorem dX5_left_9 : decode cX5_left 9 = .ok (.ireturn, 1) := by decide +kernel
theorem dX5_left_10 : decode cX5_left 10 = .ok (.aload_n 0, 1) := by decide +kernel
theorem dX5_left_11 : decode cX5_left 11 = .ok (.getfield 33, 3) := by decide +kernel
theorem dX5_left_14 : decode cX5_left 14 = .ok (.aload_n 0, 1) := by decide +kernel
theorem dX5_left_15 : decode cX5_left 15 = .ok (.getfield 29, 3) := by decide +kernel
theorem dX5_left_18 : decode cX5_left 18 = .ok (.invokevirtual 164, 3) := by decide +kernel
theorem dX5_left_21 : decode cX5_left 21 = .ok (.iconst 0, 1) := by decide +kernel
theorem dX5_left_22 : decode cX5_left 22 = .ok (.istore_n 2, 1) := by decide +kernel
theorem dX5_left_23 : decode cX5_left 23 = .ok (.iload_n 2, 1) := by decide +kernel
theorem dX5_left_24 : decode cX5_left 24 = .ok (.bipush 60, 2) := by decide +kernel
theorem dX5_left_26 : decode cX5_left 26 = .ok (.if_icmp .ge 33, 3) := by decide +kernel
theorem dX5_left_29 : decode cX5_left 29 = .ok (.aload_n 0, 1) := by decide +kernel
theorem dX5_left_30 : decode cX5_left 30 = .ok (.getfield 33, 3) := by decide +kernel
theorem dX5_left_33 : decode cX5_left 33 = .ok (.iload_n 1, 1) := by decide +kernel
theorem dX5_left_34 : decode cX5_left 34 = .ok (.invokevirtual 170, 3) := by decide +kernel
theorem dX5_left_37 : decode cX5_left 37 = .ok (.ifCond .eq 5, 3) := by decide +kernel
theorem dX5_left_40 : decode cX5_left 40 = .ok (.iload_n 2, 1) := by decide +kernel
theorem dX5_left_41 : decode cX5_left 41 = .ok (.ireturn, 1) := by decide +kernel
theorem dX5_left_42 : decode cX5_left 42 = .ok (.aload_n 0, 1) := by decide +kernel
theorem dX5_left_43 : decode cX5_left 43 = .ok (.getfield 33, 3) := by decide +kernel
theorem dX5_left_46 : decode cX5_left 46 = .ok (.aload_n 0, 1) := by decide +kernel
theorem dX5_left_47 : decode cX5_left 47 = .ok (.getfield 19, 3) := by decide +kernel
theorem dX5_left_50 : decode cX5_left 50 = .ok (.invokevirtual 173, 3) := by decide +kernel
theorem dX5_left_53 : decode cX5_left 53 = .ok (.iinc 2 1, 3) := by decide +kernel
theorem dX5_left_56 : decode cX5_left 56 = .ok (.goto (-33), 3) := by decide +kernel
theorem dX5_left_59 : decode cX5_left 59 = .ok (.aload_n 0, 1) := by decide +kernel
theorem dX5_left_60 : decode cX5_left 60 = .ok (.getfield 33, 3) := by decide +kernel
theorem dX5_left_63 : decode cX5_left 63 = .ok (.iload_n 1, 1) := by decide +kernel
theorem dX5_left_64 : decode cX5_left 64 = .ok (.invokevirtual 170, 3) := by decide +kernel
theorem dX5_left_67 : decode cX5_left 67 = .ok (.ifCond .eq 8, 3) := by decide +kernel
theorem dX5_left_70 : decode cX5_left 70 = .ok (.bipush 60, 2) := by decide +kernel
theorem dX5_left_72 : decode cX5_left 72 = .ok (.goto 5, 3) := by decide +kernel
theorem dX5_left_75 : decode cX5_left 75 = .ok (.bipush (-4), 2) := by decide +kernel
theorem dX5_left_77 : decode cX5_left 77 = .ok (.ireturn, 1) := by decide +kernel
theorem dX5_number_0 : decode cX5_number 0 = .ok (.aload_n 0, 1) := by decide +kernel
theorem dX5_number_1 : decode cX5_number 1 = .ok (.iload_n 1, 1) := by decide +kernel
theorem dX5_number_2 : decode cX5_number 2 = .ok (.invokevirtual 97, 3) := by decide +kernel
theorem dX5_number_5 : decode cX5_number 5 = .ok (.ifCond .ne 5, 3) := by decide +kernel
theorem dX5_number_8 : decode cX5_number 8 = .ok (.iconst (-1), 1) := by decide +kernel
theorem dX5_number_9 : decode cX5_number 9 = .ok (.ireturn, 1) := by decide +kernel
theorem dX5_number_10 : decode cX5_number 10 = .ok (.aload_n 0, 1) := by decide +kernel
theorem dX5_number_11 : decode cX5_number 11 = .ok (.getfield 29, 3) := by decide +kernel
theorem dX5_number_14 : decode cX5_number 14 = .ok (.getfield 114, 3) := by decide +kernel
theorem dX5_number_17 : decode cX5_number 17 = .ok (.iload_n 1, 1) := by decide +kernel
theorem dX5_number_18 : decode cX5_number 18 = .ok (.iaload, 1) := by decide +kernel
theorem dX5_number_19 : decode cX5_number 19 = .ok (.iconst 1, 1) := by decide +kernel
theorem dX5_number_20 : decode cX5_number 20 = .ok (.if_icmp .ne 18, 3) := by decide +kernel
theorem dX5_number_23 : decode cX5_number 23 = .ok (.aload_n 0, 1) := by decide +kernel
theorem dX5_number_24 : decode cX5_number 24 = .ok (.getfield 29, 3) := by decide +kernel
theorem dX5_number_27 : decode cX5_number 27 = .ok (.aload_n 0, 1) := by decide +kernel
theorem dX5_number_28 : decode cX5_number 28 = .ok (.getfield 19, 3) := by decide +kernel
theorem dX5_number_31 : decode cX5_number 31 = .ok (.iload_n 1, 1) := by decide +kernel
theorem dX5_number_32 : decode cX5_number 32 = .ok (.invokevirtual 120, 3) := by decide +kernel
theorem dX5_number_35 : decode cX5_number 35 = .ok (.goto 5, 3) := by decide +kernel
theorem dX5_number_38 : decode cX5_number 38 = .ok (.bipush (-2), 2) := by decide +kernel
theorem dX5_number_40 : decode cX5_number 40 = .ok (.ireturn, 1) := by decide +kernel
theorem dX5_again_0 : decode cX5_again 0 = .ok (.aload_n 0, 1) := by decide +kernel
theorem dX5_again_1 : decode cX5_again 1 = .ok (.iload_n 1, 1) := by decide +kernel
theorem dX5_again_2 : decode cX5_again 2 = .ok (.invokevirtual 97, 3) := by decide +kernel
theorem dX5_again_5 : decode cX5_again 5 = .ok (.ifCond .eq 12, 3) := by decide +kernel
theorem dX5_again_8 : decode cX5_again 8 = .ok (.iload_n 2, 1) := by decide +kernel
theorem dX5_again_9 : decode cX5_again 9 = .ok (.iconst 0, 1) := by decide +kernel
theorem dX5_again_10 : decode cX5_again 10 = .ok (.iconst 1, 1) := by decide +kernel
theorem dX5_again_11 : decode cX5_again 11 = .ok (.invokestatic 82, 3) := by decide +kernel
theorem dX5_again_14 : decode cX5_again 14 = .ok (.ifCond .ne 5, 3) := by decide +kernel
theorem dX5_again_17 : decode cX5_again 17 = .ok (.iconst (-1), 1) := by decide +kernel
theorem dX5_again_18 : decode cX5_again 18 = .ok (.ireturn, 1) := by decide +kernel
theorem dX5_again_19 : decode cX5_again 19 = .ok (.aload_n 0, 1) := by decide +kernel
theorem dX5_again_20 : decode cX5_again 20 = .ok (.getfield 29, 3) := by decide +kernel
theorem dX5_again_23 : decode cX5_again 23 = .ok (.getfield 114, 3) := by decide +kernel
theorem dX5_again_26 : decode cX5_again 26 = .ok (.iload_n 1, 1) := by decide +kernel
theorem dX5_again_27 : decode cX5_again 27 = .ok (.iaload, 1) := by decide +kernel
theorem dX5_again_28 : decode cX5_again 28 = .ok (.iconst 1, 1) := by decide +kernel
theorem dX5_again_29 : decode cX5_again 29 = .ok (.if_icmp .eq 6, 3) := by decide +kernel
theorem dX5_again_32 : decode cX5_again 32 = .ok (.bipush (-2), 2) := by decide +kernel
theorem dX5_again_34 : decode cX5_again 34 = .ok (.ireturn, 1) := by decide +kernel
theorem dX5_again_35 : decode cX5_again 35 = .ok (.bipush (-4), 2) := by decide +kernel
theorem dX5_again_37 : decode cX5_again 37 = .ok (.istore_n 3, 1) := by decide +kernel
theorem dX5_again_38 : decode cX5_again 38 = .ok (.bipush (-4), 2) := by decide +kernel
theorem dX5_again_40 : decode cX5_again 40 = .ok (.istore 4, 2) := by decide +kernel
theorem dX5_again_42 : decode cX5_again 42 = .ok (.iconst 0, 1) := by decide +kernel
theorem dX5_again_43 : decode cX5_again 43 = .ok (.istore 5, 2) := by decide +kernel
theorem dX5_again_45 : decode cX5_again 45 = .ok (.iload 5, 2) := by decide +kernel
theorem dX5_again_47 : decode cX5_again 47 = .ok (.bipush 20, 2) := by decide +kernel
theorem dX5_again_49 : decode cX5_again 49 = .ok (.if_icmp .gt 46, 3) := by decide +kernel
theorem dX5_again_52 : decode cX5_again 52 = .ok (.aload_n 0, 1) := by decide +kernel
theorem dX5_again_53 : decode cX5_again 53 = .ok (.iload_n 1, 1) := by decide +kernel
theorem dX5_again_54 : decode cX5_again 54 = .ok (.iload 5, 2) := by decide +kernel
theorem dX5_again_56 : decode cX5_again 56 = .ok (.invokevirtual 176, 3) := by decide +kernel
theorem dX5_again_59 : decode cX5_again 59 = .ok (.istore 6, 2) := by decide +kernel
theorem dX5_again_61 : decode cX5_again 61 = .ok (.iload 6, 2) := by decide +kernel
theorem dX5_again_63 : decode cX5_again 63 = .ok (.bipush (-4), 2) := by decide +kernel
theorem dX5_again_65 : decode cX5_again 65 = .ok (.if_icmp .eq 24, 3) := by decide +kernel
theorem dX5_again_68 : decode cX5_again 68 = .ok (.iload 4, 2) := by decide +kernel
theorem dX5_again_70 : decode cX5_again 70 = .ok (.bipush (-4), 2) := by decide +kernel
theorem dX5_again_72 : decode cX5_again 72 = .ok (.if_icmp .eq 10, 3) := by decide +kernel
theorem dX5_again_75 : decode cX5_again 75 = .ok (.iload 6, 2) := by decide +kernel
theorem dX5_again_77 : decode cX5_again 77 = .ok (.iload 4, 2) := by decide +kernel
theorem dX5_again_79 : decode cX5_again 79 = .ok (.if_icmp .ge 10, 3) := by decide +kernel
theorem dX5_again_82 : decode cX5_again 82 = .ok (.iload 5, 2) := by decide +kernel
theorem dX5_again_84 : decode cX5_again 84 = .ok (.istore_n 3, 1) := by decide +kernel
theorem dX5_again_85 : decode cX5_again 85 = .ok (.iload 6, 2) := by decide +kernel
theorem dX5_again_87 : decode cX5_again 87 = .ok (.istore 4, 2) := by decide +kernel
theorem dX5_again_89 : decode cX5_again 89 = .ok (.iinc 5 1, 3) := by decide +kernel
theorem dX5_again_92 : decode cX5_again 92 = .ok (.goto (-47), 3) := by decide +kernel
theorem dX5_again_95 : decode cX5_again 95 = .ok (.iload_n 2, 1) := by decide +kernel
theorem dX5_again_96 : decode cX5_again 96 = .ok (.ifCond .ne 7, 3) := by decide +kernel
theorem dX5_again_99 : decode cX5_again 99 = .ok (.iload_n 3, 1) := by decide +kernel
theorem dX5_again_100 : decode cX5_again 100 = .ok (.goto 5, 3) := by decide +kernel
theorem dX5_again_103 : decode cX5_again 103 = .ok (.iload 4, 2) := by decide +kernel
theorem dX5_again_105 : decode cX5_again 105 = .ok (.ireturn, 1) := by decide +kernel
theorem dX5_best_0 : decode cX5_best 0 = .ok (.iload_n 1, 1) := by decide +kernel
theorem dX5_best_1 : decode cX5_best 1 = .ok (.iconst 0, 1) := by decide +kernel
theorem dX5_best_2 : decode cX5_best 2 = .ok (.iconst 1, 1) := by decide +kernel
theorem dX5_best_3 : decode cX5_best 3 = .ok (.invokestatic 82, 3) := by decide +kernel
theorem dX5_best_6 : decode cX5_best 6 = .ok (.ifCond .ne 5, 3) := by decide +kernel
theorem dX5_best_9 : decode cX5_best 9 = .ok (.iconst (-1), 1) := by decide +kernel
theorem dX5_best_10 : decode cX5_best 10 = .ok (.ireturn, 1) := by decide +kernel
theorem dX5_best_11 : decode cX5_best 11 = .ok (.iconst 0, 1) := by decide +kernel
theorem dX5_best_12 : decode cX5_best 12 = .ok (.istore_n 2, 1) := by decide +kernel
theorem dX5_best_13 : decode cX5_best 13 = .ok (.aload_n 0, 1) := by decide +kernel
theorem dX5_best_14 : decode cX5_best 14 = .ok (.iconst 0, 1) := by decide +kernel
theorem dX5_best_15 : decode cX5_best 15 = .ok (.invokevirtual 179, 3) := by decide +kernel
theorem dX5_best_18 : decode cX5_best 18 = .ok (.istore_n 3, 1) := by decide +kernel
theorem dX5_best_19 : decode cX5_best 19 = .ok (.iconst 1, 1) := by decide +kernel
theorem dX5_best_20 : decode cX5_best 20 = .ok (.istore 4, 2) := by decide +kernel
theorem dX5_best_22 : decode cX5_best 22 = .ok (.iload 4, 2) := by decide +kernel
theorem dX5_best_24 : decode cX5_best 24 = .ok (.iconst 2, 1) := by decide +kernel
theorem dX5_best_25 : decode cX5_best 25 = .ok (.if_icmp .gt 29, 3) := by decide +kernel
theorem dX5_best_28 : decode cX5_best 28 = .ok (.aload_n 0, 1) := by decide +kernel
theorem dX5_best_29 : decode cX5_best 29 = .ok (.iload 4, 2) := by decide +kernel
theorem dX5_best_31 : decode cX5_best 31 = .ok (.invokevirtual 179, 3) := by decide +kernel
theorem dX5_best_34 : decode cX5_best 34 = .ok (.istore 5, 2) := by decide +kernel
theorem dX5_best_36 : decode cX5_best 36 = .ok (.iload 5, 2) := by decide +kernel
theorem dX5_best_38 : decode cX5_best 38 = .ok (.iload_n 3, 1) := by decide +kernel
theorem dX5_best_39 : decode cX5_best 39 = .ok (.if_icmp .le 9, 3) := by decide +kernel
theorem dX5_best_42 : decode cX5_best 42 = .ok (.iload 4, 2) := by decide +kernel
theorem dX5_best_44 : decode cX5_best 44 = .ok (.istore_n 2, 1) := by decide +kernel
theorem dX5_best_45 : decode cX5_best 45 = .ok (.iload 5, 2) := by decide +kernel
theorem dX5_best_47 : decode cX5_best 47 = .ok (.istore_n 3, 1) := by decide +kernel
theorem dX5_best_48 : decode cX5_best 48 = .ok (.iinc 4 1, 3) := by decide +kernel
theorem dX5_best_51 : decode cX5_best 51 = .ok (.goto (-29), 3) := by decide +kernel
theorem dX5_best_54 : decode cX5_best 54 = .ok (.iload_n 1, 1) := by decide +kernel
theorem dX5_best_55 : decode cX5_best 55 = .ok (.ifCond .ne 7, 3) := by decide +kernel
theorem dX5_best_58 : decode cX5_best 58 = .ok (.iload_n 2, 1) := by decide +kernel
theorem dX5_best_59 : decode cX5_best 59 = .ok (.goto 4, 3) := by decide +kernel
theorem dX5_best_62 : decode cX5_best 62 = .ok (.iload_n 3, 1) := by decide +kernel
theorem dX5_best_63 : decode cX5_best 63 = .ok (.ireturn, 1) := by decide +kernel
theorem dX5_needed_0 : decode cX5_needed 0 = .ok (.iconst 1, 1) := by decide +kernel
theorem dX5_needed_1 : decode cX5_needed 1 = .ok (.istore_n 1, 1) := by decide +kernel
theorem dX5_needed_2 : decode cX5_needed 2 = .ok (.iload_n 1, 1) := by decide +kernel
theorem dX5_needed_3 : decode cX5_needed 3 = .ok (.iconst 4, 1) := by decide +kernel
theorem dX5_needed_4 : decode cX5_needed 4 = .ok (.if_icmp .gt 37, 3) := by decide +kernel
theorem dX5_needed_7 : decode cX5_needed 7 = .ok (.aload_n 0, 1) := by decide +kernel
theorem dX5_needed_8 : decode cX5_needed 8 = .ok (.getfield 33, 3) := by decide +kernel
theorem dX5_needed_11 : decode cX5_needed 11 = .ok (.aload_n 0, 1) := by decide +kernel
theorem dX5_needed_12 : decode cX5_needed 12 = .ok (.getfield 29, 3) := by decide +kernel
theorem dX5_needed_15 : decode cX5_needed 15 = .ok (.invokevirtual 164, 3) := by decide +kernel
theorem dX5_needed_18 : decode cX5_needed 18 = .ok (.aload_n 0, 1) := by decide +kernel
theorem dX5_needed_19 : decode cX5_needed 19 = .ok (.getfield 33, 3) := by decide +kernel
theorem dX5_needed_22 : decode cX5_needed 22 = .ok (.iload_n 1, 1) := by decide +kernel
theorem dX5_needed_23 : decode cX5_needed 23 = .ok (.putfield 151, 3) := by decide +kernel
theorem dX5_needed_26 : decode cX5_needed 26 = .ok (.aload_n 0, 1) := by decide +kernel
theorem dX5_needed_27 : decode cX5_needed 27 = .ok (.invokevirtual 183, 3) := by decide +kernel
theorem dX5_needed_30 : decode cX5_needed 30 = .ok (.ifCond .ne 5, 3) := by decide +kernel
theorem dX5_needed_33 : decode cX5_needed 33 = .ok (.iload_n 1, 1) := by decide +kernel
theorem dX5_needed_34 : decode cX5_needed 34 = .ok (.ireturn, 1) := by decide +kernel
theorem dX5_needed_35 : decode cX5_needed 35 = .ok (.iinc 1 1, 3) := by decide +kernel
theorem dX5_needed_38 : decode cX5_needed 38 = .ok (.goto (-36), 3) := by decide +kernel
theorem dX5_needed_41 : decode cX5_needed 41 = .ok (.bipush (-4), 2) := by decide +kernel
theorem dX5_needed_43 : decode cX5_needed 43 = .ok (.ireturn, 1) := by decide +kernel
theorem dX5_lost_0 : decode cX5_lost 0 = .ok (.aload_n 0, 1) := by decide +kernel
theorem dX5_lost_1 : decode cX5_lost 1 = .ok (.getfield 33, 3) := by decide +kernel
theorem dX5_lost_4 : decode cX5_lost 4 = .ok (.aload_n 0, 1) := by decide +kernel
theorem dX5_lost_5 : decode cX5_lost 5 = .ok (.getfield 29, 3) := by decide +kernel
theorem dX5_lost_8 : decode cX5_lost 8 = .ok (.invokevirtual 164, 3) := by decide +kernel
theorem dX5_lost_11 : decode cX5_lost 11 = .ok (.aload_n 0, 1) := by decide +kernel
theorem dX5_lost_12 : decode cX5_lost 12 = .ok (.invokevirtual 183, 3) := by decide +kernel
theorem dX5_lost_15 : decode cX5_lost 15 = .ok (.ireturn, 1) := by decide +kernel
theorem dX5_helps_0 : decode cX5_helps 0 = .ok (.iload_n 1, 1) := by decide +kernel
theorem dX5_helps_1 : decode cX5_helps 1 = .ok (.iconst 0, 1) := by decide +kernel
theorem dX5_helps_2 : decode cX5_helps 2 = .ok (.iconst 1, 1) := by decide +kernel
theorem dX5_helps_3 : decode cX5_helps 3 = .ok (.invokestatic 82, 3) := by decide +kernel
theorem dX5_helps_6 : decode cX5_helps 6 = .ok (.ifCond .ne 5, 3) := by decide +kernel
theorem dX5_helps_9 : decode cX5_helps 9 = .ok (.iconst (-1), 1) := by decide +kernel
theorem dX5_helps_10 : decode cX5_helps 10 = .ok (.ireturn, 1) := by decide +kernel
theorem dX5_helps_11 : decode cX5_helps 11 = .ok (.bipush (-4), 2) := by decide +kernel
theorem dX5_helps_13 : decode cX5_helps 13 = .ok (.istore_n 2, 1) := by decide +kernel
theorem dX5_helps_14 : decode cX5_helps 14 = .ok (.bipush (-4), 2) := by decide +kernel
theorem dX5_helps_16 : decode cX5_helps 16 = .ok (.istore_n 3, 1) := by decide +kernel
theorem dX5_helps_17 : decode cX5_helps 17 = .ok (.iconst 0, 1) := by decide +kernel
theorem dX5_helps_18 : decode cX5_helps 18 = .ok (.istore 4, 2) := by decide +kernel
theorem dX5_helps_20 : decode cX5_helps 20 = .ok (.iload 4, 2) := by decide +kernel
theorem dX5_helps_22 : decode cX5_helps 22 = .ok (.aload_n 0, 1) := by decide +kernel
theorem dX5_helps_23 : decode cX5_helps 23 = .ok (.getfield 19, 3) := by decide +kernel
theorem dX5_helps_26 : decode cX5_helps 26 = .ok (.getfield 89, 3) := by decide +kernel
theorem dX5_helps_29 : decode cX5_helps 29 = .ok (.if_icmp .ge 65, 3) := by decide +kernel
theorem dX5_helps_32 : decode cX5_helps 32 = .ok (.aload_n 0, 1) := by decide +kernel
theorem dX5_helps_33 : decode cX5_helps 33 = .ok (.getfield 29, 3) := by decide +kernel
theorem dX5_helps_36 : decode cX5_helps 36 = .ok (.iload 4, 2) := by decide +kernel
theorem dX5_helps_38 : decode cX5_helps 38 = .ok (.invokevirtual 139, 3) := by decide +kernel
theorem dX5_helps_41 : decode cX5_helps 41 = .ok (.ifCond .eq 47, 3) := by decide +kernel
theorem dX5_helps_44 : decode cX5_helps 44 = .ok (.aload_n 0, 1) := by decide +kernel
theorem dX5_helps_45 : decode cX5_helps 45 = .ok (.getfield 33, 3) := by decide +kernel
theorem dX5_helps_48 : decode cX5_helps 48 = .ok (.aload_n 0, 1) := by decide +kernel
theorem dX5_helps_49 : decode cX5_helps 49 = .ok (.getfield 29, 3) := by decide +kernel
theorem dX5_helps_52 : decode cX5_helps 52 = .ok (.invokevirtual 164, 3) := by decide +kernel
theorem dX5_helps_55 : decode cX5_helps 55 = .ok (.aload_n 0, 1) := by decide +kernel
theorem dX5_helps_56 : decode cX5_helps 56 = .ok (.getfield 33, 3) := by decide +kernel
theorem dX5_helps_59 : decode cX5_helps 59 = .ok (.iload 4, 2) := by decide +kernel
theorem dX5_helps_61 : decode cX5_helps 61 = .ok (.invokevirtual 142, 3) := by decide +kernel
theorem dX5_helps_64 : decode cX5_helps 64 = .ok (.aload_n 0, 1) := by decide +kernel
theorem dX5_helps_65 : decode cX5_helps 65 = .ok (.invokevirtual 183, 3) := by decide +kernel
theorem dX5_helps_68 : decode cX5_helps 68 = .ok (.istore 5, 2) := by decide +kernel
theorem dX5_helps_70 : decode cX5_helps 70 = .ok (.iload_n 2, 1) := by decide +kernel
theorem dX5_helps_71 : decode cX5_helps 71 = .ok (.bipush (-4), 2) := by decide +kernel
theorem dX5_helps_73 : decode cX5_helps 73 = .ok (.if_icmp .eq 9, 3) := by decide +kernel
theorem dX5_helps_76 : decode cX5_helps 76 = .ok (.iload 5, 2) := by decide +kernel
theorem dX5_helps_78 : decode cX5_helps 78 = .ok (.iload_n 3, 1) := by decide +kernel
theorem dX5_helps_79 : decode cX5_helps 79 = .ok (.if_icmp .ge 9, 3) := by decide +kernel
theorem dX5_helps_82 : decode cX5_helps 82 = .ok (.iload 4, 2) := by decide +kernel
theorem dX5_helps_84 : decode cX5_helps 84 = .ok (.istore_n 2, 1) := by decide +kernel
theorem dX5_helps_85 : decode cX5_helps 85 = .ok (.iload 5, 2) := by decide +kernel
theorem dX5_helps_87 : decode cX5_helps 87 = .ok (.istore_n 3, 1) := by decide +kernel
theorem dX5_helps_88 : decode cX5_helps 88 = .ok (.iinc 4 1, 3) := by decide +kernel
theorem dX5_helps_91 : decode cX5_helps 91 = .ok (.goto (-71), 3) := by decide +kernel
theorem dX5_helps_94 : decode cX5_helps 94 = .ok (.iload_n 1, 1) := by decide +kernel
theorem dX5_helps_95 : decode cX5_helps 95 = .ok (.ifCond .ne 7, 3) := by decide +kernel
theorem dX5_helps_98 : decode cX5_helps 98 = .ok (.iload_n 2, 1) := by decide +kernel
theorem dX5_helps_99 : decode cX5_helps 99 = .ok (.goto 4, 3) := by decide +kernel
theorem dX5_helps_102 : decode cX5_helps 102 = .ok (.iload_n 3, 1) := by decide +kernel
theorem dX5_helps_103 : decode cX5_helps 103 = .ok (.ireturn, 1) := by decide +kernel
theorem dX5_longest_0 : decode cX5_longest 0 = .ok (.iload_n 1, 1) := by decide +kernel
theorem dX5_longest_1 : decode cX5_longest 1 = .ok (.iconst 0, 1) := by decide +kernel
theorem dX5_longest_2 : decode cX5_longest 2 = .ok (.iconst 1, 1) := by decide +kernel
theorem dX5_longest_3 : decode cX5_longest 3 = .ok (.invokestatic 82, 3) := by decide +kernel
theorem dX5_longest_6 : decode cX5_longest 6 = .ok (.ifCond .ne 5, 3) := by decide +kernel
theorem dX5_longest_9 : decode cX5_longest 9 = .ok (.iconst (-1), 1) := by decide +kernel
theorem dX5_longest_10 : decode cX5_longest 10 = .ok (.ireturn, 1) := by decide +kernel
theorem dX5_longest_11 : decode cX5_longest 11 = .ok (.aload_n 0, 1) := by decide +kernel
theorem dX5_longest_12 : decode cX5_longest 12 = .ok (.getfield 33, 3) := by decide +kernel
theorem dX5_longest_15 : decode cX5_longest 15 = .ok (.aload_n 0, 1) := by decide +kernel
theorem dX5_longest_16 : decode cX5_longest 16 = .ok (.getfield 29, 3) := by decide +kernel
theorem dX5_longest_19 : decode cX5_longest 19 = .ok (.invokevirtual 164, 3) := by decide +kernel
theorem dX5_longest_22 : decode cX5_longest 22 = .ok (.aload_n 0, 1) := by decide +kernel
theorem dX5_longest_23 : decode cX5_longest 23 = .ok (.getfield 33, 3) := by decide +kernel
theorem dX5_longest_26 : decode cX5_longest 26 = .ok (.aload_n 0, 1) := by decide +kernel
theorem dX5_longest_27 : decode cX5_longest 27 = .ok (.getfield 19, 3) := by decide +kernel
theorem dX5_longest_30 : decode cX5_longest 30 = .ok (.bipush 60, 2) := by decide +kernel
theorem dX5_longest_32 : decode cX5_longest 32 = .ok (.invokevirtual 135, 3) := by decide +kernel
theorem dX5_longest_35 : decode cX5_longest 35 = .ok (.bipush (-4), 2) := by decide +kernel
theorem dX5_longest_37 : decode cX5_longest 37 = .ok (.istore_n 2, 1) := by decide +kernel
theorem dX5_longest_38 : decode cX5_longest 38 = .ok (.bipush (-4), 2) := by decide +kernel
theorem dX5_longest_40 : decode cX5_longest 40 = .ok (.istore_n 3, 1) := by decide +kernel
theorem dX5_longest_41 : decode cX5_longest 41 = .ok (.iconst 0, 1) := by decide +kernel
theorem dX5_longest_42 : decode cX5_longest 42 = .ok (.istore 4, 2) := by decide +kernel
theorem dX5_longest_44 : decode cX5_longest 44 = .ok (.iload 4, 2) := by decide +kernel
theorem dX5_longest_46 : decode cX5_longest 46 = .ok (.aload_n 0, 1) := by decide +kernel
theorem dX5_longest_47 : decode cX5_longest 47 = .ok (.getfield 19, 3) := by decide +kernel
theorem dX5_longest_50 : decode cX5_longest 50 = .ok (.getfield 89, 3) := by decide +kernel
theorem dX5_longest_53 : decode cX5_longest 53 = .ok (.if_icmp .ge 55, 3) := by decide +kernel
theorem dX5_longest_56 : decode cX5_longest 56 = .ok (.aload_n 0, 1) := by decide +kernel
theorem dX5_longest_57 : decode cX5_longest 57 = .ok (.getfield 29, 3) := by decide +kernel
theorem dX5_longest_60 : decode cX5_longest 60 = .ok (.iload 4, 2) := by decide +kernel
theorem dX5_longest_62 : decode cX5_longest 62 = .ok (.invokevirtual 186, 3) := by decide +kernel
theorem dX5_longest_65 : decode cX5_longest 65 = .ok (.ifCond .eq 37, 3) := by decide +kernel
theorem dX5_longest_68 : decode cX5_longest 68 = .ok (.iload_n 2, 1) := by decide +kernel
theorem dX5_longest_69 : decode cX5_longest 69 = .ok (.bipush (-4), 2) := by decide +kernel
theorem dX5_longest_71 : decode cX5_longest 71 = .ok (.if_icmp .eq 17, 3) := by decide +kernel
theorem dX5_longest_74 : decode cX5_longest 74 = .ok (.aload_n 0, 1) := by decide +kernel
theorem dX5_longest_75 : decode cX5_longest 75 = .ok (.getfield 33, 3) := by decide +kernel
theorem dX5_longest_78 : decode cX5_longest 78 = .ok (.getfield 117, 3) := by decide +kernel
theorem dX5_longest_81 : decode cX5_longest 81 = .ok (.iload 4, 2) := by decide +kernel
theorem dX5_longest_83 : decode cX5_longest 83 = .ok (.iaload, 1) := by decide +kernel
theorem dX5_longest_84 : decode cX5_longest 84 = .ok (.iload_n 3, 1) := by decide +kernel
theorem dX5_longest_85 : decode cX5_longest 85 = .ok (.if_icmp .le 17, 3) := by decide +kernel
theorem dX5_longest_88 : decode cX5_longest 88 = .ok (.iload 4, 2) := by decide +kernel
theorem dX5_longest_90 : decode cX5_longest 90 = .ok (.istore_n 2, 1) := by decide +kernel
theorem dX5_longest_91 : decode cX5_longest 91 = .ok (.aload_n 0, 1) := by decide +kernel
theorem dX5_longest_92 : decode cX5_longest 92 = .ok (.getfield 33, 3) := by decide +kernel
theorem dX5_longest_95 : decode cX5_longest 95 = .ok (.getfield 117, 3) := by decide +kernel
theorem dX5_longest_98 : decode cX5_longest 98 = .ok (.iload 4, 2) := by decide +kernel
theorem dX5_longest_100 : decode cX5_longest 100 = .ok (.iaload, 1) := by decide +kernel
theorem dX5_longest_101 : decode cX5_longest 101 = .ok (.istore_n 3, 1) := by decide +kernel
theorem dX5_longest_102 : decode cX5_longest 102 = .ok (.iinc 4 1, 3) := by decide +kernel
theorem dX5_longest_105 : decode cX5_longest 105 = .ok (.goto (-61), 3) := by decide +kernel
theorem dX5_longest_108 : decode cX5_longest 108 = .ok (.iload_n 1, 1) := by decide +kernel
theorem dX5_longest_109 : decode cX5_longest 109 = .ok (.ifCond .ne 7, 3) := by decide +kernel
theorem dX5_longest_112 : decode cX5_longest 112 = .ok (.iload_n 2, 1) := by decide +kernel
theorem dX5_longest_113 : decode cX5_longest 113 = .ok (.goto 4, 3) := by decide +kernel
theorem dX5_longest_116 : decode cX5_longest 116 = .ok (.iload_n 3, 1) := by decide +kernel
theorem dX5_longest_117 : decode cX5_longest 117 = .ok (.ireturn, 1) := by decide +kernel
theorem dX5_seen_0 : decode cX5_seen 0 = .ok (.aload_n 0, 1) := by decide +kernel
theorem dX5_seen_1 : decode cX5_seen 1 = .ok (.iload_n 1, 1) := by decide +kernel
theorem dX5_seen_2 : decode cX5_seen 2 = .ok (.invokevirtual 97, 3) := by decide +kernel
theorem dX5_seen_5 : decode cX5_seen 5 = .ok (.ifCond .eq 22, 3) := by decide +kernel
theorem dX5_seen_8 : decode cX5_seen 8 = .ok (.iload_n 2, 1) := by decide +kernel
theorem dX5_seen_9 : decode cX5_seen 9 = .ok (.iconst 1, 1) := by decide +kernel
theorem dX5_seen_10 : decode cX5_seen 10 = .ok (.bipush 40, 2) := by decide +kernel
theorem dX5_seen_12 : decode cX5_seen 12 = .ok (.invokestatic 82, 3) := by decide +kernel
theorem dX5_seen_15 : decode cX5_seen 15 = .ok (.ifCond .eq 12, 3) := by decide +kernel
theorem dX5_seen_18 : decode cX5_seen 18 = .ok (.iload_n 3, 1) := by decide +kernel
theorem dX5_seen_19 : decode cX5_seen 19 = .ok (.iconst 0, 1) := by decide +kernel
theorem dX5_seen_20 : decode cX5_seen 20 = .ok (.iconst 1, 1) := by decide +kernel
theorem dX5_seen_21 : decode cX5_seen 21 = .ok (.invokestatic 82, 3) := by decide +kernel
theorem dX5_seen_24 : decode cX5_seen 24 = .ok (.ifCond .ne 5, 3) := by decide +kernel
theorem dX5_seen_27 : decode cX5_seen 27 = .ok (.iconst (-1), 1) := by decide +kernel
theorem dX5_seen_28 : decode cX5_seen 28 = .ok (.ireturn, 1) := by decide +kernel
theorem dX5_seen_29 : decode cX5_seen 29 = .ok (.aload_n 0, 1) := by decide +kernel
theorem dX5_seen_30 : decode cX5_seen 30 = .ok (.getfield 51, 3) := by decide +kernel
theorem dX5_seen_33 : decode cX5_seen 33 = .ok (.getfield 189, 3) := by decide +kernel
theorem dX5_seen_36 : decode cX5_seen 36 = .ok (.bipush 6, 2) := by decide +kernel
theorem dX5_seen_38 : decode cX5_seen 38 = .ok (.if_icmp .ne 6, 3) := by decide +kernel
theorem dX5_seen_41 : decode cX5_seen 41 = .ok (.bipush (-3), 2) := by decide +kernel
theorem dX5_seen_43 : decode cX5_seen 43 = .ok (.ireturn, 1) := by decide +kernel
theorem dX5_seen_44 : decode cX5_seen 44 = .ok (.aload_n 0, 1) := by decide +kernel
theorem dX5_seen_45 : decode cX5_seen 45 = .ok (.getfield 51, 3) := by decide +kernel
theorem dX5_seen_48 : decode cX5_seen 48 = .ok (.iload_n 1, 1) := by decide +kernel
theorem dX5_seen_49 : decode cX5_seen 49 = .ok (.iload_n 2, 1) := by decide +kernel
theorem dX5_seen_50 : decode cX5_seen 50 = .ok (.iload_n 3, 1) := by decide +kernel
theorem dX5_seen_51 : decode cX5_seen 51 = .ok (.iconst 1, 1) := by decide +kernel
theorem dX5_seen_52 : decode cX5_seen 52 = .ok (.if_icmp .ne 7, 3) := by decide +kernel
theorem dX5_seen_55 : decode cX5_seen 55 = .ok (.iconst 1, 1) := by decide +kernel
theorem dX5_seen_56 : decode cX5_seen 56 = .ok (.goto 4, 3) := by decide +kernel
theorem dX5_seen_59 : decode cX5_seen 59 = .ok (.iconst 0, 1) := by decide +kernel
theorem dX5_seen_60 : decode cX5_seen 60 = .ok (.invokevirtual 190, 3) := by decide +kernel
theorem dX5_seen_63 : decode cX5_seen 63 = .ok (.aload_n 0, 1) := by decide +kernel
theorem dX5_seen_64 : decode cX5_seen 64 = .ok (.getfield 51, 3) := by decide +kernel
theorem dX5_seen_67 : decode cX5_seen 67 = .ok (.getfield 189, 3) := by decide +kernel
theorem dX5_seen_70 : decode cX5_seen 70 = .ok (.ireturn, 1) := by decide +kernel
theorem dX5_forget_0 : decode cX5_forget 0 = .ok (.aload_n 0, 1) := by decide +kernel
theorem dX5_forget_1 : decode cX5_forget 1 = .ok (.getfield 51, 3) := by decide +kernel
theorem dX5_forget_4 : decode cX5_forget 4 = .ok (.getfield 189, 3) := by decide +kernel
theorem dX5_forget_7 : decode cX5_forget 7 = .ok (.istore_n 1, 1) := by decide +kernel
theorem dX5_forget_8 : decode cX5_forget 8 = .ok (.aload_n 0, 1) := by decide +kernel
theorem dX5_forget_9 : decode cX5_forget 9 = .ok (.getfield 51, 3) := by decide +kernel
theorem dX5_forget_12 : decode cX5_forget 12 = .ok (.invokevirtual 95, 3) := by decide +kernel
theorem dX5_forget_15 : decode cX5_forget 15 = .ok (.iload_n 1, 1) := by decide +kernel
theorem dX5_forget_16 : decode cX5_forget 16 = .ok (.ireturn, 1) := by decide +kernel
theorem dX5_bears_0 : decode cX5_bears 0 = .ok (.aload_n 0, 1) := by decide +kernel
theorem dX5_bears_1 : decode cX5_bears 1 = .ok (.iload_n 1, 1) := by decide +kernel
theorem dX5_bears_2 : decode cX5_bears 2 = .ok (.invokevirtual 97, 3) := by decide +kernel
theorem dX5_bears_5 : decode cX5_bears 5 = .ok (.ifCond .eq 12, 3) := by decide +kernel
theorem dX5_bears_8 : decode cX5_bears 8 = .ok (.iload_n 2, 1) := by decide +kernel
theorem dX5_bears_9 : decode cX5_bears 9 = .ok (.iconst 0, 1) := by decide +kernel
theorem dX5_bears_10 : decode cX5_bears 10 = .ok (.iconst 1, 1) := by decide +kernel
theorem dX5_bears_11 : decode cX5_bears 11 = .ok (.invokestatic 82, 3) := by decide +kernel
theorem dX5_bears_14 : decode cX5_bears 14 = .ok (.ifCond .ne 5, 3) := by decide +kernel
theorem dX5_bears_17 : decode cX5_bears 17 = .ok (.iconst (-1), 1) := by decide +kernel
theorem dX5_bears_18 : decode cX5_bears 18 = .ok (.ireturn, 1) := by decide +kernel
theorem dX5_bears_19 : decode cX5_bears 19 = .ok (.aload_n 0, 1) := by decide +kernel
theorem dX5_bears_20 : decode cX5_bears 20 = .ok (.getfield 23, 3) := by decide +kernel
theorem dX5_bears_23 : decode cX5_bears 23 = .ok (.aload_n 0, 1) := by decide +kernel
theorem dX5_bears_24 : decode cX5_bears 24 = .ok (.getfield 19, 3) := by decide +kernel
theorem dX5_bears_27 : decode cX5_bears 27 = .ok (.invokevirtual 92, 3) := by decide +kernel
theorem dX5_bears_30 : decode cX5_bears 30 = .ok (.iconst 0, 1) := by decide +kernel
theorem dX5_bears_31 : decode cX5_bears 31 = .ok (.istore_n 3, 1) := by decide +kernel
theorem dX5_bears_32 : decode cX5_bears 32 = .ok (.bipush (-4), 2) := by decide +kernel
theorem dX5_bears_34 : decode cX5_bears 34 = .ok (.istore 4, 2) := by decide +kernel
theorem dX5_bears_36 : decode cX5_bears 36 = .ok (.iconst 1, 1) := by decide +kernel
theorem dX5_bears_37 : decode cX5_bears 37 = .ok (.istore 5, 2) := by decide +kernel
theorem dX5_bears_39 : decode cX5_bears 39 = .ok (.iload 5, 2) := by decide +kernel
theorem dX5_bears_41 : decode cX5_bears 41 = .ok (.bipush 30, 2) := by decide +kernel
theorem dX5_bears_43 : decode cX5_bears 43 = .ok (.if_icmp .gt 47, 3) := by decide +kernel
theorem dX5_bears_46 : decode cX5_bears 46 = .ok (.aload_n 0, 1) := by decide +kernel
theorem dX5_bears_47 : decode cX5_bears 47 = .ok (.getfield 23, 3) := by decide +kernel
theorem dX5_bears_50 : decode cX5_bears 50 = .ok (.getfield 108, 3) := by decide +kernel
theorem dX5_bears_53 : decode cX5_bears 53 = .ok (.iload_n 1, 1) := by decide +kernel
theorem dX5_bears_54 : decode cX5_bears 54 = .ok (.iload 5, 2) := by decide +kernel
theorem dX5_bears_56 : decode cX5_bears 56 = .ok (.iastore, 1) := by decide +kernel
theorem dX5_bears_57 : decode cX5_bears 57 = .ok (.aload_n 0, 1) := by decide +kernel
theorem dX5_bears_58 : decode cX5_bears 58 = .ok (.iload_n 1, 1) := by decide +kernel
theorem dX5_bears_59 : decode cX5_bears 59 = .ok (.invokevirtual 194, 3) := by decide +kernel
theorem dX5_bears_62 : decode cX5_bears 62 = .ok (.ifCond .eq 22, 3) := by decide +kernel
theorem dX5_bears_65 : decode cX5_bears 65 = .ok (.iinc 3 1, 3) := by decide +kernel
theorem dX5_bears_68 : decode cX5_bears 68 = .ok (.iload 4, 2) := by decide +kernel
theorem dX5_bears_70 : decode cX5_bears 70 = .ok (.bipush (-4), 2) := by decide +kernel
theorem dX5_bears_72 : decode cX5_bears 72 = .ok (.if_icmp .ne 8, 3) := by decide +kernel
theorem dX5_bears_75 : decode cX5_bears 75 = .ok (.iload 5, 2) := by decide +kernel
theorem dX5_bears_77 : decode cX5_bears 77 = .ok (.goto 5, 3) := by decide +kernel
theorem dX5_bears_80 : decode cX5_bears 80 = .ok (.iload 4, 2) := by decide +kernel
theorem dX5_bears_82 : decode cX5_bears 82 = .ok (.istore 4, 2) := by decide +kernel
theorem dX5_bears_84 : decode cX5_bears 84 = .ok (.iinc 5 1, 3) := by decide +kernel
theorem dX5_bears_87 : decode cX5_bears 87 = .ok (.goto (-48), 3) := by decide +kernel
theorem dX5_bears_90 : decode cX5_bears 90 = .ok (.iload_n 2, 1) := by decide +kernel
theorem dX5_bears_91 : decode cX5_bears 91 = .ok (.ifCond .ne 7, 3) := by decide +kernel
theorem dX5_bears_94 : decode cX5_bears 94 = .ok (.iload_n 3, 1) := by decide +kernel
theorem dX5_bears_95 : decode cX5_bears 95 = .ok (.goto 5, 3) := by decide +kernel
theorem dX5_bears_98 : decode cX5_bears 98 = .ok (.iload 4, 2) := by decide +kernel
theorem dX5_bears_100 : decode cX5_bears 100 = .ok (.ireturn, 1) := by decide +kernel
theorem dX5_kinds_0 : decode cX5_kinds 0 = .ok (.aload_n 0, 1) := by decide +kernel
theorem dX5_kinds_1 : decode cX5_kinds 1 = .ok (.iload_n 1, 1) := by decide +kernel
theorem dX5_kinds_2 : decode cX5_kinds 2 = .ok (.invokevirtual 97, 3) := by decide +kernel
theorem dX5_kinds_5 : decode cX5_kinds 5 = .ok (.ifCond .ne 5, 3) := by decide +kernel
theorem dX5_kinds_8 : decode cX5_kinds 8 = .ok (.iconst (-1), 1) := by decide +kernel
theorem dX5_kinds_9 : decode cX5_kinds 9 = .ok (.ireturn, 1) := by decide +kernel
theorem dX5_kinds_10 : decode cX5_kinds 10 = .ok (.aload_n 0, 1) := by decide +kernel
theorem dX5_kinds_11 : decode cX5_kinds 11 = .ok (.getfield 23, 3) := by decide +kernel
theorem dX5_kinds_14 : decode cX5_kinds 14 = .ok (.aload_n 0, 1) := by decide +kernel
theorem dX5_kinds_15 : decode cX5_kinds 15 = .ok (.getfield 19, 3) := by decide +kernel
theorem dX5_kinds_18 : decode cX5_kinds 18 = .ok (.invokevirtual 92, 3) := by decide +kernel
theorem dX5_kinds_21 : decode cX5_kinds 21 = .ok (.iconst 0, 1) := by decide +kernel
theorem dX5_kinds_22 : decode cX5_kinds 22 = .ok (.istore_n 2, 1) := by decide +kernel
theorem dX5_kinds_23 : decode cX5_kinds 23 = .ok (.iconst 0, 1) := by decide +kernel
theorem dX5_kinds_24 : decode cX5_kinds 24 = .ok (.istore_n 3, 1) := by decide +kernel
theorem dX5_kinds_25 : decode cX5_kinds 25 = .ok (.iload_n 3, 1) := by decide +kernel
theorem dX5_kinds_26 : decode cX5_kinds 26 = .ok (.iconst 3, 1) := by decide +kernel
theorem dX5_kinds_27 : decode cX5_kinds 27 = .ok (.if_icmp .gt 33, 3) := by decide +kernel
theorem dX5_kinds_30 : decode cX5_kinds 30 = .ok (.aload_n 0, 1) := by decide +kernel
theorem dX5_kinds_31 : decode cX5_kinds 31 = .ok (.getfield 23, 3) := by decide +kernel
theorem dX5_kinds_34 : decode cX5_kinds 34 = .ok (.getfield 101, 3) := by decide +kernel
theorem dX5_kinds_37 : decode cX5_kinds 37 = .ok (.iload_n 1, 1) := by decide +kernel
theorem dX5_kinds_38 : decode cX5_kinds 38 = .ok (.iload_n 3, 1) := by decide +kernel
theorem dX5_kinds_39 : decode cX5_kinds 39 = .ok (.iastore, 1) := by decide +kernel
theorem dX5_kinds_40 : decode cX5_kinds 40 = .ok (.aload_n 0, 1) := by decide +kernel
theorem dX5_kinds_41 : decode cX5_kinds 41 = .ok (.iload_n 1, 1) := by decide +kernel
theorem dX5_kinds_42 : decode cX5_kinds 42 = .ok (.invokevirtual 194, 3) := by decide +kernel
theorem dX5_kinds_45 : decode cX5_kinds 45 = .ok (.ifCond .eq 9, 3) := by decide +kernel
theorem dX5_kinds_48 : decode cX5_kinds 48 = .ok (.iload_n 2, 1) := by decide +kernel
theorem dX5_kinds_49 : decode cX5_kinds 49 = .ok (.iconst 1, 1) := by decide +kernel
theorem dX5_kinds_50 : decode cX5_kinds 50 = .ok (.iload_n 3, 1) := by decide +kernel
theorem dX5_kinds_51 : decode cX5_kinds 51 = .ok (.ishl, 1) := by decide +kernel
theorem dX5_kinds_52 : decode cX5_kinds 52 = .ok (.ior, 1) := by decide +kernel
theorem dX5_kinds_53 : decode cX5_kinds 53 = .ok (.istore_n 2, 1) := by decide +kernel
theorem dX5_kinds_54 : decode cX5_kinds 54 = .ok (.iinc 3 1, 3) := by decide +kernel
theorem dX5_kinds_57 : decode cX5_kinds 57 = .ok (.goto (-32), 3) := by decide +kernel
theorem dX5_kinds_60 : decode cX5_kinds 60 = .ok (.iload_n 2, 1) := by decide +kernel
theorem dX5_kinds_61 : decode cX5_kinds 61 = .ok (.ireturn, 1) := by decide +kernel
theorem dX5_likely_0 : decode cX5_likely 0 = .ok (.aload_n 0, 1) := by decide +kernel
theorem dX5_likely_1 : decode cX5_likely 1 = .ok (.iload_n 1, 1) := by decide +kernel
theorem dX5_likely_2 : decode cX5_likely 2 = .ok (.invokevirtual 97, 3) := by decide +kernel
theorem dX5_likely_5 : decode cX5_likely 5 = .ok (.ifCond .eq 22, 3) := by decide +kernel
theorem dX5_likely_8 : decode cX5_likely 8 = .ok (.iload_n 2, 1) := by decide +kernel
theorem dX5_likely_9 : decode cX5_likely 9 = .ok (.iconst 0, 1) := by decide +kernel
theorem dX5_likely_10 : decode cX5_likely 10 = .ok (.bipush 10, 2) := by decide +kernel
theorem dX5_likely_12 : decode cX5_likely 12 = .ok (.invokestatic 82, 3) := by decide +kernel
theorem dX5_likely_15 : decode cX5_likely 15 = .ok (.ifCond .eq 12, 3) := by decide +kernel
theorem dX5_likely_18 : decode cX5_likely 18 = .ok (.iload_n 3, 1) := by decide +kernel
theorem dX5_likely_19 : decode cX5_likely 19 = .ok (.iconst 0, 1) := by decide +kernel
theorem dX5_likely_20 : decode cX5_likely 20 = .ok (.iconst 1, 1) := by decide +kernel
theorem dX5_likely_21 : decode cX5_likely 21 = .ok (.invokestatic 82, 3) := by decide +kernel
theorem dX5_likely_24 : decode cX5_likely 24 = .ok (.ifCond .ne 5, 3) := by decide +kernel
theorem dX5_likely_27 : decode cX5_likely 27 = .ok (.iconst (-1), 1) := by decide +kernel
theorem dX5_likely_28 : decode cX5_likely 28 = .ok (.ireturn, 1) := by decide +kernel
theorem dX5_likely_29 : decode cX5_likely 29 = .ok (.aload_n 0, 1) := by decide +kernel
theorem dX5_likely_30 : decode cX5_likely 30 = .ok (.iload_n 1, 1) := by decide +kernel
theorem dX5_likely_31 : decode cX5_likely 31 = .ok (.invokevirtual 197, 3) := by decide +kernel
theorem dX5_likely_34 : decode cX5_likely 34 = .ok (.istore 4, 2) := by decide +kernel
theorem dX5_likely_36 : decode cX5_likely 36 = .ok (.iconst 0, 1) := by decide +kernel
theorem dX5_likely_37 : decode cX5_likely 37 = .ok (.istore 5, 2) := by decide +kernel
theorem dX5_likely_39 : decode cX5_likely 39 = .ok (.iconst 0, 1) := by decide +kernel
theorem dX5_likely_40 : decode cX5_likely 40 = .ok (.istore 6, 2) := by decide +kernel
theorem dX5_likely_42 : decode cX5_likely 42 = .ok (.iload 6, 2) := by decide +kernel
theorem dX5_likely_44 : decode cX5_likely 44 = .ok (.iconst 1, 1) := by decide +kernel
theorem dX5_likely_45 : decode cX5_likely 45 = .ok (.aload_n 0, 1) := by decide +kernel
theorem dX5_likely_46 : decode cX5_likely 46 = .ok (.getfield 19, 3) := by decide +kernel
theorem dX5_likely_49 : decode cX5_likely 49 = .ok (.getfield 89, 3) := by decide +kernel
theorem dX5_likely_52 : decode cX5_likely 52 = .ok (.ishl, 1) := by decide +kernel
theorem dX5_likely_53 : decode cX5_likely 53 = .ok (.if_icmp .ge 34, 3) := by decide +kernel
theorem dX5_likely_56 : decode cX5_likely 56 = .ok (.iload 6, 2) := by decide +kernel
theorem dX5_likely_58 : decode cX5_likely 58 = .ok (.iload 4, 2) := by decide +kernel
theorem dX5_likely_60 : decode cX5_likely 60 = .ok (.iconst (-1), 1) := by decide +kernel
theorem dX5_likely_61 : decode cX5_likely 61 = .ok (.ixor, 1) := by decide +kernel
theorem dX5_likely_62 : decode cX5_likely 62 = .ok (.iand, 1) := by decide +kernel
theorem dX5_likely_63 : decode cX5_likely 63 = .ok (.ifCond .ne 18, 3) := by decide +kernel
theorem dX5_likely_66 : decode cX5_likely 66 = .ok (.iload 5, 2) := by decide +kernel
theorem dX5_likely_68 : decode cX5_likely 68 = .ok (.aload_n 0, 1) := by decide +kernel
theorem dX5_likely_69 : decode cX5_likely 69 = .ok (.iload_n 1, 1) := by decide +kernel
theorem dX5_likely_70 : decode cX5_likely 70 = .ok (.iload_n 2, 1) := by decide +kernel
theorem dX5_likely_71 : decode cX5_likely 71 = .ok (.iload 6, 2) := by decide +kernel
theorem dX5_likely_73 : decode cX5_likely 73 = .ok (.iload 4, 2) := by decide +kernel
theorem dX5_likely_75 : decode cX5_likely 75 = .ok (.invokevirtual 200, 3) := by decide +kernel
theorem dX5_likely_78 : decode cX5_likely 78 = .ok (.iadd, 1) := by decide +kernel
theorem dX5_likely_79 : decode cX5_likely 79 = .ok (.istore 5, 2) := by decide +kernel
theorem dX5_likely_81 : decode cX5_likely 81 = .ok (.iinc 6 1, 3) := by decide +kernel
theorem dX5_likely_84 : decode cX5_likely 84 = .ok (.goto (-42), 3) := by decide +kernel
theorem dX5_likely_87 : decode cX5_likely 87 = .ok (.bipush 10, 2) := by decide +kernel
theorem dX5_likely_89 : decode cX5_likely 89 = .ok (.iload 4, 2) := by decide +kernel
theorem dX5_likely_91 : decode cX5_likely 91 = .ok (.invokestatic 204, 3) := by decide +kernel
theorem dX5_likely_94 : decode cX5_likely 94 = .ok (.invokestatic 209, 3) := by decide +kernel
theorem dX5_likely_97 : decode cX5_likely 97 = .ok (.istore 6, 2) := by decide +kernel
theorem dX5_likely_99 : decode cX5_likely 99 = .ok (.iconst 1, 1) := by decide +kernel
theorem dX5_likely_100 : decode cX5_likely 100 = .ok (.iload 6, 2) := by decide +kernel
theorem dX5_likely_102 : decode cX5_likely 102 = .ok (.iload 5, 2) := by decide +kernel
theorem dX5_likely_104 : decode cX5_likely 104 = .ok (.invokestatic 212, 3) := by decide +kernel
theorem dX5_likely_107 : decode cX5_likely 107 = .ok (.invokestatic 215, 3) := by decide +kernel
theorem dX5_likely_110 : decode cX5_likely 110 = .ok (.istore 7, 2) := by decide +kernel
theorem dX5_likely_112 : decode cX5_likely 112 = .ok (.iload_n 3, 1) := by decide +kernel
theorem dX5_likely_113 : decode cX5_likely 113 = .ok (.ifCond .ne 11, 3) := by decide +kernel
theorem dX5_likely_116 : decode cX5_likely 116 = .ok (.iload 5, 2) := by decide +kernel
theorem dX5_likely_118 : decode cX5_likely 118 = .ok (.iload 7, 2) := by decide +kernel
theorem dX5_likely_120 : decode cX5_likely 120 = .ok (.idiv, 1) := by decide +kernel
theorem dX5_likely_121 : decode cX5_likely 121 = .ok (.goto 8, 3) := by decide +kernel
theorem dX5_likely_124 : decode cX5_likely 124 = .ok (.iload 6, 2) := by decide +kernel
theorem dX5_likely_126 : decode cX5_likely 126 = .ok (.iload 7, 2) := by decide +kernel
theorem dX5_likely_128 : decode cX5_likely 128 = .ok (.idiv, 1) := by decide +kernel
theorem dX5_likely_129 : decode cX5_likely 129 = .ok (.ireturn, 1) := by decide +kernel
theorem dX5_day_0 : decode cX5_day 0 = .ok (.iload_n 1, 1) := by decide +kernel
theorem dX5_day_1 : decode cX5_day 1 = .ok (.iconst 0, 1) := by decide +kernel
theorem dX5_day_2 : decode cX5_day 2 = .ok (.sipush 9999, 3) := by decide +kernel
theorem dX5_day_5 : decode cX5_day 5 = .ok (.invokestatic 82, 3) := by decide +kernel
theorem dX5_day_8 : decode cX5_day 8 = .ok (.ifCond .eq 22, 3) := by decide +kernel
theorem dX5_day_11 : decode cX5_day 11 = .ok (.iload_n 2, 1) := by decide +kernel
theorem dX5_day_12 : decode cX5_day 12 = .ok (.iconst 1, 1) := by decide +kernel
theorem dX5_day_13 : decode cX5_day 13 = .ok (.bipush 60, 2) := by decide +kernel
theorem dX5_day_15 : decode cX5_day 15 = .ok (.invokestatic 82, 3) := by decide +kernel
theorem dX5_day_18 : decode cX5_day 18 = .ok (.ifCond .eq 12, 3) := by decide +kernel
theorem dX5_day_21 : decode cX5_day 21 = .ok (.iload_n 3, 1) := by decide +kernel
theorem dX5_day_22 : decode cX5_day 22 = .ok (.iconst 0, 1) := by decide +kernel
theorem dX5_day_23 : decode cX5_day 23 = .ok (.iconst 2, 1) := by decide +kernel
theorem dX5_day_24 : decode cX5_day 24 = .ok (.invokestatic 82, 3) := by decide +kernel
theorem dX5_day_27 : decode cX5_day 27 = .ok (.ifCond .ne 5, 3) := by decide +kernel
theorem dX5_day_30 : decode cX5_day 30 = .ok (.iconst (-1), 1) := by decide +kernel
theorem dX5_day_31 : decode cX5_day 31 = .ok (.ireturn, 1) := by decide +kernel
theorem dX5_day_32 : decode cX5_day 32 = .ok (.aload_n 0, 1) := by decide +kernel
theorem dX5_day_33 : decode cX5_day 33 = .ok (.getfield 33, 3) := by decide +kernel
theorem dX5_day_36 : decode cX5_day 36 = .ok (.aload_n 0, 1) := by decide +kernel
theorem dX5_day_37 : decode cX5_day 37 = .ok (.getfield 29, 3) := by decide +kernel
theorem dX5_day_40 : decode cX5_day 40 = .ok (.invokevirtual 164, 3) := by decide +kernel
theorem dX5_day_43 : decode cX5_day 43 = .ok (.iconst 0, 1) := by decide +kernel
theorem dX5_day_44 : decode cX5_day 44 = .ok (.istore 4, 2) := by decide +kernel
theorem dX5_day_46 : decode cX5_day 46 = .ok (.iload 4, 2) := by decide +kernel
theorem dX5_day_48 : decode cX5_day 48 = .ok (.iload_n 2, 1) := by decide +kernel
theorem dX5_day_49 : decode cX5_day 49 = .ok (.if_icmp .ge 30, 3) := by decide +kernel
theorem dX5_day_52 : decode cX5_day 52 = .ok (.aload_n 0, 1) := by decide +kernel
theorem dX5_day_53 : decode cX5_day 53 = .ok (.iload_n 1, 1) := by decide +kernel
theorem dX5_day_54 : decode cX5_day 54 = .ok (.iload 4, 2) := by decide +kernel
theorem dX5_day_56 : decode cX5_day 56 = .ok (.invokestatic 220, 3) := by decide +kernel
theorem dX5_day_59 : decode cX5_day 59 = .ok (.invokevirtual 223, 3) := by decide +kernel
theorem dX5_day_62 : decode cX5_day 62 = .ok (.aload_n 0, 1) := by decide +kernel
theorem dX5_day_63 : decode cX5_day 63 = .ok (.getfield 33, 3) := by decide +kernel
theorem dX5_day_66 : decode cX5_day 66 = .ok (.aload_n 0, 1) := by decide +kernel
theorem dX5_day_67 : decode cX5_day 67 = .ok (.getfield 19, 3) := by decide +kernel
theorem dX5_day_70 : decode cX5_day 70 = .ok (.invokevirtual 173, 3) := by decide +kernel
theorem dX5_day_73 : decode cX5_day 73 = .ok (.iinc 4 1, 3) := by decide +kernel
theorem dX5_day_76 : decode cX5_day 76 = .ok (.goto (-30), 3) := by decide +kernel
theorem dX5_day_79 : decode cX5_day 79 = .ok (.iload_n 3, 1) := by decide +kernel
theorem dX5_day_80 : decode cX5_day 80 = .ok (.lookupswitch 54 #[(0, 28), (1, 41)], 28) := by decide +kernel
theorem dX5_day_108 : decode cX5_day 108 = .ok (.aload_n 0, 1) := by decide +kernel
theorem dX5_day_109 : decode cX5_day 109 = .ok (.getfield 33, 3) := by decide +kernel
theorem dX5_day_112 : decode cX5_day 112 = .ok (.aload_n 0, 1) := by decide +kernel
theorem dX5_day_113 : decode cX5_day 113 = .ok (.getfield 19, 3) := by decide +kernel
theorem dX5_day_116 : decode cX5_day 116 = .ok (.iconst 3, 1) := by decide +kernel
theorem dX5_day_117 : decode cX5_day 117 = .ok (.invokevirtual 226, 3) := by decide +kernel
theorem dX5_day_120 : decode cX5_day 120 = .ok (.ireturn, 1) := by decide +kernel
theorem dX5_day_121 : decode cX5_day 121 = .ok (.aload_n 0, 1) := by decide +kernel
theorem dX5_day_122 : decode cX5_day 122 = .ok (.getfield 33, 3) := by decide +kernel
theorem dX5_day_125 : decode cX5_day 125 = .ok (.aload_n 0, 1) := by decide +kernel
theorem dX5_day_126 : decode cX5_day 126 = .ok (.getfield 19, 3) := by decide +kernel
theorem dX5_day_129 : decode cX5_day 129 = .ok (.iconst 4, 1) := by decide +kernel
theorem dX5_day_130 : decode cX5_day 130 = .ok (.invokevirtual 226, 3) := by decide +kernel
theorem dX5_day_133 : decode cX5_day 133 = .ok (.ireturn, 1) := by decide +kernel
theorem dX5_day_134 : decode cX5_day 134 = .ok (.aload_n 0, 1) := by decide +kernel
theorem dX5_day_135 : decode cX5_day 135 = .ok (.getfield 33, 3) := by decide +kernel
theorem dX5_day_138 : decode cX5_day 138 = .ok (.aload_n 0, 1) := by decide +kernel
theorem dX5_day_139 : decode cX5_day 139 = .ok (.getfield 19, 3) := by decide +kernel
theorem dX5_day_142 : decode cX5_day 142 = .ok (.invokevirtual 229, 3) := by decide +kernel
theorem dX5_day_145 : decode cX5_day 145 = .ok (.ireturn, 1) := by decide +kernel
theorem dX5_keep_0 : decode cX5_keep 0 = .ok (.aload_n 0, 1) := by decide +kernel
theorem dX5_keep_1 : decode cX5_keep 1 = .ok (.getfield 45, 3) := by decide +kernel
theorem dX5_keep_4 : decode cX5_keep 4 = .ok (.getfield 161, 3) := by decide +kernel
theorem dX5_keep_7 : decode cX5_keep 7 = .ok (.iconst 2, 1) := by decide +kernel
theorem dX5_keep_8 : decode cX5_keep 8 = .ok (.if_icmp .ne 6, 3) := by decide +kernel
theorem dX5_keep_11 : decode cX5_keep 11 = .ok (.bipush (-3), 2) := by decide +kernel
theorem dX5_keep_13 : decode cX5_keep 13 = .ok (.ireturn, 1) := by decide +kernel
theorem dX5_keep_14 : decode cX5_keep 14 = .ok (.aload_n 0, 1) := by decide +kernel
theorem dX5_keep_15 : decode cX5_keep 15 = .ok (.getfield 45, 3) := by decide +kernel
theorem dX5_keep_18 : decode cX5_keep 18 = .ok (.aload_n 0, 1) := by decide +kernel
theorem dX5_keep_19 : decode cX5_keep 19 = .ok (.getfield 29, 3) := by decide +kernel
theorem dX5_keep_22 : decode cX5_keep 22 = .ok (.invokevirtual 131, 3) := by decide +kernel
theorem dX5_keep_25 : decode cX5_keep 25 = .ok (.aload_n 0, 1) := by decide +kernel
theorem dX5_keep_26 : decode cX5_keep 26 = .ok (.getfield 45, 3) := by decide +kernel
theorem dX5_keep_29 : decode cX5_keep 29 = .ok (.getfield 161, 3) := by decide +kernel
theorem dX5_keep_32 : decode cX5_keep 32 = .ok (.ireturn, 1) := by decide +kernel
theorem dX5_back_0 : decode cX5_back 0 = .ok (.aload_n 0, 1) := by decide +kernel
theorem dX5_back_1 : decode cX5_back 1 = .ok (.getfield 45, 3) := by decide +kernel
theorem dX5_back_4 : decode cX5_back 4 = .ok (.aload_n 0, 1) := by decide +kernel
theorem dX5_back_5 : decode cX5_back 5 = .ok (.getfield 29, 3) := by decide +kernel
theorem dX5_back_8 : decode cX5_back 8 = .ok (.invokevirtual 157, 3) := by decide +kernel
theorem dX5_back_11 : decode cX5_back 11 = .ok (.ifCond .ne 6, 3) := by decide +kernel
theorem dX5_back_14 : decode cX5_back 14 = .ok (.bipush (-2), 2) := by decide +kernel
theorem dX5_back_16 : decode cX5_back 16 = .ok (.ireturn, 1) := by decide +kernel
theorem dX5_back_17 : decode cX5_back 17 = .ok (.aload_n 0, 1) := by decide +kernel
theorem dX5_back_18 : decode cX5_back 18 = .ok (.getfield 41, 3) := by decide +kernel
theorem dX5_back_21 : decode cX5_back 21 = .ok (.invokevirtual 96, 3) := by decide +kernel
theorem dX5_back_24 : decode cX5_back 24 = .ok (.aload_n 0, 1) := by decide +kernel
theorem dX5_back_25 : decode cX5_back 25 = .ok (.getfield 45, 3) := by decide +kernel
theorem dX5_back_28 : decode cX5_back 28 = .ok (.getfield 161, 3) := by decide +kernel
theorem dX5_back_31 : decode cX5_back 31 = .ok (.ireturn, 1) := by decide +kernel
theorem dX5_count_0 : decode cX5_count 0 = .ok (.iload_n 1, 1) := by decide +kernel
theorem dX5_count_1 : decode cX5_count 1 = .ok (.tableswitch 191 0 12 #[67, 75, 83, 96, 109, 122, 135, 143, 151, 159, 167, 175, 183], 67) := by decide +kernel
theorem dX5_count_68 : decode cX5_count 68 = .ok (.aload_n 0, 1) := by decide +kernel
theorem dX5_count_69 : decode cX5_count 69 = .ok (.getfield 19, 3) := by decide +kernel
theorem dX5_count_72 : decode cX5_count 72 = .ok (.getfield 89, 3) := by decide +kernel
theorem dX5_count_75 : decode cX5_count 75 = .ok (.ireturn, 1) := by decide +kernel
theorem dX5_count_76 : decode cX5_count 76 = .ok (.aload_n 0, 1) := by decide +kernel
theorem dX5_count_77 : decode cX5_count 77 = .ok (.getfield 29, 3) := by decide +kernel
theorem dX5_count_80 : decode cX5_count 80 = .ok (.getfield 128, 3) := by decide +kernel
theorem dX5_count_83 : decode cX5_count 83 = .ok (.ireturn, 1) := by decide +kernel
theorem dX5_count_84 : decode cX5_count 84 = .ok (.aload_n 0, 1) := by decide +kernel
theorem dX5_count_85 : decode cX5_count 85 = .ok (.getfield 29, 3) := by decide +kernel
theorem dX5_count_88 : decode cX5_count 88 = .ok (.aload_n 0, 1) := by decide +kernel
theorem dX5_count_89 : decode cX5_count 89 = .ok (.getfield 19, 3) := by decide +kernel
theorem dX5_count_92 : decode cX5_count 92 = .ok (.iconst 1, 1) := by decide +kernel
theorem dX5_count_93 : decode cX5_count 93 = .ok (.invokevirtual 226, 3) := by decide +kernel
theorem dX5_count_96 : decode cX5_count 96 = .ok (.ireturn, 1) := by decide +kernel
theorem dX5_count_97 : decode cX5_count 97 = .ok (.aload_n 0, 1) := by decide +kernel
theorem dX5_count_98 : decode cX5_count 98 = .ok (.getfield 29, 3) := by decide +kernel
theorem dX5_count_101 : decode cX5_count 101 = .ok (.aload_n 0, 1) := by decide +kernel
theorem dX5_count_102 : decode cX5_count 102 = .ok (.getfield 19, 3) := by decide +kernel
theorem dX5_count_105 : decode cX5_count 105 = .ok (.iconst 2, 1) := by decide +kernel
theorem dX5_count_106 : decode cX5_count 106 = .ok (.invokevirtual 226, 3) := by decide +kernel
theorem dX5_count_109 : decode cX5_count 109 = .ok (.ireturn, 1) := by decide +kernel
theorem dX5_count_110 : decode cX5_count 110 = .ok (.aload_n 0, 1) := by decide +kernel
theorem dX5_count_111 : decode cX5_count 111 = .ok (.getfield 29, 3) := by decide +kernel
theorem dX5_count_114 : decode cX5_count 114 = .ok (.aload_n 0, 1) := by decide +kernel
theorem dX5_count_115 : decode cX5_count 115 = .ok (.getfield 19, 3) := by decide +kernel
theorem dX5_count_118 : decode cX5_count 118 = .ok (.iconst 3, 1) := by decide +kernel
theorem dX5_count_119 : decode cX5_count 119 = .ok (.invokevirtual 226, 3) := by decide +kernel
theorem dX5_count_122 : decode cX5_count 122 = .ok (.ireturn, 1) := by decide +kernel
theorem dX5_count_123 : decode cX5_count 123 = .ok (.aload_n 0, 1) := by decide +kernel
theorem dX5_count_124 : decode cX5_count 124 = .ok (.getfield 29, 3) := by decide +kernel
theorem dX5_count_127 : decode cX5_count 127 = .ok (.aload_n 0, 1) := by decide +kernel
theorem dX5_count_128 : decode cX5_count 128 = .ok (.getfield 19, 3) := by decide +kernel
theorem dX5_count_131 : decode cX5_count 131 = .ok (.iconst 4, 1) := by decide +kernel
theorem dX5_count_132 : decode cX5_count 132 = .ok (.invokevirtual 226, 3) := by decide +kernel
theorem dX5_count_135 : decode cX5_count 135 = .ok (.ireturn, 1) := by decide +kernel
theorem dX5_count_136 : decode cX5_count 136 = .ok (.aload_n 0, 1) := by decide +kernel
theorem dX5_count_137 : decode cX5_count 137 = .ok (.getfield 29, 3) := by decide +kernel
theorem dX5_count_140 : decode cX5_count 140 = .ok (.getfield 151, 3) := by decide +kernel
theorem dX5_count_143 : decode cX5_count 143 = .ok (.ireturn, 1) := by decide +kernel
theorem dX5_count_144 : decode cX5_count 144 = .ok (.aload_n 0, 1) := by decide +kernel
theorem dX5_count_145 : decode cX5_count 145 = .ok (.getfield 19, 3) := by decide +kernel
theorem dX5_count_148 : decode cX5_count 148 = .ok (.getfield 232, 3) := by decide +kernel
theorem dX5_count_151 : decode cX5_count 151 = .ok (.ireturn, 1) := by decide +kernel
theorem dX5_count_152 : decode cX5_count 152 = .ok (.aload_n 0, 1) := by decide +kernel
theorem dX5_count_153 : decode cX5_count 153 = .ok (.getfield 29, 3) := by decide +kernel
theorem dX5_count_156 : decode cX5_count 156 = .ok (.getfield 154, 3) := by decide +kernel
theorem dX5_count_159 : decode cX5_count 159 = .ok (.ireturn, 1) := by decide +kernel
theorem dX5_count_160 : decode cX5_count 160 = .ok (.aload_n 0, 1) := by decide +kernel
theorem dX5_count_161 : decode cX5_count 161 = .ok (.getfield 51, 3) := by decide +kernel
theorem dX5_count_164 : decode cX5_count 164 = .ok (.getfield 189, 3) := by decide +kernel
theorem dX5_count_167 : decode cX5_count 167 = .ok (.ireturn, 1) := by decide +kernel
theorem dX5_count_168 : decode cX5_count 168 = .ok (.aload_n 0, 1) := by decide +kernel
theorem dX5_count_169 : decode cX5_count 169 = .ok (.getfield 41, 3) := by decide +kernel
theorem dX5_count_172 : decode cX5_count 172 = .ok (.getfield 161, 3) := by decide +kernel
theorem dX5_count_175 : decode cX5_count 175 = .ok (.ireturn, 1) := by decide +kernel
theorem dX5_count_176 : decode cX5_count 176 = .ok (.aload_n 0, 1) := by decide +kernel
theorem dX5_count_177 : decode cX5_count 177 = .ok (.getfield 45, 3) := by decide +kernel
theorem dX5_count_180 : decode cX5_count 180 = .ok (.getfield 161, 3) := by decide +kernel
theorem dX5_count_183 : decode cX5_count 183 = .ok (.ireturn, 1) := by decide +kernel
theorem dX5_count_184 : decode cX5_count 184 = .ok (.aload_n 0, 1) := by decide +kernel
theorem dX5_count_185 : decode cX5_count 185 = .ok (.getfield 10, 3) := by decide +kernel
theorem dX5_count_188 : decode cX5_count 188 = .ok (.getfield 86, 3) := by decide +kernel
theorem dX5_count_191 : decode cX5_count 191 = .ok (.ireturn, 1) := by decide +kernel
theorem dX5_count_192 : decode cX5_count 192 = .ok (.iconst (-1), 1) := by decide +kernel
theorem dX5_count_193 : decode cX5_count 193 = .ok (.ireturn, 1) := by decide +kernel
theorem dX5_isWithin_0 : decode cX5_isWithin 0 = .ok (.iload_n 0, 1) := by decide +kernel
theorem dX5_isWithin_1 : decode cX5_isWithin 1 = .ok (.iload_n 1, 1) := by decide +kernel
theorem dX5_isWithin_2 : decode cX5_isWithin 2 = .ok (.if_icmp .lt 12, 3) := by decide +kernel
theorem dX5_isWithin_5 : decode cX5_isWithin 5 = .ok (.iload_n 0, 1) := by decide +kernel
theorem dX5_isWithin_6 : decode cX5_isWithin 6 = .ok (.iload_n 2, 1) := by decide +kernel
theorem dX5_isWithin_7 : decode cX5_isWithin 7 = .ok (.if_icmp .gt 7, 3) := by decide +kernel
theorem dX5_isWithin_10 : decode cX5_isWithin 10 = .ok (.iconst 1, 1) := by decide +kernel
theorem dX5_isWithin_11 : decode cX5_isWithin 11 = .ok (.goto 4, 3) := by decide +kernel
theorem dX5_isWithin_14 : decode cX5_isWithin 14 = .ok (.iconst 0, 1) := by decide +kernel
theorem dX5_isWithin_15 : decode cX5_isWithin 15 = .ok (.ireturn, 1) := by decide +kernel
theorem dX5_isCaller_0 : decode cX5_isCaller 0 = .ok (.iload_n 1, 1) := by decide +kernel
theorem dX5_isCaller_1 : decode cX5_isCaller 1 = .ok (.iconst 0, 1) := by decide +kernel
theorem dX5_isCaller_2 : decode cX5_isCaller 2 = .ok (.aload_n 0, 1) := by decide +kernel
theorem dX5_isCaller_3 : decode cX5_isCaller 3 = .ok (.getfield 19, 3) := by decide +kernel
theorem dX5_isCaller_6 : decode cX5_isCaller 6 = .ok (.getfield 89, 3) := by decide +kernel
theorem dX5_isCaller_9 : decode cX5_isCaller 9 = .ok (.iconst 1, 1) := by decide +kernel
theorem dX5_isCaller_10 : decode cX5_isCaller 10 = .ok (.isub, 1) := by decide +kernel
theorem dX5_isCaller_11 : decode cX5_isCaller 11 = .ok (.invokestatic 82, 3) := by decide +kernel
theorem dX5_isCaller_14 : decode cX5_isCaller 14 = .ok (.ireturn, 1) := by decide +kernel
theorem dX5_minutesTillTaken_0 : decode cX5_minutesTillTaken 0 = .ok (.iconst 0, 1) := by decide +kernel
theorem dX5_minutesTillTaken_1 : decode cX5_minutesTillTaken 1 = .ok (.istore_n 3, 1) := by decide +kernel
theorem dX5_minutesTillTaken_2 : decode cX5_minutesTillTaken 2 = .ok (.iload_n 3, 1) := by decide +kernel
theorem dX5_minutesTillTaken_3 : decode cX5_minutesTillTaken 3 = .ok (.iload_n 2, 1) := by decide +kernel
theorem dX5_minutesTillTaken_4 : decode cX5_minutesTillTaken 4 = .ok (.if_icmp .ge 33, 3) := by decide +kernel
theorem dX5_minutesTillTaken_7 : decode cX5_minutesTillTaken 7 = .ok (.aload_n 0, 1) := by decide +kernel
theorem dX5_minutesTillTaken_8 : decode cX5_minutesTillTaken 8 = .ok (.getfield 33, 3) := by decide +kernel
theorem dX5_minutesTillTaken_11 : decode cX5_minutesTillTaken 11 = .ok (.iload_n 1, 1) := by decide +kernel
theorem dX5_minutesTillTaken_12 : decode cX5_minutesTillTaken 12 = .ok (.invokevirtual 235, 3) := by decide +kernel
theorem dX5_minutesTillTaken_15 : decode cX5_minutesTillTaken 15 = .ok (.ifCond .eq 5, 3) := by decide +kernel
theorem dX5_minutesTillTaken_18 : decode cX5_minutesTillTaken 18 = .ok (.iload_n 3, 1) := by decide +kernel
theorem dX5_minutesTillTaken_19 : decode cX5_minutesTillTaken 19 = .ok (.ireturn, 1) := by decide +kernel
theorem dX5_minutesTillTaken_20 : decode cX5_minutesTillTaken 20 = .ok (.aload_n 0, 1) := by decide +kernel
theorem dX5_minutesTillTaken_21 : decode cX5_minutesTillTaken 21 = .ok (.getfield 33, 3) := by decide +kernel
theorem dX5_minutesTillTaken_24 : decode cX5_minutesTillTaken 24 = .ok (.aload_n 0, 1) := by decide +kernel
theorem dX5_minutesTillTaken_25 : decode cX5_minutesTillTaken 25 = .ok (.getfield 19, 3) := by decide +kernel
theorem dX5_minutesTillTaken_28 : decode cX5_minutesTillTaken 28 = .ok (.invokevirtual 173, 3) := by decide +kernel
theorem dX5_minutesTillTaken_31 : decode cX5_minutesTillTaken 31 = .ok (.iinc 3 1, 3) := by decide +kernel
theorem dX5_minutesTillTaken_34 : decode cX5_minutesTillTaken 34 = .ok (.goto (-32), 3) := by decide +kernel
theorem dX5_minutesTillTaken_37 : decode cX5_minutesTillTaken 37 = .ok (.aload_n 0, 1) := by decide +kernel
theorem dX5_minutesTillTaken_38 : decode cX5_minutesTillTaken 38 = .ok (.getfield 33, 3) := by decide +kernel
theorem dX5_minutesTillTaken_41 : decode cX5_minutesTillTaken 41 = .ok (.iload_n 1, 1) := by decide +kernel
theorem dX5_minutesTillTaken_42 : decode cX5_minutesTillTaken 42 = .ok (.invokevirtual 235, 3) := by decide +kernel
theorem dX5_minutesTillTaken_45 : decode cX5_minutesTillTaken 45 = .ok (.ifCond .eq 7, 3) := by decide +kernel
theorem dX5_minutesTillTaken_48 : decode cX5_minutesTillTaken 48 = .ok (.iload_n 2, 1) := by decide +kernel
theorem dX5_minutesTillTaken_49 : decode cX5_minutesTillTaken 49 = .ok (.goto 5, 3) := by decide +kernel
theorem dX5_minutesTillTaken_52 : decode cX5_minutesTillTaken 52 = .ok (.bipush (-4), 2) := by decide +kernel
theorem dX5_minutesTillTaken_54 : decode cX5_minutesTillTaken 54 = .ok (.ireturn, 1) := by decide +kernel
theorem dX5_minutesByPause_0 : decode cX5_minutesByPause 0 = .ok (.aload_n 0, 1) := by decide +kernel
theorem dX5_minutesByPause_1 : decode cX5_minutesByPause 1 = .ok (.getfield 33, 3) := by decide +kernel
theorem dX5_minutesByPause_4 : decode cX5_minutesByPause 4 = .ok (.aload_n 0, 1) := by decide +kernel
theorem dX5_minutesByPause_5 : decode cX5_minutesByPause 5 = .ok (.getfield 29, 3) := by decide +kernel
theorem dX5_minutesByPause_8 : decode cX5_minutesByPause 8 = .ok (.invokevirtual 164, 3) := by decide +kernel
theorem dX5_minutesByPause_11 : decode cX5_minutesByPause 11 = .ok (.aload_n 0, 1) := by decide +kernel
theorem dX5_minutesByPause_12 : decode cX5_minutesByPause 12 = .ok (.getfield 33, 3) := by decide +kernel
theorem dX5_minutesByPause_15 : decode cX5_minutesByPause 15 = .ok (.iload_n 1, 1) := by decide +kernel
theorem dX5_minutesByPause_16 : decode cX5_minutesByPause 16 = .ok (.invokevirtual 142, 3) := by decide +kernel
theorem dX5_minutesByPause_19 : decode cX5_minutesByPause 19 = .ok (.aload_n 0, 1) := by decide +kernel
theorem dX5_minutesByPause_20 : decode cX5_minutesByPause 20 = .ok (.getfield 33, 3) := by decide +kernel
theorem dX5_minutesByPause_23 : decode cX5_minutesByPause 23 = .ok (.aload_n 0, 1) := by decide +kernel
theorem dX5_minutesByPause_24 : decode cX5_minutesByPause 24 = .ok (.getfield 19, 3) := by decide +kernel
theorem dX5_minutesByPause_27 : decode cX5_minutesByPause 27 = .ok (.iload_n 2, 1) := by decide +kernel
theorem dX5_minutesByPause_28 : decode cX5_minutesByPause 28 = .ok (.invokevirtual 135, 3) := by decide +kernel
theorem dX5_minutesByPause_31 : decode cX5_minutesByPause 31 = .ok (.aload_n 0, 1) := by decide +kernel
theorem dX5_minutesByPause_32 : decode cX5_minutesByPause 32 = .ok (.getfield 33, 3) := by decide +kernel
theorem dX5_minutesByPause_35 : decode cX5_minutesByPause 35 = .ok (.iload_n 1, 1) := by decide +kernel
theorem dX5_minutesByPause_36 : decode cX5_minutesByPause 36 = .ok (.invokevirtual 148, 3) := by decide +kernel
theorem dX5_minutesByPause_39 : decode cX5_minutesByPause 39 = .ok (.aload_n 0, 1) := by decide +kernel
theorem dX5_minutesByPause_40 : decode cX5_minutesByPause 40 = .ok (.iload_n 1, 1) := by decide +kernel
theorem dX5_minutesByPause_41 : decode cX5_minutesByPause 41 = .ok (.bipush 60, 2) := by decide +kernel
theorem dX5_minutesByPause_43 : decode cX5_minutesByPause 43 = .ok (.iload_n 2, 1) := by decide +kernel
theorem dX5_minutesByPause_44 : decode cX5_minutesByPause 44 = .ok (.isub, 1) := by decide +kernel
theorem dX5_minutesByPause_45 : decode cX5_minutesByPause 45 = .ok (.invokevirtual 166, 3) := by decide +kernel
theorem dX5_minutesByPause_48 : decode cX5_minutesByPause 48 = .ok (.istore_n 3, 1) := by decide +kernel
theorem dX5_minutesByPause_49 : decode cX5_minutesByPause 49 = .ok (.iload_n 3, 1) := by decide +kernel
theorem dX5_minutesByPause_50 : decode cX5_minutesByPause 50 = .ok (.bipush (-4), 2) := by decide +kernel
theorem dX5_minutesByPause_52 : decode cX5_minutesByPause 52 = .ok (.if_icmp .ne 8, 3) := by decide +kernel
theorem dX5_minutesByPause_55 : decode cX5_minutesByPause 55 = .ok (.bipush (-4), 2) := by decide +kernel
theorem dX5_minutesByPause_57 : decode cX5_minutesByPause 57 = .ok (.goto 6, 3) := by decide +kernel
theorem dX5_minutesByPause_60 : decode cX5_minutesByPause 60 = .ok (.iload_n 2, 1) := by decide +kernel
theorem dX5_minutesByPause_61 : decode cX5_minutesByPause 61 = .ok (.iload_n 3, 1) := by decide +kernel
theorem dX5_minutesByPause_62 : decode cX5_minutesByPause 62 = .ok (.iadd, 1) := by decide +kernel
theorem dX5_minutesByPause_63 : decode cX5_minutesByPause 63 = .ok (.ireturn, 1) := by decide +kernel
theorem dX5_worthServedBy_0 : decode cX5_worthServedBy 0 = .ok (.aload_n 0, 1) := by decide +kernel
theorem dX5_worthServedBy_1 : decode cX5_worthServedBy 1 = .ok (.getfield 33, 3) := by decide +kernel
theorem dX5_worthServedBy_4 : decode cX5_worthServedBy 4 = .ok (.aload_n 0, 1) := by decide +kernel
theorem dX5_worthServedBy_5 : decode cX5_worthServedBy 5 = .ok (.getfield 29, 3) := by decide +kernel
theorem dX5_worthServedBy_8 : decode cX5_worthServedBy 8 = .ok (.invokevirtual 164, 3) := by decide +kernel
theorem dX5_worthServedBy_11 : decode cX5_worthServedBy 11 = .ok (.aload_n 0, 1) := by decide +kernel
theorem dX5_worthServedBy_12 : decode cX5_worthServedBy 12 = .ok (.getfield 33, 3) := by decide +kernel
theorem dX5_worthServedBy_15 : decode cX5_worthServedBy 15 = .ok (.iload_n 1, 1) := by decide +kernel
theorem dX5_worthServedBy_16 : decode cX5_worthServedBy 16 = .ok (.putfield 154, 3) := by decide +kernel
theorem dX5_worthServedBy_19 : decode cX5_worthServedBy 19 = .ok (.aload_n 0, 1) := by decide +kernel
theorem dX5_worthServedBy_20 : decode cX5_worthServedBy 20 = .ok (.getfield 33, 3) := by decide +kernel
theorem dX5_worthServedBy_23 : decode cX5_worthServedBy 23 = .ok (.aload_n 0, 1) := by decide +kernel
theorem dX5_worthServedBy_24 : decode cX5_worthServedBy 24 = .ok (.getfield 19, 3) := by decide +kernel
theorem dX5_worthServedBy_27 : decode cX5_worthServedBy 27 = .ok (.bipush 60, 2) := by decide +kernel
theorem dX5_worthServedBy_29 : decode cX5_worthServedBy 29 = .ok (.invokevirtual 135, 3) := by decide +kernel
theorem dX5_worthServedBy_32 : decode cX5_worthServedBy 32 = .ok (.iconst 0, 1) := by decide +kernel
theorem dX5_worthServedBy_33 : decode cX5_worthServedBy 33 = .ok (.istore_n 2, 1) := by decide +kernel
theorem dX5_worthServedBy_34 : decode cX5_worthServedBy 34 = .ok (.iconst 0, 1) := by decide +kernel
theorem dX5_worthServedBy_35 : decode cX5_worthServedBy 35 = .ok (.istore_n 3, 1) := by decide +kernel
theorem dX5_worthServedBy_36 : decode cX5_worthServedBy 36 = .ok (.iload_n 3, 1) := by decide +kernel
theorem dX5_worthServedBy_37 : decode cX5_worthServedBy 37 = .ok (.aload_n 0, 1) := by decide +kernel
theorem dX5_worthServedBy_38 : decode cX5_worthServedBy 38 = .ok (.getfield 19, 3) := by decide +kernel
theorem dX5_worthServedBy_41 : decode cX5_worthServedBy 41 = .ok (.getfield 89, 3) := by decide +kernel
theorem dX5_worthServedBy_44 : decode cX5_worthServedBy 44 = .ok (.if_icmp .ge 43, 3) := by decide +kernel
theorem dX5_worthServedBy_47 : decode cX5_worthServedBy 47 = .ok (.aload_n 0, 1) := by decide +kernel
theorem dX5_worthServedBy_48 : decode cX5_worthServedBy 48 = .ok (.getfield 29, 3) := by decide +kernel
theorem dX5_worthServedBy_51 : decode cX5_worthServedBy 51 = .ok (.iload_n 3, 1) := by decide +kernel
theorem dX5_worthServedBy_52 : decode cX5_worthServedBy 52 = .ok (.invokevirtual 186, 3) := by decide +kernel
theorem dX5_worthServedBy_55 : decode cX5_worthServedBy 55 = .ok (.ifCond .eq 26, 3) := by decide +kernel
theorem dX5_worthServedBy_58 : decode cX5_worthServedBy 58 = .ok (.aload_n 0, 1) := by decide +kernel
theorem dX5_worthServedBy_59 : decode cX5_worthServedBy 59 = .ok (.getfield 33, 3) := by decide +kernel
theorem dX5_worthServedBy_62 : decode cX5_worthServedBy 62 = .ok (.iload_n 3, 1) := by decide +kernel
theorem dX5_worthServedBy_63 : decode cX5_worthServedBy 63 = .ok (.invokevirtual 235, 3) := by decide +kernel
theorem dX5_worthServedBy_66 : decode cX5_worthServedBy 66 = .ok (.ifCond .eq 15, 3) := by decide +kernel
theorem dX5_worthServedBy_69 : decode cX5_worthServedBy 69 = .ok (.iload_n 2, 1) := by decide +kernel
theorem dX5_worthServedBy_70 : decode cX5_worthServedBy 70 = .ok (.aload_n 0, 1) := by decide +kernel
theorem dX5_worthServedBy_71 : decode cX5_worthServedBy 71 = .ok (.getfield 19, 3) := by decide +kernel
theorem dX5_worthServedBy_74 : decode cX5_worthServedBy 74 = .ok (.getfield 111, 3) := by decide +kernel
theorem dX5_worthServedBy_77 : decode cX5_worthServedBy 77 = .ok (.iload_n 3, 1) := by decide +kernel
theorem dX5_worthServedBy_78 : decode cX5_worthServedBy 78 = .ok (.iaload, 1) := by decide +kernel
theorem dX5_worthServedBy_79 : decode cX5_worthServedBy 79 = .ok (.iadd, 1) := by decide +kernel
theorem dX5_worthServedBy_80 : decode cX5_worthServedBy 80 = .ok (.istore_n 2, 1) := by decide +kernel
theorem dX5_worthServedBy_81 : decode cX5_worthServedBy 81 = .ok (.iinc 3 1, 3) := by decide +kernel
theorem dX5_worthServedBy_84 : decode cX5_worthServedBy 84 = .ok (.goto (-48), 3) := by decide +kernel
theorem dX5_worthServedBy_87 : decode cX5_worthServedBy 87 = .ok (.iload_n 2, 1) := by decide +kernel
theorem dX5_worthServedBy_88 : decode cX5_worthServedBy 88 = .ok (.ireturn, 1) := by decide +kernel
theorem dX5_giveUpsInTrial_0 : decode cX5_giveUpsInTrial 0 = .ok (.aload_n 0, 1) := by decide +kernel
theorem dX5_giveUpsInTrial_1 : decode cX5_giveUpsInTrial 1 = .ok (.getfield 33, 3) := by decide +kernel
theorem dX5_giveUpsInTrial_4 : decode cX5_giveUpsInTrial 4 = .ok (.aload_n 0, 1) := by decide +kernel
theorem dX5_giveUpsInTrial_5 : decode cX5_giveUpsInTrial 5 = .ok (.getfield 19, 3) := by decide +kernel
theorem dX5_giveUpsInTrial_8 : decode cX5_giveUpsInTrial 8 = .ok (.iconst 4, 1) := by decide +kernel
theorem dX5_giveUpsInTrial_9 : decode cX5_giveUpsInTrial 9 = .ok (.invokevirtual 226, 3) := by decide +kernel
theorem dX5_giveUpsInTrial_12 : decode cX5_giveUpsInTrial 12 = .ok (.istore_n 1, 1) := by decide +kernel
theorem dX5_giveUpsInTrial_13 : decode cX5_giveUpsInTrial 13 = .ok (.aload_n 0, 1) := by decide +kernel
theorem dX5_giveUpsInTrial_14 : decode cX5_giveUpsInTrial 14 = .ok (.getfield 33, 3) := by decide +kernel
theorem dX5_giveUpsInTrial_17 : decode cX5_giveUpsInTrial 17 = .ok (.aload_n 0, 1) := by decide +kernel
theorem dX5_giveUpsInTrial_18 : decode cX5_giveUpsInTrial 18 = .ok (.getfield 19, 3) := by decide +kernel
theorem dX5_giveUpsInTrial_21 : decode cX5_giveUpsInTrial 21 = .ok (.bipush 60, 2) := by decide +kernel
theorem dX5_giveUpsInTrial_23 : decode cX5_giveUpsInTrial 23 = .ok (.invokevirtual 135, 3) := by decide +kernel
theorem dX5_giveUpsInTrial_26 : decode cX5_giveUpsInTrial 26 = .ok (.aload_n 0, 1) := by decide +kernel
theorem dX5_giveUpsInTrial_27 : decode cX5_giveUpsInTrial 27 = .ok (.getfield 33, 3) := by decide +kernel
theorem dX5_giveUpsInTrial_30 : decode cX5_giveUpsInTrial 30 = .ok (.aload_n 0, 1) := by decide +kernel
theorem dX5_giveUpsInTrial_31 : decode cX5_giveUpsInTrial 31 = .ok (.getfield 19, 3) := by decide +kernel
theorem dX5_giveUpsInTrial_34 : decode cX5_giveUpsInTrial 34 = .ok (.iconst 4, 1) := by decide +kernel
theorem dX5_giveUpsInTrial_35 : decode cX5_giveUpsInTrial 35 = .ok (.invokevirtual 226, 3) := by decide +kernel
theorem dX5_giveUpsInTrial_38 : decode cX5_giveUpsInTrial 38 = .ok (.iload_n 1, 1) := by decide +kernel
theorem dX5_giveUpsInTrial_39 : decode cX5_giveUpsInTrial 39 = .ok (.isub, 1) := by decide +kernel
theorem dX5_giveUpsInTrial_40 : decode cX5_giveUpsInTrial 40 = .ok (.ireturn, 1) := by decide +kernel
theorem dX5_allSeenIsSo_0 : decode cX5_allSeenIsSo 0 = .ok (.iconst 0, 1) := by decide +kernel
theorem dX5_allSeenIsSo_1 : decode cX5_allSeenIsSo 1 = .ok (.istore_n 2, 1) := by decide +kernel
theorem dX5_allSeenIsSo_2 : decode cX5_allSeenIsSo 2 = .ok (.iload_n 2, 1) := by decide +kernel
theorem dX5_allSeenIsSo_3 : decode cX5_allSeenIsSo 3 = .ok (.aload_n 0, 1) := by decide +kernel
theorem dX5_allSeenIsSo_4 : decode cX5_allSeenIsSo 4 = .ok (.getfield 51, 3) := by decide +kernel
theorem dX5_allSeenIsSo_7 : decode cX5_allSeenIsSo 7 = .ok (.getfield 189, 3) := by decide +kernel
theorem dX5_allSeenIsSo_10 : decode cX5_allSeenIsSo 10 = .ok (.if_icmp .ge 85, 3) := by decide +kernel
theorem dX5_allSeenIsSo_13 : decode cX5_allSeenIsSo 13 = .ok (.aload_n 0, 1) := by decide +kernel
theorem dX5_allSeenIsSo_14 : decode cX5_allSeenIsSo 14 = .ok (.getfield 51, 3) := by decide +kernel
theorem dX5_allSeenIsSo_17 : decode cX5_allSeenIsSo 17 = .ok (.getfield 238, 3) := by decide +kernel
theorem dX5_allSeenIsSo_20 : decode cX5_allSeenIsSo 20 = .ok (.iload_n 2, 1) := by decide +kernel
theorem dX5_allSeenIsSo_21 : decode cX5_allSeenIsSo 21 = .ok (.iaload, 1) := by decide +kernel
theorem dX5_allSeenIsSo_22 : decode cX5_allSeenIsSo 22 = .ok (.iload_n 1, 1) := by decide +kernel
theorem dX5_allSeenIsSo_23 : decode cX5_allSeenIsSo 23 = .ok (.if_icmp .ne 66, 3) := by decide +kernel
theorem dX5_allSeenIsSo_26 : decode cX5_allSeenIsSo 26 = .ok (.aload_n 0, 1) := by decide +kernel
theorem dX5_allSeenIsSo_27 : decode cX5_allSeenIsSo 27 = .ok (.getfield 33, 3) := by decide +kernel
theorem dX5_allSeenIsSo_30 : decode cX5_allSeenIsSo 30 = .ok (.aload_n 0, 1) := by decide +kernel
theorem dX5_allSeenIsSo_31 : decode cX5_allSeenIsSo 31 = .ok (.getfield 29, 3) := by decide +kernel
theorem dX5_allSeenIsSo_34 : decode cX5_allSeenIsSo 34 = .ok (.invokevirtual 164, 3) := by decide +kernel
theorem dX5_allSeenIsSo_37 : decode cX5_allSeenIsSo 37 = .ok (.aload_n 0, 1) := by decide +kernel
theorem dX5_allSeenIsSo_38 : decode cX5_allSeenIsSo 38 = .ok (.getfield 33, 3) := by decide +kernel
theorem dX5_allSeenIsSo_41 : decode cX5_allSeenIsSo 41 = .ok (.aload_n 0, 1) := by decide +kernel
theorem dX5_allSeenIsSo_42 : decode cX5_allSeenIsSo 42 = .ok (.getfield 23, 3) := by decide +kernel
theorem dX5_allSeenIsSo_45 : decode cX5_allSeenIsSo 45 = .ok (.aload_n 0, 1) := by decide +kernel
theorem dX5_allSeenIsSo_46 : decode cX5_allSeenIsSo 46 = .ok (.getfield 51, 3) := by decide +kernel
theorem dX5_allSeenIsSo_49 : decode cX5_allSeenIsSo 49 = .ok (.getfield 241, 3) := by decide +kernel
theorem dX5_allSeenIsSo_52 : decode cX5_allSeenIsSo 52 = .ok (.iload_n 2, 1) := by decide +kernel
theorem dX5_allSeenIsSo_53 : decode cX5_allSeenIsSo 53 = .ok (.iaload, 1) := by decide +kernel
theorem dX5_allSeenIsSo_54 : decode cX5_allSeenIsSo 54 = .ok (.invokevirtual 135, 3) := by decide +kernel
theorem dX5_allSeenIsSo_57 : decode cX5_allSeenIsSo 57 = .ok (.aload_n 0, 1) := by decide +kernel
theorem dX5_allSeenIsSo_58 : decode cX5_allSeenIsSo 58 = .ok (.getfield 33, 3) := by decide +kernel
theorem dX5_allSeenIsSo_61 : decode cX5_allSeenIsSo 61 = .ok (.getfield 114, 3) := by decide +kernel
theorem dX5_allSeenIsSo_64 : decode cX5_allSeenIsSo 64 = .ok (.iload_n 1, 1) := by decide +kernel
theorem dX5_allSeenIsSo_65 : decode cX5_allSeenIsSo 65 = .ok (.iaload, 1) := by decide +kernel
theorem dX5_allSeenIsSo_66 : decode cX5_allSeenIsSo 66 = .ok (.iconst 4, 1) := by decide +kernel
theorem dX5_allSeenIsSo_67 : decode cX5_allSeenIsSo 67 = .ok (.if_icmp .ne 7, 3) := by decide +kernel
theorem dX5_allSeenIsSo_70 : decode cX5_allSeenIsSo 70 = .ok (.iconst 1, 1) := by decide +kernel
theorem dX5_allSeenIsSo_71 : decode cX5_allSeenIsSo 71 = .ok (.goto 4, 3) := by decide +kernel
theorem dX5_allSeenIsSo_74 : decode cX5_allSeenIsSo 74 = .ok (.iconst 0, 1) := by decide +kernel
theorem dX5_allSeenIsSo_75 : decode cX5_allSeenIsSo 75 = .ok (.aload_n 0, 1) := by decide +kernel
theorem dX5_allSeenIsSo_76 : decode cX5_allSeenIsSo 76 = .ok (.getfield 51, 3) := by decide +kernel
theorem dX5_allSeenIsSo_79 : decode cX5_allSeenIsSo 79 = .ok (.getfield 244, 3) := by decide +kernel
theorem dX5_allSeenIsSo_82 : decode cX5_allSeenIsSo 82 = .ok (.iload_n 2, 1) := by decide +kernel
theorem dX5_allSeenIsSo_83 : decode cX5_allSeenIsSo 83 = .ok (.baload, 1) := by decide +kernel
theorem dX5_allSeenIsSo_84 : decode cX5_allSeenIsSo 84 = .ok (.if_icmp .eq 5, 3) := by decide +kernel
theorem dX5_allSeenIsSo_87 : decode cX5_allSeenIsSo 87 = .ok (.iconst 0, 1) := by decide +kernel
theorem dX5_allSeenIsSo_88 : decode cX5_allSeenIsSo 88 = .ok (.ireturn, 1) := by decide +kernel
theorem dX5_allSeenIsSo_89 : decode cX5_allSeenIsSo 89 = .ok (.iinc 2 1, 3) := by decide +kernel
theorem dX5_allSeenIsSo_92 : decode cX5_allSeenIsSo 92 = .ok (.goto (-90), 3) := by decide +kernel
theorem dX5_allSeenIsSo_95 : decode cX5_allSeenIsSo 95 = .ok (.iconst 1, 1) := by decide +kernel
theorem dX5_allSeenIsSo_96 : decode cX5_allSeenIsSo 96 = .ok (.ireturn, 1) := by decide +kernel
theorem dX5_othersWhoWait_0 : decode cX5_othersWhoWait 0 = .ok (.iconst 0, 1) := by decide +kernel
theorem dX5_othersWhoWait_1 : decode cX5_othersWhoWait 1 = .ok (.istore_n 2, 1) := by decide +kernel
theorem dX5_othersWhoWait_2 : decode cX5_othersWhoWait 2 = .ok (.iconst 0, 1) := by decide +kernel
theorem dX5_othersWhoWait_3 : decode cX5_othersWhoWait 3 = .ok (.istore_n 3, 1) := by decide +kernel
theorem dX5_othersWhoWait_4 : decode cX5_othersWhoWait 4 = .ok (.iload_n 3, 1) := by decide +kernel
theorem dX5_othersWhoWait_5 : decode cX5_othersWhoWait 5 = .ok (.aload_n 0, 1) := by decide +kernel
theorem dX5_othersWhoWait_6 : decode cX5_othersWhoWait 6 = .ok (.getfield 19, 3) := by decide +kernel
theorem dX5_othersWhoWait_9 : decode cX5_othersWhoWait 9 = .ok (.getfield 89, 3) := by decide +kernel
theorem dX5_othersWhoWait_12 : decode cX5_othersWhoWait 12 = .ok (.if_icmp .ge 31, 3) := by decide +kernel
theorem dX5_othersWhoWait_15 : decode cX5_othersWhoWait 15 = .ok (.iload_n 3, 1) := by decide +kernel
theorem dX5_othersWhoWait_16 : decode cX5_othersWhoWait 16 = .ok (.iload_n 1, 1) := by decide +kernel
theorem dX5_othersWhoWait_17 : decode cX5_othersWhoWait 17 = .ok (.if_icmp .eq 20, 3) := by decide +kernel
theorem dX5_othersWhoWait_20 : decode cX5_othersWhoWait 20 = .ok (.aload_n 0, 1) := by decide +kernel
theorem dX5_othersWhoWait_21 : decode cX5_othersWhoWait 21 = .ok (.getfield 29, 3) := by decide +kernel
theorem dX5_othersWhoWait_24 : decode cX5_othersWhoWait 24 = .ok (.iload_n 3, 1) := by decide +kernel
theorem dX5_othersWhoWait_25 : decode cX5_othersWhoWait 25 = .ok (.invokevirtual 139, 3) := by decide +kernel
theorem dX5_othersWhoWait_28 : decode cX5_othersWhoWait 28 = .ok (.ifCond .eq 9, 3) := by decide +kernel
theorem dX5_othersWhoWait_31 : decode cX5_othersWhoWait 31 = .ok (.iload_n 2, 1) := by decide +kernel
theorem dX5_othersWhoWait_32 : decode cX5_othersWhoWait 32 = .ok (.iconst 1, 1) := by decide +kernel
theorem dX5_othersWhoWait_33 : decode cX5_othersWhoWait 33 = .ok (.iload_n 3, 1) := by decide +kernel
theorem dX5_othersWhoWait_34 : decode cX5_othersWhoWait 34 = .ok (.ishl, 1) := by decide +kernel
theorem dX5_othersWhoWait_35 : decode cX5_othersWhoWait 35 = .ok (.ior, 1) := by decide +kernel
theorem dX5_othersWhoWait_36 : decode cX5_othersWhoWait 36 = .ok (.istore_n 2, 1) := by decide +kernel
theorem dX5_othersWhoWait_37 : decode cX5_othersWhoWait 37 = .ok (.iinc 3 1, 3) := by decide +kernel
theorem dX5_othersWhoWait_40 : decode cX5_othersWhoWait 40 = .ok (.goto (-36), 3) := by decide +kernel
theorem dX5_othersWhoWait_43 : decode cX5_othersWhoWait 43 = .ok (.iload_n 2, 1) := by decide +kernel
theorem dX5_othersWhoWait_44 : decode cX5_othersWhoWait 44 = .ok (.ireturn, 1) := by decide +kernel
theorem dX5_weightIfTaken_0 : decode cX5_weightIfTaken 0 = .ok (.iload_n 3, 1) := by decide +kernel
theorem dX5_weightIfTaken_1 : decode cX5_weightIfTaken 1 = .ok (.invokestatic 204, 3) := by decide +kernel
theorem dX5_weightIfTaken_4 : decode cX5_weightIfTaken 4 = .ok (.istore 5, 2) := by decide +kernel
theorem dX5_weightIfTaken_6 : decode cX5_weightIfTaken 6 = .ok (.iload 4, 2) := by decide +kernel
theorem dX5_weightIfTaken_8 : decode cX5_weightIfTaken 8 = .ok (.invokestatic 204, 3) := by decide +kernel
theorem dX5_weightIfTaken_11 : decode cX5_weightIfTaken 11 = .ok (.iload 5, 2) := by decide +kernel
theorem dX5_weightIfTaken_13 : decode cX5_weightIfTaken 13 = .ok (.isub, 1) := by decide +kernel
theorem dX5_weightIfTaken_14 : decode cX5_weightIfTaken 14 = .ok (.istore 6, 2) := by decide +kernel
theorem dX5_weightIfTaken_16 : decode cX5_weightIfTaken 16 = .ok (.iload_n 2, 1) := by decide +kernel
theorem dX5_weightIfTaken_17 : decode cX5_weightIfTaken 17 = .ok (.iload 5, 2) := by decide +kernel
theorem dX5_weightIfTaken_19 : decode cX5_weightIfTaken 19 = .ok (.invokestatic 209, 3) := by decide +kernel
theorem dX5_weightIfTaken_22 : decode cX5_weightIfTaken 22 = .ok (.bipush 10, 2) := by decide +kernel
theorem dX5_weightIfTaken_24 : decode cX5_weightIfTaken 24 = .ok (.iload_n 2, 1) := by decide +kernel
theorem dX5_weightIfTaken_25 : decode cX5_weightIfTaken 25 = .ok (.isub, 1) := by decide +kernel
theorem dX5_weightIfTaken_26 : decode cX5_weightIfTaken 26 = .ok (.iload 6, 2) := by decide +kernel
theorem dX5_weightIfTaken_28 : decode cX5_weightIfTaken 28 = .ok (.invokestatic 209, 3) := by decide +kernel
theorem dX5_weightIfTaken_31 : decode cX5_weightIfTaken 31 = .ok (.imul, 1) := by decide +kernel
theorem dX5_weightIfTaken_32 : decode cX5_weightIfTaken 32 = .ok (.istore 7, 2) := by decide +kernel
theorem dX5_weightIfTaken_34 : decode cX5_weightIfTaken 34 = .ok (.iload 7, 2) := by decide +kernel
theorem dX5_weightIfTaken_36 : decode cX5_weightIfTaken 36 = .ok (.ifCond .ne 5, 3) := by decide +kernel
theorem dX5_weightIfTaken_39 : decode cX5_weightIfTaken 39 = .ok (.iconst 0, 1) := by decide +kernel
theorem dX5_weightIfTaken_40 : decode cX5_weightIfTaken 40 = .ok (.ireturn, 1) := by decide +kernel
theorem dX5_weightIfTaken_41 : decode cX5_weightIfTaken 41 = .ok (.aload_n 0, 1) := by decide +kernel
theorem dX5_weightIfTaken_42 : decode cX5_weightIfTaken 42 = .ok (.getfield 33, 3) := by decide +kernel
theorem dX5_weightIfTaken_45 : decode cX5_weightIfTaken 45 = .ok (.aload_n 0, 1) := by decide +kernel
theorem dX5_weightIfTaken_46 : decode cX5_weightIfTaken 46 = .ok (.getfield 29, 3) := by decide +kernel
theorem dX5_weightIfTaken_49 : decode cX5_weightIfTaken 49 = .ok (.invokevirtual 164, 3) := by decide +kernel
theorem dX5_weightIfTaken_52 : decode cX5_weightIfTaken 52 = .ok (.iconst 0, 1) := by decide +kernel
theorem dX5_weightIfTaken_53 : decode cX5_weightIfTaken 53 = .ok (.istore 8, 2) := by decide +kernel
theorem dX5_weightIfTaken_55 : decode cX5_weightIfTaken 55 = .ok (.iload 8, 2) := by decide +kernel
theorem dX5_weightIfTaken_57 : decode cX5_weightIfTaken 57 = .ok (.aload_n 0, 1) := by decide +kernel
theorem dX5_weightIfTaken_58 : decode cX5_weightIfTaken 58 = .ok (.getfield 19, 3) := by decide +kernel
theorem dX5_weightIfTaken_61 : decode cX5_weightIfTaken 61 = .ok (.getfield 89, 3) := by decide +kernel
theorem dX5_weightIfTaken_64 : decode cX5_weightIfTaken 64 = .ok (.if_icmp .ge 28, 3) := by decide +kernel
theorem dX5_weightIfTaken_67 : decode cX5_weightIfTaken 67 = .ok (.iload_n 3, 1) := by decide +kernel
theorem dX5_weightIfTaken_68 : decode cX5_weightIfTaken 68 = .ok (.iload 8, 2) := by decide +kernel
theorem dX5_weightIfTaken_70 : decode cX5_weightIfTaken 70 = .ok (.ishr, 1) := by decide +kernel
theorem dX5_weightIfTaken_71 : decode cX5_weightIfTaken 71 = .ok (.iconst 1, 1) := by decide +kernel
theorem dX5_weightIfTaken_72 : decode cX5_weightIfTaken 72 = .ok (.iand, 1) := by decide +kernel
theorem dX5_weightIfTaken_73 : decode cX5_weightIfTaken 73 = .ok (.iconst 1, 1) := by decide +kernel
theorem dX5_weightIfTaken_74 : decode cX5_weightIfTaken 74 = .ok (.if_icmp .ne 12, 3) := by decide +kernel
theorem dX5_weightIfTaken_77 : decode cX5_weightIfTaken 77 = .ok (.aload_n 0, 1) := by decide +kernel
theorem dX5_weightIfTaken_78 : decode cX5_weightIfTaken 78 = .ok (.getfield 33, 3) := by decide +kernel
theorem dX5_weightIfTaken_81 : decode cX5_weightIfTaken 81 = .ok (.iload 8, 2) := by decide +kernel
theorem dX5_weightIfTaken_83 : decode cX5_weightIfTaken 83 = .ok (.invokevirtual 142, 3) := by decide +kernel
theorem dX5_weightIfTaken_86 : decode cX5_weightIfTaken 86 = .ok (.iinc 8 1, 3) := by decide +kernel
theorem dX5_weightIfTaken_89 : decode cX5_weightIfTaken 89 = .ok (.goto (-34), 3) := by decide +kernel
theorem dX5_weightIfTaken_92 : decode cX5_weightIfTaken 92 = .ok (.aload_n 0, 1) := by decide +kernel
theorem dX5_weightIfTaken_93 : decode cX5_weightIfTaken 93 = .ok (.iload_n 1, 1) := by decide +kernel
theorem dX5_weightIfTaken_94 : decode cX5_weightIfTaken 94 = .ok (.bipush 60, 2) := by decide +kernel
theorem dX5_weightIfTaken_96 : decode cX5_weightIfTaken 96 = .ok (.invokevirtual 166, 3) := by decide +kernel
theorem dX5_weightIfTaken_99 : decode cX5_weightIfTaken 99 = .ok (.bipush (-4), 2) := by decide +kernel
theorem dX5_weightIfTaken_101 : decode cX5_weightIfTaken 101 = .ok (.if_icmp .ne 7, 3) := by decide +kernel
theorem dX5_weightIfTaken_104 : decode cX5_weightIfTaken 104 = .ok (.iconst 0, 1) := by decide +kernel
theorem dX5_weightIfTaken_105 : decode cX5_weightIfTaken 105 = .ok (.goto 5, 3) := by decide +kernel
theorem dX5_weightIfTaken_108 : decode cX5_weightIfTaken 108 = .ok (.iload 7, 2) := by decide +kernel
theorem dX5_weightIfTaken_110 : decode cX5_weightIfTaken 110 = .ok (.ireturn, 1) := by decide +kernel
theorem dX5_power_0 : decode cX5_power 0 = .ok (.iconst 1, 1) := by decide +kernel
theorem dX5_power_1 : decode cX5_power 1 = .ok (.istore_n 2, 1) := by decide +kernel
theorem dX5_power_2 : decode cX5_power 2 = .ok (.iconst 0, 1) := by decide +kernel
theorem dX5_power_3 : decode cX5_power 3 = .ok (.istore_n 3, 1) := by decide +kernel
theorem dX5_power_4 : decode cX5_power 4 = .ok (.iload_n 3, 1) := by decide +kernel
theorem dX5_power_5 : decode cX5_power 5 = .ok (.iload_n 1, 1) := by decide +kernel
theorem dX5_power_6 : decode cX5_power 6 = .ok (.if_icmp .ge 13, 3) := by decide +kernel
theorem dX5_power_9 : decode cX5_power 9 = .ok (.iload_n 2, 1) := by decide +kernel
theorem dX5_power_10 : decode cX5_power 10 = .ok (.iload_n 0, 1) := by decide +kernel
theorem dX5_power_11 : decode cX5_power 11 = .ok (.imul, 1) := by decide +kernel
theorem dX5_power_12 : decode cX5_power 12 = .ok (.istore_n 2, 1) := by decide +kernel
theorem dX5_power_13 : decode cX5_power 13 = .ok (.iinc 3 1, 3) := by decide +kernel
theorem dX5_power_16 : decode cX5_power 16 = .ok (.goto (-12), 3) := by decide +kernel
theorem dX5_power_19 : decode cX5_power 19 = .ok (.iload_n 2, 1) := by decide +kernel
theorem dX5_power_20 : decode cX5_power 20 = .ok (.ireturn, 1) := by decide +kernel
theorem dX5_commonDivisor_0 : decode cX5_commonDivisor 0 = .ok (.iload_n 0, 1) := by decide +kernel
theorem dX5_commonDivisor_1 : decode cX5_commonDivisor 1 = .ok (.istore_n 2, 1) := by decide +kernel
theorem dX5_commonDivisor_2 : decode cX5_commonDivisor 2 = .ok (.iload_n 1, 1) := by decide +kernel
theorem dX5_commonDivisor_3 : decode cX5_commonDivisor 3 = .ok (.istore_n 3, 1) := by decide +kernel
theorem dX5_commonDivisor_4 : decode cX5_commonDivisor 4 = .ok (.iconst 0, 1) := by decide +kernel
theorem dX5_commonDivisor_5 : decode cX5_commonDivisor 5 = .ok (.istore 4, 2) := by decide +kernel
theorem dX5_commonDivisor_7 : decode cX5_commonDivisor 7 = .ok (.iload 4, 2) := by decide +kernel
theorem dX5_commonDivisor_9 : decode cX5_commonDivisor 9 = .ok (.bipush 64, 2) := by decide +kernel
theorem dX5_commonDivisor_11 : decode cX5_commonDivisor 11 = .ok (.if_icmp .ge 23, 3) := by decide +kernel
theorem dX5_commonDivisor_14 : decode cX5_commonDivisor 14 = .ok (.iload_n 3, 1) := by decide +kernel
theorem dX5_commonDivisor_15 : decode cX5_commonDivisor 15 = .ok (.ifCond .eq 19, 3) := by decide +kernel
theorem dX5_commonDivisor_18 : decode cX5_commonDivisor 18 = .ok (.iload_n 2, 1) := by decide +kernel
theorem dX5_commonDivisor_19 : decode cX5_commonDivisor 19 = .ok (.iload_n 3, 1) := by decide +kernel
theorem dX5_commonDivisor_20 : decode cX5_commonDivisor 20 = .ok (.irem, 1) := by decide +kernel
theorem dX5_commonDivisor_21 : decode cX5_commonDivisor 21 = .ok (.istore 5, 2) := by decide +kernel
theorem dX5_commonDivisor_23 : decode cX5_commonDivisor 23 = .ok (.iload_n 3, 1) := by decide +kernel
theorem dX5_commonDivisor_24 : decode cX5_commonDivisor 24 = .ok (.istore_n 2, 1) := by decide +kernel
theorem dX5_commonDivisor_25 : decode cX5_commonDivisor 25 = .ok (.iload 5, 2) := by decide +kernel
theorem dX5_commonDivisor_27 : decode cX5_commonDivisor 27 = .ok (.istore_n 3, 1) := by decide +kernel
theorem dX5_commonDivisor_28 : decode cX5_commonDivisor 28 = .ok (.iinc 4 1, 3) := by decide +kernel
theorem dX5_commonDivisor_31 : decode cX5_commonDivisor 31 = .ok (.goto (-24), 3) := by decide +kernel
theorem dX5_commonDivisor_34 : decode cX5_commonDivisor 34 = .ok (.iload_n 2, 1) := by decide +kernel
theorem dX5_commonDivisor_35 : decode cX5_commonDivisor 35 = .ok (.ireturn, 1) := by decide +kernel
theorem dX5_draw_0 : decode cX5_draw 0 = .ok (.ldc2_w 248, 3) := by decide +kernel
theorem dX5_draw_3 : decode cX5_draw 3 = .ok (.iload_n 0, 1) := by decide +kernel
theorem dX5_draw_4 : decode cX5_draw 4 = .ok (.i2l, 1) := by decide +kernel
theorem dX5_draw_5 : decode cX5_draw 5 = .ok (.lmul, 1) := by decide +kernel
theorem dX5_draw_6 : decode cX5_draw 6 = .ok (.ldc2_w 250, 3) := by decide +kernel
theorem dX5_draw_9 : decode cX5_draw 9 = .ok (.iload_n 1, 1) := by decide +kernel
theorem dX5_draw_10 : decode cX5_draw 10 = .ok (.i2l, 1) := by decide +kernel
theorem dX5_draw_11 : decode cX5_draw 11 = .ok (.lmul, 1) := by decide +kernel
theorem dX5_draw_12 : decode cX5_draw 12 = .ok (.ladd, 1) := by decide +kernel
theorem dX5_draw_13 : decode cX5_draw 13 = .ok (.lconst 1, 1) := by decide +kernel
theorem dX5_draw_14 : decode cX5_draw 14 = .ok (.ladd, 1) := by decide +kernel
theorem dX5_draw_15 : decode cX5_draw 15 = .ok (.lstore_n 2, 1) := by decide +kernel
theorem dX5_draw_16 : decode cX5_draw 16 = .ok (.lload_n 2, 1) := by decide +kernel
theorem dX5_draw_17 : decode cX5_draw 17 = .ok (.lload_n 2, 1) := by decide +kernel
theorem dX5_draw_18 : decode cX5_draw 18 = .ok (.lmul, 1) := by decide +kernel
theorem dX5_draw_19 : decode cX5_draw 19 = .ok (.ldc2_w 252, 3) := by decide +kernel
theorem dX5_draw_22 : decode cX5_draw 22 = .ok (.lrem, 1) := by decide +kernel
theorem dX5_draw_23 : decode cX5_draw 23 = .ok (.ldc2_w 254, 3) := by decide +kernel
theorem dX5_draw_26 : decode cX5_draw 26 = .ok (.ldiv, 1) := by decide +kernel
theorem dX5_draw_27 : decode cX5_draw 27 = .ok (.l2i, 1) := by decide +kernel
theorem dX5_draw_28 : decode cX5_draw 28 = .ok (.ireturn, 1) := by decide +kernel
theorem dX5_actByDraw_0 : decode cX5_actByDraw 0 = .ok (.iload_n 1, 1) := by decide +kernel
theorem dX5_actByDraw_1 : decode cX5_actByDraw 1 = .ok (.iconst 1, 1) := by decide +kernel
theorem dX5_actByDraw_2 : decode cX5_actByDraw 2 = .ok (.aload_n 0, 1) := by decide +kernel
theorem dX5_actByDraw_3 : decode cX5_actByDraw 3 = .ok (.getfield 19, 3) := by decide +kernel
theorem dX5_actByDraw_6 : decode cX5_actByDraw 6 = .ok (.getfield 89, 3) := by decide +kernel
theorem dX5_actByDraw_9 : decode cX5_actByDraw 9 = .ok (.invokestatic 215, 3) := by decide +kernel
theorem dX5_actByDraw_12 : decode cX5_actByDraw 12 = .ok (.irem, 1) := by decide +kernel
theorem dX5_actByDraw_13 : decode cX5_actByDraw 13 = .ok (.istore_n 2, 1) := by decide +kernel
theorem dX5_actByDraw_14 : decode cX5_actByDraw 14 = .ok (.iload_n 1, 1) := by decide +kernel
theorem dX5_actByDraw_15 : decode cX5_actByDraw 15 = .ok (.bipush 8, 2) := by decide +kernel
theorem dX5_actByDraw_17 : decode cX5_actByDraw 17 = .ok (.idiv, 1) := by decide +kernel
theorem dX5_actByDraw_18 : decode cX5_actByDraw 18 = .ok (.bipush 6, 2) := by decide +kernel
theorem dX5_actByDraw_20 : decode cX5_actByDraw 20 = .ok (.irem, 1) := by decide +kernel
theorem dX5_actByDraw_21 : decode cX5_actByDraw 21 = .ok (.tableswitch 121 0 3 #[31, 53, 75, 98], 31) := by decide +kernel
theorem dX5_actByDraw_52 : decode cX5_actByDraw 52 = .ok (.aload_n 0, 1) := by decide +kernel
theorem dX5_actByDraw_53 : decode cX5_actByDraw 53 = .ok (.getfield 33, 3) := by decide +kernel
theorem dX5_actByDraw_56 : decode cX5_actByDraw 56 = .ok (.iload_n 2, 1) := by decide +kernel
theorem dX5_actByDraw_57 : decode cX5_actByDraw 57 = .ok (.invokevirtual 139, 3) := by decide +kernel
theorem dX5_actByDraw_60 : decode cX5_actByDraw 60 = .ok (.ifCond .eq 82, 3) := by decide +kernel
theorem dX5_actByDraw_63 : decode cX5_actByDraw 63 = .ok (.aload_n 0, 1) := by decide +kernel
theorem dX5_actByDraw_64 : decode cX5_actByDraw 64 = .ok (.getfield 33, 3) := by decide +kernel
theorem dX5_actByDraw_67 : decode cX5_actByDraw 67 = .ok (.iload_n 2, 1) := by decide +kernel
theorem dX5_actByDraw_68 : decode cX5_actByDraw 68 = .ok (.invokevirtual 142, 3) := by decide +kernel
theorem dX5_actByDraw_71 : decode cX5_actByDraw 71 = .ok (.goto 71, 3) := by decide +kernel
theorem dX5_actByDraw_74 : decode cX5_actByDraw 74 = .ok (.aload_n 0, 1) := by decide +kernel
theorem dX5_actByDraw_75 : decode cX5_actByDraw 75 = .ok (.getfield 33, 3) := by decide +kernel
theorem dX5_actByDraw_78 : decode cX5_actByDraw 78 = .ok (.iload_n 2, 1) := by decide +kernel
theorem dX5_actByDraw_79 : decode cX5_actByDraw 79 = .ok (.invokevirtual 145, 3) := by decide +kernel
theorem dX5_actByDraw_82 : decode cX5_actByDraw 82 = .ok (.ifCond .eq 60, 3) := by decide +kernel
theorem dX5_actByDraw_85 : decode cX5_actByDraw 85 = .ok (.aload_n 0, 1) := by decide +kernel
theorem dX5_actByDraw_86 : decode cX5_actByDraw 86 = .ok (.getfield 33, 3) := by decide +kernel
theorem dX5_actByDraw_89 : decode cX5_actByDraw 89 = .ok (.iload_n 2, 1) := by decide +kernel
theorem dX5_actByDraw_90 : decode cX5_actByDraw 90 = .ok (.invokevirtual 148, 3) := by decide +kernel
theorem dX5_actByDraw_93 : decode cX5_actByDraw 93 = .ok (.goto 49, 3) := by decide +kernel
theorem dX5_actByDraw_96 : decode cX5_actByDraw 96 = .ok (.aload_n 0, 1) := by decide +kernel
theorem dX5_actByDraw_97 : decode cX5_actByDraw 97 = .ok (.getfield 33, 3) := by decide +kernel
theorem dX5_actByDraw_100 : decode cX5_actByDraw 100 = .ok (.iconst 4, 1) := by decide +kernel
theorem dX5_actByDraw_101 : decode cX5_actByDraw 101 = .ok (.aload_n 0, 1) := by decide +kernel
theorem dX5_actByDraw_102 : decode cX5_actByDraw 102 = .ok (.getfield 33, 3) := by decide +kernel
theorem dX5_actByDraw_105 : decode cX5_actByDraw 105 = .ok (.getfield 151, 3) := by decide +kernel
theorem dX5_actByDraw_108 : decode cX5_actByDraw 108 = .ok (.iconst 1, 1) := by decide +kernel
theorem dX5_actByDraw_109 : decode cX5_actByDraw 109 = .ok (.iadd, 1) := by decide +kernel
theorem dX5_actByDraw_110 : decode cX5_actByDraw 110 = .ok (.invokestatic 256, 3) := by decide +kernel
theorem dX5_actByDraw_113 : decode cX5_actByDraw 113 = .ok (.putfield 151, 3) := by decide +kernel
theorem dX5_actByDraw_116 : decode cX5_actByDraw 116 = .ok (.goto 26, 3) := by decide +kernel
theorem dX5_actByDraw_119 : decode cX5_actByDraw 119 = .ok (.aload_n 0, 1) := by decide +kernel
theorem dX5_actByDraw_120 : decode cX5_actByDraw 120 = .ok (.getfield 33, 3) := by decide +kernel
theorem dX5_actByDraw_123 : decode cX5_actByDraw 123 = .ok (.iconst 1, 1) := by decide +kernel
theorem dX5_actByDraw_124 : decode cX5_actByDraw 124 = .ok (.aload_n 0, 1) := by decide +kernel
theorem dX5_actByDraw_125 : decode cX5_actByDraw 125 = .ok (.getfield 33, 3) := by decide +kernel
theorem dX5_actByDraw_128 : decode cX5_actByDraw 128 = .ok (.getfield 151, 3) := by decide +kernel
theorem dX5_actByDraw_131 : decode cX5_actByDraw 131 = .ok (.iconst 1, 1) := by decide +kernel
theorem dX5_actByDraw_132 : decode cX5_actByDraw 132 = .ok (.isub, 1) := by decide +kernel
theorem dX5_actByDraw_133 : decode cX5_actByDraw 133 = .ok (.invokestatic 215, 3) := by decide +kernel
theorem dX5_actByDraw_136 : decode cX5_actByDraw 136 = .ok (.putfield 151, 3) := by decide +kernel
theorem dX5_actByDraw_139 : decode cX5_actByDraw 139 = .ok (.goto 3, 3) := by decide +kernel
theorem dX5_actByDraw_142 : decode cX5_actByDraw 142 = .ok (.return_, 1) := by decide +kernel
