set_option maxRecDepth 20000 in
theorem ggX0_goOnFor_X0_goOn : GoodIn wsX0_goOnFor wsX0_goOn := goodIn_r _ [5, 6, 7, 8, 9, 4, 10, 11, 12, 13, 14, 15, 16, 17, 18, 19, 20, 21, 22, 23, 24, 25, 26, 27, 28, 29, 30, 31, 32, 33, 34, 35, 36, 37, 38, 39, 40, 41, 42, 43, 44, 45, 46, 47, 48, 49, 50, 51, 52, 53, 54, 55, 56, 57, 58, 59, 60, 61, 62, 63, 64, 65, 66, 67, 68, 69, 70, 71, 72, 73, 74, 75, 76, 77, 78, 79, 80, 81, 82, 83, 84, 85, 86, 87, 88, 89, 90, 91, 92] (by decide +kernel) (by decide +kernel)
set_option maxRecDepth 20000 in
theorem gX0_goOnFor_X0_goOn : GoodIn wsX0_goOnFor (wsV RX0 50 RX0 yX0_goOn wsX0_goOn) := goodIn_app (goodIn_of _ (by decide +kernel)) ggX0_goOnFor_X0_goOn
set_option maxRecDepth 20000 in
theorem ggX0_goOn_X0_admitWhoCall : GoodIn wsX0_goOn wsX0_admitWhoCall := goodIn_r _ [6, 7, 8, 9, 1, 10, 11, 12, 5, 13, 14, 15, 16, 17, 18, 19, 20, 21, 81, 82, 83, 84, 85, 86, 87, 88, 72, 73, 74, 75, 76, 77, 78, 79, 80] (by decide +kernel) (by decide +kernel)
set_option maxRecDepth 20000 in
theorem gX0_goOn_X0_admitWhoCall : GoodIn wsX0_goOn (wsV RX0 54 RX0 yX0_admitWhoCall wsX0_admitWhoCall) := goodIn_app (goodIn_of _ (by decide +kernel)) ggX0_goOn_X0_admitWhoCall
set_option maxRecDepth 20000 in
theorem ggX0_goOn_X0_admitWhoCallAgain : GoodIn wsX0_goOn wsX0_admitWhoCallAgain := goodIn_r _ [25, 7, 8, 14, 10, 11, 12, 5, 13, 15, 16, 17, 18, 19, 20, 21, 81, 82, 83, 84, 85, 86, 87, 88, 72, 73, 74, 75, 76, 77, 78, 79, 80] (by decide +kernel) (by decide +kernel)
set_option maxRecDepth 20000 in
theorem gX0_goOn_X0_admitWhoCallAgain : GoodIn wsX0_goOn (wsV RX0 57 RX0 yX0_admitWhoCallAgain wsX0_admitWhoCallAgain) := goodIn_app (goodIn_of _ (by decide +kernel)) ggX0_goOn_X0_admitWhoCallAgain
set_option maxRecDepth 20000 in
theorem ggX0_goOn_X0_finishServed : GoodIn wsX0_goOn wsX0_finishServed := goodIn_r _ [29, 7, 8, 1, 30, 31, 81, 82, 83, 84, 85, 86, 87, 88, 72, 73, 74, 75, 76, 77, 78, 79, 80] (by decide +kernel) (by decide +kernel)
set_option maxRecDepth 20000 in
theorem gX0_goOn_X0_finishServed : GoodIn wsX0_goOn (wsV RX0 60 RX0 yX0_finishServed wsX0_finishServed) := goodIn_app (goodIn_of _ (by decide +kernel)) ggX0_goOn_X0_finishServed
set_option maxRecDepth 20000 in
theorem ggX0_goOn_X0_takeNextOnes : GoodIn wsX0_goOn wsX0_takeNextOnes := goodIn_r _ [35, 36, 8, 30, 1, 37, 38, 39, 5, 40, 7, 41, 42, 43, 44, 45, 46, 47, 48, 49, 20, 50, 72, 73, 74, 75, 76, 77, 78, 79, 80, 81, 82, 83, 84, 85, 86, 87, 88] (by decide +kernel) (by decide +kernel)
set_option maxRecDepth 20000 in
theorem gX0_goOn_X0_takeNextOnes : GoodIn wsX0_goOn (wsV RX0 63 RX0 yX0_takeNextOnes wsX0_takeNextOnes) := goodIn_app (goodIn_of _ (by decide +kernel)) ggX0_goOn_X0_takeNextOnes
set_option maxRecDepth 20000 in
theorem ggX0_goOn_X0_waitAMinute : GoodIn wsX0_goOn wsX0_waitAMinute := goodIn_r _ [54, 7, 8, 19, 81, 82, 83, 84, 85, 86, 87, 88, 72, 73, 74, 75, 76, 77, 78, 79, 80] (by decide +kernel) (by decide +kernel)
set_option maxRecDepth 20000 in
theorem gX0_goOn_X0_waitAMinute : GoodIn wsX0_goOn (wsV RX0 66 RX0 yX0_waitAMinute wsX0_waitAMinute) := goodIn_app (goodIn_of _ (by decide +kernel)) ggX0_goOn_X0_waitAMinute
set_option maxRecDepth 20000 in
theorem ggX0_goOn_X0_giveUpAtOnce : GoodIn wsX0_goOn wsX0_giveUpAtOnce := goodIn_r _ [58, 7, 8, 19, 59, 60, 61, 5, 62, 45, 46, 47, 48, 49, 20, 50, 63, 64, 65, 66, 67, 68, 69, 70, 71, 81, 82, 83, 84, 85, 86, 87, 88, 72, 73, 74, 75, 76, 77, 78, 79, 80] (by decide +kernel) (by decide +kernel)
set_option maxRecDepth 20000 in
theorem gX0_goOn_X0_giveUpAtOnce : GoodIn wsX0_goOn (wsV RX0 69 RX0 yX0_giveUpAtOnce wsX0_giveUpAtOnce) := goodIn_app (goodIn_of _ (by decide +kernel)) ggX0_goOn_X0_giveUpAtOnce
set_option maxRecDepth 20000 in
theorem ggX0_admitWhoCall_X0_isCallingAgain : GoodIn wsX0_admitWhoCall wsX0_isCallingAgain := goodIn_r _ [9, 10, 26, 27, 28, 29, 30, 31, 32, 33, 34] (by decide +kernel) (by decide +kernel)
set_option maxRecDepth 20000 in
theorem gX0_admitWhoCall_X0_isCallingAgain : GoodIn wsX0_admitWhoCall (wsV RX0 75 RX0 yX0_isCallingAgain wsX0_isCallingAgain) := goodIn_app (goodIn_of _ (by decide +kernel)) ggX0_admitWhoCall_X0_isCallingAgain
set_option maxRecDepth 20000 in
theorem ggX0_admitWhoCall_X0_admit : GoodIn wsX0_admitWhoCall wsX0_admit := goodIn_r _ [14, 2, 15, 16, 17, 26, 27, 28, 29, 30, 31, 32, 33, 34] (by decide +kernel) (by decide +kernel)
set_option maxRecDepth 20000 in
theorem gX0_admitWhoCall_X0_admit : GoodIn wsX0_admitWhoCall (wsV RX0 82 RX0 yX0_admit wsX0_admit) := goodIn_app (goodIn_of _ (by decide +kernel)) ggX0_admitWhoCall_X0_admit
set_option maxRecDepth 20000 in
theorem ggX0_admitWhoCallAgain_X0_isCallingAgain : GoodIn wsX0_admitWhoCallAgain wsX0_isCallingAgain := goodIn_r _ [8, 3, 24, 25, 26, 27, 28, 29, 30, 31, 32] (by decide +kernel) (by decide +kernel)
set_option maxRecDepth 20000 in
theorem gX0_admitWhoCallAgain_X0_isCallingAgain : GoodIn wsX0_admitWhoCallAgain (wsV RX0 75 RX0 yX0_isCallingAgain wsX0_isCallingAgain) := goodIn_app (goodIn_of _ (by decide +kernel)) ggX0_admitWhoCallAgain_X0_isCallingAgain
set_option maxRecDepth 20000 in
theorem ggX0_admitWhoCallAgain_X0_admit : GoodIn wsX0_admitWhoCallAgain wsX0_admit := goodIn_r _ [12, 2, 13, 14, 15, 24, 25, 26, 27, 28, 29, 30, 31, 32] (by decide +kernel) (by decide +kernel)
set_option maxRecDepth 20000 in
theorem gX0_admitWhoCallAgain_X0_admit : GoodIn wsX0_admitWhoCallAgain (wsV RX0 82 RX0 yX0_admit wsX0_admit) := goodIn_app (goodIn_of _ (by decide +kernel)) ggX0_admitWhoCallAgain_X0_admit
set_option maxRecDepth 20000 in
theorem ggX0_takeNextOnes_X0_countIn : GoodIn wsX0_takeNextOnes wsX0_countIn := goodIn_r _ [9, 10, 2, 31, 32, 33, 34, 35, 36, 37, 38, 22, 23, 24, 25, 26, 27, 28, 29, 30] (by decide +kernel) (by decide +kernel)
set_option maxRecDepth 20000 in
theorem gX0_takeNextOnes_X0_countIn : GoodIn wsX0_takeNextOnes (wsV RX0 89 RX0 yX0_countIn wsX0_countIn) := goodIn_app (goodIn_of _ (by decide +kernel)) ggX0_takeNextOnes_X0_countIn
set_option maxRecDepth 20000 in
theorem ggX0_takeNextOnes_X0_nextOne : GoodIn wsX0_takeNextOnes wsX0_nextOne := goodIn_r _ [14, 10, 2, 15, 16, 17, 8, 18, 19, 20, 21, 31, 32, 33, 34, 35, 36, 37, 38, 22, 23, 24, 25, 26, 27, 28, 29, 30] (by decide +kernel) (by decide +kernel)
set_option maxRecDepth 20000 in
theorem gX0_takeNextOnes_X0_nextOne : GoodIn wsX0_takeNextOnes (wsV RX0 93 RX0 yX0_nextOne wsX0_nextOne) := goodIn_app (goodIn_of _ (by decide +kernel)) ggX0_takeNextOnes_X0_nextOne
set_option maxRecDepth 20000 in
theorem ggX0_nextOne_X0_isAhead : GoodIn wsX0_nextOne wsX0_isAhead := goodIn_r _ [7, 8, 9, 10, 19, 20, 21, 22, 23, 24, 25, 26, 27, 11, 12, 13, 14, 15, 16, 17, 18] (by decide +kernel) (by decide +kernel)
set_option maxRecDepth 20000 in
theorem gX0_nextOne_X0_isAhead : GoodIn wsX0_nextOne (wsV RX0 97 RX0 yX0_isAhead wsX0_isAhead) := goodIn_app (goodIn_of _ (by decide +kernel)) ggX0_nextOne_X0_isAhead
set_option maxRecDepth 20000 in
theorem ggX0_giveUpAtOnce_X0_countAhead : GoodIn wsX0_giveUpAtOnce wsX0_countAhead := goodIn_r _ [8, 1, 2, 9, 10, 11, 7, 12, 13, 14, 15, 25, 26, 27, 28, 29, 30, 31, 32, 33, 34, 35, 36, 37, 38, 39, 40, 41] (by decide +kernel) (by decide +kernel)
set_option maxRecDepth 20000 in
theorem gX0_giveUpAtOnce_X0_countAhead : GoodIn wsX0_giveUpAtOnce (wsV RX0 104 RX0 yX0_countAhead wsX0_countAhead) := goodIn_app (goodIn_of _ (by decide +kernel)) ggX0_giveUpAtOnce_X0_countAhead
set_option maxRecDepth 20000 in
theorem ggX0_giveUpAtOnce_X0_mostBorne : GoodIn wsX0_giveUpAtOnce wsX0_mostBorne := goodIn_r _ [18, 19, 20, 21, 22, 23, 24, 25, 26, 27, 28, 29, 30, 31, 32] (by decide +kernel) (by decide +kernel)
set_option maxRecDepth 20000 in
theorem gX0_giveUpAtOnce_X0_mostBorne : GoodIn wsX0_giveUpAtOnce (va_wsS RX0 107 yX0_mostBorne wsX0_mostBorne) := goodIn_app (goodIn_of _ (by decide +kernel)) ggX0_giveUpAtOnce_X0_mostBorne
set_option maxRecDepth 20000 in
theorem ggX0_countAhead_X0_isAhead : GoodIn wsX0_countAhead wsX0_isAhead := goodIn_r _ [7, 8, 9, 10, 19, 20, 21, 22, 23, 24, 25, 26, 27, 11, 12, 13, 14, 15, 16, 17, 18] (by decide +kernel) (by decide +kernel)
set_option maxRecDepth 20000 in
theorem gX0_countAhead_X0_isAhead : GoodIn wsX0_countAhead (wsV RX0 97 RX0 yX0_isAhead wsX0_isAhead) := goodIn_app (goodIn_of _ (by decide +kernel)) ggX0_countAhead_X0_isAhead
theorem dX0_init_0 : decode cX0_init 0 = .ok (.aload_n 0, 1) := by decide +kernel
theorem dX0_init_1 : decode cX0_init 1 = .ok (.invokespecial 3, 3) := by decide +kernel
theorem dX0_init_4 : decode cX0_init 4 = .ok (.aload_n 0, 1) := by decide +kernel
theorem dX0_init_5 : decode cX0_init 5 = .ok (.bipush 8, 2) := by decide +kernel
theorem dX0_init_7 : decode cX0_init 7 = .ok (.newarray .int, 2) := by decide +kernel
theorem dX0_init_9 : decode cX0_init 9 = .ok (.putfield 9, 3) := by decide +kernel
theorem dX0_init_12 : decode cX0_init 12 = .ok (.aload_n 0, 1) := by decide +kernel
theorem dX0_init_13 : decode cX0_init 13 = .ok (.bipush 8, 2) := by decide +kernel
theorem dX0_init_15 : decode cX0_init 15 = .ok (.newarray .int, 2) := by decide +kernel
theorem dX0_init_17 : decode cX0_init 17 = .ok (.putfield 15, 3) := by decide +kernel
theorem dX0_init_20 : decode cX0_init 20 = .ok (.aload_n 0, 1) := by decide +kernel
theorem dX0_init_21 : decode cX0_init 21 = .ok (.bipush 8, 2) := by decide +kernel
theorem dX0_init_23 : decode cX0_init 23 = .ok (.newarray .int, 2) := by decide +kernel
theorem dX0_init_25 : decode cX0_init 25 = .ok (.putfield 18, 3) := by decide +kernel
theorem dX0_init_28 : decode cX0_init 28 = .ok (.aload_n 0, 1) := by decide +kernel
theorem dX0_init_29 : decode cX0_init 29 = .ok (.bipush 8, 2) := by decide +kernel
theorem dX0_init_31 : decode cX0_init 31 = .ok (.newarray .int, 2) := by decide +kernel
theorem dX0_init_33 : decode cX0_init 33 = .ok (.putfield 21, 3) := by decide +kernel
theorem dX0_init_36 : decode cX0_init 36 = .ok (.return_, 1) := by decide +kernel
theorem dX0_start_0 : decode cX0_start 0 = .ok (.iconst 0, 1) := by decide +kernel
theorem dX0_start_1 : decode cX0_start 1 = .ok (.istore_n 2, 1) := by decide +kernel
theorem dX0_start_2 : decode cX0_start 2 = .ok (.iload_n 2, 1) := by decide +kernel
theorem dX0_start_3 : decode cX0_start 3 = .ok (.bipush 8, 2) := by decide +kernel
theorem dX0_start_5 : decode cX0_start 5 = .ok (.if_icmp .ge 37, 3) := by decide +kernel
theorem dX0_start_8 : decode cX0_start 8 = .ok (.aload_n 0, 1) := by decide +kernel
theorem dX0_start_9 : decode cX0_start 9 = .ok (.getfield 9, 3) := by decide +kernel
theorem dX0_start_12 : decode cX0_start 12 = .ok (.iload_n 2, 1) := by decide +kernel
theorem dX0_start_13 : decode cX0_start 13 = .ok (.iconst 0, 1) := by decide +kernel
theorem dX0_start_14 : decode cX0_start 14 = .ok (.iastore, 1) := by decide +kernel
theorem dX0_start_15 : decode cX0_start 15 = .ok (.aload_n 0, 1) := by decide +kernel
theorem dX0_start_16 : decode cX0_start 16 = .ok (.getfield 15, 3) := by decide +kernel
theorem dX0_start_19 : decode cX0_start 19 = .ok (.iload_n 2, 1) := by decide +kernel
theorem dX0_start_20 : decode cX0_start 20 = .ok (.iconst 0, 1) := by decide +kernel
theorem dX0_start_21 : decode cX0_start 21 = .ok (.iastore, 1) := by decide +kernel
theorem dX0_start_22 : decode cX0_start 22 = .ok (.aload_n 0, 1) := by decide +kernel
theorem dX0_start_23 : decode cX0_start 23 = .ok (.getfield 18, 3) := by decide +kernel
theorem dX0_start_26 : decode cX0_start 26 = .ok (.iload_n 2, 1) := by decide +kernel
theorem dX0_start_27 : decode cX0_start 27 = .ok (.iconst 0, 1) := by decide +kernel
theorem dX0_start_28 : decode cX0_start 28 = .ok (.iastore, 1) := by decide +kernel
theorem dX0_start_29 : decode cX0_start 29 = .ok (.aload_n 0, 1) := by decide +kernel
theorem dX0_start_30 : decode cX0_start 30 = .ok (.getfield 21, 3) := by decide +kernel
theorem dX0_start_33 : decode cX0_start 33 = .ok (.iload_n 2, 1) := by decide +kernel
theorem dX0_start_34 : decode cX0_start 34 = .ok (.iconst 0, 1) := by decide +kernel
theorem dX0_start_35 : decode cX0_start 35 = .ok (.iastore, 1) := by decide +kernel
theorem dX0_start_36 : decode cX0_start 36 = .ok (.iinc 2 1, 3) := by decide +kernel
theorem dX0_start_39 : decode cX0_start 39 = .ok (.goto (-37), 3) := by decide +kernel
theorem dX0_start_42 : decode cX0_start 42 = .ok (.aload_n 0, 1) := by decide +kernel
theorem dX0_start_43 : decode cX0_start 43 = .ok (.iconst 0, 1) := by decide +kernel
theorem dX0_start_44 : decode cX0_start 44 = .ok (.putfield 24, 3) := by decide +kernel
theorem dX0_start_47 : decode cX0_start 47 = .ok (.aload_n 0, 1) := by decide +kernel
theorem dX0_start_48 : decode cX0_start 48 = .ok (.iconst 0, 1) := by decide +kernel
theorem dX0_start_49 : decode cX0_start 49 = .ok (.putfield 28, 3) := by decide +kernel
theorem dX0_start_52 : decode cX0_start 52 = .ok (.aload_n 0, 1) := by decide +kernel
theorem dX0_start_53 : decode cX0_start 53 = .ok (.iconst 0, 1) := by decide +kernel
theorem dX0_start_54 : decode cX0_start 54 = .ok (.putfield 31, 3) := by decide +kernel
theorem dX0_start_57 : decode cX0_start 57 = .ok (.aload_n 0, 1) := by decide +kernel
theorem dX0_start_58 : decode cX0_start 58 = .ok (.aload_n 1, 1) := by decide +kernel
theorem dX0_start_59 : decode cX0_start 59 = .ok (.getfield 34, 3) := by decide +kernel
theorem dX0_start_62 : decode cX0_start 62 = .ok (.putfield 39, 3) := by decide +kernel
theorem dX0_start_65 : decode cX0_start 65 = .ok (.aload_n 0, 1) := by decide +kernel
theorem dX0_start_66 : decode cX0_start 66 = .ok (.aload_n 1, 1) := by decide +kernel
theorem dX0_start_67 : decode cX0_start 67 = .ok (.getfield 40, 3) := by decide +kernel
theorem dX0_start_70 : decode cX0_start 70 = .ok (.putfield 43, 3) := by decide +kernel
theorem dX0_start_73 : decode cX0_start 73 = .ok (.return_, 1) := by decide +kernel
theorem dX0_copyFrom_0 : decode cX0_copyFrom 0 = .ok (.aload_n 1, 1) := by decide +kernel
theorem dX0_copyFrom_1 : decode cX0_copyFrom 1 = .ok (.getfield 9, 3) := by decide +kernel
theorem dX0_copyFrom_4 : decode cX0_copyFrom 4 = .ok (.iconst 0, 1) := by decide +kernel
theorem dX0_copyFrom_5 : decode cX0_copyFrom 5 = .ok (.aload_n 0, 1) := by decide +kernel
theorem dX0_copyFrom_6 : decode cX0_copyFrom 6 = .ok (.getfield 9, 3) := by decide +kernel
theorem dX0_copyFrom_9 : decode cX0_copyFrom 9 = .ok (.iconst 0, 1) := by decide +kernel
theorem dX0_copyFrom_10 : decode cX0_copyFrom 10 = .ok (.bipush 8, 2) := by decide +kernel
theorem dX0_copyFrom_12 : decode cX0_copyFrom 12 = .ok (.invokestatic 44, 3) := by decide +kernel
theorem dX0_copyFrom_15 : decode cX0_copyFrom 15 = .ok (.aload_n 1, 1) := by decide +kernel
theorem dX0_copyFrom_16 : decode cX0_copyFrom 16 = .ok (.getfield 15, 3) := by decide +kernel
theorem dX0_copyFrom_19 : decode cX0_copyFrom 19 = .ok (.iconst 0, 1) := by decide +kernel
theorem dX0_copyFrom_20 : decode cX0_copyFrom 20 = .ok (.aload_n 0, 1) := by decide +kernel
theorem dX0_copyFrom_21 : decode cX0_copyFrom 21 = .ok (.getfield 15, 3) := by decide +kernel
theorem dX0_copyFrom_24 : decode cX0_copyFrom 24 = .ok (.iconst 0, 1) := by decide +kernel
theorem dX0_copyFrom_25 : decode cX0_copyFrom 25 = .ok (.bipush 8, 2) := by decide +kernel
theorem dX0_copyFrom_27 : decode cX0_copyFrom 27 = .ok (.invokestatic 44, 3) := by decide +kernel
theorem dX0_copyFrom_30 : decode cX0_copyFrom 30 = .ok (.aload_n 1, 1) := by decide +kernel
theorem dX0_copyFrom_31 : decode cX0_copyFrom 31 = .ok (.getfield 18, 3) := by decide +kernel
theorem dX0_copyFrom_34 : decode cX0_copyFrom 34 = .ok (.iconst 0, 1) := by decide +kernel
theorem dX0_copyFrom_35 : decode cX0_copyFrom 35 = .ok (.aload_n 0, 1) := by decide +kernel
theorem dX0_copyFrom_36 : decode cX0_copyFrom 36 = .ok (.getfield 18, 3) := by decide +kernel
theorem dX0_copyFrom_39 : decode cX0_copyFrom 39 = .ok (.iconst 0, 1) := by decide +kernel
theorem dX0_copyFrom_40 : decode cX0_copyFrom 40 = .ok (.bipush 8, 2) := by decide +kernel
theorem dX0_copyFrom_42 : decode cX0_copyFrom 42 = .ok (.invokestatic 44, 3) := by decide +kernel
theorem dX0_copyFrom_45 : decode cX0_copyFrom 45 = .ok (.aload_n 1, 1) := by decide +kernel
theorem dX0_copyFrom_46 : decode cX0_copyFrom 46 = .ok (.getfield 21, 3) := by decide +kernel
theorem dX0_copyFrom_49 : decode cX0_copyFrom 49 = .ok (.iconst 0, 1) := by decide +kernel
theorem dX0_copyFrom_50 : decode cX0_copyFrom 50 = .ok (.aload_n 0, 1) := by decide +kernel
theorem dX0_copyFrom_51 : decode cX0_copyFrom 51 = .ok (.getfield 21, 3) := by decide +kernel
theorem dX0_copyFrom_54 : decode cX0_copyFrom 54 = .ok (.iconst 0, 1) := by decide +kernel
theorem dX0_copyFrom_55 : decode cX0_copyFrom 55 = .ok (.bipush 8, 2) := by decide +kernel
theorem dX0_copyFrom_57 : decode cX0_copyFrom 57 = .ok (.invokestatic 44, 3) := by decide +kernel
theorem dX0_copyFrom_60 : decode cX0_copyFrom 60 = .ok (.aload_n 0, 1) := by decide +kernel
theorem dX0_copyFrom_61 : decode cX0_copyFrom 61 = .ok (.aload_n 1, 1) := by decide +kernel
theorem dX0_copyFrom_62 : decode cX0_copyFrom 62 = .ok (.getfield 24, 3) := by decide +kernel
theorem dX0_copyFrom_65 : decode cX0_copyFrom 65 = .ok (.putfield 24, 3) := by decide +kernel
theorem dX0_copyFrom_68 : decode cX0_copyFrom 68 = .ok (.aload_n 0, 1) := by decide +kernel
theorem dX0_copyFrom_69 : decode cX0_copyFrom 69 = .ok (.aload_n 1, 1) := by decide +kernel
theorem dX0_copyFrom_70 : decode cX0_copyFrom 70 = .ok (.getfield 28, 3) := by decide +kernel
theorem dX0_copyFrom_73 : decode cX0_copyFrom 73 = .ok (.putfield 28, 3) := by decide +kernel
theorem dX0_copyFrom_76 : decode cX0_copyFrom 76 = .ok (.aload_n 0, 1) := by decide +kernel
theorem dX0_copyFrom_77 : decode cX0_copyFrom 77 = .ok (.aload_n 1, 1) := by decide +kernel
theorem dX0_copyFrom_78 : decode cX0_copyFrom 78 = .ok (.getfield 31, 3) := by decide +kernel
theorem dX0_copyFrom_81 : decode cX0_copyFrom 81 = .ok (.putfield 31, 3) := by decide +kernel
theorem dX0_copyFrom_84 : decode cX0_copyFrom 84 = .ok (.aload_n 0, 1) := by decide +kernel
theorem dX0_copyFrom_85 : decode cX0_copyFrom 85 = .ok (.aload_n 1, 1) := by decide +kernel
theorem dX0_copyFrom_86 : decode cX0_copyFrom 86 = .ok (.getfield 39, 3) := by decide +kernel
theorem dX0_copyFrom_89 : decode cX0_copyFrom 89 = .ok (.putfield 39, 3) := by decide +kernel
theorem dX0_copyFrom_92 : decode cX0_copyFrom 92 = .ok (.aload_n 0, 1) := by decide +kernel
theorem dX0_copyFrom_93 : decode cX0_copyFrom 93 = .ok (.aload_n 1, 1) := by decide +kernel
theorem dX0_copyFrom_94 : decode cX0_copyFrom 94 = .ok (.getfield 43, 3) := by decide +kernel
theorem dX0_copyFrom_97 : decode cX0_copyFrom 97 = .ok (.putfield 43, 3) := by decide +kernel
theorem dX0_copyFrom_100 : decode cX0_copyFrom 100 = .ok (.return_, 1) := by decide +kernel
theorem dX0_goOnFor_0 : decode cX0_goOnFor 0 = .ok (.iconst 0, 1) := by decide +kernel
theorem dX0_goOnFor_1 : decode cX0_goOnFor 1 = .ok (.istore_n 3, 1) := by decide +kernel
theorem dX0_goOnFor_2 : decode cX0_goOnFor 2 = .ok (.iload_n 3, 1) := by decide +kernel
theorem dX0_goOnFor_3 : decode cX0_goOnFor 3 = .ok (.iload_n 2, 1) := by decide +kernel
theorem dX0_goOnFor_4 : decode cX0_goOnFor 4 = .ok (.if_icmp .ge 14, 3) := by decide +kernel
theorem dX0_goOnFor_7 : decode cX0_goOnFor 7 = .ok (.aload_n 0, 1) := by decide +kernel
theorem dX0_goOnFor_8 : decode cX0_goOnFor 8 = .ok (.aload_n 1, 1) := by decide +kernel
theorem dX0_goOnFor_9 : decode cX0_goOnFor 9 = .ok (.invokevirtual 50, 3) := by decide +kernel
theorem dX0_goOnFor_12 : decode cX0_goOnFor 12 = .ok (.iinc 3 1, 3) := by decide +kernel
theorem dX0_goOnFor_15 : decode cX0_goOnFor 15 = .ok (.goto (-13), 3) := by decide +kernel
theorem dX0_goOnFor_18 : decode cX0_goOnFor 18 = .ok (.return_, 1) := by decide +kernel
theorem dX0_goOn_0 : decode cX0_goOn 0 = .ok (.aload_n 0, 1) := by decide +kernel
theorem dX0_goOn_1 : decode cX0_goOn 1 = .ok (.aload_n 1, 1) := by decide +kernel
theorem dX0_goOn_2 : decode cX0_goOn 2 = .ok (.invokevirtual 54, 3) := by decide +kernel
theorem dX0_goOn_5 : decode cX0_goOn 5 = .ok (.aload_n 0, 1) := by decide +kernel
theorem dX0_goOn_6 : decode cX0_goOn 6 = .ok (.aload_n 1, 1) := by decide +kernel
theorem dX0_goOn_7 : decode cX0_goOn 7 = .ok (.invokevirtual 57, 3) := by decide +kernel
theorem dX0_goOn_10 : decode cX0_goOn 10 = .ok (.aload_n 0, 1) := by decide +kernel
theorem dX0_goOn_11 : decode cX0_goOn 11 = .ok (.aload_n 1, 1) := by decide +kernel
theorem dX0_goOn_12 : decode cX0_goOn 12 = .ok (.invokevirtual 60, 3) := by decide +kernel
theorem dX0_goOn_15 : decode cX0_goOn 15 = .ok (.aload_n 0, 1) := by decide +kernel
theorem dX0_goOn_16 : decode cX0_goOn 16 = .ok (.aload_n 1, 1) := by decide +kernel
theorem dX0_goOn_17 : decode cX0_goOn 17 = .ok (.invokevirtual 63, 3) := by decide +kernel
theorem dX0_goOn_20 : decode cX0_goOn 20 = .ok (.aload_n 0, 1) := by decide +kernel
theorem dX0_goOn_21 : decode cX0_goOn 21 = .ok (.aload_n 1, 1) := by decide +kernel
theorem dX0_goOn_22 : decode cX0_goOn 22 = .ok (.invokevirtual 66, 3) := by decide +kernel
theorem dX0_goOn_25 : decode cX0_goOn 25 = .ok (.aload_n 0, 1) := by decide +kernel
theorem dX0_goOn_26 : decode cX0_goOn 26 = .ok (.aload_n 1, 1) := by decide +kernel
theorem dX0_goOn_27 : decode cX0_goOn 27 = .ok (.invokevirtual 69, 3) := by decide +kernel
theorem dX0_goOn_30 : decode cX0_goOn 30 = .ok (.aload_n 0, 1) := by decide +kernel
theorem dX0_goOn_31 : decode cX0_goOn 31 = .ok (.dup, 1) := by decide +kernel
theorem dX0_goOn_32 : decode cX0_goOn 32 = .ok (.getfield 31, 3) := by decide +kernel
theorem dX0_goOn_35 : decode cX0_goOn 35 = .ok (.iconst 1, 1) := by decide +kernel
theorem dX0_goOn_36 : decode cX0_goOn 36 = .ok (.iadd, 1) := by decide +kernel
theorem dX0_goOn_37 : decode cX0_goOn 37 = .ok (.putfield 31, 3) := by decide +kernel
theorem dX0_goOn_40 : decode cX0_goOn 40 = .ok (.return_, 1) := by decide +kernel
theorem dX0_admitWhoCall_0 : decode cX0_admitWhoCall 0 = .ok (.iconst 0, 1) := by decide +kernel
theorem dX0_admitWhoCall_1 : decode cX0_admitWhoCall 1 = .ok (.istore_n 2, 1) := by decide +kernel
theorem dX0_admitWhoCall_2 : decode cX0_admitWhoCall 2 = .ok (.iload_n 2, 1) := by decide +kernel
theorem dX0_admitWhoCall_3 : decode cX0_admitWhoCall 3 = .ok (.aload_n 1, 1) := by decide +kernel
theorem dX0_admitWhoCall_4 : decode cX0_admitWhoCall 4 = .ok (.getfield 72, 3) := by decide +kernel
theorem dX0_admitWhoCall_7 : decode cX0_admitWhoCall 7 = .ok (.if_icmp .ge 44, 3) := by decide +kernel
theorem dX0_admitWhoCall_10 : decode cX0_admitWhoCall 10 = .ok (.aload_n 0, 1) := by decide +kernel
theorem dX0_admitWhoCall_11 : decode cX0_admitWhoCall 11 = .ok (.getfield 9, 3) := by decide +kernel
theorem dX0_admitWhoCall_14 : decode cX0_admitWhoCall 14 = .ok (.iload_n 2, 1) := by decide +kernel
theorem dX0_admitWhoCall_15 : decode cX0_admitWhoCall 15 = .ok (.iaload, 1) := by decide +kernel
theorem dX0_admitWhoCall_16 : decode cX0_admitWhoCall 16 = .ok (.ifCond .ne 29, 3) := by decide +kernel
theorem dX0_admitWhoCall_19 : decode cX0_admitWhoCall 19 = .ok (.aload_n 0, 1) := by decide +kernel
theorem dX0_admitWhoCall_20 : decode cX0_admitWhoCall 20 = .ok (.iload_n 2, 1) := by decide +kernel
theorem dX0_admitWhoCall_21 : decode cX0_admitWhoCall 21 = .ok (.invokevirtual 75, 3) := by decide +kernel
theorem dX0_admitWhoCall_24 : decode cX0_admitWhoCall 24 = .ok (.ifCond .ne 21, 3) := by decide +kernel
theorem dX0_admitWhoCall_27 : decode cX0_admitWhoCall 27 = .ok (.aload_n 1, 1) := by decide +kernel
theorem dX0_admitWhoCall_28 : decode cX0_admitWhoCall 28 = .ok (.getfield 79, 3) := by decide +kernel
theorem dX0_admitWhoCall_31 : decode cX0_admitWhoCall 31 = .ok (.iload_n 2, 1) := by decide +kernel
theorem dX0_admitWhoCall_32 : decode cX0_admitWhoCall 32 = .ok (.iaload, 1) := by decide +kernel
theorem dX0_admitWhoCall_33 : decode cX0_admitWhoCall 33 = .ok (.aload_n 0, 1) := by decide +kernel
theorem dX0_admitWhoCall_34 : decode cX0_admitWhoCall 34 = .ok (.getfield 31, 3) := by decide +kernel
theorem dX0_admitWhoCall_37 : decode cX0_admitWhoCall 37 = .ok (.if_icmp .ne 8, 3) := by decide +kernel
theorem dX0_admitWhoCall_40 : decode cX0_admitWhoCall 40 = .ok (.aload_n 0, 1) := by decide +kernel
theorem dX0_admitWhoCall_41 : decode cX0_admitWhoCall 41 = .ok (.iload_n 2, 1) := by decide +kernel
theorem dX0_admitWhoCall_42 : decode cX0_admitWhoCall 42 = .ok (.invokevirtual 82, 3) := by decide +kernel
theorem dX0_admitWhoCall_45 : decode cX0_admitWhoCall 45 = .ok (.iinc 2 1, 3) := by decide +kernel
theorem dX0_admitWhoCall_48 : decode cX0_admitWhoCall 48 = .ok (.goto (-46), 3) := by decide +kernel
theorem dX0_admitWhoCall_51 : decode cX0_admitWhoCall 51 = .ok (.return_, 1) := by decide +kernel
theorem dX0_admitWhoCallAgain_0 : decode cX0_admitWhoCallAgain 0 = .ok (.iconst 0, 1) := by decide +kernel
theorem dX0_admitWhoCallAgain_1 : decode cX0_admitWhoCallAgain 1 = .ok (.istore_n 2, 1) := by decide +kernel
theorem dX0_admitWhoCallAgain_2 : decode cX0_admitWhoCallAgain 2 = .ok (.iload_n 2, 1) := by decide +kernel
theorem dX0_admitWhoCallAgain_3 : decode cX0_admitWhoCallAgain 3 = .ok (.aload_n 1, 1) := by decide +kernel
theorem dX0_admitWhoCallAgain_4 : decode cX0_admitWhoCallAgain 4 = .ok (.getfield 72, 3) := by decide +kernel
theorem dX0_admitWhoCallAgain_7 : decode cX0_admitWhoCallAgain 7 = .ok (.if_icmp .ge 31, 3) := by decide +kernel
theorem dX0_admitWhoCallAgain_10 : decode cX0_admitWhoCallAgain 10 = .ok (.aload_n 0, 1) := by decide +kernel
theorem dX0_admitWhoCallAgain_11 : decode cX0_admitWhoCallAgain 11 = .ok (.getfield 9, 3) := by decide +kernel
theorem dX0_admitWhoCallAgain_14 : decode cX0_admitWhoCallAgain 14 = .ok (.iload_n 2, 1) := by decide +kernel
theorem dX0_admitWhoCallAgain_15 : decode cX0_admitWhoCallAgain 15 = .ok (.iaload, 1) := by decide +kernel
theorem dX0_admitWhoCallAgain_16 : decode cX0_admitWhoCallAgain 16 = .ok (.ifCond .ne 16, 3) := by decide +kernel
theorem dX0_admitWhoCallAgain_19 : decode cX0_admitWhoCallAgain 19 = .ok (.aload_n 0, 1) := by decide +kernel
theorem dX0_admitWhoCallAgain_20 : decode cX0_admitWhoCallAgain 20 = .ok (.iload_n 2, 1) := by decide +kernel
theorem dX0_admitWhoCallAgain_21 : decode cX0_admitWhoCallAgain 21 = .ok (.invokevirtual 75, 3) := by decide +kernel
theorem dX0_admitWhoCallAgain_24 : decode cX0_admitWhoCallAgain 24 = .ok (.ifCond .eq 8, 3) := by decide +kernel
theorem dX0_admitWhoCallAgain_27 : decode cX0_admitWhoCallAgain 27 = .ok (.aload_n 0, 1) := by decide +kernel
theorem dX0_admitWhoCallAgain_28 : decode cX0_admitWhoCallAgain 28 = .ok (.iload_n 2, 1) := by decide +kernel
theorem dX0_admitWhoCallAgain_29 : decode cX0_admitWhoCallAgain 29 = .ok (.invokevirtual 82, 3) := by decide +kernel
theorem dX0_admitWhoCallAgain_32 : decode cX0_admitWhoCallAgain 32 = .ok (.iinc 2 1, 3) := by decide +kernel
theorem dX0_admitWhoCallAgain_35 : decode cX0_admitWhoCallAgain 35 = .ok (.goto (-33), 3) := by decide +kernel
theorem dX0_admitWhoCallAgain_38 : decode cX0_admitWhoCallAgain 38 = .ok (.aload_n 0, 1) := by decide +kernel
theorem dX0_admitWhoCallAgain_39 : decode cX0_admitWhoCallAgain 39 = .ok (.iconst 0, 1) := by decide +kernel
theorem dX0_admitWhoCallAgain_40 : decode cX0_admitWhoCallAgain 40 = .ok (.putfield 24, 3) := by decide +kernel
theorem dX0_admitWhoCallAgain_43 : decode cX0_admitWhoCallAgain 43 = .ok (.return_, 1) := by decide +kernel
theorem dX0_isCallingAgain_0 : decode cX0_isCallingAgain 0 = .ok (.aload_n 0, 1) := by decide +kernel
theorem dX0_isCallingAgain_1 : decode cX0_isCallingAgain 1 = .ok (.getfield 24, 3) := by decide +kernel
theorem dX0_isCallingAgain_4 : decode cX0_isCallingAgain 4 = .ok (.iload_n 1, 1) := by decide +kernel
theorem dX0_isCallingAgain_5 : decode cX0_isCallingAgain 5 = .ok (.ishr, 1) := by decide +kernel
theorem dX0_isCallingAgain_6 : decode cX0_isCallingAgain 6 = .ok (.iconst 1, 1) := by decide +kernel
theorem dX0_isCallingAgain_7 : decode cX0_isCallingAgain 7 = .ok (.iand, 1) := by decide +kernel
theorem dX0_isCallingAgain_8 : decode cX0_isCallingAgain 8 = .ok (.iconst 1, 1) := by decide +kernel
theorem dX0_isCallingAgain_9 : decode cX0_isCallingAgain 9 = .ok (.if_icmp .ne 7, 3) := by decide +kernel
theorem dX0_isCallingAgain_12 : decode cX0_isCallingAgain 12 = .ok (.iconst 1, 1) := by decide +kernel
theorem dX0_isCallingAgain_13 : decode cX0_isCallingAgain 13 = .ok (.goto 4, 3) := by decide +kernel
theorem dX0_isCallingAgain_16 : decode cX0_isCallingAgain 16 = .ok (.iconst 0, 1) := by decide +kernel
theorem dX0_isCallingAgain_17 : decode cX0_isCallingAgain 17 = .ok (.ireturn, 1) := by decide +kernel
theorem dX0_admit_0 : decode cX0_admit 0 = .ok (.aload_n 0, 1) := by decide +kernel
theorem dX0_admit_1 : decode cX0_admit 1 = .ok (.getfield 9, 3) := by decide +kernel
theorem dX0_admit_4 : decode cX0_admit 4 = .ok (.iload_n 1, 1) := by decide +kernel
theorem dX0_admit_5 : decode cX0_admit 5 = .ok (.iconst 1, 1) := by decide +kernel
theorem dX0_admit_6 : decode cX0_admit 6 = .ok (.iastore, 1) := by decide +kernel
theorem dX0_admit_7 : decode cX0_admit 7 = .ok (.aload_n 0, 1) := by decide +kernel
theorem dX0_admit_8 : decode cX0_admit 8 = .ok (.getfield 15, 3) := by decide +kernel
theorem dX0_admit_11 : decode cX0_admit 11 = .ok (.iload_n 1, 1) := by decide +kernel
theorem dX0_admit_12 : decode cX0_admit 12 = .ok (.iconst 0, 1) := by decide +kernel
theorem dX0_admit_13 : decode cX0_admit 13 = .ok (.iastore, 1) := by decide +kernel
theorem dX0_admit_14 : decode cX0_admit 14 = .ok (.aload_n 0, 1) := by decide +kernel
theorem dX0_admit_15 : decode cX0_admit 15 = .ok (.getfield 18, 3) := by decide +kernel
theorem dX0_admit_18 : decode cX0_admit 18 = .ok (.iload_n 1, 1) := by decide +kernel
theorem dX0_admit_19 : decode cX0_admit 19 = .ok (.aload_n 0, 1) := by decide +kernel
theorem dX0_admit_20 : decode cX0_admit 20 = .ok (.getfield 28, 3) := by decide +kernel
theorem dX0_admit_23 : decode cX0_admit 23 = .ok (.iastore, 1) := by decide +kernel
theorem dX0_admit_24 : decode cX0_admit 24 = .ok (.aload_n 0, 1) := by decide +kernel
theorem dX0_admit_25 : decode cX0_admit 25 = .ok (.dup, 1) := by decide +kernel
theorem dX0_admit_26 : decode cX0_admit 26 = .ok (.getfield 28, 3) := by decide +kernel
theorem dX0_admit_29 : decode cX0_admit 29 = .ok (.iconst 1, 1) := by decide +kernel
theorem dX0_admit_30 : decode cX0_admit 30 = .ok (.iadd, 1) := by decide +kernel
theorem dX0_admit_31 : decode cX0_admit 31 = .ok (.putfield 28, 3) := by decide +kernel
theorem dX0_admit_34 : decode cX0_admit 34 = .ok (.return_, 1) := by decide +kernel
theorem dX0_finishServed_0 : decode cX0_finishServed 0 = .ok (.iconst 0, 1) := by decide +kernel
theorem dX0_finishServed_1 : decode cX0_finishServed 1 = .ok (.istore_n 2, 1) := by decide +kernel
theorem dX0_finishServed_2 : decode cX0_finishServed 2 = .ok (.iload_n 2, 1) := by decide +kernel
theorem dX0_finishServed_3 : decode cX0_finishServed 3 = .ok (.aload_n 1, 1) := by decide +kernel
theorem dX0_finishServed_4 : decode cX0_finishServed 4 = .ok (.getfield 72, 3) := by decide +kernel
theorem dX0_finishServed_7 : decode cX0_finishServed 7 = .ok (.if_icmp .ge 44, 3) := by decide +kernel
theorem dX0_finishServed_10 : decode cX0_finishServed 10 = .ok (.aload_n 0, 1) := by decide +kernel
theorem dX0_finishServed_11 : decode cX0_finishServed 11 = .ok (.getfield 9, 3) := by decide +kernel
theorem dX0_finishServed_14 : decode cX0_finishServed 14 = .ok (.iload_n 2, 1) := by decide +kernel
theorem dX0_finishServed_15 : decode cX0_finishServed 15 = .ok (.iaload, 1) := by decide +kernel
theorem dX0_finishServed_16 : decode cX0_finishServed 16 = .ok (.iconst 2, 1) := by decide +kernel
theorem dX0_finishServed_17 : decode cX0_finishServed 17 = .ok (.if_icmp .ne 28, 3) := by decide +kernel
theorem dX0_finishServed_20 : decode cX0_finishServed 20 = .ok (.aload_n 0, 1) := by decide +kernel
theorem dX0_finishServed_21 : decode cX0_finishServed 21 = .ok (.getfield 31, 3) := by decide +kernel
theorem dX0_finishServed_24 : decode cX0_finishServed 24 = .ok (.aload_n 0, 1) := by decide +kernel
theorem dX0_finishServed_25 : decode cX0_finishServed 25 = .ok (.getfield 21, 3) := by decide +kernel
theorem dX0_finishServed_28 : decode cX0_finishServed 28 = .ok (.iload_n 2, 1) := by decide +kernel
theorem dX0_finishServed_29 : decode cX0_finishServed 29 = .ok (.iaload, 1) := by decide +kernel
theorem dX0_finishServed_30 : decode cX0_finishServed 30 = .ok (.isub, 1) := by decide +kernel
theorem dX0_finishServed_31 : decode cX0_finishServed 31 = .ok (.aload_n 1, 1) := by decide +kernel
theorem dX0_finishServed_32 : decode cX0_finishServed 32 = .ok (.getfield 86, 3) := by decide +kernel
theorem dX0_finishServed_35 : decode cX0_finishServed 35 = .ok (.if_icmp .lt 10, 3) := by decide +kernel
theorem dX0_finishServed_38 : decode cX0_finishServed 38 = .ok (.aload_n 0, 1) := by decide +kernel
theorem dX0_finishServed_39 : decode cX0_finishServed 39 = .ok (.getfield 9, 3) := by decide +kernel
theorem dX0_finishServed_42 : decode cX0_finishServed 42 = .ok (.iload_n 2, 1) := by decide +kernel
theorem dX0_finishServed_43 : decode cX0_finishServed 43 = .ok (.iconst 3, 1) := by decide +kernel
theorem dX0_finishServed_44 : decode cX0_finishServed 44 = .ok (.iastore, 1) := by decide +kernel
theorem dX0_finishServed_45 : decode cX0_finishServed 45 = .ok (.iinc 2 1, 3) := by decide +kernel
theorem dX0_finishServed_48 : decode cX0_finishServed 48 = .ok (.goto (-46), 3) := by decide +kernel
theorem dX0_finishServed_51 : decode cX0_finishServed 51 = .ok (.return_, 1) := by decide +kernel
theorem dX0_takeNextOnes_0 : decode cX0_takeNextOnes 0 = .ok (.aload_n 0, 1) := by decide +kernel
theorem dX0_takeNextOnes_1 : decode cX0_takeNextOnes 1 = .ok (.getfield 39, 3) := by decide +kernel
theorem dX0_takeNextOnes_4 : decode cX0_takeNextOnes 4 = .ok (.aload_n 0, 1) := by decide +kernel
theorem dX0_takeNextOnes_5 : decode cX0_takeNextOnes 5 = .ok (.aload_n 1, 1) := by decide +kernel
theorem dX0_takeNextOnes_6 : decode cX0_takeNextOnes 6 = .ok (.iconst 2, 1) := by decide +kernel
theorem dX0_takeNextOnes_7 : decode cX0_takeNextOnes 7 = .ok (.invokevirtual 89, 3) := by decide +kernel
theorem dX0_takeNextOnes_10 : decode cX0_takeNextOnes 10 = .ok (.isub, 1) := by decide +kernel
theorem dX0_takeNextOnes_11 : decode cX0_takeNextOnes 11 = .ok (.istore_n 2, 1) := by decide +kernel
theorem dX0_takeNextOnes_12 : decode cX0_takeNextOnes 12 = .ok (.iconst 0, 1) := by decide +kernel
theorem dX0_takeNextOnes_13 : decode cX0_takeNextOnes 13 = .ok (.istore_n 3, 1) := by decide +kernel
theorem dX0_takeNextOnes_14 : decode cX0_takeNextOnes 14 = .ok (.iload_n 3, 1) := by decide +kernel
theorem dX0_takeNextOnes_15 : decode cX0_takeNextOnes 15 = .ok (.iload_n 2, 1) := by decide +kernel
theorem dX0_takeNextOnes_16 : decode cX0_takeNextOnes 16 = .ok (.if_icmp .ge 43, 3) := by decide +kernel
theorem dX0_takeNextOnes_19 : decode cX0_takeNextOnes 19 = .ok (.aload_n 0, 1) := by decide +kernel
theorem dX0_takeNextOnes_20 : decode cX0_takeNextOnes 20 = .ok (.aload_n 1, 1) := by decide +kernel
theorem dX0_takeNextOnes_21 : decode cX0_takeNextOnes 21 = .ok (.invokevirtual 93, 3) := by decide +kernel
theorem dX0_takeNextOnes_24 : decode cX0_takeNextOnes 24 = .ok (.istore 4, 2) := by decide +kernel
theorem dX0_takeNextOnes_26 : decode cX0_takeNextOnes 26 = .ok (.iload 4, 2) := by decide +kernel
theorem dX0_takeNextOnes_28 : decode cX0_takeNextOnes 28 = .ok (.bipush (-4), 2) := by decide +kernel
theorem dX0_takeNextOnes_30 : decode cX0_takeNextOnes 30 = .ok (.if_icmp .ne 4, 3) := by decide +kernel
theorem dX0_takeNextOnes_33 : decode cX0_takeNextOnes 33 = .ok (.return_, 1) := by decide +kernel
theorem dX0_takeNextOnes_34 : decode cX0_takeNextOnes 34 = .ok (.aload_n 0, 1) := by decide +kernel
theorem dX0_takeNextOnes_35 : decode cX0_takeNextOnes 35 = .ok (.getfield 9, 3) := by decide +kernel
theorem dX0_takeNextOnes_38 : decode cX0_takeNextOnes 38 = .ok (.iload 4, 2) := by decide +kernel
theorem dX0_takeNextOnes_40 : decode cX0_takeNextOnes 40 = .ok (.iconst 2, 1) := by decide +kernel
theorem dX0_takeNextOnes_41 : decode cX0_takeNextOnes 41 = .ok (.iastore, 1) := by decide +kernel
theorem dX0_takeNextOnes_42 : decode cX0_takeNextOnes 42 = .ok (.aload_n 0, 1) := by decide +kernel
theorem dX0_takeNextOnes_43 : decode cX0_takeNextOnes 43 = .ok (.getfield 21, 3) := by decide +kernel
theorem dX0_takeNextOnes_46 : decode cX0_takeNextOnes 46 = .ok (.iload 4, 2) := by decide +kernel
theorem dX0_takeNextOnes_48 : decode cX0_takeNextOnes 48 = .ok (.aload_n 0, 1) := by decide +kernel
theorem dX0_takeNextOnes_49 : decode cX0_takeNextOnes 49 = .ok (.getfield 31, 3) := by decide +kernel
theorem dX0_takeNextOnes_52 : decode cX0_takeNextOnes 52 = .ok (.iastore, 1) := by decide +kernel
theorem dX0_takeNextOnes_53 : decode cX0_takeNextOnes 53 = .ok (.iinc 3 1, 3) := by decide +kernel
theorem dX0_takeNextOnes_56 : decode cX0_takeNextOnes 56 = .ok (.goto (-42), 3) := by decide +kernel
theorem dX0_takeNextOnes_59 : decode cX0_takeNextOnes 59 = .ok (.return_, 1) := by decide +kernel
theorem dX0_nextOne_0 : decode cX0_nextOne 0 = .ok (.bipush (-4), 2) := by decide +kernel
theorem dX0_nextOne_2 : decode cX0_nextOne 2 = .ok (.istore_n 2, 1) := by decide +kernel
theorem dX0_nextOne_3 : decode cX0_nextOne 3 = .ok (.iconst 0, 1) := by decide +kernel
theorem dX0_nextOne_4 : decode cX0_nextOne 4 = .ok (.istore_n 3, 1) := by decide +kernel
theorem dX0_nextOne_5 : decode cX0_nextOne 5 = .ok (.iload_n 3, 1) := by decide +kernel
theorem dX0_nextOne_6 : decode cX0_nextOne 6 = .ok (.aload_n 1, 1) := by decide +kernel
theorem dX0_nextOne_7 : decode cX0_nextOne 7 = .ok (.getfield 72, 3) := by decide +kernel
theorem dX0_nextOne_10 : decode cX0_nextOne 10 = .ok (.if_icmp .ge 37, 3) := by decide +kernel
theorem dX0_nextOne_13 : decode cX0_nextOne 13 = .ok (.aload_n 0, 1) := by decide +kernel
theorem dX0_nextOne_14 : decode cX0_nextOne 14 = .ok (.getfield 9, 3) := by decide +kernel
theorem dX0_nextOne_17 : decode cX0_nextOne 17 = .ok (.iload_n 3, 1) := by decide +kernel
theorem dX0_nextOne_18 : decode cX0_nextOne 18 = .ok (.iaload, 1) := by decide +kernel
theorem dX0_nextOne_19 : decode cX0_nextOne 19 = .ok (.iconst 1, 1) := by decide +kernel
theorem dX0_nextOne_20 : decode cX0_nextOne 20 = .ok (.if_icmp .ne 21, 3) := by decide +kernel
theorem dX0_nextOne_23 : decode cX0_nextOne 23 = .ok (.iload_n 2, 1) := by decide +kernel
theorem dX0_nextOne_24 : decode cX0_nextOne 24 = .ok (.bipush (-4), 2) := by decide +kernel
theorem dX0_nextOne_26 : decode cX0_nextOne 26 = .ok (.if_icmp .eq 13, 3) := by decide +kernel
theorem dX0_nextOne_29 : decode cX0_nextOne 29 = .ok (.aload_n 0, 1) := by decide +kernel
theorem dX0_nextOne_30 : decode cX0_nextOne 30 = .ok (.aload_n 1, 1) := by decide +kernel
theorem dX0_nextOne_31 : decode cX0_nextOne 31 = .ok (.iload_n 3, 1) := by decide +kernel
theorem dX0_nextOne_32 : decode cX0_nextOne 32 = .ok (.iload_n 2, 1) := by decide +kernel
theorem dX0_nextOne_33 : decode cX0_nextOne 33 = .ok (.invokevirtual 97, 3) := by decide +kernel
theorem dX0_nextOne_36 : decode cX0_nextOne 36 = .ok (.ifCond .eq 5, 3) := by decide +kernel
theorem dX0_nextOne_39 : decode cX0_nextOne 39 = .ok (.iload_n 3, 1) := by decide +kernel
theorem dX0_nextOne_40 : decode cX0_nextOne 40 = .ok (.istore_n 2, 1) := by decide +kernel
theorem dX0_nextOne_41 : decode cX0_nextOne 41 = .ok (.iinc 3 1, 3) := by decide +kernel
theorem dX0_nextOne_44 : decode cX0_nextOne 44 = .ok (.goto (-39), 3) := by decide +kernel
theorem dX0_nextOne_47 : decode cX0_nextOne 47 = .ok (.iload_n 2, 1) := by decide +kernel
theorem dX0_nextOne_48 : decode cX0_nextOne 48 = .ok (.ireturn, 1) := by decide +kernel
theorem dX0_isAhead_0 : decode cX0_isAhead 0 = .ok (.aload_n 0, 1) := by decide +kernel
theorem dX0_isAhead_1 : decode cX0_isAhead 1 = .ok (.getfield 43, 3) := by decide +kernel
theorem dX0_isAhead_4 : decode cX0_isAhead 4 = .ok (.iconst 1, 1) := by decide +kernel
theorem dX0_isAhead_5 : decode cX0_isAhead 5 = .ok (.if_icmp .ne 24, 3) := by decide +kernel
theorem dX0_isAhead_8 : decode cX0_isAhead 8 = .ok (.aload_n 0, 1) := by decide +kernel
theorem dX0_isAhead_9 : decode cX0_isAhead 9 = .ok (.getfield 18, 3) := by decide +kernel
theorem dX0_isAhead_12 : decode cX0_isAhead 12 = .ok (.iload_n 2, 1) := by decide +kernel
theorem dX0_isAhead_13 : decode cX0_isAhead 13 = .ok (.iaload, 1) := by decide +kernel
theorem dX0_isAhead_14 : decode cX0_isAhead 14 = .ok (.aload_n 0, 1) := by decide +kernel
theorem dX0_isAhead_15 : decode cX0_isAhead 15 = .ok (.getfield 18, 3) := by decide +kernel
theorem dX0_isAhead_18 : decode cX0_isAhead 18 = .ok (.iload_n 3, 1) := by decide +kernel
theorem dX0_isAhead_19 : decode cX0_isAhead 19 = .ok (.iaload, 1) := by decide +kernel
theorem dX0_isAhead_20 : decode cX0_isAhead 20 = .ok (.if_icmp .le 7, 3) := by decide +kernel
theorem dX0_isAhead_23 : decode cX0_isAhead 23 = .ok (.iconst 1, 1) := by decide +kernel
theorem dX0_isAhead_24 : decode cX0_isAhead 24 = .ok (.goto 4, 3) := by decide +kernel
theorem dX0_isAhead_27 : decode cX0_isAhead 27 = .ok (.iconst 0, 1) := by decide +kernel
theorem dX0_isAhead_28 : decode cX0_isAhead 28 = .ok (.ireturn, 1) := by decide +kernel
theorem dX0_isAhead_29 : decode cX0_isAhead 29 = .ok (.aload_n 0, 1) := by decide +kernel
theorem dX0_isAhead_30 : decode cX0_isAhead 30 = .ok (.getfield 43, 3) := by decide +kernel
theorem dX0_isAhead_33 : decode cX0_isAhead 33 = .ok (.iconst 2, 1) := by decide +kernel
theorem dX0_isAhead_34 : decode cX0_isAhead 34 = .ok (.if_icmp .ne 39, 3) := by decide +kernel
theorem dX0_isAhead_37 : decode cX0_isAhead 37 = .ok (.aload_n 1, 1) := by decide +kernel
theorem dX0_isAhead_38 : decode cX0_isAhead 38 = .ok (.getfield 101, 3) := by decide +kernel
theorem dX0_isAhead_41 : decode cX0_isAhead 41 = .ok (.iload_n 2, 1) := by decide +kernel
theorem dX0_isAhead_42 : decode cX0_isAhead 42 = .ok (.iaload, 1) := by decide +kernel
theorem dX0_isAhead_43 : decode cX0_isAhead 43 = .ok (.aload_n 1, 1) := by decide +kernel
theorem dX0_isAhead_44 : decode cX0_isAhead 44 = .ok (.getfield 101, 3) := by decide +kernel
theorem dX0_isAhead_47 : decode cX0_isAhead 47 = .ok (.iload_n 3, 1) := by decide +kernel
theorem dX0_isAhead_48 : decode cX0_isAhead 48 = .ok (.iaload, 1) := by decide +kernel
theorem dX0_isAhead_49 : decode cX0_isAhead 49 = .ok (.if_icmp .eq 24, 3) := by decide +kernel
theorem dX0_isAhead_52 : decode cX0_isAhead 52 = .ok (.aload_n 1, 1) := by decide +kernel
theorem dX0_isAhead_53 : decode cX0_isAhead 53 = .ok (.getfield 101, 3) := by decide +kernel
theorem dX0_isAhead_56 : decode cX0_isAhead 56 = .ok (.iload_n 2, 1) := by decide +kernel
theorem dX0_isAhead_57 : decode cX0_isAhead 57 = .ok (.iaload, 1) := by decide +kernel
theorem dX0_isAhead_58 : decode cX0_isAhead 58 = .ok (.aload_n 1, 1) := by decide +kernel
theorem dX0_isAhead_59 : decode cX0_isAhead 59 = .ok (.getfield 101, 3) := by decide +kernel
theorem dX0_isAhead_62 : decode cX0_isAhead 62 = .ok (.iload_n 3, 1) := by decide +kernel
theorem dX0_isAhead_63 : decode cX0_isAhead 63 = .ok (.iaload, 1) := by decide +kernel
theorem dX0_isAhead_64 : decode cX0_isAhead 64 = .ok (.if_icmp .le 7, 3) := by decide +kernel
theorem dX0_isAhead_67 : decode cX0_isAhead 67 = .ok (.iconst 1, 1) := by decide +kernel
theorem dX0_isAhead_68 : decode cX0_isAhead 68 = .ok (.goto 4, 3) := by decide +kernel
theorem dX0_isAhead_71 : decode cX0_isAhead 71 = .ok (.iconst 0, 1) := by decide +kernel
theorem dX0_isAhead_72 : decode cX0_isAhead 72 = .ok (.ireturn, 1) := by decide +kernel
theorem dX0_isAhead_73 : decode cX0_isAhead 73 = .ok (.aload_n 0, 1) := by decide +kernel
theorem dX0_isAhead_74 : decode cX0_isAhead 74 = .ok (.getfield 18, 3) := by decide +kernel
theorem dX0_isAhead_77 : decode cX0_isAhead 77 = .ok (.iload_n 2, 1) := by decide +kernel
theorem dX0_isAhead_78 : decode cX0_isAhead 78 = .ok (.iaload, 1) := by decide +kernel
theorem dX0_isAhead_79 : decode cX0_isAhead 79 = .ok (.aload_n 0, 1) := by decide +kernel
theorem dX0_isAhead_80 : decode cX0_isAhead 80 = .ok (.getfield 18, 3) := by decide +kernel
theorem dX0_isAhead_83 : decode cX0_isAhead 83 = .ok (.iload_n 3, 1) := by decide +kernel
theorem dX0_isAhead_84 : decode cX0_isAhead 84 = .ok (.iaload, 1) := by decide +kernel
theorem dX0_isAhead_85 : decode cX0_isAhead 85 = .ok (.if_icmp .ge 7, 3) := by decide +kernel
theorem dX0_isAhead_88 : decode cX0_isAhead 88 = .ok (.iconst 1, 1) := by decide +kernel
theorem dX0_isAhead_89 : decode cX0_isAhead 89 = .ok (.goto 4, 3) := by decide +kernel
theorem dX0_isAhead_92 : decode cX0_isAhead 92 = .ok (.iconst 0, 1) := by decide +kernel
theorem dX0_isAhead_93 : decode cX0_isAhead 93 = .ok (.ireturn, 1) := by decide +kernel
theorem dX0_waitAMinute_0 : decode cX0_waitAMinute 0 = .ok (.iconst 0, 1) := by decide +kernel
theorem dX0_waitAMinute_1 : decode cX0_waitAMinute 1 = .ok (.istore_n 2, 1) := by decide +kernel
theorem dX0_waitAMinute_2 : decode cX0_waitAMinute 2 = .ok (.iload_n 2, 1) := by decide +kernel
theorem dX0_waitAMinute_3 : decode cX0_waitAMinute 3 = .ok (.aload_n 1, 1) := by decide +kernel
theorem dX0_waitAMinute_4 : decode cX0_waitAMinute 4 = .ok (.getfield 72, 3) := by decide +kernel
theorem dX0_waitAMinute_7 : decode cX0_waitAMinute 7 = .ok (.if_icmp .ge 29, 3) := by decide +kernel
theorem dX0_waitAMinute_10 : decode cX0_waitAMinute 10 = .ok (.aload_n 0, 1) := by decide +kernel
theorem dX0_waitAMinute_11 : decode cX0_waitAMinute 11 = .ok (.getfield 9, 3) := by decide +kernel
theorem dX0_waitAMinute_14 : decode cX0_waitAMinute 14 = .ok (.iload_n 2, 1) := by decide +kernel
theorem dX0_waitAMinute_15 : decode cX0_waitAMinute 15 = .ok (.iaload, 1) := by decide +kernel
theorem dX0_waitAMinute_16 : decode cX0_waitAMinute 16 = .ok (.iconst 1, 1) := by decide +kernel
theorem dX0_waitAMinute_17 : decode cX0_waitAMinute 17 = .ok (.if_icmp .ne 13, 3) := by decide +kernel
theorem dX0_waitAMinute_20 : decode cX0_waitAMinute 20 = .ok (.aload_n 0, 1) := by decide +kernel
theorem dX0_waitAMinute_21 : decode cX0_waitAMinute 21 = .ok (.getfield 15, 3) := by decide +kernel
theorem dX0_waitAMinute_24 : decode cX0_waitAMinute 24 = .ok (.iload_n 2, 1) := by decide +kernel
theorem dX0_waitAMinute_25 : decode cX0_waitAMinute 25 = .ok (.dup2, 1) := by decide +kernel
theorem dX0_waitAMinute_26 : decode cX0_waitAMinute 26 = .ok (.iaload, 1) := by decide +kernel
theorem dX0_waitAMinute_27 : decode cX0_waitAMinute 27 = .ok (.iconst 1, 1) := by decide +kernel
theorem dX0_waitAMinute_28 : decode cX0_waitAMinute 28 = .ok (.iadd, 1) := by decide +kernel
theorem dX0_waitAMinute_29 : decode cX0_waitAMinute 29 = .ok (.iastore, 1) := by decide +kernel
theorem dX0_waitAMinute_30 : decode cX0_waitAMinute 30 = .ok (.iinc 2 1, 3) := by decide +kernel
theorem dX0_waitAMinute_33 : decode cX0_waitAMinute 33 = .ok (.goto (-31), 3) := by decide +kernel
theorem dX0_waitAMinute_36 : decode cX0_waitAMinute 36 = .ok (.return_, 1) := by decide +kernel
theorem dX0_giveUpAtOnce_0 : decode cX0_giveUpAtOnce 0 = .ok (.iconst 0, 1) := by decide +kernel
theorem dX0_giveUpAtOnce_1 : decode cX0_giveUpAtOnce 1 = .ok (.istore_n 2, 1) := by decide +kernel
theorem dX0_giveUpAtOnce_2 : decode cX0_giveUpAtOnce 2 = .ok (.iconst 0, 1) := by decide +kernel
theorem dX0_giveUpAtOnce_3 : decode cX0_giveUpAtOnce 3 = .ok (.istore_n 3, 1) := by decide +kernel
theorem dX0_giveUpAtOnce_4 : decode cX0_giveUpAtOnce 4 = .ok (.iload_n 3, 1) := by decide +kernel
theorem dX0_giveUpAtOnce_5 : decode cX0_giveUpAtOnce 5 = .ok (.aload_n 1, 1) := by decide +kernel
theorem dX0_giveUpAtOnce_6 : decode cX0_giveUpAtOnce 6 = .ok (.getfield 72, 3) := by decide +kernel
theorem dX0_giveUpAtOnce_9 : decode cX0_giveUpAtOnce 9 = .ok (.if_icmp .ge 56, 3) := by decide +kernel
theorem dX0_giveUpAtOnce_12 : decode cX0_giveUpAtOnce 12 = .ok (.aload_n 0, 1) := by decide +kernel
theorem dX0_giveUpAtOnce_13 : decode cX0_giveUpAtOnce 13 = .ok (.getfield 9, 3) := by decide +kernel
theorem dX0_giveUpAtOnce_16 : decode cX0_giveUpAtOnce 16 = .ok (.iload_n 3, 1) := by decide +kernel
theorem dX0_giveUpAtOnce_17 : decode cX0_giveUpAtOnce 17 = .ok (.iaload, 1) := by decide +kernel
theorem dX0_giveUpAtOnce_18 : decode cX0_giveUpAtOnce 18 = .ok (.iconst 1, 1) := by decide +kernel
theorem dX0_giveUpAtOnce_19 : decode cX0_giveUpAtOnce 19 = .ok (.if_icmp .ne 40, 3) := by decide +kernel
theorem dX0_giveUpAtOnce_22 : decode cX0_giveUpAtOnce 22 = .ok (.aload_n 1, 1) := by decide +kernel
theorem dX0_giveUpAtOnce_23 : decode cX0_giveUpAtOnce 23 = .ok (.iload_n 3, 1) := by decide +kernel
theorem dX0_giveUpAtOnce_24 : decode cX0_giveUpAtOnce 24 = .ok (.aload_n 0, 1) := by decide +kernel
theorem dX0_giveUpAtOnce_25 : decode cX0_giveUpAtOnce 25 = .ok (.aload_n 1, 1) := by decide +kernel
theorem dX0_giveUpAtOnce_26 : decode cX0_giveUpAtOnce 26 = .ok (.iload_n 3, 1) := by decide +kernel
theorem dX0_giveUpAtOnce_27 : decode cX0_giveUpAtOnce 27 = .ok (.invokevirtual 104, 3) := by decide +kernel
theorem dX0_giveUpAtOnce_30 : decode cX0_giveUpAtOnce 30 = .ok (.invokestatic 107, 3) := by decide +kernel
theorem dX0_giveUpAtOnce_33 : decode cX0_giveUpAtOnce 33 = .ok (.istore 4, 2) := by decide +kernel
theorem dX0_giveUpAtOnce_35 : decode cX0_giveUpAtOnce 35 = .ok (.iload 4, 2) := by decide +kernel
theorem dX0_giveUpAtOnce_37 : decode cX0_giveUpAtOnce 37 = .ok (.bipush (-4), 2) := by decide +kernel
theorem dX0_giveUpAtOnce_39 : decode cX0_giveUpAtOnce 39 = .ok (.if_icmp .eq 20, 3) := by decide +kernel
theorem dX0_giveUpAtOnce_42 : decode cX0_giveUpAtOnce 42 = .ok (.aload_n 0, 1) := by decide +kernel
theorem dX0_giveUpAtOnce_43 : decode cX0_giveUpAtOnce 43 = .ok (.getfield 15, 3) := by decide +kernel
theorem dX0_giveUpAtOnce_46 : decode cX0_giveUpAtOnce 46 = .ok (.iload_n 3, 1) := by decide +kernel
theorem dX0_giveUpAtOnce_47 : decode cX0_giveUpAtOnce 47 = .ok (.iaload, 1) := by decide +kernel
theorem dX0_giveUpAtOnce_48 : decode cX0_giveUpAtOnce 48 = .ok (.iload 4, 2) := by decide +kernel
theorem dX0_giveUpAtOnce_50 : decode cX0_giveUpAtOnce 50 = .ok (.if_icmp .lt 9, 3) := by decide +kernel
theorem dX0_giveUpAtOnce_53 : decode cX0_giveUpAtOnce 53 = .ok (.iload_n 2, 1) := by decide +kernel
theorem dX0_giveUpAtOnce_54 : decode cX0_giveUpAtOnce 54 = .ok (.iconst 1, 1) := by decide +kernel
theorem dX0_giveUpAtOnce_55 : decode cX0_giveUpAtOnce 55 = .ok (.iload_n 3, 1) := by decide +kernel
theorem dX0_giveUpAtOnce_56 : decode cX0_giveUpAtOnce 56 = .ok (.ishl, 1) := by decide +kernel
theorem dX0_giveUpAtOnce_57 : decode cX0_giveUpAtOnce 57 = .ok (.ior, 1) := by decide +kernel
theorem dX0_giveUpAtOnce_58 : decode cX0_giveUpAtOnce 58 = .ok (.istore_n 2, 1) := by decide +kernel
theorem dX0_giveUpAtOnce_59 : decode cX0_giveUpAtOnce 59 = .ok (.iinc 3 1, 3) := by decide +kernel
theorem dX0_giveUpAtOnce_62 : decode cX0_giveUpAtOnce 62 = .ok (.goto (-58), 3) := by decide +kernel
theorem dX0_giveUpAtOnce_65 : decode cX0_giveUpAtOnce 65 = .ok (.iconst 0, 1) := by decide +kernel
theorem dX0_giveUpAtOnce_66 : decode cX0_giveUpAtOnce 66 = .ok (.istore_n 3, 1) := by decide +kernel
theorem dX0_giveUpAtOnce_67 : decode cX0_giveUpAtOnce 67 = .ok (.iload_n 3, 1) := by decide +kernel
theorem dX0_giveUpAtOnce_68 : decode cX0_giveUpAtOnce 68 = .ok (.aload_n 1, 1) := by decide +kernel
theorem dX0_giveUpAtOnce_69 : decode cX0_giveUpAtOnce 69 = .ok (.getfield 72, 3) := by decide +kernel
theorem dX0_giveUpAtOnce_72 : decode cX0_giveUpAtOnce 72 = .ok (.if_icmp .ge 25, 3) := by decide +kernel
theorem dX0_giveUpAtOnce_75 : decode cX0_giveUpAtOnce 75 = .ok (.iload_n 2, 1) := by decide +kernel
theorem dX0_giveUpAtOnce_76 : decode cX0_giveUpAtOnce 76 = .ok (.iload_n 3, 1) := by decide +kernel
theorem dX0_giveUpAtOnce_77 : decode cX0_giveUpAtOnce 77 = .ok (.ishr, 1) := by decide +kernel
theorem dX0_giveUpAtOnce_78 : decode cX0_giveUpAtOnce 78 = .ok (.iconst 1, 1) := by decide +kernel
theorem dX0_giveUpAtOnce_79 : decode cX0_giveUpAtOnce 79 = .ok (.iand, 1) := by decide +kernel
theorem dX0_giveUpAtOnce_80 : decode cX0_giveUpAtOnce 80 = .ok (.iconst 1, 1) := by decide +kernel
theorem dX0_giveUpAtOnce_81 : decode cX0_giveUpAtOnce 81 = .ok (.if_icmp .ne 10, 3) := by decide +kernel
theorem dX0_giveUpAtOnce_84 : decode cX0_giveUpAtOnce 84 = .ok (.aload_n 0, 1) := by decide +kernel
theorem dX0_giveUpAtOnce_85 : decode cX0_giveUpAtOnce 85 = .ok (.getfield 9, 3) := by decide +kernel
theorem dX0_giveUpAtOnce_88 : decode cX0_giveUpAtOnce 88 = .ok (.iload_n 3, 1) := by decide +kernel
theorem dX0_giveUpAtOnce_89 : decode cX0_giveUpAtOnce 89 = .ok (.iconst 4, 1) := by decide +kernel
theorem dX0_giveUpAtOnce_90 : decode cX0_giveUpAtOnce 90 = .ok (.iastore, 1) := by decide +kernel
theorem dX0_giveUpAtOnce_91 : decode cX0_giveUpAtOnce 91 = .ok (.iinc 3 1, 3) := by decide +kernel
theorem dX0_giveUpAtOnce_94 : decode cX0_giveUpAtOnce 94 = .ok (.goto (-27), 3) := by decide +kernel
theorem dX0_giveUpAtOnce_97 : decode cX0_giveUpAtOnce 97 = .ok (.return_, 1) := by decide +kernel
theorem dX0_mostBorne_0 : decode cX0_mostBorne 0 = .ok (.aload_n 0, 1) := by decide +kernel
theorem dX0_mostBorne_1 : decode cX0_mostBorne 1 = .ok (.getfield 111, 3) := by decide +kernel
theorem dX0_mostBorne_4 : decode cX0_mostBorne 4 = .ok (.iload_n 1, 1) := by decide +kernel
theorem dX0_mostBorne_5 : decode cX0_mostBorne 5 = .ok (.iaload, 1) := by decide +kernel
theorem dX0_mostBorne_6 : decode cX0_mostBorne 6 = .ok (.istore_n 3, 1) := by decide +kernel
theorem dX0_mostBorne_7 : decode cX0_mostBorne 7 = .ok (.aload_n 0, 1) := by decide +kernel
theorem dX0_mostBorne_8 : decode cX0_mostBorne 8 = .ok (.getfield 114, 3) := by decide +kernel
theorem dX0_mostBorne_11 : decode cX0_mostBorne 11 = .ok (.iload_n 1, 1) := by decide +kernel
theorem dX0_mostBorne_12 : decode cX0_mostBorne 12 = .ok (.iaload, 1) := by decide +kernel
theorem dX0_mostBorne_13 : decode cX0_mostBorne 13 = .ok (.tableswitch 51 1 3 #[27, 39, 43], 27) := by decide +kernel
theorem dX0_mostBorne_40 : decode cX0_mostBorne 40 = .ok (.iload_n 2, 1) := by decide +kernel
theorem dX0_mostBorne_41 : decode cX0_mostBorne 41 = .ok (.iconst 2, 1) := by decide +kernel
theorem dX0_mostBorne_42 : decode cX0_mostBorne 42 = .ok (.if_icmp .lt 7, 3) := by decide +kernel
theorem dX0_mostBorne_45 : decode cX0_mostBorne 45 = .ok (.iload_n 3, 1) := by decide +kernel
theorem dX0_mostBorne_46 : decode cX0_mostBorne 46 = .ok (.goto 5, 3) := by decide +kernel
theorem dX0_mostBorne_49 : decode cX0_mostBorne 49 = .ok (.bipush (-4), 2) := by decide +kernel
theorem dX0_mostBorne_51 : decode cX0_mostBorne 51 = .ok (.ireturn, 1) := by decide +kernel
theorem dX0_mostBorne_52 : decode cX0_mostBorne 52 = .ok (.iconst 2, 1) := by decide +kernel
theorem dX0_mostBorne_53 : decode cX0_mostBorne 53 = .ok (.iload_n 3, 1) := by decide +kernel
theorem dX0_mostBorne_54 : decode cX0_mostBorne 54 = .ok (.imul, 1) := by decide +kernel
theorem dX0_mostBorne_55 : decode cX0_mostBorne 55 = .ok (.ireturn, 1) := by decide +kernel
theorem dX0_mostBorne_56 : decode cX0_mostBorne 56 = .ok (.iconst 1, 1) := by decide +kernel
theorem dX0_mostBorne_57 : decode cX0_mostBorne 57 = .ok (.iload_n 3, 1) := by decide +kernel
theorem dX0_mostBorne_58 : decode cX0_mostBorne 58 = .ok (.iload_n 2, 1) := by decide +kernel
theorem dX0_mostBorne_59 : decode cX0_mostBorne 59 = .ok (.isub, 1) := by decide +kernel
theorem dX0_mostBorne_60 : decode cX0_mostBorne 60 = .ok (.invokestatic 117, 3) := by decide +kernel
theorem dX0_mostBorne_63 : decode cX0_mostBorne 63 = .ok (.ireturn, 1) := by decide +kernel
theorem dX0_mostBorne_64 : decode cX0_mostBorne 64 = .ok (.iload_n 3, 1) := by decide +kernel
theorem dX0_mostBorne_65 : decode cX0_mostBorne 65 = .ok (.ireturn, 1) := by decide +kernel
theorem dX0_countAhead_0 : decode cX0_countAhead 0 = .ok (.iconst 0, 1) := by decide +kernel
theorem dX0_countAhead_1 : decode cX0_countAhead 1 = .ok (.istore_n 3, 1) := by decide +kernel
theorem dX0_countAhead_2 : decode cX0_countAhead 2 = .ok (.iconst 0, 1) := by decide +kernel
theorem dX0_countAhead_3 : decode cX0_countAhead 3 = .ok (.istore 4, 2) := by decide +kernel
theorem dX0_countAhead_5 : decode cX0_countAhead 5 = .ok (.iload 4, 2) := by decide +kernel
theorem dX0_countAhead_7 : decode cX0_countAhead 7 = .ok (.aload_n 1, 1) := by decide +kernel
theorem dX0_countAhead_8 : decode cX0_countAhead 8 = .ok (.getfield 72, 3) := by decide +kernel
theorem dX0_countAhead_11 : decode cX0_countAhead 11 = .ok (.if_icmp .ge 34, 3) := by decide +kernel
theorem dX0_countAhead_14 : decode cX0_countAhead 14 = .ok (.aload_n 0, 1) := by decide +kernel
theorem dX0_countAhead_15 : decode cX0_countAhead 15 = .ok (.getfield 9, 3) := by decide +kernel
theorem dX0_countAhead_18 : decode cX0_countAhead 18 = .ok (.iload 4, 2) := by decide +kernel
theorem dX0_countAhead_20 : decode cX0_countAhead 20 = .ok (.iaload, 1) := by decide +kernel
theorem dX0_countAhead_21 : decode cX0_countAhead 21 = .ok (.iconst 1, 1) := by decide +kernel
theorem dX0_countAhead_22 : decode cX0_countAhead 22 = .ok (.if_icmp .ne 17, 3) := by decide +kernel
theorem dX0_countAhead_25 : decode cX0_countAhead 25 = .ok (.aload_n 0, 1) := by decide +kernel
theorem dX0_countAhead_26 : decode cX0_countAhead 26 = .ok (.aload_n 1, 1) := by decide +kernel
theorem dX0_countAhead_27 : decode cX0_countAhead 27 = .ok (.iload 4, 2) := by decide +kernel
theorem dX0_countAhead_29 : decode cX0_countAhead 29 = .ok (.iload_n 2, 1) := by decide +kernel
theorem dX0_countAhead_30 : decode cX0_countAhead 30 = .ok (.invokevirtual 97, 3) := by decide +kernel
theorem dX0_countAhead_33 : decode cX0_countAhead 33 = .ok (.ifCond .eq 6, 3) := by decide +kernel
theorem dX0_countAhead_36 : decode cX0_countAhead 36 = .ok (.iinc 3 1, 3) := by decide +kernel
theorem dX0_countAhead_39 : decode cX0_countAhead 39 = .ok (.iinc 4 1, 3) := by decide +kernel
theorem dX0_countAhead_42 : decode cX0_countAhead 42 = .ok (.goto (-37), 3) := by decide +kernel
theorem dX0_countAhead_45 : decode cX0_countAhead 45 = .ok (.iload_n 3, 1) := by decide +kernel
theorem dX0_countAhead_46 : decode cX0_countAhead 46 = .ok (.ireturn, 1) := by decide +kernel
theorem dX0_canHangUp_0 : decode cX0_canHangUp 0 = .ok (.aload_n 0, 1) := by decide +kernel
theorem dX0_canHangUp_1 : decode cX0_canHangUp 1 = .ok (.getfield 9, 3) := by decide +kernel
theorem dX0_canHangUp_4 : decode cX0_canHangUp 4 = .ok (.iload_n 1, 1) := by decide +kernel
theorem dX0_canHangUp_5 : decode cX0_canHangUp 5 = .ok (.iaload, 1) := by decide +kernel
theorem dX0_canHangUp_6 : decode cX0_canHangUp 6 = .ok (.iconst 1, 1) := by decide +kernel
theorem dX0_canHangUp_7 : decode cX0_canHangUp 7 = .ok (.if_icmp .ne 7, 3) := by decide +kernel
theorem dX0_canHangUp_10 : decode cX0_canHangUp 10 = .ok (.iconst 1, 1) := by decide +kernel
theorem dX0_canHangUp_11 : decode cX0_canHangUp 11 = .ok (.goto 4, 3) := by decide +kernel
theorem dX0_canHangUp_14 : decode cX0_canHangUp 14 = .ok (.iconst 0, 1) := by decide +kernel
theorem dX0_canHangUp_15 : decode cX0_canHangUp 15 = .ok (.ireturn, 1) := by decide +kernel
theorem dX0_hangUp_0 : decode cX0_hangUp 0 = .ok (.aload_n 0, 1) := by decide +kernel
theorem dX0_hangUp_1 : decode cX0_hangUp 1 = .ok (.getfield 9, 3) := by decide +kernel
theorem dX0_hangUp_4 : decode cX0_hangUp 4 = .ok (.iload_n 1, 1) := by decide +kernel
theorem dX0_hangUp_5 : decode cX0_hangUp 5 = .ok (.iconst 4, 1) := by decide +kernel
theorem dX0_hangUp_6 : decode cX0_hangUp 6 = .ok (.iastore, 1) := by decide +kernel
theorem dX0_hangUp_7 : decode cX0_hangUp 7 = .ok (.return_, 1) := by decide +kernel
theorem dX0_canCallAgain_0 : decode cX0_canCallAgain 0 = .ok (.aload_n 0, 1) := by decide +kernel
theorem dX0_canCallAgain_1 : decode cX0_canCallAgain 1 = .ok (.getfield 9, 3) := by decide +kernel
theorem dX0_canCallAgain_4 : decode cX0_canCallAgain 4 = .ok (.iload_n 1, 1) := by decide +kernel
theorem dX0_canCallAgain_5 : decode cX0_canCallAgain 5 = .ok (.iaload, 1) := by decide +kernel
theorem dX0_canCallAgain_6 : decode cX0_canCallAgain 6 = .ok (.iconst 3, 1) := by decide +kernel
theorem dX0_canCallAgain_7 : decode cX0_canCallAgain 7 = .ok (.if_icmp .eq 13, 3) := by decide +kernel
theorem dX0_canCallAgain_10 : decode cX0_canCallAgain 10 = .ok (.aload_n 0, 1) := by decide +kernel
theorem dX0_canCallAgain_11 : decode cX0_canCallAgain 11 = .ok (.getfield 9, 3) := by decide +kernel
theorem dX0_canCallAgain_14 : decode cX0_canCallAgain 14 = .ok (.iload_n 1, 1) := by decide +kernel
theorem dX0_canCallAgain_15 : decode cX0_canCallAgain 15 = .ok (.iaload, 1) := by decide +kernel
theorem dX0_canCallAgain_16 : decode cX0_canCallAgain 16 = .ok (.iconst 4, 1) := by decide +kernel
theorem dX0_canCallAgain_17 : decode cX0_canCallAgain 17 = .ok (.if_icmp .ne 7, 3) := by decide +kernel
theorem dX0_canCallAgain_20 : decode cX0_canCallAgain 20 = .ok (.iconst 1, 1) := by decide +kernel
theorem dX0_canCallAgain_21 : decode cX0_canCallAgain 21 = .ok (.goto 4, 3) := by decide +kernel
theorem dX0_canCallAgain_24 : decode cX0_canCallAgain 24 = .ok (.iconst 0, 1) := by decide +kernel
theorem dX0_canCallAgain_25 : decode cX0_canCallAgain 25 = .ok (.ireturn, 1) := by decide +kernel
theorem dX0_callAgain_0 : decode cX0_callAgain 0 = .ok (.aload_n 0, 1) := by decide +kernel
theorem dX0_callAgain_1 : decode cX0_callAgain 1 = .ok (.getfield 9, 3) := by decide +kernel
theorem dX0_callAgain_4 : decode cX0_callAgain 4 = .ok (.iload_n 1, 1) := by decide +kernel
theorem dX0_callAgain_5 : decode cX0_callAgain 5 = .ok (.iconst 0, 1) := by decide +kernel
theorem dX0_callAgain_6 : decode cX0_callAgain 6 = .ok (.iastore, 1) := by decide +kernel
theorem dX0_callAgain_7 : decode cX0_callAgain 7 = .ok (.aload_n 0, 1) := by decide +kernel
theorem dX0_callAgain_8 : decode cX0_callAgain 8 = .ok (.dup, 1) := by decide +kernel
theorem dX0_callAgain_9 : decode cX0_callAgain 9 = .ok (.getfield 24, 3) := by decide +kernel
theorem dX0_callAgain_12 : decode cX0_callAgain 12 = .ok (.iconst 1, 1) := by decide +kernel
theorem dX0_callAgain_13 : decode cX0_callAgain 13 = .ok (.iload_n 1, 1) := by decide +kernel
theorem dX0_callAgain_14 : decode cX0_callAgain 14 = .ok (.ishl, 1) := by decide +kernel
theorem dX0_callAgain_15 : decode cX0_callAgain 15 = .ok (.ior, 1) := by decide +kernel
theorem dX0_callAgain_16 : decode cX0_callAgain 16 = .ok (.putfield 24, 3) := by decide +kernel
theorem dX0_callAgain_19 : decode cX0_callAgain 19 = .ok (.return_, 1) := by decide +kernel
theorem dX0_isToBeTaken_0 : decode cX0_isToBeTaken 0 = .ok (.aload_n 0, 1) := by decide +kernel
theorem dX0_isToBeTaken_1 : decode cX0_isToBeTaken 1 = .ok (.getfield 9, 3) := by decide +kernel
theorem dX0_isToBeTaken_4 : decode cX0_isToBeTaken 4 = .ok (.iload_n 1, 1) := by decide +kernel
theorem dX0_isToBeTaken_5 : decode cX0_isToBeTaken 5 = .ok (.iaload, 1) := by decide +kernel
theorem dX0_isToBeTaken_6 : decode cX0_isToBeTaken 6 = .ok (.iconst 1, 1) := by decide +kernel
theorem dX0_isToBeTaken_7 : decode cX0_isToBeTaken 7 = .ok (.if_icmp .eq 12, 3) := by decide +kernel
theorem dX0_isToBeTaken_10 : decode cX0_isToBeTaken 10 = .ok (.aload_n 0, 1) := by decide +kernel
theorem dX0_isToBeTaken_11 : decode cX0_isToBeTaken 11 = .ok (.getfield 9, 3) := by decide +kernel
theorem dX0_isToBeTaken_14 : decode cX0_isToBeTaken 14 = .ok (.iload_n 1, 1) := by decide +kernel
theorem dX0_isToBeTaken_15 : decode cX0_isToBeTaken 15 = .ok (.iaload, 1) := by decide +kernel
theorem dX0_isToBeTaken_16 : decode cX0_isToBeTaken 16 = .ok (.ifCond .ne 7, 3) := by decide +kernel
theorem dX0_isToBeTaken_19 : decode cX0_isToBeTaken 19 = .ok (.iconst 1, 1) := by decide +kernel
theorem dX0_isToBeTaken_20 : decode cX0_isToBeTaken 20 = .ok (.goto 4, 3) := by decide +kernel
theorem dX0_isToBeTaken_23 : decode cX0_isToBeTaken 23 = .ok (.iconst 0, 1) := by decide +kernel
theorem dX0_isToBeTaken_24 : decode cX0_isToBeTaken 24 = .ok (.ireturn, 1) := by decide +kernel
theorem dX0_isTaken_0 : decode cX0_isTaken 0 = .ok (.aload_n 0, 1) := by decide +kernel
theorem dX0_isTaken_1 : decode cX0_isTaken 1 = .ok (.getfield 9, 3) := by decide +kernel
theorem dX0_isTaken_4 : decode cX0_isTaken 4 = .ok (.iload_n 1, 1) := by decide +kernel
theorem dX0_isTaken_5 : decode cX0_isTaken 5 = .ok (.iaload, 1) := by decide +kernel
theorem dX0_isTaken_6 : decode cX0_isTaken 6 = .ok (.iconst 2, 1) := by decide +kernel
theorem dX0_isTaken_7 : decode cX0_isTaken 7 = .ok (.if_icmp .eq 13, 3) := by decide +kernel
theorem dX0_isTaken_10 : decode cX0_isTaken 10 = .ok (.aload_n 0, 1) := by decide +kernel
theorem dX0_isTaken_11 : decode cX0_isTaken 11 = .ok (.getfield 9, 3) := by decide +kernel
theorem dX0_isTaken_14 : decode cX0_isTaken 14 = .ok (.iload_n 1, 1) := by decide +kernel
theorem dX0_isTaken_15 : decode cX0_isTaken 15 = .ok (.iaload, 1) := by decide +kernel
theorem dX0_isTaken_16 : decode cX0_isTaken 16 = .ok (.iconst 3, 1) := by decide +kernel
theorem dX0_isTaken_17 : decode cX0_isTaken 17 = .ok (.if_icmp .ne 7, 3) := by decide +kernel
theorem dX0_isTaken_20 : decode cX0_isTaken 20 = .ok (.iconst 1, 1) := by decide +kernel
theorem dX0_isTaken_21 : decode cX0_isTaken 21 = .ok (.goto 4, 3) := by decide +kernel
theorem dX0_isTaken_24 : decode cX0_isTaken 24 = .ok (.iconst 0, 1) := by decide +kernel
theorem dX0_isTaken_25 : decode cX0_isTaken 25 = .ok (.ireturn, 1) := by decide +kernel
theorem dX0_hasLeft_0 : decode cX0_hasLeft 0 = .ok (.aload_n 0, 1) := by decide +kernel
theorem dX0_hasLeft_1 : decode cX0_hasLeft 1 = .ok (.getfield 9, 3) := by decide +kernel
theorem dX0_hasLeft_4 : decode cX0_hasLeft 4 = .ok (.iload_n 1, 1) := by decide +kernel
theorem dX0_hasLeft_5 : decode cX0_hasLeft 5 = .ok (.iaload, 1) := by decide +kernel
theorem dX0_hasLeft_6 : decode cX0_hasLeft 6 = .ok (.iconst 3, 1) := by decide +kernel
theorem dX0_hasLeft_7 : decode cX0_hasLeft 7 = .ok (.if_icmp .eq 13, 3) := by decide +kernel
theorem dX0_hasLeft_10 : decode cX0_hasLeft 10 = .ok (.aload_n 0, 1) := by decide +kernel
theorem dX0_hasLeft_11 : decode cX0_hasLeft 11 = .ok (.getfield 9, 3) := by decide +kernel
theorem dX0_hasLeft_14 : decode cX0_hasLeft 14 = .ok (.iload_n 1, 1) := by decide +kernel
theorem dX0_hasLeft_15 : decode cX0_hasLeft 15 = .ok (.iaload, 1) := by decide +kernel
theorem dX0_hasLeft_16 : decode cX0_hasLeft 16 = .ok (.iconst 4, 1) := by decide +kernel
theorem dX0_hasLeft_17 : decode cX0_hasLeft 17 = .ok (.if_icmp .ne 7, 3) := by decide +kernel
theorem dX0_hasLeft_20 : decode cX0_hasLeft 20 = .ok (.iconst 1, 1) := by decide +kernel
theorem dX0_hasLeft_21 : decode cX0_hasLeft 21 = .ok (.goto 4, 3) := by decide +kernel
theorem dX0_hasLeft_24 : decode cX0_hasLeft 24 = .ok (.iconst 0, 1) := by decide +kernel
theorem dX0_hasLeft_25 : decode cX0_hasLeft 25 = .ok (.ireturn, 1) := by decide +kernel
theorem dX0_countIn_0 : decode cX0_countIn 0 = .ok (.iconst 0, 1) := by decide +kernel
theorem dX0_countIn_1 : decode cX0_countIn 1 = .ok (.istore_n 3, 1) := by decide +kernel
theorem dX0_countIn_2 : decode cX0_countIn 2 = .ok (.iconst 0, 1) := by decide +kernel
theorem dX0_countIn_3 : decode cX0_countIn 3 = .ok (.istore 4, 2) := by decide +kernel
theorem dX0_countIn_5 : decode cX0_countIn 5 = .ok (.iload 4, 2) := by decide +kernel
theorem dX0_countIn_7 : decode cX0_countIn 7 = .ok (.aload_n 1, 1) := by decide +kernel
theorem dX0_countIn_8 : decode cX0_countIn 8 = .ok (.getfield 72, 3) := by decide +kernel
theorem dX0_countIn_11 : decode cX0_countIn 11 = .ok (.if_icmp .ge 23, 3) := by decide +kernel
theorem dX0_countIn_14 : decode cX0_countIn 14 = .ok (.aload_n 0, 1) := by decide +kernel
theorem dX0_countIn_15 : decode cX0_countIn 15 = .ok (.getfield 9, 3) := by decide +kernel
theorem dX0_countIn_18 : decode cX0_countIn 18 = .ok (.iload 4, 2) := by decide +kernel
theorem dX0_countIn_20 : decode cX0_countIn 20 = .ok (.iaload, 1) := by decide +kernel
theorem dX0_countIn_21 : decode cX0_countIn 21 = .ok (.iload_n 2, 1) := by decide +kernel
theorem dX0_countIn_22 : decode cX0_countIn 22 = .ok (.if_icmp .ne 6, 3) := by decide +kernel
theorem dX0_countIn_25 : decode cX0_countIn 25 = .ok (.iinc 3 1, 3) := by decide +kernel
theorem dX0_countIn_28 : decode cX0_countIn 28 = .ok (.iinc 4 1, 3) := by decide +kernel
theorem dX0_countIn_31 : decode cX0_countIn 31 = .ok (.goto (-26), 3) := by decide +kernel
theorem dX0_countIn_34 : decode cX0_countIn 34 = .ok (.iload_n 3, 1) := by decide +kernel
theorem dX0_countIn_35 : decode cX0_countIn 35 = .ok (.ireturn, 1) := by decide +kernel
theorem dX0_worthThrough_0 : decode cX0_worthThrough 0 = .ok (.iconst 0, 1) := by decide +kernel
theorem dX0_worthThrough_1 : decode cX0_worthThrough 1 = .ok (.istore_n 2, 1) := by decide +kernel
theorem dX0_worthThrough_2 : decode cX0_worthThrough 2 = .ok (.iconst 0, 1) := by decide +kernel
theorem dX0_worthThrough_3 : decode cX0_worthThrough 3 = .ok (.istore_n 3, 1) := by decide +kernel
theorem dX0_worthThrough_4 : decode cX0_worthThrough 4 = .ok (.iload_n 3, 1) := by decide +kernel
theorem dX0_worthThrough_5 : decode cX0_worthThrough 5 = .ok (.aload_n 1, 1) := by decide +kernel
theorem dX0_worthThrough_6 : decode cX0_worthThrough 6 = .ok (.getfield 72, 3) := by decide +kernel
theorem dX0_worthThrough_9 : decode cX0_worthThrough 9 = .ok (.if_icmp .ge 28, 3) := by decide +kernel
theorem dX0_worthThrough_12 : decode cX0_worthThrough 12 = .ok (.aload_n 0, 1) := by decide +kernel
theorem dX0_worthThrough_13 : decode cX0_worthThrough 13 = .ok (.getfield 9, 3) := by decide +kernel
theorem dX0_worthThrough_16 : decode cX0_worthThrough 16 = .ok (.iload_n 3, 1) := by decide +kernel
theorem dX0_worthThrough_17 : decode cX0_worthThrough 17 = .ok (.iaload, 1) := by decide +kernel
theorem dX0_worthThrough_18 : decode cX0_worthThrough 18 = .ok (.iconst 3, 1) := by decide +kernel
theorem dX0_worthThrough_19 : decode cX0_worthThrough 19 = .ok (.if_icmp .ne 12, 3) := by decide +kernel
theorem dX0_worthThrough_22 : decode cX0_worthThrough 22 = .ok (.iload_n 2, 1) := by decide +kernel
theorem dX0_worthThrough_23 : decode cX0_worthThrough 23 = .ok (.aload_n 1, 1) := by decide +kernel
theorem dX0_worthThrough_24 : decode cX0_worthThrough 24 = .ok (.getfield 101, 3) := by decide +kernel
theorem dX0_worthThrough_27 : decode cX0_worthThrough 27 = .ok (.iload_n 3, 1) := by decide +kernel
theorem dX0_worthThrough_28 : decode cX0_worthThrough 28 = .ok (.iaload, 1) := by decide +kernel
theorem dX0_worthThrough_29 : decode cX0_worthThrough 29 = .ok (.iadd, 1) := by decide +kernel
theorem dX0_worthThrough_30 : decode cX0_worthThrough 30 = .ok (.istore_n 2, 1) := by decide +kernel
theorem dX0_worthThrough_31 : decode cX0_worthThrough 31 = .ok (.iinc 3 1, 3) := by decide +kernel
theorem dX0_worthThrough_34 : decode cX0_worthThrough 34 = .ok (.goto (-30), 3) := by decide +kernel
theorem dX0_worthThrough_37 : decode cX0_worthThrough 37 = .ok (.iload_n 2, 1) := by decide +kernel
theorem dX0_worthThrough_38 : decode cX0_worthThrough 38 = .ok (.ireturn, 1) := by decide +kernel
