set_option maxRecDepth 20000 in
theorem ggX1_accept_X1_acceptCaller : GoodIn wsX1_accept wsX1_acceptCaller := goodIn_r _ [5, 6, 7, 8, 9, 10, 11, 12, 13, 25, 26, 27, 28, 29, 30, 31, 32] (by decide +kernel) (by decide +kernel)
set_option maxRecDepth 20000 in
theorem gX1_accept_X1_acceptCaller : GoodIn wsX1_accept (wsV RX1 43 RX1 yX1_acceptCaller wsX1_acceptCaller) := goodIn_app (goodIn_of _ (by decide +kernel)) ggX1_accept_X1_acceptCaller
set_option maxRecDepth 20000 in
theorem ggX1_accept_X1_acceptServing : GoodIn wsX1_accept wsX1_acceptServing := goodIn_r _ [17, 18, 19, 11, 12, 13, 25, 26, 27, 28, 29, 30, 31, 32] (by decide +kernel) (by decide +kernel)
set_option maxRecDepth 20000 in
theorem gX1_accept_X1_acceptServing : GoodIn wsX1_accept (wsV RX1 47 RX1 yX1_acceptServing wsX1_acceptServing) := goodIn_app (goodIn_of _ (by decide +kernel)) ggX1_accept_X1_acceptServing
set_option maxRecDepth 20000 in
theorem ggX1_accept_X1_acceptRule : GoodIn wsX1_accept wsX1_acceptRule := goodIn_r _ [23, 24, 11, 12, 13, 25, 26, 27, 28, 29, 30, 31, 32] (by decide +kernel) (by decide +kernel)
set_option maxRecDepth 20000 in
theorem gX1_accept_X1_acceptRule : GoodIn wsX1_accept (wsV RX1 51 RX1 yX1_acceptRule wsX1_acceptRule) := goodIn_app (goodIn_of _ (by decide +kernel)) ggX1_accept_X1_acceptRule
set_option maxRecDepth 20000 in
theorem ggX1_acceptCaller_X5_isWithin : GoodIn wsX1_acceptCaller wsX5_isWithin := goodIn_r _ [8] (by decide +kernel) (by decide +kernel)
set_option maxRecDepth 20000 in
theorem gX1_acceptCaller_X5_isWithin_n55 : GoodIn wsX1_acceptCaller (wsX5_isWithin) := ggX1_acceptCaller_X5_isWithin
set_option maxRecDepth 20000 in
theorem ggX1_acceptServing_X5_isWithin : GoodIn wsX1_acceptServing wsX5_isWithin := goodIn_r _ [5] (by decide +kernel) (by decide +kernel)
set_option maxRecDepth 20000 in
theorem gX1_acceptServing_X5_isWithin_n55 : GoodIn wsX1_acceptServing (wsX5_isWithin) := ggX1_acceptServing_X5_isWithin
set_option maxRecDepth 20000 in
theorem ggX1_acceptRule_X5_isWithin : GoodIn wsX1_acceptRule wsX5_isWithin := goodIn_r _ [4] (by decide +kernel) (by decide +kernel)
set_option maxRecDepth 20000 in
theorem gX1_acceptRule_X5_isWithin_n55 : GoodIn wsX1_acceptRule (wsX5_isWithin) := ggX1_acceptRule_X5_isWithin
theorem dX1_init_0 : decode cX1_init 0 = .ok (.aload_n 0, 1) := by decide +kernel
theorem dX1_init_1 : decode cX1_init 1 = .ok (.invokespecial 3, 3) := by decide +kernel
theorem dX1_init_4 : decode cX1_init 4 = .ok (.aload_n 0, 1) := by decide +kernel
theorem dX1_init_5 : decode cX1_init 5 = .ok (.bipush 8, 2) := by decide +kernel
theorem dX1_init_7 : decode cX1_init 7 = .ok (.newarray .int, 2) := by decide +kernel
theorem dX1_init_9 : decode cX1_init 9 = .ok (.putfield 9, 3) := by decide +kernel
theorem dX1_init_12 : decode cX1_init 12 = .ok (.aload_n 0, 1) := by decide +kernel
theorem dX1_init_13 : decode cX1_init 13 = .ok (.bipush 8, 2) := by decide +kernel
theorem dX1_init_15 : decode cX1_init 15 = .ok (.newarray .int, 2) := by decide +kernel
theorem dX1_init_17 : decode cX1_init 17 = .ok (.putfield 15, 3) := by decide +kernel
theorem dX1_init_20 : decode cX1_init 20 = .ok (.aload_n 0, 1) := by decide +kernel
theorem dX1_init_21 : decode cX1_init 21 = .ok (.bipush 8, 2) := by decide +kernel
theorem dX1_init_23 : decode cX1_init 23 = .ok (.newarray .int, 2) := by decide +kernel
theorem dX1_init_25 : decode cX1_init 25 = .ok (.putfield 18, 3) := by decide +kernel
theorem dX1_init_28 : decode cX1_init 28 = .ok (.aload_n 0, 1) := by decide +kernel
theorem dX1_init_29 : decode cX1_init 29 = .ok (.bipush 8, 2) := by decide +kernel
theorem dX1_init_31 : decode cX1_init 31 = .ok (.newarray .int, 2) := by decide +kernel
theorem dX1_init_33 : decode cX1_init 33 = .ok (.putfield 21, 3) := by decide +kernel
theorem dX1_init_36 : decode cX1_init 36 = .ok (.return_, 1) := by decide +kernel
theorem dX1_clear_0 : decode cX1_clear 0 = .ok (.aload_n 0, 1) := by decide +kernel
theorem dX1_clear_1 : decode cX1_clear 1 = .ok (.iconst 0, 1) := by decide +kernel
theorem dX1_clear_2 : decode cX1_clear 2 = .ok (.putfield 24, 3) := by decide +kernel
theorem dX1_clear_5 : decode cX1_clear 5 = .ok (.aload_n 0, 1) := by decide +kernel
theorem dX1_clear_6 : decode cX1_clear 6 = .ok (.iconst 1, 1) := by decide +kernel
theorem dX1_clear_7 : decode cX1_clear 7 = .ok (.putfield 28, 3) := by decide +kernel
theorem dX1_clear_10 : decode cX1_clear 10 = .ok (.aload_n 0, 1) := by decide +kernel
theorem dX1_clear_11 : decode cX1_clear 11 = .ok (.iconst 5, 1) := by decide +kernel
theorem dX1_clear_12 : decode cX1_clear 12 = .ok (.putfield 31, 3) := by decide +kernel
theorem dX1_clear_15 : decode cX1_clear 15 = .ok (.aload_n 0, 1) := by decide +kernel
theorem dX1_clear_16 : decode cX1_clear 16 = .ok (.iconst 0, 1) := by decide +kernel
theorem dX1_clear_17 : decode cX1_clear 17 = .ok (.putfield 34, 3) := by decide +kernel
theorem dX1_clear_20 : decode cX1_clear 20 = .ok (.return_, 1) := by decide +kernel
theorem dX1_copyFrom_0 : decode cX1_copyFrom 0 = .ok (.aload_n 0, 1) := by decide +kernel
theorem dX1_copyFrom_1 : decode cX1_copyFrom 1 = .ok (.aload_n 1, 1) := by decide +kernel
theorem dX1_copyFrom_2 : decode cX1_copyFrom 2 = .ok (.getfield 24, 3) := by decide +kernel
theorem dX1_copyFrom_5 : decode cX1_copyFrom 5 = .ok (.putfield 24, 3) := by decide +kernel
theorem dX1_copyFrom_8 : decode cX1_copyFrom 8 = .ok (.aload_n 0, 1) := by decide +kernel
theorem dX1_copyFrom_9 : decode cX1_copyFrom 9 = .ok (.aload_n 1, 1) := by decide +kernel
theorem dX1_copyFrom_10 : decode cX1_copyFrom 10 = .ok (.getfield 28, 3) := by decide +kernel
theorem dX1_copyFrom_13 : decode cX1_copyFrom 13 = .ok (.putfield 28, 3) := by decide +kernel
theorem dX1_copyFrom_16 : decode cX1_copyFrom 16 = .ok (.aload_n 0, 1) := by decide +kernel
theorem dX1_copyFrom_17 : decode cX1_copyFrom 17 = .ok (.aload_n 1, 1) := by decide +kernel
theorem dX1_copyFrom_18 : decode cX1_copyFrom 18 = .ok (.getfield 31, 3) := by decide +kernel
theorem dX1_copyFrom_21 : decode cX1_copyFrom 21 = .ok (.putfield 31, 3) := by decide +kernel
theorem dX1_copyFrom_24 : decode cX1_copyFrom 24 = .ok (.aload_n 0, 1) := by decide +kernel
theorem dX1_copyFrom_25 : decode cX1_copyFrom 25 = .ok (.aload_n 1, 1) := by decide +kernel
theorem dX1_copyFrom_26 : decode cX1_copyFrom 26 = .ok (.getfield 34, 3) := by decide +kernel
theorem dX1_copyFrom_29 : decode cX1_copyFrom 29 = .ok (.putfield 34, 3) := by decide +kernel
theorem dX1_copyFrom_32 : decode cX1_copyFrom 32 = .ok (.aload_n 1, 1) := by decide +kernel
theorem dX1_copyFrom_33 : decode cX1_copyFrom 33 = .ok (.getfield 9, 3) := by decide +kernel
theorem dX1_copyFrom_36 : decode cX1_copyFrom 36 = .ok (.iconst 0, 1) := by decide +kernel
theorem dX1_copyFrom_37 : decode cX1_copyFrom 37 = .ok (.aload_n 0, 1) := by decide +kernel
theorem dX1_copyFrom_38 : decode cX1_copyFrom 38 = .ok (.getfield 9, 3) := by decide +kernel
theorem dX1_copyFrom_41 : decode cX1_copyFrom 41 = .ok (.iconst 0, 1) := by decide +kernel
theorem dX1_copyFrom_42 : decode cX1_copyFrom 42 = .ok (.bipush 8, 2) := by decide +kernel
theorem dX1_copyFrom_44 : decode cX1_copyFrom 44 = .ok (.invokestatic 37, 3) := by decide +kernel
theorem dX1_copyFrom_47 : decode cX1_copyFrom 47 = .ok (.aload_n 1, 1) := by decide +kernel
theorem dX1_copyFrom_48 : decode cX1_copyFrom 48 = .ok (.getfield 15, 3) := by decide +kernel
theorem dX1_copyFrom_51 : decode cX1_copyFrom 51 = .ok (.iconst 0, 1) := by decide +kernel
theorem dX1_copyFrom_52 : decode cX1_copyFrom 52 = .ok (.aload_n 0, 1) := by decide +kernel
theorem dX1_copyFrom_53 : decode cX1_copyFrom 53 = .ok (.getfield 15, 3) := by decide +kernel
theorem dX1_copyFrom_56 : decode cX1_copyFrom 56 = .ok (.iconst 0, 1) := by decide +kernel
theorem dX1_copyFrom_57 : decode cX1_copyFrom 57 = .ok (.bipush 8, 2) := by decide +kernel
theorem dX1_copyFrom_59 : decode cX1_copyFrom 59 = .ok (.invokestatic 37, 3) := by decide +kernel
theorem dX1_copyFrom_62 : decode cX1_copyFrom 62 = .ok (.aload_n 1, 1) := by decide +kernel
theorem dX1_copyFrom_63 : decode cX1_copyFrom 63 = .ok (.getfield 18, 3) := by decide +kernel
theorem dX1_copyFrom_66 : decode cX1_copyFrom 66 = .ok (.iconst 0, 1) := by decide +kernel
theorem dX1_copyFrom_67 : decode cX1_copyFrom 67 = .ok (.aload_n 0, 1) := by decide +kernel
theorem dX1_copyFrom_68 : decode cX1_copyFrom 68 = .ok (.getfield 18, 3) := by decide +kernel
theorem dX1_copyFrom_71 : decode cX1_copyFrom 71 = .ok (.iconst 0, 1) := by decide +kernel
theorem dX1_copyFrom_72 : decode cX1_copyFrom 72 = .ok (.bipush 8, 2) := by decide +kernel
theorem dX1_copyFrom_74 : decode cX1_copyFrom 74 = .ok (.invokestatic 37, 3) := by decide +kernel
theorem dX1_copyFrom_77 : decode cX1_copyFrom 77 = .ok (.aload_n 1, 1) := by decide +kernel
theorem dX1_copyFrom_78 : decode cX1_copyFrom 78 = .ok (.getfield 21, 3) := by decide +kernel
theorem dX1_copyFrom_81 : decode cX1_copyFrom 81 = .ok (.iconst 0, 1) := by decide +kernel
theorem dX1_copyFrom_82 : decode cX1_copyFrom 82 = .ok (.aload_n 0, 1) := by decide +kernel
theorem dX1_copyFrom_83 : decode cX1_copyFrom 83 = .ok (.getfield 21, 3) := by decide +kernel
theorem dX1_copyFrom_86 : decode cX1_copyFrom 86 = .ok (.iconst 0, 1) := by decide +kernel
theorem dX1_copyFrom_87 : decode cX1_copyFrom 87 = .ok (.bipush 8, 2) := by decide +kernel
theorem dX1_copyFrom_89 : decode cX1_copyFrom 89 = .ok (.invokestatic 37, 3) := by decide +kernel
theorem dX1_copyFrom_92 : decode cX1_copyFrom 92 = .ok (.return_, 1) := by decide +kernel
theorem dX1_accept_0 : decode cX1_accept 0 = .ok (.iload_n 1, 1) := by decide +kernel
theorem dX1_accept_1 : decode cX1_accept 1 = .ok (.lookupswitch 71 #[(99, 35), (114, 63), (115, 52)], 35) := by decide +kernel
theorem dX1_accept_36 : decode cX1_accept 36 = .ok (.aload_n 0, 1) := by decide +kernel
theorem dX1_accept_37 : decode cX1_accept 37 = .ok (.aload_n 2, 1) := by decide +kernel
theorem dX1_accept_38 : decode cX1_accept 38 = .ok (.iconst 0, 1) := by decide +kernel
theorem dX1_accept_39 : decode cX1_accept 39 = .ok (.iaload, 1) := by decide +kernel
theorem dX1_accept_40 : decode cX1_accept 40 = .ok (.aload_n 2, 1) := by decide +kernel
theorem dX1_accept_41 : decode cX1_accept 41 = .ok (.iconst 1, 1) := by decide +kernel
theorem dX1_accept_42 : decode cX1_accept 42 = .ok (.iaload, 1) := by decide +kernel
theorem dX1_accept_43 : decode cX1_accept 43 = .ok (.aload_n 2, 1) := by decide +kernel
theorem dX1_accept_44 : decode cX1_accept 44 = .ok (.iconst 2, 1) := by decide +kernel
theorem dX1_accept_45 : decode cX1_accept 45 = .ok (.iaload, 1) := by decide +kernel
theorem dX1_accept_46 : decode cX1_accept 46 = .ok (.aload_n 2, 1) := by decide +kernel
theorem dX1_accept_47 : decode cX1_accept 47 = .ok (.iconst 3, 1) := by decide +kernel
theorem dX1_accept_48 : decode cX1_accept 48 = .ok (.iaload, 1) := by decide +kernel
theorem dX1_accept_49 : decode cX1_accept 49 = .ok (.invokevirtual 43, 3) := by decide +kernel
theorem dX1_accept_52 : decode cX1_accept 52 = .ok (.ireturn, 1) := by decide +kernel
theorem dX1_accept_53 : decode cX1_accept 53 = .ok (.aload_n 0, 1) := by decide +kernel
theorem dX1_accept_54 : decode cX1_accept 54 = .ok (.aload_n 2, 1) := by decide +kernel
theorem dX1_accept_55 : decode cX1_accept 55 = .ok (.iconst 0, 1) := by decide +kernel
theorem dX1_accept_56 : decode cX1_accept 56 = .ok (.iaload, 1) := by decide +kernel
theorem dX1_accept_57 : decode cX1_accept 57 = .ok (.aload_n 2, 1) := by decide +kernel
theorem dX1_accept_58 : decode cX1_accept 58 = .ok (.iconst 1, 1) := by decide +kernel
theorem dX1_accept_59 : decode cX1_accept 59 = .ok (.iaload, 1) := by decide +kernel
theorem dX1_accept_60 : decode cX1_accept 60 = .ok (.invokevirtual 47, 3) := by decide +kernel
theorem dX1_accept_63 : decode cX1_accept 63 = .ok (.ireturn, 1) := by decide +kernel
theorem dX1_accept_64 : decode cX1_accept 64 = .ok (.aload_n 0, 1) := by decide +kernel
theorem dX1_accept_65 : decode cX1_accept 65 = .ok (.aload_n 2, 1) := by decide +kernel
theorem dX1_accept_66 : decode cX1_accept 66 = .ok (.iconst 0, 1) := by decide +kernel
theorem dX1_accept_67 : decode cX1_accept 67 = .ok (.iaload, 1) := by decide +kernel
theorem dX1_accept_68 : decode cX1_accept 68 = .ok (.invokevirtual 51, 3) := by decide +kernel
theorem dX1_accept_71 : decode cX1_accept 71 = .ok (.ireturn, 1) := by decide +kernel
theorem dX1_accept_72 : decode cX1_accept 72 = .ok (.iconst 0, 1) := by decide +kernel
theorem dX1_accept_73 : decode cX1_accept 73 = .ok (.ireturn, 1) := by decide +kernel
theorem dX1_acceptCaller_0 : decode cX1_acceptCaller 0 = .ok (.aload_n 0, 1) := by decide +kernel
theorem dX1_acceptCaller_1 : decode cX1_acceptCaller 1 = .ok (.getfield 24, 3) := by decide +kernel
theorem dX1_acceptCaller_4 : decode cX1_acceptCaller 4 = .ok (.bipush 8, 2) := by decide +kernel
theorem dX1_acceptCaller_6 : decode cX1_acceptCaller 6 = .ok (.if_icmp .ge 43, 3) := by decide +kernel
theorem dX1_acceptCaller_9 : decode cX1_acceptCaller 9 = .ok (.iload_n 1, 1) := by decide +kernel
theorem dX1_acceptCaller_10 : decode cX1_acceptCaller 10 = .ok (.iconst 0, 1) := by decide +kernel
theorem dX1_acceptCaller_11 : decode cX1_acceptCaller 11 = .ok (.iconst 3, 1) := by decide +kernel
theorem dX1_acceptCaller_12 : decode cX1_acceptCaller 12 = .ok (.invokestatic 55, 3) := by decide +kernel
theorem dX1_acceptCaller_15 : decode cX1_acceptCaller 15 = .ok (.ifCond .eq 34, 3) := by decide +kernel
theorem dX1_acceptCaller_18 : decode cX1_acceptCaller 18 = .ok (.iload_n 2, 1) := by decide +kernel
theorem dX1_acceptCaller_19 : decode cX1_acceptCaller 19 = .ok (.iconst 0, 1) := by decide +kernel
theorem dX1_acceptCaller_20 : decode cX1_acceptCaller 20 = .ok (.bipush 40, 2) := by decide +kernel
theorem dX1_acceptCaller_22 : decode cX1_acceptCaller 22 = .ok (.invokestatic 55, 3) := by decide +kernel
theorem dX1_acceptCaller_25 : decode cX1_acceptCaller 25 = .ok (.ifCond .eq 24, 3) := by decide +kernel
theorem dX1_acceptCaller_28 : decode cX1_acceptCaller 28 = .ok (.iload_n 3, 1) := by decide +kernel
theorem dX1_acceptCaller_29 : decode cX1_acceptCaller 29 = .ok (.iconst 1, 1) := by decide +kernel
theorem dX1_acceptCaller_30 : decode cX1_acceptCaller 30 = .ok (.bipush 30, 2) := by decide +kernel
theorem dX1_acceptCaller_32 : decode cX1_acceptCaller 32 = .ok (.invokestatic 55, 3) := by decide +kernel
theorem dX1_acceptCaller_35 : decode cX1_acceptCaller 35 = .ok (.ifCond .eq 14, 3) := by decide +kernel
theorem dX1_acceptCaller_38 : decode cX1_acceptCaller 38 = .ok (.iload 4, 2) := by decide +kernel
theorem dX1_acceptCaller_40 : decode cX1_acceptCaller 40 = .ok (.iconst 0, 1) := by decide +kernel
theorem dX1_acceptCaller_41 : decode cX1_acceptCaller 41 = .ok (.bipush 60, 2) := by decide +kernel
theorem dX1_acceptCaller_43 : decode cX1_acceptCaller 43 = .ok (.invokestatic 55, 3) := by decide +kernel
theorem dX1_acceptCaller_46 : decode cX1_acceptCaller 46 = .ok (.ifCond .ne 5, 3) := by decide +kernel
theorem dX1_acceptCaller_49 : decode cX1_acceptCaller 49 = .ok (.iconst 0, 1) := by decide +kernel
theorem dX1_acceptCaller_50 : decode cX1_acceptCaller 50 = .ok (.ireturn, 1) := by decide +kernel
theorem dX1_acceptCaller_51 : decode cX1_acceptCaller 51 = .ok (.aload_n 0, 1) := by decide +kernel
theorem dX1_acceptCaller_52 : decode cX1_acceptCaller 52 = .ok (.getfield 9, 3) := by decide +kernel
theorem dX1_acceptCaller_55 : decode cX1_acceptCaller 55 = .ok (.aload_n 0, 1) := by decide +kernel
theorem dX1_acceptCaller_56 : decode cX1_acceptCaller 56 = .ok (.getfield 24, 3) := by decide +kernel
theorem dX1_acceptCaller_59 : decode cX1_acceptCaller 59 = .ok (.iload_n 1, 1) := by decide +kernel
theorem dX1_acceptCaller_60 : decode cX1_acceptCaller 60 = .ok (.iastore, 1) := by decide +kernel
theorem dX1_acceptCaller_61 : decode cX1_acceptCaller 61 = .ok (.aload_n 0, 1) := by decide +kernel
theorem dX1_acceptCaller_62 : decode cX1_acceptCaller 62 = .ok (.getfield 15, 3) := by decide +kernel
theorem dX1_acceptCaller_65 : decode cX1_acceptCaller 65 = .ok (.aload_n 0, 1) := by decide +kernel
theorem dX1_acceptCaller_66 : decode cX1_acceptCaller 66 = .ok (.getfield 24, 3) := by decide +kernel
theorem dX1_acceptCaller_69 : decode cX1_acceptCaller 69 = .ok (.iload_n 2, 1) := by decide +kernel
theorem dX1_acceptCaller_70 : decode cX1_acceptCaller 70 = .ok (.iastore, 1) := by decide +kernel
theorem dX1_acceptCaller_71 : decode cX1_acceptCaller 71 = .ok (.aload_n 0, 1) := by decide +kernel
theorem dX1_acceptCaller_72 : decode cX1_acceptCaller 72 = .ok (.getfield 18, 3) := by decide +kernel
theorem dX1_acceptCaller_75 : decode cX1_acceptCaller 75 = .ok (.aload_n 0, 1) := by decide +kernel
theorem dX1_acceptCaller_76 : decode cX1_acceptCaller 76 = .ok (.getfield 24, 3) := by decide +kernel
theorem dX1_acceptCaller_79 : decode cX1_acceptCaller 79 = .ok (.iload_n 3, 1) := by decide +kernel
theorem dX1_acceptCaller_80 : decode cX1_acceptCaller 80 = .ok (.iastore, 1) := by decide +kernel
theorem dX1_acceptCaller_81 : decode cX1_acceptCaller 81 = .ok (.aload_n 0, 1) := by decide +kernel
theorem dX1_acceptCaller_82 : decode cX1_acceptCaller 82 = .ok (.getfield 21, 3) := by decide +kernel
theorem dX1_acceptCaller_85 : decode cX1_acceptCaller 85 = .ok (.aload_n 0, 1) := by decide +kernel
theorem dX1_acceptCaller_86 : decode cX1_acceptCaller 86 = .ok (.getfield 24, 3) := by decide +kernel
theorem dX1_acceptCaller_89 : decode cX1_acceptCaller 89 = .ok (.iload 4, 2) := by decide +kernel
theorem dX1_acceptCaller_91 : decode cX1_acceptCaller 91 = .ok (.iastore, 1) := by decide +kernel
theorem dX1_acceptCaller_92 : decode cX1_acceptCaller 92 = .ok (.aload_n 0, 1) := by decide +kernel
theorem dX1_acceptCaller_93 : decode cX1_acceptCaller 93 = .ok (.dup, 1) := by decide +kernel
theorem dX1_acceptCaller_94 : decode cX1_acceptCaller 94 = .ok (.getfield 24, 3) := by decide +kernel
theorem dX1_acceptCaller_97 : decode cX1_acceptCaller 97 = .ok (.iconst 1, 1) := by decide +kernel
theorem dX1_acceptCaller_98 : decode cX1_acceptCaller 98 = .ok (.iadd, 1) := by decide +kernel
theorem dX1_acceptCaller_99 : decode cX1_acceptCaller 99 = .ok (.putfield 24, 3) := by decide +kernel
theorem dX1_acceptCaller_102 : decode cX1_acceptCaller 102 = .ok (.iconst 1, 1) := by decide +kernel
theorem dX1_acceptCaller_103 : decode cX1_acceptCaller 103 = .ok (.ireturn, 1) := by decide +kernel
theorem dX1_acceptServing_0 : decode cX1_acceptServing 0 = .ok (.iload_n 1, 1) := by decide +kernel
theorem dX1_acceptServing_1 : decode cX1_acceptServing 1 = .ok (.iconst 1, 1) := by decide +kernel
theorem dX1_acceptServing_2 : decode cX1_acceptServing 2 = .ok (.iconst 4, 1) := by decide +kernel
theorem dX1_acceptServing_3 : decode cX1_acceptServing 3 = .ok (.invokestatic 55, 3) := by decide +kernel
theorem dX1_acceptServing_6 : decode cX1_acceptServing 6 = .ok (.ifCond .eq 13, 3) := by decide +kernel
theorem dX1_acceptServing_9 : decode cX1_acceptServing 9 = .ok (.iload_n 2, 1) := by decide +kernel
theorem dX1_acceptServing_10 : decode cX1_acceptServing 10 = .ok (.iconst 1, 1) := by decide +kernel
theorem dX1_acceptServing_11 : decode cX1_acceptServing 11 = .ok (.bipush 20, 2) := by decide +kernel
theorem dX1_acceptServing_13 : decode cX1_acceptServing 13 = .ok (.invokestatic 55, 3) := by decide +kernel
theorem dX1_acceptServing_16 : decode cX1_acceptServing 16 = .ok (.ifCond .ne 5, 3) := by decide +kernel
theorem dX1_acceptServing_19 : decode cX1_acceptServing 19 = .ok (.iconst 0, 1) := by decide +kernel
theorem dX1_acceptServing_20 : decode cX1_acceptServing 20 = .ok (.ireturn, 1) := by decide +kernel
theorem dX1_acceptServing_21 : decode cX1_acceptServing 21 = .ok (.aload_n 0, 1) := by decide +kernel
theorem dX1_acceptServing_22 : decode cX1_acceptServing 22 = .ok (.iload_n 1, 1) := by decide +kernel
theorem dX1_acceptServing_23 : decode cX1_acceptServing 23 = .ok (.putfield 28, 3) := by decide +kernel
theorem dX1_acceptServing_26 : decode cX1_acceptServing 26 = .ok (.aload_n 0, 1) := by decide +kernel
theorem dX1_acceptServing_27 : decode cX1_acceptServing 27 = .ok (.iload_n 2, 1) := by decide +kernel
theorem dX1_acceptServing_28 : decode cX1_acceptServing 28 = .ok (.putfield 31, 3) := by decide +kernel
theorem dX1_acceptServing_31 : decode cX1_acceptServing 31 = .ok (.iconst 1, 1) := by decide +kernel
theorem dX1_acceptServing_32 : decode cX1_acceptServing 32 = .ok (.ireturn, 1) := by decide +kernel
theorem dX1_acceptRule_0 : decode cX1_acceptRule 0 = .ok (.iload_n 1, 1) := by decide +kernel
theorem dX1_acceptRule_1 : decode cX1_acceptRule 1 = .ok (.iconst 0, 1) := by decide +kernel
theorem dX1_acceptRule_2 : decode cX1_acceptRule 2 = .ok (.iconst 2, 1) := by decide +kernel
theorem dX1_acceptRule_3 : decode cX1_acceptRule 3 = .ok (.invokestatic 55, 3) := by decide +kernel
theorem dX1_acceptRule_6 : decode cX1_acceptRule 6 = .ok (.ifCond .ne 5, 3) := by decide +kernel
theorem dX1_acceptRule_9 : decode cX1_acceptRule 9 = .ok (.iconst 0, 1) := by decide +kernel
theorem dX1_acceptRule_10 : decode cX1_acceptRule 10 = .ok (.ireturn, 1) := by decide +kernel
theorem dX1_acceptRule_11 : decode cX1_acceptRule 11 = .ok (.aload_n 0, 1) := by decide +kernel
theorem dX1_acceptRule_12 : decode cX1_acceptRule 12 = .ok (.iload_n 1, 1) := by decide +kernel
theorem dX1_acceptRule_13 : decode cX1_acceptRule 13 = .ok (.putfield 34, 3) := by decide +kernel
theorem dX1_acceptRule_16 : decode cX1_acceptRule 16 = .ok (.iconst 1, 1) := by decide +kernel
theorem dX1_acceptRule_17 : decode cX1_acceptRule 17 = .ok (.ireturn, 1) := by decide +kernel
set_option maxRecDepth 20000 in
theorem ggX2_init_X0_init : GoodIn wsX2_init wsX0_init := goodIn_r _ [13, 14, 2, 3, 15, 16, 17, 18, 19, 23, 24, 25, 26, 27, 28, 29, 30, 31] (by decide +kernel) (by decide +kernel)
set_option maxRecDepth 20000 in
theorem gX2_init_X0_init_n21 : GoodIn wsX2_init (wsX0_init) := ggX2_init_X0_init
set_option maxRecDepth 20000 in
theorem ggX2_put_X0_copyFrom : GoodIn wsX2_put wsX0_copyFrom := goodIn_r _ [8, 9, 10, 11, 12, 13, 14, 15, 16, 17, 18, 19, 20, 21, 25, 26, 27, 28, 29, 30, 31, 32, 33] (by decide +kernel) (by decide +kernel)
set_option maxRecDepth 20000 in
theorem gX2_put_X0_copyFrom : GoodIn wsX2_put (wsV RX2 29 RX0 yX0_copyFrom wsX0_copyFrom) := goodIn_app (goodIn_of _ (by decide +kernel)) ggX2_put_X0_copyFrom
set_option maxRecDepth 20000 in
theorem ggX2_giveLastTo_X0_copyFrom : GoodIn wsX2_giveLastTo wsX0_copyFrom := goodIn_r _ [8, 9, 10, 11, 12, 13, 14, 15, 16, 17, 18, 19, 20, 21, 25, 26, 27, 28, 29, 30, 31, 32, 33] (by decide +kernel) (by decide +kernel)
set_option maxRecDepth 20000 in
theorem gX2_giveLastTo_X0_copyFrom : GoodIn wsX2_giveLastTo (wsV RX2 29 RX0 yX0_copyFrom wsX0_copyFrom) := goodIn_app (goodIn_of _ (by decide +kernel)) ggX2_giveLastTo_X0_copyFrom
theorem dX2_init_0 : decode cX2_init 0 = .ok (.aload_n 0, 1) := by decide +kernel
theorem dX2_init_1 : decode cX2_init 1 = .ok (.invokespecial 1, 3) := by decide +kernel
theorem dX2_init_4 : decode cX2_init 4 = .ok (.aload_n 0, 1) := by decide +kernel
theorem dX2_init_5 : decode cX2_init 5 = .ok (.iconst 1, 1) := by decide +kernel
theorem dX2_init_6 : decode cX2_init 6 = .ok (.iload_n 1, 1) := by decide +kernel
theorem dX2_init_7 : decode cX2_init 7 = .ok (.invokestatic 7, 3) := by decide +kernel
theorem dX2_init_10 : decode cX2_init 10 = .ok (.anewarray 13, 3) := by decide +kernel
theorem dX2_init_13 : decode cX2_init 13 = .ok (.putfield 15, 3) := by decide +kernel
theorem dX2_init_16 : decode cX2_init 16 = .ok (.iconst 0, 1) := by decide +kernel
theorem dX2_init_17 : decode cX2_init 17 = .ok (.istore_n 2, 1) := by decide +kernel
theorem dX2_init_18 : decode cX2_init 18 = .ok (.iload_n 2, 1) := by decide +kernel
theorem dX2_init_19 : decode cX2_init 19 = .ok (.aload_n 0, 1) := by decide +kernel
theorem dX2_init_20 : decode cX2_init 20 = .ok (.getfield 15, 3) := by decide +kernel
theorem dX2_init_23 : decode cX2_init 23 = .ok (.arraylength, 1) := by decide +kernel
theorem dX2_init_24 : decode cX2_init 24 = .ok (.if_icmp .ge 22, 3) := by decide +kernel
theorem dX2_init_27 : decode cX2_init 27 = .ok (.aload_n 0, 1) := by decide +kernel
theorem dX2_init_28 : decode cX2_init 28 = .ok (.getfield 15, 3) := by decide +kernel
theorem dX2_init_31 : decode cX2_init 31 = .ok (.iload_n 2, 1) := by decide +kernel
theorem dX2_init_32 : decode cX2_init 32 = .ok (.new 13, 3) := by decide +kernel
theorem dX2_init_35 : decode cX2_init 35 = .ok (.dup, 1) := by decide +kernel
theorem dX2_init_36 : decode cX2_init 36 = .ok (.invokespecial 21, 3) := by decide +kernel
theorem dX2_init_39 : decode cX2_init 39 = .ok (.aastore, 1) := by decide +kernel
theorem dX2_init_40 : decode cX2_init 40 = .ok (.iinc 2 1, 3) := by decide +kernel
theorem dX2_init_43 : decode cX2_init 43 = .ok (.goto (-25), 3) := by decide +kernel
theorem dX2_init_46 : decode cX2_init 46 = .ok (.return_, 1) := by decide +kernel
theorem dX2_clear_0 : decode cX2_clear 0 = .ok (.aload_n 0, 1) := by decide +kernel
theorem dX2_clear_1 : decode cX2_clear 1 = .ok (.iconst 0, 1) := by decide +kernel
theorem dX2_clear_2 : decode cX2_clear 2 = .ok (.putfield 22, 3) := by decide +kernel
theorem dX2_clear_5 : decode cX2_clear 5 = .ok (.return_, 1) := by decide +kernel
theorem dX2_put_0 : decode cX2_put 0 = .ok (.aload_n 0, 1) := by decide +kernel
theorem dX2_put_1 : decode cX2_put 1 = .ok (.getfield 22, 3) := by decide +kernel
theorem dX2_put_4 : decode cX2_put 4 = .ok (.aload_n 0, 1) := by decide +kernel
theorem dX2_put_5 : decode cX2_put 5 = .ok (.getfield 15, 3) := by decide +kernel
theorem dX2_put_8 : decode cX2_put 8 = .ok (.arraylength, 1) := by decide +kernel
theorem dX2_put_9 : decode cX2_put 9 = .ok (.if_icmp .ne 29, 3) := by decide +kernel
theorem dX2_put_12 : decode cX2_put 12 = .ok (.aload_n 0, 1) := by decide +kernel
theorem dX2_put_13 : decode cX2_put 13 = .ok (.aload_n 0, 1) := by decide +kernel
theorem dX2_put_14 : decode cX2_put 14 = .ok (.getfield 26, 3) := by decide +kernel
theorem dX2_put_17 : decode cX2_put 17 = .ok (.iconst 1, 1) := by decide +kernel
theorem dX2_put_18 : decode cX2_put 18 = .ok (.iadd, 1) := by decide +kernel
theorem dX2_put_19 : decode cX2_put 19 = .ok (.aload_n 0, 1) := by decide +kernel
theorem dX2_put_20 : decode cX2_put 20 = .ok (.getfield 15, 3) := by decide +kernel
theorem dX2_put_23 : decode cX2_put 23 = .ok (.arraylength, 1) := by decide +kernel
theorem dX2_put_24 : decode cX2_put 24 = .ok (.irem, 1) := by decide +kernel
theorem dX2_put_25 : decode cX2_put 25 = .ok (.putfield 26, 3) := by decide +kernel
theorem dX2_put_28 : decode cX2_put 28 = .ok (.aload_n 0, 1) := by decide +kernel
theorem dX2_put_29 : decode cX2_put 29 = .ok (.dup, 1) := by decide +kernel
theorem dX2_put_30 : decode cX2_put 30 = .ok (.getfield 22, 3) := by decide +kernel
theorem dX2_put_33 : decode cX2_put 33 = .ok (.iconst 1, 1) := by decide +kernel
theorem dX2_put_34 : decode cX2_put 34 = .ok (.isub, 1) := by decide +kernel
theorem dX2_put_35 : decode cX2_put 35 = .ok (.putfield 22, 3) := by decide +kernel
theorem dX2_put_38 : decode cX2_put 38 = .ok (.aload_n 0, 1) := by decide +kernel
theorem dX2_put_39 : decode cX2_put 39 = .ok (.getfield 15, 3) := by decide +kernel
theorem dX2_put_42 : decode cX2_put 42 = .ok (.aload_n 0, 1) := by decide +kernel
theorem dX2_put_43 : decode cX2_put 43 = .ok (.getfield 26, 3) := by decide +kernel
theorem dX2_put_46 : decode cX2_put 46 = .ok (.aload_n 0, 1) := by decide +kernel
theorem dX2_put_47 : decode cX2_put 47 = .ok (.getfield 22, 3) := by decide +kernel
theorem dX2_put_50 : decode cX2_put 50 = .ok (.iadd, 1) := by decide +kernel
theorem dX2_put_51 : decode cX2_put 51 = .ok (.aload_n 0, 1) := by decide +kernel
theorem dX2_put_52 : decode cX2_put 52 = .ok (.getfield 15, 3) := by decide +kernel
theorem dX2_put_55 : decode cX2_put 55 = .ok (.arraylength, 1) := by decide +kernel
theorem dX2_put_56 : decode cX2_put 56 = .ok (.irem, 1) := by decide +kernel
theorem dX2_put_57 : decode cX2_put 57 = .ok (.aaload, 1) := by decide +kernel
theorem dX2_put_58 : decode cX2_put 58 = .ok (.aload_n 1, 1) := by decide +kernel
theorem dX2_put_59 : decode cX2_put 59 = .ok (.invokevirtual 29, 3) := by decide +kernel
theorem dX2_put_62 : decode cX2_put 62 = .ok (.aload_n 0, 1) := by decide +kernel
theorem dX2_put_63 : decode cX2_put 63 = .ok (.dup, 1) := by decide +kernel
theorem dX2_put_64 : decode cX2_put 64 = .ok (.getfield 22, 3) := by decide +kernel
theorem dX2_put_67 : decode cX2_put 67 = .ok (.iconst 1, 1) := by decide +kernel
theorem dX2_put_68 : decode cX2_put 68 = .ok (.iadd, 1) := by decide +kernel
theorem dX2_put_69 : decode cX2_put 69 = .ok (.putfield 22, 3) := by decide +kernel
theorem dX2_put_72 : decode cX2_put 72 = .ok (.return_, 1) := by decide +kernel
theorem dX2_giveLastTo_0 : decode cX2_giveLastTo 0 = .ok (.aload_n 0, 1) := by decide +kernel
theorem dX2_giveLastTo_1 : decode cX2_giveLastTo 1 = .ok (.getfield 22, 3) := by decide +kernel
theorem dX2_giveLastTo_4 : decode cX2_giveLastTo 4 = .ok (.ifCond .ne 5, 3) := by decide +kernel
theorem dX2_giveLastTo_7 : decode cX2_giveLastTo 7 = .ok (.iconst 0, 1) := by decide +kernel
theorem dX2_giveLastTo_8 : decode cX2_giveLastTo 8 = .ok (.ireturn, 1) := by decide +kernel
theorem dX2_giveLastTo_9 : decode cX2_giveLastTo 9 = .ok (.aload_n 0, 1) := by decide +kernel
theorem dX2_giveLastTo_10 : decode cX2_giveLastTo 10 = .ok (.dup, 1) := by decide +kernel
theorem dX2_giveLastTo_11 : decode cX2_giveLastTo 11 = .ok (.getfield 22, 3) := by decide +kernel
theorem dX2_giveLastTo_14 : decode cX2_giveLastTo 14 = .ok (.iconst 1, 1) := by decide +kernel
theorem dX2_giveLastTo_15 : decode cX2_giveLastTo 15 = .ok (.isub, 1) := by decide +kernel
theorem dX2_giveLastTo_16 : decode cX2_giveLastTo 16 = .ok (.putfield 22, 3) := by decide +kernel
theorem dX2_giveLastTo_19 : decode cX2_giveLastTo 19 = .ok (.aload_n 1, 1) := by decide +kernel
theorem dX2_giveLastTo_20 : decode cX2_giveLastTo 20 = .ok (.aload_n 0, 1) := by decide +kernel
theorem dX2_giveLastTo_21 : decode cX2_giveLastTo 21 = .ok (.getfield 15, 3) := by decide +kernel
theorem dX2_giveLastTo_24 : decode cX2_giveLastTo 24 = .ok (.aload_n 0, 1) := by decide +kernel
theorem dX2_giveLastTo_25 : decode cX2_giveLastTo 25 = .ok (.getfield 26, 3) := by decide +kernel
theorem dX2_giveLastTo_28 : decode cX2_giveLastTo 28 = .ok (.aload_n 0, 1) := by decide +kernel
theorem dX2_giveLastTo_29 : decode cX2_giveLastTo 29 = .ok (.getfield 22, 3) := by decide +kernel
theorem dX2_giveLastTo_32 : decode cX2_giveLastTo 32 = .ok (.iadd, 1) := by decide +kernel
theorem dX2_giveLastTo_33 : decode cX2_giveLastTo 33 = .ok (.aload_n 0, 1) := by decide +kernel
theorem dX2_giveLastTo_34 : decode cX2_giveLastTo 34 = .ok (.getfield 15, 3) := by decide +kernel
theorem dX2_giveLastTo_37 : decode cX2_giveLastTo 37 = .ok (.arraylength, 1) := by decide +kernel
theorem dX2_giveLastTo_38 : decode cX2_giveLastTo 38 = .ok (.irem, 1) := by decide +kernel
theorem dX2_giveLastTo_39 : decode cX2_giveLastTo 39 = .ok (.aaload, 1) := by decide +kernel
theorem dX2_giveLastTo_40 : decode cX2_giveLastTo 40 = .ok (.invokevirtual 29, 3) := by decide +kernel
theorem dX2_giveLastTo_43 : decode cX2_giveLastTo 43 = .ok (.iconst 1, 1) := by decide +kernel
theorem dX2_giveLastTo_44 : decode cX2_giveLastTo 44 = .ok (.ireturn, 1) := by decide +kernel
theorem dX3_init_0 : decode cX3_init 0 = .ok (.aload_n 0, 1) := by decide +kernel
theorem dX3_init_1 : decode cX3_init 1 = .ok (.invokespecial 3, 3) := by decide +kernel
theorem dX3_init_4 : decode cX3_init 4 = .ok (.aload_n 0, 1) := by decide +kernel
theorem dX3_init_5 : decode cX3_init 5 = .ok (.bipush 6, 2) := by decide +kernel
theorem dX3_init_7 : decode cX3_init 7 = .ok (.newarray .int, 2) := by decide +kernel
theorem dX3_init_9 : decode cX3_init 9 = .ok (.putfield 9, 3) := by decide +kernel
theorem dX3_init_12 : decode cX3_init 12 = .ok (.aload_n 0, 1) := by decide +kernel
theorem dX3_init_13 : decode cX3_init 13 = .ok (.bipush 6, 2) := by decide +kernel
theorem dX3_init_15 : decode cX3_init 15 = .ok (.newarray .int, 2) := by decide +kernel
theorem dX3_init_17 : decode cX3_init 17 = .ok (.putfield 15, 3) := by decide +kernel
theorem dX3_init_20 : decode cX3_init 20 = .ok (.aload_n 0, 1) := by decide +kernel
theorem dX3_init_21 : decode cX3_init 21 = .ok (.bipush 6, 2) := by decide +kernel
theorem dX3_init_23 : decode cX3_init 23 = .ok (.newarray .boolean, 2) := by decide +kernel
theorem dX3_init_25 : decode cX3_init 25 = .ok (.putfield 18, 3) := by decide +kernel
theorem dX3_init_28 : decode cX3_init 28 = .ok (.return_, 1) := by decide +kernel
theorem dX3_add_0 : decode cX3_add 0 = .ok (.aload_n 0, 1) := by decide +kernel
theorem dX3_add_1 : decode cX3_add 1 = .ok (.getfield 22, 3) := by decide +kernel
theorem dX3_add_4 : decode cX3_add 4 = .ok (.bipush 6, 2) := by decide +kernel
theorem dX3_add_6 : decode cX3_add 6 = .ok (.if_icmp .ge 43, 3) := by decide +kernel
theorem dX3_add_9 : decode cX3_add 9 = .ok (.aload_n 0, 1) := by decide +kernel
theorem dX3_add_10 : decode cX3_add 10 = .ok (.getfield 9, 3) := by decide +kernel
theorem dX3_add_13 : decode cX3_add 13 = .ok (.aload_n 0, 1) := by decide +kernel
theorem dX3_add_14 : decode cX3_add 14 = .ok (.getfield 22, 3) := by decide +kernel
theorem dX3_add_17 : decode cX3_add 17 = .ok (.iload_n 1, 1) := by decide +kernel
theorem dX3_add_18 : decode cX3_add 18 = .ok (.iastore, 1) := by decide +kernel
theorem dX3_add_19 : decode cX3_add 19 = .ok (.aload_n 0, 1) := by decide +kernel
theorem dX3_add_20 : decode cX3_add 20 = .ok (.getfield 15, 3) := by decide +kernel
theorem dX3_add_23 : decode cX3_add 23 = .ok (.aload_n 0, 1) := by decide +kernel
theorem dX3_add_24 : decode cX3_add 24 = .ok (.getfield 22, 3) := by decide +kernel
theorem dX3_add_27 : decode cX3_add 27 = .ok (.iload_n 2, 1) := by decide +kernel
theorem dX3_add_28 : decode cX3_add 28 = .ok (.iastore, 1) := by decide +kernel
theorem dX3_add_29 : decode cX3_add 29 = .ok (.aload_n 0, 1) := by decide +kernel
theorem dX3_add_30 : decode cX3_add 30 = .ok (.getfield 18, 3) := by decide +kernel
theorem dX3_add_33 : decode cX3_add 33 = .ok (.aload_n 0, 1) := by decide +kernel
theorem dX3_add_34 : decode cX3_add 34 = .ok (.getfield 22, 3) := by decide +kernel
theorem dX3_add_37 : decode cX3_add 37 = .ok (.iload_n 3, 1) := by decide +kernel
theorem dX3_add_38 : decode cX3_add 38 = .ok (.bastore, 1) := by decide +kernel
theorem dX3_add_39 : decode cX3_add 39 = .ok (.aload_n 0, 1) := by decide +kernel
theorem dX3_add_40 : decode cX3_add 40 = .ok (.dup, 1) := by decide +kernel
theorem dX3_add_41 : decode cX3_add 41 = .ok (.getfield 22, 3) := by decide +kernel
theorem dX3_add_44 : decode cX3_add 44 = .ok (.iconst 1, 1) := by decide +kernel
theorem dX3_add_45 : decode cX3_add 45 = .ok (.iadd, 1) := by decide +kernel
theorem dX3_add_46 : decode cX3_add 46 = .ok (.putfield 22, 3) := by decide +kernel
theorem dX3_add_49 : decode cX3_add 49 = .ok (.return_, 1) := by decide +kernel
theorem dX3_clear_0 : decode cX3_clear 0 = .ok (.aload_n 0, 1) := by decide +kernel
theorem dX3_clear_1 : decode cX3_clear 1 = .ok (.iconst 0, 1) := by decide +kernel
theorem dX3_clear_2 : decode cX3_clear 2 = .ok (.putfield 22, 3) := by decide +kernel
theorem dX3_clear_5 : decode cX3_clear 5 = .ok (.return_, 1) := by decide +kernel
set_option maxRecDepth 20000 in
theorem ggX4_readInto_X1_clear : GoodIn wsX4_readInto wsX1_clear := goodIn_r _ [6, 7, 8, 9, 10, 59, 60, 61, 62, 63, 64, 65, 66] (by decide +kernel) (by decide +kernel)
set_option maxRecDepth 20000 in
theorem gX4_readInto_X1_clear : GoodIn wsX4_readInto (wsV RX4 23 RX1 yX1_clear wsX1_clear) := goodIn_app (goodIn_of _ (by decide +kernel)) ggX4_readInto_X1_clear
set_option maxRecDepth 20000 in
theorem ggX4_readInto_X4_readItem : GoodIn wsX4_readInto wsX4_readItem := goodIn_r _ [15, 16, 17, 1, 18, 19, 14, 20, 21, 22, 23, 24, 25, 26, 27, 28, 29, 30, 31, 32, 33, 34, 35, 5, 36, 37, 38, 39, 40, 7, 41, 42, 43, 44, 45, 46, 47, 48, 49, 50, 51, 8, 9, 52, 53, 54, 55, 10, 56, 57, 58, 59, 60, 61, 62, 63, 64, 65, 66] (by decide +kernel) (by decide +kernel)
set_option maxRecDepth 20000 in
theorem gX4_readInto_X4_readItem : GoodIn wsX4_readInto (wsV RX4 28 RX4 yX4_readItem wsX4_readItem) := goodIn_app (goodIn_of _ (by decide +kernel)) ggX4_readInto_X4_readItem
set_option maxRecDepth 20000 in
theorem ggX4_readItem_X4_numbersBehind : GoodIn wsX4_readItem wsX4_numbersBehind := goodIn_r _ [7] (by decide +kernel) (by decide +kernel)
set_option maxRecDepth 20000 in
theorem gX4_readItem_X4_numbersBehind : GoodIn wsX4_readItem (va_wsS RX4 32 yX4_numbersBehind wsX4_numbersBehind) := goodIn_app (goodIn_of _ (by decide +kernel)) ggX4_readItem_X4_numbersBehind
set_option maxRecDepth 20000 in
theorem ggX4_readItem_X4_figuresAt : GoodIn wsX4_readItem wsX4_figuresAt := goodIn_r _ [11, 12, 13, 14, 6, 15, 3, 1, 48, 49, 50] (by decide +kernel) (by decide +kernel)
set_option maxRecDepth 20000 in
theorem gX4_readItem_X4_figuresAt : GoodIn wsX4_readItem (wsV RX4 36 RX4 yX4_figuresAt wsX4_figuresAt) := goodIn_app (goodIn_of _ (by decide +kernel)) ggX4_readItem_X4_figuresAt
set_option maxRecDepth 20000 in
theorem ggX4_readItem_X4_valueOf : GoodIn wsX4_readItem wsX4_valueOf := goodIn_r _ [19, 1, 48, 49, 50] (by decide +kernel) (by decide +kernel)
set_option maxRecDepth 20000 in
theorem gX4_readItem_X4_valueOf : GoodIn wsX4_readItem (wsV RX4 40 RX4 yX4_valueOf wsX4_valueOf) := goodIn_app (goodIn_of _ (by decide +kernel)) ggX4_readItem_X4_valueOf
set_option maxRecDepth 20000 in
theorem ggX4_readItem_X1_accept : GoodIn wsX4_readItem wsX1_accept := goodIn_r _ [24, 25, 26, 27, 23, 28, 29, 30, 31, 32, 33, 34, 35, 36, 37, 38, 39, 40, 41, 42, 43, 44, 45, 46, 47, 51, 52, 53, 54, 55, 56, 57, 58] (by decide +kernel) (by decide +kernel)
set_option maxRecDepth 20000 in
theorem gX4_readItem_X1_accept : GoodIn wsX4_readItem (wsV RX4 44 RX1 yX1_accept wsX1_accept) := goodIn_app (goodIn_of _ (by decide +kernel)) ggX4_readItem_X1_accept
set_option maxRecDepth 20000 in
theorem ggX4_figuresAt_X4_isFigure : GoodIn wsX4_figuresAt wsX4_isFigure := goodIn_r _ [5, 6, 7, 8, 9, 10] (by decide +kernel) (by decide +kernel)
set_option maxRecDepth 20000 in
theorem gX4_figuresAt_X4_isFigure : GoodIn wsX4_figuresAt (wsV RX4 48 RX4 yX4_isFigure wsX4_isFigure) := goodIn_app (goodIn_of _ (by decide +kernel)) ggX4_figuresAt_X4_isFigure
theorem dX4_init_0 : decode cX4_init 0 = .ok (.aload_n 0, 1) := by decide +kernel
theorem dX4_init_1 : decode cX4_init 1 = .ok (.invokespecial 3, 3) := by decide +kernel
theorem dX4_init_4 : decode cX4_init 4 = .ok (.aload_n 0, 1) := by decide +kernel
theorem dX4_init_5 : decode cX4_init 5 = .ok (.sipush 200, 3) := by decide +kernel
theorem dX4_init_8 : decode cX4_init 8 = .ok (.newarray .char, 2) := by decide +kernel
theorem dX4_init_10 : decode cX4_init 10 = .ok (.putfield 9, 3) := by decide +kernel
theorem dX4_init_13 : decode cX4_init 13 = .ok (.aload_n 0, 1) := by decide +kernel
theorem dX4_init_14 : decode cX4_init 14 = .ok (.iconst 4, 1) := by decide +kernel
theorem dX4_init_15 : decode cX4_init 15 = .ok (.newarray .int, 2) := by decide +kernel
theorem dX4_init_17 : decode cX4_init 17 = .ok (.putfield 15, 3) := by decide +kernel
theorem dX4_init_20 : decode cX4_init 20 = .ok (.return_, 1) := by decide +kernel
theorem dX4_append_0 : decode cX4_append 0 = .ok (.aload_n 0, 1) := by decide +kernel
theorem dX4_append_1 : decode cX4_append 1 = .ok (.getfield 19, 3) := by decide +kernel
theorem dX4_append_4 : decode cX4_append 4 = .ok (.sipush 200, 3) := by decide +kernel
theorem dX4_append_7 : decode cX4_append 7 = .ok (.if_icmp .ge 23, 3) := by decide +kernel
theorem dX4_append_10 : decode cX4_append 10 = .ok (.aload_n 0, 1) := by decide +kernel
theorem dX4_append_11 : decode cX4_append 11 = .ok (.getfield 9, 3) := by decide +kernel
theorem dX4_append_14 : decode cX4_append 14 = .ok (.aload_n 0, 1) := by decide +kernel
theorem dX4_append_15 : decode cX4_append 15 = .ok (.getfield 19, 3) := by decide +kernel
theorem dX4_append_18 : decode cX4_append 18 = .ok (.iload_n 1, 1) := by decide +kernel
theorem dX4_append_19 : decode cX4_append 19 = .ok (.castore, 1) := by decide +kernel
theorem dX4_append_20 : decode cX4_append 20 = .ok (.aload_n 0, 1) := by decide +kernel
theorem dX4_append_21 : decode cX4_append 21 = .ok (.dup, 1) := by decide +kernel
theorem dX4_append_22 : decode cX4_append 22 = .ok (.getfield 19, 3) := by decide +kernel
theorem dX4_append_25 : decode cX4_append 25 = .ok (.iconst 1, 1) := by decide +kernel
theorem dX4_append_26 : decode cX4_append 26 = .ok (.iadd, 1) := by decide +kernel
theorem dX4_append_27 : decode cX4_append 27 = .ok (.putfield 19, 3) := by decide +kernel
theorem dX4_append_30 : decode cX4_append 30 = .ok (.return_, 1) := by decide +kernel
theorem dX4_clear_0 : decode cX4_clear 0 = .ok (.aload_n 0, 1) := by decide +kernel
theorem dX4_clear_1 : decode cX4_clear 1 = .ok (.iconst 0, 1) := by decide +kernel
theorem dX4_clear_2 : decode cX4_clear 2 = .ok (.putfield 19, 3) := by decide +kernel
theorem dX4_clear_5 : decode cX4_clear 5 = .ok (.return_, 1) := by decide +kernel
theorem dX4_readInto_0 : decode cX4_readInto 0 = .ok (.aload_n 1, 1) := by decide +kernel
theorem dX4_readInto_1 : decode cX4_readInto 1 = .ok (.invokevirtual 23, 3) := by decide +kernel
theorem dX4_readInto_4 : decode cX4_readInto 4 = .ok (.iconst 0, 1) := by decide +kernel
theorem dX4_readInto_5 : decode cX4_readInto 5 = .ok (.istore_n 2, 1) := by decide +kernel
theorem dX4_readInto_6 : decode cX4_readInto 6 = .ok (.iconst 0, 1) := by decide +kernel
theorem dX4_readInto_7 : decode cX4_readInto 7 = .ok (.istore_n 3, 1) := by decide +kernel
theorem dX4_readInto_8 : decode cX4_readInto 8 = .ok (.iload_n 3, 1) := by decide +kernel
theorem dX4_readInto_9 : decode cX4_readInto 9 = .ok (.sipush 200, 3) := by decide +kernel
theorem dX4_readInto_12 : decode cX4_readInto 12 = .ok (.if_icmp .ge 37, 3) := by decide +kernel
theorem dX4_readInto_15 : decode cX4_readInto 15 = .ok (.iload_n 2, 1) := by decide +kernel
theorem dX4_readInto_16 : decode cX4_readInto 16 = .ok (.aload_n 0, 1) := by decide +kernel
theorem dX4_readInto_17 : decode cX4_readInto 17 = .ok (.getfield 19, 3) := by decide +kernel
theorem dX4_readInto_20 : decode cX4_readInto 20 = .ok (.if_icmp .ge 29, 3) := by decide +kernel
theorem dX4_readInto_23 : decode cX4_readInto 23 = .ok (.aload_n 0, 1) := by decide +kernel
theorem dX4_readInto_24 : decode cX4_readInto 24 = .ok (.iload_n 2, 1) := by decide +kernel
theorem dX4_readInto_25 : decode cX4_readInto 25 = .ok (.aload_n 1, 1) := by decide +kernel
theorem dX4_readInto_26 : decode cX4_readInto 26 = .ok (.invokevirtual 28, 3) := by decide +kernel
theorem dX4_readInto_29 : decode cX4_readInto 29 = .ok (.istore 4, 2) := by decide +kernel
theorem dX4_readInto_31 : decode cX4_readInto 31 = .ok (.iload 4, 2) := by decide +kernel
theorem dX4_readInto_33 : decode cX4_readInto 33 = .ok (.bipush (-4), 2) := by decide +kernel
theorem dX4_readInto_35 : decode cX4_readInto 35 = .ok (.if_icmp .ne 5, 3) := by decide +kernel
theorem dX4_readInto_38 : decode cX4_readInto 38 = .ok (.iload_n 2, 1) := by decide +kernel
theorem dX4_readInto_39 : decode cX4_readInto 39 = .ok (.ireturn, 1) := by decide +kernel
theorem dX4_readInto_40 : decode cX4_readInto 40 = .ok (.iload 4, 2) := by decide +kernel
theorem dX4_readInto_42 : decode cX4_readInto 42 = .ok (.istore_n 2, 1) := by decide +kernel
theorem dX4_readInto_43 : decode cX4_readInto 43 = .ok (.iinc 3 1, 3) := by decide +kernel
theorem dX4_readInto_46 : decode cX4_readInto 46 = .ok (.goto (-38), 3) := by decide +kernel
theorem dX4_readInto_49 : decode cX4_readInto 49 = .ok (.bipush (-4), 2) := by decide +kernel
theorem dX4_readInto_51 : decode cX4_readInto 51 = .ok (.ireturn, 1) := by decide +kernel
theorem dX4_readItem_0 : decode cX4_readItem 0 = .ok (.aload_n 0, 1) := by decide +kernel
theorem dX4_readItem_1 : decode cX4_readItem 1 = .ok (.getfield 9, 3) := by decide +kernel
theorem dX4_readItem_4 : decode cX4_readItem 4 = .ok (.iload_n 1, 1) := by decide +kernel
theorem dX4_readItem_5 : decode cX4_readItem 5 = .ok (.caload, 1) := by decide +kernel
theorem dX4_readItem_6 : decode cX4_readItem 6 = .ok (.invokestatic 32, 3) := by decide +kernel
theorem dX4_readItem_9 : decode cX4_readItem 9 = .ok (.istore_n 3, 1) := by decide +kernel
theorem dX4_readItem_10 : decode cX4_readItem 10 = .ok (.iload_n 3, 1) := by decide +kernel
theorem dX4_readItem_11 : decode cX4_readItem 11 = .ok (.ifCond .ne 6, 3) := by decide +kernel
theorem dX4_readItem_14 : decode cX4_readItem 14 = .ok (.bipush (-4), 2) := by decide +kernel
theorem dX4_readItem_16 : decode cX4_readItem 16 = .ok (.ireturn, 1) := by decide +kernel
theorem dX4_readItem_17 : decode cX4_readItem 17 = .ok (.iload_n 1, 1) := by decide +kernel
theorem dX4_readItem_18 : decode cX4_readItem 18 = .ok (.iconst 1, 1) := by decide +kernel
theorem dX4_readItem_19 : decode cX4_readItem 19 = .ok (.iadd, 1) := by decide +kernel
theorem dX4_readItem_20 : decode cX4_readItem 20 = .ok (.istore 4, 2) := by decide +kernel
theorem dX4_readItem_22 : decode cX4_readItem 22 = .ok (.iconst 0, 1) := by decide +kernel
theorem dX4_readItem_23 : decode cX4_readItem 23 = .ok (.istore 5, 2) := by decide +kernel
theorem dX4_readItem_25 : decode cX4_readItem 25 = .ok (.iload 5, 2) := by decide +kernel
theorem dX4_readItem_27 : decode cX4_readItem 27 = .ok (.iload_n 3, 1) := by decide +kernel
theorem dX4_readItem_28 : decode cX4_readItem 28 = .ok (.if_icmp .ge 91, 3) := by decide +kernel
theorem dX4_readItem_31 : decode cX4_readItem 31 = .ok (.aload_n 0, 1) := by decide +kernel
theorem dX4_readItem_32 : decode cX4_readItem 32 = .ok (.iload 4, 2) := by decide +kernel
theorem dX4_readItem_34 : decode cX4_readItem 34 = .ok (.invokevirtual 36, 3) := by decide +kernel
theorem dX4_readItem_37 : decode cX4_readItem 37 = .ok (.istore 6, 2) := by decide +kernel
theorem dX4_readItem_39 : decode cX4_readItem 39 = .ok (.iload 6, 2) := by decide +kernel
theorem dX4_readItem_41 : decode cX4_readItem 41 = .ok (.ifCond .ne 6, 3) := by decide +kernel
theorem dX4_readItem_44 : decode cX4_readItem 44 = .ok (.bipush (-4), 2) := by decide +kernel
theorem dX4_readItem_46 : decode cX4_readItem 46 = .ok (.ireturn, 1) := by decide +kernel
theorem dX4_readItem_47 : decode cX4_readItem 47 = .ok (.aload_n 0, 1) := by decide +kernel
theorem dX4_readItem_48 : decode cX4_readItem 48 = .ok (.getfield 15, 3) := by decide +kernel
theorem dX4_readItem_51 : decode cX4_readItem 51 = .ok (.iload 5, 2) := by decide +kernel
theorem dX4_readItem_53 : decode cX4_readItem 53 = .ok (.aload_n 0, 1) := by decide +kernel
theorem dX4_readItem_54 : decode cX4_readItem 54 = .ok (.iload 4, 2) := by decide +kernel
theorem dX4_readItem_56 : decode cX4_readItem 56 = .ok (.iload 6, 2) := by decide +kernel
theorem dX4_readItem_58 : decode cX4_readItem 58 = .ok (.invokevirtual 40, 3) := by decide +kernel
theorem dX4_readItem_61 : decode cX4_readItem 61 = .ok (.iastore, 1) := by decide +kernel
theorem dX4_readItem_62 : decode cX4_readItem 62 = .ok (.iload 4, 2) := by decide +kernel
theorem dX4_readItem_64 : decode cX4_readItem 64 = .ok (.iload 6, 2) := by decide +kernel
theorem dX4_readItem_66 : decode cX4_readItem 66 = .ok (.iadd, 1) := by decide +kernel
theorem dX4_readItem_67 : decode cX4_readItem 67 = .ok (.istore 4, 2) := by decide +kernel
theorem dX4_readItem_69 : decode cX4_readItem 69 = .ok (.iload 5, 2) := by decide +kernel
theorem dX4_readItem_71 : decode cX4_readItem 71 = .ok (.iload_n 3, 1) := by decide +kernel
theorem dX4_readItem_72 : decode cX4_readItem 72 = .ok (.iconst 1, 1) := by decide +kernel
theorem dX4_readItem_73 : decode cX4_readItem 73 = .ok (.isub, 1) := by decide +kernel
theorem dX4_readItem_74 : decode cX4_readItem 74 = .ok (.if_icmp .ne 8, 3) := by decide +kernel
theorem dX4_readItem_77 : decode cX4_readItem 77 = .ok (.bipush 59, 2) := by decide +kernel
theorem dX4_readItem_79 : decode cX4_readItem 79 = .ok (.goto 5, 3) := by decide +kernel
theorem dX4_readItem_82 : decode cX4_readItem 82 = .ok (.bipush 44, 2) := by decide +kernel
theorem dX4_readItem_84 : decode cX4_readItem 84 = .ok (.istore 7, 2) := by decide +kernel
theorem dX4_readItem_86 : decode cX4_readItem 86 = .ok (.iload 4, 2) := by decide +kernel
theorem dX4_readItem_88 : decode cX4_readItem 88 = .ok (.aload_n 0, 1) := by decide +kernel
theorem dX4_readItem_89 : decode cX4_readItem 89 = .ok (.getfield 19, 3) := by decide +kernel
theorem dX4_readItem_92 : decode cX4_readItem 92 = .ok (.if_icmp .ge 15, 3) := by decide +kernel
theorem dX4_readItem_95 : decode cX4_readItem 95 = .ok (.aload_n 0, 1) := by decide +kernel
theorem dX4_readItem_96 : decode cX4_readItem 96 = .ok (.getfield 9, 3) := by decide +kernel
theorem dX4_readItem_99 : decode cX4_readItem 99 = .ok (.iload 4, 2) := by decide +kernel
theorem dX4_readItem_101 : decode cX4_readItem 101 = .ok (.caload, 1) := by decide +kernel
theorem dX4_readItem_102 : decode cX4_readItem 102 = .ok (.iload 7, 2) := by decide +kernel
theorem dX4_readItem_104 : decode cX4_readItem 104 = .ok (.if_icmp .eq 6, 3) := by decide +kernel
theorem dX4_readItem_107 : decode cX4_readItem 107 = .ok (.bipush (-4), 2) := by decide +kernel
theorem dX4_readItem_109 : decode cX4_readItem 109 = .ok (.ireturn, 1) := by decide +kernel
theorem dX4_readItem_110 : decode cX4_readItem 110 = .ok (.iinc 4 1, 3) := by decide +kernel
theorem dX4_readItem_113 : decode cX4_readItem 113 = .ok (.iinc 5 1, 3) := by decide +kernel
theorem dX4_readItem_116 : decode cX4_readItem 116 = .ok (.goto (-91), 3) := by decide +kernel
theorem dX4_readItem_119 : decode cX4_readItem 119 = .ok (.aload_n 2, 1) := by decide +kernel
theorem dX4_readItem_120 : decode cX4_readItem 120 = .ok (.aload_n 0, 1) := by decide +kernel
theorem dX4_readItem_121 : decode cX4_readItem 121 = .ok (.getfield 9, 3) := by decide +kernel
theorem dX4_readItem_124 : decode cX4_readItem 124 = .ok (.iload_n 1, 1) := by decide +kernel
theorem dX4_readItem_125 : decode cX4_readItem 125 = .ok (.caload, 1) := by decide +kernel
theorem dX4_readItem_126 : decode cX4_readItem 126 = .ok (.aload_n 0, 1) := by decide +kernel
theorem dX4_readItem_127 : decode cX4_readItem 127 = .ok (.getfield 15, 3) := by decide +kernel
theorem dX4_readItem_130 : decode cX4_readItem 130 = .ok (.invokevirtual 44, 3) := by decide +kernel
theorem dX4_readItem_133 : decode cX4_readItem 133 = .ok (.ifCond .eq 8, 3) := by decide +kernel
theorem dX4_readItem_136 : decode cX4_readItem 136 = .ok (.iload 4, 2) := by decide +kernel
theorem dX4_readItem_138 : decode cX4_readItem 138 = .ok (.goto 5, 3) := by decide +kernel
theorem dX4_readItem_141 : decode cX4_readItem 141 = .ok (.bipush (-4), 2) := by decide +kernel
theorem dX4_readItem_143 : decode cX4_readItem 143 = .ok (.ireturn, 1) := by decide +kernel
theorem dX4_numbersBehind_0 : decode cX4_numbersBehind 0 = .ok (.iload_n 0, 1) := by decide +kernel
theorem dX4_numbersBehind_1 : decode cX4_numbersBehind 1 = .ok (.lookupswitch 41 #[(99, 35), (114, 39), (115, 37)], 35) := by decide +kernel
theorem dX4_numbersBehind_36 : decode cX4_numbersBehind 36 = .ok (.iconst 4, 1) := by decide +kernel
theorem dX4_numbersBehind_37 : decode cX4_numbersBehind 37 = .ok (.ireturn, 1) := by decide +kernel
theorem dX4_numbersBehind_38 : decode cX4_numbersBehind 38 = .ok (.iconst 2, 1) := by decide +kernel
theorem dX4_numbersBehind_39 : decode cX4_numbersBehind 39 = .ok (.ireturn, 1) := by decide +kernel
theorem dX4_numbersBehind_40 : decode cX4_numbersBehind 40 = .ok (.iconst 1, 1) := by decide +kernel
theorem dX4_numbersBehind_41 : decode cX4_numbersBehind 41 = .ok (.ireturn, 1) := by decide +kernel
theorem dX4_numbersBehind_42 : decode cX4_numbersBehind 42 = .ok (.iconst 0, 1) := by decide +kernel
theorem dX4_numbersBehind_43 : decode cX4_numbersBehind 43 = .ok (.ireturn, 1) := by decide +kernel
theorem dX4_figuresAt_0 : decode cX4_figuresAt 0 = .ok (.aload_n 0, 1) := by decide +kernel
theorem dX4_figuresAt_1 : decode cX4_figuresAt 1 = .ok (.iload_n 1, 1) := by decide +kernel
theorem dX4_figuresAt_2 : decode cX4_figuresAt 2 = .ok (.invokevirtual 48, 3) := by decide +kernel
theorem dX4_figuresAt_5 : decode cX4_figuresAt 5 = .ok (.ifCond .ne 5, 3) := by decide +kernel
theorem dX4_figuresAt_8 : decode cX4_figuresAt 8 = .ok (.iconst 0, 1) := by decide +kernel
theorem dX4_figuresAt_9 : decode cX4_figuresAt 9 = .ok (.ireturn, 1) := by decide +kernel
theorem dX4_figuresAt_10 : decode cX4_figuresAt 10 = .ok (.aload_n 0, 1) := by decide +kernel
theorem dX4_figuresAt_11 : decode cX4_figuresAt 11 = .ok (.iload_n 1, 1) := by decide +kernel
theorem dX4_figuresAt_12 : decode cX4_figuresAt 12 = .ok (.iconst 1, 1) := by decide +kernel
theorem dX4_figuresAt_13 : decode cX4_figuresAt 13 = .ok (.iadd, 1) := by decide +kernel
theorem dX4_figuresAt_14 : decode cX4_figuresAt 14 = .ok (.invokevirtual 48, 3) := by decide +kernel
theorem dX4_figuresAt_17 : decode cX4_figuresAt 17 = .ok (.ifCond .eq 7, 3) := by decide +kernel
theorem dX4_figuresAt_20 : decode cX4_figuresAt 20 = .ok (.iconst 2, 1) := by decide +kernel
theorem dX4_figuresAt_21 : decode cX4_figuresAt 21 = .ok (.goto 4, 3) := by decide +kernel
theorem dX4_figuresAt_24 : decode cX4_figuresAt 24 = .ok (.iconst 1, 1) := by decide +kernel
theorem dX4_figuresAt_25 : decode cX4_figuresAt 25 = .ok (.ireturn, 1) := by decide +kernel
theorem dX4_isFigure_0 : decode cX4_isFigure 0 = .ok (.iload_n 1, 1) := by decide +kernel
theorem dX4_isFigure_1 : decode cX4_isFigure 1 = .ok (.aload_n 0, 1) := by decide +kernel
theorem dX4_isFigure_2 : decode cX4_isFigure 2 = .ok (.getfield 19, 3) := by decide +kernel
theorem dX4_isFigure_5 : decode cX4_isFigure 5 = .ok (.if_icmp .ge 29, 3) := by decide +kernel
theorem dX4_isFigure_8 : decode cX4_isFigure 8 = .ok (.aload_n 0, 1) := by decide +kernel
theorem dX4_isFigure_9 : decode cX4_isFigure 9 = .ok (.getfield 9, 3) := by decide +kernel
theorem dX4_isFigure_12 : decode cX4_isFigure 12 = .ok (.iload_n 1, 1) := by decide +kernel
theorem dX4_isFigure_13 : decode cX4_isFigure 13 = .ok (.caload, 1) := by decide +kernel
theorem dX4_isFigure_14 : decode cX4_isFigure 14 = .ok (.bipush 48, 2) := by decide +kernel
theorem dX4_isFigure_16 : decode cX4_isFigure 16 = .ok (.if_icmp .lt 18, 3) := by decide +kernel
theorem dX4_isFigure_19 : decode cX4_isFigure 19 = .ok (.aload_n 0, 1) := by decide +kernel
theorem dX4_isFigure_20 : decode cX4_isFigure 20 = .ok (.getfield 9, 3) := by decide +kernel
theorem dX4_isFigure_23 : decode cX4_isFigure 23 = .ok (.iload_n 1, 1) := by decide +kernel
theorem dX4_isFigure_24 : decode cX4_isFigure 24 = .ok (.caload, 1) := by decide +kernel
theorem dX4_isFigure_25 : decode cX4_isFigure 25 = .ok (.bipush 57, 2) := by decide +kernel
theorem dX4_isFigure_27 : decode cX4_isFigure 27 = .ok (.if_icmp .gt 7, 3) := by decide +kernel
theorem dX4_isFigure_30 : decode cX4_isFigure 30 = .ok (.iconst 1, 1) := by decide +kernel
theorem dX4_isFigure_31 : decode cX4_isFigure 31 = .ok (.goto 4, 3) := by decide +kernel
theorem dX4_isFigure_34 : decode cX4_isFigure 34 = .ok (.iconst 0, 1) := by decide +kernel
theorem dX4_isFigure_35 : decode cX4_isFigure 35 = .ok (.ireturn, 1) := by decide +kernel
theorem dX4_valueOf_0 : decode cX4_valueOf 0 = .ok (.aload_n 0, 1) := by decide +kernel
theorem dX4_valueOf_1 : decode cX4_valueOf 1 = .ok (.getfield 9, 3) := by decide +kernel
theorem dX4_valueOf_4 : decode cX4_valueOf 4 = .ok (.iload_n 1, 1) := by decide +kernel
theorem dX4_valueOf_5 : decode cX4_valueOf 5 = .ok (.caload, 1) := by decide +kernel
theorem dX4_valueOf_6 : decode cX4_valueOf 6 = .ok (.bipush 48, 2) := by decide +kernel
theorem dX4_valueOf_8 : decode cX4_valueOf 8 = .ok (.isub, 1) := by decide +kernel
theorem dX4_valueOf_9 : decode cX4_valueOf 9 = .ok (.istore_n 3, 1) := by decide +kernel
theorem dX4_valueOf_10 : decode cX4_valueOf 10 = .ok (.iload_n 2, 1) := by decide +kernel
theorem dX4_valueOf_11 : decode cX4_valueOf 11 = .ok (.iconst 2, 1) := by decide +kernel
theorem dX4_valueOf_12 : decode cX4_valueOf 12 = .ok (.if_icmp .ne 22, 3) := by decide +kernel
theorem dX4_valueOf_15 : decode cX4_valueOf 15 = .ok (.bipush 10, 2) := by decide +kernel
theorem dX4_valueOf_17 : decode cX4_valueOf 17 = .ok (.iload_n 3, 1) := by decide +kernel
theorem dX4_valueOf_18 : decode cX4_valueOf 18 = .ok (.imul, 1) := by decide +kernel
theorem dX4_valueOf_19 : decode cX4_valueOf 19 = .ok (.aload_n 0, 1) := by decide +kernel
theorem dX4_valueOf_20 : decode cX4_valueOf 20 = .ok (.getfield 9, 3) := by decide +kernel
theorem dX4_valueOf_23 : decode cX4_valueOf 23 = .ok (.iload_n 1, 1) := by decide +kernel
theorem dX4_valueOf_24 : decode cX4_valueOf 24 = .ok (.iconst 1, 1) := by decide +kernel
theorem dX4_valueOf_25 : decode cX4_valueOf 25 = .ok (.iadd, 1) := by decide +kernel
theorem dX4_valueOf_26 : decode cX4_valueOf 26 = .ok (.caload, 1) := by decide +kernel
theorem dX4_valueOf_27 : decode cX4_valueOf 27 = .ok (.iadd, 1) := by decide +kernel
theorem dX4_valueOf_28 : decode cX4_valueOf 28 = .ok (.bipush 48, 2) := by decide +kernel
theorem dX4_valueOf_30 : decode cX4_valueOf 30 = .ok (.isub, 1) := by decide +kernel
theorem dX4_valueOf_31 : decode cX4_valueOf 31 = .ok (.goto 4, 3) := by decide +kernel
theorem dX4_valueOf_34 : decode cX4_valueOf 34 = .ok (.iload_n 3, 1) := by decide +kernel
theorem dX4_valueOf_35 : decode cX4_valueOf 35 = .ok (.ireturn, 1) := by decide +kernel
