theorem dX0_init_0 : decode cX0_init 0 = .ok (.aload_n 0, 1) := by decide +kernel
theorem dX0_init_1 : decode cX0_init 1 = .ok (.invokespecial 3, 3) := by decide +kernel
theorem dX0_init_4 : decode cX0_init 4 = .ok (.aload_n 0, 1) := by decide +kernel
theorem dX0_init_5 : decode cX0_init 5 = .ok (.bipush (-9), 2) := by decide +kernel
theorem dX0_init_7 : decode cX0_init 7 = .ok (.putfield 9, 3) := by decide +kernel
theorem dX0_init_10 : decode cX0_init 10 = .ok (.aload_n 0, 1) := by decide +kernel
theorem dX0_init_11 : decode cX0_init 11 = .ok (.iconst 0, 1) := by decide +kernel
theorem dX0_init_12 : decode cX0_init 12 = .ok (.putfield 15, 3) := by decide +kernel
theorem dX0_init_15 : decode cX0_init 15 = .ok (.aload_n 0, 1) := by decide +kernel
theorem dX0_init_16 : decode cX0_init 16 = .ok (.iconst 0, 1) := by decide +kernel
theorem dX0_init_17 : decode cX0_init 17 = .ok (.putfield 18, 3) := by decide +kernel
theorem dX0_init_20 : decode cX0_init 20 = .ok (.aload_n 0, 1) := by decide +kernel
theorem dX0_init_21 : decode cX0_init 21 = .ok (.iconst 0, 1) := by decide +kernel
theorem dX0_init_22 : decode cX0_init 22 = .ok (.putfield 21, 3) := by decide +kernel
theorem dX0_init_25 : decode cX0_init 25 = .ok (.return_, 1) := by decide +kernel
set_option maxRecDepth 20000 in
theorem ggX0_run_X5_numberNow : GoodIn wsX0_run wsX5_numberNow := goodIn_r _ [13, 14, 15, 16, 83, 84, 85, 86, 87, 88, 89] (by decide +kernel) (by decide +kernel)
set_option maxRecDepth 20000 in
theorem gX0_run_X5_numberNow : GoodIn wsX0_run (wsV RX0 24 RX5 yX5_numberNow wsX5_numberNow) := goodIn_app (goodIn_of _ (by decide +kernel)) ggX0_run_X5_numberNow
set_option maxRecDepth 20000 in
theorem ggX0_run_X3_at : GoodIn wsX0_run wsX3_at := goodIn_r _ [21, 22, 23, 90, 91, 92, 93] (by decide +kernel) (by decide +kernel)
set_option maxRecDepth 20000 in
theorem gX0_run_X3_at : GoodIn wsX0_run (wsV RX0 30 RX3 yX3_at wsX3_at) := goodIn_app (goodIn_of _ (by decide +kernel)) ggX0_run_X3_at
set_option maxRecDepth 20000 in
theorem ggX0_run_X0_isDone : GoodIn wsX0_run wsX0_isDone := goodIn_r _ [28, 29, 30, 31, 27, 32, 3, 2, 33, 34, 35, 12, 36, 14, 37, 38, 10, 11, 13, 15, 16, 9, 39, 40, 41, 42, 43, 44, 45, 46, 47, 48, 49, 50, 51, 52, 53, 54, 55, 56, 57, 58, 59, 60, 61, 7, 62, 63, 64, 65, 66, 67, 68, 69, 70, 71, 72, 73, 74, 75, 76, 77, 78, 79, 80, 81, 82, 83, 84, 85, 86, 87, 88, 89] (by decide +kernel) (by decide +kernel)
set_option maxRecDepth 20000 in
theorem gX0_run_X0_isDone : GoodIn wsX0_run (wsV RX0 36 RX0 yX0_isDone wsX0_isDone) := goodIn_app (goodIn_of _ (by decide +kernel)) ggX0_run_X0_isDone
theorem dX0_run_0 : decode cX0_run 0 = .ok (.aload_n 0, 1) := by decide +kernel
theorem dX0_run_1 : decode cX0_run 1 = .ok (.bipush (-9), 2) := by decide +kernel
theorem dX0_run_3 : decode cX0_run 3 = .ok (.putfield 9, 3) := by decide +kernel
theorem dX0_run_6 : decode cX0_run 6 = .ok (.aload_n 0, 1) := by decide +kernel
theorem dX0_run_7 : decode cX0_run 7 = .ok (.iconst 0, 1) := by decide +kernel
theorem dX0_run_8 : decode cX0_run 8 = .ok (.putfield 15, 3) := by decide +kernel
theorem dX0_run_11 : decode cX0_run 11 = .ok (.aload_n 0, 1) := by decide +kernel
theorem dX0_run_12 : decode cX0_run 12 = .ok (.iconst 0, 1) := by decide +kernel
theorem dX0_run_13 : decode cX0_run 13 = .ok (.putfield 18, 3) := by decide +kernel
theorem dX0_run_16 : decode cX0_run 16 = .ok (.aload_n 0, 1) := by decide +kernel
theorem dX0_run_17 : decode cX0_run 17 = .ok (.aload_n 1, 1) := by decide +kernel
theorem dX0_run_18 : decode cX0_run 18 = .ok (.invokevirtual 24, 3) := by decide +kernel
theorem dX0_run_21 : decode cX0_run 21 = .ok (.putfield 21, 3) := by decide +kernel
theorem dX0_run_24 : decode cX0_run 24 = .ok (.iconst 0, 1) := by decide +kernel
theorem dX0_run_25 : decode cX0_run 25 = .ok (.istore 5, 2) := by decide +kernel
theorem dX0_run_27 : decode cX0_run 27 = .ok (.iload 5, 2) := by decide +kernel
theorem dX0_run_29 : decode cX0_run 29 = .ok (.iload 4, 2) := by decide +kernel
theorem dX0_run_31 : decode cX0_run 31 = .ok (.if_icmp .ge 72, 3) := by decide +kernel
theorem dX0_run_34 : decode cX0_run 34 = .ok (.aload_n 0, 1) := by decide +kernel
theorem dX0_run_35 : decode cX0_run 35 = .ok (.getfield 9, 3) := by decide +kernel
theorem dX0_run_38 : decode cX0_run 38 = .ok (.bipush (-9), 2) := by decide +kernel
theorem dX0_run_40 : decode cX0_run 40 = .ok (.if_icmp .ne 63, 3) := by decide +kernel
theorem dX0_run_43 : decode cX0_run 43 = .ok (.aload_n 0, 1) := by decide +kernel
theorem dX0_run_44 : decode cX0_run 44 = .ok (.aload_n 1, 1) := by decide +kernel
theorem dX0_run_45 : decode cX0_run 45 = .ok (.aload_n 2, 1) := by decide +kernel
theorem dX0_run_46 : decode cX0_run 46 = .ok (.iload_n 3, 1) := by decide +kernel
theorem dX0_run_47 : decode cX0_run 47 = .ok (.iconst 2, 1) := by decide +kernel
theorem dX0_run_48 : decode cX0_run 48 = .ok (.iload 5, 2) := by decide +kernel
theorem dX0_run_50 : decode cX0_run 50 = .ok (.imul, 1) := by decide +kernel
theorem dX0_run_51 : decode cX0_run 51 = .ok (.iadd, 1) := by decide +kernel
theorem dX0_run_52 : decode cX0_run 52 = .ok (.invokevirtual 30, 3) := by decide +kernel
theorem dX0_run_55 : decode cX0_run 55 = .ok (.aload_n 2, 1) := by decide +kernel
theorem dX0_run_56 : decode cX0_run 56 = .ok (.iload_n 3, 1) := by decide +kernel
theorem dX0_run_57 : decode cX0_run 57 = .ok (.iconst 2, 1) := by decide +kernel
theorem dX0_run_58 : decode cX0_run 58 = .ok (.iload 5, 2) := by decide +kernel
theorem dX0_run_60 : decode cX0_run 60 = .ok (.imul, 1) := by decide +kernel
theorem dX0_run_61 : decode cX0_run 61 = .ok (.iadd, 1) := by decide +kernel
theorem dX0_run_62 : decode cX0_run 62 = .ok (.iconst 1, 1) := by decide +kernel
theorem dX0_run_63 : decode cX0_run 63 = .ok (.iadd, 1) := by decide +kernel
theorem dX0_run_64 : decode cX0_run 64 = .ok (.invokevirtual 30, 3) := by decide +kernel
theorem dX0_run_67 : decode cX0_run 67 = .ok (.invokevirtual 36, 3) := by decide +kernel
theorem dX0_run_70 : decode cX0_run 70 = .ok (.ifCond .eq 21, 3) := by decide +kernel
theorem dX0_run_73 : decode cX0_run 73 = .ok (.aload_n 0, 1) := by decide +kernel
theorem dX0_run_74 : decode cX0_run 74 = .ok (.aload_n 0, 1) := by decide +kernel
theorem dX0_run_75 : decode cX0_run 75 = .ok (.getfield 21, 3) := by decide +kernel
theorem dX0_run_78 : decode cX0_run 78 = .ok (.aload_n 1, 1) := by decide +kernel
theorem dX0_run_79 : decode cX0_run 79 = .ok (.invokevirtual 24, 3) := by decide +kernel
theorem dX0_run_82 : decode cX0_run 82 = .ok (.invokestatic 40, 3) := by decide +kernel
theorem dX0_run_85 : decode cX0_run 85 = .ok (.putfield 21, 3) := by decide +kernel
theorem dX0_run_88 : decode cX0_run 88 = .ok (.goto 9, 3) := by decide +kernel
theorem dX0_run_91 : decode cX0_run 91 = .ok (.aload_n 0, 1) := by decide +kernel
theorem dX0_run_92 : decode cX0_run 92 = .ok (.iload 5, 2) := by decide +kernel
theorem dX0_run_94 : decode cX0_run 94 = .ok (.putfield 9, 3) := by decide +kernel
theorem dX0_run_97 : decode cX0_run 97 = .ok (.iinc 5 1, 3) := by decide +kernel
theorem dX0_run_100 : decode cX0_run 100 = .ok (.goto (-73), 3) := by decide +kernel
theorem dX0_run_103 : decode cX0_run 103 = .ok (.return_, 1) := by decide +kernel
set_option maxRecDepth 20000 in
theorem ggX0_isDone_X0_isSummed : GoodIn wsX0_isDone wsX0_isSummed := goodIn_r _ [5, 6, 7, 8, 9, 10, 11, 12, 13, 14, 15, 16, 17, 18, 19, 20, 21, 22, 23, 24, 25, 26, 27, 28, 29, 30, 31, 32, 33, 34, 35, 36, 37, 38, 39, 40, 41, 42, 43, 44, 45, 46, 63, 64, 65, 66, 67, 68, 69, 70, 71, 72, 73] (by decide +kernel) (by decide +kernel)
set_option maxRecDepth 20000 in
theorem gX0_isDone_X0_isSummed : GoodIn wsX0_isDone (wsV RX0 46 RX0 yX0_isSummed wsX0_isSummed) := goodIn_app (goodIn_of _ (by decide +kernel)) ggX0_isDone_X0_isSummed
set_option maxRecDepth 20000 in
theorem ggX0_isDone_X0_isTaken : GoodIn wsX0_isDone wsX0_isTaken := goodIn_r _ [50, 6, 7, 51, 52, 53, 11, 54, 13, 15, 16, 17, 18, 19, 20, 21, 22, 23, 24, 25, 26, 27, 28, 29, 30, 31, 32, 33, 34, 35, 36, 37, 38, 39, 40, 41, 42, 43, 44, 45, 46, 63, 64, 65, 66, 67, 68, 69, 70, 71, 72, 73] (by decide +kernel) (by decide +kernel)
set_option maxRecDepth 20000 in
theorem gX0_isDone_X0_isTaken : GoodIn wsX0_isDone (wsV RX0 50 RX0 yX0_isTaken wsX0_isTaken) := goodIn_app (goodIn_of _ (by decide +kernel)) ggX0_isDone_X0_isTaken
set_option maxRecDepth 20000 in
theorem ggX0_isDone_X0_isPushed : GoodIn wsX0_isDone wsX0_isPushed := goodIn_r _ [58, 59, 7, 60, 61, 44, 45, 46, 62, 32, 33, 11, 34, 13, 67, 68, 69, 70, 71, 72, 73, 63, 64, 65, 66] (by decide +kernel) (by decide +kernel)
set_option maxRecDepth 20000 in
theorem gX0_isDone_X0_isPushed : GoodIn wsX0_isDone (wsV RX0 53 RX0 yX0_isPushed wsX0_isPushed) := goodIn_app (goodIn_of _ (by decide +kernel)) ggX0_isDone_X0_isPushed
theorem dX0_isDone_0 : decode cX0_isDone 0 = .ok (.iload_n 3, 1) := by decide +kernel
theorem dX0_isDone_1 : decode cX0_isDone 1 = .ok (.lookupswitch 41 #[(0, 27), (1, 34)], 27) := by decide +kernel
theorem dX0_isDone_28 : decode cX0_isDone 28 = .ok (.aload_n 0, 1) := by decide +kernel
theorem dX0_isDone_29 : decode cX0_isDone 29 = .ok (.aload_n 1, 1) := by decide +kernel
theorem dX0_isDone_30 : decode cX0_isDone 30 = .ok (.iload_n 2, 1) := by decide +kernel
theorem dX0_isDone_31 : decode cX0_isDone 31 = .ok (.invokevirtual 46, 3) := by decide +kernel
theorem dX0_isDone_34 : decode cX0_isDone 34 = .ok (.ireturn, 1) := by decide +kernel
theorem dX0_isDone_35 : decode cX0_isDone 35 = .ok (.aload_n 0, 1) := by decide +kernel
theorem dX0_isDone_36 : decode cX0_isDone 36 = .ok (.aload_n 1, 1) := by decide +kernel
theorem dX0_isDone_37 : decode cX0_isDone 37 = .ok (.iload_n 2, 1) := by decide +kernel
theorem dX0_isDone_38 : decode cX0_isDone 38 = .ok (.invokevirtual 50, 3) := by decide +kernel
theorem dX0_isDone_41 : decode cX0_isDone 41 = .ok (.ireturn, 1) := by decide +kernel
theorem dX0_isDone_42 : decode cX0_isDone 42 = .ok (.aload_n 0, 1) := by decide +kernel
theorem dX0_isDone_43 : decode cX0_isDone 43 = .ok (.aload_n 1, 1) := by decide +kernel
theorem dX0_isDone_44 : decode cX0_isDone 44 = .ok (.iload_n 2, 1) := by decide +kernel
theorem dX0_isDone_45 : decode cX0_isDone 45 = .ok (.iload_n 3, 1) := by decide +kernel
theorem dX0_isDone_46 : decode cX0_isDone 46 = .ok (.bipush 10, 2) := by decide +kernel
theorem dX0_isDone_48 : decode cX0_isDone 48 = .ok (.isub, 1) := by decide +kernel
theorem dX0_isDone_49 : decode cX0_isDone 49 = .ok (.invokevirtual 53, 3) := by decide +kernel
theorem dX0_isDone_52 : decode cX0_isDone 52 = .ok (.ireturn, 1) := by decide +kernel
set_option maxRecDepth 20000 in
theorem ggX0_isSummed_X5_canSum : GoodIn wsX0_isSummed wsX5_canSum := goodIn_r _ [7, 8, 9, 10, 11, 12, 6, 13, 14, 15, 46, 47, 48, 49, 50, 51, 52] (by decide +kernel) (by decide +kernel)
set_option maxRecDepth 20000 in
theorem gX0_isSummed_X5_canSum : GoodIn wsX0_isSummed (wsV RX0 56 RX5 yX5_canSum wsX5_canSum) := goodIn_app (goodIn_of _ (by decide +kernel)) ggX0_isSummed_X5_canSum
set_option maxRecDepth 20000 in
theorem ggX0_isSummed_X5_numberNow : GoodIn wsX0_isSummed wsX5_numberNow := goodIn_r _ [13, 8, 14, 15, 46, 47, 48, 49, 50, 51, 52] (by decide +kernel) (by decide +kernel)
set_option maxRecDepth 20000 in
theorem gX0_isSummed_X5_numberNow : GoodIn wsX0_isSummed (wsV RX0 24 RX5 yX5_numberNow wsX5_numberNow) := goodIn_app (goodIn_of _ (by decide +kernel)) ggX0_isSummed_X5_numberNow
set_option maxRecDepth 20000 in
theorem ggX0_isSummed_X5_carriedBy : GoodIn wsX0_isSummed wsX5_carriedBy := goodIn_r _ [20, 8, 21, 22, 23, 24, 6, 25, 15, 26, 27, 28, 29, 46, 47, 48, 49, 50, 51, 52] (by decide +kernel) (by decide +kernel)
set_option maxRecDepth 20000 in
theorem gX0_isSummed_X5_carriedBy : GoodIn wsX0_isSummed (wsV RX0 60 RX5 yX5_carriedBy wsX5_carriedBy) := goodIn_app (goodIn_of _ (by decide +kernel)) ggX0_isSummed_X5_carriedBy
set_option maxRecDepth 20000 in
theorem ggX0_isSummed_X5_moveTo : GoodIn wsX0_isSummed wsX5_moveTo := goodIn_r _ [33, 8, 14, 10, 11, 12, 6, 13, 15, 34, 35, 36, 37, 38, 39, 40, 41, 22, 23, 24, 25, 21, 26, 27, 28, 29, 46, 47, 48, 49, 50, 51, 52] (by decide +kernel) (by decide +kernel)
set_option maxRecDepth 20000 in
theorem gX0_isSummed_X5_moveTo : GoodIn wsX0_isSummed (wsV RX0 63 RX5 yX5_moveTo wsX5_moveTo) := goodIn_app (goodIn_of _ (by decide +kernel)) ggX0_isSummed_X5_moveTo
theorem dX0_isSummed_0 : decode cX0_isSummed 0 = .ok (.aload_n 1, 1) := by decide +kernel
theorem dX0_isSummed_1 : decode cX0_isSummed 1 = .ok (.iload_n 2, 1) := by decide +kernel
theorem dX0_isSummed_2 : decode cX0_isSummed 2 = .ok (.invokevirtual 56, 3) := by decide +kernel
theorem dX0_isSummed_5 : decode cX0_isSummed 5 = .ok (.ifCond .ne 5, 3) := by decide +kernel
theorem dX0_isSummed_8 : decode cX0_isSummed 8 = .ok (.iconst 0, 1) := by decide +kernel
theorem dX0_isSummed_9 : decode cX0_isSummed 9 = .ok (.ireturn, 1) := by decide +kernel
theorem dX0_isSummed_10 : decode cX0_isSummed 10 = .ok (.aload_n 1, 1) := by decide +kernel
theorem dX0_isSummed_11 : decode cX0_isSummed 11 = .ok (.invokevirtual 24, 3) := by decide +kernel
theorem dX0_isSummed_14 : decode cX0_isSummed 14 = .ok (.istore_n 3, 1) := by decide +kernel
theorem dX0_isSummed_15 : decode cX0_isSummed 15 = .ok (.aload_n 0, 1) := by decide +kernel
theorem dX0_isSummed_16 : decode cX0_isSummed 16 = .ok (.dup, 1) := by decide +kernel
theorem dX0_isSummed_17 : decode cX0_isSummed 17 = .ok (.getfield 18, 3) := by decide +kernel
theorem dX0_isSummed_20 : decode cX0_isSummed 20 = .ok (.aload_n 1, 1) := by decide +kernel
theorem dX0_isSummed_21 : decode cX0_isSummed 21 = .ok (.iload_n 3, 1) := by decide +kernel
theorem dX0_isSummed_22 : decode cX0_isSummed 22 = .ok (.iload_n 2, 1) := by decide +kernel
theorem dX0_isSummed_23 : decode cX0_isSummed 23 = .ok (.invokevirtual 60, 3) := by decide +kernel
theorem dX0_isSummed_26 : decode cX0_isSummed 26 = .ok (.iadd, 1) := by decide +kernel
theorem dX0_isSummed_27 : decode cX0_isSummed 27 = .ok (.putfield 18, 3) := by decide +kernel
theorem dX0_isSummed_30 : decode cX0_isSummed 30 = .ok (.aload_n 0, 1) := by decide +kernel
theorem dX0_isSummed_31 : decode cX0_isSummed 31 = .ok (.dup, 1) := by decide +kernel
theorem dX0_isSummed_32 : decode cX0_isSummed 32 = .ok (.getfield 15, 3) := by decide +kernel
theorem dX0_isSummed_35 : decode cX0_isSummed 35 = .ok (.aload_n 1, 1) := by decide +kernel
theorem dX0_isSummed_36 : decode cX0_isSummed 36 = .ok (.iload_n 3, 1) := by decide +kernel
theorem dX0_isSummed_37 : decode cX0_isSummed 37 = .ok (.iload_n 2, 1) := by decide +kernel
theorem dX0_isSummed_38 : decode cX0_isSummed 38 = .ok (.iadd, 1) := by decide +kernel
theorem dX0_isSummed_39 : decode cX0_isSummed 39 = .ok (.invokevirtual 63, 3) := by decide +kernel
theorem dX0_isSummed_42 : decode cX0_isSummed 42 = .ok (.iadd, 1) := by decide +kernel
theorem dX0_isSummed_43 : decode cX0_isSummed 43 = .ok (.putfield 15, 3) := by decide +kernel
theorem dX0_isSummed_46 : decode cX0_isSummed 46 = .ok (.iconst 1, 1) := by decide +kernel
theorem dX0_isSummed_47 : decode cX0_isSummed 47 = .ok (.ireturn, 1) := by decide +kernel
set_option maxRecDepth 20000 in
theorem ggX0_isTaken_X5_canTake : GoodIn wsX0_isTaken wsX5_canTake := goodIn_r _ [7, 8, 9, 10, 11, 6, 12, 13, 14, 45, 46, 47, 48, 49, 50, 51] (by decide +kernel) (by decide +kernel)
set_option maxRecDepth 20000 in
theorem gX0_isTaken_X5_canTake : GoodIn wsX0_isTaken (wsV RX0 66 RX5 yX5_canTake wsX5_canTake) := goodIn_app (goodIn_of _ (by decide +kernel)) ggX0_isTaken_X5_canTake
set_option maxRecDepth 20000 in
theorem ggX0_isTaken_X5_numberNow : GoodIn wsX0_isTaken wsX5_numberNow := goodIn_r _ [12, 8, 13, 14, 45, 46, 47, 48, 49, 50, 51] (by decide +kernel) (by decide +kernel)
set_option maxRecDepth 20000 in
theorem gX0_isTaken_X5_numberNow : GoodIn wsX0_isTaken (wsV RX0 24 RX5 yX5_numberNow wsX5_numberNow) := goodIn_app (goodIn_of _ (by decide +kernel)) ggX0_isTaken_X5_numberNow
set_option maxRecDepth 20000 in
theorem ggX0_isTaken_X5_carriedBy : GoodIn wsX0_isTaken wsX5_carriedBy := goodIn_r _ [19, 8, 20, 21, 22, 23, 6, 24, 14, 25, 26, 27, 28, 45, 46, 47, 48, 49, 50, 51] (by decide +kernel) (by decide +kernel)
set_option maxRecDepth 20000 in
theorem gX0_isTaken_X5_carriedBy : GoodIn wsX0_isTaken (wsV RX0 60 RX5 yX5_carriedBy wsX5_carriedBy) := goodIn_app (goodIn_of _ (by decide +kernel)) ggX0_isTaken_X5_carriedBy
set_option maxRecDepth 20000 in
theorem ggX0_isTaken_X5_moveTo : GoodIn wsX0_isTaken wsX5_moveTo := goodIn_r _ [32, 8, 13, 9, 10, 11, 6, 12, 14, 33, 34, 35, 36, 37, 38, 39, 40, 21, 22, 23, 24, 20, 25, 26, 27, 28, 45, 46, 47, 48, 49, 50, 51] (by decide +kernel) (by decide +kernel)
set_option maxRecDepth 20000 in
theorem gX0_isTaken_X5_moveTo : GoodIn wsX0_isTaken (wsV RX0 63 RX5 yX5_moveTo wsX5_moveTo) := goodIn_app (goodIn_of _ (by decide +kernel)) ggX0_isTaken_X5_moveTo
theorem dX0_isTaken_0 : decode cX0_isTaken 0 = .ok (.aload_n 1, 1) := by decide +kernel
theorem dX0_isTaken_1 : decode cX0_isTaken 1 = .ok (.iload_n 2, 1) := by decide +kernel
theorem dX0_isTaken_2 : decode cX0_isTaken 2 = .ok (.invokevirtual 66, 3) := by decide +kernel
theorem dX0_isTaken_5 : decode cX0_isTaken 5 = .ok (.ifCond .ne 5, 3) := by decide +kernel
theorem dX0_isTaken_8 : decode cX0_isTaken 8 = .ok (.iconst 0, 1) := by decide +kernel
theorem dX0_isTaken_9 : decode cX0_isTaken 9 = .ok (.ireturn, 1) := by decide +kernel
theorem dX0_isTaken_10 : decode cX0_isTaken 10 = .ok (.aload_n 1, 1) := by decide +kernel
theorem dX0_isTaken_11 : decode cX0_isTaken 11 = .ok (.invokevirtual 24, 3) := by decide +kernel
theorem dX0_isTaken_14 : decode cX0_isTaken 14 = .ok (.iload_n 2, 1) := by decide +kernel
theorem dX0_isTaken_15 : decode cX0_isTaken 15 = .ok (.isub, 1) := by decide +kernel
theorem dX0_isTaken_16 : decode cX0_isTaken 16 = .ok (.istore_n 3, 1) := by decide +kernel
theorem dX0_isTaken_17 : decode cX0_isTaken 17 = .ok (.aload_n 0, 1) := by decide +kernel
theorem dX0_isTaken_18 : decode cX0_isTaken 18 = .ok (.dup, 1) := by decide +kernel
theorem dX0_isTaken_19 : decode cX0_isTaken 19 = .ok (.getfield 18, 3) := by decide +kernel
theorem dX0_isTaken_22 : decode cX0_isTaken 22 = .ok (.aload_n 1, 1) := by decide +kernel
theorem dX0_isTaken_23 : decode cX0_isTaken 23 = .ok (.iload_n 3, 1) := by decide +kernel
theorem dX0_isTaken_24 : decode cX0_isTaken 24 = .ok (.iload_n 2, 1) := by decide +kernel
theorem dX0_isTaken_25 : decode cX0_isTaken 25 = .ok (.invokevirtual 60, 3) := by decide +kernel
theorem dX0_isTaken_28 : decode cX0_isTaken 28 = .ok (.iadd, 1) := by decide +kernel
theorem dX0_isTaken_29 : decode cX0_isTaken 29 = .ok (.putfield 18, 3) := by decide +kernel
theorem dX0_isTaken_32 : decode cX0_isTaken 32 = .ok (.aload_n 0, 1) := by decide +kernel
theorem dX0_isTaken_33 : decode cX0_isTaken 33 = .ok (.dup, 1) := by decide +kernel
theorem dX0_isTaken_34 : decode cX0_isTaken 34 = .ok (.getfield 15, 3) := by decide +kernel
theorem dX0_isTaken_37 : decode cX0_isTaken 37 = .ok (.aload_n 1, 1) := by decide +kernel
theorem dX0_isTaken_38 : decode cX0_isTaken 38 = .ok (.iload_n 3, 1) := by decide +kernel
theorem dX0_isTaken_39 : decode cX0_isTaken 39 = .ok (.invokevirtual 63, 3) := by decide +kernel
theorem dX0_isTaken_42 : decode cX0_isTaken 42 = .ok (.iadd, 1) := by decide +kernel
theorem dX0_isTaken_43 : decode cX0_isTaken 43 = .ok (.putfield 15, 3) := by decide +kernel
theorem dX0_isTaken_46 : decode cX0_isTaken 46 = .ok (.iconst 1, 1) := by decide +kernel
theorem dX0_isTaken_47 : decode cX0_isTaken 47 = .ok (.ireturn, 1) := by decide +kernel
set_option maxRecDepth 20000 in
theorem ggX0_isPushed_X5_has : GoodIn wsX0_isPushed wsX5_has := goodIn_r _ [12, 13, 14, 15, 16, 17, 18, 19, 20] (by decide +kernel) (by decide +kernel)
set_option maxRecDepth 20000 in
theorem gX0_isPushed_X5_has : GoodIn wsX0_isPushed (wsV RX0 69 RX5 yX5_has wsX5_has) := goodIn_app (goodIn_of _ (by decide +kernel)) ggX0_isPushed_X5_has
theorem dX0_isPushed_0 : decode cX0_isPushed 0 = .ok (.aload_n 1, 1) := by decide +kernel
theorem dX0_isPushed_1 : decode cX0_isPushed 1 = .ok (.iload_n 2, 1) := by decide +kernel
theorem dX0_isPushed_2 : decode cX0_isPushed 2 = .ok (.invokevirtual 69, 3) := by decide +kernel
theorem dX0_isPushed_5 : decode cX0_isPushed 5 = .ok (.ifCond .eq 13, 3) := by decide +kernel
theorem dX0_isPushed_8 : decode cX0_isPushed 8 = .ok (.iload_n 3, 1) := by decide +kernel
theorem dX0_isPushed_9 : decode cX0_isPushed 9 = .ok (.aload_n 1, 1) := by decide +kernel
theorem dX0_isPushed_10 : decode cX0_isPushed 10 = .ok (.getfield 72, 3) := by decide +kernel
theorem dX0_isPushed_13 : decode cX0_isPushed 13 = .ok (.iload_n 2, 1) := by decide +kernel
theorem dX0_isPushed_14 : decode cX0_isPushed 14 = .ok (.iaload, 1) := by decide +kernel
theorem dX0_isPushed_15 : decode cX0_isPushed 15 = .ok (.if_icmp .le 5, 3) := by decide +kernel
theorem dX0_isPushed_18 : decode cX0_isPushed 18 = .ok (.iconst 0, 1) := by decide +kernel
theorem dX0_isPushed_19 : decode cX0_isPushed 19 = .ok (.ireturn, 1) := by decide +kernel
theorem dX0_isPushed_20 : decode cX0_isPushed 20 = .ok (.aload_n 0, 1) := by decide +kernel
theorem dX0_isPushed_21 : decode cX0_isPushed 21 = .ok (.dup, 1) := by decide +kernel
theorem dX0_isPushed_22 : decode cX0_isPushed 22 = .ok (.getfield 15, 3) := by decide +kernel
theorem dX0_isPushed_25 : decode cX0_isPushed 25 = .ok (.iload_n 3, 1) := by decide +kernel
theorem dX0_isPushed_26 : decode cX0_isPushed 26 = .ok (.aload_n 1, 1) := by decide +kernel
theorem dX0_isPushed_27 : decode cX0_isPushed 27 = .ok (.getfield 76, 3) := by decide +kernel
theorem dX0_isPushed_30 : decode cX0_isPushed 30 = .ok (.iload_n 2, 1) := by decide +kernel
theorem dX0_isPushed_31 : decode cX0_isPushed 31 = .ok (.iaload, 1) := by decide +kernel
theorem dX0_isPushed_32 : decode cX0_isPushed 32 = .ok (.isub, 1) := by decide +kernel
theorem dX0_isPushed_33 : decode cX0_isPushed 33 = .ok (.invokestatic 79, 3) := by decide +kernel
theorem dX0_isPushed_36 : decode cX0_isPushed 36 = .ok (.iadd, 1) := by decide +kernel
theorem dX0_isPushed_37 : decode cX0_isPushed 37 = .ok (.putfield 15, 3) := by decide +kernel
theorem dX0_isPushed_40 : decode cX0_isPushed 40 = .ok (.aload_n 1, 1) := by decide +kernel
theorem dX0_isPushed_41 : decode cX0_isPushed 41 = .ok (.getfield 76, 3) := by decide +kernel
theorem dX0_isPushed_44 : decode cX0_isPushed 44 = .ok (.iload_n 2, 1) := by decide +kernel
theorem dX0_isPushed_45 : decode cX0_isPushed 45 = .ok (.iload_n 3, 1) := by decide +kernel
theorem dX0_isPushed_46 : decode cX0_isPushed 46 = .ok (.iastore, 1) := by decide +kernel
theorem dX0_isPushed_47 : decode cX0_isPushed 47 = .ok (.iconst 1, 1) := by decide +kernel
theorem dX0_isPushed_48 : decode cX0_isPushed 48 = .ok (.ireturn, 1) := by decide +kernel
theorem dX1_init_0 : decode cX1_init 0 = .ok (.aload_n 0, 1) := by decide +kernel
theorem dX1_init_1 : decode cX1_init 1 = .ok (.invokespecial 3, 3) := by decide +kernel
theorem dX1_init_4 : decode cX1_init 4 = .ok (.aload_n 0, 1) := by decide +kernel
theorem dX1_init_5 : decode cX1_init 5 = .ok (.bipush 64, 2) := by decide +kernel
theorem dX1_init_7 : decode cX1_init 7 = .ok (.newarray .int, 2) := by decide +kernel
theorem dX1_init_9 : decode cX1_init 9 = .ok (.putfield 11, 3) := by decide +kernel
theorem dX1_init_12 : decode cX1_init 12 = .ok (.aload_n 0, 1) := by decide +kernel
theorem dX1_init_13 : decode cX1_init 13 = .ok (.bipush 64, 2) := by decide +kernel
theorem dX1_init_15 : decode cX1_init 15 = .ok (.newarray .int, 2) := by decide +kernel
theorem dX1_init_17 : decode cX1_init 17 = .ok (.putfield 15, 3) := by decide +kernel
theorem dX1_init_20 : decode cX1_init 20 = .ok (.aload_n 0, 1) := by decide +kernel
theorem dX1_init_21 : decode cX1_init 21 = .ok (.bipush 64, 2) := by decide +kernel
theorem dX1_init_23 : decode cX1_init 23 = .ok (.newarray .int, 2) := by decide +kernel
theorem dX1_init_25 : decode cX1_init 25 = .ok (.putfield 18, 3) := by decide +kernel
theorem dX1_init_28 : decode cX1_init 28 = .ok (.return_, 1) := by decide +kernel
set_option maxRecDepth 20000 in
theorem ggX1_find_X1_sumOfSet : GoodIn wsX1_find wsX1_sumOfSet := goodIn_r _ [7, 8, 9, 10, 11, 12, 13, 14, 53, 54, 55, 56] (by decide +kernel) (by decide +kernel)
set_option maxRecDepth 20000 in
theorem gX1_find_X1_sumOfSet : GoodIn wsX1_find (va_wsS RX1 21 yX1_sumOfSet wsX1_sumOfSet) := goodIn_app (goodIn_of _ (by decide +kernel)) ggX1_find_X1_sumOfSet
set_option maxRecDepth 20000 in
theorem ggX1_find_X5_canSum : GoodIn wsX1_find wsX5_canSum := goodIn_r _ [19, 20, 21, 22, 23, 24, 18, 25, 26, 27, 57, 58, 59, 60, 61, 62, 63] (by decide +kernel) (by decide +kernel)
set_option maxRecDepth 20000 in
theorem gX1_find_X5_canSum : GoodIn wsX1_find (wsV RX1 25 RX5 yX5_canSum wsX5_canSum) := goodIn_app (goodIn_of _ (by decide +kernel)) ggX1_find_X5_canSum
set_option maxRecDepth 20000 in
theorem ggX1_find_X1_chooseNext : GoodIn wsX1_find wsX1_chooseNext := goodIn_r _ [31, 1, 2, 3, 32, 23, 24, 18, 25, 20, 26, 27, 33, 34, 35, 36, 37, 38, 39, 40, 41, 42, 43, 44, 45, 46, 47, 48, 49, 50, 51, 52, 57, 58, 59, 60, 61, 62, 63] (by decide +kernel) (by decide +kernel)
set_option maxRecDepth 20000 in
theorem gX1_find_X1_chooseNext : GoodIn wsX1_find (wsV RX1 31 RX1 yX1_chooseNext wsX1_chooseNext) := goodIn_app (goodIn_of _ (by decide +kernel)) ggX1_find_X1_chooseNext
theorem dX1_find_0 : decode cX1_find 0 = .ok (.iload 4, 2) := by decide +kernel
theorem dX1_find_2 : decode cX1_find 2 = .ok (.ifCond .lt 10, 3) := by decide +kernel
theorem dX1_find_5 : decode cX1_find 5 = .ok (.iload 4, 2) := by decide +kernel
theorem dX1_find_7 : decode cX1_find 7 = .ok (.bipush 6, 2) := by decide +kernel
theorem dX1_find_9 : decode cX1_find 9 = .ok (.if_icmp .le 5, 3) := by decide +kernel
theorem dX1_find_12 : decode cX1_find 12 = .ok (.iconst 0, 1) := by decide +kernel
theorem dX1_find_13 : decode cX1_find 13 = .ok (.ireturn, 1) := by decide +kernel
theorem dX1_find_14 : decode cX1_find 14 = .ok (.iconst 1, 1) := by decide +kernel
theorem dX1_find_15 : decode cX1_find 15 = .ok (.iload 4, 2) := by decide +kernel
theorem dX1_find_17 : decode cX1_find 17 = .ok (.ishl, 1) := by decide +kernel
theorem dX1_find_18 : decode cX1_find 18 = .ok (.iconst 1, 1) := by decide +kernel
theorem dX1_find_19 : decode cX1_find 19 = .ok (.isub, 1) := by decide +kernel
theorem dX1_find_20 : decode cX1_find 20 = .ok (.istore 5, 2) := by decide +kernel
theorem dX1_find_22 : decode cX1_find 22 = .ok (.iconst 0, 1) := by decide +kernel
theorem dX1_find_23 : decode cX1_find 23 = .ok (.istore 6, 2) := by decide +kernel
theorem dX1_find_25 : decode cX1_find 25 = .ok (.iload 6, 2) := by decide +kernel
theorem dX1_find_27 : decode cX1_find 27 = .ok (.iload 5, 2) := by decide +kernel
theorem dX1_find_29 : decode cX1_find 29 = .ok (.if_icmp .gt 25, 3) := by decide +kernel
theorem dX1_find_32 : decode cX1_find 32 = .ok (.aload_n 0, 1) := by decide +kernel
theorem dX1_find_33 : decode cX1_find 33 = .ok (.getfield 11, 3) := by decide +kernel
theorem dX1_find_36 : decode cX1_find 36 = .ok (.iload 6, 2) := by decide +kernel
theorem dX1_find_38 : decode cX1_find 38 = .ok (.aload_n 2, 1) := by decide +kernel
theorem dX1_find_39 : decode cX1_find 39 = .ok (.iload_n 3, 1) := by decide +kernel
theorem dX1_find_40 : decode cX1_find 40 = .ok (.iload 4, 2) := by decide +kernel
theorem dX1_find_42 : decode cX1_find 42 = .ok (.iload 6, 2) := by decide +kernel
theorem dX1_find_44 : decode cX1_find 44 = .ok (.invokestatic 21, 3) := by decide +kernel
theorem dX1_find_47 : decode cX1_find 47 = .ok (.iastore, 1) := by decide +kernel
theorem dX1_find_48 : decode cX1_find 48 = .ok (.iinc 6 1, 3) := by decide +kernel
theorem dX1_find_51 : decode cX1_find 51 = .ok (.goto (-26), 3) := by decide +kernel
theorem dX1_find_54 : decode cX1_find 54 = .ok (.aload_n 1, 1) := by decide +kernel
theorem dX1_find_55 : decode cX1_find 55 = .ok (.aload_n 0, 1) := by decide +kernel
theorem dX1_find_56 : decode cX1_find 56 = .ok (.getfield 11, 3) := by decide +kernel
theorem dX1_find_59 : decode cX1_find 59 = .ok (.iload 5, 2) := by decide +kernel
theorem dX1_find_61 : decode cX1_find 61 = .ok (.iaload, 1) := by decide +kernel
theorem dX1_find_62 : decode cX1_find 62 = .ok (.invokevirtual 25, 3) := by decide +kernel
theorem dX1_find_65 : decode cX1_find 65 = .ok (.ifCond .ne 5, 3) := by decide +kernel
theorem dX1_find_68 : decode cX1_find 68 = .ok (.iconst 0, 1) := by decide +kernel
theorem dX1_find_69 : decode cX1_find 69 = .ok (.ireturn, 1) := by decide +kernel
theorem dX1_find_70 : decode cX1_find 70 = .ok (.aload_n 0, 1) := by decide +kernel
theorem dX1_find_71 : decode cX1_find 71 = .ok (.getfield 18, 3) := by decide +kernel
theorem dX1_find_74 : decode cX1_find 74 = .ok (.iload 5, 2) := by decide +kernel
theorem dX1_find_76 : decode cX1_find 76 = .ok (.iconst 0, 1) := by decide +kernel
theorem dX1_find_77 : decode cX1_find 77 = .ok (.iastore, 1) := by decide +kernel
theorem dX1_find_78 : decode cX1_find 78 = .ok (.aload_n 0, 1) := by decide +kernel
theorem dX1_find_79 : decode cX1_find 79 = .ok (.getfield 15, 3) := by decide +kernel
theorem dX1_find_82 : decode cX1_find 82 = .ok (.iload 5, 2) := by decide +kernel
theorem dX1_find_84 : decode cX1_find 84 = .ok (.bipush (-9), 2) := by decide +kernel
theorem dX1_find_86 : decode cX1_find 86 = .ok (.iastore, 1) := by decide +kernel
theorem dX1_find_87 : decode cX1_find 87 = .ok (.iload 5, 2) := by decide +kernel
theorem dX1_find_89 : decode cX1_find 89 = .ok (.iconst 1, 1) := by decide +kernel
theorem dX1_find_90 : decode cX1_find 90 = .ok (.isub, 1) := by decide +kernel
theorem dX1_find_91 : decode cX1_find 91 = .ok (.istore 6, 2) := by decide +kernel
theorem dX1_find_93 : decode cX1_find 93 = .ok (.iload 6, 2) := by decide +kernel
theorem dX1_find_95 : decode cX1_find 95 = .ok (.ifCond .lt 18, 3) := by decide +kernel
theorem dX1_find_98 : decode cX1_find 98 = .ok (.aload_n 0, 1) := by decide +kernel
theorem dX1_find_99 : decode cX1_find 99 = .ok (.aload_n 1, 1) := by decide +kernel
theorem dX1_find_100 : decode cX1_find 100 = .ok (.iload 6, 2) := by decide +kernel
theorem dX1_find_102 : decode cX1_find 102 = .ok (.iload 4, 2) := by decide +kernel
theorem dX1_find_104 : decode cX1_find 104 = .ok (.invokevirtual 31, 3) := by decide +kernel
theorem dX1_find_107 : decode cX1_find 107 = .ok (.iinc 6 (-1), 3) := by decide +kernel
theorem dX1_find_110 : decode cX1_find 110 = .ok (.goto (-17), 3) := by decide +kernel
theorem dX1_find_113 : decode cX1_find 113 = .ok (.iconst 1, 1) := by decide +kernel
theorem dX1_find_114 : decode cX1_find 114 = .ok (.ireturn, 1) := by decide +kernel
set_option maxRecDepth 20000 in
theorem ggX1_sumOfSet_X3_at : GoodIn wsX1_sumOfSet wsX3_at := goodIn_r _ [5, 6, 7, 8, 9, 10, 11] (by decide +kernel) (by decide +kernel)
set_option maxRecDepth 20000 in
theorem gX1_sumOfSet_X3_at : GoodIn wsX1_sumOfSet (wsV RX1 35 RX3 yX3_at wsX3_at) := goodIn_app (goodIn_of _ (by decide +kernel)) ggX1_sumOfSet_X3_at
theorem dX1_sumOfSet_0 : decode cX1_sumOfSet 0 = .ok (.iconst 0, 1) := by decide +kernel
theorem dX1_sumOfSet_1 : decode cX1_sumOfSet 1 = .ok (.istore 4, 2) := by decide +kernel
theorem dX1_sumOfSet_3 : decode cX1_sumOfSet 3 = .ok (.iconst 0, 1) := by decide +kernel
theorem dX1_sumOfSet_4 : decode cX1_sumOfSet 4 = .ok (.istore 5, 2) := by decide +kernel
theorem dX1_sumOfSet_6 : decode cX1_sumOfSet 6 = .ok (.iload 5, 2) := by decide +kernel
theorem dX1_sumOfSet_8 : decode cX1_sumOfSet 8 = .ok (.iload_n 2, 1) := by decide +kernel
theorem dX1_sumOfSet_9 : decode cX1_sumOfSet 9 = .ok (.if_icmp .ge 36, 3) := by decide +kernel
theorem dX1_sumOfSet_12 : decode cX1_sumOfSet 12 = .ok (.iload 4, 2) := by decide +kernel
theorem dX1_sumOfSet_14 : decode cX1_sumOfSet 14 = .ok (.iload_n 3, 1) := by decide +kernel
theorem dX1_sumOfSet_15 : decode cX1_sumOfSet 15 = .ok (.iload 5, 2) := by decide +kernel
theorem dX1_sumOfSet_17 : decode cX1_sumOfSet 17 = .ok (.ishr, 1) := by decide +kernel
theorem dX1_sumOfSet_18 : decode cX1_sumOfSet 18 = .ok (.iconst 1, 1) := by decide +kernel
theorem dX1_sumOfSet_19 : decode cX1_sumOfSet 19 = .ok (.iand, 1) := by decide +kernel
theorem dX1_sumOfSet_20 : decode cX1_sumOfSet 20 = .ok (.iconst 1, 1) := by decide +kernel
theorem dX1_sumOfSet_21 : decode cX1_sumOfSet 21 = .ok (.if_icmp .ne 14, 3) := by decide +kernel
theorem dX1_sumOfSet_24 : decode cX1_sumOfSet 24 = .ok (.aload_n 0, 1) := by decide +kernel
theorem dX1_sumOfSet_25 : decode cX1_sumOfSet 25 = .ok (.iload_n 1, 1) := by decide +kernel
theorem dX1_sumOfSet_26 : decode cX1_sumOfSet 26 = .ok (.iload 5, 2) := by decide +kernel
theorem dX1_sumOfSet_28 : decode cX1_sumOfSet 28 = .ok (.iadd, 1) := by decide +kernel
theorem dX1_sumOfSet_29 : decode cX1_sumOfSet 29 = .ok (.invokevirtual 35, 3) := by decide +kernel
theorem dX1_sumOfSet_32 : decode cX1_sumOfSet 32 = .ok (.goto 4, 3) := by decide +kernel
theorem dX1_sumOfSet_35 : decode cX1_sumOfSet 35 = .ok (.iconst 0, 1) := by decide +kernel
theorem dX1_sumOfSet_36 : decode cX1_sumOfSet 36 = .ok (.iadd, 1) := by decide +kernel
theorem dX1_sumOfSet_37 : decode cX1_sumOfSet 37 = .ok (.istore 4, 2) := by decide +kernel
theorem dX1_sumOfSet_39 : decode cX1_sumOfSet 39 = .ok (.iinc 5 1, 3) := by decide +kernel
theorem dX1_sumOfSet_42 : decode cX1_sumOfSet 42 = .ok (.goto (-36), 3) := by decide +kernel
theorem dX1_sumOfSet_45 : decode cX1_sumOfSet 45 = .ok (.iload 4, 2) := by decide +kernel
theorem dX1_sumOfSet_47 : decode cX1_sumOfSet 47 = .ok (.ireturn, 1) := by decide +kernel
set_option maxRecDepth 20000 in
theorem ggX1_chooseNext_X5_numberNow : GoodIn wsX1_chooseNext wsX5_numberNow := goodIn_r _ [8, 9, 10, 11, 32, 33, 34, 35, 36, 37, 38] (by decide +kernel) (by decide +kernel)
set_option maxRecDepth 20000 in
theorem gX1_chooseNext_X5_numberNow : GoodIn wsX1_chooseNext (wsV RX1 41 RX5 yX5_numberNow wsX5_numberNow) := goodIn_app (goodIn_of _ (by decide +kernel)) ggX1_chooseNext_X5_numberNow
set_option maxRecDepth 20000 in
theorem ggX1_chooseNext_X5_slidBetween : GoodIn wsX1_chooseNext wsX5_slidBetween := goodIn_r _ [15, 9, 16, 17, 18, 19, 20, 21, 22, 7, 23, 11, 24, 25, 26, 27, 28, 32, 33, 34, 35, 36, 37, 38] (by decide +kernel) (by decide +kernel)
set_option maxRecDepth 20000 in
theorem gX1_chooseNext_X5_slidBetween : GoodIn wsX1_chooseNext (wsV RX1 45 RX5 yX5_slidBetween wsX5_slidBetween) := goodIn_app (goodIn_of _ (by decide +kernel)) ggX1_chooseNext_X5_slidBetween
theorem dX1_chooseNext_0 : decode cX1_chooseNext 0 = .ok (.aload_n 1, 1) := by decide +kernel
theorem dX1_chooseNext_1 : decode cX1_chooseNext 1 = .ok (.invokevirtual 41, 3) := by decide +kernel
theorem dX1_chooseNext_4 : decode cX1_chooseNext 4 = .ok (.istore 4, 2) := by decide +kernel
theorem dX1_chooseNext_6 : decode cX1_chooseNext 6 = .ok (.bipush (-9), 2) := by decide +kernel
theorem dX1_chooseNext_8 : decode cX1_chooseNext 8 = .ok (.istore 5, 2) := by decide +kernel
theorem dX1_chooseNext_10 : decode cX1_chooseNext 10 = .ok (.iconst 0, 1) := by decide +kernel
theorem dX1_chooseNext_11 : decode cX1_chooseNext 11 = .ok (.istore 6, 2) := by decide +kernel
theorem dX1_chooseNext_13 : decode cX1_chooseNext 13 = .ok (.iconst 0, 1) := by decide +kernel
theorem dX1_chooseNext_14 : decode cX1_chooseNext 14 = .ok (.istore 7, 2) := by decide +kernel
theorem dX1_chooseNext_16 : decode cX1_chooseNext 16 = .ok (.iload 7, 2) := by decide +kernel
theorem dX1_chooseNext_18 : decode cX1_chooseNext 18 = .ok (.iload_n 3, 1) := by decide +kernel
theorem dX1_chooseNext_19 : decode cX1_chooseNext 19 = .ok (.if_icmp .ge 85, 3) := by decide +kernel
theorem dX1_chooseNext_22 : decode cX1_chooseNext 22 = .ok (.iload 7, 2) := by decide +kernel
theorem dX1_chooseNext_24 : decode cX1_chooseNext 24 = .ok (.bipush 6, 2) := by decide +kernel
theorem dX1_chooseNext_26 : decode cX1_chooseNext 26 = .ok (.if_icmp .ge 78, 3) := by decide +kernel
theorem dX1_chooseNext_29 : decode cX1_chooseNext 29 = .ok (.iload_n 2, 1) := by decide +kernel
theorem dX1_chooseNext_30 : decode cX1_chooseNext 30 = .ok (.iconst 1, 1) := by decide +kernel
theorem dX1_chooseNext_31 : decode cX1_chooseNext 31 = .ok (.iload 7, 2) := by decide +kernel
theorem dX1_chooseNext_33 : decode cX1_chooseNext 33 = .ok (.ishl, 1) := by decide +kernel
theorem dX1_chooseNext_34 : decode cX1_chooseNext 34 = .ok (.ior, 1) := by decide +kernel
theorem dX1_chooseNext_35 : decode cX1_chooseNext 35 = .ok (.istore 8, 2) := by decide +kernel
theorem dX1_chooseNext_37 : decode cX1_chooseNext 37 = .ok (.iload 8, 2) := by decide +kernel
theorem dX1_chooseNext_39 : decode cX1_chooseNext 39 = .ok (.iload_n 2, 1) := by decide +kernel
theorem dX1_chooseNext_40 : decode cX1_chooseNext 40 = .ok (.if_icmp .eq 58, 3) := by decide +kernel
theorem dX1_chooseNext_43 : decode cX1_chooseNext 43 = .ok (.aload_n 1, 1) := by decide +kernel
theorem dX1_chooseNext_44 : decode cX1_chooseNext 44 = .ok (.iload 4, 2) := by decide +kernel
theorem dX1_chooseNext_46 : decode cX1_chooseNext 46 = .ok (.aload_n 0, 1) := by decide +kernel
theorem dX1_chooseNext_47 : decode cX1_chooseNext 47 = .ok (.getfield 11, 3) := by decide +kernel
theorem dX1_chooseNext_50 : decode cX1_chooseNext 50 = .ok (.iload_n 2, 1) := by decide +kernel
theorem dX1_chooseNext_51 : decode cX1_chooseNext 51 = .ok (.iaload, 1) := by decide +kernel
theorem dX1_chooseNext_52 : decode cX1_chooseNext 52 = .ok (.iadd, 1) := by decide +kernel
theorem dX1_chooseNext_53 : decode cX1_chooseNext 53 = .ok (.iload 4, 2) := by decide +kernel
theorem dX1_chooseNext_55 : decode cX1_chooseNext 55 = .ok (.aload_n 0, 1) := by decide +kernel
theorem dX1_chooseNext_56 : decode cX1_chooseNext 56 = .ok (.getfield 11, 3) := by decide +kernel
theorem dX1_chooseNext_59 : decode cX1_chooseNext 59 = .ok (.iload 8, 2) := by decide +kernel
theorem dX1_chooseNext_61 : decode cX1_chooseNext 61 = .ok (.iaload, 1) := by decide +kernel
theorem dX1_chooseNext_62 : decode cX1_chooseNext 62 = .ok (.iadd, 1) := by decide +kernel
theorem dX1_chooseNext_63 : decode cX1_chooseNext 63 = .ok (.invokevirtual 45, 3) := by decide +kernel
theorem dX1_chooseNext_66 : decode cX1_chooseNext 66 = .ok (.aload_n 0, 1) := by decide +kernel
theorem dX1_chooseNext_67 : decode cX1_chooseNext 67 = .ok (.getfield 18, 3) := by decide +kernel
theorem dX1_chooseNext_70 : decode cX1_chooseNext 70 = .ok (.iload 8, 2) := by decide +kernel
theorem dX1_chooseNext_72 : decode cX1_chooseNext 72 = .ok (.iaload, 1) := by decide +kernel
theorem dX1_chooseNext_73 : decode cX1_chooseNext 73 = .ok (.iadd, 1) := by decide +kernel
theorem dX1_chooseNext_74 : decode cX1_chooseNext 74 = .ok (.istore 9, 2) := by decide +kernel
theorem dX1_chooseNext_76 : decode cX1_chooseNext 76 = .ok (.iload 5, 2) := by decide +kernel
theorem dX1_chooseNext_78 : decode cX1_chooseNext 78 = .ok (.bipush (-9), 2) := by decide +kernel
theorem dX1_chooseNext_80 : decode cX1_chooseNext 80 = .ok (.if_icmp .eq 10, 3) := by decide +kernel
theorem dX1_chooseNext_83 : decode cX1_chooseNext 83 = .ok (.iload 9, 2) := by decide +kernel
theorem dX1_chooseNext_85 : decode cX1_chooseNext 85 = .ok (.iload 6, 2) := by decide +kernel
theorem dX1_chooseNext_87 : decode cX1_chooseNext 87 = .ok (.if_icmp .ge 11, 3) := by decide +kernel
theorem dX1_chooseNext_90 : decode cX1_chooseNext 90 = .ok (.iload 7, 2) := by decide +kernel
theorem dX1_chooseNext_92 : decode cX1_chooseNext 92 = .ok (.istore 5, 2) := by decide +kernel
theorem dX1_chooseNext_94 : decode cX1_chooseNext 94 = .ok (.iload 9, 2) := by decide +kernel
theorem dX1_chooseNext_96 : decode cX1_chooseNext 96 = .ok (.istore 6, 2) := by decide +kernel
theorem dX1_chooseNext_98 : decode cX1_chooseNext 98 = .ok (.iinc 7 1, 3) := by decide +kernel
theorem dX1_chooseNext_101 : decode cX1_chooseNext 101 = .ok (.goto (-85), 3) := by decide +kernel
theorem dX1_chooseNext_104 : decode cX1_chooseNext 104 = .ok (.aload_n 0, 1) := by decide +kernel
theorem dX1_chooseNext_105 : decode cX1_chooseNext 105 = .ok (.getfield 15, 3) := by decide +kernel
theorem dX1_chooseNext_108 : decode cX1_chooseNext 108 = .ok (.iload_n 2, 1) := by decide +kernel
theorem dX1_chooseNext_109 : decode cX1_chooseNext 109 = .ok (.iload 5, 2) := by decide +kernel
theorem dX1_chooseNext_111 : decode cX1_chooseNext 111 = .ok (.iastore, 1) := by decide +kernel
theorem dX1_chooseNext_112 : decode cX1_chooseNext 112 = .ok (.aload_n 0, 1) := by decide +kernel
theorem dX1_chooseNext_113 : decode cX1_chooseNext 113 = .ok (.getfield 18, 3) := by decide +kernel
theorem dX1_chooseNext_116 : decode cX1_chooseNext 116 = .ok (.iload_n 2, 1) := by decide +kernel
theorem dX1_chooseNext_117 : decode cX1_chooseNext 117 = .ok (.iload 6, 2) := by decide +kernel
theorem dX1_chooseNext_119 : decode cX1_chooseNext 119 = .ok (.iastore, 1) := by decide +kernel
theorem dX1_chooseNext_120 : decode cX1_chooseNext 120 = .ok (.return_, 1) := by decide +kernel
theorem dX1_slidInAll_0 : decode cX1_slidInAll 0 = .ok (.aload_n 0, 1) := by decide +kernel
theorem dX1_slidInAll_1 : decode cX1_slidInAll 1 = .ok (.getfield 18, 3) := by decide +kernel
theorem dX1_slidInAll_4 : decode cX1_slidInAll 4 = .ok (.iconst 0, 1) := by decide +kernel
theorem dX1_slidInAll_5 : decode cX1_slidInAll 5 = .ok (.iaload, 1) := by decide +kernel
theorem dX1_slidInAll_6 : decode cX1_slidInAll 6 = .ok (.ireturn, 1) := by decide +kernel
theorem dX1_placeAt_0 : decode cX1_placeAt 0 = .ok (.iconst 0, 1) := by decide +kernel
theorem dX1_placeAt_1 : decode cX1_placeAt 1 = .ok (.istore_n 2, 1) := by decide +kernel
theorem dX1_placeAt_2 : decode cX1_placeAt 2 = .ok (.aload_n 0, 1) := by decide +kernel
theorem dX1_placeAt_3 : decode cX1_placeAt 3 = .ok (.getfield 15, 3) := by decide +kernel
theorem dX1_placeAt_6 : decode cX1_placeAt 6 = .ok (.iload_n 2, 1) := by decide +kernel
theorem dX1_placeAt_7 : decode cX1_placeAt 7 = .ok (.iaload, 1) := by decide +kernel
theorem dX1_placeAt_8 : decode cX1_placeAt 8 = .ok (.istore_n 3, 1) := by decide +kernel
theorem dX1_placeAt_9 : decode cX1_placeAt 9 = .ok (.iconst 0, 1) := by decide +kernel
theorem dX1_placeAt_10 : decode cX1_placeAt 10 = .ok (.istore 4, 2) := by decide +kernel
theorem dX1_placeAt_12 : decode cX1_placeAt 12 = .ok (.iload 4, 2) := by decide +kernel
theorem dX1_placeAt_14 : decode cX1_placeAt 14 = .ok (.iload_n 1, 1) := by decide +kernel
theorem dX1_placeAt_15 : decode cX1_placeAt 15 = .ok (.if_icmp .ge 32, 3) := by decide +kernel
theorem dX1_placeAt_18 : decode cX1_placeAt 18 = .ok (.iload_n 3, 1) := by decide +kernel
theorem dX1_placeAt_19 : decode cX1_placeAt 19 = .ok (.ifCond .lt 28, 3) := by decide +kernel
theorem dX1_placeAt_22 : decode cX1_placeAt 22 = .ok (.iload_n 3, 1) := by decide +kernel
theorem dX1_placeAt_23 : decode cX1_placeAt 23 = .ok (.bipush 6, 2) := by decide +kernel
theorem dX1_placeAt_25 : decode cX1_placeAt 25 = .ok (.if_icmp .ge 22, 3) := by decide +kernel
theorem dX1_placeAt_28 : decode cX1_placeAt 28 = .ok (.iload_n 2, 1) := by decide +kernel
theorem dX1_placeAt_29 : decode cX1_placeAt 29 = .ok (.iconst 1, 1) := by decide +kernel
theorem dX1_placeAt_30 : decode cX1_placeAt 30 = .ok (.iload_n 3, 1) := by decide +kernel
theorem dX1_placeAt_31 : decode cX1_placeAt 31 = .ok (.ishl, 1) := by decide +kernel
theorem dX1_placeAt_32 : decode cX1_placeAt 32 = .ok (.ior, 1) := by decide +kernel
theorem dX1_placeAt_33 : decode cX1_placeAt 33 = .ok (.istore_n 2, 1) := by decide +kernel
theorem dX1_placeAt_34 : decode cX1_placeAt 34 = .ok (.aload_n 0, 1) := by decide +kernel
theorem dX1_placeAt_35 : decode cX1_placeAt 35 = .ok (.getfield 15, 3) := by decide +kernel
theorem dX1_placeAt_38 : decode cX1_placeAt 38 = .ok (.iload_n 2, 1) := by decide +kernel
theorem dX1_placeAt_39 : decode cX1_placeAt 39 = .ok (.iaload, 1) := by decide +kernel
theorem dX1_placeAt_40 : decode cX1_placeAt 40 = .ok (.istore_n 3, 1) := by decide +kernel
theorem dX1_placeAt_41 : decode cX1_placeAt 41 = .ok (.iinc 4 1, 3) := by decide +kernel
theorem dX1_placeAt_44 : decode cX1_placeAt 44 = .ok (.goto (-32), 3) := by decide +kernel
theorem dX1_placeAt_47 : decode cX1_placeAt 47 = .ok (.iload_n 3, 1) := by decide +kernel
theorem dX1_placeAt_48 : decode cX1_placeAt 48 = .ok (.ireturn, 1) := by decide +kernel
theorem dX2_init_0 : decode cX2_init 0 = .ok (.aload_n 0, 1) := by decide +kernel
theorem dX2_init_1 : decode cX2_init 1 = .ok (.invokespecial 3, 3) := by decide +kernel
theorem dX2_init_4 : decode cX2_init 4 = .ok (.aload_n 0, 1) := by decide +kernel
theorem dX2_init_5 : decode cX2_init 5 = .ok (.bipush 8, 2) := by decide +kernel
theorem dX2_init_7 : decode cX2_init 7 = .ok (.newarray .int, 2) := by decide +kernel
theorem dX2_init_9 : decode cX2_init 9 = .ok (.putfield 9, 3) := by decide +kernel
theorem dX2_init_12 : decode cX2_init 12 = .ok (.aload_n 0, 1) := by decide +kernel
theorem dX2_init_13 : decode cX2_init 13 = .ok (.bipush 8, 2) := by decide +kernel
theorem dX2_init_15 : decode cX2_init 15 = .ok (.newarray .int, 2) := by decide +kernel
theorem dX2_init_17 : decode cX2_init 17 = .ok (.putfield 15, 3) := by decide +kernel
theorem dX2_init_20 : decode cX2_init 20 = .ok (.aload_n 0, 1) := by decide +kernel
theorem dX2_init_21 : decode cX2_init 21 = .ok (.bipush 8, 2) := by decide +kernel
theorem dX2_init_23 : decode cX2_init 23 = .ok (.newarray .int, 2) := by decide +kernel
theorem dX2_init_25 : decode cX2_init 25 = .ok (.putfield 18, 3) := by decide +kernel
theorem dX2_init_28 : decode cX2_init 28 = .ok (.aload_n 0, 1) := by decide +kernel
theorem dX2_init_29 : decode cX2_init 29 = .ok (.iconst 0, 1) := by decide +kernel
theorem dX2_init_30 : decode cX2_init 30 = .ok (.putfield 21, 3) := by decide +kernel
theorem dX2_init_33 : decode cX2_init 33 = .ok (.return_, 1) := by decide +kernel
theorem dX2_keep_0 : decode cX2_keep 0 = .ok (.aload_n 0, 1) := by decide +kernel
theorem dX2_keep_1 : decode cX2_keep 1 = .ok (.getfield 21, 3) := by decide +kernel
theorem dX2_keep_4 : decode cX2_keep 4 = .ok (.ifCond .lt 12, 3) := by decide +kernel
theorem dX2_keep_7 : decode cX2_keep 7 = .ok (.aload_n 0, 1) := by decide +kernel
theorem dX2_keep_8 : decode cX2_keep 8 = .ok (.getfield 21, 3) := by decide +kernel
theorem dX2_keep_11 : decode cX2_keep 11 = .ok (.bipush 8, 2) := by decide +kernel
theorem dX2_keep_13 : decode cX2_keep 13 = .ok (.if_icmp .lt 5, 3) := by decide +kernel
theorem dX2_keep_16 : decode cX2_keep 16 = .ok (.iconst 0, 1) := by decide +kernel
theorem dX2_keep_17 : decode cX2_keep 17 = .ok (.ireturn, 1) := by decide +kernel
theorem dX2_keep_18 : decode cX2_keep 18 = .ok (.aload_n 0, 1) := by decide +kernel
theorem dX2_keep_19 : decode cX2_keep 19 = .ok (.getfield 9, 3) := by decide +kernel
theorem dX2_keep_22 : decode cX2_keep 22 = .ok (.aload_n 0, 1) := by decide +kernel
theorem dX2_keep_23 : decode cX2_keep 23 = .ok (.getfield 21, 3) := by decide +kernel
theorem dX2_keep_26 : decode cX2_keep 26 = .ok (.iload_n 1, 1) := by decide +kernel
theorem dX2_keep_27 : decode cX2_keep 27 = .ok (.iastore, 1) := by decide +kernel
theorem dX2_keep_28 : decode cX2_keep 28 = .ok (.aload_n 0, 1) := by decide +kernel
theorem dX2_keep_29 : decode cX2_keep 29 = .ok (.getfield 15, 3) := by decide +kernel
theorem dX2_keep_32 : decode cX2_keep 32 = .ok (.aload_n 0, 1) := by decide +kernel
theorem dX2_keep_33 : decode cX2_keep 33 = .ok (.getfield 21, 3) := by decide +kernel
theorem dX2_keep_36 : decode cX2_keep 36 = .ok (.iload_n 2, 1) := by decide +kernel
theorem dX2_keep_37 : decode cX2_keep 37 = .ok (.iastore, 1) := by decide +kernel
theorem dX2_keep_38 : decode cX2_keep 38 = .ok (.aload_n 0, 1) := by decide +kernel
theorem dX2_keep_39 : decode cX2_keep 39 = .ok (.getfield 18, 3) := by decide +kernel
theorem dX2_keep_42 : decode cX2_keep 42 = .ok (.aload_n 0, 1) := by decide +kernel
theorem dX2_keep_43 : decode cX2_keep 43 = .ok (.getfield 21, 3) := by decide +kernel
theorem dX2_keep_46 : decode cX2_keep 46 = .ok (.iload_n 3, 1) := by decide +kernel
theorem dX2_keep_47 : decode cX2_keep 47 = .ok (.iastore, 1) := by decide +kernel
theorem dX2_keep_48 : decode cX2_keep 48 = .ok (.aload_n 0, 1) := by decide +kernel
theorem dX2_keep_49 : decode cX2_keep 49 = .ok (.dup, 1) := by decide +kernel
theorem dX2_keep_50 : decode cX2_keep 50 = .ok (.getfield 21, 3) := by decide +kernel
theorem dX2_keep_53 : decode cX2_keep 53 = .ok (.iconst 1, 1) := by decide +kernel
theorem dX2_keep_54 : decode cX2_keep 54 = .ok (.iadd, 1) := by decide +kernel
theorem dX2_keep_55 : decode cX2_keep 55 = .ok (.putfield 21, 3) := by decide +kernel
theorem dX2_keep_58 : decode cX2_keep 58 = .ok (.iconst 1, 1) := by decide +kernel
theorem dX2_keep_59 : decode cX2_keep 59 = .ok (.ireturn, 1) := by decide +kernel
set_option maxRecDepth 20000 in
theorem ggX2_areSo_X5_numberNow : GoodIn wsX2_areSo wsX5_numberNow := goodIn_r _ [9, 10, 11, 12, 32, 33, 34, 35, 36, 37, 38] (by decide +kernel) (by decide +kernel)
set_option maxRecDepth 20000 in
theorem gX2_areSo_X5_numberNow : GoodIn wsX2_areSo (wsV RX2 25 RX5 yX5_numberNow wsX5_numberNow) := goodIn_app (goodIn_of _ (by decide +kernel)) ggX2_areSo_X5_numberNow
set_option maxRecDepth 20000 in
theorem ggX2_areSo_X5_canSum : GoodIn wsX2_areSo wsX5_canSum := goodIn_r _ [16, 10, 17, 18, 6, 7, 8, 9, 11, 12, 32, 33, 34, 35, 36, 37, 38] (by decide +kernel) (by decide +kernel)
set_option maxRecDepth 20000 in
theorem gX2_areSo_X5_canSum : GoodIn wsX2_areSo (wsV RX2 31 RX5 yX5_canSum wsX5_canSum) := goodIn_app (goodIn_of _ (by decide +kernel)) ggX2_areSo_X5_canSum
set_option maxRecDepth 20000 in
theorem ggX2_areSo_X5_figureOf : GoodIn wsX2_areSo wsX5_figureOf := goodIn_r _ [22, 12, 23, 24, 25, 26, 8, 27, 10, 32, 33, 34, 35, 36, 37, 38] (by decide +kernel) (by decide +kernel)
set_option maxRecDepth 20000 in
theorem gX2_areSo_X5_figureOf : GoodIn wsX2_areSo (wsV RX2 35 RX5 yX5_figureOf wsX5_figureOf) := goodIn_app (goodIn_of _ (by decide +kernel)) ggX2_areSo_X5_figureOf
theorem dX2_areSo_0 : decode cX2_areSo 0 = .ok (.aload_n 1, 1) := by decide +kernel
theorem dX2_areSo_1 : decode cX2_areSo 1 = .ok (.invokevirtual 25, 3) := by decide +kernel
theorem dX2_areSo_4 : decode cX2_areSo 4 = .ok (.istore_n 2, 1) := by decide +kernel
theorem dX2_areSo_5 : decode cX2_areSo 5 = .ok (.iconst 0, 1) := by decide +kernel
theorem dX2_areSo_6 : decode cX2_areSo 6 = .ok (.istore_n 3, 1) := by decide +kernel
theorem dX2_areSo_7 : decode cX2_areSo 7 = .ok (.iload_n 3, 1) := by decide +kernel
theorem dX2_areSo_8 : decode cX2_areSo 8 = .ok (.aload_n 0, 1) := by decide +kernel
theorem dX2_areSo_9 : decode cX2_areSo 9 = .ok (.getfield 21, 3) := by decide +kernel
theorem dX2_areSo_12 : decode cX2_areSo 12 = .ok (.if_icmp .ge 57, 3) := by decide +kernel
theorem dX2_areSo_15 : decode cX2_areSo 15 = .ok (.iload_n 3, 1) := by decide +kernel
theorem dX2_areSo_16 : decode cX2_areSo 16 = .ok (.bipush 8, 2) := by decide +kernel
theorem dX2_areSo_18 : decode cX2_areSo 18 = .ok (.if_icmp .ge 51, 3) := by decide +kernel
theorem dX2_areSo_21 : decode cX2_areSo 21 = .ok (.aload_n 1, 1) := by decide +kernel
theorem dX2_areSo_22 : decode cX2_areSo 22 = .ok (.aload_n 0, 1) := by decide +kernel
theorem dX2_areSo_23 : decode cX2_areSo 23 = .ok (.getfield 9, 3) := by decide +kernel
theorem dX2_areSo_26 : decode cX2_areSo 26 = .ok (.iload_n 3, 1) := by decide +kernel
theorem dX2_areSo_27 : decode cX2_areSo 27 = .ok (.iaload, 1) := by decide +kernel
theorem dX2_areSo_28 : decode cX2_areSo 28 = .ok (.invokevirtual 31, 3) := by decide +kernel
theorem dX2_areSo_31 : decode cX2_areSo 31 = .ok (.ifCond .eq 30, 3) := by decide +kernel
theorem dX2_areSo_34 : decode cX2_areSo 34 = .ok (.aload_n 1, 1) := by decide +kernel
theorem dX2_areSo_35 : decode cX2_areSo 35 = .ok (.aload_n 0, 1) := by decide +kernel
theorem dX2_areSo_36 : decode cX2_areSo 36 = .ok (.getfield 15, 3) := by decide +kernel
theorem dX2_areSo_39 : decode cX2_areSo 39 = .ok (.iload_n 3, 1) := by decide +kernel
theorem dX2_areSo_40 : decode cX2_areSo 40 = .ok (.iaload, 1) := by decide +kernel
theorem dX2_areSo_41 : decode cX2_areSo 41 = .ok (.iload_n 2, 1) := by decide +kernel
theorem dX2_areSo_42 : decode cX2_areSo 42 = .ok (.aload_n 0, 1) := by decide +kernel
theorem dX2_areSo_43 : decode cX2_areSo 43 = .ok (.getfield 9, 3) := by decide +kernel
theorem dX2_areSo_46 : decode cX2_areSo 46 = .ok (.iload_n 3, 1) := by decide +kernel
theorem dX2_areSo_47 : decode cX2_areSo 47 = .ok (.iaload, 1) := by decide +kernel
theorem dX2_areSo_48 : decode cX2_areSo 48 = .ok (.iadd, 1) := by decide +kernel
theorem dX2_areSo_49 : decode cX2_areSo 49 = .ok (.invokevirtual 35, 3) := by decide +kernel
theorem dX2_areSo_52 : decode cX2_areSo 52 = .ok (.aload_n 0, 1) := by decide +kernel
theorem dX2_areSo_53 : decode cX2_areSo 53 = .ok (.getfield 18, 3) := by decide +kernel
theorem dX2_areSo_56 : decode cX2_areSo 56 = .ok (.iload_n 3, 1) := by decide +kernel
theorem dX2_areSo_57 : decode cX2_areSo 57 = .ok (.iaload, 1) := by decide +kernel
theorem dX2_areSo_58 : decode cX2_areSo 58 = .ok (.if_icmp .eq 5, 3) := by decide +kernel
theorem dX2_areSo_61 : decode cX2_areSo 61 = .ok (.iconst 0, 1) := by decide +kernel
theorem dX2_areSo_62 : decode cX2_areSo 62 = .ok (.ireturn, 1) := by decide +kernel
theorem dX2_areSo_63 : decode cX2_areSo 63 = .ok (.iinc 3 1, 3) := by decide +kernel
theorem dX2_areSo_66 : decode cX2_areSo 66 = .ok (.goto (-59), 3) := by decide +kernel
theorem dX2_areSo_69 : decode cX2_areSo 69 = .ok (.iconst 1, 1) := by decide +kernel
theorem dX2_areSo_70 : decode cX2_areSo 70 = .ok (.ireturn, 1) := by decide +kernel
theorem dX3_init_0 : decode cX3_init 0 = .ok (.aload_n 0, 1) := by decide +kernel
theorem dX3_init_1 : decode cX3_init 1 = .ok (.invokespecial 3, 3) := by decide +kernel
theorem dX3_init_4 : decode cX3_init 4 = .ok (.aload_n 0, 1) := by decide +kernel
theorem dX3_init_5 : decode cX3_init 5 = .ok (.bipush 60, 2) := by decide +kernel
theorem dX3_init_7 : decode cX3_init 7 = .ok (.newarray .int, 2) := by decide +kernel
theorem dX3_init_9 : decode cX3_init 9 = .ok (.putfield 9, 3) := by decide +kernel
theorem dX3_init_12 : decode cX3_init 12 = .ok (.aload_n 0, 1) := by decide +kernel
theorem dX3_init_13 : decode cX3_init 13 = .ok (.iconst 0, 1) := by decide +kernel
theorem dX3_init_14 : decode cX3_init 14 = .ok (.putfield 15, 3) := by decide +kernel
theorem dX3_init_17 : decode cX3_init 17 = .ok (.aload_n 0, 1) := by decide +kernel
theorem dX3_init_18 : decode cX3_init 18 = .ok (.iconst 0, 1) := by decide +kernel
theorem dX3_init_19 : decode cX3_init 19 = .ok (.putfield 19, 3) := by decide +kernel
theorem dX3_init_22 : decode cX3_init 22 = .ok (.aload_n 0, 1) := by decide +kernel
theorem dX3_init_23 : decode cX3_init 23 = .ok (.iconst 0, 1) := by decide +kernel
theorem dX3_init_24 : decode cX3_init 24 = .ok (.putfield 23, 3) := by decide +kernel
theorem dX3_init_27 : decode cX3_init 27 = .ok (.return_, 1) := by decide +kernel
theorem dX3_begin_0 : decode cX3_begin 0 = .ok (.iconst 0, 1) := by decide +kernel
theorem dX3_begin_1 : decode cX3_begin 1 = .ok (.istore_n 3, 1) := by decide +kernel
theorem dX3_begin_2 : decode cX3_begin 2 = .ok (.iload_n 3, 1) := by decide +kernel
theorem dX3_begin_3 : decode cX3_begin 3 = .ok (.bipush 60, 2) := by decide +kernel
theorem dX3_begin_5 : decode cX3_begin 5 = .ok (.if_icmp .ge 16, 3) := by decide +kernel
theorem dX3_begin_8 : decode cX3_begin 8 = .ok (.aload_n 0, 1) := by decide +kernel
theorem dX3_begin_9 : decode cX3_begin 9 = .ok (.getfield 9, 3) := by decide +kernel
theorem dX3_begin_12 : decode cX3_begin 12 = .ok (.iload_n 3, 1) := by decide +kernel
theorem dX3_begin_13 : decode cX3_begin 13 = .ok (.iconst 0, 1) := by decide +kernel
theorem dX3_begin_14 : decode cX3_begin 14 = .ok (.iastore, 1) := by decide +kernel
theorem dX3_begin_15 : decode cX3_begin 15 = .ok (.iinc 3 1, 3) := by decide +kernel
theorem dX3_begin_18 : decode cX3_begin 18 = .ok (.goto (-16), 3) := by decide +kernel
theorem dX3_begin_21 : decode cX3_begin 21 = .ok (.aload_n 0, 1) := by decide +kernel
theorem dX3_begin_22 : decode cX3_begin 22 = .ok (.iconst 1, 1) := by decide +kernel
theorem dX3_begin_23 : decode cX3_begin 23 = .ok (.putfield 15, 3) := by decide +kernel
theorem dX3_begin_26 : decode cX3_begin 26 = .ok (.aload_n 0, 1) := by decide +kernel
theorem dX3_begin_27 : decode cX3_begin 27 = .ok (.iload_n 1, 1) := by decide +kernel
theorem dX3_begin_28 : decode cX3_begin 28 = .ok (.putfield 19, 3) := by decide +kernel
theorem dX3_begin_31 : decode cX3_begin 31 = .ok (.aload_n 0, 1) := by decide +kernel
theorem dX3_begin_32 : decode cX3_begin 32 = .ok (.iload_n 2, 1) := by decide +kernel
theorem dX3_begin_33 : decode cX3_begin 33 = .ok (.putfield 23, 3) := by decide +kernel
theorem dX3_begin_36 : decode cX3_begin 36 = .ok (.return_, 1) := by decide +kernel
theorem dX3_reaches_0 : decode cX3_reaches 0 = .ok (.iload_n 1, 1) := by decide +kernel
theorem dX3_reaches_1 : decode cX3_reaches 1 = .ok (.ifCond .lt 29, 3) := by decide +kernel
theorem dX3_reaches_4 : decode cX3_reaches 4 = .ok (.iload_n 1, 1) := by decide +kernel
theorem dX3_reaches_5 : decode cX3_reaches 5 = .ok (.aload_n 0, 1) := by decide +kernel
theorem dX3_reaches_6 : decode cX3_reaches 6 = .ok (.getfield 23, 3) := by decide +kernel
theorem dX3_reaches_9 : decode cX3_reaches 9 = .ok (.if_icmp .gt 21, 3) := by decide +kernel
theorem dX3_reaches_12 : decode cX3_reaches 12 = .ok (.iload_n 2, 1) := by decide +kernel
theorem dX3_reaches_13 : decode cX3_reaches 13 = .ok (.ifCond .lt 17, 3) := by decide +kernel
theorem dX3_reaches_16 : decode cX3_reaches 16 = .ok (.iload_n 2, 1) := by decide +kernel
theorem dX3_reaches_17 : decode cX3_reaches 17 = .ok (.aload_n 0, 1) := by decide +kernel
theorem dX3_reaches_18 : decode cX3_reaches 18 = .ok (.getfield 23, 3) := by decide +kernel
theorem dX3_reaches_21 : decode cX3_reaches 21 = .ok (.iload_n 1, 1) := by decide +kernel
theorem dX3_reaches_22 : decode cX3_reaches 22 = .ok (.isub, 1) := by decide +kernel
theorem dX3_reaches_23 : decode cX3_reaches 23 = .ok (.if_icmp .gt 7, 3) := by decide +kernel
theorem dX3_reaches_26 : decode cX3_reaches 26 = .ok (.iconst 1, 1) := by decide +kernel
theorem dX3_reaches_27 : decode cX3_reaches 27 = .ok (.goto 4, 3) := by decide +kernel
theorem dX3_reaches_30 : decode cX3_reaches 30 = .ok (.iconst 0, 1) := by decide +kernel
theorem dX3_reaches_31 : decode cX3_reaches 31 = .ok (.ireturn, 1) := by decide +kernel
theorem dX3_at_0 : decode cX3_at 0 = .ok (.iload_n 1, 1) := by decide +kernel
theorem dX3_at_1 : decode cX3_at 1 = .ok (.ifCond .lt 26, 3) := by decide +kernel
theorem dX3_at_4 : decode cX3_at 4 = .ok (.iload_n 1, 1) := by decide +kernel
theorem dX3_at_5 : decode cX3_at 5 = .ok (.aload_n 0, 1) := by decide +kernel
theorem dX3_at_6 : decode cX3_at 6 = .ok (.getfield 23, 3) := by decide +kernel
theorem dX3_at_9 : decode cX3_at 9 = .ok (.if_icmp .ge 18, 3) := by decide +kernel
theorem dX3_at_12 : decode cX3_at 12 = .ok (.iload_n 1, 1) := by decide +kernel
theorem dX3_at_13 : decode cX3_at 13 = .ok (.bipush 60, 2) := by decide +kernel
theorem dX3_at_15 : decode cX3_at 15 = .ok (.if_icmp .ge 12, 3) := by decide +kernel
theorem dX3_at_18 : decode cX3_at 18 = .ok (.aload_n 0, 1) := by decide +kernel
theorem dX3_at_19 : decode cX3_at 19 = .ok (.getfield 9, 3) := by decide +kernel
theorem dX3_at_22 : decode cX3_at 22 = .ok (.iload_n 1, 1) := by decide +kernel
theorem dX3_at_23 : decode cX3_at 23 = .ok (.iaload, 1) := by decide +kernel
theorem dX3_at_24 : decode cX3_at 24 = .ok (.goto 4, 3) := by decide +kernel
theorem dX3_at_27 : decode cX3_at 27 = .ok (.iconst 0, 1) := by decide +kernel
theorem dX3_at_28 : decode cX3_at 28 = .ok (.ireturn, 1) := by decide +kernel
set_option maxRecDepth 20000 in
theorem ggX3_write_X3_cutToLane : GoodIn wsX3_write wsX3_cutToLane := goodIn_r _ [7, 8, 9, 10, 11, 12] (by decide +kernel) (by decide +kernel)
set_option maxRecDepth 20000 in
theorem gX3_write_X3_cutToLane : GoodIn wsX3_write (wsV RX3 26 RX3 yX3_cutToLane wsX3_cutToLane) := goodIn_app (goodIn_of _ (by decide +kernel)) ggX3_write_X3_cutToLane
theorem dX3_write_0 : decode cX3_write 0 = .ok (.iload_n 1, 1) := by decide +kernel
theorem dX3_write_1 : decode cX3_write 1 = .ok (.ifCond .lt 28, 3) := by decide +kernel
theorem dX3_write_4 : decode cX3_write 4 = .ok (.iload_n 1, 1) := by decide +kernel
theorem dX3_write_5 : decode cX3_write 5 = .ok (.aload_n 0, 1) := by decide +kernel
theorem dX3_write_6 : decode cX3_write 6 = .ok (.getfield 23, 3) := by decide +kernel
theorem dX3_write_9 : decode cX3_write 9 = .ok (.if_icmp .ge 20, 3) := by decide +kernel
theorem dX3_write_12 : decode cX3_write 12 = .ok (.iload_n 1, 1) := by decide +kernel
theorem dX3_write_13 : decode cX3_write 13 = .ok (.bipush 60, 2) := by decide +kernel
theorem dX3_write_15 : decode cX3_write 15 = .ok (.if_icmp .ge 14, 3) := by decide +kernel
theorem dX3_write_18 : decode cX3_write 18 = .ok (.aload_n 0, 1) := by decide +kernel
theorem dX3_write_19 : decode cX3_write 19 = .ok (.getfield 9, 3) := by decide +kernel
theorem dX3_write_22 : decode cX3_write 22 = .ok (.iload_n 1, 1) := by decide +kernel
theorem dX3_write_23 : decode cX3_write 23 = .ok (.aload_n 0, 1) := by decide +kernel
theorem dX3_write_24 : decode cX3_write 24 = .ok (.iload_n 2, 1) := by decide +kernel
theorem dX3_write_25 : decode cX3_write 25 = .ok (.invokevirtual 26, 3) := by decide +kernel
theorem dX3_write_28 : decode cX3_write 28 = .ok (.iastore, 1) := by decide +kernel
theorem dX3_write_29 : decode cX3_write 29 = .ok (.return_, 1) := by decide +kernel
theorem dX3_cutToLane_0 : decode cX3_cutToLane 0 = .ok (.aload_n 0, 1) := by decide +kernel
theorem dX3_cutToLane_1 : decode cX3_cutToLane 1 = .ok (.getfield 19, 3) := by decide +kernel
theorem dX3_cutToLane_4 : decode cX3_cutToLane 4 = .ok (.ifCond .ne 6, 3) := by decide +kernel
theorem dX3_cutToLane_7 : decode cX3_cutToLane 7 = .ok (.iload_n 1, 1) := by decide +kernel
theorem dX3_cutToLane_8 : decode cX3_cutToLane 8 = .ok (.i2b, 1) := by decide +kernel
theorem dX3_cutToLane_9 : decode cX3_cutToLane 9 = .ok (.ireturn, 1) := by decide +kernel
theorem dX3_cutToLane_10 : decode cX3_cutToLane 10 = .ok (.aload_n 0, 1) := by decide +kernel
theorem dX3_cutToLane_11 : decode cX3_cutToLane 11 = .ok (.getfield 19, 3) := by decide +kernel
theorem dX3_cutToLane_14 : decode cX3_cutToLane 14 = .ok (.iconst 1, 1) := by decide +kernel
theorem dX3_cutToLane_15 : decode cX3_cutToLane 15 = .ok (.if_icmp .ne 8, 3) := by decide +kernel
theorem dX3_cutToLane_18 : decode cX3_cutToLane 18 = .ok (.iload_n 1, 1) := by decide +kernel
theorem dX3_cutToLane_19 : decode cX3_cutToLane 19 = .ok (.i2s, 1) := by decide +kernel
theorem dX3_cutToLane_20 : decode cX3_cutToLane 20 = .ok (.goto 4, 3) := by decide +kernel
theorem dX3_cutToLane_23 : decode cX3_cutToLane 23 = .ok (.iload_n 1, 1) := by decide +kernel
theorem dX3_cutToLane_24 : decode cX3_cutToLane 24 = .ok (.ireturn, 1) := by decide +kernel
set_option maxRecDepth 20000 in
theorem ggX3_allWithin_X3_at : GoodIn wsX3_allWithin wsX3_at := goodIn_r _ [5, 6, 7, 8, 9, 10, 11] (by decide +kernel) (by decide +kernel)
set_option maxRecDepth 20000 in
theorem gX3_allWithin_X3_at : GoodIn wsX3_allWithin (wsV RX3 30 RX3 yX3_at wsX3_at) := goodIn_app (goodIn_of _ (by decide +kernel)) ggX3_allWithin_X3_at
theorem dX3_allWithin_0 : decode cX3_allWithin 0 = .ok (.iconst 0, 1) := by decide +kernel
theorem dX3_allWithin_1 : decode cX3_allWithin 1 = .ok (.istore 4, 2) := by decide +kernel
theorem dX3_allWithin_3 : decode cX3_allWithin 3 = .ok (.iload 4, 2) := by decide +kernel
theorem dX3_allWithin_5 : decode cX3_allWithin 5 = .ok (.iload_n 2, 1) := by decide +kernel
theorem dX3_allWithin_6 : decode cX3_allWithin 6 = .ok (.if_icmp .ge 34, 3) := by decide +kernel
theorem dX3_allWithin_9 : decode cX3_allWithin 9 = .ok (.aload_n 0, 1) := by decide +kernel
theorem dX3_allWithin_10 : decode cX3_allWithin 10 = .ok (.iload_n 1, 1) := by decide +kernel
theorem dX3_allWithin_11 : decode cX3_allWithin 11 = .ok (.iload 4, 2) := by decide +kernel
theorem dX3_allWithin_13 : decode cX3_allWithin 13 = .ok (.iadd, 1) := by decide +kernel
theorem dX3_allWithin_14 : decode cX3_allWithin 14 = .ok (.invokevirtual 30, 3) := by decide +kernel
theorem dX3_allWithin_17 : decode cX3_allWithin 17 = .ok (.ifCond .lt 15, 3) := by decide +kernel
theorem dX3_allWithin_20 : decode cX3_allWithin 20 = .ok (.aload_n 0, 1) := by decide +kernel
theorem dX3_allWithin_21 : decode cX3_allWithin 21 = .ok (.iload_n 1, 1) := by decide +kernel
theorem dX3_allWithin_22 : decode cX3_allWithin 22 = .ok (.iload 4, 2) := by decide +kernel
theorem dX3_allWithin_24 : decode cX3_allWithin 24 = .ok (.iadd, 1) := by decide +kernel
theorem dX3_allWithin_25 : decode cX3_allWithin 25 = .ok (.invokevirtual 30, 3) := by decide +kernel
theorem dX3_allWithin_28 : decode cX3_allWithin 28 = .ok (.iload_n 3, 1) := by decide +kernel
theorem dX3_allWithin_29 : decode cX3_allWithin 29 = .ok (.if_icmp .le 5, 3) := by decide +kernel
theorem dX3_allWithin_32 : decode cX3_allWithin 32 = .ok (.iconst 0, 1) := by decide +kernel
theorem dX3_allWithin_33 : decode cX3_allWithin 33 = .ok (.ireturn, 1) := by decide +kernel
theorem dX3_allWithin_34 : decode cX3_allWithin 34 = .ok (.iinc 4 1, 3) := by decide +kernel
theorem dX3_allWithin_37 : decode cX3_allWithin 37 = .ok (.goto (-34), 3) := by decide +kernel
theorem dX3_allWithin_40 : decode cX3_allWithin 40 = .ok (.iconst 1, 1) := by decide +kernel
theorem dX3_allWithin_41 : decode cX3_allWithin 41 = .ok (.ireturn, 1) := by decide +kernel
set_option maxRecDepth 20000 in
theorem ggX4_init_X5_init : GoodIn wsX4_init wsX5_init := goodIn_r _ [9, 10, 2, 3, 11, 12, 13, 14, 15, 16, 17, 18, 19, 20, 21, 22, 23, 24, 25] (by decide +kernel) (by decide +kernel)
set_option maxRecDepth 20000 in
theorem gX4_init_X5_init_n11 : GoodIn wsX4_init (wsX5_init) := ggX4_init_X5_init
theorem dX4_init_0 : decode cX4_init 0 = .ok (.aload_n 0, 1) := by decide +kernel
theorem dX4_init_1 : decode cX4_init 1 = .ok (.invokespecial 3, 3) := by decide +kernel
theorem dX4_init_4 : decode cX4_init 4 = .ok (.aload_n 0, 1) := by decide +kernel
theorem dX4_init_5 : decode cX4_init 5 = .ok (.new 9, 3) := by decide +kernel
theorem dX4_init_8 : decode cX4_init 8 = .ok (.dup, 1) := by decide +kernel
theorem dX4_init_9 : decode cX4_init 9 = .ok (.invokespecial 11, 3) := by decide +kernel
theorem dX4_init_12 : decode cX4_init 12 = .ok (.putfield 12, 3) := by decide +kernel
theorem dX4_init_15 : decode cX4_init 15 = .ok (.return_, 1) := by decide +kernel
set_option maxRecDepth 20000 in
theorem ggX4_firstFault_X3_at : GoodIn wsX4_firstFault wsX3_at := goodIn_r _ [7, 8, 9, 32, 33, 34, 35] (by decide +kernel) (by decide +kernel)
set_option maxRecDepth 20000 in
theorem gX4_firstFault_X3_at : GoodIn wsX4_firstFault (wsV RX4 22 RX3 yX3_at wsX3_at) := goodIn_app (goodIn_of _ (by decide +kernel)) ggX4_firstFault_X3_at
set_option maxRecDepth 20000 in
theorem ggX4_firstFault_X4_goesOn : GoodIn wsX4_firstFault wsX4_goesOn := goodIn_r _ [14, 1, 2, 15, 16, 17, 18, 19, 13, 20, 21, 22, 23, 24, 25, 26, 27, 28, 29, 30, 31] (by decide +kernel) (by decide +kernel)
set_option maxRecDepth 20000 in
theorem gX4_firstFault_X4_goesOn : GoodIn wsX4_firstFault (wsV RX4 28 RX4 yX4_goesOn wsX4_goesOn) := goodIn_app (goodIn_of _ (by decide +kernel)) ggX4_firstFault_X4_goesOn
theorem dX4_firstFault_0 : decode cX4_firstFault 0 = .ok (.aload_n 0, 1) := by decide +kernel
theorem dX4_firstFault_1 : decode cX4_firstFault 1 = .ok (.getfield 12, 3) := by decide +kernel
theorem dX4_firstFault_4 : decode cX4_firstFault 4 = .ok (.iconst 0, 1) := by decide +kernel
theorem dX4_firstFault_5 : decode cX4_firstFault 5 = .ok (.putfield 18, 3) := by decide +kernel
theorem dX4_firstFault_8 : decode cX4_firstFault 8 = .ok (.iconst 0, 1) := by decide +kernel
theorem dX4_firstFault_9 : decode cX4_firstFault 9 = .ok (.istore 4, 2) := by decide +kernel
theorem dX4_firstFault_11 : decode cX4_firstFault 11 = .ok (.iload 4, 2) := by decide +kernel
theorem dX4_firstFault_13 : decode cX4_firstFault 13 = .ok (.iload_n 3, 1) := by decide +kernel
theorem dX4_firstFault_14 : decode cX4_firstFault 14 = .ok (.if_icmp .ge 29, 3) := by decide +kernel
theorem dX4_firstFault_17 : decode cX4_firstFault 17 = .ok (.aload_n 0, 1) := by decide +kernel
theorem dX4_firstFault_18 : decode cX4_firstFault 18 = .ok (.iload 4, 2) := by decide +kernel
theorem dX4_firstFault_20 : decode cX4_firstFault 20 = .ok (.aload_n 1, 1) := by decide +kernel
theorem dX4_firstFault_21 : decode cX4_firstFault 21 = .ok (.iload_n 2, 1) := by decide +kernel
theorem dX4_firstFault_22 : decode cX4_firstFault 22 = .ok (.iload 4, 2) := by decide +kernel
theorem dX4_firstFault_24 : decode cX4_firstFault 24 = .ok (.iadd, 1) := by decide +kernel
theorem dX4_firstFault_25 : decode cX4_firstFault 25 = .ok (.invokevirtual 22, 3) := by decide +kernel
theorem dX4_firstFault_28 : decode cX4_firstFault 28 = .ok (.invokevirtual 28, 3) := by decide +kernel
theorem dX4_firstFault_31 : decode cX4_firstFault 31 = .ok (.ifCond .ne 6, 3) := by decide +kernel
theorem dX4_firstFault_34 : decode cX4_firstFault 34 = .ok (.iload 4, 2) := by decide +kernel
theorem dX4_firstFault_36 : decode cX4_firstFault 36 = .ok (.ireturn, 1) := by decide +kernel
theorem dX4_firstFault_37 : decode cX4_firstFault 37 = .ok (.iinc 4 1, 3) := by decide +kernel
theorem dX4_firstFault_40 : decode cX4_firstFault 40 = .ok (.goto (-29), 3) := by decide +kernel
theorem dX4_firstFault_43 : decode cX4_firstFault 43 = .ok (.iload_n 3, 1) := by decide +kernel
theorem dX4_firstFault_44 : decode cX4_firstFault 44 = .ok (.iconst 1, 1) := by decide +kernel
theorem dX4_firstFault_45 : decode cX4_firstFault 45 = .ok (.if_icmp .lt 26, 3) := by decide +kernel
theorem dX4_firstFault_48 : decode cX4_firstFault 48 = .ok (.iload_n 3, 1) := by decide +kernel
theorem dX4_firstFault_49 : decode cX4_firstFault 49 = .ok (.iconst 1, 1) := by decide +kernel
theorem dX4_firstFault_50 : decode cX4_firstFault 50 = .ok (.isub, 1) := by decide +kernel
theorem dX4_firstFault_51 : decode cX4_firstFault 51 = .ok (.iconst 4, 1) := by decide +kernel
theorem dX4_firstFault_52 : decode cX4_firstFault 52 = .ok (.irem, 1) := by decide +kernel
theorem dX4_firstFault_53 : decode cX4_firstFault 53 = .ok (.ifCond .ne 18, 3) := by decide +kernel
theorem dX4_firstFault_56 : decode cX4_firstFault 56 = .ok (.aload_n 0, 1) := by decide +kernel
theorem dX4_firstFault_57 : decode cX4_firstFault 57 = .ok (.getfield 12, 3) := by decide +kernel
theorem dX4_firstFault_60 : decode cX4_firstFault 60 = .ok (.getfield 18, 3) := by decide +kernel
theorem dX4_firstFault_63 : decode cX4_firstFault 63 = .ok (.iconst 2, 1) := by decide +kernel
theorem dX4_firstFault_64 : decode cX4_firstFault 64 = .ok (.if_icmp .lt 7, 3) := by decide +kernel
theorem dX4_firstFault_67 : decode cX4_firstFault 67 = .ok (.iconst 1, 1) := by decide +kernel
theorem dX4_firstFault_68 : decode cX4_firstFault 68 = .ok (.goto 4, 3) := by decide +kernel
theorem dX4_firstFault_71 : decode cX4_firstFault 71 = .ok (.iconst 0, 1) := by decide +kernel
theorem dX4_firstFault_72 : decode cX4_firstFault 72 = .ok (.istore 4, 2) := by decide +kernel
theorem dX4_firstFault_74 : decode cX4_firstFault 74 = .ok (.iload 4, 2) := by decide +kernel
theorem dX4_firstFault_76 : decode cX4_firstFault 76 = .ok (.ifCond .eq 8, 3) := by decide +kernel
theorem dX4_firstFault_79 : decode cX4_firstFault 79 = .ok (.bipush (-9), 2) := by decide +kernel
theorem dX4_firstFault_81 : decode cX4_firstFault 81 = .ok (.goto 4, 3) := by decide +kernel
theorem dX4_firstFault_84 : decode cX4_firstFault 84 = .ok (.iload_n 3, 1) := by decide +kernel
theorem dX4_firstFault_85 : decode cX4_firstFault 85 = .ok (.ireturn, 1) := by decide +kernel
set_option maxRecDepth 20000 in
theorem ggX4_goesOn_X4_kindOf : GoodIn wsX4_goesOn wsX4_kindOf := goodIn_r _ [9] (by decide +kernel) (by decide +kernel)
set_option maxRecDepth 20000 in
theorem gX4_goesOn_X4_kindOf : GoodIn wsX4_goesOn (va_wsS RX4 36 yX4_kindOf wsX4_kindOf) := goodIn_app (goodIn_of _ (by decide +kernel)) ggX4_goesOn_X4_kindOf
set_option maxRecDepth 20000 in
theorem ggX4_goesOn_X6_roomOf : GoodIn wsX4_goesOn wsX6_roomOf := goodIn_r _ [12] (by decide +kernel) (by decide +kernel)
set_option maxRecDepth 20000 in
theorem gX4_goesOn_X6_roomOf_n45 : GoodIn wsX4_goesOn (wsX6_roomOf) := ggX4_goesOn_X6_roomOf
theorem dX4_goesOn_0 : decode cX4_goesOn 0 = .ok (.iload_n 1, 1) := by decide +kernel
theorem dX4_goesOn_1 : decode cX4_goesOn 1 = .ok (.iconst 1, 1) := by decide +kernel
theorem dX4_goesOn_2 : decode cX4_goesOn 2 = .ok (.if_icmp .ge 15, 3) := by decide +kernel
theorem dX4_goesOn_5 : decode cX4_goesOn 5 = .ok (.iload_n 2, 1) := by decide +kernel
theorem dX4_goesOn_6 : decode cX4_goesOn 6 = .ok (.bipush 97, 2) := by decide +kernel
theorem dX4_goesOn_8 : decode cX4_goesOn 8 = .ok (.if_icmp .ne 7, 3) := by decide +kernel
theorem dX4_goesOn_11 : decode cX4_goesOn 11 = .ok (.iconst 1, 1) := by decide +kernel
theorem dX4_goesOn_12 : decode cX4_goesOn 12 = .ok (.goto 4, 3) := by decide +kernel
theorem dX4_goesOn_15 : decode cX4_goesOn 15 = .ok (.iconst 0, 1) := by decide +kernel
theorem dX4_goesOn_16 : decode cX4_goesOn 16 = .ok (.ireturn, 1) := by decide +kernel
theorem dX4_goesOn_17 : decode cX4_goesOn 17 = .ok (.aload_n 0, 1) := by decide +kernel
theorem dX4_goesOn_18 : decode cX4_goesOn 18 = .ok (.getfield 12, 3) := by decide +kernel
theorem dX4_goesOn_21 : decode cX4_goesOn 21 = .ok (.getfield 18, 3) := by decide +kernel
theorem dX4_goesOn_24 : decode cX4_goesOn 24 = .ok (.istore_n 3, 1) := by decide +kernel
theorem dX4_goesOn_25 : decode cX4_goesOn 25 = .ok (.iload_n 3, 1) := by decide +kernel
theorem dX4_goesOn_26 : decode cX4_goesOn 26 = .ok (.ifCond .lt 9, 3) := by decide +kernel
theorem dX4_goesOn_29 : decode cX4_goesOn 29 = .ok (.iload_n 3, 1) := by decide +kernel
theorem dX4_goesOn_30 : decode cX4_goesOn 30 = .ok (.bipush 6, 2) := by decide +kernel
theorem dX4_goesOn_32 : decode cX4_goesOn 32 = .ok (.if_icmp .lt 5, 3) := by decide +kernel
theorem dX4_goesOn_35 : decode cX4_goesOn 35 = .ok (.iconst 0, 1) := by decide +kernel
theorem dX4_goesOn_36 : decode cX4_goesOn 36 = .ok (.ireturn, 1) := by decide +kernel
theorem dX4_goesOn_37 : decode cX4_goesOn 37 = .ok (.iload_n 1, 1) := by decide +kernel
theorem dX4_goesOn_38 : decode cX4_goesOn 38 = .ok (.iconst 1, 1) := by decide +kernel
theorem dX4_goesOn_39 : decode cX4_goesOn 39 = .ok (.isub, 1) := by decide +kernel
theorem dX4_goesOn_40 : decode cX4_goesOn 40 = .ok (.iconst 4, 1) := by decide +kernel
theorem dX4_goesOn_41 : decode cX4_goesOn 41 = .ok (.irem, 1) := by decide +kernel
theorem dX4_goesOn_42 : decode cX4_goesOn 42 = .ok (.tableswitch 102 0 2 #[26, 38, 71], 26) := by decide +kernel
theorem dX4_goesOn_68 : decode cX4_goesOn 68 = .ok (.iload_n 2, 1) := by decide +kernel
theorem dX4_goesOn_69 : decode cX4_goesOn 69 = .ok (.bipush 59, 2) := by decide +kernel
theorem dX4_goesOn_71 : decode cX4_goesOn 71 = .ok (.if_icmp .ne 7, 3) := by decide +kernel
theorem dX4_goesOn_74 : decode cX4_goesOn 74 = .ok (.iconst 1, 1) := by decide +kernel
theorem dX4_goesOn_75 : decode cX4_goesOn 75 = .ok (.goto 4, 3) := by decide +kernel
theorem dX4_goesOn_78 : decode cX4_goesOn 78 = .ok (.iconst 0, 1) := by decide +kernel
theorem dX4_goesOn_79 : decode cX4_goesOn 79 = .ok (.ireturn, 1) := by decide +kernel
theorem dX4_goesOn_80 : decode cX4_goesOn 80 = .ok (.aload_n 0, 1) := by decide +kernel
theorem dX4_goesOn_81 : decode cX4_goesOn 81 = .ok (.getfield 12, 3) := by decide +kernel
theorem dX4_goesOn_84 : decode cX4_goesOn 84 = .ok (.getfield 32, 3) := by decide +kernel
theorem dX4_goesOn_87 : decode cX4_goesOn 87 = .ok (.iload_n 3, 1) := by decide +kernel
theorem dX4_goesOn_88 : decode cX4_goesOn 88 = .ok (.iload_n 2, 1) := by decide +kernel
theorem dX4_goesOn_89 : decode cX4_goesOn 89 = .ok (.invokestatic 36, 3) := by decide +kernel
theorem dX4_goesOn_92 : decode cX4_goesOn 92 = .ok (.iastore, 1) := by decide +kernel
theorem dX4_goesOn_93 : decode cX4_goesOn 93 = .ok (.aload_n 0, 1) := by decide +kernel
theorem dX4_goesOn_94 : decode cX4_goesOn 94 = .ok (.getfield 12, 3) := by decide +kernel
theorem dX4_goesOn_97 : decode cX4_goesOn 97 = .ok (.getfield 32, 3) := by decide +kernel
theorem dX4_goesOn_100 : decode cX4_goesOn 100 = .ok (.iload_n 3, 1) := by decide +kernel
theorem dX4_goesOn_101 : decode cX4_goesOn 101 = .ok (.iaload, 1) := by decide +kernel
theorem dX4_goesOn_102 : decode cX4_goesOn 102 = .ok (.bipush (-9), 2) := by decide +kernel
theorem dX4_goesOn_104 : decode cX4_goesOn 104 = .ok (.if_icmp .eq 7, 3) := by decide +kernel
theorem dX4_goesOn_107 : decode cX4_goesOn 107 = .ok (.iconst 1, 1) := by decide +kernel
theorem dX4_goesOn_108 : decode cX4_goesOn 108 = .ok (.goto 4, 3) := by decide +kernel
theorem dX4_goesOn_111 : decode cX4_goesOn 111 = .ok (.iconst 0, 1) := by decide +kernel
theorem dX4_goesOn_112 : decode cX4_goesOn 112 = .ok (.ireturn, 1) := by decide +kernel
theorem dX4_goesOn_113 : decode cX4_goesOn 113 = .ok (.aload_n 0, 1) := by decide +kernel
theorem dX4_goesOn_114 : decode cX4_goesOn 114 = .ok (.getfield 12, 3) := by decide +kernel
theorem dX4_goesOn_117 : decode cX4_goesOn 117 = .ok (.getfield 39, 3) := by decide +kernel
theorem dX4_goesOn_120 : decode cX4_goesOn 120 = .ok (.iload_n 3, 1) := by decide +kernel
theorem dX4_goesOn_121 : decode cX4_goesOn 121 = .ok (.iload_n 2, 1) := by decide +kernel
theorem dX4_goesOn_122 : decode cX4_goesOn 122 = .ok (.bipush 48, 2) := by decide +kernel
theorem dX4_goesOn_124 : decode cX4_goesOn 124 = .ok (.isub, 1) := by decide +kernel
theorem dX4_goesOn_125 : decode cX4_goesOn 125 = .ok (.iastore, 1) := by decide +kernel
theorem dX4_goesOn_126 : decode cX4_goesOn 126 = .ok (.iload_n 2, 1) := by decide +kernel
theorem dX4_goesOn_127 : decode cX4_goesOn 127 = .ok (.bipush 49, 2) := by decide +kernel
theorem dX4_goesOn_129 : decode cX4_goesOn 129 = .ok (.if_icmp .lt 13, 3) := by decide +kernel
theorem dX4_goesOn_132 : decode cX4_goesOn 132 = .ok (.iload_n 2, 1) := by decide +kernel
theorem dX4_goesOn_133 : decode cX4_goesOn 133 = .ok (.bipush 57, 2) := by decide +kernel
theorem dX4_goesOn_135 : decode cX4_goesOn 135 = .ok (.if_icmp .gt 7, 3) := by decide +kernel
theorem dX4_goesOn_138 : decode cX4_goesOn 138 = .ok (.iconst 1, 1) := by decide +kernel
theorem dX4_goesOn_139 : decode cX4_goesOn 139 = .ok (.goto 4, 3) := by decide +kernel
theorem dX4_goesOn_142 : decode cX4_goesOn 142 = .ok (.iconst 0, 1) := by decide +kernel
theorem dX4_goesOn_143 : decode cX4_goesOn 143 = .ok (.ireturn, 1) := by decide +kernel
theorem dX4_goesOn_144 : decode cX4_goesOn 144 = .ok (.aload_n 0, 1) := by decide +kernel
theorem dX4_goesOn_145 : decode cX4_goesOn 145 = .ok (.getfield 12, 3) := by decide +kernel
theorem dX4_goesOn_148 : decode cX4_goesOn 148 = .ok (.getfield 42, 3) := by decide +kernel
theorem dX4_goesOn_151 : decode cX4_goesOn 151 = .ok (.iload_n 3, 1) := by decide +kernel
theorem dX4_goesOn_152 : decode cX4_goesOn 152 = .ok (.iload_n 2, 1) := by decide +kernel
theorem dX4_goesOn_153 : decode cX4_goesOn 153 = .ok (.bipush 48, 2) := by decide +kernel
theorem dX4_goesOn_155 : decode cX4_goesOn 155 = .ok (.isub, 1) := by decide +kernel
theorem dX4_goesOn_156 : decode cX4_goesOn 156 = .ok (.iastore, 1) := by decide +kernel
theorem dX4_goesOn_157 : decode cX4_goesOn 157 = .ok (.aload_n 0, 1) := by decide +kernel
theorem dX4_goesOn_158 : decode cX4_goesOn 158 = .ok (.getfield 12, 3) := by decide +kernel
theorem dX4_goesOn_161 : decode cX4_goesOn 161 = .ok (.iload_n 3, 1) := by decide +kernel
theorem dX4_goesOn_162 : decode cX4_goesOn 162 = .ok (.iconst 1, 1) := by decide +kernel
theorem dX4_goesOn_163 : decode cX4_goesOn 163 = .ok (.iadd, 1) := by decide +kernel
theorem dX4_goesOn_164 : decode cX4_goesOn 164 = .ok (.putfield 18, 3) := by decide +kernel
theorem dX4_goesOn_167 : decode cX4_goesOn 167 = .ok (.iload_n 2, 1) := by decide +kernel
theorem dX4_goesOn_168 : decode cX4_goesOn 168 = .ok (.bipush 48, 2) := by decide +kernel
theorem dX4_goesOn_170 : decode cX4_goesOn 170 = .ok (.if_icmp .lt 41, 3) := by decide +kernel
theorem dX4_goesOn_173 : decode cX4_goesOn 173 = .ok (.iload_n 2, 1) := by decide +kernel
theorem dX4_goesOn_174 : decode cX4_goesOn 174 = .ok (.bipush 57, 2) := by decide +kernel
theorem dX4_goesOn_176 : decode cX4_goesOn 176 = .ok (.if_icmp .gt 35, 3) := by decide +kernel
theorem dX4_goesOn_179 : decode cX4_goesOn 179 = .ok (.iload_n 2, 1) := by decide +kernel
theorem dX4_goesOn_180 : decode cX4_goesOn 180 = .ok (.bipush 48, 2) := by decide +kernel
theorem dX4_goesOn_182 : decode cX4_goesOn 182 = .ok (.isub, 1) := by decide +kernel
theorem dX4_goesOn_183 : decode cX4_goesOn 183 = .ok (.aload_n 0, 1) := by decide +kernel
theorem dX4_goesOn_184 : decode cX4_goesOn 184 = .ok (.getfield 12, 3) := by decide +kernel
theorem dX4_goesOn_187 : decode cX4_goesOn 187 = .ok (.getfield 32, 3) := by decide +kernel
theorem dX4_goesOn_190 : decode cX4_goesOn 190 = .ok (.iload_n 3, 1) := by decide +kernel
theorem dX4_goesOn_191 : decode cX4_goesOn 191 = .ok (.iaload, 1) := by decide +kernel
theorem dX4_goesOn_192 : decode cX4_goesOn 192 = .ok (.aload_n 0, 1) := by decide +kernel
theorem dX4_goesOn_193 : decode cX4_goesOn 193 = .ok (.getfield 12, 3) := by decide +kernel
theorem dX4_goesOn_196 : decode cX4_goesOn 196 = .ok (.getfield 39, 3) := by decide +kernel
theorem dX4_goesOn_199 : decode cX4_goesOn 199 = .ok (.iload_n 3, 1) := by decide +kernel
theorem dX4_goesOn_200 : decode cX4_goesOn 200 = .ok (.iaload, 1) := by decide +kernel
theorem dX4_goesOn_201 : decode cX4_goesOn 201 = .ok (.invokestatic 45, 3) := by decide +kernel
theorem dX4_goesOn_204 : decode cX4_goesOn 204 = .ok (.if_icmp .gt 7, 3) := by decide +kernel
theorem dX4_goesOn_207 : decode cX4_goesOn 207 = .ok (.iconst 1, 1) := by decide +kernel
theorem dX4_goesOn_208 : decode cX4_goesOn 208 = .ok (.goto 4, 3) := by decide +kernel
theorem dX4_goesOn_211 : decode cX4_goesOn 211 = .ok (.iconst 0, 1) := by decide +kernel
theorem dX4_goesOn_212 : decode cX4_goesOn 212 = .ok (.ireturn, 1) := by decide +kernel
theorem dX4_kindOf_0 : decode cX4_kindOf 0 = .ok (.iload_n 0, 1) := by decide +kernel
theorem dX4_kindOf_1 : decode cX4_kindOf 1 = .ok (.lookupswitch 41 #[(108, 37), (111, 39), (119, 35)], 35) := by decide +kernel
theorem dX4_kindOf_36 : decode cX4_kindOf 36 = .ok (.iconst 0, 1) := by decide +kernel
theorem dX4_kindOf_37 : decode cX4_kindOf 37 = .ok (.ireturn, 1) := by decide +kernel
theorem dX4_kindOf_38 : decode cX4_kindOf 38 = .ok (.iconst 1, 1) := by decide +kernel
theorem dX4_kindOf_39 : decode cX4_kindOf 39 = .ok (.ireturn, 1) := by decide +kernel
theorem dX4_kindOf_40 : decode cX4_kindOf 40 = .ok (.iconst 2, 1) := by decide +kernel
theorem dX4_kindOf_41 : decode cX4_kindOf 41 = .ok (.ireturn, 1) := by decide +kernel
theorem dX4_kindOf_42 : decode cX4_kindOf 42 = .ok (.bipush (-9), 2) := by decide +kernel
theorem dX4_kindOf_44 : decode cX4_kindOf 44 = .ok (.ireturn, 1) := by decide +kernel
theorem dX5_init_0 : decode cX5_init 0 = .ok (.aload_n 0, 1) := by decide +kernel
theorem dX5_init_1 : decode cX5_init 1 = .ok (.invokespecial 3, 3) := by decide +kernel
theorem dX5_init_4 : decode cX5_init 4 = .ok (.aload_n 0, 1) := by decide +kernel
theorem dX5_init_5 : decode cX5_init 5 = .ok (.bipush 6, 2) := by decide +kernel
theorem dX5_init_7 : decode cX5_init 7 = .ok (.newarray .int, 2) := by decide +kernel
theorem dX5_init_9 : decode cX5_init 9 = .ok (.putfield 9, 3) := by decide +kernel
theorem dX5_init_12 : decode cX5_init 12 = .ok (.aload_n 0, 1) := by decide +kernel
theorem dX5_init_13 : decode cX5_init 13 = .ok (.bipush 6, 2) := by decide +kernel
theorem dX5_init_15 : decode cX5_init 15 = .ok (.newarray .int, 2) := by decide +kernel
theorem dX5_init_17 : decode cX5_init 17 = .ok (.putfield 15, 3) := by decide +kernel
theorem dX5_init_20 : decode cX5_init 20 = .ok (.aload_n 0, 1) := by decide +kernel
theorem dX5_init_21 : decode cX5_init 21 = .ok (.bipush 6, 2) := by decide +kernel
theorem dX5_init_23 : decode cX5_init 23 = .ok (.newarray .int, 2) := by decide +kernel
theorem dX5_init_25 : decode cX5_init 25 = .ok (.putfield 18, 3) := by decide +kernel
theorem dX5_init_28 : decode cX5_init 28 = .ok (.aload_n 0, 1) := by decide +kernel
theorem dX5_init_29 : decode cX5_init 29 = .ok (.bipush 6, 2) := by decide +kernel
theorem dX5_init_31 : decode cX5_init 31 = .ok (.newarray .int, 2) := by decide +kernel
theorem dX5_init_33 : decode cX5_init 33 = .ok (.putfield 21, 3) := by decide +kernel
theorem dX5_init_36 : decode cX5_init 36 = .ok (.aload_n 0, 1) := by decide +kernel
theorem dX5_init_37 : decode cX5_init 37 = .ok (.bipush 6, 2) := by decide +kernel
theorem dX5_init_39 : decode cX5_init 39 = .ok (.newarray .int, 2) := by decide +kernel
theorem dX5_init_41 : decode cX5_init 41 = .ok (.putfield 24, 3) := by decide +kernel
theorem dX5_init_44 : decode cX5_init 44 = .ok (.aload_n 0, 1) := by decide +kernel
theorem dX5_init_45 : decode cX5_init 45 = .ok (.iconst 0, 1) := by decide +kernel
theorem dX5_init_46 : decode cX5_init 46 = .ok (.putfield 27, 3) := by decide +kernel
theorem dX5_init_49 : decode cX5_init 49 = .ok (.aload_n 0, 1) := by decide +kernel
theorem dX5_init_50 : decode cX5_init 50 = .ok (.iconst 0, 1) := by decide +kernel
theorem dX5_init_51 : decode cX5_init 51 = .ok (.putfield 31, 3) := by decide +kernel
theorem dX5_init_54 : decode cX5_init 54 = .ok (.return_, 1) := by decide +kernel
theorem dX5_has_0 : decode cX5_has 0 = .ok (.iload_n 1, 1) := by decide +kernel
theorem dX5_has_1 : decode cX5_has 1 = .ok (.ifCond .lt 21, 3) := by decide +kernel
theorem dX5_has_4 : decode cX5_has 4 = .ok (.iload_n 1, 1) := by decide +kernel
theorem dX5_has_5 : decode cX5_has 5 = .ok (.aload_n 0, 1) := by decide +kernel
theorem dX5_has_6 : decode cX5_has 6 = .ok (.getfield 27, 3) := by decide +kernel
theorem dX5_has_9 : decode cX5_has 9 = .ok (.if_icmp .ge 13, 3) := by decide +kernel
theorem dX5_has_12 : decode cX5_has 12 = .ok (.iload_n 1, 1) := by decide +kernel
theorem dX5_has_13 : decode cX5_has 13 = .ok (.bipush 6, 2) := by decide +kernel
theorem dX5_has_15 : decode cX5_has 15 = .ok (.if_icmp .ge 7, 3) := by decide +kernel
theorem dX5_has_18 : decode cX5_has 18 = .ok (.iconst 1, 1) := by decide +kernel
theorem dX5_has_19 : decode cX5_has 19 = .ok (.goto 4, 3) := by decide +kernel
theorem dX5_has_22 : decode cX5_has 22 = .ok (.iconst 0, 1) := by decide +kernel
theorem dX5_has_23 : decode cX5_has 23 = .ok (.ireturn, 1) := by decide +kernel
set_option maxRecDepth 20000 in
theorem ggX5_become_X5_measure : GoodIn wsX5_become wsX5_measure := goodIn_r _ [9, 4, 10, 1, 2, 11, 12, 13, 14, 15, 16, 17, 18, 19, 20, 21, 22] (by decide +kernel) (by decide +kernel)
set_option maxRecDepth 20000 in
theorem gX5_become_X5_measure : GoodIn wsX5_become (wsV RX5 34 RX5 yX5_measure wsX5_measure) := goodIn_app (goodIn_of _ (by decide +kernel)) ggX5_become_X5_measure
theorem dX5_become_0 : decode cX5_become 0 = .ok (.iconst 0, 1) := by decide +kernel
theorem dX5_become_1 : decode cX5_become 1 = .ok (.istore_n 2, 1) := by decide +kernel
theorem dX5_become_2 : decode cX5_become 2 = .ok (.iload_n 2, 1) := by decide +kernel
theorem dX5_become_3 : decode cX5_become 3 = .ok (.bipush 6, 2) := by decide +kernel
theorem dX5_become_5 : decode cX5_become 5 = .ok (.if_icmp .ge 45, 3) := by decide +kernel
theorem dX5_become_8 : decode cX5_become 8 = .ok (.aload_n 0, 1) := by decide +kernel
theorem dX5_become_9 : decode cX5_become 9 = .ok (.getfield 9, 3) := by decide +kernel
theorem dX5_become_12 : decode cX5_become 12 = .ok (.iload_n 2, 1) := by decide +kernel
theorem dX5_become_13 : decode cX5_become 13 = .ok (.aload_n 1, 1) := by decide +kernel
theorem dX5_become_14 : decode cX5_become 14 = .ok (.getfield 9, 3) := by decide +kernel
theorem dX5_become_17 : decode cX5_become 17 = .ok (.iload_n 2, 1) := by decide +kernel
theorem dX5_become_18 : decode cX5_become 18 = .ok (.iaload, 1) := by decide +kernel
theorem dX5_become_19 : decode cX5_become 19 = .ok (.iastore, 1) := by decide +kernel
theorem dX5_become_20 : decode cX5_become 20 = .ok (.aload_n 0, 1) := by decide +kernel
theorem dX5_become_21 : decode cX5_become 21 = .ok (.getfield 15, 3) := by decide +kernel
theorem dX5_become_24 : decode cX5_become 24 = .ok (.iload_n 2, 1) := by decide +kernel
theorem dX5_become_25 : decode cX5_become 25 = .ok (.aload_n 1, 1) := by decide +kernel
theorem dX5_become_26 : decode cX5_become 26 = .ok (.getfield 15, 3) := by decide +kernel
theorem dX5_become_29 : decode cX5_become 29 = .ok (.iload_n 2, 1) := by decide +kernel
theorem dX5_become_30 : decode cX5_become 30 = .ok (.iaload, 1) := by decide +kernel
theorem dX5_become_31 : decode cX5_become 31 = .ok (.iastore, 1) := by decide +kernel
theorem dX5_become_32 : decode cX5_become 32 = .ok (.aload_n 0, 1) := by decide +kernel
theorem dX5_become_33 : decode cX5_become 33 = .ok (.getfield 18, 3) := by decide +kernel
theorem dX5_become_36 : decode cX5_become 36 = .ok (.iload_n 2, 1) := by decide +kernel
theorem dX5_become_37 : decode cX5_become 37 = .ok (.aload_n 1, 1) := by decide +kernel
theorem dX5_become_38 : decode cX5_become 38 = .ok (.getfield 18, 3) := by decide +kernel
theorem dX5_become_41 : decode cX5_become 41 = .ok (.iload_n 2, 1) := by decide +kernel
theorem dX5_become_42 : decode cX5_become 42 = .ok (.iaload, 1) := by decide +kernel
theorem dX5_become_43 : decode cX5_become 43 = .ok (.iastore, 1) := by decide +kernel
theorem dX5_become_44 : decode cX5_become 44 = .ok (.iinc 2 1, 3) := by decide +kernel
theorem dX5_become_47 : decode cX5_become 47 = .ok (.goto (-45), 3) := by decide +kernel
theorem dX5_become_50 : decode cX5_become 50 = .ok (.aload_n 0, 1) := by decide +kernel
theorem dX5_become_51 : decode cX5_become 51 = .ok (.aload_n 1, 1) := by decide +kernel
theorem dX5_become_52 : decode cX5_become 52 = .ok (.getfield 27, 3) := by decide +kernel
theorem dX5_become_55 : decode cX5_become 55 = .ok (.putfield 27, 3) := by decide +kernel
theorem dX5_become_58 : decode cX5_become 58 = .ok (.aload_n 0, 1) := by decide +kernel
theorem dX5_become_59 : decode cX5_become 59 = .ok (.invokevirtual 34, 3) := by decide +kernel
theorem dX5_become_62 : decode cX5_become 62 = .ok (.return_, 1) := by decide +kernel
set_option maxRecDepth 20000 in
theorem ggX5_measure_X6_roomOf : GoodIn wsX5_measure wsX6_roomOf := goodIn_r _ [9] (by decide +kernel) (by decide +kernel)
set_option maxRecDepth 20000 in
theorem gX5_measure_X6_roomOf_n37 : GoodIn wsX5_measure (wsX6_roomOf) := ggX5_measure_X6_roomOf
theorem dX5_measure_0 : decode cX5_measure 0 = .ok (.iconst 1, 1) := by decide +kernel
theorem dX5_measure_1 : decode cX5_measure 1 = .ok (.istore_n 1, 1) := by decide +kernel
theorem dX5_measure_2 : decode cX5_measure 2 = .ok (.iconst 0, 1) := by decide +kernel
theorem dX5_measure_3 : decode cX5_measure 3 = .ok (.istore_n 2, 1) := by decide +kernel
theorem dX5_measure_4 : decode cX5_measure 4 = .ok (.iload_n 2, 1) := by decide +kernel
theorem dX5_measure_5 : decode cX5_measure 5 = .ok (.aload_n 0, 1) := by decide +kernel
theorem dX5_measure_6 : decode cX5_measure 6 = .ok (.getfield 27, 3) := by decide +kernel
theorem dX5_measure_9 : decode cX5_measure 9 = .ok (.if_icmp .ge 48, 3) := by decide +kernel
theorem dX5_measure_12 : decode cX5_measure 12 = .ok (.aload_n 0, 1) := by decide +kernel
theorem dX5_measure_13 : decode cX5_measure 13 = .ok (.getfield 21, 3) := by decide +kernel
theorem dX5_measure_16 : decode cX5_measure 16 = .ok (.iload_n 2, 1) := by decide +kernel
theorem dX5_measure_17 : decode cX5_measure 17 = .ok (.aload_n 0, 1) := by decide +kernel
theorem dX5_measure_18 : decode cX5_measure 18 = .ok (.getfield 9, 3) := by decide +kernel
theorem dX5_measure_21 : decode cX5_measure 21 = .ok (.iload_n 2, 1) := by decide +kernel
theorem dX5_measure_22 : decode cX5_measure 22 = .ok (.iaload, 1) := by decide +kernel
theorem dX5_measure_23 : decode cX5_measure 23 = .ok (.aload_n 0, 1) := by decide +kernel
theorem dX5_measure_24 : decode cX5_measure 24 = .ok (.getfield 15, 3) := by decide +kernel
theorem dX5_measure_27 : decode cX5_measure 27 = .ok (.iload_n 2, 1) := by decide +kernel
theorem dX5_measure_28 : decode cX5_measure 28 = .ok (.iaload, 1) := by decide +kernel
theorem dX5_measure_29 : decode cX5_measure 29 = .ok (.invokestatic 37, 3) := by decide +kernel
theorem dX5_measure_32 : decode cX5_measure 32 = .ok (.iastore, 1) := by decide +kernel
theorem dX5_measure_33 : decode cX5_measure 33 = .ok (.aload_n 0, 1) := by decide +kernel
theorem dX5_measure_34 : decode cX5_measure 34 = .ok (.getfield 24, 3) := by decide +kernel
theorem dX5_measure_37 : decode cX5_measure 37 = .ok (.iload_n 2, 1) := by decide +kernel
theorem dX5_measure_38 : decode cX5_measure 38 = .ok (.iload_n 1, 1) := by decide +kernel
theorem dX5_measure_39 : decode cX5_measure 39 = .ok (.iastore, 1) := by decide +kernel
theorem dX5_measure_40 : decode cX5_measure 40 = .ok (.iload_n 1, 1) := by decide +kernel
theorem dX5_measure_41 : decode cX5_measure 41 = .ok (.aload_n 0, 1) := by decide +kernel
theorem dX5_measure_42 : decode cX5_measure 42 = .ok (.getfield 21, 3) := by decide +kernel
theorem dX5_measure_45 : decode cX5_measure 45 = .ok (.iload_n 2, 1) := by decide +kernel
theorem dX5_measure_46 : decode cX5_measure 46 = .ok (.iaload, 1) := by decide +kernel
theorem dX5_measure_47 : decode cX5_measure 47 = .ok (.iconst 1, 1) := by decide +kernel
theorem dX5_measure_48 : decode cX5_measure 48 = .ok (.iadd, 1) := by decide +kernel
theorem dX5_measure_49 : decode cX5_measure 49 = .ok (.imul, 1) := by decide +kernel
theorem dX5_measure_50 : decode cX5_measure 50 = .ok (.istore_n 1, 1) := by decide +kernel
theorem dX5_measure_51 : decode cX5_measure 51 = .ok (.iinc 2 1, 3) := by decide +kernel
theorem dX5_measure_54 : decode cX5_measure 54 = .ok (.goto (-50), 3) := by decide +kernel
theorem dX5_measure_57 : decode cX5_measure 57 = .ok (.aload_n 0, 1) := by decide +kernel
theorem dX5_measure_58 : decode cX5_measure 58 = .ok (.iload_n 1, 1) := by decide +kernel
theorem dX5_measure_59 : decode cX5_measure 59 = .ok (.iconst 1, 1) := by decide +kernel
theorem dX5_measure_60 : decode cX5_measure 60 = .ok (.isub, 1) := by decide +kernel
theorem dX5_measure_61 : decode cX5_measure 61 = .ok (.putfield 31, 3) := by decide +kernel
theorem dX5_measure_64 : decode cX5_measure 64 = .ok (.return_, 1) := by decide +kernel
theorem dX5_hasRoom_0 : decode cX5_hasRoom 0 = .ok (.iconst 0, 1) := by decide +kernel
theorem dX5_hasRoom_1 : decode cX5_hasRoom 1 = .ok (.istore_n 1, 1) := by decide +kernel
theorem dX5_hasRoom_2 : decode cX5_hasRoom 2 = .ok (.iload_n 1, 1) := by decide +kernel
theorem dX5_hasRoom_3 : decode cX5_hasRoom 3 = .ok (.aload_n 0, 1) := by decide +kernel
theorem dX5_hasRoom_4 : decode cX5_hasRoom 4 = .ok (.getfield 27, 3) := by decide +kernel
theorem dX5_hasRoom_7 : decode cX5_hasRoom 7 = .ok (.if_icmp .ge 26, 3) := by decide +kernel
theorem dX5_hasRoom_10 : decode cX5_hasRoom 10 = .ok (.aload_n 0, 1) := by decide +kernel
theorem dX5_hasRoom_11 : decode cX5_hasRoom 11 = .ok (.getfield 18, 3) := by decide +kernel
theorem dX5_hasRoom_14 : decode cX5_hasRoom 14 = .ok (.iload_n 1, 1) := by decide +kernel
theorem dX5_hasRoom_15 : decode cX5_hasRoom 15 = .ok (.iaload, 1) := by decide +kernel
theorem dX5_hasRoom_16 : decode cX5_hasRoom 16 = .ok (.aload_n 0, 1) := by decide +kernel
theorem dX5_hasRoom_17 : decode cX5_hasRoom 17 = .ok (.getfield 21, 3) := by decide +kernel
theorem dX5_hasRoom_20 : decode cX5_hasRoom 20 = .ok (.iload_n 1, 1) := by decide +kernel
theorem dX5_hasRoom_21 : decode cX5_hasRoom 21 = .ok (.iaload, 1) := by decide +kernel
theorem dX5_hasRoom_22 : decode cX5_hasRoom 22 = .ok (.if_icmp .le 5, 3) := by decide +kernel
theorem dX5_hasRoom_25 : decode cX5_hasRoom 25 = .ok (.iconst 0, 1) := by decide +kernel
theorem dX5_hasRoom_26 : decode cX5_hasRoom 26 = .ok (.ireturn, 1) := by decide +kernel
theorem dX5_hasRoom_27 : decode cX5_hasRoom 27 = .ok (.iinc 1 1, 3) := by decide +kernel
theorem dX5_hasRoom_30 : decode cX5_hasRoom 30 = .ok (.goto (-28), 3) := by decide +kernel
theorem dX5_hasRoom_33 : decode cX5_hasRoom 33 = .ok (.iconst 1, 1) := by decide +kernel
theorem dX5_hasRoom_34 : decode cX5_hasRoom 34 = .ok (.ireturn, 1) := by decide +kernel
theorem dX5_numberNow_0 : decode cX5_numberNow 0 = .ok (.iconst 0, 1) := by decide +kernel
theorem dX5_numberNow_1 : decode cX5_numberNow 1 = .ok (.istore_n 1, 1) := by decide +kernel
theorem dX5_numberNow_2 : decode cX5_numberNow 2 = .ok (.iconst 0, 1) := by decide +kernel
theorem dX5_numberNow_3 : decode cX5_numberNow 3 = .ok (.istore_n 2, 1) := by decide +kernel
theorem dX5_numberNow_4 : decode cX5_numberNow 4 = .ok (.iload_n 2, 1) := by decide +kernel
theorem dX5_numberNow_5 : decode cX5_numberNow 5 = .ok (.aload_n 0, 1) := by decide +kernel
theorem dX5_numberNow_6 : decode cX5_numberNow 6 = .ok (.getfield 27, 3) := by decide +kernel
theorem dX5_numberNow_9 : decode cX5_numberNow 9 = .ok (.if_icmp .ge 25, 3) := by decide +kernel
theorem dX5_numberNow_12 : decode cX5_numberNow 12 = .ok (.iload_n 1, 1) := by decide +kernel
theorem dX5_numberNow_13 : decode cX5_numberNow 13 = .ok (.aload_n 0, 1) := by decide +kernel
theorem dX5_numberNow_14 : decode cX5_numberNow 14 = .ok (.getfield 18, 3) := by decide +kernel
theorem dX5_numberNow_17 : decode cX5_numberNow 17 = .ok (.iload_n 2, 1) := by decide +kernel
theorem dX5_numberNow_18 : decode cX5_numberNow 18 = .ok (.iaload, 1) := by decide +kernel
theorem dX5_numberNow_19 : decode cX5_numberNow 19 = .ok (.aload_n 0, 1) := by decide +kernel
theorem dX5_numberNow_20 : decode cX5_numberNow 20 = .ok (.getfield 24, 3) := by decide +kernel
theorem dX5_numberNow_23 : decode cX5_numberNow 23 = .ok (.iload_n 2, 1) := by decide +kernel
theorem dX5_numberNow_24 : decode cX5_numberNow 24 = .ok (.iaload, 1) := by decide +kernel
theorem dX5_numberNow_25 : decode cX5_numberNow 25 = .ok (.imul, 1) := by decide +kernel
theorem dX5_numberNow_26 : decode cX5_numberNow 26 = .ok (.iadd, 1) := by decide +kernel
theorem dX5_numberNow_27 : decode cX5_numberNow 27 = .ok (.istore_n 1, 1) := by decide +kernel
theorem dX5_numberNow_28 : decode cX5_numberNow 28 = .ok (.iinc 2 1, 3) := by decide +kernel
theorem dX5_numberNow_31 : decode cX5_numberNow 31 = .ok (.goto (-27), 3) := by decide +kernel
theorem dX5_numberNow_34 : decode cX5_numberNow 34 = .ok (.iload_n 1, 1) := by decide +kernel
theorem dX5_numberNow_35 : decode cX5_numberNow 35 = .ok (.ireturn, 1) := by decide +kernel
theorem dX5_pushedTogether_0 : decode cX5_pushedTogether 0 = .ok (.iconst 0, 1) := by decide +kernel
theorem dX5_pushedTogether_1 : decode cX5_pushedTogether 1 = .ok (.istore_n 1, 1) := by decide +kernel
theorem dX5_pushedTogether_2 : decode cX5_pushedTogether 2 = .ok (.iconst 0, 1) := by decide +kernel
theorem dX5_pushedTogether_3 : decode cX5_pushedTogether 3 = .ok (.istore_n 2, 1) := by decide +kernel
theorem dX5_pushedTogether_4 : decode cX5_pushedTogether 4 = .ok (.iload_n 2, 1) := by decide +kernel
theorem dX5_pushedTogether_5 : decode cX5_pushedTogether 5 = .ok (.aload_n 0, 1) := by decide +kernel
theorem dX5_pushedTogether_6 : decode cX5_pushedTogether 6 = .ok (.getfield 27, 3) := by decide +kernel
theorem dX5_pushedTogether_9 : decode cX5_pushedTogether 9 = .ok (.if_icmp .ge 18, 3) := by decide +kernel
theorem dX5_pushedTogether_12 : decode cX5_pushedTogether 12 = .ok (.iload_n 1, 1) := by decide +kernel
theorem dX5_pushedTogether_13 : decode cX5_pushedTogether 13 = .ok (.aload_n 0, 1) := by decide +kernel
theorem dX5_pushedTogether_14 : decode cX5_pushedTogether 14 = .ok (.getfield 18, 3) := by decide +kernel
theorem dX5_pushedTogether_17 : decode cX5_pushedTogether 17 = .ok (.iload_n 2, 1) := by decide +kernel
theorem dX5_pushedTogether_18 : decode cX5_pushedTogether 18 = .ok (.iaload, 1) := by decide +kernel
theorem dX5_pushedTogether_19 : decode cX5_pushedTogether 19 = .ok (.iadd, 1) := by decide +kernel
theorem dX5_pushedTogether_20 : decode cX5_pushedTogether 20 = .ok (.istore_n 1, 1) := by decide +kernel
theorem dX5_pushedTogether_21 : decode cX5_pushedTogether 21 = .ok (.iinc 2 1, 3) := by decide +kernel
theorem dX5_pushedTogether_24 : decode cX5_pushedTogether 24 = .ok (.goto (-20), 3) := by decide +kernel
theorem dX5_pushedTogether_27 : decode cX5_pushedTogether 27 = .ok (.iload_n 1, 1) := by decide +kernel
theorem dX5_pushedTogether_28 : decode cX5_pushedTogether 28 = .ok (.ireturn, 1) := by decide +kernel
theorem dX5_menTogether_0 : decode cX5_menTogether 0 = .ok (.iconst 0, 1) := by decide +kernel
theorem dX5_menTogether_1 : decode cX5_menTogether 1 = .ok (.istore_n 1, 1) := by decide +kernel
theorem dX5_menTogether_2 : decode cX5_menTogether 2 = .ok (.iconst 0, 1) := by decide +kernel
theorem dX5_menTogether_3 : decode cX5_menTogether 3 = .ok (.istore_n 2, 1) := by decide +kernel
theorem dX5_menTogether_4 : decode cX5_menTogether 4 = .ok (.iload_n 2, 1) := by decide +kernel
theorem dX5_menTogether_5 : decode cX5_menTogether 5 = .ok (.aload_n 0, 1) := by decide +kernel
theorem dX5_menTogether_6 : decode cX5_menTogether 6 = .ok (.getfield 27, 3) := by decide +kernel
theorem dX5_menTogether_9 : decode cX5_menTogether 9 = .ok (.if_icmp .ge 18, 3) := by decide +kernel
theorem dX5_menTogether_12 : decode cX5_menTogether 12 = .ok (.iload_n 1, 1) := by decide +kernel
theorem dX5_menTogether_13 : decode cX5_menTogether 13 = .ok (.aload_n 0, 1) := by decide +kernel
theorem dX5_menTogether_14 : decode cX5_menTogether 14 = .ok (.getfield 15, 3) := by decide +kernel
theorem dX5_menTogether_17 : decode cX5_menTogether 17 = .ok (.iload_n 2, 1) := by decide +kernel
theorem dX5_menTogether_18 : decode cX5_menTogether 18 = .ok (.iaload, 1) := by decide +kernel
theorem dX5_menTogether_19 : decode cX5_menTogether 19 = .ok (.iadd, 1) := by decide +kernel
theorem dX5_menTogether_20 : decode cX5_menTogether 20 = .ok (.istore_n 1, 1) := by decide +kernel
theorem dX5_menTogether_21 : decode cX5_menTogether 21 = .ok (.iinc 2 1, 3) := by decide +kernel
theorem dX5_menTogether_24 : decode cX5_menTogether 24 = .ok (.goto (-20), 3) := by decide +kernel
theorem dX5_menTogether_27 : decode cX5_menTogether 27 = .ok (.iload_n 1, 1) := by decide +kernel
theorem dX5_menTogether_28 : decode cX5_menTogether 28 = .ok (.ireturn, 1) := by decide +kernel
set_option maxRecDepth 20000 in
theorem ggX5_figureOf_X5_has : GoodIn wsX5_figureOf wsX5_has := goodIn_r _ [7, 8, 9, 10, 11, 12, 13, 14, 15] (by decide +kernel) (by decide +kernel)
set_option maxRecDepth 20000 in
theorem gX5_figureOf_X5_has : GoodIn wsX5_figureOf (wsV RX5 41 RX5 yX5_has wsX5_has) := goodIn_app (goodIn_of _ (by decide +kernel)) ggX5_figureOf_X5_has
theorem dX5_figureOf_0 : decode cX5_figureOf 0 = .ok (.aload_n 0, 1) := by decide +kernel
theorem dX5_figureOf_1 : decode cX5_figureOf 1 = .ok (.iload_n 1, 1) := by decide +kernel
theorem dX5_figureOf_2 : decode cX5_figureOf 2 = .ok (.invokevirtual 41, 3) := by decide +kernel
theorem dX5_figureOf_5 : decode cX5_figureOf 5 = .ok (.ifCond .eq 21, 3) := by decide +kernel
theorem dX5_figureOf_8 : decode cX5_figureOf 8 = .ok (.aload_n 0, 1) := by decide +kernel
theorem dX5_figureOf_9 : decode cX5_figureOf 9 = .ok (.getfield 24, 3) := by decide +kernel
theorem dX5_figureOf_12 : decode cX5_figureOf 12 = .ok (.iload_n 1, 1) := by decide +kernel
theorem dX5_figureOf_13 : decode cX5_figureOf 13 = .ok (.iaload, 1) := by decide +kernel
theorem dX5_figureOf_14 : decode cX5_figureOf 14 = .ok (.ifCond .le 12, 3) := by decide +kernel
theorem dX5_figureOf_17 : decode cX5_figureOf 17 = .ok (.aload_n 0, 1) := by decide +kernel
theorem dX5_figureOf_18 : decode cX5_figureOf 18 = .ok (.getfield 21, 3) := by decide +kernel
theorem dX5_figureOf_21 : decode cX5_figureOf 21 = .ok (.iload_n 1, 1) := by decide +kernel
theorem dX5_figureOf_22 : decode cX5_figureOf 22 = .ok (.iaload, 1) := by decide +kernel
theorem dX5_figureOf_23 : decode cX5_figureOf 23 = .ok (.ifCond .ge 5, 3) := by decide +kernel
theorem dX5_figureOf_26 : decode cX5_figureOf 26 = .ok (.iconst 0, 1) := by decide +kernel
theorem dX5_figureOf_27 : decode cX5_figureOf 27 = .ok (.ireturn, 1) := by decide +kernel
theorem dX5_figureOf_28 : decode cX5_figureOf 28 = .ok (.iload_n 2, 1) := by decide +kernel
theorem dX5_figureOf_29 : decode cX5_figureOf 29 = .ok (.aload_n 0, 1) := by decide +kernel
theorem dX5_figureOf_30 : decode cX5_figureOf 30 = .ok (.getfield 24, 3) := by decide +kernel
theorem dX5_figureOf_33 : decode cX5_figureOf 33 = .ok (.iload_n 1, 1) := by decide +kernel
theorem dX5_figureOf_34 : decode cX5_figureOf 34 = .ok (.iaload, 1) := by decide +kernel
theorem dX5_figureOf_35 : decode cX5_figureOf 35 = .ok (.idiv, 1) := by decide +kernel
theorem dX5_figureOf_36 : decode cX5_figureOf 36 = .ok (.aload_n 0, 1) := by decide +kernel
theorem dX5_figureOf_37 : decode cX5_figureOf 37 = .ok (.getfield 21, 3) := by decide +kernel
theorem dX5_figureOf_40 : decode cX5_figureOf 40 = .ok (.iload_n 1, 1) := by decide +kernel
theorem dX5_figureOf_41 : decode cX5_figureOf 41 = .ok (.iaload, 1) := by decide +kernel
theorem dX5_figureOf_42 : decode cX5_figureOf 42 = .ok (.iconst 1, 1) := by decide +kernel
theorem dX5_figureOf_43 : decode cX5_figureOf 43 = .ok (.iadd, 1) := by decide +kernel
theorem dX5_figureOf_44 : decode cX5_figureOf 44 = .ok (.irem, 1) := by decide +kernel
theorem dX5_figureOf_45 : decode cX5_figureOf 45 = .ok (.ireturn, 1) := by decide +kernel
set_option maxRecDepth 20000 in
theorem ggX5_canSum_X5_numberNow : GoodIn wsX5_canSum wsX5_numberNow := goodIn_r _ [7, 1, 8, 9, 10, 11, 12, 13, 14, 15, 16] (by decide +kernel) (by decide +kernel)
set_option maxRecDepth 20000 in
theorem gX5_canSum_X5_numberNow : GoodIn wsX5_canSum (wsV RX5 45 RX5 yX5_numberNow wsX5_numberNow) := goodIn_app (goodIn_of _ (by decide +kernel)) ggX5_canSum_X5_numberNow
theorem dX5_canSum_0 : decode cX5_canSum 0 = .ok (.aload_n 0, 1) := by decide +kernel
theorem dX5_canSum_1 : decode cX5_canSum 1 = .ok (.getfield 27, 3) := by decide +kernel
theorem dX5_canSum_4 : decode cX5_canSum 4 = .ok (.ifCond .le 20, 3) := by decide +kernel
theorem dX5_canSum_7 : decode cX5_canSum 7 = .ok (.iload_n 1, 1) := by decide +kernel
theorem dX5_canSum_8 : decode cX5_canSum 8 = .ok (.aload_n 0, 1) := by decide +kernel
theorem dX5_canSum_9 : decode cX5_canSum 9 = .ok (.getfield 31, 3) := by decide +kernel
theorem dX5_canSum_12 : decode cX5_canSum 12 = .ok (.aload_n 0, 1) := by decide +kernel
theorem dX5_canSum_13 : decode cX5_canSum 13 = .ok (.invokevirtual 45, 3) := by decide +kernel
theorem dX5_canSum_16 : decode cX5_canSum 16 = .ok (.isub, 1) := by decide +kernel
theorem dX5_canSum_17 : decode cX5_canSum 17 = .ok (.if_icmp .gt 7, 3) := by decide +kernel
theorem dX5_canSum_20 : decode cX5_canSum 20 = .ok (.iconst 1, 1) := by decide +kernel
theorem dX5_canSum_21 : decode cX5_canSum 21 = .ok (.goto 4, 3) := by decide +kernel
theorem dX5_canSum_24 : decode cX5_canSum 24 = .ok (.iconst 0, 1) := by decide +kernel
theorem dX5_canSum_25 : decode cX5_canSum 25 = .ok (.ireturn, 1) := by decide +kernel
set_option maxRecDepth 20000 in
theorem ggX5_canTake_X5_numberNow : GoodIn wsX5_canTake wsX5_numberNow := goodIn_r _ [6, 1, 7, 8, 9, 10, 11, 12, 13, 14, 15] (by decide +kernel) (by decide +kernel)
set_option maxRecDepth 20000 in
theorem gX5_canTake_X5_numberNow : GoodIn wsX5_canTake (wsV RX5 45 RX5 yX5_numberNow wsX5_numberNow) := goodIn_app (goodIn_of _ (by decide +kernel)) ggX5_canTake_X5_numberNow
theorem dX5_canTake_0 : decode cX5_canTake 0 = .ok (.aload_n 0, 1) := by decide +kernel
theorem dX5_canTake_1 : decode cX5_canTake 1 = .ok (.getfield 27, 3) := by decide +kernel
theorem dX5_canTake_4 : decode cX5_canTake 4 = .ok (.ifCond .le 15, 3) := by decide +kernel
theorem dX5_canTake_7 : decode cX5_canTake 7 = .ok (.iload_n 1, 1) := by decide +kernel
theorem dX5_canTake_8 : decode cX5_canTake 8 = .ok (.aload_n 0, 1) := by decide +kernel
theorem dX5_canTake_9 : decode cX5_canTake 9 = .ok (.invokevirtual 45, 3) := by decide +kernel
theorem dX5_canTake_12 : decode cX5_canTake 12 = .ok (.if_icmp .gt 7, 3) := by decide +kernel
theorem dX5_canTake_15 : decode cX5_canTake 15 = .ok (.iconst 1, 1) := by decide +kernel
theorem dX5_canTake_16 : decode cX5_canTake 16 = .ok (.goto 4, 3) := by decide +kernel
theorem dX5_canTake_19 : decode cX5_canTake 19 = .ok (.iconst 0, 1) := by decide +kernel
theorem dX5_canTake_20 : decode cX5_canTake 20 = .ok (.ireturn, 1) := by decide +kernel
set_option maxRecDepth 20000 in
theorem ggX5_slidBetween_X5_figureOf : GoodIn wsX5_slidBetween wsX5_figureOf := goodIn_r _ [10, 11, 12, 13, 14, 15, 9, 16, 1, 17, 18, 19, 20, 21, 22, 23] (by decide +kernel) (by decide +kernel)
set_option maxRecDepth 20000 in
theorem gX5_slidBetween_X5_figureOf : GoodIn wsX5_slidBetween (wsV RX5 49 RX5 yX5_figureOf wsX5_figureOf) := goodIn_app (goodIn_of _ (by decide +kernel)) ggX5_slidBetween_X5_figureOf
theorem dX5_slidBetween_0 : decode cX5_slidBetween 0 = .ok (.iconst 0, 1) := by decide +kernel
theorem dX5_slidBetween_1 : decode cX5_slidBetween 1 = .ok (.istore_n 3, 1) := by decide +kernel
theorem dX5_slidBetween_2 : decode cX5_slidBetween 2 = .ok (.iconst 0, 1) := by decide +kernel
theorem dX5_slidBetween_3 : decode cX5_slidBetween 3 = .ok (.istore 4, 2) := by decide +kernel
theorem dX5_slidBetween_5 : decode cX5_slidBetween 5 = .ok (.iload 4, 2) := by decide +kernel
theorem dX5_slidBetween_7 : decode cX5_slidBetween 7 = .ok (.aload_n 0, 1) := by decide +kernel
theorem dX5_slidBetween_8 : decode cX5_slidBetween 8 = .ok (.getfield 27, 3) := by decide +kernel
theorem dX5_slidBetween_11 : decode cX5_slidBetween 11 = .ok (.if_icmp .ge 30, 3) := by decide +kernel
theorem dX5_slidBetween_14 : decode cX5_slidBetween 14 = .ok (.iload_n 3, 1) := by decide +kernel
theorem dX5_slidBetween_15 : decode cX5_slidBetween 15 = .ok (.aload_n 0, 1) := by decide +kernel
theorem dX5_slidBetween_16 : decode cX5_slidBetween 16 = .ok (.iload 4, 2) := by decide +kernel
theorem dX5_slidBetween_18 : decode cX5_slidBetween 18 = .ok (.iload_n 2, 1) := by decide +kernel
theorem dX5_slidBetween_19 : decode cX5_slidBetween 19 = .ok (.invokevirtual 49, 3) := by decide +kernel
theorem dX5_slidBetween_22 : decode cX5_slidBetween 22 = .ok (.aload_n 0, 1) := by decide +kernel
theorem dX5_slidBetween_23 : decode cX5_slidBetween 23 = .ok (.iload 4, 2) := by decide +kernel
theorem dX5_slidBetween_25 : decode cX5_slidBetween 25 = .ok (.iload_n 1, 1) := by decide +kernel
theorem dX5_slidBetween_26 : decode cX5_slidBetween 26 = .ok (.invokevirtual 49, 3) := by decide +kernel
theorem dX5_slidBetween_29 : decode cX5_slidBetween 29 = .ok (.isub, 1) := by decide +kernel
theorem dX5_slidBetween_30 : decode cX5_slidBetween 30 = .ok (.invokestatic 52, 3) := by decide +kernel
theorem dX5_slidBetween_33 : decode cX5_slidBetween 33 = .ok (.iadd, 1) := by decide +kernel
theorem dX5_slidBetween_34 : decode cX5_slidBetween 34 = .ok (.istore_n 3, 1) := by decide +kernel
theorem dX5_slidBetween_35 : decode cX5_slidBetween 35 = .ok (.iinc 4 1, 3) := by decide +kernel
theorem dX5_slidBetween_38 : decode cX5_slidBetween 38 = .ok (.goto (-33), 3) := by decide +kernel
theorem dX5_slidBetween_41 : decode cX5_slidBetween 41 = .ok (.iload_n 3, 1) := by decide +kernel
theorem dX5_slidBetween_42 : decode cX5_slidBetween 42 = .ok (.ireturn, 1) := by decide +kernel
set_option maxRecDepth 20000 in
theorem ggX5_carriedBy_X5_figureOf : GoodIn wsX5_carriedBy wsX5_figureOf := goodIn_r _ [7, 8, 2, 9, 10, 11, 6, 12, 1, 13, 14, 15, 16, 17, 18, 19] (by decide +kernel) (by decide +kernel)
set_option maxRecDepth 20000 in
theorem gX5_carriedBy_X5_figureOf : GoodIn wsX5_carriedBy (wsV RX5 49 RX5 yX5_figureOf wsX5_figureOf) := goodIn_app (goodIn_of _ (by decide +kernel)) ggX5_carriedBy_X5_figureOf
theorem dX5_carriedBy_0 : decode cX5_carriedBy 0 = .ok (.iconst 0, 1) := by decide +kernel
theorem dX5_carriedBy_1 : decode cX5_carriedBy 1 = .ok (.istore_n 3, 1) := by decide +kernel
theorem dX5_carriedBy_2 : decode cX5_carriedBy 2 = .ok (.iconst 0, 1) := by decide +kernel
theorem dX5_carriedBy_3 : decode cX5_carriedBy 3 = .ok (.istore 4, 2) := by decide +kernel
theorem dX5_carriedBy_5 : decode cX5_carriedBy 5 = .ok (.iconst 0, 1) := by decide +kernel
theorem dX5_carriedBy_6 : decode cX5_carriedBy 6 = .ok (.istore 5, 2) := by decide +kernel
theorem dX5_carriedBy_8 : decode cX5_carriedBy 8 = .ok (.iload 5, 2) := by decide +kernel
theorem dX5_carriedBy_10 : decode cX5_carriedBy 10 = .ok (.aload_n 0, 1) := by decide +kernel
theorem dX5_carriedBy_11 : decode cX5_carriedBy 11 = .ok (.getfield 27, 3) := by decide +kernel
theorem dX5_carriedBy_14 : decode cX5_carriedBy 14 = .ok (.if_icmp .ge 49, 3) := by decide +kernel
theorem dX5_carriedBy_17 : decode cX5_carriedBy 17 = .ok (.aload_n 0, 1) := by decide +kernel
theorem dX5_carriedBy_18 : decode cX5_carriedBy 18 = .ok (.iload 5, 2) := by decide +kernel
theorem dX5_carriedBy_20 : decode cX5_carriedBy 20 = .ok (.iload_n 1, 1) := by decide +kernel
theorem dX5_carriedBy_21 : decode cX5_carriedBy 21 = .ok (.invokevirtual 49, 3) := by decide +kernel
theorem dX5_carriedBy_24 : decode cX5_carriedBy 24 = .ok (.aload_n 0, 1) := by decide +kernel
theorem dX5_carriedBy_25 : decode cX5_carriedBy 25 = .ok (.iload 5, 2) := by decide +kernel
theorem dX5_carriedBy_27 : decode cX5_carriedBy 27 = .ok (.iload_n 2, 1) := by decide +kernel
theorem dX5_carriedBy_28 : decode cX5_carriedBy 28 = .ok (.invokevirtual 49, 3) := by decide +kernel
theorem dX5_carriedBy_31 : decode cX5_carriedBy 31 = .ok (.iadd, 1) := by decide +kernel
theorem dX5_carriedBy_32 : decode cX5_carriedBy 32 = .ok (.iload 4, 2) := by decide +kernel
theorem dX5_carriedBy_34 : decode cX5_carriedBy 34 = .ok (.iadd, 1) := by decide +kernel
theorem dX5_carriedBy_35 : decode cX5_carriedBy 35 = .ok (.aload_n 0, 1) := by decide +kernel
theorem dX5_carriedBy_36 : decode cX5_carriedBy 36 = .ok (.getfield 21, 3) := by decide +kernel
theorem dX5_carriedBy_39 : decode cX5_carriedBy 39 = .ok (.iload 5, 2) := by decide +kernel
theorem dX5_carriedBy_41 : decode cX5_carriedBy 41 = .ok (.iaload, 1) := by decide +kernel
theorem dX5_carriedBy_42 : decode cX5_carriedBy 42 = .ok (.if_icmp .le 7, 3) := by decide +kernel
theorem dX5_carriedBy_45 : decode cX5_carriedBy 45 = .ok (.iconst 1, 1) := by decide +kernel
theorem dX5_carriedBy_46 : decode cX5_carriedBy 46 = .ok (.goto 4, 3) := by decide +kernel
theorem dX5_carriedBy_49 : decode cX5_carriedBy 49 = .ok (.iconst 0, 1) := by decide +kernel
theorem dX5_carriedBy_50 : decode cX5_carriedBy 50 = .ok (.istore 4, 2) := by decide +kernel
theorem dX5_carriedBy_52 : decode cX5_carriedBy 52 = .ok (.iload_n 3, 1) := by decide +kernel
theorem dX5_carriedBy_53 : decode cX5_carriedBy 53 = .ok (.iload 4, 2) := by decide +kernel
theorem dX5_carriedBy_55 : decode cX5_carriedBy 55 = .ok (.iadd, 1) := by decide +kernel
theorem dX5_carriedBy_56 : decode cX5_carriedBy 56 = .ok (.istore_n 3, 1) := by decide +kernel
theorem dX5_carriedBy_57 : decode cX5_carriedBy 57 = .ok (.iinc 5 1, 3) := by decide +kernel
theorem dX5_carriedBy_60 : decode cX5_carriedBy 60 = .ok (.goto (-52), 3) := by decide +kernel
theorem dX5_carriedBy_63 : decode cX5_carriedBy 63 = .ok (.iload_n 3, 1) := by decide +kernel
theorem dX5_carriedBy_64 : decode cX5_carriedBy 64 = .ok (.ireturn, 1) := by decide +kernel
set_option maxRecDepth 20000 in
theorem ggX5_moveTo_X5_numberNow : GoodIn wsX5_moveTo wsX5_numberNow := goodIn_r _ [7, 1, 2, 8, 26, 27, 28, 29, 30, 31, 32] (by decide +kernel) (by decide +kernel)
set_option maxRecDepth 20000 in
theorem gX5_moveTo_X5_numberNow : GoodIn wsX5_moveTo (wsV RX5 45 RX5 yX5_numberNow wsX5_numberNow) := goodIn_app (goodIn_of _ (by decide +kernel)) ggX5_moveTo_X5_numberNow
set_option maxRecDepth 20000 in
theorem ggX5_moveTo_X5_slidBetween : GoodIn wsX5_moveTo wsX5_slidBetween := goodIn_r _ [12, 1, 13, 14, 15, 16, 17, 18, 19, 6, 20, 8, 21, 22, 23, 24, 25, 26, 27, 28, 29, 30, 31, 32] (by decide +kernel) (by decide +kernel)
set_option maxRecDepth 20000 in
theorem gX5_moveTo_X5_slidBetween : GoodIn wsX5_moveTo (wsV RX5 58 RX5 yX5_slidBetween wsX5_slidBetween) := goodIn_app (goodIn_of _ (by decide +kernel)) ggX5_moveTo_X5_slidBetween
set_option maxRecDepth 20000 in
theorem ggX5_moveTo_X5_figureOf : GoodIn wsX5_moveTo wsX5_figureOf := goodIn_r _ [20, 8, 21, 22, 23, 24, 6, 25, 1, 26, 27, 28, 29, 30, 31, 32] (by decide +kernel) (by decide +kernel)
set_option maxRecDepth 20000 in
theorem gX5_moveTo_X5_figureOf : GoodIn wsX5_moveTo (wsV RX5 49 RX5 yX5_figureOf wsX5_figureOf) := goodIn_app (goodIn_of _ (by decide +kernel)) ggX5_moveTo_X5_figureOf
theorem dX5_moveTo_0 : decode cX5_moveTo 0 = .ok (.aload_n 0, 1) := by decide +kernel
theorem dX5_moveTo_1 : decode cX5_moveTo 1 = .ok (.aload_n 0, 1) := by decide +kernel
theorem dX5_moveTo_2 : decode cX5_moveTo 2 = .ok (.invokevirtual 45, 3) := by decide +kernel
theorem dX5_moveTo_5 : decode cX5_moveTo 5 = .ok (.iload_n 1, 1) := by decide +kernel
theorem dX5_moveTo_6 : decode cX5_moveTo 6 = .ok (.invokevirtual 58, 3) := by decide +kernel
theorem dX5_moveTo_9 : decode cX5_moveTo 9 = .ok (.istore_n 2, 1) := by decide +kernel
theorem dX5_moveTo_10 : decode cX5_moveTo 10 = .ok (.iconst 0, 1) := by decide +kernel
theorem dX5_moveTo_11 : decode cX5_moveTo 11 = .ok (.istore_n 3, 1) := by decide +kernel
theorem dX5_moveTo_12 : decode cX5_moveTo 12 = .ok (.iload_n 3, 1) := by decide +kernel
theorem dX5_moveTo_13 : decode cX5_moveTo 13 = .ok (.aload_n 0, 1) := by decide +kernel
theorem dX5_moveTo_14 : decode cX5_moveTo 14 = .ok (.getfield 27, 3) := by decide +kernel
theorem dX5_moveTo_17 : decode cX5_moveTo 17 = .ok (.if_icmp .ge 21, 3) := by decide +kernel
theorem dX5_moveTo_20 : decode cX5_moveTo 20 = .ok (.aload_n 0, 1) := by decide +kernel
theorem dX5_moveTo_21 : decode cX5_moveTo 21 = .ok (.getfield 18, 3) := by decide +kernel
theorem dX5_moveTo_24 : decode cX5_moveTo 24 = .ok (.iload_n 3, 1) := by decide +kernel
theorem dX5_moveTo_25 : decode cX5_moveTo 25 = .ok (.aload_n 0, 1) := by decide +kernel
theorem dX5_moveTo_26 : decode cX5_moveTo 26 = .ok (.iload_n 3, 1) := by decide +kernel
theorem dX5_moveTo_27 : decode cX5_moveTo 27 = .ok (.iload_n 1, 1) := by decide +kernel
theorem dX5_moveTo_28 : decode cX5_moveTo 28 = .ok (.invokevirtual 49, 3) := by decide +kernel
theorem dX5_moveTo_31 : decode cX5_moveTo 31 = .ok (.iastore, 1) := by decide +kernel
theorem dX5_moveTo_32 : decode cX5_moveTo 32 = .ok (.iinc 3 1, 3) := by decide +kernel
theorem dX5_moveTo_35 : decode cX5_moveTo 35 = .ok (.goto (-23), 3) := by decide +kernel
theorem dX5_moveTo_38 : decode cX5_moveTo 38 = .ok (.iload_n 2, 1) := by decide +kernel
theorem dX5_moveTo_39 : decode cX5_moveTo 39 = .ok (.ireturn, 1) := by decide +kernel
