set_option maxRecDepth 20000 in
theorem ggX6_init_X5_init : GoodIn wsX6_init wsX5_init := goodIn_r _ [36, 37, 2, 3, 27, 38, 39, 40, 41, 42, 43, 44, 77, 78, 79, 80, 81, 82, 83] (by decide +kernel) (by decide +kernel)
set_option maxRecDepth 20000 in
theorem gX6_init_X5_init_n11 : GoodIn wsX6_init (wsX5_init) := ggX6_init_X5_init
set_option maxRecDepth 20000 in
theorem ggX6_init_X4_init : GoodIn wsX6_init wsX4_init := goodIn_r _ [46, 47, 2, 3, 48, 5, 6, 49, 35, 36, 37, 27, 38, 39, 40, 41, 42, 43, 44, 77, 78, 79, 80, 81, 82, 83, 95] (by decide +kernel) (by decide +kernel)
set_option maxRecDepth 20000 in
theorem gX6_init_X4_init_n29 : GoodIn wsX6_init (wsX4_init) := ggX6_init_X4_init
set_option maxRecDepth 20000 in
theorem ggX6_init_X0_init : GoodIn wsX6_init wsX0_init := goodIn_r _ [51, 52, 2, 3, 53, 54, 55, 56, 96, 97, 98, 99] (by decide +kernel) (by decide +kernel)
set_option maxRecDepth 20000 in
theorem gX6_init_X0_init_n36 : GoodIn wsX6_init (wsX0_init) := ggX6_init_X0_init
set_option maxRecDepth 20000 in
theorem ggX6_init_X1_init : GoodIn wsX6_init wsX1_init := goodIn_r _ [58, 59, 2, 3, 27, 60, 61, 62, 100, 101, 102] (by decide +kernel) (by decide +kernel)
set_option maxRecDepth 20000 in
theorem gX6_init_X1_init_n43 : GoodIn wsX6_init (wsX1_init) := ggX6_init_X1_init
set_option maxRecDepth 20000 in
theorem ggX6_init_X2_init : GoodIn wsX6_init wsX2_init := goodIn_r _ [64, 65, 2, 3, 27, 66, 67, 68, 69, 103, 104, 105, 106] (by decide +kernel) (by decide +kernel)
set_option maxRecDepth 20000 in
theorem gX6_init_X2_init_n50 : GoodIn wsX6_init (wsX2_init) := ggX6_init_X2_init
set_option maxRecDepth 20000 in
theorem ggX6_init_X3_init : GoodIn wsX6_init wsX3_init := goodIn_r _ [71, 72, 2, 3, 27, 73, 74, 75, 76, 107, 108, 109, 110] (by decide +kernel) (by decide +kernel)
set_option maxRecDepth 20000 in
theorem gX6_init_X3_init_n70 : GoodIn wsX6_init (wsX3_init) := ggX6_init_X3_init
theorem dX6_init_0 : decode cX6_init 0 = .ok (.aload_n 0, 1) := by decide +kernel
theorem dX6_init_1 : decode cX6_init 1 = .ok (.invokespecial 3, 3) := by decide +kernel
theorem dX6_init_4 : decode cX6_init 4 = .ok (.aload_n 0, 1) := by decide +kernel
theorem dX6_init_5 : decode cX6_init 5 = .ok (.new 9, 3) := by decide +kernel
theorem dX6_init_8 : decode cX6_init 8 = .ok (.dup, 1) := by decide +kernel
theorem dX6_init_9 : decode cX6_init 9 = .ok (.invokespecial 11, 3) := by decide +kernel
theorem dX6_init_12 : decode cX6_init 12 = .ok (.putfield 12, 3) := by decide +kernel
theorem dX6_init_15 : decode cX6_init 15 = .ok (.aload_n 0, 1) := by decide +kernel
theorem dX6_init_16 : decode cX6_init 16 = .ok (.new 9, 3) := by decide +kernel
theorem dX6_init_19 : decode cX6_init 19 = .ok (.dup, 1) := by decide +kernel
theorem dX6_init_20 : decode cX6_init 20 = .ok (.invokespecial 11, 3) := by decide +kernel
theorem dX6_init_23 : decode cX6_init 23 = .ok (.putfield 18, 3) := by decide +kernel
theorem dX6_init_26 : decode cX6_init 26 = .ok (.aload_n 0, 1) := by decide +kernel
theorem dX6_init_27 : decode cX6_init 27 = .ok (.iconst 4, 1) := by decide +kernel
theorem dX6_init_28 : decode cX6_init 28 = .ok (.anewarray 21, 3) := by decide +kernel
theorem dX6_init_31 : decode cX6_init 31 = .ok (.putfield 23, 3) := by decide +kernel
theorem dX6_init_34 : decode cX6_init 34 = .ok (.aload_n 0, 1) := by decide +kernel
theorem dX6_init_35 : decode cX6_init 35 = .ok (.new 27, 3) := by decide +kernel
theorem dX6_init_38 : decode cX6_init 38 = .ok (.dup, 1) := by decide +kernel
theorem dX6_init_39 : decode cX6_init 39 = .ok (.invokespecial 29, 3) := by decide +kernel
theorem dX6_init_42 : decode cX6_init 42 = .ok (.putfield 30, 3) := by decide +kernel
theorem dX6_init_45 : decode cX6_init 45 = .ok (.aload_n 0, 1) := by decide +kernel
theorem dX6_init_46 : decode cX6_init 46 = .ok (.new 34, 3) := by decide +kernel
theorem dX6_init_49 : decode cX6_init 49 = .ok (.dup, 1) := by decide +kernel
theorem dX6_init_50 : decode cX6_init 50 = .ok (.invokespecial 36, 3) := by decide +kernel
theorem dX6_init_53 : decode cX6_init 53 = .ok (.putfield 37, 3) := by decide +kernel
theorem dX6_init_56 : decode cX6_init 56 = .ok (.aload_n 0, 1) := by decide +kernel
theorem dX6_init_57 : decode cX6_init 57 = .ok (.new 41, 3) := by decide +kernel
theorem dX6_init_60 : decode cX6_init 60 = .ok (.dup, 1) := by decide +kernel
theorem dX6_init_61 : decode cX6_init 61 = .ok (.invokespecial 43, 3) := by decide +kernel
theorem dX6_init_64 : decode cX6_init 64 = .ok (.putfield 44, 3) := by decide +kernel
theorem dX6_init_67 : decode cX6_init 67 = .ok (.aload_n 0, 1) := by decide +kernel
theorem dX6_init_68 : decode cX6_init 68 = .ok (.new 48, 3) := by decide +kernel
theorem dX6_init_71 : decode cX6_init 71 = .ok (.dup, 1) := by decide +kernel
theorem dX6_init_72 : decode cX6_init 72 = .ok (.invokespecial 50, 3) := by decide +kernel
theorem dX6_init_75 : decode cX6_init 75 = .ok (.putfield 51, 3) := by decide +kernel
theorem dX6_init_78 : decode cX6_init 78 = .ok (.aload_n 0, 1) := by decide +kernel
theorem dX6_init_79 : decode cX6_init 79 = .ok (.sipush 1000, 3) := by decide +kernel
theorem dX6_init_82 : decode cX6_init 82 = .ok (.newarray .int, 2) := by decide +kernel
theorem dX6_init_84 : decode cX6_init 84 = .ok (.putfield 55, 3) := by decide +kernel
theorem dX6_init_87 : decode cX6_init 87 = .ok (.aload_n 0, 1) := by decide +kernel
theorem dX6_init_88 : decode cX6_init 88 = .ok (.bipush 109, 2) := by decide +kernel
theorem dX6_init_90 : decode cX6_init 90 = .ok (.newarray .long, 2) := by decide +kernel
theorem dX6_init_92 : decode cX6_init 92 = .ok (.putfield 59, 3) := by decide +kernel
theorem dX6_init_95 : decode cX6_init 95 = .ok (.aload_n 0, 1) := by decide +kernel
theorem dX6_init_96 : decode cX6_init 96 = .ok (.iconst 0, 1) := by decide +kernel
theorem dX6_init_97 : decode cX6_init 97 = .ok (.putfield 63, 3) := by decide +kernel
theorem dX6_init_100 : decode cX6_init 100 = .ok (.aload_n 0, 1) := by decide +kernel
theorem dX6_init_101 : decode cX6_init 101 = .ok (.iconst 0, 1) := by decide +kernel
theorem dX6_init_102 : decode cX6_init 102 = .ok (.putfield 67, 3) := by decide +kernel
theorem dX6_init_105 : decode cX6_init 105 = .ok (.iconst 0, 1) := by decide +kernel
theorem dX6_init_106 : decode cX6_init 106 = .ok (.istore_n 1, 1) := by decide +kernel
theorem dX6_init_107 : decode cX6_init 107 = .ok (.iload_n 1, 1) := by decide +kernel
theorem dX6_init_108 : decode cX6_init 108 = .ok (.iconst 4, 1) := by decide +kernel
theorem dX6_init_109 : decode cX6_init 109 = .ok (.if_icmp .ge 22, 3) := by decide +kernel
theorem dX6_init_112 : decode cX6_init 112 = .ok (.aload_n 0, 1) := by decide +kernel
theorem dX6_init_113 : decode cX6_init 113 = .ok (.getfield 23, 3) := by decide +kernel
theorem dX6_init_116 : decode cX6_init 116 = .ok (.iload_n 1, 1) := by decide +kernel
theorem dX6_init_117 : decode cX6_init 117 = .ok (.new 21, 3) := by decide +kernel
theorem dX6_init_120 : decode cX6_init 120 = .ok (.dup, 1) := by decide +kernel
theorem dX6_init_121 : decode cX6_init 121 = .ok (.invokespecial 70, 3) := by decide +kernel
theorem dX6_init_124 : decode cX6_init 124 = .ok (.aastore, 1) := by decide +kernel
theorem dX6_init_125 : decode cX6_init 125 = .ok (.iinc 1 1, 3) := by decide +kernel
theorem dX6_init_128 : decode cX6_init 128 = .ok (.goto (-21), 3) := by decide +kernel
theorem dX6_init_131 : decode cX6_init 131 = .ok (.return_, 1) := by decide +kernel
set_option maxRecDepth 20000 in
theorem ggX6_frame_X6_rowTrouble : GoodIn wsX6_frame wsX6_rowTrouble := goodIn_r _ [12, 13, 2, 14, 15, 16, 17, 11, 18, 19, 20, 21, 22, 23, 24, 25, 26, 27, 28, 29, 30, 31, 72, 73, 74, 75, 76, 77, 78, 79, 80, 81, 82, 95, 96, 97, 98] (by decide +kernel) (by decide +kernel)
set_option maxRecDepth 20000 in
theorem gX6_frame_X6_rowTrouble : GoodIn wsX6_frame (wsV RX6 71 RX6 yX6_rowTrouble wsX6_rowTrouble) := goodIn_app (goodIn_of _ (by decide +kernel)) ggX6_frame_X6_rowTrouble
set_option maxRecDepth 20000 in
theorem ggX6_frame_X4_firstFault : GoodIn wsX6_frame wsX4_firstFault := goodIn_r _ [36, 37, 38, 39, 40, 41, 29, 42, 31, 43, 44, 45, 46, 35, 47, 48, 49, 50, 51, 52, 53, 54, 11, 55, 83, 88, 89, 90, 91, 92, 93, 94, 95, 96, 97, 98] (by decide +kernel) (by decide +kernel)
set_option maxRecDepth 20000 in
theorem gX6_frame_X4_firstFault : GoodIn wsX6_frame (wsV RX6 75 RX4 yX4_firstFault wsX4_firstFault) := goodIn_app (goodIn_of _ (by decide +kernel)) ggX6_frame_X4_firstFault
set_option maxRecDepth 20000 in
theorem ggX6_frame_X5_become : GoodIn wsX6_frame wsX5_become := goodIn_r _ [60, 61, 62, 63, 64, 65, 66, 67, 59, 68, 69, 70, 71, 54, 11, 55, 88, 89, 90, 91, 92, 93, 94] (by decide +kernel) (by decide +kernel)
set_option maxRecDepth 20000 in
theorem gX6_frame_X5_become : GoodIn wsX6_frame (wsV RX6 82 RX5 yX5_become wsX5_become) := goodIn_app (goodIn_of _ (by decide +kernel)) ggX6_frame_X5_become
theorem dX6_frame_0 : decode cX6_frame 0 = .ok (.aload_n 0, 1) := by decide +kernel
theorem dX6_frame_1 : decode cX6_frame 1 = .ok (.iload_n 1, 1) := by decide +kernel
theorem dX6_frame_2 : decode cX6_frame 2 = .ok (.iload_n 2, 1) := by decide +kernel
theorem dX6_frame_3 : decode cX6_frame 3 = .ok (.iload_n 3, 1) := by decide +kernel
theorem dX6_frame_4 : decode cX6_frame 4 = .ok (.iload 4, 2) := by decide +kernel
theorem dX6_frame_6 : decode cX6_frame 6 = .ok (.iconst 1, 1) := by decide +kernel
theorem dX6_frame_7 : decode cX6_frame 7 = .ok (.invokevirtual 71, 3) := by decide +kernel
theorem dX6_frame_10 : decode cX6_frame 10 = .ok (.istore 5, 2) := by decide +kernel
theorem dX6_frame_12 : decode cX6_frame 12 = .ok (.iload 5, 2) := by decide +kernel
theorem dX6_frame_14 : decode cX6_frame 14 = .ok (.ifCond .eq 6, 3) := by decide +kernel
theorem dX6_frame_17 : decode cX6_frame 17 = .ok (.iload 5, 2) := by decide +kernel
theorem dX6_frame_19 : decode cX6_frame 19 = .ok (.ireturn, 1) := by decide +kernel
theorem dX6_frame_20 : decode cX6_frame 20 = .ok (.aload_n 0, 1) := by decide +kernel
theorem dX6_frame_21 : decode cX6_frame 21 = .ok (.getfield 30, 3) := by decide +kernel
theorem dX6_frame_24 : decode cX6_frame 24 = .ok (.aload_n 0, 1) := by decide +kernel
theorem dX6_frame_25 : decode cX6_frame 25 = .ok (.getfield 23, 3) := by decide +kernel
theorem dX6_frame_28 : decode cX6_frame 28 = .ok (.iload_n 1, 1) := by decide +kernel
theorem dX6_frame_29 : decode cX6_frame 29 = .ok (.aaload, 1) := by decide +kernel
theorem dX6_frame_30 : decode cX6_frame 30 = .ok (.iload_n 3, 1) := by decide +kernel
theorem dX6_frame_31 : decode cX6_frame 31 = .ok (.iload 4, 2) := by decide +kernel
theorem dX6_frame_33 : decode cX6_frame 33 = .ok (.invokevirtual 75, 3) := by decide +kernel
theorem dX6_frame_36 : decode cX6_frame 36 = .ok (.istore 6, 2) := by decide +kernel
theorem dX6_frame_38 : decode cX6_frame 38 = .ok (.iload 6, 2) := by decide +kernel
theorem dX6_frame_40 : decode cX6_frame 40 = .ok (.bipush (-9), 2) := by decide +kernel
theorem dX6_frame_42 : decode cX6_frame 42 = .ok (.if_icmp .eq 9, 3) := by decide +kernel
theorem dX6_frame_45 : decode cX6_frame 45 = .ok (.bipush (-100), 2) := by decide +kernel
theorem dX6_frame_47 : decode cX6_frame 47 = .ok (.iload 6, 2) := by decide +kernel
theorem dX6_frame_49 : decode cX6_frame 49 = .ok (.isub, 1) := by decide +kernel
theorem dX6_frame_50 : decode cX6_frame 50 = .ok (.ireturn, 1) := by decide +kernel
theorem dX6_frame_51 : decode cX6_frame 51 = .ok (.aload_n 0, 1) := by decide +kernel
theorem dX6_frame_52 : decode cX6_frame 52 = .ok (.getfield 12, 3) := by decide +kernel
theorem dX6_frame_55 : decode cX6_frame 55 = .ok (.aload_n 0, 1) := by decide +kernel
theorem dX6_frame_56 : decode cX6_frame 56 = .ok (.getfield 30, 3) := by decide +kernel
theorem dX6_frame_59 : decode cX6_frame 59 = .ok (.getfield 79, 3) := by decide +kernel
theorem dX6_frame_62 : decode cX6_frame 62 = .ok (.invokevirtual 82, 3) := by decide +kernel
theorem dX6_frame_65 : decode cX6_frame 65 = .ok (.aload_n 0, 1) := by decide +kernel
theorem dX6_frame_66 : decode cX6_frame 66 = .ok (.getfield 51, 3) := by decide +kernel
theorem dX6_frame_69 : decode cX6_frame 69 = .ok (.iconst 0, 1) := by decide +kernel
theorem dX6_frame_70 : decode cX6_frame 70 = .ok (.putfield 86, 3) := by decide +kernel
theorem dX6_frame_73 : decode cX6_frame 73 = .ok (.aload_n 0, 1) := by decide +kernel
theorem dX6_frame_74 : decode cX6_frame 74 = .ok (.getfield 12, 3) := by decide +kernel
theorem dX6_frame_77 : decode cX6_frame 77 = .ok (.getfield 89, 3) := by decide +kernel
theorem dX6_frame_80 : decode cX6_frame 80 = .ok (.ireturn, 1) := by decide +kernel
set_option maxRecDepth 20000 in
theorem ggX6_ofWire_X5_has : GoodIn wsX6_ofWire wsX5_has := goodIn_r _ [11, 12, 24, 25, 26, 27, 28, 29, 30] (by decide +kernel) (by decide +kernel)
set_option maxRecDepth 20000 in
theorem gX6_ofWire_X5_has : GoodIn wsX6_ofWire (wsV RX6 90 RX5 yX5_has wsX5_has) := goodIn_app (goodIn_of _ (by decide +kernel)) ggX6_ofWire_X5_has
theorem dX6_ofWire_0 : decode cX6_ofWire 0 = .ok (.aload_n 0, 1) := by decide +kernel
theorem dX6_ofWire_1 : decode cX6_ofWire 1 = .ok (.getfield 12, 3) := by decide +kernel
theorem dX6_ofWire_4 : decode cX6_ofWire 4 = .ok (.iload_n 1, 1) := by decide +kernel
theorem dX6_ofWire_5 : decode cX6_ofWire 5 = .ok (.invokevirtual 90, 3) := by decide +kernel
theorem dX6_ofWire_8 : decode cX6_ofWire 8 = .ok (.ifCond .ne 5, 3) := by decide +kernel
theorem dX6_ofWire_11 : decode cX6_ofWire 11 = .ok (.iconst (-1), 1) := by decide +kernel
theorem dX6_ofWire_12 : decode cX6_ofWire 12 = .ok (.ireturn, 1) := by decide +kernel
theorem dX6_ofWire_13 : decode cX6_ofWire 13 = .ok (.iload_n 2, 1) := by decide +kernel
theorem dX6_ofWire_14 : decode cX6_ofWire 14 = .ok (.tableswitch 84 0 4 #[34, 44, 54, 64, 74], 34) := by decide +kernel
theorem dX6_ofWire_48 : decode cX6_ofWire 48 = .ok (.aload_n 0, 1) := by decide +kernel
theorem dX6_ofWire_49 : decode cX6_ofWire 49 = .ok (.getfield 12, 3) := by decide +kernel
theorem dX6_ofWire_52 : decode cX6_ofWire 52 = .ok (.getfield 94, 3) := by decide +kernel
theorem dX6_ofWire_55 : decode cX6_ofWire 55 = .ok (.iload_n 1, 1) := by decide +kernel
theorem dX6_ofWire_56 : decode cX6_ofWire 56 = .ok (.iaload, 1) := by decide +kernel
theorem dX6_ofWire_57 : decode cX6_ofWire 57 = .ok (.ireturn, 1) := by decide +kernel
theorem dX6_ofWire_58 : decode cX6_ofWire 58 = .ok (.aload_n 0, 1) := by decide +kernel
theorem dX6_ofWire_59 : decode cX6_ofWire 59 = .ok (.getfield 12, 3) := by decide +kernel
theorem dX6_ofWire_62 : decode cX6_ofWire 62 = .ok (.getfield 97, 3) := by decide +kernel
theorem dX6_ofWire_65 : decode cX6_ofWire 65 = .ok (.iload_n 1, 1) := by decide +kernel
theorem dX6_ofWire_66 : decode cX6_ofWire 66 = .ok (.iaload, 1) := by decide +kernel
theorem dX6_ofWire_67 : decode cX6_ofWire 67 = .ok (.ireturn, 1) := by decide +kernel
theorem dX6_ofWire_68 : decode cX6_ofWire 68 = .ok (.aload_n 0, 1) := by decide +kernel
theorem dX6_ofWire_69 : decode cX6_ofWire 69 = .ok (.getfield 12, 3) := by decide +kernel
theorem dX6_ofWire_72 : decode cX6_ofWire 72 = .ok (.getfield 100, 3) := by decide +kernel
theorem dX6_ofWire_75 : decode cX6_ofWire 75 = .ok (.iload_n 1, 1) := by decide +kernel
theorem dX6_ofWire_76 : decode cX6_ofWire 76 = .ok (.iaload, 1) := by decide +kernel
theorem dX6_ofWire_77 : decode cX6_ofWire 77 = .ok (.ireturn, 1) := by decide +kernel
theorem dX6_ofWire_78 : decode cX6_ofWire 78 = .ok (.aload_n 0, 1) := by decide +kernel
theorem dX6_ofWire_79 : decode cX6_ofWire 79 = .ok (.getfield 12, 3) := by decide +kernel
theorem dX6_ofWire_82 : decode cX6_ofWire 82 = .ok (.getfield 103, 3) := by decide +kernel
theorem dX6_ofWire_85 : decode cX6_ofWire 85 = .ok (.iload_n 1, 1) := by decide +kernel
theorem dX6_ofWire_86 : decode cX6_ofWire 86 = .ok (.iaload, 1) := by decide +kernel
theorem dX6_ofWire_87 : decode cX6_ofWire 87 = .ok (.ireturn, 1) := by decide +kernel
theorem dX6_ofWire_88 : decode cX6_ofWire 88 = .ok (.aload_n 0, 1) := by decide +kernel
theorem dX6_ofWire_89 : decode cX6_ofWire 89 = .ok (.getfield 12, 3) := by decide +kernel
theorem dX6_ofWire_92 : decode cX6_ofWire 92 = .ok (.getfield 106, 3) := by decide +kernel
theorem dX6_ofWire_95 : decode cX6_ofWire 95 = .ok (.iload_n 1, 1) := by decide +kernel
theorem dX6_ofWire_96 : decode cX6_ofWire 96 = .ok (.iaload, 1) := by decide +kernel
theorem dX6_ofWire_97 : decode cX6_ofWire 97 = .ok (.ireturn, 1) := by decide +kernel
theorem dX6_ofWire_98 : decode cX6_ofWire 98 = .ok (.bipush (-2), 2) := by decide +kernel
theorem dX6_ofWire_100 : decode cX6_ofWire 100 = .ok (.ireturn, 1) := by decide +kernel
set_option maxRecDepth 20000 in
theorem ggX6_number_X5_numberNow : GoodIn wsX6_number wsX5_numberNow := goodIn_r _ [8, 9, 10, 11, 27, 28, 29, 30, 31, 32, 33] (by decide +kernel) (by decide +kernel)
set_option maxRecDepth 20000 in
theorem gX6_number_X5_numberNow : GoodIn wsX6_number (wsV RX6 109 RX5 yX5_numberNow wsX5_numberNow) := goodIn_app (goodIn_of _ (by decide +kernel)) ggX6_number_X5_numberNow
set_option maxRecDepth 20000 in
theorem ggX6_number_X5_pushedTogether : GoodIn wsX6_number wsX5_pushedTogether := goodIn_r _ [15, 9, 10, 27, 28, 29, 30, 31, 32, 33] (by decide +kernel) (by decide +kernel)
set_option maxRecDepth 20000 in
theorem gX6_number_X5_pushedTogether : GoodIn wsX6_number (wsV RX6 116 RX5 yX5_pushedTogether wsX5_pushedTogether) := goodIn_app (goodIn_of _ (by decide +kernel)) ggX6_number_X5_pushedTogether
theorem dX6_number_0 : decode cX6_number 0 = .ok (.iload_n 1, 1) := by decide +kernel
theorem dX6_number_1 : decode cX6_number 1 = .ok (.ifCond .lt 8, 3) := by decide +kernel
theorem dX6_number_4 : decode cX6_number 4 = .ok (.iload_n 1, 1) := by decide +kernel
theorem dX6_number_5 : decode cX6_number 5 = .ok (.iconst 2, 1) := by decide +kernel
theorem dX6_number_6 : decode cX6_number 6 = .ok (.if_icmp .le 6, 3) := by decide +kernel
theorem dX6_number_9 : decode cX6_number 9 = .ok (.bipush (-2), 2) := by decide +kernel
theorem dX6_number_11 : decode cX6_number 11 = .ok (.ireturn, 1) := by decide +kernel
theorem dX6_number_12 : decode cX6_number 12 = .ok (.aload_n 0, 1) := by decide +kernel
theorem dX6_number_13 : decode cX6_number 13 = .ok (.getfield 12, 3) := by decide +kernel
theorem dX6_number_16 : decode cX6_number 16 = .ok (.getfield 89, 3) := by decide +kernel
theorem dX6_number_19 : decode cX6_number 19 = .ok (.ifCond .ne 6, 3) := by decide +kernel
theorem dX6_number_22 : decode cX6_number 22 = .ok (.bipush (-3), 2) := by decide +kernel
theorem dX6_number_24 : decode cX6_number 24 = .ok (.ireturn, 1) := by decide +kernel
theorem dX6_number_25 : decode cX6_number 25 = .ok (.iload_n 1, 1) := by decide +kernel
theorem dX6_number_26 : decode cX6_number 26 = .ok (.ifCond .ne 11, 3) := by decide +kernel
theorem dX6_number_29 : decode cX6_number 29 = .ok (.aload_n 0, 1) := by decide +kernel
theorem dX6_number_30 : decode cX6_number 30 = .ok (.getfield 12, 3) := by decide +kernel
theorem dX6_number_33 : decode cX6_number 33 = .ok (.invokevirtual 109, 3) := by decide +kernel
theorem dX6_number_36 : decode cX6_number 36 = .ok (.ireturn, 1) := by decide +kernel
theorem dX6_number_37 : decode cX6_number 37 = .ok (.iload_n 1, 1) := by decide +kernel
theorem dX6_number_38 : decode cX6_number 38 = .ok (.iconst 1, 1) := by decide +kernel
theorem dX6_number_39 : decode cX6_number 39 = .ok (.if_icmp .ne 13, 3) := by decide +kernel
theorem dX6_number_42 : decode cX6_number 42 = .ok (.aload_n 0, 1) := by decide +kernel
theorem dX6_number_43 : decode cX6_number 43 = .ok (.getfield 12, 3) := by decide +kernel
theorem dX6_number_46 : decode cX6_number 46 = .ok (.getfield 113, 3) := by decide +kernel
theorem dX6_number_49 : decode cX6_number 49 = .ok (.goto 10, 3) := by decide +kernel
theorem dX6_number_52 : decode cX6_number 52 = .ok (.aload_n 0, 1) := by decide +kernel
theorem dX6_number_53 : decode cX6_number 53 = .ok (.getfield 12, 3) := by decide +kernel
theorem dX6_number_56 : decode cX6_number 56 = .ok (.invokevirtual 116, 3) := by decide +kernel
theorem dX6_number_59 : decode cX6_number 59 = .ok (.ireturn, 1) := by decide +kernel
set_option maxRecDepth 20000 in
theorem ggX6_figure_X5_has : GoodIn wsX6_figure wsX5_has := goodIn_r _ [7, 8, 27, 28, 29, 30, 31, 32, 33] (by decide +kernel) (by decide +kernel)
set_option maxRecDepth 20000 in
theorem gX6_figure_X5_has : GoodIn wsX6_figure (wsV RX6 90 RX5 yX5_has wsX5_has) := goodIn_app (goodIn_of _ (by decide +kernel)) ggX6_figure_X5_has
set_option maxRecDepth 20000 in
theorem ggX6_figure_X5_figureOf : GoodIn wsX6_figure wsX5_figureOf := goodIn_r _ [12, 13, 14, 15, 4, 5, 6, 7, 8, 27, 28, 29, 30, 31, 32, 33] (by decide +kernel) (by decide +kernel)
set_option maxRecDepth 20000 in
theorem gX6_figure_X5_figureOf : GoodIn wsX6_figure (wsV RX6 119 RX5 yX5_figureOf wsX5_figureOf) := goodIn_app (goodIn_of _ (by decide +kernel)) ggX6_figure_X5_figureOf
theorem dX6_figure_0 : decode cX6_figure 0 = .ok (.aload_n 0, 1) := by decide +kernel
theorem dX6_figure_1 : decode cX6_figure 1 = .ok (.getfield 12, 3) := by decide +kernel
theorem dX6_figure_4 : decode cX6_figure 4 = .ok (.iload_n 1, 1) := by decide +kernel
theorem dX6_figure_5 : decode cX6_figure 5 = .ok (.invokevirtual 90, 3) := by decide +kernel
theorem dX6_figure_8 : decode cX6_figure 8 = .ok (.ifCond .ne 5, 3) := by decide +kernel
theorem dX6_figure_11 : decode cX6_figure 11 = .ok (.iconst (-1), 1) := by decide +kernel
theorem dX6_figure_12 : decode cX6_figure 12 = .ok (.ireturn, 1) := by decide +kernel
theorem dX6_figure_13 : decode cX6_figure 13 = .ok (.iload_n 2, 1) := by decide +kernel
theorem dX6_figure_14 : decode cX6_figure 14 = .ok (.ifCond .lt 14, 3) := by decide +kernel
theorem dX6_figure_17 : decode cX6_figure 17 = .ok (.iload_n 2, 1) := by decide +kernel
theorem dX6_figure_18 : decode cX6_figure 18 = .ok (.aload_n 0, 1) := by decide +kernel
theorem dX6_figure_19 : decode cX6_figure 19 = .ok (.getfield 12, 3) := by decide +kernel
theorem dX6_figure_22 : decode cX6_figure 22 = .ok (.getfield 113, 3) := by decide +kernel
theorem dX6_figure_25 : decode cX6_figure 25 = .ok (.if_icmp .le 6, 3) := by decide +kernel
theorem dX6_figure_28 : decode cX6_figure 28 = .ok (.bipush (-2), 2) := by decide +kernel
theorem dX6_figure_30 : decode cX6_figure 30 = .ok (.ireturn, 1) := by decide +kernel
theorem dX6_figure_31 : decode cX6_figure 31 = .ok (.aload_n 0, 1) := by decide +kernel
theorem dX6_figure_32 : decode cX6_figure 32 = .ok (.getfield 12, 3) := by decide +kernel
theorem dX6_figure_35 : decode cX6_figure 35 = .ok (.iload_n 1, 1) := by decide +kernel
theorem dX6_figure_36 : decode cX6_figure 36 = .ok (.iload_n 2, 1) := by decide +kernel
theorem dX6_figure_37 : decode cX6_figure 37 = .ok (.invokevirtual 119, 3) := by decide +kernel
theorem dX6_figure_40 : decode cX6_figure 40 = .ok (.ireturn, 1) := by decide +kernel
set_option maxRecDepth 20000 in
theorem ggX6_slide_X5_has : GoodIn wsX6_slide wsX5_has := goodIn_r _ [8, 9, 21, 22, 23, 24, 25, 26, 27] (by decide +kernel) (by decide +kernel)
set_option maxRecDepth 20000 in
theorem gX6_slide_X5_has : GoodIn wsX6_slide (wsV RX6 90 RX5 yX5_has wsX5_has) := goodIn_app (goodIn_of _ (by decide +kernel)) ggX6_slide_X5_has
theorem dX6_slide_0 : decode cX6_slide 0 = .ok (.aload_n 0, 1) := by decide +kernel
theorem dX6_slide_1 : decode cX6_slide 1 = .ok (.getfield 12, 3) := by decide +kernel
theorem dX6_slide_4 : decode cX6_slide 4 = .ok (.iload_n 1, 1) := by decide +kernel
theorem dX6_slide_5 : decode cX6_slide 5 = .ok (.invokevirtual 90, 3) := by decide +kernel
theorem dX6_slide_8 : decode cX6_slide 8 = .ok (.ifCond .ne 5, 3) := by decide +kernel
theorem dX6_slide_11 : decode cX6_slide 11 = .ok (.iconst (-1), 1) := by decide +kernel
theorem dX6_slide_12 : decode cX6_slide 12 = .ok (.ireturn, 1) := by decide +kernel
theorem dX6_slide_13 : decode cX6_slide 13 = .ok (.iload_n 2, 1) := by decide +kernel
theorem dX6_slide_14 : decode cX6_slide 14 = .ok (.ifCond .lt 16, 3) := by decide +kernel
theorem dX6_slide_17 : decode cX6_slide 17 = .ok (.iload_n 2, 1) := by decide +kernel
theorem dX6_slide_18 : decode cX6_slide 18 = .ok (.aload_n 0, 1) := by decide +kernel
theorem dX6_slide_19 : decode cX6_slide 19 = .ok (.getfield 12, 3) := by decide +kernel
theorem dX6_slide_22 : decode cX6_slide 22 = .ok (.getfield 100, 3) := by decide +kernel
theorem dX6_slide_25 : decode cX6_slide 25 = .ok (.iload_n 1, 1) := by decide +kernel
theorem dX6_slide_26 : decode cX6_slide 26 = .ok (.iaload, 1) := by decide +kernel
theorem dX6_slide_27 : decode cX6_slide 27 = .ok (.if_icmp .le 6, 3) := by decide +kernel
theorem dX6_slide_30 : decode cX6_slide 30 = .ok (.bipush (-2), 2) := by decide +kernel
theorem dX6_slide_32 : decode cX6_slide 32 = .ok (.ireturn, 1) := by decide +kernel
theorem dX6_slide_33 : decode cX6_slide 33 = .ok (.aload_n 0, 1) := by decide +kernel
theorem dX6_slide_34 : decode cX6_slide 34 = .ok (.getfield 12, 3) := by decide +kernel
theorem dX6_slide_37 : decode cX6_slide 37 = .ok (.getfield 103, 3) := by decide +kernel
theorem dX6_slide_40 : decode cX6_slide 40 = .ok (.iload_n 1, 1) := by decide +kernel
theorem dX6_slide_41 : decode cX6_slide 41 = .ok (.iaload, 1) := by decide +kernel
theorem dX6_slide_42 : decode cX6_slide 42 = .ok (.istore_n 3, 1) := by decide +kernel
theorem dX6_slide_43 : decode cX6_slide 43 = .ok (.aload_n 0, 1) := by decide +kernel
theorem dX6_slide_44 : decode cX6_slide 44 = .ok (.getfield 12, 3) := by decide +kernel
theorem dX6_slide_47 : decode cX6_slide 47 = .ok (.getfield 103, 3) := by decide +kernel
theorem dX6_slide_50 : decode cX6_slide 50 = .ok (.iload_n 1, 1) := by decide +kernel
theorem dX6_slide_51 : decode cX6_slide 51 = .ok (.iload_n 2, 1) := by decide +kernel
theorem dX6_slide_52 : decode cX6_slide 52 = .ok (.iastore, 1) := by decide +kernel
theorem dX6_slide_53 : decode cX6_slide 53 = .ok (.iload_n 3, 1) := by decide +kernel
theorem dX6_slide_54 : decode cX6_slide 54 = .ok (.ireturn, 1) := by decide +kernel
set_option maxRecDepth 20000 in
theorem ggX6_add_X5_canSum : GoodIn wsX6_add wsX5_canSum := goodIn_r _ [6, 7, 8, 9, 10, 11, 5, 12, 13, 14, 48, 49, 50, 51, 52, 53, 54] (by decide +kernel) (by decide +kernel)
set_option maxRecDepth 20000 in
theorem gX6_add_X5_canSum : GoodIn wsX6_add (wsV RX6 123 RX5 yX5_canSum wsX5_canSum) := goodIn_app (goodIn_of _ (by decide +kernel)) ggX6_add_X5_canSum
set_option maxRecDepth 20000 in
theorem ggX6_add_X5_numberNow : GoodIn wsX6_add wsX5_numberNow := goodIn_r _ [12, 7, 13, 14, 48, 49, 50, 51, 52, 53, 54] (by decide +kernel) (by decide +kernel)
set_option maxRecDepth 20000 in
theorem gX6_add_X5_numberNow : GoodIn wsX6_add (wsV RX6 109 RX5 yX5_numberNow wsX5_numberNow) := goodIn_app (goodIn_of _ (by decide +kernel)) ggX6_add_X5_numberNow
set_option maxRecDepth 20000 in
theorem ggX6_add_X5_moveTo : GoodIn wsX6_add wsX5_moveTo := goodIn_r _ [19, 7, 13, 9, 10, 11, 5, 12, 14, 20, 21, 22, 23, 24, 25, 26, 27, 28, 29, 30, 31, 32, 33, 34, 35, 36, 48, 49, 50, 51, 52, 53, 54] (by decide +kernel) (by decide +kernel)
set_option maxRecDepth 20000 in
theorem gX6_add_X5_moveTo : GoodIn wsX6_add (wsV RX6 126 RX5 yX5_moveTo wsX5_moveTo) := goodIn_app (goodIn_of _ (by decide +kernel)) ggX6_add_X5_moveTo
theorem dX6_add_0 : decode cX6_add 0 = .ok (.iload_n 1, 1) := by decide +kernel
theorem dX6_add_1 : decode cX6_add 1 = .ok (.ifCond .ge 6, 3) := by decide +kernel
theorem dX6_add_4 : decode cX6_add 4 = .ok (.bipush (-2), 2) := by decide +kernel
theorem dX6_add_6 : decode cX6_add 6 = .ok (.ireturn, 1) := by decide +kernel
theorem dX6_add_7 : decode cX6_add 7 = .ok (.aload_n 0, 1) := by decide +kernel
theorem dX6_add_8 : decode cX6_add 8 = .ok (.getfield 12, 3) := by decide +kernel
theorem dX6_add_11 : decode cX6_add 11 = .ok (.iload_n 1, 1) := by decide +kernel
theorem dX6_add_12 : decode cX6_add 12 = .ok (.invokevirtual 123, 3) := by decide +kernel
theorem dX6_add_15 : decode cX6_add 15 = .ok (.ifCond .ne 6, 3) := by decide +kernel
theorem dX6_add_18 : decode cX6_add 18 = .ok (.bipush (-3), 2) := by decide +kernel
theorem dX6_add_20 : decode cX6_add 20 = .ok (.ireturn, 1) := by decide +kernel
theorem dX6_add_21 : decode cX6_add 21 = .ok (.aload_n 0, 1) := by decide +kernel
theorem dX6_add_22 : decode cX6_add 22 = .ok (.getfield 12, 3) := by decide +kernel
theorem dX6_add_25 : decode cX6_add 25 = .ok (.aload_n 0, 1) := by decide +kernel
theorem dX6_add_26 : decode cX6_add 26 = .ok (.getfield 12, 3) := by decide +kernel
theorem dX6_add_29 : decode cX6_add 29 = .ok (.invokevirtual 109, 3) := by decide +kernel
theorem dX6_add_32 : decode cX6_add 32 = .ok (.iload_n 1, 1) := by decide +kernel
theorem dX6_add_33 : decode cX6_add 33 = .ok (.iadd, 1) := by decide +kernel
theorem dX6_add_34 : decode cX6_add 34 = .ok (.invokevirtual 126, 3) := by decide +kernel
theorem dX6_add_37 : decode cX6_add 37 = .ok (.ireturn, 1) := by decide +kernel
set_option maxRecDepth 20000 in
theorem ggX6_take_X5_canTake : GoodIn wsX6_take wsX5_canTake := goodIn_r _ [6, 7, 8, 9, 10, 5, 11, 12, 13, 47, 48, 49, 50, 51, 52, 53] (by decide +kernel) (by decide +kernel)
set_option maxRecDepth 20000 in
theorem gX6_take_X5_canTake : GoodIn wsX6_take (wsV RX6 130 RX5 yX5_canTake wsX5_canTake) := goodIn_app (goodIn_of _ (by decide +kernel)) ggX6_take_X5_canTake
set_option maxRecDepth 20000 in
theorem ggX6_take_X5_numberNow : GoodIn wsX6_take wsX5_numberNow := goodIn_r _ [11, 7, 12, 13, 47, 48, 49, 50, 51, 52, 53] (by decide +kernel) (by decide +kernel)
set_option maxRecDepth 20000 in
theorem gX6_take_X5_numberNow : GoodIn wsX6_take (wsV RX6 109 RX5 yX5_numberNow wsX5_numberNow) := goodIn_app (goodIn_of _ (by decide +kernel)) ggX6_take_X5_numberNow
set_option maxRecDepth 20000 in
theorem ggX6_take_X5_moveTo : GoodIn wsX6_take wsX5_moveTo := goodIn_r _ [18, 7, 12, 8, 9, 10, 5, 11, 13, 19, 20, 21, 22, 23, 24, 25, 26, 27, 28, 29, 30, 31, 32, 33, 34, 35, 47, 48, 49, 50, 51, 52, 53] (by decide +kernel) (by decide +kernel)
set_option maxRecDepth 20000 in
theorem gX6_take_X5_moveTo : GoodIn wsX6_take (wsV RX6 126 RX5 yX5_moveTo wsX5_moveTo) := goodIn_app (goodIn_of _ (by decide +kernel)) ggX6_take_X5_moveTo
theorem dX6_take_0 : decode cX6_take 0 = .ok (.iload_n 1, 1) := by decide +kernel
theorem dX6_take_1 : decode cX6_take 1 = .ok (.ifCond .ge 6, 3) := by decide +kernel
theorem dX6_take_4 : decode cX6_take 4 = .ok (.bipush (-2), 2) := by decide +kernel
theorem dX6_take_6 : decode cX6_take 6 = .ok (.ireturn, 1) := by decide +kernel
theorem dX6_take_7 : decode cX6_take 7 = .ok (.aload_n 0, 1) := by decide +kernel
theorem dX6_take_8 : decode cX6_take 8 = .ok (.getfield 12, 3) := by decide +kernel
theorem dX6_take_11 : decode cX6_take 11 = .ok (.iload_n 1, 1) := by decide +kernel
theorem dX6_take_12 : decode cX6_take 12 = .ok (.invokevirtual 130, 3) := by decide +kernel
theorem dX6_take_15 : decode cX6_take 15 = .ok (.ifCond .ne 6, 3) := by decide +kernel
theorem dX6_take_18 : decode cX6_take 18 = .ok (.bipush (-3), 2) := by decide +kernel
theorem dX6_take_20 : decode cX6_take 20 = .ok (.ireturn, 1) := by decide +kernel
theorem dX6_take_21 : decode cX6_take 21 = .ok (.aload_n 0, 1) := by decide +kernel
theorem dX6_take_22 : decode cX6_take 22 = .ok (.getfield 12, 3) := by decide +kernel
theorem dX6_take_25 : decode cX6_take 25 = .ok (.aload_n 0, 1) := by decide +kernel
theorem dX6_take_26 : decode cX6_take 26 = .ok (.getfield 12, 3) := by decide +kernel
theorem dX6_take_29 : decode cX6_take 29 = .ok (.invokevirtual 109, 3) := by decide +kernel
theorem dX6_take_32 : decode cX6_take 32 = .ok (.iload_n 1, 1) := by decide +kernel
theorem dX6_take_33 : decode cX6_take 33 = .ok (.isub, 1) := by decide +kernel
theorem dX6_take_34 : decode cX6_take 34 = .ok (.invokevirtual 126, 3) := by decide +kernel
theorem dX6_take_37 : decode cX6_take 37 = .ok (.ireturn, 1) := by decide +kernel
set_option maxRecDepth 20000 in
theorem ggX6_work_X5_canSum : GoodIn wsX6_work wsX5_canSum := goodIn_r _ [6, 7, 8, 9, 10, 11, 5, 12, 13, 14, 48, 49, 50, 51, 52, 53, 54] (by decide +kernel) (by decide +kernel)
set_option maxRecDepth 20000 in
theorem gX6_work_X5_canSum : GoodIn wsX6_work (wsV RX6 123 RX5 yX5_canSum wsX5_canSum) := goodIn_app (goodIn_of _ (by decide +kernel)) ggX6_work_X5_canSum
set_option maxRecDepth 20000 in
theorem ggX6_work_X5_numberNow : GoodIn wsX6_work wsX5_numberNow := goodIn_r _ [12, 7, 13, 14, 48, 49, 50, 51, 52, 53, 54] (by decide +kernel) (by decide +kernel)
set_option maxRecDepth 20000 in
theorem gX6_work_X5_numberNow : GoodIn wsX6_work (wsV RX6 109 RX5 yX5_numberNow wsX5_numberNow) := goodIn_app (goodIn_of _ (by decide +kernel)) ggX6_work_X5_numberNow
set_option maxRecDepth 20000 in
theorem ggX6_work_X5_slidBetween : GoodIn wsX6_work wsX5_slidBetween := goodIn_r _ [19, 7, 20, 21, 22, 23, 24, 25, 26, 5, 27, 14, 28, 29, 30, 31, 32, 48, 49, 50, 51, 52, 53, 54] (by decide +kernel) (by decide +kernel)
set_option maxRecDepth 20000 in
theorem gX6_work_X5_slidBetween : GoodIn wsX6_work (wsV RX6 133 RX5 yX5_slidBetween wsX5_slidBetween) := goodIn_app (goodIn_of _ (by decide +kernel)) ggX6_work_X5_slidBetween
set_option maxRecDepth 20000 in
theorem ggX6_work_X5_carriedBy : GoodIn wsX6_work wsX5_carriedBy := goodIn_r _ [36, 7, 28, 24, 25, 26, 5, 27, 14, 29, 30, 31, 32, 48, 49, 50, 51, 52, 53, 54] (by decide +kernel) (by decide +kernel)
set_option maxRecDepth 20000 in
theorem gX6_work_X5_carriedBy : GoodIn wsX6_work (wsV RX6 136 RX5 yX5_carriedBy wsX5_carriedBy) := goodIn_app (goodIn_of _ (by decide +kernel)) ggX6_work_X5_carriedBy
theorem dX6_work_0 : decode cX6_work 0 = .ok (.iload_n 1, 1) := by decide +kernel
theorem dX6_work_1 : decode cX6_work 1 = .ok (.ifCond .lt 12, 3) := by decide +kernel
theorem dX6_work_4 : decode cX6_work 4 = .ok (.iload_n 2, 1) := by decide +kernel
theorem dX6_work_5 : decode cX6_work 5 = .ok (.ifCond .lt 8, 3) := by decide +kernel
theorem dX6_work_8 : decode cX6_work 8 = .ok (.iload_n 2, 1) := by decide +kernel
theorem dX6_work_9 : decode cX6_work 9 = .ok (.iconst 1, 1) := by decide +kernel
theorem dX6_work_10 : decode cX6_work 10 = .ok (.if_icmp .le 6, 3) := by decide +kernel
theorem dX6_work_13 : decode cX6_work 13 = .ok (.bipush (-2), 2) := by decide +kernel
theorem dX6_work_15 : decode cX6_work 15 = .ok (.ireturn, 1) := by decide +kernel
theorem dX6_work_16 : decode cX6_work 16 = .ok (.aload_n 0, 1) := by decide +kernel
theorem dX6_work_17 : decode cX6_work 17 = .ok (.getfield 12, 3) := by decide +kernel
theorem dX6_work_20 : decode cX6_work 20 = .ok (.iload_n 1, 1) := by decide +kernel
theorem dX6_work_21 : decode cX6_work 21 = .ok (.invokevirtual 123, 3) := by decide +kernel
theorem dX6_work_24 : decode cX6_work 24 = .ok (.ifCond .ne 6, 3) := by decide +kernel
theorem dX6_work_27 : decode cX6_work 27 = .ok (.bipush (-3), 2) := by decide +kernel
theorem dX6_work_29 : decode cX6_work 29 = .ok (.ireturn, 1) := by decide +kernel
theorem dX6_work_30 : decode cX6_work 30 = .ok (.aload_n 0, 1) := by decide +kernel
theorem dX6_work_31 : decode cX6_work 31 = .ok (.getfield 12, 3) := by decide +kernel
theorem dX6_work_34 : decode cX6_work 34 = .ok (.invokevirtual 109, 3) := by decide +kernel
theorem dX6_work_37 : decode cX6_work 37 = .ok (.istore_n 3, 1) := by decide +kernel
theorem dX6_work_38 : decode cX6_work 38 = .ok (.iload_n 2, 1) := by decide +kernel
theorem dX6_work_39 : decode cX6_work 39 = .ok (.ifCond .ne 17, 3) := by decide +kernel
theorem dX6_work_42 : decode cX6_work 42 = .ok (.aload_n 0, 1) := by decide +kernel
theorem dX6_work_43 : decode cX6_work 43 = .ok (.getfield 12, 3) := by decide +kernel
theorem dX6_work_46 : decode cX6_work 46 = .ok (.iload_n 3, 1) := by decide +kernel
theorem dX6_work_47 : decode cX6_work 47 = .ok (.iload_n 3, 1) := by decide +kernel
theorem dX6_work_48 : decode cX6_work 48 = .ok (.iload_n 1, 1) := by decide +kernel
theorem dX6_work_49 : decode cX6_work 49 = .ok (.iadd, 1) := by decide +kernel
theorem dX6_work_50 : decode cX6_work 50 = .ok (.invokevirtual 133, 3) := by decide +kernel
theorem dX6_work_53 : decode cX6_work 53 = .ok (.goto 12, 3) := by decide +kernel
theorem dX6_work_56 : decode cX6_work 56 = .ok (.aload_n 0, 1) := by decide +kernel
theorem dX6_work_57 : decode cX6_work 57 = .ok (.getfield 12, 3) := by decide +kernel
theorem dX6_work_60 : decode cX6_work 60 = .ok (.iload_n 3, 1) := by decide +kernel
theorem dX6_work_61 : decode cX6_work 61 = .ok (.iload_n 1, 1) := by decide +kernel
theorem dX6_work_62 : decode cX6_work 62 = .ok (.invokevirtual 136, 3) := by decide +kernel
theorem dX6_work_65 : decode cX6_work 65 = .ok (.ireturn, 1) := by decide +kernel
set_option maxRecDepth 20000 in
theorem ggX6_day_X6_isOfDay : GoodIn wsX6_day wsX6_isOfDay := goodIn_r _ [9] (by decide +kernel) (by decide +kernel)
set_option maxRecDepth 20000 in
theorem gX6_day_X6_isOfDay : GoodIn wsX6_day (va_wsS RX6 139 yX6_isOfDay wsX6_isOfDay) := goodIn_app (goodIn_of _ (by decide +kernel)) ggX6_day_X6_isOfDay
set_option maxRecDepth 20000 in
theorem ggX6_day_X6_rowTrouble : GoodIn wsX6_day wsX6_rowTrouble := goodIn_r _ [13, 14, 3, 15, 16, 17, 18, 8, 19, 20, 21, 22, 23, 24, 25, 26, 27, 28, 29, 30, 31, 32, 142, 143, 144, 145, 146, 147, 148, 149, 150, 151, 152, 160, 161, 162, 163] (by decide +kernel) (by decide +kernel)
set_option maxRecDepth 20000 in
theorem gX6_day_X6_rowTrouble : GoodIn wsX6_day (wsV RX6 71 RX6 yX6_rowTrouble wsX6_rowTrouble) := goodIn_app (goodIn_of _ (by decide +kernel)) ggX6_day_X6_rowTrouble
set_option maxRecDepth 20000 in
theorem ggX6_day_X6_actsRefusal : GoodIn wsX6_day wsX6_actsRefusal := goodIn_r _ [36, 37, 1, 38, 39, 40, 30, 41, 32, 42, 43, 44, 45, 46, 47, 48, 142, 143, 144, 145, 146, 147, 148, 149, 150, 151, 152, 160, 161, 162, 163, 153, 154, 155, 156, 157, 158, 159] (by decide +kernel) (by decide +kernel)
set_option maxRecDepth 20000 in
theorem gX6_day_X6_actsRefusal : GoodIn wsX6_day (wsV RX6 142 RX6 yX6_actsRefusal wsX6_actsRefusal) := goodIn_app (goodIn_of _ (by decide +kernel)) ggX6_day_X6_actsRefusal
set_option maxRecDepth 20000 in
theorem ggX6_day_X5_become : GoodIn wsX6_day wsX5_become := goodIn_r _ [52, 53, 54, 55, 48, 56, 57, 58, 46, 59, 60, 61, 62, 63, 8, 64, 153, 154, 155, 156, 157, 158, 159] (by decide +kernel) (by decide +kernel)
set_option maxRecDepth 20000 in
theorem gX6_day_X5_become : GoodIn wsX6_day (wsV RX6 82 RX5 yX5_become wsX5_become) := goodIn_app (goodIn_of _ (by decide +kernel)) ggX6_day_X5_become
set_option maxRecDepth 20000 in
theorem ggX6_day_X0_run : GoodIn wsX6_day wsX0_run := goodIn_r _ [69, 70, 71, 72, 73, 74, 75, 76, 77, 78, 79, 80, 46, 81, 48, 55, 61, 82, 39, 40, 30, 41, 32, 42, 83, 84, 85, 68, 86, 87, 88, 89, 90, 91, 92, 93, 94, 62, 95, 96, 97, 98, 99, 60, 100, 101, 102, 103, 104, 44, 45, 47, 105, 106, 107, 108, 109, 110, 111, 112, 113, 114, 115, 116, 117, 118, 119, 120, 121, 122, 123, 124, 125, 126, 127, 128, 129, 130, 131, 164, 165, 166, 167, 153, 154, 155, 156, 157, 158, 159, 160, 161, 162, 163] (by decide +kernel) (by decide +kernel)
set_option maxRecDepth 20000 in
theorem gX6_day_X0_run : GoodIn wsX6_day (wsV RX6 145 RX0 yX0_run wsX0_run) := goodIn_app (goodIn_of _ (by decide +kernel)) ggX6_day_X0_run
set_option maxRecDepth 20000 in
theorem ggX6_day_X6_ofDay : GoodIn wsX6_day wsX6_ofDay := goodIn_r _ [135, 5, 136, 4, 137, 138, 139, 140, 141, 79, 80, 46, 81, 48, 55, 61, 43, 44, 45, 47, 142, 143, 144, 145, 146, 147, 148, 149, 150, 151, 152, 164, 165, 166, 167, 153, 154, 155, 156, 157, 158, 159] (by decide +kernel) (by decide +kernel)
set_option maxRecDepth 20000 in
theorem gX6_day_X6_ofDay : GoodIn wsX6_day (wsV RX6 149 RX6 yX6_ofDay wsX6_ofDay) := goodIn_app (goodIn_of _ (by decide +kernel)) ggX6_day_X6_ofDay
theorem dX6_day_0 : decode cX6_day 0 = .ok (.iload 4, 2) := by decide +kernel
theorem dX6_day_2 : decode cX6_day 2 = .ok (.ifCond .lt 22, 3) := by decide +kernel
theorem dX6_day_5 : decode cX6_day 5 = .ok (.iload 4, 2) := by decide +kernel
theorem dX6_day_7 : decode cX6_day 7 = .ok (.bipush 20, 2) := by decide +kernel
theorem dX6_day_9 : decode cX6_day 9 = .ok (.if_icmp .gt 15, 3) := by decide +kernel
theorem dX6_day_12 : decode cX6_day 12 = .ok (.iload 5, 2) := by decide +kernel
theorem dX6_day_14 : decode cX6_day 14 = .ok (.invokestatic 139, 3) := by decide +kernel
theorem dX6_day_17 : decode cX6_day 17 = .ok (.ifCond .eq 7, 3) := by decide +kernel
theorem dX6_day_20 : decode cX6_day 20 = .ok (.iconst 1, 1) := by decide +kernel
theorem dX6_day_21 : decode cX6_day 21 = .ok (.goto 4, 3) := by decide +kernel
theorem dX6_day_24 : decode cX6_day 24 = .ok (.iconst 0, 1) := by decide +kernel
theorem dX6_day_25 : decode cX6_day 25 = .ok (.istore 6, 2) := by decide +kernel
theorem dX6_day_27 : decode cX6_day 27 = .ok (.aload_n 0, 1) := by decide +kernel
theorem dX6_day_28 : decode cX6_day 28 = .ok (.iload_n 1, 1) := by decide +kernel
theorem dX6_day_29 : decode cX6_day 29 = .ok (.iload_n 2, 1) := by decide +kernel
theorem dX6_day_30 : decode cX6_day 30 = .ok (.iload_n 3, 1) := by decide +kernel
theorem dX6_day_31 : decode cX6_day 31 = .ok (.iconst 2, 1) := by decide +kernel
theorem dX6_day_32 : decode cX6_day 32 = .ok (.iload 4, 2) := by decide +kernel
theorem dX6_day_34 : decode cX6_day 34 = .ok (.imul, 1) := by decide +kernel
theorem dX6_day_35 : decode cX6_day 35 = .ok (.iload 6, 2) := by decide +kernel
theorem dX6_day_37 : decode cX6_day 37 = .ok (.invokevirtual 71, 3) := by decide +kernel
theorem dX6_day_40 : decode cX6_day 40 = .ok (.istore 7, 2) := by decide +kernel
theorem dX6_day_42 : decode cX6_day 42 = .ok (.iload 7, 2) := by decide +kernel
theorem dX6_day_44 : decode cX6_day 44 = .ok (.ifCond .eq 6, 3) := by decide +kernel
theorem dX6_day_47 : decode cX6_day 47 = .ok (.iload 7, 2) := by decide +kernel
theorem dX6_day_49 : decode cX6_day 49 = .ok (.ireturn, 1) := by decide +kernel
theorem dX6_day_50 : decode cX6_day 50 = .ok (.aload_n 0, 1) := by decide +kernel
theorem dX6_day_51 : decode cX6_day 51 = .ok (.getfield 12, 3) := by decide +kernel
theorem dX6_day_54 : decode cX6_day 54 = .ok (.getfield 89, 3) := by decide +kernel
theorem dX6_day_57 : decode cX6_day 57 = .ok (.ifCond .ne 6, 3) := by decide +kernel
theorem dX6_day_60 : decode cX6_day 60 = .ok (.bipush (-3), 2) := by decide +kernel
theorem dX6_day_62 : decode cX6_day 62 = .ok (.ireturn, 1) := by decide +kernel
theorem dX6_day_63 : decode cX6_day 63 = .ok (.aload_n 0, 1) := by decide +kernel
theorem dX6_day_64 : decode cX6_day 64 = .ok (.getfield 23, 3) := by decide +kernel
theorem dX6_day_67 : decode cX6_day 67 = .ok (.iload_n 1, 1) := by decide +kernel
theorem dX6_day_68 : decode cX6_day 68 = .ok (.aaload, 1) := by decide +kernel
theorem dX6_day_69 : decode cX6_day 69 = .ok (.astore 8, 2) := by decide +kernel
theorem dX6_day_71 : decode cX6_day 71 = .ok (.aload_n 0, 1) := by decide +kernel
theorem dX6_day_72 : decode cX6_day 72 = .ok (.aload 8, 2) := by decide +kernel
theorem dX6_day_74 : decode cX6_day 74 = .ok (.iload_n 3, 1) := by decide +kernel
theorem dX6_day_75 : decode cX6_day 75 = .ok (.iload 4, 2) := by decide +kernel
theorem dX6_day_77 : decode cX6_day 77 = .ok (.invokevirtual 142, 3) := by decide +kernel
theorem dX6_day_80 : decode cX6_day 80 = .ok (.istore 9, 2) := by decide +kernel
theorem dX6_day_82 : decode cX6_day 82 = .ok (.iload 9, 2) := by decide +kernel
theorem dX6_day_84 : decode cX6_day 84 = .ok (.ifCond .eq 6, 3) := by decide +kernel
theorem dX6_day_87 : decode cX6_day 87 = .ok (.iload 9, 2) := by decide +kernel
theorem dX6_day_89 : decode cX6_day 89 = .ok (.ireturn, 1) := by decide +kernel
theorem dX6_day_90 : decode cX6_day 90 = .ok (.aload_n 0, 1) := by decide +kernel
theorem dX6_day_91 : decode cX6_day 91 = .ok (.getfield 18, 3) := by decide +kernel
theorem dX6_day_94 : decode cX6_day 94 = .ok (.aload_n 0, 1) := by decide +kernel
theorem dX6_day_95 : decode cX6_day 95 = .ok (.getfield 12, 3) := by decide +kernel
theorem dX6_day_98 : decode cX6_day 98 = .ok (.invokevirtual 82, 3) := by decide +kernel
theorem dX6_day_101 : decode cX6_day 101 = .ok (.aload_n 0, 1) := by decide +kernel
theorem dX6_day_102 : decode cX6_day 102 = .ok (.getfield 37, 3) := by decide +kernel
theorem dX6_day_105 : decode cX6_day 105 = .ok (.aload_n 0, 1) := by decide +kernel
theorem dX6_day_106 : decode cX6_day 106 = .ok (.getfield 18, 3) := by decide +kernel
theorem dX6_day_109 : decode cX6_day 109 = .ok (.aload 8, 2) := by decide +kernel
theorem dX6_day_111 : decode cX6_day 111 = .ok (.iload_n 3, 1) := by decide +kernel
theorem dX6_day_112 : decode cX6_day 112 = .ok (.iload 4, 2) := by decide +kernel
theorem dX6_day_114 : decode cX6_day 114 = .ok (.invokevirtual 145, 3) := by decide +kernel
theorem dX6_day_117 : decode cX6_day 117 = .ok (.aload_n 0, 1) := by decide +kernel
theorem dX6_day_118 : decode cX6_day 118 = .ok (.iload 5, 2) := by decide +kernel
theorem dX6_day_120 : decode cX6_day 120 = .ok (.invokevirtual 149, 3) := by decide +kernel
theorem dX6_day_123 : decode cX6_day 123 = .ok (.ireturn, 1) := by decide +kernel
theorem dX6_isOfDay_0 : decode cX6_isOfDay 0 = .ok (.iload_n 0, 1) := by decide +kernel
theorem dX6_isOfDay_1 : decode cX6_isOfDay 1 = .ok (.ifCond .lt 8, 3) := by decide +kernel
theorem dX6_isOfDay_4 : decode cX6_isOfDay 4 = .ok (.iload_n 0, 1) := by decide +kernel
theorem dX6_isOfDay_5 : decode cX6_isOfDay 5 = .ok (.iconst 4, 1) := by decide +kernel
theorem dX6_isOfDay_6 : decode cX6_isOfDay 6 = .ok (.if_icmp .le 15, 3) := by decide +kernel
theorem dX6_isOfDay_9 : decode cX6_isOfDay 9 = .ok (.iload_n 0, 1) := by decide +kernel
theorem dX6_isOfDay_10 : decode cX6_isOfDay 10 = .ok (.bipush 10, 2) := by decide +kernel
theorem dX6_isOfDay_12 : decode cX6_isOfDay 12 = .ok (.if_icmp .lt 13, 3) := by decide +kernel
theorem dX6_isOfDay_15 : decode cX6_isOfDay 15 = .ok (.iload_n 0, 1) := by decide +kernel
theorem dX6_isOfDay_16 : decode cX6_isOfDay 16 = .ok (.bipush 16, 2) := by decide +kernel
theorem dX6_isOfDay_18 : decode cX6_isOfDay 18 = .ok (.if_icmp .ge 7, 3) := by decide +kernel
theorem dX6_isOfDay_21 : decode cX6_isOfDay 21 = .ok (.iconst 1, 1) := by decide +kernel
theorem dX6_isOfDay_22 : decode cX6_isOfDay 22 = .ok (.goto 4, 3) := by decide +kernel
theorem dX6_isOfDay_25 : decode cX6_isOfDay 25 = .ok (.iconst 0, 1) := by decide +kernel
theorem dX6_isOfDay_26 : decode cX6_isOfDay 26 = .ok (.ireturn, 1) := by decide +kernel
set_option maxRecDepth 20000 in
theorem ggX6_actsRefusal_X3_at : GoodIn wsX6_actsRefusal wsX3_at := goodIn_r _ [7, 8, 9, 27, 28, 29, 30] (by decide +kernel) (by decide +kernel)
set_option maxRecDepth 20000 in
theorem gX6_actsRefusal_X3_at : GoodIn wsX6_actsRefusal (wsV RX6 152 RX3 yX3_at wsX3_at) := goodIn_app (goodIn_of _ (by decide +kernel)) ggX6_actsRefusal_X3_at
set_option maxRecDepth 20000 in
theorem ggX6_actsRefusal_X5_has : GoodIn wsX6_actsRefusal wsX5_has := goodIn_r _ [14, 15, 31, 32, 33, 34, 35, 36, 37] (by decide +kernel) (by decide +kernel)
set_option maxRecDepth 20000 in
theorem gX6_actsRefusal_X5_has : GoodIn wsX6_actsRefusal (wsV RX6 90 RX5 yX5_has wsX5_has) := goodIn_app (goodIn_of _ (by decide +kernel)) ggX6_actsRefusal_X5_has
theorem dX6_actsRefusal_0 : decode cX6_actsRefusal 0 = .ok (.iconst 0, 1) := by decide +kernel
theorem dX6_actsRefusal_1 : decode cX6_actsRefusal 1 = .ok (.istore 4, 2) := by decide +kernel
theorem dX6_actsRefusal_3 : decode cX6_actsRefusal 3 = .ok (.iload 4, 2) := by decide +kernel
theorem dX6_actsRefusal_5 : decode cX6_actsRefusal 5 = .ok (.iload_n 3, 1) := by decide +kernel
theorem dX6_actsRefusal_6 : decode cX6_actsRefusal 6 = .ok (.if_icmp .ge 114, 3) := by decide +kernel
theorem dX6_actsRefusal_9 : decode cX6_actsRefusal 9 = .ok (.aload_n 1, 1) := by decide +kernel
theorem dX6_actsRefusal_10 : decode cX6_actsRefusal 10 = .ok (.iload_n 2, 1) := by decide +kernel
theorem dX6_actsRefusal_11 : decode cX6_actsRefusal 11 = .ok (.iconst 2, 1) := by decide +kernel
theorem dX6_actsRefusal_12 : decode cX6_actsRefusal 12 = .ok (.iload 4, 2) := by decide +kernel
theorem dX6_actsRefusal_14 : decode cX6_actsRefusal 14 = .ok (.imul, 1) := by decide +kernel
theorem dX6_actsRefusal_15 : decode cX6_actsRefusal 15 = .ok (.iadd, 1) := by decide +kernel
theorem dX6_actsRefusal_16 : decode cX6_actsRefusal 16 = .ok (.invokevirtual 152, 3) := by decide +kernel
theorem dX6_actsRefusal_19 : decode cX6_actsRefusal 19 = .ok (.istore 5, 2) := by decide +kernel
theorem dX6_actsRefusal_21 : decode cX6_actsRefusal 21 = .ok (.aload_n 1, 1) := by decide +kernel
theorem dX6_actsRefusal_22 : decode cX6_actsRefusal 22 = .ok (.iload_n 2, 1) := by decide +kernel
theorem dX6_actsRefusal_23 : decode cX6_actsRefusal 23 = .ok (.iconst 2, 1) := by decide +kernel
theorem dX6_actsRefusal_24 : decode cX6_actsRefusal 24 = .ok (.iload 4, 2) := by decide +kernel
theorem dX6_actsRefusal_26 : decode cX6_actsRefusal 26 = .ok (.imul, 1) := by decide +kernel
theorem dX6_actsRefusal_27 : decode cX6_actsRefusal 27 = .ok (.iadd, 1) := by decide +kernel
theorem dX6_actsRefusal_28 : decode cX6_actsRefusal 28 = .ok (.iconst 1, 1) := by decide +kernel
theorem dX6_actsRefusal_29 : decode cX6_actsRefusal 29 = .ok (.iadd, 1) := by decide +kernel
theorem dX6_actsRefusal_30 : decode cX6_actsRefusal 30 = .ok (.invokevirtual 152, 3) := by decide +kernel
theorem dX6_actsRefusal_33 : decode cX6_actsRefusal 33 = .ok (.istore 6, 2) := by decide +kernel
theorem dX6_actsRefusal_35 : decode cX6_actsRefusal 35 = .ok (.iload 6, 2) := by decide +kernel
theorem dX6_actsRefusal_37 : decode cX6_actsRefusal 37 = .ok (.ifCond .eq 9, 3) := by decide +kernel
theorem dX6_actsRefusal_40 : decode cX6_actsRefusal 40 = .ok (.iload 6, 2) := by decide +kernel
theorem dX6_actsRefusal_42 : decode cX6_actsRefusal 42 = .ok (.iconst 1, 1) := by decide +kernel
theorem dX6_actsRefusal_43 : decode cX6_actsRefusal 43 = .ok (.if_icmp .ne 7, 3) := by decide +kernel
theorem dX6_actsRefusal_46 : decode cX6_actsRefusal 46 = .ok (.iconst 1, 1) := by decide +kernel
theorem dX6_actsRefusal_47 : decode cX6_actsRefusal 47 = .ok (.goto 4, 3) := by decide +kernel
theorem dX6_actsRefusal_50 : decode cX6_actsRefusal 50 = .ok (.iconst 0, 1) := by decide +kernel
theorem dX6_actsRefusal_51 : decode cX6_actsRefusal 51 = .ok (.istore 7, 2) := by decide +kernel
theorem dX6_actsRefusal_53 : decode cX6_actsRefusal 53 = .ok (.iload 7, 2) := by decide +kernel
theorem dX6_actsRefusal_55 : decode cX6_actsRefusal 55 = .ok (.ifCond .ne 20, 3) := by decide +kernel
theorem dX6_actsRefusal_58 : decode cX6_actsRefusal 58 = .ok (.iload 6, 2) := by decide +kernel
theorem dX6_actsRefusal_60 : decode cX6_actsRefusal 60 = .ok (.bipush 10, 2) := by decide +kernel
theorem dX6_actsRefusal_62 : decode cX6_actsRefusal 62 = .ok (.if_icmp .lt 10, 3) := by decide +kernel
theorem dX6_actsRefusal_65 : decode cX6_actsRefusal 65 = .ok (.iload 6, 2) := by decide +kernel
theorem dX6_actsRefusal_67 : decode cX6_actsRefusal 67 = .ok (.bipush 28, 2) := by decide +kernel
theorem dX6_actsRefusal_69 : decode cX6_actsRefusal 69 = .ok (.if_icmp .le 6, 3) := by decide +kernel
theorem dX6_actsRefusal_72 : decode cX6_actsRefusal 72 = .ok (.bipush (-2), 2) := by decide +kernel
theorem dX6_actsRefusal_74 : decode cX6_actsRefusal 74 = .ok (.ireturn, 1) := by decide +kernel
theorem dX6_actsRefusal_75 : decode cX6_actsRefusal 75 = .ok (.iload 7, 2) := by decide +kernel
theorem dX6_actsRefusal_77 : decode cX6_actsRefusal 77 = .ok (.ifCond .eq 18, 3) := by decide +kernel
theorem dX6_actsRefusal_80 : decode cX6_actsRefusal 80 = .ok (.iload 5, 2) := by decide +kernel
theorem dX6_actsRefusal_82 : decode cX6_actsRefusal 82 = .ok (.ifCond .lt 10, 3) := by decide +kernel
theorem dX6_actsRefusal_85 : decode cX6_actsRefusal 85 = .ok (.iload 5, 2) := by decide +kernel
theorem dX6_actsRefusal_87 : decode cX6_actsRefusal 87 = .ok (.ldc 155, 2) := by decide +kernel
theorem dX6_actsRefusal_89 : decode cX6_actsRefusal 89 = .ok (.if_icmp .le 6, 3) := by decide +kernel
theorem dX6_actsRefusal_92 : decode cX6_actsRefusal 92 = .ok (.bipush (-2), 2) := by decide +kernel
theorem dX6_actsRefusal_94 : decode cX6_actsRefusal 94 = .ok (.ireturn, 1) := by decide +kernel
theorem dX6_actsRefusal_95 : decode cX6_actsRefusal 95 = .ok (.iload 7, 2) := by decide +kernel
theorem dX6_actsRefusal_97 : decode cX6_actsRefusal 97 = .ok (.ifCond .ne 17, 3) := by decide +kernel
theorem dX6_actsRefusal_100 : decode cX6_actsRefusal 100 = .ok (.aload_n 0, 1) := by decide +kernel
theorem dX6_actsRefusal_101 : decode cX6_actsRefusal 101 = .ok (.getfield 12, 3) := by decide +kernel
theorem dX6_actsRefusal_104 : decode cX6_actsRefusal 104 = .ok (.iload 5, 2) := by decide +kernel
theorem dX6_actsRefusal_106 : decode cX6_actsRefusal 106 = .ok (.invokevirtual 90, 3) := by decide +kernel
theorem dX6_actsRefusal_109 : decode cX6_actsRefusal 109 = .ok (.ifCond .ne 5, 3) := by decide +kernel
theorem dX6_actsRefusal_112 : decode cX6_actsRefusal 112 = .ok (.iconst (-1), 1) := by decide +kernel
theorem dX6_actsRefusal_113 : decode cX6_actsRefusal 113 = .ok (.ireturn, 1) := by decide +kernel
theorem dX6_actsRefusal_114 : decode cX6_actsRefusal 114 = .ok (.iinc 4 1, 3) := by decide +kernel
theorem dX6_actsRefusal_117 : decode cX6_actsRefusal 117 = .ok (.goto (-114), 3) := by decide +kernel
theorem dX6_actsRefusal_120 : decode cX6_actsRefusal 120 = .ok (.iconst 0, 1) := by decide +kernel
theorem dX6_actsRefusal_121 : decode cX6_actsRefusal 121 = .ok (.ireturn, 1) := by decide +kernel
set_option maxRecDepth 20000 in
theorem ggX6_ofDay_X5_numberNow : GoodIn wsX6_ofDay wsX5_numberNow := goodIn_r _ [12, 13, 14, 15, 35, 36, 37, 38, 39, 40, 41] (by decide +kernel) (by decide +kernel)
set_option maxRecDepth 20000 in
theorem gX6_ofDay_X5_numberNow : GoodIn wsX6_ofDay (wsV RX6 109 RX5 yX5_numberNow wsX5_numberNow) := goodIn_app (goodIn_of _ (by decide +kernel)) ggX6_ofDay_X5_numberNow
set_option maxRecDepth 20000 in
theorem ggX6_ofDay_X5_has : GoodIn wsX6_ofDay wsX5_has := goodIn_r _ [19, 13, 35, 36, 37, 38, 39, 40, 41] (by decide +kernel) (by decide +kernel)
set_option maxRecDepth 20000 in
theorem gX6_ofDay_X5_has : GoodIn wsX6_ofDay (wsV RX6 90 RX5 yX5_has wsX5_has) := goodIn_app (goodIn_of _ (by decide +kernel)) ggX6_ofDay_X5_has
theorem dX6_ofDay_0 : decode cX6_ofDay 0 = .ok (.iload_n 1, 1) := by decide +kernel
theorem dX6_ofDay_1 : decode cX6_ofDay 1 = .ok (.iconst 1, 1) := by decide +kernel
theorem dX6_ofDay_2 : decode cX6_ofDay 2 = .ok (.if_icmp .ne 11, 3) := by decide +kernel
theorem dX6_ofDay_5 : decode cX6_ofDay 5 = .ok (.aload_n 0, 1) := by decide +kernel
theorem dX6_ofDay_6 : decode cX6_ofDay 6 = .ok (.getfield 37, 3) := by decide +kernel
theorem dX6_ofDay_9 : decode cX6_ofDay 9 = .ok (.getfield 156, 3) := by decide +kernel
theorem dX6_ofDay_12 : decode cX6_ofDay 12 = .ok (.ireturn, 1) := by decide +kernel
theorem dX6_ofDay_13 : decode cX6_ofDay 13 = .ok (.aload_n 0, 1) := by decide +kernel
theorem dX6_ofDay_14 : decode cX6_ofDay 14 = .ok (.getfield 37, 3) := by decide +kernel
theorem dX6_ofDay_17 : decode cX6_ofDay 17 = .ok (.getfield 156, 3) := by decide +kernel
theorem dX6_ofDay_20 : decode cX6_ofDay 20 = .ok (.bipush (-9), 2) := by decide +kernel
theorem dX6_ofDay_22 : decode cX6_ofDay 22 = .ok (.if_icmp .eq 14, 3) := by decide +kernel
theorem dX6_ofDay_25 : decode cX6_ofDay 25 = .ok (.bipush (-100), 2) := by decide +kernel
theorem dX6_ofDay_27 : decode cX6_ofDay 27 = .ok (.aload_n 0, 1) := by decide +kernel
theorem dX6_ofDay_28 : decode cX6_ofDay 28 = .ok (.getfield 37, 3) := by decide +kernel
theorem dX6_ofDay_31 : decode cX6_ofDay 31 = .ok (.getfield 156, 3) := by decide +kernel
theorem dX6_ofDay_34 : decode cX6_ofDay 34 = .ok (.isub, 1) := by decide +kernel
theorem dX6_ofDay_35 : decode cX6_ofDay 35 = .ok (.ireturn, 1) := by decide +kernel
theorem dX6_ofDay_36 : decode cX6_ofDay 36 = .ok (.iload_n 1, 1) := by decide +kernel
theorem dX6_ofDay_37 : decode cX6_ofDay 37 = .ok (.tableswitch 67 0 4 #[35, 67, 43, 51, 59], 35) := by decide +kernel
theorem dX6_ofDay_72 : decode cX6_ofDay 72 = .ok (.aload_n 0, 1) := by decide +kernel
theorem dX6_ofDay_73 : decode cX6_ofDay 73 = .ok (.getfield 18, 3) := by decide +kernel
theorem dX6_ofDay_76 : decode cX6_ofDay 76 = .ok (.invokevirtual 109, 3) := by decide +kernel
theorem dX6_ofDay_79 : decode cX6_ofDay 79 = .ok (.ireturn, 1) := by decide +kernel
theorem dX6_ofDay_80 : decode cX6_ofDay 80 = .ok (.aload_n 0, 1) := by decide +kernel
theorem dX6_ofDay_81 : decode cX6_ofDay 81 = .ok (.getfield 37, 3) := by decide +kernel
theorem dX6_ofDay_84 : decode cX6_ofDay 84 = .ok (.getfield 159, 3) := by decide +kernel
theorem dX6_ofDay_87 : decode cX6_ofDay 87 = .ok (.ireturn, 1) := by decide +kernel
theorem dX6_ofDay_88 : decode cX6_ofDay 88 = .ok (.aload_n 0, 1) := by decide +kernel
theorem dX6_ofDay_89 : decode cX6_ofDay 89 = .ok (.getfield 37, 3) := by decide +kernel
theorem dX6_ofDay_92 : decode cX6_ofDay 92 = .ok (.getfield 162, 3) := by decide +kernel
theorem dX6_ofDay_95 : decode cX6_ofDay 95 = .ok (.ireturn, 1) := by decide +kernel
theorem dX6_ofDay_96 : decode cX6_ofDay 96 = .ok (.aload_n 0, 1) := by decide +kernel
theorem dX6_ofDay_97 : decode cX6_ofDay 97 = .ok (.getfield 37, 3) := by decide +kernel
theorem dX6_ofDay_100 : decode cX6_ofDay 100 = .ok (.getfield 165, 3) := by decide +kernel
theorem dX6_ofDay_103 : decode cX6_ofDay 103 = .ok (.ireturn, 1) := by decide +kernel
theorem dX6_ofDay_104 : decode cX6_ofDay 104 = .ok (.aload_n 0, 1) := by decide +kernel
theorem dX6_ofDay_105 : decode cX6_ofDay 105 = .ok (.getfield 18, 3) := by decide +kernel
theorem dX6_ofDay_108 : decode cX6_ofDay 108 = .ok (.iload_n 1, 1) := by decide +kernel
theorem dX6_ofDay_109 : decode cX6_ofDay 109 = .ok (.bipush 10, 2) := by decide +kernel
theorem dX6_ofDay_111 : decode cX6_ofDay 111 = .ok (.isub, 1) := by decide +kernel
theorem dX6_ofDay_112 : decode cX6_ofDay 112 = .ok (.invokevirtual 90, 3) := by decide +kernel
theorem dX6_ofDay_115 : decode cX6_ofDay 115 = .ok (.ifCond .eq 18, 3) := by decide +kernel
theorem dX6_ofDay_118 : decode cX6_ofDay 118 = .ok (.aload_n 0, 1) := by decide +kernel
theorem dX6_ofDay_119 : decode cX6_ofDay 119 = .ok (.getfield 18, 3) := by decide +kernel
theorem dX6_ofDay_122 : decode cX6_ofDay 122 = .ok (.getfield 103, 3) := by decide +kernel
theorem dX6_ofDay_125 : decode cX6_ofDay 125 = .ok (.iload_n 1, 1) := by decide +kernel
theorem dX6_ofDay_126 : decode cX6_ofDay 126 = .ok (.bipush 10, 2) := by decide +kernel
theorem dX6_ofDay_128 : decode cX6_ofDay 128 = .ok (.isub, 1) := by decide +kernel
theorem dX6_ofDay_129 : decode cX6_ofDay 129 = .ok (.iaload, 1) := by decide +kernel
theorem dX6_ofDay_130 : decode cX6_ofDay 130 = .ok (.goto 5, 3) := by decide +kernel
theorem dX6_ofDay_133 : decode cX6_ofDay 133 = .ok (.bipush (-9), 2) := by decide +kernel
theorem dX6_ofDay_135 : decode cX6_ofDay 135 = .ok (.ireturn, 1) := by decide +kernel
set_option maxRecDepth 20000 in
theorem ggX6_order_X6_rowTrouble : GoodIn wsX6_order wsX6_rowTrouble := goodIn_r _ [10, 11, 3, 12, 13, 14, 15, 9, 16, 17, 18, 19, 20, 21, 22, 23, 24, 25, 26, 27, 28, 29, 94, 95, 96, 97, 98, 99, 100, 101, 102, 103, 104, 112, 113, 114, 115] (by decide +kernel) (by decide +kernel)
set_option maxRecDepth 20000 in
theorem gX6_order_X6_rowTrouble : GoodIn wsX6_order (wsV RX6 71 RX6 yX6_rowTrouble wsX6_rowTrouble) := goodIn_app (goodIn_of _ (by decide +kernel)) ggX6_order_X6_rowTrouble
set_option maxRecDepth 20000 in
theorem ggX6_order_X3_allWithin : GoodIn wsX6_order wsX3_allWithin := goodIn_r _ [33, 34, 35, 36, 27, 37, 29, 38, 112, 113, 114, 115] (by decide +kernel) (by decide +kernel)
set_option maxRecDepth 20000 in
theorem gX6_order_X3_allWithin : GoodIn wsX6_order (wsV RX6 168 RX3 yX3_allWithin wsX3_allWithin) := goodIn_app (goodIn_of _ (by decide +kernel)) ggX6_order_X3_allWithin
set_option maxRecDepth 20000 in
theorem ggX6_order_X1_find : GoodIn wsX6_order wsX1_find := goodIn_r _ [43, 44, 45, 46, 47, 48, 42, 49, 50, 35, 36, 27, 37, 29, 38, 51, 52, 53, 54, 55, 56, 57, 58, 59, 60, 61, 62, 63, 64, 65, 66, 67, 68, 69, 70, 71, 72, 73, 74, 75, 76, 77, 78, 79, 80, 81, 82, 83, 84, 85, 116, 117, 118, 112, 113, 114, 115, 105, 106, 107, 108, 109, 110, 111] (by decide +kernel) (by decide +kernel)
set_option maxRecDepth 20000 in
theorem gX6_order_X1_find : GoodIn wsX6_order (wsV RX6 172 RX1 yX1_find wsX1_find) := goodIn_app (goodIn_of _ (by decide +kernel)) ggX6_order_X1_find
set_option maxRecDepth 20000 in
theorem ggX6_order_X1_slidInAll : GoodIn wsX6_order wsX1_slidInAll := goodIn_r _ [89, 45, 116, 117, 118] (by decide +kernel) (by decide +kernel)
set_option maxRecDepth 20000 in
theorem gX6_order_X1_slidInAll : GoodIn wsX6_order (wsV RX6 176 RX1 yX1_slidInAll wsX1_slidInAll) := goodIn_app (goodIn_of _ (by decide +kernel)) ggX6_order_X1_slidInAll
set_option maxRecDepth 20000 in
theorem ggX6_order_X1_placeAt : GoodIn wsX6_order wsX1_placeAt := goodIn_r _ [93, 46, 116, 117, 118] (by decide +kernel) (by decide +kernel)
set_option maxRecDepth 20000 in
theorem gX6_order_X1_placeAt : GoodIn wsX6_order (wsV RX6 179 RX1 yX1_placeAt wsX1_placeAt) := goodIn_app (goodIn_of _ (by decide +kernel)) ggX6_order_X1_placeAt
theorem dX6_order_0 : decode cX6_order 0 = .ok (.iload 4, 2) := by decide +kernel
theorem dX6_order_2 : decode cX6_order 2 = .ok (.ifCond .lt 27, 3) := by decide +kernel
theorem dX6_order_5 : decode cX6_order 5 = .ok (.iload 4, 2) := by decide +kernel
theorem dX6_order_7 : decode cX6_order 7 = .ok (.bipush 6, 2) := by decide +kernel
theorem dX6_order_9 : decode cX6_order 9 = .ok (.if_icmp .gt 20, 3) := by decide +kernel
theorem dX6_order_12 : decode cX6_order 12 = .ok (.iload 5, 2) := by decide +kernel
theorem dX6_order_14 : decode cX6_order 14 = .ok (.iconst (-1), 1) := by decide +kernel
theorem dX6_order_15 : decode cX6_order 15 = .ok (.if_icmp .lt 14, 3) := by decide +kernel
theorem dX6_order_18 : decode cX6_order 18 = .ok (.iload 5, 2) := by decide +kernel
theorem dX6_order_20 : decode cX6_order 20 = .ok (.bipush 6, 2) := by decide +kernel
theorem dX6_order_22 : decode cX6_order 22 = .ok (.if_icmp .ge 7, 3) := by decide +kernel
theorem dX6_order_25 : decode cX6_order 25 = .ok (.iconst 1, 1) := by decide +kernel
theorem dX6_order_26 : decode cX6_order 26 = .ok (.goto 4, 3) := by decide +kernel
theorem dX6_order_29 : decode cX6_order 29 = .ok (.iconst 0, 1) := by decide +kernel
theorem dX6_order_30 : decode cX6_order 30 = .ok (.istore 6, 2) := by decide +kernel
theorem dX6_order_32 : decode cX6_order 32 = .ok (.aload_n 0, 1) := by decide +kernel
theorem dX6_order_33 : decode cX6_order 33 = .ok (.iload_n 1, 1) := by decide +kernel
theorem dX6_order_34 : decode cX6_order 34 = .ok (.iload_n 2, 1) := by decide +kernel
theorem dX6_order_35 : decode cX6_order 35 = .ok (.iload_n 3, 1) := by decide +kernel
theorem dX6_order_36 : decode cX6_order 36 = .ok (.iload 4, 2) := by decide +kernel
theorem dX6_order_38 : decode cX6_order 38 = .ok (.iload 6, 2) := by decide +kernel
theorem dX6_order_40 : decode cX6_order 40 = .ok (.invokevirtual 71, 3) := by decide +kernel
theorem dX6_order_43 : decode cX6_order 43 = .ok (.istore 7, 2) := by decide +kernel
theorem dX6_order_45 : decode cX6_order 45 = .ok (.iload 7, 2) := by decide +kernel
theorem dX6_order_47 : decode cX6_order 47 = .ok (.ifCond .eq 6, 3) := by decide +kernel
theorem dX6_order_50 : decode cX6_order 50 = .ok (.iload 7, 2) := by decide +kernel
theorem dX6_order_52 : decode cX6_order 52 = .ok (.ireturn, 1) := by decide +kernel
theorem dX6_order_53 : decode cX6_order 53 = .ok (.aload_n 0, 1) := by decide +kernel
theorem dX6_order_54 : decode cX6_order 54 = .ok (.getfield 12, 3) := by decide +kernel
theorem dX6_order_57 : decode cX6_order 57 = .ok (.getfield 89, 3) := by decide +kernel
theorem dX6_order_60 : decode cX6_order 60 = .ok (.ifCond .ne 6, 3) := by decide +kernel
theorem dX6_order_63 : decode cX6_order 63 = .ok (.bipush (-3), 2) := by decide +kernel
theorem dX6_order_65 : decode cX6_order 65 = .ok (.ireturn, 1) := by decide +kernel
theorem dX6_order_66 : decode cX6_order 66 = .ok (.aload_n 0, 1) := by decide +kernel
theorem dX6_order_67 : decode cX6_order 67 = .ok (.getfield 23, 3) := by decide +kernel
theorem dX6_order_70 : decode cX6_order 70 = .ok (.iload_n 1, 1) := by decide +kernel
theorem dX6_order_71 : decode cX6_order 71 = .ok (.aaload, 1) := by decide +kernel
theorem dX6_order_72 : decode cX6_order 72 = .ok (.astore 8, 2) := by decide +kernel
theorem dX6_order_74 : decode cX6_order 74 = .ok (.aload 8, 2) := by decide +kernel
theorem dX6_order_76 : decode cX6_order 76 = .ok (.iload_n 3, 1) := by decide +kernel
theorem dX6_order_77 : decode cX6_order 77 = .ok (.iload 4, 2) := by decide +kernel
theorem dX6_order_79 : decode cX6_order 79 = .ok (.ldc 155, 2) := by decide +kernel
theorem dX6_order_81 : decode cX6_order 81 = .ok (.invokevirtual 168, 3) := by decide +kernel
theorem dX6_order_84 : decode cX6_order 84 = .ok (.ifCond .ne 6, 3) := by decide +kernel
theorem dX6_order_87 : decode cX6_order 87 = .ok (.bipush (-2), 2) := by decide +kernel
theorem dX6_order_89 : decode cX6_order 89 = .ok (.ireturn, 1) := by decide +kernel
theorem dX6_order_90 : decode cX6_order 90 = .ok (.aload_n 0, 1) := by decide +kernel
theorem dX6_order_91 : decode cX6_order 91 = .ok (.getfield 44, 3) := by decide +kernel
theorem dX6_order_94 : decode cX6_order 94 = .ok (.aload_n 0, 1) := by decide +kernel
theorem dX6_order_95 : decode cX6_order 95 = .ok (.getfield 12, 3) := by decide +kernel
theorem dX6_order_98 : decode cX6_order 98 = .ok (.aload 8, 2) := by decide +kernel
theorem dX6_order_100 : decode cX6_order 100 = .ok (.iload_n 3, 1) := by decide +kernel
theorem dX6_order_101 : decode cX6_order 101 = .ok (.iload 4, 2) := by decide +kernel
theorem dX6_order_103 : decode cX6_order 103 = .ok (.invokevirtual 172, 3) := by decide +kernel
theorem dX6_order_106 : decode cX6_order 106 = .ok (.ifCond .ne 6, 3) := by decide +kernel
theorem dX6_order_109 : decode cX6_order 109 = .ok (.bipush (-9), 2) := by decide +kernel
theorem dX6_order_111 : decode cX6_order 111 = .ok (.ireturn, 1) := by decide +kernel
theorem dX6_order_112 : decode cX6_order 112 = .ok (.iload 5, 2) := by decide +kernel
theorem dX6_order_114 : decode cX6_order 114 = .ok (.ifCond .ge 11, 3) := by decide +kernel
theorem dX6_order_117 : decode cX6_order 117 = .ok (.aload_n 0, 1) := by decide +kernel
theorem dX6_order_118 : decode cX6_order 118 = .ok (.getfield 44, 3) := by decide +kernel
theorem dX6_order_121 : decode cX6_order 121 = .ok (.invokevirtual 176, 3) := by decide +kernel
theorem dX6_order_124 : decode cX6_order 124 = .ok (.ireturn, 1) := by decide +kernel
theorem dX6_order_125 : decode cX6_order 125 = .ok (.aload_n 0, 1) := by decide +kernel
theorem dX6_order_126 : decode cX6_order 126 = .ok (.getfield 44, 3) := by decide +kernel
theorem dX6_order_129 : decode cX6_order 129 = .ok (.iload 5, 2) := by decide +kernel
theorem dX6_order_131 : decode cX6_order 131 = .ok (.invokevirtual 179, 3) := by decide +kernel
theorem dX6_order_134 : decode cX6_order 134 = .ok (.ireturn, 1) := by decide +kernel
set_option maxRecDepth 20000 in
theorem ggX6_fewest_X6_rowTrouble : GoodIn wsX6_fewest wsX6_rowTrouble := goodIn_r _ [7, 8, 1, 9, 10, 11, 12, 6, 13, 14, 15, 16, 17, 18, 19, 20, 21, 22, 23, 24, 25, 26, 45, 46, 47, 48, 49, 50, 51, 52, 53, 54, 55, 56, 57, 58, 59] (by decide +kernel) (by decide +kernel)
set_option maxRecDepth 20000 in
theorem gX6_fewest_X6_rowTrouble : GoodIn wsX6_fewest (wsV RX6 71 RX6 yX6_rowTrouble wsX6_rowTrouble) := goodIn_app (goodIn_of _ (by decide +kernel)) ggX6_fewest_X6_rowTrouble
set_option maxRecDepth 20000 in
theorem ggX6_fewest_X3_allWithin : GoodIn wsX6_fewest wsX3_allWithin := goodIn_r _ [30, 31, 32, 33, 24, 34, 26, 35, 56, 57, 58, 59] (by decide +kernel) (by decide +kernel)
set_option maxRecDepth 20000 in
theorem gX6_fewest_X3_allWithin : GoodIn wsX6_fewest (wsV RX6 168 RX3 yX3_allWithin wsX3_allWithin) := goodIn_app (goodIn_of _ (by decide +kernel)) ggX6_fewest_X3_allWithin
set_option maxRecDepth 20000 in
theorem ggX6_fewest_X6_fewestWithLast : GoodIn wsX6_fewest wsX6_fewestWithLast := goodIn_r _ [39, 2, 40, 41, 42, 43, 44, 32, 33, 24, 34, 26, 35, 45, 46, 47, 48, 49, 50, 51, 52, 53, 54, 55, 56, 57, 58, 59] (by decide +kernel) (by decide +kernel)
set_option maxRecDepth 20000 in
theorem gX6_fewest_X6_fewestWithLast : GoodIn wsX6_fewest (wsV RX6 182 RX6 yX6_fewestWithLast wsX6_fewestWithLast) := goodIn_app (goodIn_of _ (by decide +kernel)) ggX6_fewest_X6_fewestWithLast
theorem dX6_fewest_0 : decode cX6_fewest 0 = .ok (.iload 4, 2) := by decide +kernel
theorem dX6_fewest_2 : decode cX6_fewest 2 = .ok (.ifCond .lt 27, 3) := by decide +kernel
theorem dX6_fewest_5 : decode cX6_fewest 5 = .ok (.iload 4, 2) := by decide +kernel
theorem dX6_fewest_7 : decode cX6_fewest 7 = .ok (.bipush 8, 2) := by decide +kernel
theorem dX6_fewest_9 : decode cX6_fewest 9 = .ok (.if_icmp .gt 20, 3) := by decide +kernel
theorem dX6_fewest_12 : decode cX6_fewest 12 = .ok (.iload 5, 2) := by decide +kernel
theorem dX6_fewest_14 : decode cX6_fewest 14 = .ok (.ifCond .lt 15, 3) := by decide +kernel
theorem dX6_fewest_17 : decode cX6_fewest 17 = .ok (.iload 5, 2) := by decide +kernel
theorem dX6_fewest_19 : decode cX6_fewest 19 = .ok (.sipush 999, 3) := by decide +kernel
theorem dX6_fewest_22 : decode cX6_fewest 22 = .ok (.if_icmp .gt 7, 3) := by decide +kernel
theorem dX6_fewest_25 : decode cX6_fewest 25 = .ok (.iconst 1, 1) := by decide +kernel
theorem dX6_fewest_26 : decode cX6_fewest 26 = .ok (.goto 4, 3) := by decide +kernel
theorem dX6_fewest_29 : decode cX6_fewest 29 = .ok (.iconst 0, 1) := by decide +kernel
theorem dX6_fewest_30 : decode cX6_fewest 30 = .ok (.istore 6, 2) := by decide +kernel
theorem dX6_fewest_32 : decode cX6_fewest 32 = .ok (.aload_n 0, 1) := by decide +kernel
theorem dX6_fewest_33 : decode cX6_fewest 33 = .ok (.iload_n 1, 1) := by decide +kernel
theorem dX6_fewest_34 : decode cX6_fewest 34 = .ok (.iload_n 2, 1) := by decide +kernel
theorem dX6_fewest_35 : decode cX6_fewest 35 = .ok (.iload_n 3, 1) := by decide +kernel
theorem dX6_fewest_36 : decode cX6_fewest 36 = .ok (.iload 4, 2) := by decide +kernel
theorem dX6_fewest_38 : decode cX6_fewest 38 = .ok (.iload 6, 2) := by decide +kernel
theorem dX6_fewest_40 : decode cX6_fewest 40 = .ok (.invokevirtual 71, 3) := by decide +kernel
theorem dX6_fewest_43 : decode cX6_fewest 43 = .ok (.istore 7, 2) := by decide +kernel
theorem dX6_fewest_45 : decode cX6_fewest 45 = .ok (.iload 7, 2) := by decide +kernel
theorem dX6_fewest_47 : decode cX6_fewest 47 = .ok (.ifCond .eq 6, 3) := by decide +kernel
theorem dX6_fewest_50 : decode cX6_fewest 50 = .ok (.iload 7, 2) := by decide +kernel
theorem dX6_fewest_52 : decode cX6_fewest 52 = .ok (.ireturn, 1) := by decide +kernel
theorem dX6_fewest_53 : decode cX6_fewest 53 = .ok (.aload_n 0, 1) := by decide +kernel
theorem dX6_fewest_54 : decode cX6_fewest 54 = .ok (.getfield 23, 3) := by decide +kernel
theorem dX6_fewest_57 : decode cX6_fewest 57 = .ok (.iload_n 1, 1) := by decide +kernel
theorem dX6_fewest_58 : decode cX6_fewest 58 = .ok (.aaload, 1) := by decide +kernel
theorem dX6_fewest_59 : decode cX6_fewest 59 = .ok (.astore 8, 2) := by decide +kernel
theorem dX6_fewest_61 : decode cX6_fewest 61 = .ok (.aload 8, 2) := by decide +kernel
theorem dX6_fewest_63 : decode cX6_fewest 63 = .ok (.iload_n 3, 1) := by decide +kernel
theorem dX6_fewest_64 : decode cX6_fewest 64 = .ok (.iload 4, 2) := by decide +kernel
theorem dX6_fewest_66 : decode cX6_fewest 66 = .ok (.sipush 999, 3) := by decide +kernel
theorem dX6_fewest_69 : decode cX6_fewest 69 = .ok (.invokevirtual 168, 3) := by decide +kernel
theorem dX6_fewest_72 : decode cX6_fewest 72 = .ok (.ifCond .ne 6, 3) := by decide +kernel
theorem dX6_fewest_75 : decode cX6_fewest 75 = .ok (.bipush (-2), 2) := by decide +kernel
theorem dX6_fewest_77 : decode cX6_fewest 77 = .ok (.ireturn, 1) := by decide +kernel
theorem dX6_fewest_78 : decode cX6_fewest 78 = .ok (.aload_n 0, 1) := by decide +kernel
theorem dX6_fewest_79 : decode cX6_fewest 79 = .ok (.getfield 55, 3) := by decide +kernel
theorem dX6_fewest_82 : decode cX6_fewest 82 = .ok (.iconst 0, 1) := by decide +kernel
theorem dX6_fewest_83 : decode cX6_fewest 83 = .ok (.iconst 0, 1) := by decide +kernel
theorem dX6_fewest_84 : decode cX6_fewest 84 = .ok (.iastore, 1) := by decide +kernel
theorem dX6_fewest_85 : decode cX6_fewest 85 = .ok (.iconst 1, 1) := by decide +kernel
theorem dX6_fewest_86 : decode cX6_fewest 86 = .ok (.istore 9, 2) := by decide +kernel
theorem dX6_fewest_88 : decode cX6_fewest 88 = .ok (.iload 9, 2) := by decide +kernel
theorem dX6_fewest_90 : decode cX6_fewest 90 = .ok (.iload 5, 2) := by decide +kernel
theorem dX6_fewest_92 : decode cX6_fewest 92 = .ok (.if_icmp .gt 27, 3) := by decide +kernel
theorem dX6_fewest_95 : decode cX6_fewest 95 = .ok (.aload_n 0, 1) := by decide +kernel
theorem dX6_fewest_96 : decode cX6_fewest 96 = .ok (.getfield 55, 3) := by decide +kernel
theorem dX6_fewest_99 : decode cX6_fewest 99 = .ok (.iload 9, 2) := by decide +kernel
theorem dX6_fewest_101 : decode cX6_fewest 101 = .ok (.aload_n 0, 1) := by decide +kernel
theorem dX6_fewest_102 : decode cX6_fewest 102 = .ok (.aload 8, 2) := by decide +kernel
theorem dX6_fewest_104 : decode cX6_fewest 104 = .ok (.iload_n 3, 1) := by decide +kernel
theorem dX6_fewest_105 : decode cX6_fewest 105 = .ok (.iload 4, 2) := by decide +kernel
theorem dX6_fewest_107 : decode cX6_fewest 107 = .ok (.iload 9, 2) := by decide +kernel
theorem dX6_fewest_109 : decode cX6_fewest 109 = .ok (.invokevirtual 182, 3) := by decide +kernel
theorem dX6_fewest_112 : decode cX6_fewest 112 = .ok (.iastore, 1) := by decide +kernel
theorem dX6_fewest_113 : decode cX6_fewest 113 = .ok (.iinc 9 1, 3) := by decide +kernel
theorem dX6_fewest_116 : decode cX6_fewest 116 = .ok (.goto (-28), 3) := by decide +kernel
theorem dX6_fewest_119 : decode cX6_fewest 119 = .ok (.aload_n 0, 1) := by decide +kernel
theorem dX6_fewest_120 : decode cX6_fewest 120 = .ok (.getfield 55, 3) := by decide +kernel
theorem dX6_fewest_123 : decode cX6_fewest 123 = .ok (.iload 5, 2) := by decide +kernel
theorem dX6_fewest_125 : decode cX6_fewest 125 = .ok (.iaload, 1) := by decide +kernel
theorem dX6_fewest_126 : decode cX6_fewest 126 = .ok (.ireturn, 1) := by decide +kernel
set_option maxRecDepth 20000 in
theorem ggX6_fewestWithLast_X3_at : GoodIn wsX6_fewestWithLast wsX3_at := goodIn_r _ [10, 11, 12, 24, 25, 26, 27] (by decide +kernel) (by decide +kernel)
set_option maxRecDepth 20000 in
theorem gX6_fewestWithLast_X3_at : GoodIn wsX6_fewestWithLast (wsV RX6 152 RX3 yX3_at wsX3_at) := goodIn_app (goodIn_of _ (by decide +kernel)) ggX6_fewestWithLast_X3_at
theorem dX6_fewestWithLast_0 : decode cX6_fewestWithLast 0 = .ok (.bipush (-9), 2) := by decide +kernel
theorem dX6_fewestWithLast_2 : decode cX6_fewestWithLast 2 = .ok (.istore 5, 2) := by decide +kernel
theorem dX6_fewestWithLast_4 : decode cX6_fewestWithLast 4 = .ok (.iconst 0, 1) := by decide +kernel
theorem dX6_fewestWithLast_5 : decode cX6_fewestWithLast 5 = .ok (.istore 6, 2) := by decide +kernel
theorem dX6_fewestWithLast_7 : decode cX6_fewestWithLast 7 = .ok (.iload 6, 2) := by decide +kernel
theorem dX6_fewestWithLast_9 : decode cX6_fewestWithLast 9 = .ok (.iload_n 3, 1) := by decide +kernel
theorem dX6_fewestWithLast_10 : decode cX6_fewestWithLast 10 = .ok (.if_icmp .ge 81, 3) := by decide +kernel
theorem dX6_fewestWithLast_13 : decode cX6_fewestWithLast 13 = .ok (.aload_n 1, 1) := by decide +kernel
theorem dX6_fewestWithLast_14 : decode cX6_fewestWithLast 14 = .ok (.iload_n 2, 1) := by decide +kernel
theorem dX6_fewestWithLast_15 : decode cX6_fewestWithLast 15 = .ok (.iload 6, 2) := by decide +kernel
theorem dX6_fewestWithLast_17 : decode cX6_fewestWithLast 17 = .ok (.iadd, 1) := by decide +kernel
theorem dX6_fewestWithLast_18 : decode cX6_fewestWithLast 18 = .ok (.invokevirtual 152, 3) := by decide +kernel
theorem dX6_fewestWithLast_21 : decode cX6_fewestWithLast 21 = .ok (.istore 7, 2) := by decide +kernel
theorem dX6_fewestWithLast_23 : decode cX6_fewestWithLast 23 = .ok (.iload 7, 2) := by decide +kernel
theorem dX6_fewestWithLast_25 : decode cX6_fewestWithLast 25 = .ok (.ifCond .le 60, 3) := by decide +kernel
theorem dX6_fewestWithLast_28 : decode cX6_fewestWithLast 28 = .ok (.iload 7, 2) := by decide +kernel
theorem dX6_fewestWithLast_30 : decode cX6_fewestWithLast 30 = .ok (.iload 4, 2) := by decide +kernel
theorem dX6_fewestWithLast_32 : decode cX6_fewestWithLast 32 = .ok (.if_icmp .gt 53, 3) := by decide +kernel
theorem dX6_fewestWithLast_35 : decode cX6_fewestWithLast 35 = .ok (.aload_n 0, 1) := by decide +kernel
theorem dX6_fewestWithLast_36 : decode cX6_fewestWithLast 36 = .ok (.getfield 55, 3) := by decide +kernel
theorem dX6_fewestWithLast_39 : decode cX6_fewestWithLast 39 = .ok (.iload 4, 2) := by decide +kernel
theorem dX6_fewestWithLast_41 : decode cX6_fewestWithLast 41 = .ok (.iload 7, 2) := by decide +kernel
theorem dX6_fewestWithLast_43 : decode cX6_fewestWithLast 43 = .ok (.isub, 1) := by decide +kernel
theorem dX6_fewestWithLast_44 : decode cX6_fewestWithLast 44 = .ok (.iaload, 1) := by decide +kernel
theorem dX6_fewestWithLast_45 : decode cX6_fewestWithLast 45 = .ok (.bipush (-9), 2) := by decide +kernel
theorem dX6_fewestWithLast_47 : decode cX6_fewestWithLast 47 = .ok (.if_icmp .eq 38, 3) := by decide +kernel
theorem dX6_fewestWithLast_50 : decode cX6_fewestWithLast 50 = .ok (.aload_n 0, 1) := by decide +kernel
theorem dX6_fewestWithLast_51 : decode cX6_fewestWithLast 51 = .ok (.getfield 55, 3) := by decide +kernel
theorem dX6_fewestWithLast_54 : decode cX6_fewestWithLast 54 = .ok (.iload 4, 2) := by decide +kernel
theorem dX6_fewestWithLast_56 : decode cX6_fewestWithLast 56 = .ok (.iload 7, 2) := by decide +kernel
theorem dX6_fewestWithLast_58 : decode cX6_fewestWithLast 58 = .ok (.isub, 1) := by decide +kernel
theorem dX6_fewestWithLast_59 : decode cX6_fewestWithLast 59 = .ok (.iaload, 1) := by decide +kernel
theorem dX6_fewestWithLast_60 : decode cX6_fewestWithLast 60 = .ok (.iconst 1, 1) := by decide +kernel
theorem dX6_fewestWithLast_61 : decode cX6_fewestWithLast 61 = .ok (.iadd, 1) := by decide +kernel
theorem dX6_fewestWithLast_62 : decode cX6_fewestWithLast 62 = .ok (.istore 8, 2) := by decide +kernel
theorem dX6_fewestWithLast_64 : decode cX6_fewestWithLast 64 = .ok (.iload 5, 2) := by decide +kernel
theorem dX6_fewestWithLast_66 : decode cX6_fewestWithLast 66 = .ok (.bipush (-9), 2) := by decide +kernel
theorem dX6_fewestWithLast_68 : decode cX6_fewestWithLast 68 = .ok (.if_icmp .ne 8, 3) := by decide +kernel
theorem dX6_fewestWithLast_71 : decode cX6_fewestWithLast 71 = .ok (.iload 8, 2) := by decide +kernel
theorem dX6_fewestWithLast_73 : decode cX6_fewestWithLast 73 = .ok (.goto 10, 3) := by decide +kernel
theorem dX6_fewestWithLast_76 : decode cX6_fewestWithLast 76 = .ok (.iload 5, 2) := by decide +kernel
theorem dX6_fewestWithLast_78 : decode cX6_fewestWithLast 78 = .ok (.iload 8, 2) := by decide +kernel
theorem dX6_fewestWithLast_80 : decode cX6_fewestWithLast 80 = .ok (.invokestatic 186, 3) := by decide +kernel
theorem dX6_fewestWithLast_83 : decode cX6_fewestWithLast 83 = .ok (.istore 5, 2) := by decide +kernel
theorem dX6_fewestWithLast_85 : decode cX6_fewestWithLast 85 = .ok (.iinc 6 1, 3) := by decide +kernel
theorem dX6_fewestWithLast_88 : decode cX6_fewestWithLast 88 = .ok (.goto (-81), 3) := by decide +kernel
theorem dX6_fewestWithLast_91 : decode cX6_fewestWithLast 91 = .ok (.iload 5, 2) := by decide +kernel
theorem dX6_fewestWithLast_93 : decode cX6_fewestWithLast 93 = .ok (.ireturn, 1) := by decide +kernel
set_option maxRecDepth 20000 in
theorem ggX6_added_X6_rowTrouble : GoodIn wsX6_added wsX6_rowTrouble := goodIn_r _ [8, 9, 3, 10, 11, 12, 13, 7, 14, 15, 16, 17, 18, 19, 20, 21, 22, 23, 24, 25, 26, 27, 64, 65, 66, 67, 68, 69, 70, 71, 72, 73, 74, 82, 83, 84, 85] (by decide +kernel) (by decide +kernel)
set_option maxRecDepth 20000 in
theorem gX6_added_X6_rowTrouble : GoodIn wsX6_added (wsV RX6 71 RX6 yX6_rowTrouble wsX6_rowTrouble) := goodIn_app (goodIn_of _ (by decide +kernel)) ggX6_added_X6_rowTrouble
set_option maxRecDepth 20000 in
theorem ggX6_added_X3_at : GoodIn wsX6_added wsX3_at := goodIn_r _ [31, 27, 32, 82, 83, 84, 85] (by decide +kernel) (by decide +kernel)
set_option maxRecDepth 20000 in
theorem gX6_added_X3_at : GoodIn wsX6_added (wsV RX6 152 RX3 yX3_at wsX3_at) := goodIn_app (goodIn_of _ (by decide +kernel)) ggX6_added_X3_at
set_option maxRecDepth 20000 in
theorem ggX6_added_X5_has : GoodIn wsX6_added wsX5_has := goodIn_r _ [37, 38, 75, 76, 77, 78, 79, 80, 81] (by decide +kernel) (by decide +kernel)
set_option maxRecDepth 20000 in
theorem gX6_added_X5_has : GoodIn wsX6_added (wsV RX6 90 RX5 yX5_has wsX5_has) := goodIn_app (goodIn_of _ (by decide +kernel)) ggX6_added_X5_has
set_option maxRecDepth 20000 in
theorem ggX6_added_X6_ofAdded : GoodIn wsX6_added wsX6_ofAdded := goodIn_r _ [42, 1, 43, 44, 45, 46, 47, 48, 49, 50, 36, 51, 38, 52, 53, 54, 55, 56, 7, 57, 28, 29, 30, 25, 31, 27, 32, 58, 59, 60, 61, 62, 63, 34, 35, 37, 64, 65, 66, 67, 68, 69, 70, 71, 72, 73, 74, 75, 76, 77, 78, 79, 80, 81, 82, 83, 84, 85] (by decide +kernel) (by decide +kernel)
set_option maxRecDepth 20000 in
theorem gX6_added_X6_ofAdded : GoodIn wsX6_added (wsV RX6 191 RX6 yX6_ofAdded wsX6_ofAdded) := goodIn_app (goodIn_of _ (by decide +kernel)) ggX6_added_X6_ofAdded
theorem dX6_added_0 : decode cX6_added 0 = .ok (.iload 4, 2) := by decide +kernel
theorem dX6_added_2 : decode cX6_added 2 = .ok (.ifCond .lt 25, 3) := by decide +kernel
theorem dX6_added_5 : decode cX6_added 5 = .ok (.iload 4, 2) := by decide +kernel
theorem dX6_added_7 : decode cX6_added 7 = .ok (.bipush 10, 2) := by decide +kernel
theorem dX6_added_9 : decode cX6_added 9 = .ok (.if_icmp .gt 18, 3) := by decide +kernel
theorem dX6_added_12 : decode cX6_added 12 = .ok (.iload 5, 2) := by decide +kernel
theorem dX6_added_14 : decode cX6_added 14 = .ok (.ifCond .lt 13, 3) := by decide +kernel
theorem dX6_added_17 : decode cX6_added 17 = .ok (.iload 5, 2) := by decide +kernel
theorem dX6_added_19 : decode cX6_added 19 = .ok (.iconst 2, 1) := by decide +kernel
theorem dX6_added_20 : decode cX6_added 20 = .ok (.if_icmp .gt 7, 3) := by decide +kernel
theorem dX6_added_23 : decode cX6_added 23 = .ok (.iconst 1, 1) := by decide +kernel
theorem dX6_added_24 : decode cX6_added 24 = .ok (.goto 4, 3) := by decide +kernel
theorem dX6_added_27 : decode cX6_added 27 = .ok (.iconst 0, 1) := by decide +kernel
theorem dX6_added_28 : decode cX6_added 28 = .ok (.istore 6, 2) := by decide +kernel
theorem dX6_added_30 : decode cX6_added 30 = .ok (.aload_n 0, 1) := by decide +kernel
theorem dX6_added_31 : decode cX6_added 31 = .ok (.iload_n 1, 1) := by decide +kernel
theorem dX6_added_32 : decode cX6_added 32 = .ok (.iload_n 2, 1) := by decide +kernel
theorem dX6_added_33 : decode cX6_added 33 = .ok (.iload_n 3, 1) := by decide +kernel
theorem dX6_added_34 : decode cX6_added 34 = .ok (.iconst 2, 1) := by decide +kernel
theorem dX6_added_35 : decode cX6_added 35 = .ok (.iload 4, 2) := by decide +kernel
theorem dX6_added_37 : decode cX6_added 37 = .ok (.imul, 1) := by decide +kernel
theorem dX6_added_38 : decode cX6_added 38 = .ok (.iload 6, 2) := by decide +kernel
theorem dX6_added_40 : decode cX6_added 40 = .ok (.invokevirtual 71, 3) := by decide +kernel
theorem dX6_added_43 : decode cX6_added 43 = .ok (.istore 7, 2) := by decide +kernel
theorem dX6_added_45 : decode cX6_added 45 = .ok (.iload 7, 2) := by decide +kernel
theorem dX6_added_47 : decode cX6_added 47 = .ok (.ifCond .eq 6, 3) := by decide +kernel
theorem dX6_added_50 : decode cX6_added 50 = .ok (.iload 7, 2) := by decide +kernel
theorem dX6_added_52 : decode cX6_added 52 = .ok (.ireturn, 1) := by decide +kernel
theorem dX6_added_53 : decode cX6_added 53 = .ok (.aload_n 0, 1) := by decide +kernel
theorem dX6_added_54 : decode cX6_added 54 = .ok (.getfield 12, 3) := by decide +kernel
theorem dX6_added_57 : decode cX6_added 57 = .ok (.getfield 89, 3) := by decide +kernel
theorem dX6_added_60 : decode cX6_added 60 = .ok (.ifCond .ne 6, 3) := by decide +kernel
theorem dX6_added_63 : decode cX6_added 63 = .ok (.bipush (-3), 2) := by decide +kernel
theorem dX6_added_65 : decode cX6_added 65 = .ok (.ireturn, 1) := by decide +kernel
theorem dX6_added_66 : decode cX6_added 66 = .ok (.aload_n 0, 1) := by decide +kernel
theorem dX6_added_67 : decode cX6_added 67 = .ok (.getfield 23, 3) := by decide +kernel
theorem dX6_added_70 : decode cX6_added 70 = .ok (.iload_n 1, 1) := by decide +kernel
theorem dX6_added_71 : decode cX6_added 71 = .ok (.aaload, 1) := by decide +kernel
theorem dX6_added_72 : decode cX6_added 72 = .ok (.astore 8, 2) := by decide +kernel
theorem dX6_added_74 : decode cX6_added 74 = .ok (.iconst 0, 1) := by decide +kernel
theorem dX6_added_75 : decode cX6_added 75 = .ok (.istore 9, 2) := by decide +kernel
theorem dX6_added_77 : decode cX6_added 77 = .ok (.iload 9, 2) := by decide +kernel
theorem dX6_added_79 : decode cX6_added 79 = .ok (.iload 4, 2) := by decide +kernel
theorem dX6_added_81 : decode cX6_added 81 = .ok (.if_icmp .ge 32, 3) := by decide +kernel
theorem dX6_added_84 : decode cX6_added 84 = .ok (.aload_n 0, 1) := by decide +kernel
theorem dX6_added_85 : decode cX6_added 85 = .ok (.getfield 12, 3) := by decide +kernel
theorem dX6_added_88 : decode cX6_added 88 = .ok (.aload 8, 2) := by decide +kernel
theorem dX6_added_90 : decode cX6_added 90 = .ok (.iload_n 3, 1) := by decide +kernel
theorem dX6_added_91 : decode cX6_added 91 = .ok (.iconst 2, 1) := by decide +kernel
theorem dX6_added_92 : decode cX6_added 92 = .ok (.iload 9, 2) := by decide +kernel
theorem dX6_added_94 : decode cX6_added 94 = .ok (.imul, 1) := by decide +kernel
theorem dX6_added_95 : decode cX6_added 95 = .ok (.iadd, 1) := by decide +kernel
theorem dX6_added_96 : decode cX6_added 96 = .ok (.invokevirtual 152, 3) := by decide +kernel
theorem dX6_added_99 : decode cX6_added 99 = .ok (.invokevirtual 90, 3) := by decide +kernel
theorem dX6_added_102 : decode cX6_added 102 = .ok (.ifCond .ne 5, 3) := by decide +kernel
theorem dX6_added_105 : decode cX6_added 105 = .ok (.iconst (-1), 1) := by decide +kernel
theorem dX6_added_106 : decode cX6_added 106 = .ok (.ireturn, 1) := by decide +kernel
theorem dX6_added_107 : decode cX6_added 107 = .ok (.iinc 9 1, 3) := by decide +kernel
theorem dX6_added_110 : decode cX6_added 110 = .ok (.goto (-33), 3) := by decide +kernel
theorem dX6_added_113 : decode cX6_added 113 = .ok (.aload_n 0, 1) := by decide +kernel
theorem dX6_added_114 : decode cX6_added 114 = .ok (.aload 8, 2) := by decide +kernel
theorem dX6_added_116 : decode cX6_added 116 = .ok (.iload_n 3, 1) := by decide +kernel
theorem dX6_added_117 : decode cX6_added 117 = .ok (.iload 4, 2) := by decide +kernel
theorem dX6_added_119 : decode cX6_added 119 = .ok (.iload 5, 2) := by decide +kernel
theorem dX6_added_121 : decode cX6_added 121 = .ok (.invokevirtual 191, 3) := by decide +kernel
theorem dX6_added_124 : decode cX6_added 124 = .ok (.ireturn, 1) := by decide +kernel
set_option maxRecDepth 20000 in
theorem ggX6_ofAdded_X5_numberNow : GoodIn wsX6_ofAdded wsX5_numberNow := goodIn_r _ [11, 12, 13, 14, 47, 48, 49, 50, 51, 52, 53] (by decide +kernel) (by decide +kernel)
set_option maxRecDepth 20000 in
theorem gX6_ofAdded_X5_numberNow : GoodIn wsX6_ofAdded (wsV RX6 109 RX5 yX5_numberNow wsX5_numberNow) := goodIn_app (goodIn_of _ (by decide +kernel)) ggX6_ofAdded_X5_numberNow
set_option maxRecDepth 20000 in
theorem ggX6_ofAdded_X6_standsSo : GoodIn wsX6_ofAdded wsX6_standsSo := goodIn_r _ [19, 1, 20, 21, 22, 23, 24, 25, 26, 27, 28, 29, 10, 30, 14, 31, 32, 33, 34, 35, 12, 36, 37, 38, 39, 40, 41, 42, 43, 44, 45, 46, 54, 55, 56, 57, 47, 48, 49, 50, 51, 52, 53] (by decide +kernel) (by decide +kernel)
set_option maxRecDepth 20000 in
theorem gX6_ofAdded_X6_standsSo : GoodIn wsX6_ofAdded (wsV RX6 194 RX6 yX6_standsSo wsX6_standsSo) := goodIn_app (goodIn_of _ (by decide +kernel)) ggX6_ofAdded_X6_standsSo
theorem dX6_ofAdded_0 : decode cX6_ofAdded 0 = .ok (.aload_n 0, 1) := by decide +kernel
theorem dX6_ofAdded_1 : decode cX6_ofAdded 1 = .ok (.getfield 12, 3) := by decide +kernel
theorem dX6_ofAdded_4 : decode cX6_ofAdded 4 = .ok (.invokevirtual 109, 3) := by decide +kernel
theorem dX6_ofAdded_7 : decode cX6_ofAdded 7 = .ok (.istore 5, 2) := by decide +kernel
theorem dX6_ofAdded_9 : decode cX6_ofAdded 9 = .ok (.sipush 999, 3) := by decide +kernel
theorem dX6_ofAdded_12 : decode cX6_ofAdded 12 = .ok (.aload_n 0, 1) := by decide +kernel
theorem dX6_ofAdded_13 : decode cX6_ofAdded 13 = .ok (.getfield 12, 3) := by decide +kernel
theorem dX6_ofAdded_16 : decode cX6_ofAdded 16 = .ok (.getfield 113, 3) := by decide +kernel
theorem dX6_ofAdded_19 : decode cX6_ofAdded 19 = .ok (.iload 5, 2) := by decide +kernel
theorem dX6_ofAdded_21 : decode cX6_ofAdded 21 = .ok (.isub, 1) := by decide +kernel
theorem dX6_ofAdded_22 : decode cX6_ofAdded 22 = .ok (.invokestatic 186, 3) := by decide +kernel
theorem dX6_ofAdded_25 : decode cX6_ofAdded 25 = .ok (.istore 6, 2) := by decide +kernel
theorem dX6_ofAdded_27 : decode cX6_ofAdded 27 = .ok (.iconst 0, 1) := by decide +kernel
theorem dX6_ofAdded_28 : decode cX6_ofAdded 28 = .ok (.istore 7, 2) := by decide +kernel
theorem dX6_ofAdded_30 : decode cX6_ofAdded 30 = .ok (.bipush (-9), 2) := by decide +kernel
theorem dX6_ofAdded_32 : decode cX6_ofAdded 32 = .ok (.istore 8, 2) := by decide +kernel
theorem dX6_ofAdded_34 : decode cX6_ofAdded 34 = .ok (.bipush (-9), 2) := by decide +kernel
theorem dX6_ofAdded_36 : decode cX6_ofAdded 36 = .ok (.istore 9, 2) := by decide +kernel
theorem dX6_ofAdded_38 : decode cX6_ofAdded 38 = .ok (.iconst 0, 1) := by decide +kernel
theorem dX6_ofAdded_39 : decode cX6_ofAdded 39 = .ok (.istore 10, 2) := by decide +kernel
theorem dX6_ofAdded_41 : decode cX6_ofAdded 41 = .ok (.iload 10, 2) := by decide +kernel
theorem dX6_ofAdded_43 : decode cX6_ofAdded 43 = .ok (.iload 6, 2) := by decide +kernel
theorem dX6_ofAdded_45 : decode cX6_ofAdded 45 = .ok (.if_icmp .gt 47, 3) := by decide +kernel
theorem dX6_ofAdded_48 : decode cX6_ofAdded 48 = .ok (.aload_n 0, 1) := by decide +kernel
theorem dX6_ofAdded_49 : decode cX6_ofAdded 49 = .ok (.aload_n 1, 1) := by decide +kernel
theorem dX6_ofAdded_50 : decode cX6_ofAdded 50 = .ok (.iload_n 2, 1) := by decide +kernel
theorem dX6_ofAdded_51 : decode cX6_ofAdded 51 = .ok (.iload_n 3, 1) := by decide +kernel
theorem dX6_ofAdded_52 : decode cX6_ofAdded 52 = .ok (.iload 5, 2) := by decide +kernel
theorem dX6_ofAdded_54 : decode cX6_ofAdded 54 = .ok (.iload 10, 2) := by decide +kernel
theorem dX6_ofAdded_56 : decode cX6_ofAdded 56 = .ok (.iadd, 1) := by decide +kernel
theorem dX6_ofAdded_57 : decode cX6_ofAdded 57 = .ok (.invokevirtual 194, 3) := by decide +kernel
theorem dX6_ofAdded_60 : decode cX6_ofAdded 60 = .ok (.ifCond .eq 26, 3) := by decide +kernel
theorem dX6_ofAdded_63 : decode cX6_ofAdded 63 = .ok (.iinc 7 1, 3) := by decide +kernel
theorem dX6_ofAdded_66 : decode cX6_ofAdded 66 = .ok (.iload 8, 2) := by decide +kernel
theorem dX6_ofAdded_68 : decode cX6_ofAdded 68 = .ok (.bipush (-9), 2) := by decide +kernel
theorem dX6_ofAdded_70 : decode cX6_ofAdded 70 = .ok (.if_icmp .ne 8, 3) := by decide +kernel
theorem dX6_ofAdded_73 : decode cX6_ofAdded 73 = .ok (.iload 10, 2) := by decide +kernel
theorem dX6_ofAdded_75 : decode cX6_ofAdded 75 = .ok (.goto 5, 3) := by decide +kernel
theorem dX6_ofAdded_78 : decode cX6_ofAdded 78 = .ok (.iload 8, 2) := by decide +kernel
theorem dX6_ofAdded_80 : decode cX6_ofAdded 80 = .ok (.istore 8, 2) := by decide +kernel
theorem dX6_ofAdded_82 : decode cX6_ofAdded 82 = .ok (.iload 10, 2) := by decide +kernel
theorem dX6_ofAdded_84 : decode cX6_ofAdded 84 = .ok (.istore 9, 2) := by decide +kernel
theorem dX6_ofAdded_86 : decode cX6_ofAdded 86 = .ok (.iinc 10 1, 3) := by decide +kernel
theorem dX6_ofAdded_89 : decode cX6_ofAdded 89 = .ok (.goto (-48), 3) := by decide +kernel
theorem dX6_ofAdded_92 : decode cX6_ofAdded 92 = .ok (.iload 4, 2) := by decide +kernel
theorem dX6_ofAdded_94 : decode cX6_ofAdded 94 = .ok (.ifCond .ne 6, 3) := by decide +kernel
theorem dX6_ofAdded_97 : decode cX6_ofAdded 97 = .ok (.iload 7, 2) := by decide +kernel
theorem dX6_ofAdded_99 : decode cX6_ofAdded 99 = .ok (.ireturn, 1) := by decide +kernel
theorem dX6_ofAdded_100 : decode cX6_ofAdded 100 = .ok (.iload 4, 2) := by decide +kernel
theorem dX6_ofAdded_102 : decode cX6_ofAdded 102 = .ok (.iconst 1, 1) := by decide +kernel
theorem dX6_ofAdded_103 : decode cX6_ofAdded 103 = .ok (.if_icmp .ne 8, 3) := by decide +kernel
theorem dX6_ofAdded_106 : decode cX6_ofAdded 106 = .ok (.iload 8, 2) := by decide +kernel
theorem dX6_ofAdded_108 : decode cX6_ofAdded 108 = .ok (.goto 5, 3) := by decide +kernel
theorem dX6_ofAdded_111 : decode cX6_ofAdded 111 = .ok (.iload 9, 2) := by decide +kernel
theorem dX6_ofAdded_113 : decode cX6_ofAdded 113 = .ok (.ireturn, 1) := by decide +kernel
set_option maxRecDepth 20000 in
theorem ggX6_standsSo_X3_at : GoodIn wsX6_standsSo wsX3_at := goodIn_r _ [6, 7, 8, 32, 33, 34, 35] (by decide +kernel) (by decide +kernel)
set_option maxRecDepth 20000 in
theorem gX6_standsSo_X3_at : GoodIn wsX6_standsSo (wsV RX6 152 RX3 yX3_at wsX3_at) := goodIn_app (goodIn_of _ (by decide +kernel)) ggX6_standsSo_X3_at
set_option maxRecDepth 20000 in
theorem ggX6_standsSo_X5_figureOf : GoodIn wsX6_standsSo wsX5_figureOf := goodIn_r _ [13, 14, 15, 16, 17, 18, 12, 19, 20, 36, 37, 38, 39, 40, 41, 42] (by decide +kernel) (by decide +kernel)
set_option maxRecDepth 20000 in
theorem gX6_standsSo_X5_figureOf : GoodIn wsX6_standsSo (wsV RX6 119 RX5 yX5_figureOf wsX5_figureOf) := goodIn_app (goodIn_of _ (by decide +kernel)) ggX6_standsSo_X5_figureOf
theorem dX6_standsSo_0 : decode cX6_standsSo 0 = .ok (.iconst 0, 1) := by decide +kernel
theorem dX6_standsSo_1 : decode cX6_standsSo 1 = .ok (.istore 5, 2) := by decide +kernel
theorem dX6_standsSo_3 : decode cX6_standsSo 3 = .ok (.iload 5, 2) := by decide +kernel
theorem dX6_standsSo_5 : decode cX6_standsSo 5 = .ok (.iload_n 3, 1) := by decide +kernel
theorem dX6_standsSo_6 : decode cX6_standsSo 6 = .ok (.if_icmp .ge 45, 3) := by decide +kernel
theorem dX6_standsSo_9 : decode cX6_standsSo 9 = .ok (.aload_n 0, 1) := by decide +kernel
theorem dX6_standsSo_10 : decode cX6_standsSo 10 = .ok (.getfield 12, 3) := by decide +kernel
theorem dX6_standsSo_13 : decode cX6_standsSo 13 = .ok (.aload_n 1, 1) := by decide +kernel
theorem dX6_standsSo_14 : decode cX6_standsSo 14 = .ok (.iload_n 2, 1) := by decide +kernel
theorem dX6_standsSo_15 : decode cX6_standsSo 15 = .ok (.iconst 2, 1) := by decide +kernel
theorem dX6_standsSo_16 : decode cX6_standsSo 16 = .ok (.iload 5, 2) := by decide +kernel
theorem dX6_standsSo_18 : decode cX6_standsSo 18 = .ok (.imul, 1) := by decide +kernel
theorem dX6_standsSo_19 : decode cX6_standsSo 19 = .ok (.iadd, 1) := by decide +kernel
theorem dX6_standsSo_20 : decode cX6_standsSo 20 = .ok (.invokevirtual 152, 3) := by decide +kernel
theorem dX6_standsSo_23 : decode cX6_standsSo 23 = .ok (.iload 4, 2) := by decide +kernel
theorem dX6_standsSo_25 : decode cX6_standsSo 25 = .ok (.invokevirtual 119, 3) := by decide +kernel
theorem dX6_standsSo_28 : decode cX6_standsSo 28 = .ok (.aload_n 1, 1) := by decide +kernel
theorem dX6_standsSo_29 : decode cX6_standsSo 29 = .ok (.iload_n 2, 1) := by decide +kernel
theorem dX6_standsSo_30 : decode cX6_standsSo 30 = .ok (.iconst 2, 1) := by decide +kernel
theorem dX6_standsSo_31 : decode cX6_standsSo 31 = .ok (.iload 5, 2) := by decide +kernel
theorem dX6_standsSo_33 : decode cX6_standsSo 33 = .ok (.imul, 1) := by decide +kernel
theorem dX6_standsSo_34 : decode cX6_standsSo 34 = .ok (.iadd, 1) := by decide +kernel
theorem dX6_standsSo_35 : decode cX6_standsSo 35 = .ok (.iconst 1, 1) := by decide +kernel
theorem dX6_standsSo_36 : decode cX6_standsSo 36 = .ok (.iadd, 1) := by decide +kernel
theorem dX6_standsSo_37 : decode cX6_standsSo 37 = .ok (.invokevirtual 152, 3) := by decide +kernel
theorem dX6_standsSo_40 : decode cX6_standsSo 40 = .ok (.if_icmp .eq 5, 3) := by decide +kernel
theorem dX6_standsSo_43 : decode cX6_standsSo 43 = .ok (.iconst 0, 1) := by decide +kernel
theorem dX6_standsSo_44 : decode cX6_standsSo 44 = .ok (.ireturn, 1) := by decide +kernel
theorem dX6_standsSo_45 : decode cX6_standsSo 45 = .ok (.iinc 5 1, 3) := by decide +kernel
theorem dX6_standsSo_48 : decode cX6_standsSo 48 = .ok (.goto (-45), 3) := by decide +kernel
theorem dX6_standsSo_51 : decode cX6_standsSo 51 = .ok (.iconst 1, 1) := by decide +kernel
theorem dX6_standsSo_52 : decode cX6_standsSo 52 = .ok (.ireturn, 1) := by decide +kernel
theorem dX6_turn_0 : decode cX6_turn 0 = .ok (.iload_n 1, 1) := by decide +kernel
theorem dX6_turn_1 : decode cX6_turn 1 = .ok (.ifCond .lt 8, 3) := by decide +kernel
theorem dX6_turn_4 : decode cX6_turn 4 = .ok (.iload_n 1, 1) := by decide +kernel
theorem dX6_turn_5 : decode cX6_turn 5 = .ok (.iconst 1, 1) := by decide +kernel
theorem dX6_turn_6 : decode cX6_turn 6 = .ok (.if_icmp .le 6, 3) := by decide +kernel
theorem dX6_turn_9 : decode cX6_turn 9 = .ok (.bipush (-2), 2) := by decide +kernel
theorem dX6_turn_11 : decode cX6_turn 11 = .ok (.ireturn, 1) := by decide +kernel
theorem dX6_turn_12 : decode cX6_turn 12 = .ok (.aload_n 0, 1) := by decide +kernel
theorem dX6_turn_13 : decode cX6_turn 13 = .ok (.getfield 12, 3) := by decide +kernel
theorem dX6_turn_16 : decode cX6_turn 16 = .ok (.getfield 89, 3) := by decide +kernel
theorem dX6_turn_19 : decode cX6_turn 19 = .ok (.ifCond .ne 6, 3) := by decide +kernel
theorem dX6_turn_22 : decode cX6_turn 22 = .ok (.bipush (-3), 2) := by decide +kernel
theorem dX6_turn_24 : decode cX6_turn 24 = .ok (.ireturn, 1) := by decide +kernel
theorem dX6_turn_25 : decode cX6_turn 25 = .ok (.iconst 0, 1) := by decide +kernel
theorem dX6_turn_26 : decode cX6_turn 26 = .ok (.istore_n 2, 1) := by decide +kernel
theorem dX6_turn_27 : decode cX6_turn 27 = .ok (.iconst 0, 1) := by decide +kernel
theorem dX6_turn_28 : decode cX6_turn 28 = .ok (.istore_n 3, 1) := by decide +kernel
theorem dX6_turn_29 : decode cX6_turn 29 = .ok (.iload_n 3, 1) := by decide +kernel
theorem dX6_turn_30 : decode cX6_turn 30 = .ok (.aload_n 0, 1) := by decide +kernel
theorem dX6_turn_31 : decode cX6_turn 31 = .ok (.getfield 12, 3) := by decide +kernel
theorem dX6_turn_34 : decode cX6_turn 34 = .ok (.getfield 89, 3) := by decide +kernel
theorem dX6_turn_37 : decode cX6_turn 37 = .ok (.if_icmp .ge 21, 3) := by decide +kernel
theorem dX6_turn_40 : decode cX6_turn 40 = .ok (.iload_n 2, 1) := by decide +kernel
theorem dX6_turn_41 : decode cX6_turn 41 = .ok (.aload_n 0, 1) := by decide +kernel
theorem dX6_turn_42 : decode cX6_turn 42 = .ok (.getfield 12, 3) := by decide +kernel
theorem dX6_turn_45 : decode cX6_turn 45 = .ok (.getfield 103, 3) := by decide +kernel
theorem dX6_turn_48 : decode cX6_turn 48 = .ok (.iload_n 3, 1) := by decide +kernel
theorem dX6_turn_49 : decode cX6_turn 49 = .ok (.iaload, 1) := by decide +kernel
theorem dX6_turn_50 : decode cX6_turn 50 = .ok (.ixor, 1) := by decide +kernel
theorem dX6_turn_51 : decode cX6_turn 51 = .ok (.istore_n 2, 1) := by decide +kernel
theorem dX6_turn_52 : decode cX6_turn 52 = .ok (.iinc 3 1, 3) := by decide +kernel
theorem dX6_turn_55 : decode cX6_turn 55 = .ok (.goto (-26), 3) := by decide +kernel
theorem dX6_turn_58 : decode cX6_turn 58 = .ok (.iconst 0, 1) := by decide +kernel
theorem dX6_turn_59 : decode cX6_turn 59 = .ok (.istore_n 3, 1) := by decide +kernel
theorem dX6_turn_60 : decode cX6_turn 60 = .ok (.iload_n 3, 1) := by decide +kernel
theorem dX6_turn_61 : decode cX6_turn 61 = .ok (.aload_n 0, 1) := by decide +kernel
theorem dX6_turn_62 : decode cX6_turn 62 = .ok (.getfield 12, 3) := by decide +kernel
theorem dX6_turn_65 : decode cX6_turn 65 = .ok (.getfield 89, 3) := by decide +kernel
theorem dX6_turn_68 : decode cX6_turn 68 = .ok (.if_icmp .ge 47, 3) := by decide +kernel
theorem dX6_turn_71 : decode cX6_turn 71 = .ok (.aload_n 0, 1) := by decide +kernel
theorem dX6_turn_72 : decode cX6_turn 72 = .ok (.getfield 12, 3) := by decide +kernel
theorem dX6_turn_75 : decode cX6_turn 75 = .ok (.getfield 103, 3) := by decide +kernel
theorem dX6_turn_78 : decode cX6_turn 78 = .ok (.iload_n 3, 1) := by decide +kernel
theorem dX6_turn_79 : decode cX6_turn 79 = .ok (.iaload, 1) := by decide +kernel
theorem dX6_turn_80 : decode cX6_turn 80 = .ok (.iload_n 2, 1) := by decide +kernel
theorem dX6_turn_81 : decode cX6_turn 81 = .ok (.ixor, 1) := by decide +kernel
theorem dX6_turn_82 : decode cX6_turn 82 = .ok (.istore 4, 2) := by decide +kernel
theorem dX6_turn_84 : decode cX6_turn 84 = .ok (.iload 4, 2) := by decide +kernel
theorem dX6_turn_86 : decode cX6_turn 86 = .ok (.aload_n 0, 1) := by decide +kernel
theorem dX6_turn_87 : decode cX6_turn 87 = .ok (.getfield 12, 3) := by decide +kernel
theorem dX6_turn_90 : decode cX6_turn 90 = .ok (.getfield 103, 3) := by decide +kernel
theorem dX6_turn_93 : decode cX6_turn 93 = .ok (.iload_n 3, 1) := by decide +kernel
theorem dX6_turn_94 : decode cX6_turn 94 = .ok (.iaload, 1) := by decide +kernel
theorem dX6_turn_95 : decode cX6_turn 95 = .ok (.if_icmp .ge 14, 3) := by decide +kernel
theorem dX6_turn_98 : decode cX6_turn 98 = .ok (.iload_n 1, 1) := by decide +kernel
theorem dX6_turn_99 : decode cX6_turn 99 = .ok (.ifCond .ne 7, 3) := by decide +kernel
theorem dX6_turn_102 : decode cX6_turn 102 = .ok (.iload_n 3, 1) := by decide +kernel
theorem dX6_turn_103 : decode cX6_turn 103 = .ok (.goto 5, 3) := by decide +kernel
theorem dX6_turn_106 : decode cX6_turn 106 = .ok (.iload 4, 2) := by decide +kernel
theorem dX6_turn_108 : decode cX6_turn 108 = .ok (.ireturn, 1) := by decide +kernel
theorem dX6_turn_109 : decode cX6_turn 109 = .ok (.iinc 3 1, 3) := by decide +kernel
theorem dX6_turn_112 : decode cX6_turn 112 = .ok (.goto (-52), 3) := by decide +kernel
theorem dX6_turn_115 : decode cX6_turn 115 = .ok (.bipush (-9), 2) := by decide +kernel
theorem dX6_turn_117 : decode cX6_turn 117 = .ok (.ireturn, 1) := by decide +kernel
set_option maxRecDepth 20000 in
theorem ggX6_reading_X5_has : GoodIn wsX6_reading wsX5_has := goodIn_r _ [8, 9, 34, 35, 36, 37, 38, 39, 40] (by decide +kernel) (by decide +kernel)
set_option maxRecDepth 20000 in
theorem gX6_reading_X5_has : GoodIn wsX6_reading (wsV RX6 90 RX5 yX5_has wsX5_has) := goodIn_app (goodIn_of _ (by decide +kernel)) ggX6_reading_X5_has
set_option maxRecDepth 20000 in
theorem ggX6_reading_X2_keep : GoodIn wsX6_reading wsX2_keep := goodIn_r _ [14, 15, 16, 17, 18, 30, 31, 32, 33] (by decide +kernel) (by decide +kernel)
set_option maxRecDepth 20000 in
theorem gX6_reading_X2_keep : GoodIn wsX6_reading (wsV RX6 198 RX2 yX2_keep wsX2_keep) := goodIn_app (goodIn_of _ (by decide +kernel)) ggX6_reading_X2_keep
theorem dX6_reading_0 : decode cX6_reading 0 = .ok (.aload_n 0, 1) := by decide +kernel
theorem dX6_reading_1 : decode cX6_reading 1 = .ok (.getfield 12, 3) := by decide +kernel
theorem dX6_reading_4 : decode cX6_reading 4 = .ok (.iload_n 2, 1) := by decide +kernel
theorem dX6_reading_5 : decode cX6_reading 5 = .ok (.invokevirtual 90, 3) := by decide +kernel
theorem dX6_reading_8 : decode cX6_reading 8 = .ok (.ifCond .ne 5, 3) := by decide +kernel
theorem dX6_reading_11 : decode cX6_reading 11 = .ok (.iconst (-1), 1) := by decide +kernel
theorem dX6_reading_12 : decode cX6_reading 12 = .ok (.ireturn, 1) := by decide +kernel
theorem dX6_reading_13 : decode cX6_reading 13 = .ok (.iload_n 1, 1) := by decide +kernel
theorem dX6_reading_14 : decode cX6_reading 14 = .ok (.ifCond .lt 20, 3) := by decide +kernel
theorem dX6_reading_17 : decode cX6_reading 17 = .ok (.iload_n 1, 1) := by decide +kernel
theorem dX6_reading_18 : decode cX6_reading 18 = .ok (.sipush 999, 3) := by decide +kernel
theorem dX6_reading_21 : decode cX6_reading 21 = .ok (.if_icmp .gt 13, 3) := by decide +kernel
theorem dX6_reading_24 : decode cX6_reading 24 = .ok (.iload_n 3, 1) := by decide +kernel
theorem dX6_reading_25 : decode cX6_reading 25 = .ok (.ifCond .lt 9, 3) := by decide +kernel
theorem dX6_reading_28 : decode cX6_reading 28 = .ok (.iload_n 3, 1) := by decide +kernel
theorem dX6_reading_29 : decode cX6_reading 29 = .ok (.bipush 18, 2) := by decide +kernel
theorem dX6_reading_31 : decode cX6_reading 31 = .ok (.if_icmp .le 6, 3) := by decide +kernel
theorem dX6_reading_34 : decode cX6_reading 34 = .ok (.bipush (-2), 2) := by decide +kernel
theorem dX6_reading_36 : decode cX6_reading 36 = .ok (.ireturn, 1) := by decide +kernel
theorem dX6_reading_37 : decode cX6_reading 37 = .ok (.aload_n 0, 1) := by decide +kernel
theorem dX6_reading_38 : decode cX6_reading 38 = .ok (.getfield 51, 3) := by decide +kernel
theorem dX6_reading_41 : decode cX6_reading 41 = .ok (.getfield 86, 3) := by decide +kernel
theorem dX6_reading_44 : decode cX6_reading 44 = .ok (.istore 4, 2) := by decide +kernel
theorem dX6_reading_46 : decode cX6_reading 46 = .ok (.aload_n 0, 1) := by decide +kernel
theorem dX6_reading_47 : decode cX6_reading 47 = .ok (.getfield 51, 3) := by decide +kernel
theorem dX6_reading_50 : decode cX6_reading 50 = .ok (.iload_n 1, 1) := by decide +kernel
theorem dX6_reading_51 : decode cX6_reading 51 = .ok (.iload_n 2, 1) := by decide +kernel
theorem dX6_reading_52 : decode cX6_reading 52 = .ok (.iload_n 3, 1) := by decide +kernel
theorem dX6_reading_53 : decode cX6_reading 53 = .ok (.invokevirtual 198, 3) := by decide +kernel
theorem dX6_reading_56 : decode cX6_reading 56 = .ok (.ifCond .eq 8, 3) := by decide +kernel
theorem dX6_reading_59 : decode cX6_reading 59 = .ok (.iload 4, 2) := by decide +kernel
theorem dX6_reading_61 : decode cX6_reading 61 = .ok (.goto 5, 3) := by decide +kernel
theorem dX6_reading_64 : decode cX6_reading 64 = .ok (.bipush (-4), 2) := by decide +kernel
theorem dX6_reading_66 : decode cX6_reading 66 = .ok (.ireturn, 1) := by decide +kernel
theorem dX6_back_0 : decode cX6_back 0 = .ok (.iload_n 1, 1) := by decide +kernel
theorem dX6_back_1 : decode cX6_back 1 = .ok (.ifCond .lt 14, 3) := by decide +kernel
theorem dX6_back_4 : decode cX6_back 4 = .ok (.iload_n 1, 1) := by decide +kernel
theorem dX6_back_5 : decode cX6_back 5 = .ok (.aload_n 0, 1) := by decide +kernel
theorem dX6_back_6 : decode cX6_back 6 = .ok (.getfield 51, 3) := by decide +kernel
theorem dX6_back_9 : decode cX6_back 9 = .ok (.getfield 86, 3) := by decide +kernel
theorem dX6_back_12 : decode cX6_back 12 = .ok (.if_icmp .le 6, 3) := by decide +kernel
theorem dX6_back_15 : decode cX6_back 15 = .ok (.bipush (-2), 2) := by decide +kernel
theorem dX6_back_17 : decode cX6_back 17 = .ok (.ireturn, 1) := by decide +kernel
theorem dX6_back_18 : decode cX6_back 18 = .ok (.aload_n 0, 1) := by decide +kernel
theorem dX6_back_19 : decode cX6_back 19 = .ok (.getfield 51, 3) := by decide +kernel
theorem dX6_back_22 : decode cX6_back 22 = .ok (.dup, 1) := by decide +kernel
theorem dX6_back_23 : decode cX6_back 23 = .ok (.getfield 86, 3) := by decide +kernel
theorem dX6_back_26 : decode cX6_back 26 = .ok (.iload_n 1, 1) := by decide +kernel
theorem dX6_back_27 : decode cX6_back 27 = .ok (.isub, 1) := by decide +kernel
theorem dX6_back_28 : decode cX6_back 28 = .ok (.putfield 86, 3) := by decide +kernel
theorem dX6_back_31 : decode cX6_back 31 = .ok (.aload_n 0, 1) := by decide +kernel
theorem dX6_back_32 : decode cX6_back 32 = .ok (.getfield 51, 3) := by decide +kernel
theorem dX6_back_35 : decode cX6_back 35 = .ok (.getfield 86, 3) := by decide +kernel
theorem dX6_back_38 : decode cX6_back 38 = .ok (.ireturn, 1) := by decide +kernel
set_option maxRecDepth 20000 in
theorem ggX6_mens_X5_has : GoodIn wsX6_mens wsX5_has := goodIn_r _ [7, 8, 72, 73, 74, 75, 76, 77, 78] (by decide +kernel) (by decide +kernel)
set_option maxRecDepth 20000 in
theorem gX6_mens_X5_has : GoodIn wsX6_mens (wsV RX6 90 RX5 yX5_has wsX5_has) := goodIn_app (goodIn_of _ (by decide +kernel)) ggX6_mens_X5_has
set_option maxRecDepth 20000 in
theorem ggX6_mens_X6_couldBe : GoodIn wsX6_mens wsX6_couldBe := goodIn_r _ [13, 14, 1, 2, 15, 16, 17, 18, 19, 6, 20, 21, 22, 23, 8, 24, 25, 26, 27, 28, 29, 30, 31, 12, 32, 3, 4, 5, 7, 33, 34, 35, 36, 37, 38, 39, 40, 41, 42, 43, 44, 45, 46, 47, 48, 49, 50, 51, 52, 53, 54, 55, 56, 57, 58, 59, 60, 61, 62, 63, 64, 65, 66, 67, 68, 69, 70, 71, 72, 73, 74, 75, 76, 77, 78, 79, 80, 81, 82] (by decide +kernel) (by decide +kernel)
set_option maxRecDepth 20000 in
theorem gX6_mens_X6_couldBe : GoodIn wsX6_mens (wsV RX6 201 RX6 yX6_couldBe wsX6_couldBe) := goodIn_app (goodIn_of _ (by decide +kernel)) ggX6_mens_X6_couldBe
theorem dX6_mens_0 : decode cX6_mens 0 = .ok (.aload_n 0, 1) := by decide +kernel
theorem dX6_mens_1 : decode cX6_mens 1 = .ok (.getfield 12, 3) := by decide +kernel
theorem dX6_mens_4 : decode cX6_mens 4 = .ok (.iload_n 1, 1) := by decide +kernel
theorem dX6_mens_5 : decode cX6_mens 5 = .ok (.invokevirtual 90, 3) := by decide +kernel
theorem dX6_mens_8 : decode cX6_mens 8 = .ok (.ifCond .ne 5, 3) := by decide +kernel
theorem dX6_mens_11 : decode cX6_mens 11 = .ok (.iconst (-1), 1) := by decide +kernel
theorem dX6_mens_12 : decode cX6_mens 12 = .ok (.ireturn, 1) := by decide +kernel
theorem dX6_mens_13 : decode cX6_mens 13 = .ok (.iconst 0, 1) := by decide +kernel
theorem dX6_mens_14 : decode cX6_mens 14 = .ok (.istore_n 2, 1) := by decide +kernel
theorem dX6_mens_15 : decode cX6_mens 15 = .ok (.iconst 1, 1) := by decide +kernel
theorem dX6_mens_16 : decode cX6_mens 16 = .ok (.istore_n 3, 1) := by decide +kernel
theorem dX6_mens_17 : decode cX6_mens 17 = .ok (.iload_n 3, 1) := by decide +kernel
theorem dX6_mens_18 : decode cX6_mens 18 = .ok (.bipush 9, 2) := by decide +kernel
theorem dX6_mens_20 : decode cX6_mens 20 = .ok (.if_icmp .gt 33, 3) := by decide +kernel
theorem dX6_mens_23 : decode cX6_mens 23 = .ok (.aload_n 0, 1) := by decide +kernel
theorem dX6_mens_24 : decode cX6_mens 24 = .ok (.iload_n 1, 1) := by decide +kernel
theorem dX6_mens_25 : decode cX6_mens 25 = .ok (.aload_n 0, 1) := by decide +kernel
theorem dX6_mens_26 : decode cX6_mens 26 = .ok (.getfield 12, 3) := by decide +kernel
theorem dX6_mens_29 : decode cX6_mens 29 = .ok (.getfield 94, 3) := by decide +kernel
theorem dX6_mens_32 : decode cX6_mens 32 = .ok (.iload_n 1, 1) := by decide +kernel
theorem dX6_mens_33 : decode cX6_mens 33 = .ok (.iaload, 1) := by decide +kernel
theorem dX6_mens_34 : decode cX6_mens 34 = .ok (.iload_n 3, 1) := by decide +kernel
theorem dX6_mens_35 : decode cX6_mens 35 = .ok (.invokevirtual 201, 3) := by decide +kernel
theorem dX6_mens_38 : decode cX6_mens 38 = .ok (.ifCond .eq 9, 3) := by decide +kernel
theorem dX6_mens_41 : decode cX6_mens 41 = .ok (.iload_n 2, 1) := by decide +kernel
theorem dX6_mens_42 : decode cX6_mens 42 = .ok (.iconst 1, 1) := by decide +kernel
theorem dX6_mens_43 : decode cX6_mens 43 = .ok (.iload_n 3, 1) := by decide +kernel
theorem dX6_mens_44 : decode cX6_mens 44 = .ok (.ishl, 1) := by decide +kernel
theorem dX6_mens_45 : decode cX6_mens 45 = .ok (.ior, 1) := by decide +kernel
theorem dX6_mens_46 : decode cX6_mens 46 = .ok (.istore_n 2, 1) := by decide +kernel
theorem dX6_mens_47 : decode cX6_mens 47 = .ok (.iinc 3 1, 3) := by decide +kernel
theorem dX6_mens_50 : decode cX6_mens 50 = .ok (.goto (-33), 3) := by decide +kernel
theorem dX6_mens_53 : decode cX6_mens 53 = .ok (.iload_n 2, 1) := by decide +kernel
theorem dX6_mens_54 : decode cX6_mens 54 = .ok (.ireturn, 1) := by decide +kernel
set_option maxRecDepth 20000 in
theorem ggX6_kinds_X5_has : GoodIn wsX6_kinds wsX5_has := goodIn_r _ [7, 8, 72, 73, 74, 75, 76, 77, 78] (by decide +kernel) (by decide +kernel)
set_option maxRecDepth 20000 in
theorem gX6_kinds_X5_has : GoodIn wsX6_kinds (wsV RX6 90 RX5 yX5_has wsX5_has) := goodIn_app (goodIn_of _ (by decide +kernel)) ggX6_kinds_X5_has
set_option maxRecDepth 20000 in
theorem ggX6_kinds_X6_couldBe : GoodIn wsX6_kinds wsX6_couldBe := goodIn_r _ [13, 14, 1, 15, 2, 16, 17, 18, 19, 6, 20, 21, 22, 23, 8, 24, 25, 26, 27, 28, 29, 30, 31, 12, 32, 3, 4, 5, 7, 33, 34, 35, 36, 37, 38, 39, 40, 41, 42, 43, 44, 45, 46, 47, 48, 49, 50, 51, 52, 53, 54, 55, 56, 57, 58, 59, 60, 61, 62, 63, 64, 65, 66, 67, 68, 69, 70, 71, 72, 73, 74, 75, 76, 77, 78, 79, 80, 81, 82] (by decide +kernel) (by decide +kernel)
set_option maxRecDepth 20000 in
theorem gX6_kinds_X6_couldBe : GoodIn wsX6_kinds (wsV RX6 201 RX6 yX6_couldBe wsX6_couldBe) := goodIn_app (goodIn_of _ (by decide +kernel)) ggX6_kinds_X6_couldBe
theorem dX6_kinds_0 : decode cX6_kinds 0 = .ok (.aload_n 0, 1) := by decide +kernel
theorem dX6_kinds_1 : decode cX6_kinds 1 = .ok (.getfield 12, 3) := by decide +kernel
theorem dX6_kinds_4 : decode cX6_kinds 4 = .ok (.iload_n 1, 1) := by decide +kernel
theorem dX6_kinds_5 : decode cX6_kinds 5 = .ok (.invokevirtual 90, 3) := by decide +kernel
theorem dX6_kinds_8 : decode cX6_kinds 8 = .ok (.ifCond .ne 5, 3) := by decide +kernel
theorem dX6_kinds_11 : decode cX6_kinds 11 = .ok (.iconst (-1), 1) := by decide +kernel
theorem dX6_kinds_12 : decode cX6_kinds 12 = .ok (.ireturn, 1) := by decide +kernel
theorem dX6_kinds_13 : decode cX6_kinds 13 = .ok (.iconst 0, 1) := by decide +kernel
theorem dX6_kinds_14 : decode cX6_kinds 14 = .ok (.istore_n 2, 1) := by decide +kernel
theorem dX6_kinds_15 : decode cX6_kinds 15 = .ok (.iconst 0, 1) := by decide +kernel
theorem dX6_kinds_16 : decode cX6_kinds 16 = .ok (.istore_n 3, 1) := by decide +kernel
theorem dX6_kinds_17 : decode cX6_kinds 17 = .ok (.iload_n 3, 1) := by decide +kernel
theorem dX6_kinds_18 : decode cX6_kinds 18 = .ok (.iconst 3, 1) := by decide +kernel
theorem dX6_kinds_19 : decode cX6_kinds 19 = .ok (.if_icmp .ge 33, 3) := by decide +kernel
theorem dX6_kinds_22 : decode cX6_kinds 22 = .ok (.aload_n 0, 1) := by decide +kernel
theorem dX6_kinds_23 : decode cX6_kinds 23 = .ok (.iload_n 1, 1) := by decide +kernel
theorem dX6_kinds_24 : decode cX6_kinds 24 = .ok (.iload_n 3, 1) := by decide +kernel
theorem dX6_kinds_25 : decode cX6_kinds 25 = .ok (.aload_n 0, 1) := by decide +kernel
theorem dX6_kinds_26 : decode cX6_kinds 26 = .ok (.getfield 12, 3) := by decide +kernel
theorem dX6_kinds_29 : decode cX6_kinds 29 = .ok (.getfield 97, 3) := by decide +kernel
theorem dX6_kinds_32 : decode cX6_kinds 32 = .ok (.iload_n 1, 1) := by decide +kernel
theorem dX6_kinds_33 : decode cX6_kinds 33 = .ok (.iaload, 1) := by decide +kernel
theorem dX6_kinds_34 : decode cX6_kinds 34 = .ok (.invokevirtual 201, 3) := by decide +kernel
theorem dX6_kinds_37 : decode cX6_kinds 37 = .ok (.ifCond .eq 9, 3) := by decide +kernel
theorem dX6_kinds_40 : decode cX6_kinds 40 = .ok (.iload_n 2, 1) := by decide +kernel
theorem dX6_kinds_41 : decode cX6_kinds 41 = .ok (.iconst 1, 1) := by decide +kernel
theorem dX6_kinds_42 : decode cX6_kinds 42 = .ok (.iload_n 3, 1) := by decide +kernel
theorem dX6_kinds_43 : decode cX6_kinds 43 = .ok (.ishl, 1) := by decide +kernel
theorem dX6_kinds_44 : decode cX6_kinds 44 = .ok (.ior, 1) := by decide +kernel
theorem dX6_kinds_45 : decode cX6_kinds 45 = .ok (.istore_n 2, 1) := by decide +kernel
theorem dX6_kinds_46 : decode cX6_kinds 46 = .ok (.iinc 3 1, 3) := by decide +kernel
theorem dX6_kinds_49 : decode cX6_kinds 49 = .ok (.goto (-32), 3) := by decide +kernel
theorem dX6_kinds_52 : decode cX6_kinds 52 = .ok (.iload_n 2, 1) := by decide +kernel
theorem dX6_kinds_53 : decode cX6_kinds 53 = .ok (.ireturn, 1) := by decide +kernel
set_option maxRecDepth 20000 in
theorem ggX6_couldBe_X5_become : GoodIn wsX6_couldBe wsX5_become := goodIn_r _ [10, 11, 12, 13, 14, 15, 16, 17, 9, 18, 19, 20, 21, 22, 23, 24, 68, 69, 70, 71, 72, 73, 74] (by decide +kernel) (by decide +kernel)
set_option maxRecDepth 20000 in
theorem gX6_couldBe_X5_become : GoodIn wsX6_couldBe (wsV RX6 82 RX5 yX5_become wsX5_become) := goodIn_app (goodIn_of _ (by decide +kernel)) ggX6_couldBe_X5_become
set_option maxRecDepth 20000 in
theorem ggX6_couldBe_X5_has : GoodIn wsX6_couldBe wsX5_has := goodIn_r _ [28, 14, 68, 69, 70, 71, 72, 73, 74] (by decide +kernel) (by decide +kernel)
set_option maxRecDepth 20000 in
theorem gX6_couldBe_X5_has : GoodIn wsX6_couldBe (wsV RX6 90 RX5 yX5_has wsX5_has) := goodIn_app (goodIn_of _ (by decide +kernel)) ggX6_couldBe_X5_has
set_option maxRecDepth 20000 in
theorem ggX6_couldBe_X5_measure : GoodIn wsX6_couldBe wsX5_measure := goodIn_r _ [18, 14, 19, 11, 12, 20, 21, 22, 23, 24, 68, 69, 70, 71, 72, 73, 74] (by decide +kernel) (by decide +kernel)
set_option maxRecDepth 20000 in
theorem gX6_couldBe_X5_measure : GoodIn wsX6_couldBe (wsV RX6 204 RX5 yX5_measure wsX5_measure) := goodIn_app (goodIn_of _ (by decide +kernel)) ggX6_couldBe_X5_measure
set_option maxRecDepth 20000 in
theorem ggX6_couldBe_X5_hasRoom : GoodIn wsX6_couldBe wsX5_hasRoom := goodIn_r _ [33, 14, 13, 19, 68, 69, 70, 71, 72, 73, 74] (by decide +kernel) (by decide +kernel)
set_option maxRecDepth 20000 in
theorem gX6_couldBe_X5_hasRoom : GoodIn wsX6_couldBe (wsV RX6 207 RX5 yX5_hasRoom wsX5_hasRoom) := goodIn_app (goodIn_of _ (by decide +kernel)) ggX6_couldBe_X5_hasRoom
set_option maxRecDepth 20000 in
theorem ggX6_couldBe_X2_areSo : GoodIn wsX6_couldBe wsX2_areSo := goodIn_r _ [38, 39, 40, 41, 42, 43, 44, 45, 9, 46, 14, 13, 20, 47, 48, 49, 50, 21, 51, 52, 53, 54, 55, 19, 56, 26, 27, 28, 75, 76, 77, 78, 68, 69, 70, 71, 72, 73, 74] (by decide +kernel) (by decide +kernel)
set_option maxRecDepth 20000 in
theorem gX6_couldBe_X2_areSo : GoodIn wsX6_couldBe (wsV RX6 211 RX2 yX2_areSo wsX2_areSo) := goodIn_app (goodIn_of _ (by decide +kernel)) ggX6_couldBe_X2_areSo
theorem dX6_couldBe_0 : decode cX6_couldBe 0 = .ok (.aload_n 0, 1) := by decide +kernel
theorem dX6_couldBe_1 : decode cX6_couldBe 1 = .ok (.getfield 18, 3) := by decide +kernel
theorem dX6_couldBe_4 : decode cX6_couldBe 4 = .ok (.aload_n 0, 1) := by decide +kernel
theorem dX6_couldBe_5 : decode cX6_couldBe 5 = .ok (.getfield 12, 3) := by decide +kernel
theorem dX6_couldBe_8 : decode cX6_couldBe 8 = .ok (.invokevirtual 82, 3) := by decide +kernel
theorem dX6_couldBe_11 : decode cX6_couldBe 11 = .ok (.aload_n 0, 1) := by decide +kernel
theorem dX6_couldBe_12 : decode cX6_couldBe 12 = .ok (.getfield 18, 3) := by decide +kernel
theorem dX6_couldBe_15 : decode cX6_couldBe 15 = .ok (.iload_n 1, 1) := by decide +kernel
theorem dX6_couldBe_16 : decode cX6_couldBe 16 = .ok (.invokevirtual 90, 3) := by decide +kernel
theorem dX6_couldBe_19 : decode cX6_couldBe 19 = .ok (.ifCond .ne 5, 3) := by decide +kernel
theorem dX6_couldBe_22 : decode cX6_couldBe 22 = .ok (.iconst 0, 1) := by decide +kernel
theorem dX6_couldBe_23 : decode cX6_couldBe 23 = .ok (.ireturn, 1) := by decide +kernel
theorem dX6_couldBe_24 : decode cX6_couldBe 24 = .ok (.aload_n 0, 1) := by decide +kernel
theorem dX6_couldBe_25 : decode cX6_couldBe 25 = .ok (.getfield 18, 3) := by decide +kernel
theorem dX6_couldBe_28 : decode cX6_couldBe 28 = .ok (.getfield 94, 3) := by decide +kernel
theorem dX6_couldBe_31 : decode cX6_couldBe 31 = .ok (.iload_n 1, 1) := by decide +kernel
theorem dX6_couldBe_32 : decode cX6_couldBe 32 = .ok (.iload_n 2, 1) := by decide +kernel
theorem dX6_couldBe_33 : decode cX6_couldBe 33 = .ok (.iastore, 1) := by decide +kernel
theorem dX6_couldBe_34 : decode cX6_couldBe 34 = .ok (.aload_n 0, 1) := by decide +kernel
theorem dX6_couldBe_35 : decode cX6_couldBe 35 = .ok (.getfield 18, 3) := by decide +kernel
theorem dX6_couldBe_38 : decode cX6_couldBe 38 = .ok (.getfield 97, 3) := by decide +kernel
theorem dX6_couldBe_41 : decode cX6_couldBe 41 = .ok (.iload_n 1, 1) := by decide +kernel
theorem dX6_couldBe_42 : decode cX6_couldBe 42 = .ok (.iload_n 3, 1) := by decide +kernel
theorem dX6_couldBe_43 : decode cX6_couldBe 43 = .ok (.iastore, 1) := by decide +kernel
theorem dX6_couldBe_44 : decode cX6_couldBe 44 = .ok (.aload_n 0, 1) := by decide +kernel
theorem dX6_couldBe_45 : decode cX6_couldBe 45 = .ok (.getfield 18, 3) := by decide +kernel
theorem dX6_couldBe_48 : decode cX6_couldBe 48 = .ok (.invokevirtual 204, 3) := by decide +kernel
theorem dX6_couldBe_51 : decode cX6_couldBe 51 = .ok (.aload_n 0, 1) := by decide +kernel
theorem dX6_couldBe_52 : decode cX6_couldBe 52 = .ok (.getfield 18, 3) := by decide +kernel
theorem dX6_couldBe_55 : decode cX6_couldBe 55 = .ok (.invokevirtual 207, 3) := by decide +kernel
theorem dX6_couldBe_58 : decode cX6_couldBe 58 = .ok (.ifCond .eq 21, 3) := by decide +kernel
theorem dX6_couldBe_61 : decode cX6_couldBe 61 = .ok (.aload_n 0, 1) := by decide +kernel
theorem dX6_couldBe_62 : decode cX6_couldBe 62 = .ok (.getfield 51, 3) := by decide +kernel
theorem dX6_couldBe_65 : decode cX6_couldBe 65 = .ok (.aload_n 0, 1) := by decide +kernel
theorem dX6_couldBe_66 : decode cX6_couldBe 66 = .ok (.getfield 18, 3) := by decide +kernel
theorem dX6_couldBe_69 : decode cX6_couldBe 69 = .ok (.invokevirtual 211, 3) := by decide +kernel
theorem dX6_couldBe_72 : decode cX6_couldBe 72 = .ok (.ifCond .eq 7, 3) := by decide +kernel
theorem dX6_couldBe_75 : decode cX6_couldBe 75 = .ok (.iconst 1, 1) := by decide +kernel
theorem dX6_couldBe_76 : decode cX6_couldBe 76 = .ok (.goto 4, 3) := by decide +kernel
theorem dX6_couldBe_79 : decode cX6_couldBe 79 = .ok (.iconst 0, 1) := by decide +kernel
theorem dX6_couldBe_80 : decode cX6_couldBe 80 = .ok (.ireturn, 1) := by decide +kernel
set_option maxRecDepth 20000 in
theorem ggX6_odds_X6_countWays : GoodIn wsX6_odds wsX6_countWays := goodIn_r _ [10, 5, 2, 3, 11, 15, 16, 17, 18, 19, 20, 21, 22, 23, 24, 25, 26, 27, 28, 29, 30, 31, 32] (by decide +kernel) (by decide +kernel)
set_option maxRecDepth 20000 in
theorem gX6_odds_X6_countWays : GoodIn wsX6_odds (wsV RX6 217 RX6 yX6_countWays wsX6_countWays) := goodIn_app (goodIn_of _ (by decide +kernel)) ggX6_odds_X6_countWays
set_option maxRecDepth 20000 in
theorem ggX6_odds_X6_greatestDivisor : GoodIn wsX6_odds wsX6_greatestDivisor := goodIn_r _ [14] (by decide +kernel) (by decide +kernel)
set_option maxRecDepth 20000 in
theorem gX6_odds_X6_greatestDivisor : GoodIn wsX6_odds (va_wsS RX6 220 yX6_greatestDivisor wsX6_greatestDivisor) := goodIn_app (goodIn_of _ (by decide +kernel)) ggX6_odds_X6_greatestDivisor
theorem dX6_odds_0 : decode cX6_odds 0 = .ok (.iload_n 1, 1) := by decide +kernel
theorem dX6_odds_1 : decode cX6_odds 1 = .ok (.ifCond .lt 18, 3) := by decide +kernel
theorem dX6_odds_4 : decode cX6_odds 4 = .ok (.iload_n 1, 1) := by decide +kernel
theorem dX6_odds_5 : decode cX6_odds 5 = .ok (.bipush 108, 2) := by decide +kernel
theorem dX6_odds_7 : decode cX6_odds 7 = .ok (.if_icmp .gt 12, 3) := by decide +kernel
theorem dX6_odds_10 : decode cX6_odds 10 = .ok (.iload_n 2, 1) := by decide +kernel
theorem dX6_odds_11 : decode cX6_odds 11 = .ok (.ifCond .lt 8, 3) := by decide +kernel
theorem dX6_odds_14 : decode cX6_odds 14 = .ok (.iload_n 2, 1) := by decide +kernel
theorem dX6_odds_15 : decode cX6_odds 15 = .ok (.iconst 1, 1) := by decide +kernel
theorem dX6_odds_16 : decode cX6_odds 16 = .ok (.if_icmp .le 7, 3) := by decide +kernel
theorem dX6_odds_19 : decode cX6_odds 19 = .ok (.ldc2_w 215, 3) := by decide +kernel
theorem dX6_odds_22 : decode cX6_odds 22 = .ok (.lreturn, 1) := by decide +kernel
theorem dX6_odds_23 : decode cX6_odds 23 = .ok (.aload_n 0, 1) := by decide +kernel
theorem dX6_odds_24 : decode cX6_odds 24 = .ok (.getfield 12, 3) := by decide +kernel
theorem dX6_odds_27 : decode cX6_odds 27 = .ok (.getfield 89, 3) := by decide +kernel
theorem dX6_odds_30 : decode cX6_odds 30 = .ok (.ifCond .ne 7, 3) := by decide +kernel
theorem dX6_odds_33 : decode cX6_odds 33 = .ok (.ldc2_w 215, 3) := by decide +kernel
theorem dX6_odds_36 : decode cX6_odds 36 = .ok (.lreturn, 1) := by decide +kernel
theorem dX6_odds_37 : decode cX6_odds 37 = .ok (.aload_n 0, 1) := by decide +kernel
theorem dX6_odds_38 : decode cX6_odds 38 = .ok (.invokevirtual 217, 3) := by decide +kernel
theorem dX6_odds_41 : decode cX6_odds 41 = .ok (.aload_n 0, 1) := by decide +kernel
theorem dX6_odds_42 : decode cX6_odds 42 = .ok (.getfield 12, 3) := by decide +kernel
theorem dX6_odds_45 : decode cX6_odds 45 = .ok (.getfield 113, 3) := by decide +kernel
theorem dX6_odds_48 : decode cX6_odds 48 = .ok (.i2l, 1) := by decide +kernel
theorem dX6_odds_49 : decode cX6_odds 49 = .ok (.lconst 1, 1) := by decide +kernel
theorem dX6_odds_50 : decode cX6_odds 50 = .ok (.ladd, 1) := by decide +kernel
theorem dX6_odds_51 : decode cX6_odds 51 = .ok (.lstore_n 3, 1) := by decide +kernel
theorem dX6_odds_52 : decode cX6_odds 52 = .ok (.lload_n 3, 1) := by decide +kernel
theorem dX6_odds_53 : decode cX6_odds 53 = .ok (.aload_n 0, 1) := by decide +kernel
theorem dX6_odds_54 : decode cX6_odds 54 = .ok (.getfield 59, 3) := by decide +kernel
theorem dX6_odds_57 : decode cX6_odds 57 = .ok (.iload_n 1, 1) := by decide +kernel
theorem dX6_odds_58 : decode cX6_odds 58 = .ok (.laload, 1) := by decide +kernel
theorem dX6_odds_59 : decode cX6_odds 59 = .ok (.invokestatic 220, 3) := by decide +kernel
theorem dX6_odds_62 : decode cX6_odds 62 = .ok (.lstore 5, 2) := by decide +kernel
theorem dX6_odds_64 : decode cX6_odds 64 = .ok (.lload 5, 2) := by decide +kernel
theorem dX6_odds_66 : decode cX6_odds 66 = .ok (.lconst 0, 1) := by decide +kernel
theorem dX6_odds_67 : decode cX6_odds 67 = .ok (.lcmp, 1) := by decide +kernel
theorem dX6_odds_68 : decode cX6_odds 68 = .ok (.ifCond .gt 7, 3) := by decide +kernel
theorem dX6_odds_71 : decode cX6_odds 71 = .ok (.ldc2_w 215, 3) := by decide +kernel
theorem dX6_odds_74 : decode cX6_odds 74 = .ok (.lreturn, 1) := by decide +kernel
theorem dX6_odds_75 : decode cX6_odds 75 = .ok (.iload_n 2, 1) := by decide +kernel
theorem dX6_odds_76 : decode cX6_odds 76 = .ok (.ifCond .ne 12, 3) := by decide +kernel
theorem dX6_odds_79 : decode cX6_odds 79 = .ok (.aload_n 0, 1) := by decide +kernel
theorem dX6_odds_80 : decode cX6_odds 80 = .ok (.getfield 59, 3) := by decide +kernel
theorem dX6_odds_83 : decode cX6_odds 83 = .ok (.iload_n 1, 1) := by decide +kernel
theorem dX6_odds_84 : decode cX6_odds 84 = .ok (.laload, 1) := by decide +kernel
theorem dX6_odds_85 : decode cX6_odds 85 = .ok (.goto 4, 3) := by decide +kernel
theorem dX6_odds_88 : decode cX6_odds 88 = .ok (.lload_n 3, 1) := by decide +kernel
theorem dX6_odds_89 : decode cX6_odds 89 = .ok (.lload 5, 2) := by decide +kernel
theorem dX6_odds_91 : decode cX6_odds 91 = .ok (.ldiv, 1) := by decide +kernel
theorem dX6_odds_92 : decode cX6_odds 92 = .ok (.lreturn, 1) := by decide +kernel
theorem dX6_countWays_0 : decode cX6_countWays 0 = .ok (.iconst 0, 1) := by decide +kernel
theorem dX6_countWays_1 : decode cX6_countWays 1 = .ok (.istore_n 1, 1) := by decide +kernel
theorem dX6_countWays_2 : decode cX6_countWays 2 = .ok (.iload_n 1, 1) := by decide +kernel
theorem dX6_countWays_3 : decode cX6_countWays 3 = .ok (.bipush 108, 2) := by decide +kernel
theorem dX6_countWays_5 : decode cX6_countWays 5 = .ok (.if_icmp .gt 24, 3) := by decide +kernel
theorem dX6_countWays_8 : decode cX6_countWays 8 = .ok (.aload_n 0, 1) := by decide +kernel
theorem dX6_countWays_9 : decode cX6_countWays 9 = .ok (.getfield 59, 3) := by decide +kernel
theorem dX6_countWays_12 : decode cX6_countWays 12 = .ok (.iload_n 1, 1) := by decide +kernel
theorem dX6_countWays_13 : decode cX6_countWays 13 = .ok (.iload_n 1, 1) := by decide +kernel
theorem dX6_countWays_14 : decode cX6_countWays 14 = .ok (.ifCond .ne 7, 3) := by decide +kernel
theorem dX6_countWays_17 : decode cX6_countWays 17 = .ok (.lconst 1, 1) := by decide +kernel
theorem dX6_countWays_18 : decode cX6_countWays 18 = .ok (.goto 4, 3) := by decide +kernel
theorem dX6_countWays_21 : decode cX6_countWays 21 = .ok (.lconst 0, 1) := by decide +kernel
theorem dX6_countWays_22 : decode cX6_countWays 22 = .ok (.lastore, 1) := by decide +kernel
theorem dX6_countWays_23 : decode cX6_countWays 23 = .ok (.iinc 1 1, 3) := by decide +kernel
theorem dX6_countWays_26 : decode cX6_countWays 26 = .ok (.goto (-24), 3) := by decide +kernel
theorem dX6_countWays_29 : decode cX6_countWays 29 = .ok (.iconst 0, 1) := by decide +kernel
theorem dX6_countWays_30 : decode cX6_countWays 30 = .ok (.istore_n 1, 1) := by decide +kernel
theorem dX6_countWays_31 : decode cX6_countWays 31 = .ok (.iload_n 1, 1) := by decide +kernel
theorem dX6_countWays_32 : decode cX6_countWays 32 = .ok (.aload_n 0, 1) := by decide +kernel
theorem dX6_countWays_33 : decode cX6_countWays 33 = .ok (.getfield 12, 3) := by decide +kernel
theorem dX6_countWays_36 : decode cX6_countWays 36 = .ok (.getfield 89, 3) := by decide +kernel
theorem dX6_countWays_39 : decode cX6_countWays 39 = .ok (.if_icmp .ge 72, 3) := by decide +kernel
theorem dX6_countWays_42 : decode cX6_countWays 42 = .ok (.bipush 108, 2) := by decide +kernel
theorem dX6_countWays_44 : decode cX6_countWays 44 = .ok (.istore_n 2, 1) := by decide +kernel
theorem dX6_countWays_45 : decode cX6_countWays 45 = .ok (.iload_n 2, 1) := by decide +kernel
theorem dX6_countWays_46 : decode cX6_countWays 46 = .ok (.ifCond .lt 59, 3) := by decide +kernel
theorem dX6_countWays_49 : decode cX6_countWays 49 = .ok (.lconst 0, 1) := by decide +kernel
theorem dX6_countWays_50 : decode cX6_countWays 50 = .ok (.lstore_n 3, 1) := by decide +kernel
theorem dX6_countWays_51 : decode cX6_countWays 51 = .ok (.iconst 0, 1) := by decide +kernel
theorem dX6_countWays_52 : decode cX6_countWays 52 = .ok (.istore 5, 2) := by decide +kernel
theorem dX6_countWays_54 : decode cX6_countWays 54 = .ok (.iload 5, 2) := by decide +kernel
theorem dX6_countWays_56 : decode cX6_countWays 56 = .ok (.aload_n 0, 1) := by decide +kernel
theorem dX6_countWays_57 : decode cX6_countWays 57 = .ok (.getfield 12, 3) := by decide +kernel
theorem dX6_countWays_60 : decode cX6_countWays 60 = .ok (.getfield 100, 3) := by decide +kernel
theorem dX6_countWays_63 : decode cX6_countWays 63 = .ok (.iload_n 1, 1) := by decide +kernel
theorem dX6_countWays_64 : decode cX6_countWays 64 = .ok (.iaload, 1) := by decide +kernel
theorem dX6_countWays_65 : decode cX6_countWays 65 = .ok (.if_icmp .gt 27, 3) := by decide +kernel
theorem dX6_countWays_68 : decode cX6_countWays 68 = .ok (.iload 5, 2) := by decide +kernel
theorem dX6_countWays_70 : decode cX6_countWays 70 = .ok (.iload_n 2, 1) := by decide +kernel
theorem dX6_countWays_71 : decode cX6_countWays 71 = .ok (.if_icmp .gt 21, 3) := by decide +kernel
theorem dX6_countWays_74 : decode cX6_countWays 74 = .ok (.lload_n 3, 1) := by decide +kernel
theorem dX6_countWays_75 : decode cX6_countWays 75 = .ok (.aload_n 0, 1) := by decide +kernel
theorem dX6_countWays_76 : decode cX6_countWays 76 = .ok (.getfield 59, 3) := by decide +kernel
theorem dX6_countWays_79 : decode cX6_countWays 79 = .ok (.iload_n 2, 1) := by decide +kernel
theorem dX6_countWays_80 : decode cX6_countWays 80 = .ok (.iload 5, 2) := by decide +kernel
theorem dX6_countWays_82 : decode cX6_countWays 82 = .ok (.isub, 1) := by decide +kernel
theorem dX6_countWays_83 : decode cX6_countWays 83 = .ok (.laload, 1) := by decide +kernel
theorem dX6_countWays_84 : decode cX6_countWays 84 = .ok (.ladd, 1) := by decide +kernel
theorem dX6_countWays_85 : decode cX6_countWays 85 = .ok (.lstore_n 3, 1) := by decide +kernel
theorem dX6_countWays_86 : decode cX6_countWays 86 = .ok (.iinc 5 1, 3) := by decide +kernel
theorem dX6_countWays_89 : decode cX6_countWays 89 = .ok (.goto (-35), 3) := by decide +kernel
theorem dX6_countWays_92 : decode cX6_countWays 92 = .ok (.aload_n 0, 1) := by decide +kernel
theorem dX6_countWays_93 : decode cX6_countWays 93 = .ok (.getfield 59, 3) := by decide +kernel
theorem dX6_countWays_96 : decode cX6_countWays 96 = .ok (.iload_n 2, 1) := by decide +kernel
theorem dX6_countWays_97 : decode cX6_countWays 97 = .ok (.lload_n 3, 1) := by decide +kernel
theorem dX6_countWays_98 : decode cX6_countWays 98 = .ok (.lastore, 1) := by decide +kernel
theorem dX6_countWays_99 : decode cX6_countWays 99 = .ok (.iinc 2 (-1), 3) := by decide +kernel
theorem dX6_countWays_102 : decode cX6_countWays 102 = .ok (.goto (-57), 3) := by decide +kernel
theorem dX6_countWays_105 : decode cX6_countWays 105 = .ok (.iinc 1 1, 3) := by decide +kernel
theorem dX6_countWays_108 : decode cX6_countWays 108 = .ok (.goto (-77), 3) := by decide +kernel
theorem dX6_countWays_111 : decode cX6_countWays 111 = .ok (.return_, 1) := by decide +kernel
theorem dX6_greatestDivisor_0 : decode cX6_greatestDivisor 0 = .ok (.lload_n 0, 1) := by decide +kernel
theorem dX6_greatestDivisor_1 : decode cX6_greatestDivisor 1 = .ok (.lstore 4, 2) := by decide +kernel
theorem dX6_greatestDivisor_3 : decode cX6_greatestDivisor 3 = .ok (.lload_n 2, 1) := by decide +kernel
theorem dX6_greatestDivisor_4 : decode cX6_greatestDivisor 4 = .ok (.lstore 6, 2) := by decide +kernel
theorem dX6_greatestDivisor_6 : decode cX6_greatestDivisor 6 = .ok (.iconst 0, 1) := by decide +kernel
theorem dX6_greatestDivisor_7 : decode cX6_greatestDivisor 7 = .ok (.istore 8, 2) := by decide +kernel
theorem dX6_greatestDivisor_9 : decode cX6_greatestDivisor 9 = .ok (.iload 8, 2) := by decide +kernel
theorem dX6_greatestDivisor_11 : decode cX6_greatestDivisor 11 = .ok (.sipush 200, 3) := by decide +kernel
theorem dX6_greatestDivisor_14 : decode cX6_greatestDivisor 14 = .ok (.if_icmp .ge 31, 3) := by decide +kernel
theorem dX6_greatestDivisor_17 : decode cX6_greatestDivisor 17 = .ok (.lload 6, 2) := by decide +kernel
theorem dX6_greatestDivisor_19 : decode cX6_greatestDivisor 19 = .ok (.lconst 0, 1) := by decide +kernel
theorem dX6_greatestDivisor_20 : decode cX6_greatestDivisor 20 = .ok (.lcmp, 1) := by decide +kernel
theorem dX6_greatestDivisor_21 : decode cX6_greatestDivisor 21 = .ok (.ifCond .eq 24, 3) := by decide +kernel
theorem dX6_greatestDivisor_24 : decode cX6_greatestDivisor 24 = .ok (.lload 4, 2) := by decide +kernel
theorem dX6_greatestDivisor_26 : decode cX6_greatestDivisor 26 = .ok (.lload 6, 2) := by decide +kernel
theorem dX6_greatestDivisor_28 : decode cX6_greatestDivisor 28 = .ok (.lrem, 1) := by decide +kernel
theorem dX6_greatestDivisor_29 : decode cX6_greatestDivisor 29 = .ok (.lstore 9, 2) := by decide +kernel
theorem dX6_greatestDivisor_31 : decode cX6_greatestDivisor 31 = .ok (.lload 6, 2) := by decide +kernel
theorem dX6_greatestDivisor_33 : decode cX6_greatestDivisor 33 = .ok (.lstore 4, 2) := by decide +kernel
theorem dX6_greatestDivisor_35 : decode cX6_greatestDivisor 35 = .ok (.lload 9, 2) := by decide +kernel
theorem dX6_greatestDivisor_37 : decode cX6_greatestDivisor 37 = .ok (.lstore 6, 2) := by decide +kernel
theorem dX6_greatestDivisor_39 : decode cX6_greatestDivisor 39 = .ok (.iinc 8 1, 3) := by decide +kernel
theorem dX6_greatestDivisor_42 : decode cX6_greatestDivisor 42 = .ok (.goto (-33), 3) := by decide +kernel
theorem dX6_greatestDivisor_45 : decode cX6_greatestDivisor 45 = .ok (.lload 4, 2) := by decide +kernel
theorem dX6_greatestDivisor_47 : decode cX6_greatestDivisor 47 = .ok (.lreturn, 1) := by decide +kernel
set_option maxRecDepth 20000 in
theorem ggX6_sheet_X6_isSheet : GoodIn wsX6_sheet wsX6_isSheet := goodIn_r _ [6] (by decide +kernel) (by decide +kernel)
set_option maxRecDepth 20000 in
theorem gX6_sheet_X6_isSheet : GoodIn wsX6_sheet (va_wsS RX6 224 yX6_isSheet wsX6_isSheet) := goodIn_app (goodIn_of _ (by decide +kernel)) ggX6_sheet_X6_isSheet
set_option maxRecDepth 20000 in
theorem ggX6_sheet_X6_isLane : GoodIn wsX6_sheet wsX6_isLane := goodIn_r _ [9] (by decide +kernel) (by decide +kernel)
set_option maxRecDepth 20000 in
theorem gX6_sheet_X6_isLane : GoodIn wsX6_sheet (va_wsS RX6 227 yX6_isLane wsX6_isLane) := goodIn_app (goodIn_of _ (by decide +kernel)) ggX6_sheet_X6_isLane
set_option maxRecDepth 20000 in
theorem ggX6_sheet_X6_faulted : GoodIn wsX6_sheet wsX6_faulted := goodIn_r _ [13, 1, 23, 24, 25, 26, 27, 28, 29, 30, 31, 32, 33] (by decide +kernel) (by decide +kernel)
set_option maxRecDepth 20000 in
theorem gX6_sheet_X6_faulted : GoodIn wsX6_sheet (wsV RX6 230 RX6 yX6_faulted wsX6_faulted) := goodIn_app (goodIn_of _ (by decide +kernel)) ggX6_sheet_X6_faulted
set_option maxRecDepth 20000 in
theorem ggX6_sheet_X3_begin : GoodIn wsX6_sheet wsX3_begin := goodIn_r _ [18, 19, 20, 21, 22, 34, 35, 36, 37] (by decide +kernel) (by decide +kernel)
set_option maxRecDepth 20000 in
theorem gX6_sheet_X3_begin : GoodIn wsX6_sheet (wsV RX6 233 RX3 yX3_begin wsX3_begin) := goodIn_app (goodIn_of _ (by decide +kernel)) ggX6_sheet_X3_begin
theorem dX6_sheet_0 : decode cX6_sheet 0 = .ok (.aload_n 0, 1) := by decide +kernel
theorem dX6_sheet_1 : decode cX6_sheet 1 = .ok (.iconst 0, 1) := by decide +kernel
theorem dX6_sheet_2 : decode cX6_sheet 2 = .ok (.putfield 67, 3) := by decide +kernel
theorem dX6_sheet_5 : decode cX6_sheet 5 = .ok (.iload_n 1, 1) := by decide +kernel
theorem dX6_sheet_6 : decode cX6_sheet 6 = .ok (.invokestatic 224, 3) := by decide +kernel
theorem dX6_sheet_9 : decode cX6_sheet 9 = .ok (.ifCond .ne 5, 3) := by decide +kernel
theorem dX6_sheet_12 : decode cX6_sheet 12 = .ok (.iconst (-1), 1) := by decide +kernel
theorem dX6_sheet_13 : decode cX6_sheet 13 = .ok (.ireturn, 1) := by decide +kernel
theorem dX6_sheet_14 : decode cX6_sheet 14 = .ok (.iload_n 2, 1) := by decide +kernel
theorem dX6_sheet_15 : decode cX6_sheet 15 = .ok (.invokestatic 227, 3) := by decide +kernel
theorem dX6_sheet_18 : decode cX6_sheet 18 = .ok (.ifCond .eq 9, 3) := by decide +kernel
theorem dX6_sheet_21 : decode cX6_sheet 21 = .ok (.iload_n 3, 1) := by decide +kernel
theorem dX6_sheet_22 : decode cX6_sheet 22 = .ok (.bipush 60, 2) := by decide +kernel
theorem dX6_sheet_24 : decode cX6_sheet 24 = .ok (.if_icmp .le 6, 3) := by decide +kernel
theorem dX6_sheet_27 : decode cX6_sheet 27 = .ok (.bipush (-2), 2) := by decide +kernel
theorem dX6_sheet_29 : decode cX6_sheet 29 = .ok (.ireturn, 1) := by decide +kernel
theorem dX6_sheet_30 : decode cX6_sheet 30 = .ok (.iload_n 3, 1) := by decide +kernel
theorem dX6_sheet_31 : decode cX6_sheet 31 = .ok (.ifCond .ge 9, 3) := by decide +kernel
theorem dX6_sheet_34 : decode cX6_sheet 34 = .ok (.aload_n 0, 1) := by decide +kernel
theorem dX6_sheet_35 : decode cX6_sheet 35 = .ok (.iconst 4, 1) := by decide +kernel
theorem dX6_sheet_36 : decode cX6_sheet 36 = .ok (.invokevirtual 230, 3) := by decide +kernel
theorem dX6_sheet_39 : decode cX6_sheet 39 = .ok (.ireturn, 1) := by decide +kernel
theorem dX6_sheet_40 : decode cX6_sheet 40 = .ok (.aload_n 0, 1) := by decide +kernel
theorem dX6_sheet_41 : decode cX6_sheet 41 = .ok (.getfield 23, 3) := by decide +kernel
theorem dX6_sheet_44 : decode cX6_sheet 44 = .ok (.iload_n 1, 1) := by decide +kernel
theorem dX6_sheet_45 : decode cX6_sheet 45 = .ok (.aaload, 1) := by decide +kernel
theorem dX6_sheet_46 : decode cX6_sheet 46 = .ok (.iload_n 2, 1) := by decide +kernel
theorem dX6_sheet_47 : decode cX6_sheet 47 = .ok (.iload_n 3, 1) := by decide +kernel
theorem dX6_sheet_48 : decode cX6_sheet 48 = .ok (.invokevirtual 233, 3) := by decide +kernel
theorem dX6_sheet_51 : decode cX6_sheet 51 = .ok (.iconst 1, 1) := by decide +kernel
theorem dX6_sheet_52 : decode cX6_sheet 52 = .ok (.ireturn, 1) := by decide +kernel
set_option maxRecDepth 20000 in
theorem ggX6_lose_X6_isSheet : GoodIn wsX6_lose wsX6_isSheet := goodIn_r _ [6] (by decide +kernel) (by decide +kernel)
set_option maxRecDepth 20000 in
theorem gX6_lose_X6_isSheet : GoodIn wsX6_lose (va_wsS RX6 224 yX6_isSheet wsX6_isSheet) := goodIn_app (goodIn_of _ (by decide +kernel)) ggX6_lose_X6_isSheet
theorem dX6_lose_0 : decode cX6_lose 0 = .ok (.iload_n 1, 1) := by decide +kernel
theorem dX6_lose_1 : decode cX6_lose 1 = .ok (.invokestatic 224, 3) := by decide +kernel
theorem dX6_lose_4 : decode cX6_lose 4 = .ok (.ifCond .ne 5, 3) := by decide +kernel
theorem dX6_lose_7 : decode cX6_lose 7 = .ok (.iconst (-1), 1) := by decide +kernel
theorem dX6_lose_8 : decode cX6_lose 8 = .ok (.ireturn, 1) := by decide +kernel
theorem dX6_lose_9 : decode cX6_lose 9 = .ok (.aload_n 0, 1) := by decide +kernel
theorem dX6_lose_10 : decode cX6_lose 10 = .ok (.getfield 23, 3) := by decide +kernel
theorem dX6_lose_13 : decode cX6_lose 13 = .ok (.iload_n 1, 1) := by decide +kernel
theorem dX6_lose_14 : decode cX6_lose 14 = .ok (.aaload, 1) := by decide +kernel
theorem dX6_lose_15 : decode cX6_lose 15 = .ok (.getfield 237, 3) := by decide +kernel
theorem dX6_lose_18 : decode cX6_lose 18 = .ok (.istore_n 2, 1) := by decide +kernel
theorem dX6_lose_19 : decode cX6_lose 19 = .ok (.aload_n 0, 1) := by decide +kernel
theorem dX6_lose_20 : decode cX6_lose 20 = .ok (.getfield 23, 3) := by decide +kernel
theorem dX6_lose_23 : decode cX6_lose 23 = .ok (.iload_n 1, 1) := by decide +kernel
theorem dX6_lose_24 : decode cX6_lose 24 = .ok (.aaload, 1) := by decide +kernel
theorem dX6_lose_25 : decode cX6_lose 25 = .ok (.iconst 0, 1) := by decide +kernel
theorem dX6_lose_26 : decode cX6_lose 26 = .ok (.putfield 237, 3) := by decide +kernel
theorem dX6_lose_29 : decode cX6_lose 29 = .ok (.iload_n 2, 1) := by decide +kernel
theorem dX6_lose_30 : decode cX6_lose 30 = .ok (.ifCond .eq 7, 3) := by decide +kernel
theorem dX6_lose_33 : decode cX6_lose 33 = .ok (.iconst 1, 1) := by decide +kernel
theorem dX6_lose_34 : decode cX6_lose 34 = .ok (.goto 4, 3) := by decide +kernel
theorem dX6_lose_37 : decode cX6_lose 37 = .ok (.iconst 0, 1) := by decide +kernel
theorem dX6_lose_38 : decode cX6_lose 38 = .ok (.ireturn, 1) := by decide +kernel
set_option maxRecDepth 20000 in
theorem ggX6_put_X6_isSheet : GoodIn wsX6_put wsX6_isSheet := goodIn_r _ [7] (by decide +kernel) (by decide +kernel)
set_option maxRecDepth 20000 in
theorem gX6_put_X6_isSheet : GoodIn wsX6_put (va_wsS RX6 224 yX6_isSheet wsX6_isSheet) := goodIn_app (goodIn_of _ (by decide +kernel)) ggX6_put_X6_isSheet
set_option maxRecDepth 20000 in
theorem ggX6_put_X6_faulted : GoodIn wsX6_put wsX6_faulted := goodIn_r _ [11, 1, 28, 29, 30, 31, 32, 33, 34, 35, 36, 37, 38] (by decide +kernel) (by decide +kernel)
set_option maxRecDepth 20000 in
theorem gX6_put_X6_faulted : GoodIn wsX6_put (wsV RX6 230 RX6 yX6_faulted wsX6_faulted) := goodIn_app (goodIn_of _ (by decide +kernel)) ggX6_put_X6_faulted
set_option maxRecDepth 20000 in
theorem ggX6_put_X3_reaches : GoodIn wsX6_put wsX3_reaches := goodIn_r _ [16, 17, 39, 40, 41, 42] (by decide +kernel) (by decide +kernel)
set_option maxRecDepth 20000 in
theorem gX6_put_X3_reaches : GoodIn wsX6_put (wsV RX6 241 RX3 yX3_reaches wsX3_reaches) := goodIn_app (goodIn_of _ (by decide +kernel)) ggX6_put_X3_reaches
set_option maxRecDepth 20000 in
theorem ggX6_put_X3_write : GoodIn wsX6_put wsX3_write := goodIn_r _ [21, 17, 22, 23, 24, 25, 15, 26, 27, 39, 40, 41, 42] (by decide +kernel) (by decide +kernel)
set_option maxRecDepth 20000 in
theorem gX6_put_X3_write : GoodIn wsX6_put (wsV RX6 245 RX3 yX3_write wsX3_write) := goodIn_app (goodIn_of _ (by decide +kernel)) ggX6_put_X3_write
theorem dX6_put_0 : decode cX6_put 0 = .ok (.aload_n 0, 1) := by decide +kernel
theorem dX6_put_1 : decode cX6_put 1 = .ok (.iconst 0, 1) := by decide +kernel
theorem dX6_put_2 : decode cX6_put 2 = .ok (.putfield 67, 3) := by decide +kernel
theorem dX6_put_5 : decode cX6_put 5 = .ok (.iload_n 1, 1) := by decide +kernel
theorem dX6_put_6 : decode cX6_put 6 = .ok (.invokestatic 224, 3) := by decide +kernel
theorem dX6_put_9 : decode cX6_put 9 = .ok (.ifCond .ne 5, 3) := by decide +kernel
theorem dX6_put_12 : decode cX6_put 12 = .ok (.iconst (-1), 1) := by decide +kernel
theorem dX6_put_13 : decode cX6_put 13 = .ok (.ireturn, 1) := by decide +kernel
theorem dX6_put_14 : decode cX6_put 14 = .ok (.aload_n 0, 1) := by decide +kernel
theorem dX6_put_15 : decode cX6_put 15 = .ok (.getfield 23, 3) := by decide +kernel
theorem dX6_put_18 : decode cX6_put 18 = .ok (.iload_n 1, 1) := by decide +kernel
theorem dX6_put_19 : decode cX6_put 19 = .ok (.aaload, 1) := by decide +kernel
theorem dX6_put_20 : decode cX6_put 20 = .ok (.getfield 237, 3) := by decide +kernel
theorem dX6_put_23 : decode cX6_put 23 = .ok (.ifCond .ne 9, 3) := by decide +kernel
theorem dX6_put_26 : decode cX6_put 26 = .ok (.aload_n 0, 1) := by decide +kernel
theorem dX6_put_27 : decode cX6_put 27 = .ok (.iconst 1, 1) := by decide +kernel
theorem dX6_put_28 : decode cX6_put 28 = .ok (.invokevirtual 230, 3) := by decide +kernel
theorem dX6_put_31 : decode cX6_put 31 = .ok (.ireturn, 1) := by decide +kernel
theorem dX6_put_32 : decode cX6_put 32 = .ok (.aload_n 0, 1) := by decide +kernel
theorem dX6_put_33 : decode cX6_put 33 = .ok (.getfield 23, 3) := by decide +kernel
theorem dX6_put_36 : decode cX6_put 36 = .ok (.iload_n 1, 1) := by decide +kernel
theorem dX6_put_37 : decode cX6_put 37 = .ok (.aaload, 1) := by decide +kernel
theorem dX6_put_38 : decode cX6_put 38 = .ok (.iload_n 2, 1) := by decide +kernel
theorem dX6_put_39 : decode cX6_put 39 = .ok (.iconst 1, 1) := by decide +kernel
theorem dX6_put_40 : decode cX6_put 40 = .ok (.invokevirtual 241, 3) := by decide +kernel
theorem dX6_put_43 : decode cX6_put 43 = .ok (.ifCond .ne 9, 3) := by decide +kernel
theorem dX6_put_46 : decode cX6_put 46 = .ok (.aload_n 0, 1) := by decide +kernel
theorem dX6_put_47 : decode cX6_put 47 = .ok (.iconst 3, 1) := by decide +kernel
theorem dX6_put_48 : decode cX6_put 48 = .ok (.invokevirtual 230, 3) := by decide +kernel
theorem dX6_put_51 : decode cX6_put 51 = .ok (.ireturn, 1) := by decide +kernel
theorem dX6_put_52 : decode cX6_put 52 = .ok (.aload_n 0, 1) := by decide +kernel
theorem dX6_put_53 : decode cX6_put 53 = .ok (.getfield 23, 3) := by decide +kernel
theorem dX6_put_56 : decode cX6_put 56 = .ok (.iload_n 1, 1) := by decide +kernel
theorem dX6_put_57 : decode cX6_put 57 = .ok (.aaload, 1) := by decide +kernel
theorem dX6_put_58 : decode cX6_put 58 = .ok (.iload_n 2, 1) := by decide +kernel
theorem dX6_put_59 : decode cX6_put 59 = .ok (.iload_n 3, 1) := by decide +kernel
theorem dX6_put_60 : decode cX6_put 60 = .ok (.invokevirtual 245, 3) := by decide +kernel
theorem dX6_put_63 : decode cX6_put 63 = .ok (.iconst 1, 1) := by decide +kernel
theorem dX6_put_64 : decode cX6_put 64 = .ok (.ireturn, 1) := by decide +kernel
set_option maxRecDepth 20000 in
theorem ggX6_cell_X6_rowTrouble : GoodIn wsX6_cell wsX6_rowTrouble := goodIn_r _ [7, 8, 2, 9, 10, 11, 12, 6, 13, 14, 15, 16, 17, 18, 19, 20, 21, 22, 23, 24, 25, 26, 32, 33, 34, 35, 36, 37, 38, 39, 40, 41, 42, 43, 44, 45, 46] (by decide +kernel) (by decide +kernel)
set_option maxRecDepth 20000 in
theorem gX6_cell_X6_rowTrouble : GoodIn wsX6_cell (wsV RX6 71 RX6 yX6_rowTrouble wsX6_rowTrouble) := goodIn_app (goodIn_of _ (by decide +kernel)) ggX6_cell_X6_rowTrouble
set_option maxRecDepth 20000 in
theorem ggX6_cell_X3_at : GoodIn wsX6_cell wsX3_at := goodIn_r _ [30, 26, 31, 43, 44, 45, 46] (by decide +kernel) (by decide +kernel)
set_option maxRecDepth 20000 in
theorem gX6_cell_X3_at : GoodIn wsX6_cell (wsV RX6 152 RX3 yX3_at wsX3_at) := goodIn_app (goodIn_of _ (by decide +kernel)) ggX6_cell_X3_at
theorem dX6_cell_0 : decode cX6_cell 0 = .ok (.aload_n 0, 1) := by decide +kernel
theorem dX6_cell_1 : decode cX6_cell 1 = .ok (.iload_n 1, 1) := by decide +kernel
theorem dX6_cell_2 : decode cX6_cell 2 = .ok (.iload_n 3, 1) := by decide +kernel
theorem dX6_cell_3 : decode cX6_cell 3 = .ok (.iload_n 2, 1) := by decide +kernel
theorem dX6_cell_4 : decode cX6_cell 4 = .ok (.iconst 1, 1) := by decide +kernel
theorem dX6_cell_5 : decode cX6_cell 5 = .ok (.iconst 1, 1) := by decide +kernel
theorem dX6_cell_6 : decode cX6_cell 6 = .ok (.invokevirtual 71, 3) := by decide +kernel
theorem dX6_cell_9 : decode cX6_cell 9 = .ok (.istore 4, 2) := by decide +kernel
theorem dX6_cell_11 : decode cX6_cell 11 = .ok (.iload 4, 2) := by decide +kernel
theorem dX6_cell_13 : decode cX6_cell 13 = .ok (.ifCond .eq 9, 3) := by decide +kernel
theorem dX6_cell_16 : decode cX6_cell 16 = .ok (.ldc2_w 215, 3) := by decide +kernel
theorem dX6_cell_19 : decode cX6_cell 19 = .ok (.goto 14, 3) := by decide +kernel
theorem dX6_cell_22 : decode cX6_cell 22 = .ok (.aload_n 0, 1) := by decide +kernel
theorem dX6_cell_23 : decode cX6_cell 23 = .ok (.getfield 23, 3) := by decide +kernel
theorem dX6_cell_26 : decode cX6_cell 26 = .ok (.iload_n 1, 1) := by decide +kernel
theorem dX6_cell_27 : decode cX6_cell 27 = .ok (.aaload, 1) := by decide +kernel
theorem dX6_cell_28 : decode cX6_cell 28 = .ok (.iload_n 2, 1) := by decide +kernel
theorem dX6_cell_29 : decode cX6_cell 29 = .ok (.invokevirtual 152, 3) := by decide +kernel
theorem dX6_cell_32 : decode cX6_cell 32 = .ok (.i2l, 1) := by decide +kernel
theorem dX6_cell_33 : decode cX6_cell 33 = .ok (.lreturn, 1) := by decide +kernel
set_option maxRecDepth 20000 in
theorem ggX6_copy_X6_isSheet : GoodIn wsX6_copy wsX6_isSheet := goodIn_r _ [13] (by decide +kernel) (by decide +kernel)
set_option maxRecDepth 20000 in
theorem gX6_copy_X6_isSheet : GoodIn wsX6_copy (va_wsS RX6 224 yX6_isSheet wsX6_isSheet) := goodIn_app (goodIn_of _ (by decide +kernel)) ggX6_copy_X6_isSheet
set_option maxRecDepth 20000 in
theorem ggX6_copy_X6_faulted : GoodIn wsX6_copy wsX6_faulted := goodIn_r _ [17, 1, 24, 25, 26, 27, 28, 29, 30, 31, 32, 33, 34] (by decide +kernel) (by decide +kernel)
set_option maxRecDepth 20000 in
theorem gX6_copy_X6_faulted : GoodIn wsX6_copy (wsV RX6 230 RX6 yX6_faulted wsX6_faulted) := goodIn_app (goodIn_of _ (by decide +kernel)) ggX6_copy_X6_faulted
set_option maxRecDepth 20000 in
theorem ggX6_copy_X3_reaches : GoodIn wsX6_copy wsX3_reaches := goodIn_r _ [22, 23, 35, 36, 37, 38] (by decide +kernel) (by decide +kernel)
set_option maxRecDepth 20000 in
theorem gX6_copy_X3_reaches : GoodIn wsX6_copy (wsV RX6 241 RX3 yX3_reaches wsX3_reaches) := goodIn_app (goodIn_of _ (by decide +kernel)) ggX6_copy_X3_reaches
theorem dX6_copy_0 : decode cX6_copy 0 = .ok (.aload_n 0, 1) := by decide +kernel
theorem dX6_copy_1 : decode cX6_copy 1 = .ok (.iconst 0, 1) := by decide +kernel
theorem dX6_copy_2 : decode cX6_copy 2 = .ok (.putfield 67, 3) := by decide +kernel
theorem dX6_copy_5 : decode cX6_copy 5 = .ok (.iload_n 1, 1) := by decide +kernel
theorem dX6_copy_6 : decode cX6_copy 6 = .ok (.invokestatic 224, 3) := by decide +kernel
theorem dX6_copy_9 : decode cX6_copy 9 = .ok (.ifCond .eq 10, 3) := by decide +kernel
theorem dX6_copy_12 : decode cX6_copy 12 = .ok (.iload_n 3, 1) := by decide +kernel
theorem dX6_copy_13 : decode cX6_copy 13 = .ok (.invokestatic 224, 3) := by decide +kernel
theorem dX6_copy_16 : decode cX6_copy 16 = .ok (.ifCond .ne 5, 3) := by decide +kernel
theorem dX6_copy_19 : decode cX6_copy 19 = .ok (.iconst (-1), 1) := by decide +kernel
theorem dX6_copy_20 : decode cX6_copy 20 = .ok (.ireturn, 1) := by decide +kernel
theorem dX6_copy_21 : decode cX6_copy 21 = .ok (.aload_n 0, 1) := by decide +kernel
theorem dX6_copy_22 : decode cX6_copy 22 = .ok (.getfield 23, 3) := by decide +kernel
theorem dX6_copy_25 : decode cX6_copy 25 = .ok (.iload_n 1, 1) := by decide +kernel
theorem dX6_copy_26 : decode cX6_copy 26 = .ok (.aaload, 1) := by decide +kernel
theorem dX6_copy_27 : decode cX6_copy 27 = .ok (.astore 6, 2) := by decide +kernel
theorem dX6_copy_29 : decode cX6_copy 29 = .ok (.aload_n 0, 1) := by decide +kernel
theorem dX6_copy_30 : decode cX6_copy 30 = .ok (.getfield 23, 3) := by decide +kernel
theorem dX6_copy_33 : decode cX6_copy 33 = .ok (.iload_n 3, 1) := by decide +kernel
theorem dX6_copy_34 : decode cX6_copy 34 = .ok (.aaload, 1) := by decide +kernel
theorem dX6_copy_35 : decode cX6_copy 35 = .ok (.astore 7, 2) := by decide +kernel
theorem dX6_copy_37 : decode cX6_copy 37 = .ok (.aload 6, 2) := by decide +kernel
theorem dX6_copy_39 : decode cX6_copy 39 = .ok (.getfield 237, 3) := by decide +kernel
theorem dX6_copy_42 : decode cX6_copy 42 = .ok (.ifCond .eq 11, 3) := by decide +kernel
theorem dX6_copy_45 : decode cX6_copy 45 = .ok (.aload 7, 2) := by decide +kernel
theorem dX6_copy_47 : decode cX6_copy 47 = .ok (.getfield 237, 3) := by decide +kernel
theorem dX6_copy_50 : decode cX6_copy 50 = .ok (.ifCond .ne 9, 3) := by decide +kernel
theorem dX6_copy_53 : decode cX6_copy 53 = .ok (.aload_n 0, 1) := by decide +kernel
theorem dX6_copy_54 : decode cX6_copy 54 = .ok (.iconst 1, 1) := by decide +kernel
theorem dX6_copy_55 : decode cX6_copy 55 = .ok (.invokevirtual 230, 3) := by decide +kernel
theorem dX6_copy_58 : decode cX6_copy 58 = .ok (.ireturn, 1) := by decide +kernel
theorem dX6_copy_59 : decode cX6_copy 59 = .ok (.aload 6, 2) := by decide +kernel
theorem dX6_copy_61 : decode cX6_copy 61 = .ok (.getfield 248, 3) := by decide +kernel
theorem dX6_copy_64 : decode cX6_copy 64 = .ok (.aload 7, 2) := by decide +kernel
theorem dX6_copy_66 : decode cX6_copy 66 = .ok (.getfield 248, 3) := by decide +kernel
theorem dX6_copy_69 : decode cX6_copy 69 = .ok (.if_icmp .eq 9, 3) := by decide +kernel
theorem dX6_copy_72 : decode cX6_copy 72 = .ok (.aload_n 0, 1) := by decide +kernel
theorem dX6_copy_73 : decode cX6_copy 73 = .ok (.iconst 2, 1) := by decide +kernel
theorem dX6_copy_74 : decode cX6_copy 74 = .ok (.invokevirtual 230, 3) := by decide +kernel
theorem dX6_copy_77 : decode cX6_copy 77 = .ok (.ireturn, 1) := by decide +kernel
theorem dX6_copy_78 : decode cX6_copy 78 = .ok (.aload 6, 2) := by decide +kernel
theorem dX6_copy_80 : decode cX6_copy 80 = .ok (.iload_n 2, 1) := by decide +kernel
theorem dX6_copy_81 : decode cX6_copy 81 = .ok (.iload 5, 2) := by decide +kernel
theorem dX6_copy_83 : decode cX6_copy 83 = .ok (.invokevirtual 241, 3) := by decide +kernel
theorem dX6_copy_86 : decode cX6_copy 86 = .ok (.ifCond .eq 15, 3) := by decide +kernel
theorem dX6_copy_89 : decode cX6_copy 89 = .ok (.aload 7, 2) := by decide +kernel
theorem dX6_copy_91 : decode cX6_copy 91 = .ok (.iload 4, 2) := by decide +kernel
theorem dX6_copy_93 : decode cX6_copy 93 = .ok (.iload 5, 2) := by decide +kernel
theorem dX6_copy_95 : decode cX6_copy 95 = .ok (.invokevirtual 241, 3) := by decide +kernel
theorem dX6_copy_98 : decode cX6_copy 98 = .ok (.ifCond .ne 9, 3) := by decide +kernel
theorem dX6_copy_101 : decode cX6_copy 101 = .ok (.aload_n 0, 1) := by decide +kernel
theorem dX6_copy_102 : decode cX6_copy 102 = .ok (.iconst 3, 1) := by decide +kernel
theorem dX6_copy_103 : decode cX6_copy 103 = .ok (.invokevirtual 230, 3) := by decide +kernel
theorem dX6_copy_106 : decode cX6_copy 106 = .ok (.ireturn, 1) := by decide +kernel
theorem dX6_copy_107 : decode cX6_copy 107 = .ok (.aload 6, 2) := by decide +kernel
theorem dX6_copy_109 : decode cX6_copy 109 = .ok (.getfield 251, 3) := by decide +kernel
theorem dX6_copy_112 : decode cX6_copy 112 = .ok (.iload_n 2, 1) := by decide +kernel
theorem dX6_copy_113 : decode cX6_copy 113 = .ok (.aload 7, 2) := by decide +kernel
theorem dX6_copy_115 : decode cX6_copy 115 = .ok (.getfield 251, 3) := by decide +kernel
theorem dX6_copy_118 : decode cX6_copy 118 = .ok (.iload 4, 2) := by decide +kernel
theorem dX6_copy_120 : decode cX6_copy 120 = .ok (.iload 5, 2) := by decide +kernel
theorem dX6_copy_122 : decode cX6_copy 122 = .ok (.invokestatic 254, 3) := by decide +kernel
theorem dX6_copy_125 : decode cX6_copy 125 = .ok (.iload 5, 2) := by decide +kernel
theorem dX6_copy_127 : decode cX6_copy 127 = .ok (.ireturn, 1) := by decide +kernel
set_option maxRecDepth 20000 in
theorem ggX6_tell_X5_has : GoodIn wsX6_tell wsX5_has := goodIn_r _ [8, 9, 39, 40, 41, 42, 43, 44, 45] (by decide +kernel) (by decide +kernel)
set_option maxRecDepth 20000 in
theorem gX6_tell_X5_has : GoodIn wsX6_tell (wsV RX6 90 RX5 yX5_has wsX5_has) := goodIn_app (goodIn_of _ (by decide +kernel)) ggX6_tell_X5_has
set_option maxRecDepth 20000 in
theorem ggX6_tell_X6_windowedTells : GoodIn wsX6_tell wsX6_windowedTells := goodIn_r _ [14, 15, 16, 17, 13, 18, 19, 20, 21, 22, 23, 24, 25, 26, 27, 28, 29, 30, 31, 32, 33, 34, 35, 36, 37, 38] (by decide +kernel) (by decide +kernel)
set_option maxRecDepth 20000 in
theorem gX6_tell_X6_windowedTells : GoodIn wsX6_tell (wsV RX6 260 RX6 yX6_windowedTells wsX6_windowedTells) := goodIn_app (goodIn_of _ (by decide +kernel)) ggX6_tell_X6_windowedTells
set_option maxRecDepth 20000 in
theorem ggX6_tell_X6_longTells : GoodIn wsX6_tell wsX6_longTells := goodIn_r _ [23, 15, 16, 17, 13, 18, 19, 24, 25, 26, 27, 28, 29, 30, 31, 32, 33, 34, 35, 36, 37, 38] (by decide +kernel) (by decide +kernel)
set_option maxRecDepth 20000 in
theorem gX6_tell_X6_longTells : GoodIn wsX6_tell (wsV RX6 263 RX6 yX6_longTells wsX6_longTells) := goodIn_app (goodIn_of _ (by decide +kernel)) ggX6_tell_X6_longTells
set_option maxRecDepth 20000 in
theorem ggX6_tell_X6_plainTells : GoodIn wsX6_tell wsX6_plainTells := goodIn_r _ [27, 15, 16, 17, 13, 18, 19, 28, 29, 30, 31, 32, 33, 34, 35, 36, 37, 38] (by decide +kernel) (by decide +kernel)
set_option maxRecDepth 20000 in
theorem gX6_tell_X6_plainTells : GoodIn wsX6_tell (wsV RX6 266 RX6 yX6_plainTells wsX6_plainTells) := goodIn_app (goodIn_of _ (by decide +kernel)) ggX6_tell_X6_plainTells
theorem dX6_tell_0 : decode cX6_tell 0 = .ok (.aload_n 0, 1) := by decide +kernel
theorem dX6_tell_1 : decode cX6_tell 1 = .ok (.getfield 12, 3) := by decide +kernel
theorem dX6_tell_4 : decode cX6_tell 4 = .ok (.iload_n 1, 1) := by decide +kernel
theorem dX6_tell_5 : decode cX6_tell 5 = .ok (.invokevirtual 90, 3) := by decide +kernel
theorem dX6_tell_8 : decode cX6_tell 8 = .ok (.ifCond .ne 5, 3) := by decide +kernel
theorem dX6_tell_11 : decode cX6_tell 11 = .ok (.iconst (-1), 1) := by decide +kernel
theorem dX6_tell_12 : decode cX6_tell 12 = .ok (.ireturn, 1) := by decide +kernel
theorem dX6_tell_13 : decode cX6_tell 13 = .ok (.aload_n 0, 1) := by decide +kernel
theorem dX6_tell_14 : decode cX6_tell 14 = .ok (.getfield 12, 3) := by decide +kernel
theorem dX6_tell_17 : decode cX6_tell 17 = .ok (.getfield 94, 3) := by decide +kernel
theorem dX6_tell_20 : decode cX6_tell 20 = .ok (.iload_n 1, 1) := by decide +kernel
theorem dX6_tell_21 : decode cX6_tell 21 = .ok (.iaload, 1) := by decide +kernel
theorem dX6_tell_22 : decode cX6_tell 22 = .ok (.lookupswitch 54 #[(1, 40), (2, 26)], 26) := by decide +kernel
theorem dX6_tell_48 : decode cX6_tell 48 = .ok (.aload_n 0, 1) := by decide +kernel
theorem dX6_tell_49 : decode cX6_tell 49 = .ok (.aload_n 0, 1) := by decide +kernel
theorem dX6_tell_50 : decode cX6_tell 50 = .ok (.getfield 12, 3) := by decide +kernel
theorem dX6_tell_53 : decode cX6_tell 53 = .ok (.getfield 97, 3) := by decide +kernel
theorem dX6_tell_56 : decode cX6_tell 56 = .ok (.iload_n 1, 1) := by decide +kernel
theorem dX6_tell_57 : decode cX6_tell 57 = .ok (.iaload, 1) := by decide +kernel
theorem dX6_tell_58 : decode cX6_tell 58 = .ok (.invokevirtual 260, 3) := by decide +kernel
theorem dX6_tell_61 : decode cX6_tell 61 = .ok (.ireturn, 1) := by decide +kernel
theorem dX6_tell_62 : decode cX6_tell 62 = .ok (.aload_n 0, 1) := by decide +kernel
theorem dX6_tell_63 : decode cX6_tell 63 = .ok (.aload_n 0, 1) := by decide +kernel
theorem dX6_tell_64 : decode cX6_tell 64 = .ok (.getfield 12, 3) := by decide +kernel
theorem dX6_tell_67 : decode cX6_tell 67 = .ok (.getfield 97, 3) := by decide +kernel
theorem dX6_tell_70 : decode cX6_tell 70 = .ok (.iload_n 1, 1) := by decide +kernel
theorem dX6_tell_71 : decode cX6_tell 71 = .ok (.iaload, 1) := by decide +kernel
theorem dX6_tell_72 : decode cX6_tell 72 = .ok (.invokevirtual 263, 3) := by decide +kernel
theorem dX6_tell_75 : decode cX6_tell 75 = .ok (.ireturn, 1) := by decide +kernel
theorem dX6_tell_76 : decode cX6_tell 76 = .ok (.aload_n 0, 1) := by decide +kernel
theorem dX6_tell_77 : decode cX6_tell 77 = .ok (.aload_n 0, 1) := by decide +kernel
theorem dX6_tell_78 : decode cX6_tell 78 = .ok (.getfield 12, 3) := by decide +kernel
theorem dX6_tell_81 : decode cX6_tell 81 = .ok (.getfield 97, 3) := by decide +kernel
theorem dX6_tell_84 : decode cX6_tell 84 = .ok (.iload_n 1, 1) := by decide +kernel
theorem dX6_tell_85 : decode cX6_tell 85 = .ok (.iaload, 1) := by decide +kernel
theorem dX6_tell_86 : decode cX6_tell 86 = .ok (.invokevirtual 266, 3) := by decide +kernel
theorem dX6_tell_89 : decode cX6_tell 89 = .ok (.ireturn, 1) := by decide +kernel
set_option maxRecDepth 20000 in
theorem ggX6_plainTells_X6_leaveTrace : GoodIn wsX6_plainTells wsX6_leaveTrace := goodIn_r _ [5, 6, 7, 8, 9, 10, 11, 12, 13, 14, 15, 16, 17] (by decide +kernel) (by decide +kernel)
set_option maxRecDepth 20000 in
theorem gX6_plainTells_X6_leaveTrace : GoodIn wsX6_plainTells (wsV RX6 269 RX6 yX6_leaveTrace wsX6_leaveTrace) := goodIn_app (goodIn_of _ (by decide +kernel)) ggX6_plainTells_X6_leaveTrace
theorem dX6_plainTells_0 : decode cX6_plainTells 0 = .ok (.aload_n 0, 1) := by decide +kernel
theorem dX6_plainTells_1 : decode cX6_plainTells 1 = .ok (.iconst 1, 1) := by decide +kernel
theorem dX6_plainTells_2 : decode cX6_plainTells 2 = .ok (.invokevirtual 269, 3) := by decide +kernel
theorem dX6_plainTells_5 : decode cX6_plainTells 5 = .ok (.iload_n 1, 1) := by decide +kernel
theorem dX6_plainTells_6 : decode cX6_plainTells 6 = .ok (.ireturn, 1) := by decide +kernel
set_option maxRecDepth 20000 in
theorem ggX6_longTells_X6_leaveTrace : GoodIn wsX6_longTells wsX6_leaveTrace := goodIn_r _ [5, 6, 11, 12, 13, 14, 15, 16, 17, 18, 19, 20, 21] (by decide +kernel) (by decide +kernel)
set_option maxRecDepth 20000 in
theorem gX6_longTells_X6_leaveTrace : GoodIn wsX6_longTells (wsV RX6 269 RX6 yX6_leaveTrace wsX6_leaveTrace) := goodIn_app (goodIn_of _ (by decide +kernel)) ggX6_longTells_X6_leaveTrace
set_option maxRecDepth 20000 in
theorem ggX6_longTells_X6_plainTells : GoodIn wsX6_longTells wsX6_plainTells := goodIn_r _ [10, 1, 2, 3, 4, 5, 6, 11, 12, 13, 14, 15, 16, 17, 18, 19, 20, 21] (by decide +kernel) (by decide +kernel)
set_option maxRecDepth 20000 in
theorem gX6_longTells_X6_plainTells : GoodIn wsX6_longTells (wsV RX6 266 RX6 yX6_plainTells wsX6_plainTells) := goodIn_app (goodIn_of _ (by decide +kernel)) ggX6_longTells_X6_plainTells
theorem dX6_longTells_0 : decode cX6_longTells 0 = .ok (.aload_n 0, 1) := by decide +kernel
theorem dX6_longTells_1 : decode cX6_longTells 1 = .ok (.iconst 2, 1) := by decide +kernel
theorem dX6_longTells_2 : decode cX6_longTells 2 = .ok (.invokevirtual 269, 3) := by decide +kernel
theorem dX6_longTells_5 : decode cX6_longTells 5 = .ok (.aload_n 0, 1) := by decide +kernel
theorem dX6_longTells_6 : decode cX6_longTells 6 = .ok (.iload_n 1, 1) := by decide +kernel
theorem dX6_longTells_7 : decode cX6_longTells 7 = .ok (.invokevirtual 266, 3) := by decide +kernel
theorem dX6_longTells_10 : decode cX6_longTells 10 = .ok (.bipush 100, 2) := by decide +kernel
theorem dX6_longTells_12 : decode cX6_longTells 12 = .ok (.iadd, 1) := by decide +kernel
theorem dX6_longTells_13 : decode cX6_longTells 13 = .ok (.ireturn, 1) := by decide +kernel
set_option maxRecDepth 20000 in
theorem ggX6_windowedTells_X6_leaveTrace : GoodIn wsX6_windowedTells wsX6_leaveTrace := goodIn_r _ [5, 6, 15, 16, 17, 18, 19, 20, 21, 22, 23, 24, 25] (by decide +kernel) (by decide +kernel)
set_option maxRecDepth 20000 in
theorem gX6_windowedTells_X6_leaveTrace : GoodIn wsX6_windowedTells (wsV RX6 269 RX6 yX6_leaveTrace wsX6_leaveTrace) := goodIn_app (goodIn_of _ (by decide +kernel)) ggX6_windowedTells_X6_leaveTrace
set_option maxRecDepth 20000 in
theorem ggX6_windowedTells_X6_longTells : GoodIn wsX6_windowedTells wsX6_longTells := goodIn_r _ [10, 1, 2, 3, 4, 5, 6, 11, 12, 13, 14, 15, 16, 17, 18, 19, 20, 21, 22, 23, 24, 25] (by decide +kernel) (by decide +kernel)
set_option maxRecDepth 20000 in
theorem gX6_windowedTells_X6_longTells : GoodIn wsX6_windowedTells (wsV RX6 263 RX6 yX6_longTells wsX6_longTells) := goodIn_app (goodIn_of _ (by decide +kernel)) ggX6_windowedTells_X6_longTells
set_option maxRecDepth 20000 in
theorem ggX6_windowedTells_X6_plainTells : GoodIn wsX6_windowedTells wsX6_plainTells := goodIn_r _ [14, 1, 2, 3, 4, 5, 6, 15, 16, 17, 18, 19, 20, 21, 22, 23, 24, 25] (by decide +kernel) (by decide +kernel)
set_option maxRecDepth 20000 in
theorem gX6_windowedTells_X6_plainTells : GoodIn wsX6_windowedTells (wsV RX6 266 RX6 yX6_plainTells wsX6_plainTells) := goodIn_app (goodIn_of _ (by decide +kernel)) ggX6_windowedTells_X6_plainTells
theorem dX6_windowedTells_0 : decode cX6_windowedTells 0 = .ok (.aload_n 0, 1) := by decide +kernel
theorem dX6_windowedTells_1 : decode cX6_windowedTells 1 = .ok (.iconst 3, 1) := by decide +kernel
theorem dX6_windowedTells_2 : decode cX6_windowedTells 2 = .ok (.invokevirtual 269, 3) := by decide +kernel
theorem dX6_windowedTells_5 : decode cX6_windowedTells 5 = .ok (.aload_n 0, 1) := by decide +kernel
theorem dX6_windowedTells_6 : decode cX6_windowedTells 6 = .ok (.iload_n 1, 1) := by decide +kernel
theorem dX6_windowedTells_7 : decode cX6_windowedTells 7 = .ok (.invokevirtual 263, 3) := by decide +kernel
theorem dX6_windowedTells_10 : decode cX6_windowedTells 10 = .ok (.istore_n 2, 1) := by decide +kernel
theorem dX6_windowedTells_11 : decode cX6_windowedTells 11 = .ok (.iload_n 2, 1) := by decide +kernel
theorem dX6_windowedTells_12 : decode cX6_windowedTells 12 = .ok (.aload_n 0, 1) := by decide +kernel
theorem dX6_windowedTells_13 : decode cX6_windowedTells 13 = .ok (.iload_n 1, 1) := by decide +kernel
theorem dX6_windowedTells_14 : decode cX6_windowedTells 14 = .ok (.invokevirtual 266, 3) := by decide +kernel
theorem dX6_windowedTells_17 : decode cX6_windowedTells 17 = .ok (.iadd, 1) := by decide +kernel
theorem dX6_windowedTells_18 : decode cX6_windowedTells 18 = .ok (.ireturn, 1) := by decide +kernel
set_option maxRecDepth 20000 in
theorem ggX6_feel_X5_has : GoodIn wsX6_feel wsX5_has := goodIn_r _ [8, 9, 27, 28, 29, 30, 31, 32, 33] (by decide +kernel) (by decide +kernel)
set_option maxRecDepth 20000 in
theorem gX6_feel_X5_has : GoodIn wsX6_feel (wsV RX6 90 RX5 yX5_has wsX5_has) := goodIn_app (goodIn_of _ (by decide +kernel)) ggX6_feel_X5_has
set_option maxRecDepth 20000 in
theorem ggX6_feel_X6_leaveTrace : GoodIn wsX6_feel wsX6_leaveTrace := goodIn_r _ [14, 15, 16, 17, 18, 19, 20, 21, 22, 23, 24, 25, 26] (by decide +kernel) (by decide +kernel)
set_option maxRecDepth 20000 in
theorem gX6_feel_X6_leaveTrace : GoodIn wsX6_feel (wsV RX6 269 RX6 yX6_leaveTrace wsX6_leaveTrace) := goodIn_app (goodIn_of _ (by decide +kernel)) ggX6_feel_X6_leaveTrace
theorem dX6_feel_0 : decode cX6_feel 0 = .ok (.aload_n 0, 1) := by decide +kernel
theorem dX6_feel_1 : decode cX6_feel 1 = .ok (.getfield 12, 3) := by decide +kernel
theorem dX6_feel_4 : decode cX6_feel 4 = .ok (.iload_n 1, 1) := by decide +kernel
theorem dX6_feel_5 : decode cX6_feel 5 = .ok (.invokevirtual 90, 3) := by decide +kernel
theorem dX6_feel_8 : decode cX6_feel 8 = .ok (.ifCond .ne 5, 3) := by decide +kernel
theorem dX6_feel_11 : decode cX6_feel 11 = .ok (.iconst (-1), 1) := by decide +kernel
theorem dX6_feel_12 : decode cX6_feel 12 = .ok (.ireturn, 1) := by decide +kernel
theorem dX6_feel_13 : decode cX6_feel 13 = .ok (.aload_n 0, 1) := by decide +kernel
theorem dX6_feel_14 : decode cX6_feel 14 = .ok (.getfield 12, 3) := by decide +kernel
theorem dX6_feel_17 : decode cX6_feel 17 = .ok (.getfield 94, 3) := by decide +kernel
theorem dX6_feel_20 : decode cX6_feel 20 = .ok (.iload_n 1, 1) := by decide +kernel
theorem dX6_feel_21 : decode cX6_feel 21 = .ok (.iaload, 1) := by decide +kernel
theorem dX6_feel_22 : decode cX6_feel 22 = .ok (.iconst 2, 1) := by decide +kernel
theorem dX6_feel_23 : decode cX6_feel 23 = .ok (.if_icmp .ne 11, 3) := by decide +kernel
theorem dX6_feel_26 : decode cX6_feel 26 = .ok (.aload_n 0, 1) := by decide +kernel
theorem dX6_feel_27 : decode cX6_feel 27 = .ok (.iconst 5, 1) := by decide +kernel
theorem dX6_feel_28 : decode cX6_feel 28 = .ok (.invokevirtual 269, 3) := by decide +kernel
theorem dX6_feel_31 : decode cX6_feel 31 = .ok (.bipush 90, 2) := by decide +kernel
theorem dX6_feel_33 : decode cX6_feel 33 = .ok (.ireturn, 1) := by decide +kernel
theorem dX6_feel_34 : decode cX6_feel 34 = .ok (.aload_n 0, 1) := by decide +kernel
theorem dX6_feel_35 : decode cX6_feel 35 = .ok (.iconst 4, 1) := by decide +kernel
theorem dX6_feel_36 : decode cX6_feel 36 = .ok (.invokevirtual 269, 3) := by decide +kernel
theorem dX6_feel_39 : decode cX6_feel 39 = .ok (.aload_n 0, 1) := by decide +kernel
theorem dX6_feel_40 : decode cX6_feel 40 = .ok (.getfield 12, 3) := by decide +kernel
theorem dX6_feel_43 : decode cX6_feel 43 = .ok (.getfield 103, 3) := by decide +kernel
theorem dX6_feel_46 : decode cX6_feel 46 = .ok (.iload_n 1, 1) := by decide +kernel
theorem dX6_feel_47 : decode cX6_feel 47 = .ok (.iaload, 1) := by decide +kernel
theorem dX6_feel_48 : decode cX6_feel 48 = .ok (.ireturn, 1) := by decide +kernel
theorem dX6_leaveTrace_0 : decode cX6_leaveTrace 0 = .ok (.aload_n 0, 1) := by decide +kernel
theorem dX6_leaveTrace_1 : decode cX6_leaveTrace 1 = .ok (.bipush 31, 2) := by decide +kernel
theorem dX6_leaveTrace_3 : decode cX6_leaveTrace 3 = .ok (.aload_n 0, 1) := by decide +kernel
theorem dX6_leaveTrace_4 : decode cX6_leaveTrace 4 = .ok (.getfield 63, 3) := by decide +kernel
theorem dX6_leaveTrace_7 : decode cX6_leaveTrace 7 = .ok (.imul, 1) := by decide +kernel
theorem dX6_leaveTrace_8 : decode cX6_leaveTrace 8 = .ok (.iload_n 1, 1) := by decide +kernel
theorem dX6_leaveTrace_9 : decode cX6_leaveTrace 9 = .ok (.iadd, 1) := by decide +kernel
theorem dX6_leaveTrace_10 : decode cX6_leaveTrace 10 = .ok (.putfield 63, 3) := by decide +kernel
theorem dX6_leaveTrace_13 : decode cX6_leaveTrace 13 = .ok (.return_, 1) := by decide +kernel
set_option maxRecDepth 20000 in
theorem ggX6_as_X5_has : GoodIn wsX6_as wsX5_has := goodIn_r _ [8, 9, 26, 27, 28, 29, 30, 31, 32] (by decide +kernel) (by decide +kernel)
set_option maxRecDepth 20000 in
theorem gX6_as_X5_has : GoodIn wsX6_as (wsV RX6 90 RX5 yX5_has wsX5_has) := goodIn_app (goodIn_of _ (by decide +kernel)) ggX6_as_X5_has
set_option maxRecDepth 20000 in
theorem ggX6_as_X6_faulted : GoodIn wsX6_as wsX6_faulted := goodIn_r _ [14, 1, 15, 16, 17, 18, 19, 20, 21, 22, 23, 24, 25] (by decide +kernel) (by decide +kernel)
set_option maxRecDepth 20000 in
theorem gX6_as_X6_faulted : GoodIn wsX6_as (wsV RX6 230 RX6 yX6_faulted wsX6_faulted) := goodIn_app (goodIn_of _ (by decide +kernel)) ggX6_as_X6_faulted
theorem dX6_as_0 : decode cX6_as 0 = .ok (.aload_n 0, 1) := by decide +kernel
theorem dX6_as_1 : decode cX6_as 1 = .ok (.iconst 0, 1) := by decide +kernel
theorem dX6_as_2 : decode cX6_as 2 = .ok (.putfield 67, 3) := by decide +kernel
theorem dX6_as_5 : decode cX6_as 5 = .ok (.aload_n 0, 1) := by decide +kernel
theorem dX6_as_6 : decode cX6_as 6 = .ok (.getfield 12, 3) := by decide +kernel
theorem dX6_as_9 : decode cX6_as 9 = .ok (.iload_n 1, 1) := by decide +kernel
theorem dX6_as_10 : decode cX6_as 10 = .ok (.invokevirtual 90, 3) := by decide +kernel
theorem dX6_as_13 : decode cX6_as 13 = .ok (.ifCond .ne 5, 3) := by decide +kernel
theorem dX6_as_16 : decode cX6_as 16 = .ok (.iconst (-1), 1) := by decide +kernel
theorem dX6_as_17 : decode cX6_as 17 = .ok (.ireturn, 1) := by decide +kernel
theorem dX6_as_18 : decode cX6_as 18 = .ok (.iload_n 2, 1) := by decide +kernel
theorem dX6_as_19 : decode cX6_as 19 = .ok (.ifCond .lt 8, 3) := by decide +kernel
theorem dX6_as_22 : decode cX6_as 22 = .ok (.iload_n 2, 1) := by decide +kernel
theorem dX6_as_23 : decode cX6_as 23 = .ok (.iconst 3, 1) := by decide +kernel
theorem dX6_as_24 : decode cX6_as 24 = .ok (.if_icmp .lt 6, 3) := by decide +kernel
theorem dX6_as_27 : decode cX6_as 27 = .ok (.bipush (-2), 2) := by decide +kernel
theorem dX6_as_29 : decode cX6_as 29 = .ok (.ireturn, 1) := by decide +kernel
theorem dX6_as_30 : decode cX6_as 30 = .ok (.iload_n 2, 1) := by decide +kernel
theorem dX6_as_31 : decode cX6_as 31 = .ok (.aload_n 0, 1) := by decide +kernel
theorem dX6_as_32 : decode cX6_as 32 = .ok (.getfield 12, 3) := by decide +kernel
theorem dX6_as_35 : decode cX6_as 35 = .ok (.getfield 94, 3) := by decide +kernel
theorem dX6_as_38 : decode cX6_as 38 = .ok (.iload_n 1, 1) := by decide +kernel
theorem dX6_as_39 : decode cX6_as 39 = .ok (.iaload, 1) := by decide +kernel
theorem dX6_as_40 : decode cX6_as 40 = .ok (.if_icmp .le 11, 3) := by decide +kernel
theorem dX6_as_43 : decode cX6_as 43 = .ok (.aload_n 0, 1) := by decide +kernel
theorem dX6_as_44 : decode cX6_as 44 = .ok (.iconst 2, 1) := by decide +kernel
theorem dX6_as_45 : decode cX6_as 45 = .ok (.invokevirtual 230, 3) := by decide +kernel
theorem dX6_as_48 : decode cX6_as 48 = .ok (.goto 4, 3) := by decide +kernel
theorem dX6_as_51 : decode cX6_as 51 = .ok (.iconst 1, 1) := by decide +kernel
theorem dX6_as_52 : decode cX6_as 52 = .ok (.ireturn, 1) := by decide +kernel
theorem dX6_trace_0 : decode cX6_trace 0 = .ok (.aload_n 0, 1) := by decide +kernel
theorem dX6_trace_1 : decode cX6_trace 1 = .ok (.getfield 63, 3) := by decide +kernel
theorem dX6_trace_4 : decode cX6_trace 4 = .ok (.ireturn, 1) := by decide +kernel
theorem dX6_fault_0 : decode cX6_fault 0 = .ok (.aload_n 0, 1) := by decide +kernel
theorem dX6_fault_1 : decode cX6_fault 1 = .ok (.getfield 67, 3) := by decide +kernel
theorem dX6_fault_4 : decode cX6_fault 4 = .ok (.ireturn, 1) := by decide +kernel
set_option maxRecDepth 20000 in
theorem ggX6_many_X5_menTogether : GoodIn wsX6_many wsX5_menTogether := goodIn_r _ [9, 10, 11, 23, 24, 25, 26, 27, 28, 29] (by decide +kernel) (by decide +kernel)
set_option maxRecDepth 20000 in
theorem gX6_many_X5_menTogether : GoodIn wsX6_many (wsV RX6 273 RX5 yX5_menTogether wsX5_menTogether) := goodIn_app (goodIn_of _ (by decide +kernel)) ggX6_many_X5_menTogether
theorem dX6_many_0 : decode cX6_many 0 = .ok (.iload_n 1, 1) := by decide +kernel
theorem dX6_many_1 : decode cX6_many 1 = .ok (.tableswitch 51 0 2 #[27, 35, 43], 27) := by decide +kernel
theorem dX6_many_28 : decode cX6_many 28 = .ok (.aload_n 0, 1) := by decide +kernel
theorem dX6_many_29 : decode cX6_many 29 = .ok (.getfield 12, 3) := by decide +kernel
theorem dX6_many_32 : decode cX6_many 32 = .ok (.getfield 89, 3) := by decide +kernel
theorem dX6_many_35 : decode cX6_many 35 = .ok (.ireturn, 1) := by decide +kernel
theorem dX6_many_36 : decode cX6_many 36 = .ok (.aload_n 0, 1) := by decide +kernel
theorem dX6_many_37 : decode cX6_many 37 = .ok (.getfield 12, 3) := by decide +kernel
theorem dX6_many_40 : decode cX6_many 40 = .ok (.invokevirtual 273, 3) := by decide +kernel
theorem dX6_many_43 : decode cX6_many 43 = .ok (.ireturn, 1) := by decide +kernel
theorem dX6_many_44 : decode cX6_many 44 = .ok (.aload_n 0, 1) := by decide +kernel
theorem dX6_many_45 : decode cX6_many 45 = .ok (.getfield 51, 3) := by decide +kernel
theorem dX6_many_48 : decode cX6_many 48 = .ok (.getfield 86, 3) := by decide +kernel
theorem dX6_many_51 : decode cX6_many 51 = .ok (.ireturn, 1) := by decide +kernel
theorem dX6_many_52 : decode cX6_many 52 = .ok (.bipush (-2), 2) := by decide +kernel
theorem dX6_many_54 : decode cX6_many 54 = .ok (.ireturn, 1) := by decide +kernel
theorem dX6_isSheet_0 : decode cX6_isSheet 0 = .ok (.iload_n 0, 1) := by decide +kernel
theorem dX6_isSheet_1 : decode cX6_isSheet 1 = .ok (.ifCond .lt 12, 3) := by decide +kernel
theorem dX6_isSheet_4 : decode cX6_isSheet 4 = .ok (.iload_n 0, 1) := by decide +kernel
theorem dX6_isSheet_5 : decode cX6_isSheet 5 = .ok (.iconst 4, 1) := by decide +kernel
theorem dX6_isSheet_6 : decode cX6_isSheet 6 = .ok (.if_icmp .ge 7, 3) := by decide +kernel
theorem dX6_isSheet_9 : decode cX6_isSheet 9 = .ok (.iconst 1, 1) := by decide +kernel
theorem dX6_isSheet_10 : decode cX6_isSheet 10 = .ok (.goto 4, 3) := by decide +kernel
theorem dX6_isSheet_13 : decode cX6_isSheet 13 = .ok (.iconst 0, 1) := by decide +kernel
theorem dX6_isSheet_14 : decode cX6_isSheet 14 = .ok (.ireturn, 1) := by decide +kernel
theorem dX6_isLane_0 : decode cX6_isLane 0 = .ok (.iload_n 0, 1) := by decide +kernel
theorem dX6_isLane_1 : decode cX6_isLane 1 = .ok (.ifCond .lt 12, 3) := by decide +kernel
theorem dX6_isLane_4 : decode cX6_isLane 4 = .ok (.iload_n 0, 1) := by decide +kernel
theorem dX6_isLane_5 : decode cX6_isLane 5 = .ok (.iconst 3, 1) := by decide +kernel
theorem dX6_isLane_6 : decode cX6_isLane 6 = .ok (.if_icmp .ge 7, 3) := by decide +kernel
theorem dX6_isLane_9 : decode cX6_isLane 9 = .ok (.iconst 1, 1) := by decide +kernel
theorem dX6_isLane_10 : decode cX6_isLane 10 = .ok (.goto 4, 3) := by decide +kernel
theorem dX6_isLane_13 : decode cX6_isLane 13 = .ok (.iconst 0, 1) := by decide +kernel
theorem dX6_isLane_14 : decode cX6_isLane 14 = .ok (.ireturn, 1) := by decide +kernel
theorem dX6_faulted_0 : decode cX6_faulted 0 = .ok (.aload_n 0, 1) := by decide +kernel
theorem dX6_faulted_1 : decode cX6_faulted 1 = .ok (.iload_n 1, 1) := by decide +kernel
theorem dX6_faulted_2 : decode cX6_faulted 2 = .ok (.putfield 67, 3) := by decide +kernel
theorem dX6_faulted_5 : decode cX6_faulted 5 = .ok (.bipush (-10), 2) := by decide +kernel
theorem dX6_faulted_7 : decode cX6_faulted 7 = .ok (.iload_n 1, 1) := by decide +kernel
theorem dX6_faulted_8 : decode cX6_faulted 8 = .ok (.isub, 1) := by decide +kernel
theorem dX6_faulted_9 : decode cX6_faulted 9 = .ok (.ireturn, 1) := by decide +kernel
set_option maxRecDepth 20000 in
theorem ggX6_rowTrouble_X6_isSheet : GoodIn wsX6_rowTrouble wsX6_isSheet := goodIn_r _ [8] (by decide +kernel) (by decide +kernel)
set_option maxRecDepth 20000 in
theorem gX6_rowTrouble_X6_isSheet : GoodIn wsX6_rowTrouble (va_wsS RX6 224 yX6_isSheet wsX6_isSheet) := goodIn_app (goodIn_of _ (by decide +kernel)) ggX6_rowTrouble_X6_isSheet
set_option maxRecDepth 20000 in
theorem ggX6_rowTrouble_X6_isLane : GoodIn wsX6_rowTrouble wsX6_isLane := goodIn_r _ [11] (by decide +kernel) (by decide +kernel)
set_option maxRecDepth 20000 in
theorem gX6_rowTrouble_X6_isLane : GoodIn wsX6_rowTrouble (va_wsS RX6 227 yX6_isLane wsX6_isLane) := goodIn_app (goodIn_of _ (by decide +kernel)) ggX6_rowTrouble_X6_isLane
set_option maxRecDepth 20000 in
theorem ggX6_rowTrouble_X6_faulted : GoodIn wsX6_rowTrouble wsX6_faulted := goodIn_r _ [15, 1, 22, 23, 24, 25, 26, 27, 28, 29, 30, 31, 32] (by decide +kernel) (by decide +kernel)
set_option maxRecDepth 20000 in
theorem gX6_rowTrouble_X6_faulted : GoodIn wsX6_rowTrouble (wsV RX6 230 RX6 yX6_faulted wsX6_faulted) := goodIn_app (goodIn_of _ (by decide +kernel)) ggX6_rowTrouble_X6_faulted
set_option maxRecDepth 20000 in
theorem ggX6_rowTrouble_X3_reaches : GoodIn wsX6_rowTrouble wsX3_reaches := goodIn_r _ [20, 21, 33, 34, 35, 36] (by decide +kernel) (by decide +kernel)
set_option maxRecDepth 20000 in
theorem gX6_rowTrouble_X3_reaches : GoodIn wsX6_rowTrouble (wsV RX6 241 RX3 yX3_reaches wsX3_reaches) := goodIn_app (goodIn_of _ (by decide +kernel)) ggX6_rowTrouble_X3_reaches
theorem dX6_rowTrouble_0 : decode cX6_rowTrouble 0 = .ok (.aload_n 0, 1) := by decide +kernel
theorem dX6_rowTrouble_1 : decode cX6_rowTrouble 1 = .ok (.iconst 0, 1) := by decide +kernel
theorem dX6_rowTrouble_2 : decode cX6_rowTrouble 2 = .ok (.putfield 67, 3) := by decide +kernel
theorem dX6_rowTrouble_5 : decode cX6_rowTrouble 5 = .ok (.iload_n 1, 1) := by decide +kernel
theorem dX6_rowTrouble_6 : decode cX6_rowTrouble 6 = .ok (.invokestatic 224, 3) := by decide +kernel
theorem dX6_rowTrouble_9 : decode cX6_rowTrouble 9 = .ok (.ifCond .ne 5, 3) := by decide +kernel
theorem dX6_rowTrouble_12 : decode cX6_rowTrouble 12 = .ok (.iconst (-1), 1) := by decide +kernel
theorem dX6_rowTrouble_13 : decode cX6_rowTrouble 13 = .ok (.ireturn, 1) := by decide +kernel
theorem dX6_rowTrouble_14 : decode cX6_rowTrouble 14 = .ok (.iload_n 2, 1) := by decide +kernel
theorem dX6_rowTrouble_15 : decode cX6_rowTrouble 15 = .ok (.invokestatic 227, 3) := by decide +kernel
theorem dX6_rowTrouble_18 : decode cX6_rowTrouble 18 = .ok (.ifCond .eq 8, 3) := by decide +kernel
theorem dX6_rowTrouble_21 : decode cX6_rowTrouble 21 = .ok (.iload 5, 2) := by decide +kernel
theorem dX6_rowTrouble_23 : decode cX6_rowTrouble 23 = .ok (.ifCond .ne 6, 3) := by decide +kernel
theorem dX6_rowTrouble_26 : decode cX6_rowTrouble 26 = .ok (.bipush (-2), 2) := by decide +kernel
theorem dX6_rowTrouble_28 : decode cX6_rowTrouble 28 = .ok (.ireturn, 1) := by decide +kernel
theorem dX6_rowTrouble_29 : decode cX6_rowTrouble 29 = .ok (.aload_n 0, 1) := by decide +kernel
theorem dX6_rowTrouble_30 : decode cX6_rowTrouble 30 = .ok (.getfield 23, 3) := by decide +kernel
theorem dX6_rowTrouble_33 : decode cX6_rowTrouble 33 = .ok (.iload_n 1, 1) := by decide +kernel
theorem dX6_rowTrouble_34 : decode cX6_rowTrouble 34 = .ok (.aaload, 1) := by decide +kernel
theorem dX6_rowTrouble_35 : decode cX6_rowTrouble 35 = .ok (.astore 6, 2) := by decide +kernel
theorem dX6_rowTrouble_37 : decode cX6_rowTrouble 37 = .ok (.aload 6, 2) := by decide +kernel
theorem dX6_rowTrouble_39 : decode cX6_rowTrouble 39 = .ok (.getfield 237, 3) := by decide +kernel
theorem dX6_rowTrouble_42 : decode cX6_rowTrouble 42 = .ok (.ifCond .ne 9, 3) := by decide +kernel
theorem dX6_rowTrouble_45 : decode cX6_rowTrouble 45 = .ok (.aload_n 0, 1) := by decide +kernel
theorem dX6_rowTrouble_46 : decode cX6_rowTrouble 46 = .ok (.iconst 1, 1) := by decide +kernel
theorem dX6_rowTrouble_47 : decode cX6_rowTrouble 47 = .ok (.invokevirtual 230, 3) := by decide +kernel
theorem dX6_rowTrouble_50 : decode cX6_rowTrouble 50 = .ok (.ireturn, 1) := by decide +kernel
theorem dX6_rowTrouble_51 : decode cX6_rowTrouble 51 = .ok (.aload 6, 2) := by decide +kernel
theorem dX6_rowTrouble_53 : decode cX6_rowTrouble 53 = .ok (.getfield 248, 3) := by decide +kernel
theorem dX6_rowTrouble_56 : decode cX6_rowTrouble 56 = .ok (.iload_n 2, 1) := by decide +kernel
theorem dX6_rowTrouble_57 : decode cX6_rowTrouble 57 = .ok (.if_icmp .eq 9, 3) := by decide +kernel
theorem dX6_rowTrouble_60 : decode cX6_rowTrouble 60 = .ok (.aload_n 0, 1) := by decide +kernel
theorem dX6_rowTrouble_61 : decode cX6_rowTrouble 61 = .ok (.iconst 2, 1) := by decide +kernel
theorem dX6_rowTrouble_62 : decode cX6_rowTrouble 62 = .ok (.invokevirtual 230, 3) := by decide +kernel
theorem dX6_rowTrouble_65 : decode cX6_rowTrouble 65 = .ok (.ireturn, 1) := by decide +kernel
theorem dX6_rowTrouble_66 : decode cX6_rowTrouble 66 = .ok (.iload 4, 2) := by decide +kernel
theorem dX6_rowTrouble_68 : decode cX6_rowTrouble 68 = .ok (.ifCond .ge 9, 3) := by decide +kernel
theorem dX6_rowTrouble_71 : decode cX6_rowTrouble 71 = .ok (.aload_n 0, 1) := by decide +kernel
theorem dX6_rowTrouble_72 : decode cX6_rowTrouble 72 = .ok (.iconst 4, 1) := by decide +kernel
theorem dX6_rowTrouble_73 : decode cX6_rowTrouble 73 = .ok (.invokevirtual 230, 3) := by decide +kernel
theorem dX6_rowTrouble_76 : decode cX6_rowTrouble 76 = .ok (.ireturn, 1) := by decide +kernel
theorem dX6_rowTrouble_77 : decode cX6_rowTrouble 77 = .ok (.aload 6, 2) := by decide +kernel
theorem dX6_rowTrouble_79 : decode cX6_rowTrouble 79 = .ok (.iload_n 3, 1) := by decide +kernel
theorem dX6_rowTrouble_80 : decode cX6_rowTrouble 80 = .ok (.iload 4, 2) := by decide +kernel
theorem dX6_rowTrouble_82 : decode cX6_rowTrouble 82 = .ok (.invokevirtual 241, 3) := by decide +kernel
theorem dX6_rowTrouble_85 : decode cX6_rowTrouble 85 = .ok (.ifCond .eq 7, 3) := by decide +kernel
theorem dX6_rowTrouble_88 : decode cX6_rowTrouble 88 = .ok (.iconst 0, 1) := by decide +kernel
theorem dX6_rowTrouble_89 : decode cX6_rowTrouble 89 = .ok (.goto 8, 3) := by decide +kernel
theorem dX6_rowTrouble_92 : decode cX6_rowTrouble 92 = .ok (.aload_n 0, 1) := by decide +kernel
theorem dX6_rowTrouble_93 : decode cX6_rowTrouble 93 = .ok (.iconst 3, 1) := by decide +kernel
theorem dX6_rowTrouble_94 : decode cX6_rowTrouble 94 = .ok (.invokevirtual 230, 3) := by decide +kernel
theorem dX6_rowTrouble_97 : decode cX6_rowTrouble 97 = .ok (.ireturn, 1) := by decide +kernel
theorem dX6_roomOf_0 : decode cX6_roomOf 0 = .ok (.iload_n 0, 1) := by decide +kernel
theorem dX6_roomOf_1 : decode cX6_roomOf 1 = .ok (.iconst 2, 1) := by decide +kernel
theorem dX6_roomOf_2 : decode cX6_roomOf 2 = .ok (.if_icmp .ne 7, 3) := by decide +kernel
theorem dX6_roomOf_5 : decode cX6_roomOf 5 = .ok (.iconst 2, 1) := by decide +kernel
theorem dX6_roomOf_6 : decode cX6_roomOf 6 = .ok (.iload_n 1, 1) := by decide +kernel
theorem dX6_roomOf_7 : decode cX6_roomOf 7 = .ok (.imul, 1) := by decide +kernel
theorem dX6_roomOf_8 : decode cX6_roomOf 8 = .ok (.ireturn, 1) := by decide +kernel
theorem dX6_roomOf_9 : decode cX6_roomOf 9 = .ok (.iload_n 0, 1) := by decide +kernel
theorem dX6_roomOf_10 : decode cX6_roomOf 10 = .ok (.iconst 1, 1) := by decide +kernel
theorem dX6_roomOf_11 : decode cX6_roomOf 11 = .ok (.if_icmp .ne 9, 3) := by decide +kernel
theorem dX6_roomOf_14 : decode cX6_roomOf 14 = .ok (.iload_n 1, 1) := by decide +kernel
theorem dX6_roomOf_15 : decode cX6_roomOf 15 = .ok (.iconst 1, 1) := by decide +kernel
theorem dX6_roomOf_16 : decode cX6_roomOf 16 = .ok (.iadd, 1) := by decide +kernel
theorem dX6_roomOf_17 : decode cX6_roomOf 17 = .ok (.goto 4, 3) := by decide +kernel
theorem dX6_roomOf_20 : decode cX6_roomOf 20 = .ok (.iload_n 1, 1) := by decide +kernel
theorem dX6_roomOf_21 : decode cX6_roomOf 21 = .ok (.ireturn, 1) := by decide +kernel
