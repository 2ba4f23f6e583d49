theorem dX7_init_0 : decode cX7_init 0 = .ok (.aload_n 0, 1) := by decide +kernel
theorem dX7_init_1 : decode cX7_init 1 = .ok (.invokespecial 1, 3) := by decide +kernel
theorem dX7_init_4 : decode cX7_init 4 = .ok (.aload_n 0, 1) := by decide +kernel
theorem dX7_init_5 : decode cX7_init 5 = .ok (.iconst 4, 1) := by decide +kernel
theorem dX7_init_6 : decode cX7_init 6 = .ok (.newarray .int, 2) := by decide +kernel
theorem dX7_init_8 : decode cX7_init 8 = .ok (.dup, 1) := by decide +kernel
theorem dX7_init_9 : decode cX7_init 9 = .ok (.iconst 0, 1) := by decide +kernel
theorem dX7_init_10 : decode cX7_init 10 = .ok (.bipush (-9), 2) := by decide +kernel
theorem dX7_init_12 : decode cX7_init 12 = .ok (.iastore, 1) := by decide +kernel
theorem dX7_init_13 : decode cX7_init 13 = .ok (.dup, 1) := by decide +kernel
theorem dX7_init_14 : decode cX7_init 14 = .ok (.iconst 1, 1) := by decide +kernel
theorem dX7_init_15 : decode cX7_init 15 = .ok (.bipush (-9), 2) := by decide +kernel
theorem dX7_init_17 : decode cX7_init 17 = .ok (.iastore, 1) := by decide +kernel
theorem dX7_init_18 : decode cX7_init 18 = .ok (.dup, 1) := by decide +kernel
theorem dX7_init_19 : decode cX7_init 19 = .ok (.iconst 2, 1) := by decide +kernel
theorem dX7_init_20 : decode cX7_init 20 = .ok (.bipush (-9), 2) := by decide +kernel
theorem dX7_init_22 : decode cX7_init 22 = .ok (.iastore, 1) := by decide +kernel
theorem dX7_init_23 : decode cX7_init 23 = .ok (.dup, 1) := by decide +kernel
theorem dX7_init_24 : decode cX7_init 24 = .ok (.iconst 3, 1) := by decide +kernel
theorem dX7_init_25 : decode cX7_init 25 = .ok (.bipush (-9), 2) := by decide +kernel
theorem dX7_init_27 : decode cX7_init 27 = .ok (.iastore, 1) := by decide +kernel
theorem dX7_init_28 : decode cX7_init 28 = .ok (.putfield 9, 3) := by decide +kernel
theorem dX7_init_31 : decode cX7_init 31 = .ok (.aload_n 0, 1) := by decide +kernel
theorem dX7_init_32 : decode cX7_init 32 = .ok (.iconst 4, 1) := by decide +kernel
theorem dX7_init_33 : decode cX7_init 33 = .ok (.newarray .int, 2) := by decide +kernel
theorem dX7_init_35 : decode cX7_init 35 = .ok (.putfield 13, 3) := by decide +kernel
theorem dX7_init_38 : decode cX7_init 38 = .ok (.aload_n 0, 1) := by decide +kernel
theorem dX7_init_39 : decode cX7_init 39 = .ok (.sipush 240, 3) := by decide +kernel
theorem dX7_init_42 : decode cX7_init 42 = .ok (.newarray .int, 2) := by decide +kernel
theorem dX7_init_44 : decode cX7_init 44 = .ok (.putfield 16, 3) := by decide +kernel
theorem dX7_init_47 : decode cX7_init 47 = .ok (.aload_n 0, 1) := by decide +kernel
theorem dX7_init_48 : decode cX7_init 48 = .ok (.bipush 6, 2) := by decide +kernel
theorem dX7_init_50 : decode cX7_init 50 = .ok (.newarray .int, 2) := by decide +kernel
theorem dX7_init_52 : decode cX7_init 52 = .ok (.putfield 19, 3) := by decide +kernel
theorem dX7_init_55 : decode cX7_init 55 = .ok (.aload_n 0, 1) := by decide +kernel
theorem dX7_init_56 : decode cX7_init 56 = .ok (.bipush 6, 2) := by decide +kernel
theorem dX7_init_58 : decode cX7_init 58 = .ok (.newarray .int, 2) := by decide +kernel
theorem dX7_init_60 : decode cX7_init 60 = .ok (.putfield 22, 3) := by decide +kernel
theorem dX7_init_63 : decode cX7_init 63 = .ok (.aload_n 0, 1) := by decide +kernel
theorem dX7_init_64 : decode cX7_init 64 = .ok (.bipush 6, 2) := by decide +kernel
theorem dX7_init_66 : decode cX7_init 66 = .ok (.newarray .int, 2) := by decide +kernel
theorem dX7_init_68 : decode cX7_init 68 = .ok (.putfield 25, 3) := by decide +kernel
theorem dX7_init_71 : decode cX7_init 71 = .ok (.aload_n 0, 1) := by decide +kernel
theorem dX7_init_72 : decode cX7_init 72 = .ok (.bipush 18, 2) := by decide +kernel
theorem dX7_init_74 : decode cX7_init 74 = .ok (.newarray .int, 2) := by decide +kernel
theorem dX7_init_76 : decode cX7_init 76 = .ok (.putfield 28, 3) := by decide +kernel
theorem dX7_init_79 : decode cX7_init 79 = .ok (.aload_n 0, 1) := by decide +kernel
theorem dX7_init_80 : decode cX7_init 80 = .ok (.bipush 6, 2) := by decide +kernel
theorem dX7_init_82 : decode cX7_init 82 = .ok (.newarray .int, 2) := by decide +kernel
theorem dX7_init_84 : decode cX7_init 84 = .ok (.putfield 31, 3) := by decide +kernel
theorem dX7_init_87 : decode cX7_init 87 = .ok (.aload_n 0, 1) := by decide +kernel
theorem dX7_init_88 : decode cX7_init 88 = .ok (.bipush 6, 2) := by decide +kernel
theorem dX7_init_90 : decode cX7_init 90 = .ok (.newarray .int, 2) := by decide +kernel
theorem dX7_init_92 : decode cX7_init 92 = .ok (.putfield 34, 3) := by decide +kernel
theorem dX7_init_95 : decode cX7_init 95 = .ok (.aload_n 0, 1) := by decide +kernel
theorem dX7_init_96 : decode cX7_init 96 = .ok (.sipush 1000, 3) := by decide +kernel
theorem dX7_init_99 : decode cX7_init 99 = .ok (.newarray .int, 2) := by decide +kernel
theorem dX7_init_101 : decode cX7_init 101 = .ok (.putfield 37, 3) := by decide +kernel
theorem dX7_init_104 : decode cX7_init 104 = .ok (.aload_n 0, 1) := by decide +kernel
theorem dX7_init_105 : decode cX7_init 105 = .ok (.bipush 8, 2) := by decide +kernel
theorem dX7_init_107 : decode cX7_init 107 = .ok (.newarray .int, 2) := by decide +kernel
theorem dX7_init_109 : decode cX7_init 109 = .ok (.putfield 40, 3) := by decide +kernel
theorem dX7_init_112 : decode cX7_init 112 = .ok (.aload_n 0, 1) := by decide +kernel
theorem dX7_init_113 : decode cX7_init 113 = .ok (.bipush 8, 2) := by decide +kernel
theorem dX7_init_115 : decode cX7_init 115 = .ok (.newarray .int, 2) := by decide +kernel
theorem dX7_init_117 : decode cX7_init 117 = .ok (.putfield 43, 3) := by decide +kernel
theorem dX7_init_120 : decode cX7_init 120 = .ok (.aload_n 0, 1) := by decide +kernel
theorem dX7_init_121 : decode cX7_init 121 = .ok (.bipush 8, 2) := by decide +kernel
theorem dX7_init_123 : decode cX7_init 123 = .ok (.newarray .int, 2) := by decide +kernel
theorem dX7_init_125 : decode cX7_init 125 = .ok (.putfield 46, 3) := by decide +kernel
theorem dX7_init_128 : decode cX7_init 128 = .ok (.aload_n 0, 1) := by decide +kernel
theorem dX7_init_129 : decode cX7_init 129 = .ok (.bipush 109, 2) := by decide +kernel
theorem dX7_init_131 : decode cX7_init 131 = .ok (.newarray .int, 2) := by decide +kernel
theorem dX7_init_133 : decode cX7_init 133 = .ok (.putfield 49, 3) := by decide +kernel
theorem dX7_init_136 : decode cX7_init 136 = .ok (.return_, 1) := by decide +kernel
theorem dX7_fails_0 : decode cX7_fails 0 = .ok (.aload_n 0, 1) := by decide +kernel
theorem dX7_fails_1 : decode cX7_fails 1 = .ok (.iload_n 1, 1) := by decide +kernel
theorem dX7_fails_2 : decode cX7_fails 2 = .ok (.putfield 52, 3) := by decide +kernel
theorem dX7_fails_5 : decode cX7_fails 5 = .ok (.bipush (-10), 2) := by decide +kernel
theorem dX7_fails_7 : decode cX7_fails 7 = .ok (.iload_n 1, 1) := by decide +kernel
theorem dX7_fails_8 : decode cX7_fails 8 = .ok (.isub, 1) := by decide +kernel
theorem dX7_fails_9 : decode cX7_fails 9 = .ok (.ireturn, 1) := by decide +kernel
theorem dX7_lost_0 : decode cX7_lost 0 = .ok (.aload_n 0, 1) := by decide +kernel
theorem dX7_lost_1 : decode cX7_lost 1 = .ok (.iload_n 1, 1) := by decide +kernel
theorem dX7_lost_2 : decode cX7_lost 2 = .ok (.putfield 52, 3) := by decide +kernel
theorem dX7_lost_5 : decode cX7_lost 5 = .ok (.ldc2_w 56, 3) := by decide +kernel
theorem dX7_lost_8 : decode cX7_lost 8 = .ok (.lreturn, 1) := by decide +kernel
theorem dX7_within_0 : decode cX7_within 0 = .ok (.iload_n 0, 1) := by decide +kernel
theorem dX7_within_1 : decode cX7_within 1 = .ok (.iload_n 1, 1) := by decide +kernel
theorem dX7_within_2 : decode cX7_within 2 = .ok (.if_icmp .lt 12, 3) := by decide +kernel
theorem dX7_within_5 : decode cX7_within 5 = .ok (.iload_n 0, 1) := by decide +kernel
theorem dX7_within_6 : decode cX7_within 6 = .ok (.iload_n 2, 1) := by decide +kernel
theorem dX7_within_7 : decode cX7_within 7 = .ok (.if_icmp .gt 7, 3) := by decide +kernel
theorem dX7_within_10 : decode cX7_within 10 = .ok (.iconst 1, 1) := by decide +kernel
theorem dX7_within_11 : decode cX7_within 11 = .ok (.goto 4, 3) := by decide +kernel
theorem dX7_within_14 : decode cX7_within 14 = .ok (.iconst 0, 1) := by decide +kernel
theorem dX7_within_15 : decode cX7_within 15 = .ok (.ireturn, 1) := by decide +kernel
set_option maxRecDepth 20000 in
theorem ggX7_isSheet_X7_within : GoodIn wsX7_isSheet wsX7_within := goodIn_r _ [4] (by decide +kernel) (by decide +kernel)
set_option maxRecDepth 20000 in
theorem gX7_isSheet_X7_within : GoodIn wsX7_isSheet (va_wsS RX7 58 yX7_within wsX7_within) := goodIn_app (goodIn_of _ (by decide +kernel)) ggX7_isSheet_X7_within
theorem dX7_isSheet_0 : decode cX7_isSheet 0 = .ok (.iload_n 0, 1) := by decide +kernel
theorem dX7_isSheet_1 : decode cX7_isSheet 1 = .ok (.iconst 0, 1) := by decide +kernel
theorem dX7_isSheet_2 : decode cX7_isSheet 2 = .ok (.iconst 3, 1) := by decide +kernel
theorem dX7_isSheet_3 : decode cX7_isSheet 3 = .ok (.invokestatic 58, 3) := by decide +kernel
theorem dX7_isSheet_6 : decode cX7_isSheet 6 = .ok (.ireturn, 1) := by decide +kernel
set_option maxRecDepth 20000 in
theorem ggX7_isSort_X7_within : GoodIn wsX7_isSort wsX7_within := goodIn_r _ [4] (by decide +kernel) (by decide +kernel)
set_option maxRecDepth 20000 in
theorem gX7_isSort_X7_within : GoodIn wsX7_isSort (va_wsS RX7 58 yX7_within wsX7_within) := goodIn_app (goodIn_of _ (by decide +kernel)) ggX7_isSort_X7_within
theorem dX7_isSort_0 : decode cX7_isSort 0 = .ok (.iload_n 0, 1) := by decide +kernel
theorem dX7_isSort_1 : decode cX7_isSort 1 = .ok (.iconst 0, 1) := by decide +kernel
theorem dX7_isSort_2 : decode cX7_isSort 2 = .ok (.iconst 2, 1) := by decide +kernel
theorem dX7_isSort_3 : decode cX7_isSort 3 = .ok (.invokestatic 58, 3) := by decide +kernel
theorem dX7_isSort_6 : decode cX7_isSort 6 = .ok (.ireturn, 1) := by decide +kernel
theorem dX7_against_0 : decode cX7_against 0 = .ok (.aload_n 0, 1) := by decide +kernel
theorem dX7_against_1 : decode cX7_against 1 = .ok (.getfield 9, 3) := by decide +kernel
theorem dX7_against_4 : decode cX7_against 4 = .ok (.iload_n 1, 1) := by decide +kernel
theorem dX7_against_5 : decode cX7_against 5 = .ok (.iaload, 1) := by decide +kernel
theorem dX7_against_6 : decode cX7_against 6 = .ok (.bipush (-9), 2) := by decide +kernel
theorem dX7_against_8 : decode cX7_against 8 = .ok (.if_icmp .eq 15, 3) := by decide +kernel
theorem dX7_against_11 : decode cX7_against 11 = .ok (.aload_n 0, 1) := by decide +kernel
theorem dX7_against_12 : decode cX7_against 12 = .ok (.getfield 9, 3) := by decide +kernel
theorem dX7_against_15 : decode cX7_against 15 = .ok (.iload_n 1, 1) := by decide +kernel
theorem dX7_against_16 : decode cX7_against 16 = .ok (.iaload, 1) := by decide +kernel
theorem dX7_against_17 : decode cX7_against 17 = .ok (.iload_n 2, 1) := by decide +kernel
theorem dX7_against_18 : decode cX7_against 18 = .ok (.if_icmp .eq 5, 3) := by decide +kernel
theorem dX7_against_21 : decode cX7_against 21 = .ok (.iconst 2, 1) := by decide +kernel
theorem dX7_against_22 : decode cX7_against 22 = .ok (.ireturn, 1) := by decide +kernel
theorem dX7_against_23 : decode cX7_against 23 = .ok (.aload_n 0, 1) := by decide +kernel
theorem dX7_against_24 : decode cX7_against 24 = .ok (.getfield 9, 3) := by decide +kernel
theorem dX7_against_27 : decode cX7_against 27 = .ok (.iload_n 1, 1) := by decide +kernel
theorem dX7_against_28 : decode cX7_against 28 = .ok (.iaload, 1) := by decide +kernel
theorem dX7_against_29 : decode cX7_against 29 = .ok (.bipush (-9), 2) := by decide +kernel
theorem dX7_against_31 : decode cX7_against 31 = .ok (.if_icmp .ne 5, 3) := by decide +kernel
theorem dX7_against_34 : decode cX7_against 34 = .ok (.iconst 1, 1) := by decide +kernel
theorem dX7_against_35 : decode cX7_against 35 = .ok (.ireturn, 1) := by decide +kernel
theorem dX7_against_36 : decode cX7_against 36 = .ok (.iload 4, 2) := by decide +kernel
theorem dX7_against_38 : decode cX7_against 38 = .ok (.ifCond .ge 5, 3) := by decide +kernel
theorem dX7_against_41 : decode cX7_against 41 = .ok (.iconst 4, 1) := by decide +kernel
theorem dX7_against_42 : decode cX7_against 42 = .ok (.ireturn, 1) := by decide +kernel
theorem dX7_against_43 : decode cX7_against 43 = .ok (.iload_n 3, 1) := by decide +kernel
theorem dX7_against_44 : decode cX7_against 44 = .ok (.ifCond .lt 26, 3) := by decide +kernel
theorem dX7_against_47 : decode cX7_against 47 = .ok (.iload_n 3, 1) := by decide +kernel
theorem dX7_against_48 : decode cX7_against 48 = .ok (.aload_n 0, 1) := by decide +kernel
theorem dX7_against_49 : decode cX7_against 49 = .ok (.getfield 13, 3) := by decide +kernel
theorem dX7_against_52 : decode cX7_against 52 = .ok (.iload_n 1, 1) := by decide +kernel
theorem dX7_against_53 : decode cX7_against 53 = .ok (.iaload, 1) := by decide +kernel
theorem dX7_against_54 : decode cX7_against 54 = .ok (.if_icmp .gt 16, 3) := by decide +kernel
theorem dX7_against_57 : decode cX7_against 57 = .ok (.iload 4, 2) := by decide +kernel
theorem dX7_against_59 : decode cX7_against 59 = .ok (.aload_n 0, 1) := by decide +kernel
theorem dX7_against_60 : decode cX7_against 60 = .ok (.getfield 13, 3) := by decide +kernel
theorem dX7_against_63 : decode cX7_against 63 = .ok (.iload_n 1, 1) := by decide +kernel
theorem dX7_against_64 : decode cX7_against 64 = .ok (.iaload, 1) := by decide +kernel
theorem dX7_against_65 : decode cX7_against 65 = .ok (.iload_n 3, 1) := by decide +kernel
theorem dX7_against_66 : decode cX7_against 66 = .ok (.isub, 1) := by decide +kernel
theorem dX7_against_67 : decode cX7_against 67 = .ok (.if_icmp .le 7, 3) := by decide +kernel
theorem dX7_against_70 : decode cX7_against 70 = .ok (.iconst 3, 1) := by decide +kernel
theorem dX7_against_71 : decode cX7_against 71 = .ok (.goto 4, 3) := by decide +kernel
theorem dX7_against_74 : decode cX7_against 74 = .ok (.iconst 0, 1) := by decide +kernel
theorem dX7_against_75 : decode cX7_against 75 = .ok (.ireturn, 1) := by decide +kernel
theorem dX7_isWire_0 : decode cX7_isWire 0 = .ok (.iload_n 1, 1) := by decide +kernel
theorem dX7_isWire_1 : decode cX7_isWire 1 = .ok (.ifCond .lt 15, 3) := by decide +kernel
theorem dX7_isWire_4 : decode cX7_isWire 4 = .ok (.iload_n 1, 1) := by decide +kernel
theorem dX7_isWire_5 : decode cX7_isWire 5 = .ok (.aload_n 0, 1) := by decide +kernel
theorem dX7_isWire_6 : decode cX7_isWire 6 = .ok (.getfield 62, 3) := by decide +kernel
theorem dX7_isWire_9 : decode cX7_isWire 9 = .ok (.if_icmp .ge 7, 3) := by decide +kernel
theorem dX7_isWire_12 : decode cX7_isWire 12 = .ok (.iconst 1, 1) := by decide +kernel
theorem dX7_isWire_13 : decode cX7_isWire 13 = .ok (.goto 4, 3) := by decide +kernel
theorem dX7_isWire_16 : decode cX7_isWire 16 = .ok (.iconst 0, 1) := by decide +kernel
theorem dX7_isWire_17 : decode cX7_isWire 17 = .ok (.ireturn, 1) := by decide +kernel
set_option maxRecDepth 20000 in
theorem ggX7_digit_X7_within : GoodIn wsX7_digit wsX7_within := goodIn_r _ [6] (by decide +kernel) (by decide +kernel)
set_option maxRecDepth 20000 in
theorem gX7_digit_X7_within : GoodIn wsX7_digit (va_wsS RX7 58 yX7_within wsX7_within) := goodIn_app (goodIn_of _ (by decide +kernel)) ggX7_digit_X7_within
theorem dX7_digit_0 : decode cX7_digit 0 = .ok (.aload_n 0, 1) := by decide +kernel
theorem dX7_digit_1 : decode cX7_digit 1 = .ok (.getfield 65, 3) := by decide +kernel
theorem dX7_digit_4 : decode cX7_digit 4 = .ok (.iload_n 1, 1) := by decide +kernel
theorem dX7_digit_5 : decode cX7_digit 5 = .ok (.if_icmp .ge 26, 3) := by decide +kernel
theorem dX7_digit_8 : decode cX7_digit 8 = .ok (.aload_n 0, 1) := by decide +kernel
theorem dX7_digit_9 : decode cX7_digit 9 = .ok (.getfield 16, 3) := by decide +kernel
theorem dX7_digit_12 : decode cX7_digit 12 = .ok (.aload_n 0, 1) := by decide +kernel
theorem dX7_digit_13 : decode cX7_digit 13 = .ok (.getfield 65, 3) := by decide +kernel
theorem dX7_digit_16 : decode cX7_digit 16 = .ok (.iaload, 1) := by decide +kernel
theorem dX7_digit_17 : decode cX7_digit 17 = .ok (.bipush 48, 2) := by decide +kernel
theorem dX7_digit_19 : decode cX7_digit 19 = .ok (.iload_n 2, 1) := by decide +kernel
theorem dX7_digit_20 : decode cX7_digit 20 = .ok (.iadd, 1) := by decide +kernel
theorem dX7_digit_21 : decode cX7_digit 21 = .ok (.bipush 48, 2) := by decide +kernel
theorem dX7_digit_23 : decode cX7_digit 23 = .ok (.iload_n 3, 1) := by decide +kernel
theorem dX7_digit_24 : decode cX7_digit 24 = .ok (.iadd, 1) := by decide +kernel
theorem dX7_digit_25 : decode cX7_digit 25 = .ok (.invokestatic 58, 3) := by decide +kernel
theorem dX7_digit_28 : decode cX7_digit 28 = .ok (.ifCond .ne 6, 3) := by decide +kernel
theorem dX7_digit_31 : decode cX7_digit 31 = .ok (.bipush (-9), 2) := by decide +kernel
theorem dX7_digit_33 : decode cX7_digit 33 = .ok (.ireturn, 1) := by decide +kernel
theorem dX7_digit_34 : decode cX7_digit 34 = .ok (.aload_n 0, 1) := by decide +kernel
theorem dX7_digit_35 : decode cX7_digit 35 = .ok (.dup, 1) := by decide +kernel
theorem dX7_digit_36 : decode cX7_digit 36 = .ok (.getfield 65, 3) := by decide +kernel
theorem dX7_digit_39 : decode cX7_digit 39 = .ok (.iconst 1, 1) := by decide +kernel
theorem dX7_digit_40 : decode cX7_digit 40 = .ok (.iadd, 1) := by decide +kernel
theorem dX7_digit_41 : decode cX7_digit 41 = .ok (.putfield 65, 3) := by decide +kernel
theorem dX7_digit_44 : decode cX7_digit 44 = .ok (.aload_n 0, 1) := by decide +kernel
theorem dX7_digit_45 : decode cX7_digit 45 = .ok (.getfield 16, 3) := by decide +kernel
theorem dX7_digit_48 : decode cX7_digit 48 = .ok (.aload_n 0, 1) := by decide +kernel
theorem dX7_digit_49 : decode cX7_digit 49 = .ok (.getfield 65, 3) := by decide +kernel
theorem dX7_digit_52 : decode cX7_digit 52 = .ok (.iconst 1, 1) := by decide +kernel
theorem dX7_digit_53 : decode cX7_digit 53 = .ok (.isub, 1) := by decide +kernel
theorem dX7_digit_54 : decode cX7_digit 54 = .ok (.iaload, 1) := by decide +kernel
theorem dX7_digit_55 : decode cX7_digit 55 = .ok (.bipush 48, 2) := by decide +kernel
theorem dX7_digit_57 : decode cX7_digit 57 = .ok (.isub, 1) := by decide +kernel
theorem dX7_digit_58 : decode cX7_digit 58 = .ok (.ireturn, 1) := by decide +kernel
theorem dX7_isSign_0 : decode cX7_isSign 0 = .ok (.aload_n 0, 1) := by decide +kernel
theorem dX7_isSign_1 : decode cX7_isSign 1 = .ok (.getfield 65, 3) := by decide +kernel
theorem dX7_isSign_4 : decode cX7_isSign 4 = .ok (.iload_n 1, 1) := by decide +kernel
theorem dX7_isSign_5 : decode cX7_isSign 5 = .ok (.if_icmp .ge 16, 3) := by decide +kernel
theorem dX7_isSign_8 : decode cX7_isSign 8 = .ok (.aload_n 0, 1) := by decide +kernel
theorem dX7_isSign_9 : decode cX7_isSign 9 = .ok (.getfield 16, 3) := by decide +kernel
theorem dX7_isSign_12 : decode cX7_isSign 12 = .ok (.aload_n 0, 1) := by decide +kernel
theorem dX7_isSign_13 : decode cX7_isSign 13 = .ok (.getfield 65, 3) := by decide +kernel
theorem dX7_isSign_16 : decode cX7_isSign 16 = .ok (.iaload, 1) := by decide +kernel
theorem dX7_isSign_17 : decode cX7_isSign 17 = .ok (.iload_n 2, 1) := by decide +kernel
theorem dX7_isSign_18 : decode cX7_isSign 18 = .ok (.if_icmp .eq 5, 3) := by decide +kernel
theorem dX7_isSign_21 : decode cX7_isSign 21 = .ok (.iconst 0, 1) := by decide +kernel
theorem dX7_isSign_22 : decode cX7_isSign 22 = .ok (.ireturn, 1) := by decide +kernel
theorem dX7_isSign_23 : decode cX7_isSign 23 = .ok (.aload_n 0, 1) := by decide +kernel
theorem dX7_isSign_24 : decode cX7_isSign 24 = .ok (.dup, 1) := by decide +kernel
theorem dX7_isSign_25 : decode cX7_isSign 25 = .ok (.getfield 65, 3) := by decide +kernel
theorem dX7_isSign_28 : decode cX7_isSign 28 = .ok (.iconst 1, 1) := by decide +kernel
theorem dX7_isSign_29 : decode cX7_isSign 29 = .ok (.iadd, 1) := by decide +kernel
theorem dX7_isSign_30 : decode cX7_isSign 30 = .ok (.putfield 65, 3) := by decide +kernel
theorem dX7_isSign_33 : decode cX7_isSign 33 = .ok (.iconst 1, 1) := by decide +kernel
theorem dX7_isSign_34 : decode cX7_isSign 34 = .ok (.ireturn, 1) := by decide +kernel
set_option maxRecDepth 20000 in
theorem ggX7_frame_X7_isSheet : GoodIn wsX7_frame wsX7_isSheet := goodIn_r _ [13, 14, 15, 12, 16] (by decide +kernel) (by decide +kernel)
set_option maxRecDepth 20000 in
theorem gX7_frame_X7_isSheet : GoodIn wsX7_frame (va_wsS RX7 68 yX7_isSheet wsX7_isSheet) := goodIn_app (goodIn_of _ (by decide +kernel)) ggX7_frame_X7_isSheet
set_option maxRecDepth 20000 in
theorem ggX7_frame_X7_isSort : GoodIn wsX7_frame wsX7_isSort := goodIn_r _ [19, 14, 15, 12, 16] (by decide +kernel) (by decide +kernel)
set_option maxRecDepth 20000 in
theorem gX7_frame_X7_isSort : GoodIn wsX7_frame (va_wsS RX7 72 yX7_isSort wsX7_isSort) := goodIn_app (goodIn_of _ (by decide +kernel)) ggX7_frame_X7_isSort
set_option maxRecDepth 20000 in
theorem ggX7_frame_X7_against : GoodIn wsX7_frame wsX7_against := goodIn_r _ [23, 24, 25, 50, 51, 52, 53, 54, 55, 56, 57, 58, 59, 60, 61, 62, 63, 64, 65, 66, 67, 68, 69, 70, 71, 72] (by decide +kernel) (by decide +kernel)
set_option maxRecDepth 20000 in
theorem gX7_frame_X7_against : GoodIn wsX7_frame (wsV RX7 75 RX7 yX7_against wsX7_against) := goodIn_app (goodIn_of _ (by decide +kernel)) ggX7_frame_X7_against
set_option maxRecDepth 20000 in
theorem ggX7_frame_X7_fails : GoodIn wsX7_frame wsX7_fails := goodIn_r _ [29, 1, 50, 51, 52, 53, 54, 55, 56, 57, 58, 59, 60, 61, 62, 63, 64, 65, 66, 67, 68, 69, 70, 71, 72] (by decide +kernel) (by decide +kernel)
set_option maxRecDepth 20000 in
theorem gX7_frame_X7_fails : GoodIn wsX7_frame (wsV RX7 79 RX7 yX7_fails wsX7_fails) := goodIn_app (goodIn_of _ (by decide +kernel)) ggX7_frame_X7_fails
set_option maxRecDepth 20000 in
theorem ggX7_frame_X7_readFrame : GoodIn wsX7_frame wsX7_readFrame := goodIn_r _ [33, 3, 2, 34, 35, 36, 12, 37, 38, 39, 40, 41, 42, 6, 43, 44, 45, 46, 14, 15, 16, 47, 48, 49, 50, 51, 52, 53, 54, 55, 56, 57, 58, 59, 60, 61, 62, 63, 64, 65, 66, 67, 68, 69, 70, 71, 72] (by decide +kernel) (by decide +kernel)
set_option maxRecDepth 20000 in
theorem gX7_frame_X7_readFrame : GoodIn wsX7_frame (wsV RX7 83 RX7 yX7_readFrame wsX7_readFrame) := goodIn_app (goodIn_of _ (by decide +kernel)) ggX7_frame_X7_readFrame
theorem dX7_frame_0 : decode cX7_frame 0 = .ok (.aload_n 0, 1) := by decide +kernel
theorem dX7_frame_1 : decode cX7_frame 1 = .ok (.iconst 0, 1) := by decide +kernel
theorem dX7_frame_2 : decode cX7_frame 2 = .ok (.putfield 52, 3) := by decide +kernel
theorem dX7_frame_5 : decode cX7_frame 5 = .ok (.iload_n 1, 1) := by decide +kernel
theorem dX7_frame_6 : decode cX7_frame 6 = .ok (.invokestatic 68, 3) := by decide +kernel
theorem dX7_frame_9 : decode cX7_frame 9 = .ok (.ifCond .ne 5, 3) := by decide +kernel
theorem dX7_frame_12 : decode cX7_frame 12 = .ok (.iconst (-1), 1) := by decide +kernel
theorem dX7_frame_13 : decode cX7_frame 13 = .ok (.ireturn, 1) := by decide +kernel
theorem dX7_frame_14 : decode cX7_frame 14 = .ok (.iload_n 2, 1) := by decide +kernel
theorem dX7_frame_15 : decode cX7_frame 15 = .ok (.invokestatic 72, 3) := by decide +kernel
theorem dX7_frame_18 : decode cX7_frame 18 = .ok (.ifCond .ne 6, 3) := by decide +kernel
theorem dX7_frame_21 : decode cX7_frame 21 = .ok (.bipush (-2), 2) := by decide +kernel
theorem dX7_frame_23 : decode cX7_frame 23 = .ok (.ireturn, 1) := by decide +kernel
theorem dX7_frame_24 : decode cX7_frame 24 = .ok (.aload_n 0, 1) := by decide +kernel
theorem dX7_frame_25 : decode cX7_frame 25 = .ok (.iload_n 1, 1) := by decide +kernel
theorem dX7_frame_26 : decode cX7_frame 26 = .ok (.iload_n 2, 1) := by decide +kernel
theorem dX7_frame_27 : decode cX7_frame 27 = .ok (.iload_n 3, 1) := by decide +kernel
theorem dX7_frame_28 : decode cX7_frame 28 = .ok (.iload 4, 2) := by decide +kernel
theorem dX7_frame_30 : decode cX7_frame 30 = .ok (.invokevirtual 75, 3) := by decide +kernel
theorem dX7_frame_33 : decode cX7_frame 33 = .ok (.istore 5, 2) := by decide +kernel
theorem dX7_frame_35 : decode cX7_frame 35 = .ok (.iload 5, 2) := by decide +kernel
theorem dX7_frame_37 : decode cX7_frame 37 = .ok (.ifCond .eq 10, 3) := by decide +kernel
theorem dX7_frame_40 : decode cX7_frame 40 = .ok (.aload_n 0, 1) := by decide +kernel
theorem dX7_frame_41 : decode cX7_frame 41 = .ok (.iload 5, 2) := by decide +kernel
theorem dX7_frame_43 : decode cX7_frame 43 = .ok (.invokevirtual 79, 3) := by decide +kernel
theorem dX7_frame_46 : decode cX7_frame 46 = .ok (.ireturn, 1) := by decide +kernel
theorem dX7_frame_47 : decode cX7_frame 47 = .ok (.bipush 60, 2) := by decide +kernel
theorem dX7_frame_49 : decode cX7_frame 49 = .ok (.iload_n 1, 1) := by decide +kernel
theorem dX7_frame_50 : decode cX7_frame 50 = .ok (.imul, 1) := by decide +kernel
theorem dX7_frame_51 : decode cX7_frame 51 = .ok (.iload_n 3, 1) := by decide +kernel
theorem dX7_frame_52 : decode cX7_frame 52 = .ok (.iadd, 1) := by decide +kernel
theorem dX7_frame_53 : decode cX7_frame 53 = .ok (.istore 6, 2) := by decide +kernel
theorem dX7_frame_55 : decode cX7_frame 55 = .ok (.aload_n 0, 1) := by decide +kernel
theorem dX7_frame_56 : decode cX7_frame 56 = .ok (.iload 6, 2) := by decide +kernel
theorem dX7_frame_58 : decode cX7_frame 58 = .ok (.putfield 65, 3) := by decide +kernel
theorem dX7_frame_61 : decode cX7_frame 61 = .ok (.aload_n 0, 1) := by decide +kernel
theorem dX7_frame_62 : decode cX7_frame 62 = .ok (.iload 6, 2) := by decide +kernel
theorem dX7_frame_64 : decode cX7_frame 64 = .ok (.iload 4, 2) := by decide +kernel
theorem dX7_frame_66 : decode cX7_frame 66 = .ok (.iadd, 1) := by decide +kernel
theorem dX7_frame_67 : decode cX7_frame 67 = .ok (.invokevirtual 83, 3) := by decide +kernel
theorem dX7_frame_70 : decode cX7_frame 70 = .ok (.ifCond .ne 14, 3) := by decide +kernel
theorem dX7_frame_73 : decode cX7_frame 73 = .ok (.bipush (-100), 2) := by decide +kernel
theorem dX7_frame_75 : decode cX7_frame 75 = .ok (.aload_n 0, 1) := by decide +kernel
theorem dX7_frame_76 : decode cX7_frame 76 = .ok (.getfield 65, 3) := by decide +kernel
theorem dX7_frame_79 : decode cX7_frame 79 = .ok (.iload 6, 2) := by decide +kernel
theorem dX7_frame_81 : decode cX7_frame 81 = .ok (.isub, 1) := by decide +kernel
theorem dX7_frame_82 : decode cX7_frame 82 = .ok (.isub, 1) := by decide +kernel
theorem dX7_frame_83 : decode cX7_frame 83 = .ok (.ireturn, 1) := by decide +kernel
theorem dX7_frame_84 : decode cX7_frame 84 = .ok (.aload_n 0, 1) := by decide +kernel
theorem dX7_frame_85 : decode cX7_frame 85 = .ok (.aload_n 0, 1) := by decide +kernel
theorem dX7_frame_86 : decode cX7_frame 86 = .ok (.getfield 86, 3) := by decide +kernel
theorem dX7_frame_89 : decode cX7_frame 89 = .ok (.putfield 62, 3) := by decide +kernel
theorem dX7_frame_92 : decode cX7_frame 92 = .ok (.iconst 0, 1) := by decide +kernel
theorem dX7_frame_93 : decode cX7_frame 93 = .ok (.istore 7, 2) := by decide +kernel
theorem dX7_frame_95 : decode cX7_frame 95 = .ok (.iload 7, 2) := by decide +kernel
theorem dX7_frame_97 : decode cX7_frame 97 = .ok (.aload_n 0, 1) := by decide +kernel
theorem dX7_frame_98 : decode cX7_frame 98 = .ok (.getfield 62, 3) := by decide +kernel
theorem dX7_frame_101 : decode cX7_frame 101 = .ok (.if_icmp .ge 61, 3) := by decide +kernel
theorem dX7_frame_104 : decode cX7_frame 104 = .ok (.aload_n 0, 1) := by decide +kernel
theorem dX7_frame_105 : decode cX7_frame 105 = .ok (.getfield 19, 3) := by decide +kernel
theorem dX7_frame_108 : decode cX7_frame 108 = .ok (.iload 7, 2) := by decide +kernel
theorem dX7_frame_110 : decode cX7_frame 110 = .ok (.aload_n 0, 1) := by decide +kernel
theorem dX7_frame_111 : decode cX7_frame 111 = .ok (.getfield 28, 3) := by decide +kernel
theorem dX7_frame_114 : decode cX7_frame 114 = .ok (.iconst 3, 1) := by decide +kernel
theorem dX7_frame_115 : decode cX7_frame 115 = .ok (.iload 7, 2) := by decide +kernel
theorem dX7_frame_117 : decode cX7_frame 117 = .ok (.imul, 1) := by decide +kernel
theorem dX7_frame_118 : decode cX7_frame 118 = .ok (.iaload, 1) := by decide +kernel
theorem dX7_frame_119 : decode cX7_frame 119 = .ok (.iastore, 1) := by decide +kernel
theorem dX7_frame_120 : decode cX7_frame 120 = .ok (.aload_n 0, 1) := by decide +kernel
theorem dX7_frame_121 : decode cX7_frame 121 = .ok (.getfield 22, 3) := by decide +kernel
theorem dX7_frame_124 : decode cX7_frame 124 = .ok (.iload 7, 2) := by decide +kernel
theorem dX7_frame_126 : decode cX7_frame 126 = .ok (.aload_n 0, 1) := by decide +kernel
theorem dX7_frame_127 : decode cX7_frame 127 = .ok (.getfield 28, 3) := by decide +kernel
theorem dX7_frame_130 : decode cX7_frame 130 = .ok (.iconst 3, 1) := by decide +kernel
theorem dX7_frame_131 : decode cX7_frame 131 = .ok (.iload 7, 2) := by decide +kernel
theorem dX7_frame_133 : decode cX7_frame 133 = .ok (.imul, 1) := by decide +kernel
theorem dX7_frame_134 : decode cX7_frame 134 = .ok (.iconst 1, 1) := by decide +kernel
theorem dX7_frame_135 : decode cX7_frame 135 = .ok (.iadd, 1) := by decide +kernel
theorem dX7_frame_136 : decode cX7_frame 136 = .ok (.iaload, 1) := by decide +kernel
theorem dX7_frame_137 : decode cX7_frame 137 = .ok (.iastore, 1) := by decide +kernel
theorem dX7_frame_138 : decode cX7_frame 138 = .ok (.aload_n 0, 1) := by decide +kernel
theorem dX7_frame_139 : decode cX7_frame 139 = .ok (.getfield 25, 3) := by decide +kernel
theorem dX7_frame_142 : decode cX7_frame 142 = .ok (.iload 7, 2) := by decide +kernel
theorem dX7_frame_144 : decode cX7_frame 144 = .ok (.aload_n 0, 1) := by decide +kernel
theorem dX7_frame_145 : decode cX7_frame 145 = .ok (.getfield 28, 3) := by decide +kernel
theorem dX7_frame_148 : decode cX7_frame 148 = .ok (.iconst 3, 1) := by decide +kernel
theorem dX7_frame_149 : decode cX7_frame 149 = .ok (.iload 7, 2) := by decide +kernel
theorem dX7_frame_151 : decode cX7_frame 151 = .ok (.imul, 1) := by decide +kernel
theorem dX7_frame_152 : decode cX7_frame 152 = .ok (.iconst 2, 1) := by decide +kernel
theorem dX7_frame_153 : decode cX7_frame 153 = .ok (.iadd, 1) := by decide +kernel
theorem dX7_frame_154 : decode cX7_frame 154 = .ok (.iaload, 1) := by decide +kernel
theorem dX7_frame_155 : decode cX7_frame 155 = .ok (.iastore, 1) := by decide +kernel
theorem dX7_frame_156 : decode cX7_frame 156 = .ok (.iinc 7 1, 3) := by decide +kernel
theorem dX7_frame_159 : decode cX7_frame 159 = .ok (.goto (-64), 3) := by decide +kernel
theorem dX7_frame_162 : decode cX7_frame 162 = .ok (.aload_n 0, 1) := by decide +kernel
theorem dX7_frame_163 : decode cX7_frame 163 = .ok (.iconst 0, 1) := by decide +kernel
theorem dX7_frame_164 : decode cX7_frame 164 = .ok (.putfield 89, 3) := by decide +kernel
theorem dX7_frame_167 : decode cX7_frame 167 = .ok (.aload_n 0, 1) := by decide +kernel
theorem dX7_frame_168 : decode cX7_frame 168 = .ok (.getfield 62, 3) := by decide +kernel
theorem dX7_frame_171 : decode cX7_frame 171 = .ok (.ireturn, 1) := by decide +kernel
set_option maxRecDepth 20000 in
theorem ggX7_readFrame_X7_isSign : GoodIn wsX7_readFrame wsX7_isSign := goodIn_r _ [7, 2, 8, 24, 25, 26, 27, 28, 29, 30, 31, 32, 33, 34, 35, 36, 37, 38, 39, 40, 41, 42, 43, 44, 45, 46] (by decide +kernel) (by decide +kernel)
set_option maxRecDepth 20000 in
theorem gX7_readFrame_X7_isSign : GoodIn wsX7_readFrame (wsV RX7 92 RX7 yX7_isSign wsX7_isSign) := goodIn_app (goodIn_of _ (by decide +kernel)) ggX7_readFrame_X7_isSign
set_option maxRecDepth 20000 in
theorem ggX7_readFrame_X7_readWire : GoodIn wsX7_readFrame wsX7_readWire := goodIn_r _ [12, 2, 8, 1, 13, 14, 15, 16, 6, 17, 18, 19, 20, 21, 22, 23, 24, 25, 26, 27, 28, 29, 30, 31, 32, 33, 34, 35, 36, 37, 38, 39, 40, 41, 42, 43, 44, 45, 46] (by decide +kernel) (by decide +kernel)
set_option maxRecDepth 20000 in
theorem gX7_readFrame_X7_readWire : GoodIn wsX7_readFrame (wsV RX7 96 RX7 yX7_readWire wsX7_readWire) := goodIn_app (goodIn_of _ (by decide +kernel)) ggX7_readFrame_X7_readWire
theorem dX7_readFrame_0 : decode cX7_readFrame 0 = .ok (.aload_n 0, 1) := by decide +kernel
theorem dX7_readFrame_1 : decode cX7_readFrame 1 = .ok (.iconst 0, 1) := by decide +kernel
theorem dX7_readFrame_2 : decode cX7_readFrame 2 = .ok (.putfield 86, 3) := by decide +kernel
theorem dX7_readFrame_5 : decode cX7_readFrame 5 = .ok (.aload_n 0, 1) := by decide +kernel
theorem dX7_readFrame_6 : decode cX7_readFrame 6 = .ok (.iload_n 1, 1) := by decide +kernel
theorem dX7_readFrame_7 : decode cX7_readFrame 7 = .ok (.bipush 97, 2) := by decide +kernel
theorem dX7_readFrame_9 : decode cX7_readFrame 9 = .ok (.invokevirtual 92, 3) := by decide +kernel
theorem dX7_readFrame_12 : decode cX7_readFrame 12 = .ok (.ifCond .ne 5, 3) := by decide +kernel
theorem dX7_readFrame_15 : decode cX7_readFrame 15 = .ok (.iconst 0, 1) := by decide +kernel
theorem dX7_readFrame_16 : decode cX7_readFrame 16 = .ok (.ireturn, 1) := by decide +kernel
theorem dX7_readFrame_17 : decode cX7_readFrame 17 = .ok (.aload_n 0, 1) := by decide +kernel
theorem dX7_readFrame_18 : decode cX7_readFrame 18 = .ok (.getfield 86, 3) := by decide +kernel
theorem dX7_readFrame_21 : decode cX7_readFrame 21 = .ok (.iconst 2, 1) := by decide +kernel
theorem dX7_readFrame_22 : decode cX7_readFrame 22 = .ok (.if_icmp .lt 20, 3) := by decide +kernel
theorem dX7_readFrame_25 : decode cX7_readFrame 25 = .ok (.aload_n 0, 1) := by decide +kernel
theorem dX7_readFrame_26 : decode cX7_readFrame 26 = .ok (.getfield 86, 3) := by decide +kernel
theorem dX7_readFrame_29 : decode cX7_readFrame 29 = .ok (.bipush 6, 2) := by decide +kernel
theorem dX7_readFrame_31 : decode cX7_readFrame 31 = .ok (.if_icmp .ge 31, 3) := by decide +kernel
theorem dX7_readFrame_34 : decode cX7_readFrame 34 = .ok (.aload_n 0, 1) := by decide +kernel
theorem dX7_readFrame_35 : decode cX7_readFrame 35 = .ok (.getfield 65, 3) := by decide +kernel
theorem dX7_readFrame_38 : decode cX7_readFrame 38 = .ok (.iload_n 1, 1) := by decide +kernel
theorem dX7_readFrame_39 : decode cX7_readFrame 39 = .ok (.if_icmp .ge 23, 3) := by decide +kernel
theorem dX7_readFrame_42 : decode cX7_readFrame 42 = .ok (.aload_n 0, 1) := by decide +kernel
theorem dX7_readFrame_43 : decode cX7_readFrame 43 = .ok (.iload_n 1, 1) := by decide +kernel
theorem dX7_readFrame_44 : decode cX7_readFrame 44 = .ok (.bipush 59, 2) := by decide +kernel
theorem dX7_readFrame_46 : decode cX7_readFrame 46 = .ok (.invokevirtual 92, 3) := by decide +kernel
theorem dX7_readFrame_49 : decode cX7_readFrame 49 = .ok (.ifCond .eq 11, 3) := by decide +kernel
theorem dX7_readFrame_52 : decode cX7_readFrame 52 = .ok (.aload_n 0, 1) := by decide +kernel
theorem dX7_readFrame_53 : decode cX7_readFrame 53 = .ok (.iload_n 1, 1) := by decide +kernel
theorem dX7_readFrame_54 : decode cX7_readFrame 54 = .ok (.invokevirtual 96, 3) := by decide +kernel
theorem dX7_readFrame_57 : decode cX7_readFrame 57 = .ok (.ifCond .ne (-40), 3) := by decide +kernel
theorem dX7_readFrame_60 : decode cX7_readFrame 60 = .ok (.iconst 0, 1) := by decide +kernel
theorem dX7_readFrame_61 : decode cX7_readFrame 61 = .ok (.ireturn, 1) := by decide +kernel
theorem dX7_readFrame_62 : decode cX7_readFrame 62 = .ok (.aload_n 0, 1) := by decide +kernel
theorem dX7_readFrame_63 : decode cX7_readFrame 63 = .ok (.getfield 65, 3) := by decide +kernel
theorem dX7_readFrame_66 : decode cX7_readFrame 66 = .ok (.iload_n 1, 1) := by decide +kernel
theorem dX7_readFrame_67 : decode cX7_readFrame 67 = .ok (.if_icmp .ne 7, 3) := by decide +kernel
theorem dX7_readFrame_70 : decode cX7_readFrame 70 = .ok (.iconst 1, 1) := by decide +kernel
theorem dX7_readFrame_71 : decode cX7_readFrame 71 = .ok (.goto 4, 3) := by decide +kernel
theorem dX7_readFrame_74 : decode cX7_readFrame 74 = .ok (.iconst 0, 1) := by decide +kernel
theorem dX7_readFrame_75 : decode cX7_readFrame 75 = .ok (.ireturn, 1) := by decide +kernel
set_option maxRecDepth 20000 in
theorem ggX7_readWire_X7_digit : GoodIn wsX7_readWire wsX7_digit := goodIn_r _ [9, 1, 2, 10, 11, 8, 12, 16, 17, 18, 19, 20, 21, 22, 23, 24, 25, 26, 27, 28, 29, 30, 31, 32, 33, 34, 35, 36, 37, 38] (by decide +kernel) (by decide +kernel)
set_option maxRecDepth 20000 in
theorem gX7_readWire_X7_digit : GoodIn wsX7_readWire (wsV RX7 99 RX7 yX7_digit wsX7_digit) := goodIn_app (goodIn_of _ (by decide +kernel)) ggX7_readWire_X7_digit
set_option maxRecDepth 20000 in
theorem ggX7_readWire_X7_roomFor : GoodIn wsX7_readWire wsX7_roomFor := goodIn_r _ [15] (by decide +kernel) (by decide +kernel)
set_option maxRecDepth 20000 in
theorem gX7_readWire_X7_roomFor : GoodIn wsX7_readWire (va_wsS RX7 103 yX7_roomFor wsX7_roomFor) := goodIn_app (goodIn_of _ (by decide +kernel)) ggX7_readWire_X7_roomFor
theorem dX7_readWire_0 : decode cX7_readWire 0 = .ok (.aload_n 0, 1) := by decide +kernel
theorem dX7_readWire_1 : decode cX7_readWire 1 = .ok (.getfield 65, 3) := by decide +kernel
theorem dX7_readWire_4 : decode cX7_readWire 4 = .ok (.iload_n 1, 1) := by decide +kernel
theorem dX7_readWire_5 : decode cX7_readWire 5 = .ok (.if_icmp .ge 15, 3) := by decide +kernel
theorem dX7_readWire_8 : decode cX7_readWire 8 = .ok (.aload_n 0, 1) := by decide +kernel
theorem dX7_readWire_9 : decode cX7_readWire 9 = .ok (.getfield 16, 3) := by decide +kernel
theorem dX7_readWire_12 : decode cX7_readWire 12 = .ok (.aload_n 0, 1) := by decide +kernel
theorem dX7_readWire_13 : decode cX7_readWire 13 = .ok (.getfield 65, 3) := by decide +kernel
theorem dX7_readWire_16 : decode cX7_readWire 16 = .ok (.iaload, 1) := by decide +kernel
theorem dX7_readWire_17 : decode cX7_readWire 17 = .ok (.goto 4, 3) := by decide +kernel
theorem dX7_readWire_20 : decode cX7_readWire 20 = .ok (.iconst 0, 1) := by decide +kernel
theorem dX7_readWire_21 : decode cX7_readWire 21 = .ok (.istore_n 2, 1) := by decide +kernel
theorem dX7_readWire_22 : decode cX7_readWire 22 = .ok (.iconst 3, 1) := by decide +kernel
theorem dX7_readWire_23 : decode cX7_readWire 23 = .ok (.aload_n 0, 1) := by decide +kernel
theorem dX7_readWire_24 : decode cX7_readWire 24 = .ok (.getfield 86, 3) := by decide +kernel
theorem dX7_readWire_27 : decode cX7_readWire 27 = .ok (.imul, 1) := by decide +kernel
theorem dX7_readWire_28 : decode cX7_readWire 28 = .ok (.istore_n 3, 1) := by decide +kernel
theorem dX7_readWire_29 : decode cX7_readWire 29 = .ok (.aload_n 0, 1) := by decide +kernel
theorem dX7_readWire_30 : decode cX7_readWire 30 = .ok (.getfield 28, 3) := by decide +kernel
theorem dX7_readWire_33 : decode cX7_readWire 33 = .ok (.iload_n 3, 1) := by decide +kernel
theorem dX7_readWire_34 : decode cX7_readWire 34 = .ok (.iload_n 2, 1) := by decide +kernel
theorem dX7_readWire_35 : decode cX7_readWire 35 = .ok (.bipush 119, 2) := by decide +kernel
theorem dX7_readWire_37 : decode cX7_readWire 37 = .ok (.if_icmp .ne 7, 3) := by decide +kernel
theorem dX7_readWire_40 : decode cX7_readWire 40 = .ok (.iconst 0, 1) := by decide +kernel
theorem dX7_readWire_41 : decode cX7_readWire 41 = .ok (.goto 25, 3) := by decide +kernel
theorem dX7_readWire_44 : decode cX7_readWire 44 = .ok (.iload_n 2, 1) := by decide +kernel
theorem dX7_readWire_45 : decode cX7_readWire 45 = .ok (.bipush 108, 2) := by decide +kernel
theorem dX7_readWire_47 : decode cX7_readWire 47 = .ok (.if_icmp .ne 7, 3) := by decide +kernel
theorem dX7_readWire_50 : decode cX7_readWire 50 = .ok (.iconst 1, 1) := by decide +kernel
theorem dX7_readWire_51 : decode cX7_readWire 51 = .ok (.goto 15, 3) := by decide +kernel
theorem dX7_readWire_54 : decode cX7_readWire 54 = .ok (.iload_n 2, 1) := by decide +kernel
theorem dX7_readWire_55 : decode cX7_readWire 55 = .ok (.bipush 111, 2) := by decide +kernel
theorem dX7_readWire_57 : decode cX7_readWire 57 = .ok (.if_icmp .ne 7, 3) := by decide +kernel
theorem dX7_readWire_60 : decode cX7_readWire 60 = .ok (.iconst 2, 1) := by decide +kernel
theorem dX7_readWire_61 : decode cX7_readWire 61 = .ok (.goto 5, 3) := by decide +kernel
theorem dX7_readWire_64 : decode cX7_readWire 64 = .ok (.bipush (-9), 2) := by decide +kernel
theorem dX7_readWire_66 : decode cX7_readWire 66 = .ok (.iastore, 1) := by decide +kernel
theorem dX7_readWire_67 : decode cX7_readWire 67 = .ok (.aload_n 0, 1) := by decide +kernel
theorem dX7_readWire_68 : decode cX7_readWire 68 = .ok (.getfield 28, 3) := by decide +kernel
theorem dX7_readWire_71 : decode cX7_readWire 71 = .ok (.iload_n 3, 1) := by decide +kernel
theorem dX7_readWire_72 : decode cX7_readWire 72 = .ok (.iaload, 1) := by decide +kernel
theorem dX7_readWire_73 : decode cX7_readWire 73 = .ok (.bipush (-9), 2) := by decide +kernel
theorem dX7_readWire_75 : decode cX7_readWire 75 = .ok (.if_icmp .ne 5, 3) := by decide +kernel
theorem dX7_readWire_78 : decode cX7_readWire 78 = .ok (.iconst 0, 1) := by decide +kernel
theorem dX7_readWire_79 : decode cX7_readWire 79 = .ok (.ireturn, 1) := by decide +kernel
theorem dX7_readWire_80 : decode cX7_readWire 80 = .ok (.aload_n 0, 1) := by decide +kernel
theorem dX7_readWire_81 : decode cX7_readWire 81 = .ok (.dup, 1) := by decide +kernel
theorem dX7_readWire_82 : decode cX7_readWire 82 = .ok (.getfield 65, 3) := by decide +kernel
theorem dX7_readWire_85 : decode cX7_readWire 85 = .ok (.iconst 1, 1) := by decide +kernel
theorem dX7_readWire_86 : decode cX7_readWire 86 = .ok (.iadd, 1) := by decide +kernel
theorem dX7_readWire_87 : decode cX7_readWire 87 = .ok (.putfield 65, 3) := by decide +kernel
theorem dX7_readWire_90 : decode cX7_readWire 90 = .ok (.aload_n 0, 1) := by decide +kernel
theorem dX7_readWire_91 : decode cX7_readWire 91 = .ok (.getfield 28, 3) := by decide +kernel
theorem dX7_readWire_94 : decode cX7_readWire 94 = .ok (.iload_n 3, 1) := by decide +kernel
theorem dX7_readWire_95 : decode cX7_readWire 95 = .ok (.iconst 1, 1) := by decide +kernel
theorem dX7_readWire_96 : decode cX7_readWire 96 = .ok (.iadd, 1) := by decide +kernel
theorem dX7_readWire_97 : decode cX7_readWire 97 = .ok (.aload_n 0, 1) := by decide +kernel
theorem dX7_readWire_98 : decode cX7_readWire 98 = .ok (.iload_n 1, 1) := by decide +kernel
theorem dX7_readWire_99 : decode cX7_readWire 99 = .ok (.iconst 1, 1) := by decide +kernel
theorem dX7_readWire_100 : decode cX7_readWire 100 = .ok (.bipush 9, 2) := by decide +kernel
theorem dX7_readWire_102 : decode cX7_readWire 102 = .ok (.invokevirtual 99, 3) := by decide +kernel
theorem dX7_readWire_105 : decode cX7_readWire 105 = .ok (.iastore, 1) := by decide +kernel
theorem dX7_readWire_106 : decode cX7_readWire 106 = .ok (.aload_n 0, 1) := by decide +kernel
theorem dX7_readWire_107 : decode cX7_readWire 107 = .ok (.getfield 28, 3) := by decide +kernel
theorem dX7_readWire_110 : decode cX7_readWire 110 = .ok (.iload_n 3, 1) := by decide +kernel
theorem dX7_readWire_111 : decode cX7_readWire 111 = .ok (.iconst 1, 1) := by decide +kernel
theorem dX7_readWire_112 : decode cX7_readWire 112 = .ok (.iadd, 1) := by decide +kernel
theorem dX7_readWire_113 : decode cX7_readWire 113 = .ok (.iaload, 1) := by decide +kernel
theorem dX7_readWire_114 : decode cX7_readWire 114 = .ok (.bipush (-9), 2) := by decide +kernel
theorem dX7_readWire_116 : decode cX7_readWire 116 = .ok (.if_icmp .ne 5, 3) := by decide +kernel
theorem dX7_readWire_119 : decode cX7_readWire 119 = .ok (.iconst 0, 1) := by decide +kernel
theorem dX7_readWire_120 : decode cX7_readWire 120 = .ok (.ireturn, 1) := by decide +kernel
theorem dX7_readWire_121 : decode cX7_readWire 121 = .ok (.aload_n 0, 1) := by decide +kernel
theorem dX7_readWire_122 : decode cX7_readWire 122 = .ok (.getfield 28, 3) := by decide +kernel
theorem dX7_readWire_125 : decode cX7_readWire 125 = .ok (.iload_n 3, 1) := by decide +kernel
theorem dX7_readWire_126 : decode cX7_readWire 126 = .ok (.iaload, 1) := by decide +kernel
theorem dX7_readWire_127 : decode cX7_readWire 127 = .ok (.aload_n 0, 1) := by decide +kernel
theorem dX7_readWire_128 : decode cX7_readWire 128 = .ok (.getfield 28, 3) := by decide +kernel
theorem dX7_readWire_131 : decode cX7_readWire 131 = .ok (.iload_n 3, 1) := by decide +kernel
theorem dX7_readWire_132 : decode cX7_readWire 132 = .ok (.iconst 1, 1) := by decide +kernel
theorem dX7_readWire_133 : decode cX7_readWire 133 = .ok (.iadd, 1) := by decide +kernel
theorem dX7_readWire_134 : decode cX7_readWire 134 = .ok (.iaload, 1) := by decide +kernel
theorem dX7_readWire_135 : decode cX7_readWire 135 = .ok (.invokestatic 103, 3) := by decide +kernel
theorem dX7_readWire_138 : decode cX7_readWire 138 = .ok (.istore 4, 2) := by decide +kernel
theorem dX7_readWire_140 : decode cX7_readWire 140 = .ok (.aload_n 0, 1) := by decide +kernel
theorem dX7_readWire_141 : decode cX7_readWire 141 = .ok (.getfield 28, 3) := by decide +kernel
theorem dX7_readWire_144 : decode cX7_readWire 144 = .ok (.iload_n 3, 1) := by decide +kernel
theorem dX7_readWire_145 : decode cX7_readWire 145 = .ok (.iconst 2, 1) := by decide +kernel
theorem dX7_readWire_146 : decode cX7_readWire 146 = .ok (.iadd, 1) := by decide +kernel
theorem dX7_readWire_147 : decode cX7_readWire 147 = .ok (.aload_n 0, 1) := by decide +kernel
theorem dX7_readWire_148 : decode cX7_readWire 148 = .ok (.iload_n 1, 1) := by decide +kernel
theorem dX7_readWire_149 : decode cX7_readWire 149 = .ok (.iconst 0, 1) := by decide +kernel
theorem dX7_readWire_150 : decode cX7_readWire 150 = .ok (.iload 4, 2) := by decide +kernel
theorem dX7_readWire_152 : decode cX7_readWire 152 = .ok (.bipush 9, 2) := by decide +kernel
theorem dX7_readWire_154 : decode cX7_readWire 154 = .ok (.if_icmp .le 8, 3) := by decide +kernel
theorem dX7_readWire_157 : decode cX7_readWire 157 = .ok (.bipush 9, 2) := by decide +kernel
theorem dX7_readWire_159 : decode cX7_readWire 159 = .ok (.goto 5, 3) := by decide +kernel
theorem dX7_readWire_162 : decode cX7_readWire 162 = .ok (.iload 4, 2) := by decide +kernel
theorem dX7_readWire_164 : decode cX7_readWire 164 = .ok (.invokevirtual 99, 3) := by decide +kernel
theorem dX7_readWire_167 : decode cX7_readWire 167 = .ok (.iastore, 1) := by decide +kernel
theorem dX7_readWire_168 : decode cX7_readWire 168 = .ok (.aload_n 0, 1) := by decide +kernel
theorem dX7_readWire_169 : decode cX7_readWire 169 = .ok (.dup, 1) := by decide +kernel
theorem dX7_readWire_170 : decode cX7_readWire 170 = .ok (.getfield 86, 3) := by decide +kernel
theorem dX7_readWire_173 : decode cX7_readWire 173 = .ok (.iconst 1, 1) := by decide +kernel
theorem dX7_readWire_174 : decode cX7_readWire 174 = .ok (.iadd, 1) := by decide +kernel
theorem dX7_readWire_175 : decode cX7_readWire 175 = .ok (.putfield 86, 3) := by decide +kernel
theorem dX7_readWire_178 : decode cX7_readWire 178 = .ok (.aload_n 0, 1) := by decide +kernel
theorem dX7_readWire_179 : decode cX7_readWire 179 = .ok (.getfield 28, 3) := by decide +kernel
theorem dX7_readWire_182 : decode cX7_readWire 182 = .ok (.iload_n 3, 1) := by decide +kernel
theorem dX7_readWire_183 : decode cX7_readWire 183 = .ok (.iconst 2, 1) := by decide +kernel
theorem dX7_readWire_184 : decode cX7_readWire 184 = .ok (.iadd, 1) := by decide +kernel
theorem dX7_readWire_185 : decode cX7_readWire 185 = .ok (.iaload, 1) := by decide +kernel
theorem dX7_readWire_186 : decode cX7_readWire 186 = .ok (.bipush (-9), 2) := by decide +kernel
theorem dX7_readWire_188 : decode cX7_readWire 188 = .ok (.if_icmp .eq 7, 3) := by decide +kernel
theorem dX7_readWire_191 : decode cX7_readWire 191 = .ok (.iconst 1, 1) := by decide +kernel
theorem dX7_readWire_192 : decode cX7_readWire 192 = .ok (.goto 4, 3) := by decide +kernel
theorem dX7_readWire_195 : decode cX7_readWire 195 = .ok (.iconst 0, 1) := by decide +kernel
theorem dX7_readWire_196 : decode cX7_readWire 196 = .ok (.ireturn, 1) := by decide +kernel
theorem dX7_roomFor_0 : decode cX7_roomFor 0 = .ok (.iload_n 0, 1) := by decide +kernel
theorem dX7_roomFor_1 : decode cX7_roomFor 1 = .ok (.ifCond .ne 7, 3) := by decide +kernel
theorem dX7_roomFor_4 : decode cX7_roomFor 4 = .ok (.iload_n 1, 1) := by decide +kernel
theorem dX7_roomFor_5 : decode cX7_roomFor 5 = .ok (.goto 17, 3) := by decide +kernel
theorem dX7_roomFor_8 : decode cX7_roomFor 8 = .ok (.iload_n 0, 1) := by decide +kernel
theorem dX7_roomFor_9 : decode cX7_roomFor 9 = .ok (.iconst 1, 1) := by decide +kernel
theorem dX7_roomFor_10 : decode cX7_roomFor 10 = .ok (.if_icmp .ne 9, 3) := by decide +kernel
theorem dX7_roomFor_13 : decode cX7_roomFor 13 = .ok (.iload_n 1, 1) := by decide +kernel
theorem dX7_roomFor_14 : decode cX7_roomFor 14 = .ok (.iconst 1, 1) := by decide +kernel
theorem dX7_roomFor_15 : decode cX7_roomFor 15 = .ok (.iadd, 1) := by decide +kernel
theorem dX7_roomFor_16 : decode cX7_roomFor 16 = .ok (.goto 6, 3) := by decide +kernel
theorem dX7_roomFor_19 : decode cX7_roomFor 19 = .ok (.iconst 2, 1) := by decide +kernel
theorem dX7_roomFor_20 : decode cX7_roomFor 20 = .ok (.iload_n 1, 1) := by decide +kernel
theorem dX7_roomFor_21 : decode cX7_roomFor 21 = .ok (.imul, 1) := by decide +kernel
theorem dX7_roomFor_22 : decode cX7_roomFor 22 = .ok (.ireturn, 1) := by decide +kernel
set_option maxRecDepth 20000 in
theorem ggX7_roomOf_X7_roomFor : GoodIn wsX7_roomOf wsX7_roomFor := goodIn_r _ [6] (by decide +kernel) (by decide +kernel)
set_option maxRecDepth 20000 in
theorem gX7_roomOf_X7_roomFor : GoodIn wsX7_roomOf (va_wsS RX7 103 yX7_roomFor wsX7_roomFor) := goodIn_app (goodIn_of _ (by decide +kernel)) ggX7_roomOf_X7_roomFor
theorem dX7_roomOf_0 : decode cX7_roomOf 0 = .ok (.aload_n 0, 1) := by decide +kernel
theorem dX7_roomOf_1 : decode cX7_roomOf 1 = .ok (.getfield 19, 3) := by decide +kernel
theorem dX7_roomOf_4 : decode cX7_roomOf 4 = .ok (.iload_n 1, 1) := by decide +kernel
theorem dX7_roomOf_5 : decode cX7_roomOf 5 = .ok (.iaload, 1) := by decide +kernel
theorem dX7_roomOf_6 : decode cX7_roomOf 6 = .ok (.aload_n 0, 1) := by decide +kernel
theorem dX7_roomOf_7 : decode cX7_roomOf 7 = .ok (.getfield 22, 3) := by decide +kernel
theorem dX7_roomOf_10 : decode cX7_roomOf 10 = .ok (.iload_n 1, 1) := by decide +kernel
theorem dX7_roomOf_11 : decode cX7_roomOf 11 = .ok (.iaload, 1) := by decide +kernel
theorem dX7_roomOf_12 : decode cX7_roomOf 12 = .ok (.invokestatic 103, 3) := by decide +kernel
theorem dX7_roomOf_15 : decode cX7_roomOf 15 = .ok (.ireturn, 1) := by decide +kernel
set_option maxRecDepth 20000 in
theorem ggX7_worthOf_X7_roomOf : GoodIn wsX7_worthOf wsX7_roomOf := goodIn_r _ [5, 6, 7, 8, 9, 4, 10, 11, 12, 13, 14, 15, 16, 17, 18, 19, 20, 21, 22, 23, 24, 25, 26, 27, 28, 29, 30, 31, 32, 33] (by decide +kernel) (by decide +kernel)
set_option maxRecDepth 20000 in
theorem gX7_worthOf_X7_roomOf : GoodIn wsX7_worthOf (wsV RX7 107 RX7 yX7_roomOf wsX7_roomOf) := goodIn_app (goodIn_of _ (by decide +kernel)) ggX7_worthOf_X7_roomOf
theorem dX7_worthOf_0 : decode cX7_worthOf 0 = .ok (.iconst 1, 1) := by decide +kernel
theorem dX7_worthOf_1 : decode cX7_worthOf 1 = .ok (.istore_n 2, 1) := by decide +kernel
theorem dX7_worthOf_2 : decode cX7_worthOf 2 = .ok (.iconst 0, 1) := by decide +kernel
theorem dX7_worthOf_3 : decode cX7_worthOf 3 = .ok (.istore_n 3, 1) := by decide +kernel
theorem dX7_worthOf_4 : decode cX7_worthOf 4 = .ok (.iload_n 3, 1) := by decide +kernel
theorem dX7_worthOf_5 : decode cX7_worthOf 5 = .ok (.iload_n 1, 1) := by decide +kernel
theorem dX7_worthOf_6 : decode cX7_worthOf 6 = .ok (.if_icmp .ge 19, 3) := by decide +kernel
theorem dX7_worthOf_9 : decode cX7_worthOf 9 = .ok (.iload_n 2, 1) := by decide +kernel
theorem dX7_worthOf_10 : decode cX7_worthOf 10 = .ok (.aload_n 0, 1) := by decide +kernel
theorem dX7_worthOf_11 : decode cX7_worthOf 11 = .ok (.iload_n 3, 1) := by decide +kernel
theorem dX7_worthOf_12 : decode cX7_worthOf 12 = .ok (.invokevirtual 107, 3) := by decide +kernel
theorem dX7_worthOf_15 : decode cX7_worthOf 15 = .ok (.iconst 1, 1) := by decide +kernel
theorem dX7_worthOf_16 : decode cX7_worthOf 16 = .ok (.iadd, 1) := by decide +kernel
theorem dX7_worthOf_17 : decode cX7_worthOf 17 = .ok (.imul, 1) := by decide +kernel
theorem dX7_worthOf_18 : decode cX7_worthOf 18 = .ok (.istore_n 2, 1) := by decide +kernel
theorem dX7_worthOf_19 : decode cX7_worthOf 19 = .ok (.iinc 3 1, 3) := by decide +kernel
theorem dX7_worthOf_22 : decode cX7_worthOf 22 = .ok (.goto (-18), 3) := by decide +kernel
theorem dX7_worthOf_25 : decode cX7_worthOf 25 = .ok (.iload_n 2, 1) := by decide +kernel
theorem dX7_worthOf_26 : decode cX7_worthOf 26 = .ok (.ireturn, 1) := by decide +kernel
set_option maxRecDepth 20000 in
theorem ggX7_mostOf_X7_worthOf : GoodIn wsX7_mostOf wsX7_worthOf := goodIn_r _ [6, 7, 8, 9, 5, 10, 11, 12, 13, 14, 15, 16, 17, 18, 19, 20, 21, 22, 23, 24, 25, 26, 27, 28, 29, 30, 31, 32, 33, 34, 35, 36, 37, 38] (by decide +kernel) (by decide +kernel)
set_option maxRecDepth 20000 in
theorem gX7_mostOf_X7_worthOf : GoodIn wsX7_mostOf (wsV RX7 110 RX7 yX7_worthOf wsX7_worthOf) := goodIn_app (goodIn_of _ (by decide +kernel)) ggX7_mostOf_X7_worthOf
theorem dX7_mostOf_0 : decode cX7_mostOf 0 = .ok (.aload_n 0, 1) := by decide +kernel
theorem dX7_mostOf_1 : decode cX7_mostOf 1 = .ok (.aload_n 0, 1) := by decide +kernel
theorem dX7_mostOf_2 : decode cX7_mostOf 2 = .ok (.getfield 62, 3) := by decide +kernel
theorem dX7_mostOf_5 : decode cX7_mostOf 5 = .ok (.invokevirtual 110, 3) := by decide +kernel
theorem dX7_mostOf_8 : decode cX7_mostOf 8 = .ok (.iconst 1, 1) := by decide +kernel
theorem dX7_mostOf_9 : decode cX7_mostOf 9 = .ok (.isub, 1) := by decide +kernel
theorem dX7_mostOf_10 : decode cX7_mostOf 10 = .ok (.ireturn, 1) := by decide +kernel
set_option maxRecDepth 20000 in
theorem ggX7_numberNow_X7_worthOf : GoodIn wsX7_numberNow wsX7_worthOf := goodIn_r _ [7, 8, 9, 10, 6, 11, 12, 13, 14, 15, 16, 17, 18, 19, 20, 21, 22, 23, 24, 25, 26, 27, 28, 29, 30, 31, 32, 33, 34, 35, 36, 37, 38, 39] (by decide +kernel) (by decide +kernel)
set_option maxRecDepth 20000 in
theorem gX7_numberNow_X7_worthOf : GoodIn wsX7_numberNow (wsV RX7 110 RX7 yX7_worthOf wsX7_worthOf) := goodIn_app (goodIn_of _ (by decide +kernel)) ggX7_numberNow_X7_worthOf
theorem dX7_numberNow_0 : decode cX7_numberNow 0 = .ok (.iconst 0, 1) := by decide +kernel
theorem dX7_numberNow_1 : decode cX7_numberNow 1 = .ok (.istore_n 1, 1) := by decide +kernel
theorem dX7_numberNow_2 : decode cX7_numberNow 2 = .ok (.iconst 0, 1) := by decide +kernel
theorem dX7_numberNow_3 : decode cX7_numberNow 3 = .ok (.istore_n 2, 1) := by decide +kernel
theorem dX7_numberNow_4 : decode cX7_numberNow 4 = .ok (.iload_n 2, 1) := by decide +kernel
theorem dX7_numberNow_5 : decode cX7_numberNow 5 = .ok (.aload_n 0, 1) := by decide +kernel
theorem dX7_numberNow_6 : decode cX7_numberNow 6 = .ok (.getfield 62, 3) := by decide +kernel
theorem dX7_numberNow_9 : decode cX7_numberNow 9 = .ok (.if_icmp .ge 24, 3) := by decide +kernel
theorem dX7_numberNow_12 : decode cX7_numberNow 12 = .ok (.iload_n 1, 1) := by decide +kernel
theorem dX7_numberNow_13 : decode cX7_numberNow 13 = .ok (.aload_n 0, 1) := by decide +kernel
theorem dX7_numberNow_14 : decode cX7_numberNow 14 = .ok (.getfield 25, 3) := by decide +kernel
theorem dX7_numberNow_17 : decode cX7_numberNow 17 = .ok (.iload_n 2, 1) := by decide +kernel
theorem dX7_numberNow_18 : decode cX7_numberNow 18 = .ok (.iaload, 1) := by decide +kernel
theorem dX7_numberNow_19 : decode cX7_numberNow 19 = .ok (.aload_n 0, 1) := by decide +kernel
theorem dX7_numberNow_20 : decode cX7_numberNow 20 = .ok (.iload_n 2, 1) := by decide +kernel
theorem dX7_numberNow_21 : decode cX7_numberNow 21 = .ok (.invokevirtual 110, 3) := by decide +kernel
theorem dX7_numberNow_24 : decode cX7_numberNow 24 = .ok (.imul, 1) := by decide +kernel
theorem dX7_numberNow_25 : decode cX7_numberNow 25 = .ok (.iadd, 1) := by decide +kernel
theorem dX7_numberNow_26 : decode cX7_numberNow 26 = .ok (.istore_n 1, 1) := by decide +kernel
theorem dX7_numberNow_27 : decode cX7_numberNow 27 = .ok (.iinc 2 1, 3) := by decide +kernel
theorem dX7_numberNow_30 : decode cX7_numberNow 30 = .ok (.goto (-26), 3) := by decide +kernel
theorem dX7_numberNow_33 : decode cX7_numberNow 33 = .ok (.iload_n 1, 1) := by decide +kernel
theorem dX7_numberNow_34 : decode cX7_numberNow 34 = .ok (.ireturn, 1) := by decide +kernel
set_option maxRecDepth 20000 in
theorem ggX7_figureOf_X7_worthOf : GoodIn wsX7_figureOf wsX7_worthOf := goodIn_r _ [5, 6, 7, 8, 4, 9, 10, 11, 12, 13, 14, 15, 16, 17, 18, 19, 20, 21, 22, 23, 24, 25, 26, 27, 28, 29, 30, 31, 32, 33, 34, 35, 36, 37] (by decide +kernel) (by decide +kernel)
set_option maxRecDepth 20000 in
theorem gX7_figureOf_X7_worthOf : GoodIn wsX7_figureOf (wsV RX7 110 RX7 yX7_worthOf wsX7_worthOf) := goodIn_app (goodIn_of _ (by decide +kernel)) ggX7_figureOf_X7_worthOf
set_option maxRecDepth 20000 in
theorem ggX7_figureOf_X7_roomOf : GoodIn wsX7_figureOf wsX7_roomOf := goodIn_r _ [9, 10, 11, 12, 13, 4, 14, 15, 16, 17, 18, 19, 20, 21, 22, 23, 24, 25, 26, 27, 28, 29, 30, 31, 32, 33, 34, 35, 36, 37] (by decide +kernel) (by decide +kernel)
set_option maxRecDepth 20000 in
theorem gX7_figureOf_X7_roomOf : GoodIn wsX7_figureOf (wsV RX7 107 RX7 yX7_roomOf wsX7_roomOf) := goodIn_app (goodIn_of _ (by decide +kernel)) ggX7_figureOf_X7_roomOf
theorem dX7_figureOf_0 : decode cX7_figureOf 0 = .ok (.iload_n 2, 1) := by decide +kernel
theorem dX7_figureOf_1 : decode cX7_figureOf 1 = .ok (.aload_n 0, 1) := by decide +kernel
theorem dX7_figureOf_2 : decode cX7_figureOf 2 = .ok (.iload_n 1, 1) := by decide +kernel
theorem dX7_figureOf_3 : decode cX7_figureOf 3 = .ok (.invokevirtual 110, 3) := by decide +kernel
theorem dX7_figureOf_6 : decode cX7_figureOf 6 = .ok (.idiv, 1) := by decide +kernel
theorem dX7_figureOf_7 : decode cX7_figureOf 7 = .ok (.aload_n 0, 1) := by decide +kernel
theorem dX7_figureOf_8 : decode cX7_figureOf 8 = .ok (.iload_n 1, 1) := by decide +kernel
theorem dX7_figureOf_9 : decode cX7_figureOf 9 = .ok (.invokevirtual 107, 3) := by decide +kernel
theorem dX7_figureOf_12 : decode cX7_figureOf 12 = .ok (.iconst 1, 1) := by decide +kernel
theorem dX7_figureOf_13 : decode cX7_figureOf 13 = .ok (.iadd, 1) := by decide +kernel
theorem dX7_figureOf_14 : decode cX7_figureOf 14 = .ok (.irem, 1) := by decide +kernel
theorem dX7_figureOf_15 : decode cX7_figureOf 15 = .ok (.ireturn, 1) := by decide +kernel
theorem dX7_allPushed_0 : decode cX7_allPushed 0 = .ok (.iconst 0, 1) := by decide +kernel
theorem dX7_allPushed_1 : decode cX7_allPushed 1 = .ok (.istore_n 1, 1) := by decide +kernel
theorem dX7_allPushed_2 : decode cX7_allPushed 2 = .ok (.iconst 0, 1) := by decide +kernel
theorem dX7_allPushed_3 : decode cX7_allPushed 3 = .ok (.istore_n 2, 1) := by decide +kernel
theorem dX7_allPushed_4 : decode cX7_allPushed 4 = .ok (.iload_n 2, 1) := by decide +kernel
theorem dX7_allPushed_5 : decode cX7_allPushed 5 = .ok (.aload_n 0, 1) := by decide +kernel
theorem dX7_allPushed_6 : decode cX7_allPushed 6 = .ok (.getfield 62, 3) := by decide +kernel
theorem dX7_allPushed_9 : decode cX7_allPushed 9 = .ok (.if_icmp .ge 18, 3) := by decide +kernel
theorem dX7_allPushed_12 : decode cX7_allPushed 12 = .ok (.iload_n 1, 1) := by decide +kernel
theorem dX7_allPushed_13 : decode cX7_allPushed 13 = .ok (.aload_n 0, 1) := by decide +kernel
theorem dX7_allPushed_14 : decode cX7_allPushed 14 = .ok (.getfield 25, 3) := by decide +kernel
theorem dX7_allPushed_17 : decode cX7_allPushed 17 = .ok (.iload_n 2, 1) := by decide +kernel
theorem dX7_allPushed_18 : decode cX7_allPushed 18 = .ok (.iaload, 1) := by decide +kernel
theorem dX7_allPushed_19 : decode cX7_allPushed 19 = .ok (.iadd, 1) := by decide +kernel
theorem dX7_allPushed_20 : decode cX7_allPushed 20 = .ok (.istore_n 1, 1) := by decide +kernel
theorem dX7_allPushed_21 : decode cX7_allPushed 21 = .ok (.iinc 2 1, 3) := by decide +kernel
theorem dX7_allPushed_24 : decode cX7_allPushed 24 = .ok (.goto (-20), 3) := by decide +kernel
theorem dX7_allPushed_27 : decode cX7_allPushed 27 = .ok (.iload_n 1, 1) := by decide +kernel
theorem dX7_allPushed_28 : decode cX7_allPushed 28 = .ok (.ireturn, 1) := by decide +kernel
set_option maxRecDepth 20000 in
theorem ggX7_ofWire_X7_isWire : GoodIn wsX7_ofWire wsX7_isWire := goodIn_r _ [8, 9, 21, 22, 23, 24, 25, 26, 27, 28, 29, 30, 31, 32, 33, 34, 35, 36, 37, 38, 39, 40, 41, 42, 43] (by decide +kernel) (by decide +kernel)
set_option maxRecDepth 20000 in
theorem gX7_ofWire_X7_isWire : GoodIn wsX7_ofWire (wsV RX7 113 RX7 yX7_isWire wsX7_isWire) := goodIn_app (goodIn_of _ (by decide +kernel)) ggX7_ofWire_X7_isWire
set_option maxRecDepth 20000 in
theorem ggX7_ofWire_X7_roomOf : GoodIn wsX7_ofWire wsX7_roomOf := goodIn_r _ [13, 1, 2, 14, 15, 7, 16, 21, 22, 23, 24, 25, 26, 27, 28, 29, 30, 31, 32, 33, 34, 35, 36, 37, 38, 39, 40, 41, 42, 43] (by decide +kernel) (by decide +kernel)
set_option maxRecDepth 20000 in
theorem gX7_ofWire_X7_roomOf : GoodIn wsX7_ofWire (wsV RX7 107 RX7 yX7_roomOf wsX7_roomOf) := goodIn_app (goodIn_of _ (by decide +kernel)) ggX7_ofWire_X7_roomOf
set_option maxRecDepth 20000 in
theorem ggX7_ofWire_X7_worthOf : GoodIn wsX7_ofWire wsX7_worthOf := goodIn_r _ [20, 10, 11, 12, 7, 13, 1, 2, 14, 15, 16, 21, 22, 23, 24, 25, 26, 27, 28, 29, 30, 31, 32, 33, 34, 35, 36, 37, 38, 39, 40, 41, 42, 43] (by decide +kernel) (by decide +kernel)
set_option maxRecDepth 20000 in
theorem gX7_ofWire_X7_worthOf : GoodIn wsX7_ofWire (wsV RX7 110 RX7 yX7_worthOf wsX7_worthOf) := goodIn_app (goodIn_of _ (by decide +kernel)) ggX7_ofWire_X7_worthOf
theorem dX7_ofWire_0 : decode cX7_ofWire 0 = .ok (.aload_n 0, 1) := by decide +kernel
theorem dX7_ofWire_1 : decode cX7_ofWire 1 = .ok (.iload_n 1, 1) := by decide +kernel
theorem dX7_ofWire_2 : decode cX7_ofWire 2 = .ok (.invokevirtual 113, 3) := by decide +kernel
theorem dX7_ofWire_5 : decode cX7_ofWire 5 = .ok (.ifCond .ne 5, 3) := by decide +kernel
theorem dX7_ofWire_8 : decode cX7_ofWire 8 = .ok (.iconst (-1), 1) := by decide +kernel
theorem dX7_ofWire_9 : decode cX7_ofWire 9 = .ok (.ireturn, 1) := by decide +kernel
theorem dX7_ofWire_10 : decode cX7_ofWire 10 = .ok (.iload_n 2, 1) := by decide +kernel
theorem dX7_ofWire_11 : decode cX7_ofWire 11 = .ok (.tableswitch 66 0 4 #[33, 40, 47, 53, 60], 33) := by decide +kernel
theorem dX7_ofWire_44 : decode cX7_ofWire 44 = .ok (.aload_n 0, 1) := by decide +kernel
theorem dX7_ofWire_45 : decode cX7_ofWire 45 = .ok (.getfield 19, 3) := by decide +kernel
theorem dX7_ofWire_48 : decode cX7_ofWire 48 = .ok (.iload_n 1, 1) := by decide +kernel
theorem dX7_ofWire_49 : decode cX7_ofWire 49 = .ok (.iaload, 1) := by decide +kernel
theorem dX7_ofWire_50 : decode cX7_ofWire 50 = .ok (.ireturn, 1) := by decide +kernel
theorem dX7_ofWire_51 : decode cX7_ofWire 51 = .ok (.aload_n 0, 1) := by decide +kernel
theorem dX7_ofWire_52 : decode cX7_ofWire 52 = .ok (.getfield 22, 3) := by decide +kernel
theorem dX7_ofWire_55 : decode cX7_ofWire 55 = .ok (.iload_n 1, 1) := by decide +kernel
theorem dX7_ofWire_56 : decode cX7_ofWire 56 = .ok (.iaload, 1) := by decide +kernel
theorem dX7_ofWire_57 : decode cX7_ofWire 57 = .ok (.ireturn, 1) := by decide +kernel
theorem dX7_ofWire_58 : decode cX7_ofWire 58 = .ok (.aload_n 0, 1) := by decide +kernel
theorem dX7_ofWire_59 : decode cX7_ofWire 59 = .ok (.iload_n 1, 1) := by decide +kernel
theorem dX7_ofWire_60 : decode cX7_ofWire 60 = .ok (.invokevirtual 107, 3) := by decide +kernel
theorem dX7_ofWire_63 : decode cX7_ofWire 63 = .ok (.ireturn, 1) := by decide +kernel
theorem dX7_ofWire_64 : decode cX7_ofWire 64 = .ok (.aload_n 0, 1) := by decide +kernel
theorem dX7_ofWire_65 : decode cX7_ofWire 65 = .ok (.getfield 25, 3) := by decide +kernel
theorem dX7_ofWire_68 : decode cX7_ofWire 68 = .ok (.iload_n 1, 1) := by decide +kernel
theorem dX7_ofWire_69 : decode cX7_ofWire 69 = .ok (.iaload, 1) := by decide +kernel
theorem dX7_ofWire_70 : decode cX7_ofWire 70 = .ok (.ireturn, 1) := by decide +kernel
theorem dX7_ofWire_71 : decode cX7_ofWire 71 = .ok (.aload_n 0, 1) := by decide +kernel
theorem dX7_ofWire_72 : decode cX7_ofWire 72 = .ok (.iload_n 1, 1) := by decide +kernel
theorem dX7_ofWire_73 : decode cX7_ofWire 73 = .ok (.invokevirtual 110, 3) := by decide +kernel
theorem dX7_ofWire_76 : decode cX7_ofWire 76 = .ok (.ireturn, 1) := by decide +kernel
theorem dX7_ofWire_77 : decode cX7_ofWire 77 = .ok (.bipush (-2), 2) := by decide +kernel
theorem dX7_ofWire_79 : decode cX7_ofWire 79 = .ok (.ireturn, 1) := by decide +kernel
set_option maxRecDepth 20000 in
theorem ggX7_number_X7_within : GoodIn wsX7_number wsX7_within := goodIn_r _ [5] (by decide +kernel) (by decide +kernel)
set_option maxRecDepth 20000 in
theorem gX7_number_X7_within : GoodIn wsX7_number (va_wsS RX7 58 yX7_within wsX7_within) := goodIn_app (goodIn_of _ (by decide +kernel)) ggX7_number_X7_within
set_option maxRecDepth 20000 in
theorem ggX7_number_X7_numberNow : GoodIn wsX7_number wsX7_numberNow := goodIn_r _ [9, 1, 10, 11, 12, 13, 4, 14, 15, 16, 17, 18, 19, 20, 21, 22, 23, 32, 33, 34, 35, 36, 37, 38, 39, 40, 41, 42, 43, 44, 45, 46, 47, 48, 49, 50, 51, 52, 53, 54] (by decide +kernel) (by decide +kernel)
set_option maxRecDepth 20000 in
theorem gX7_number_X7_numberNow : GoodIn wsX7_number (wsV RX7 116 RX7 yX7_numberNow wsX7_numberNow) := goodIn_app (goodIn_of _ (by decide +kernel)) ggX7_number_X7_numberNow
set_option maxRecDepth 20000 in
theorem ggX7_number_X7_mostOf : GoodIn wsX7_number wsX7_mostOf := goodIn_r _ [27, 1, 11, 12, 13, 4, 14, 15, 16, 17, 18, 19, 20, 21, 22, 23, 32, 33, 34, 35, 36, 37, 38, 39, 40, 41, 42, 43, 44, 45, 46, 47, 48, 49, 50, 51, 52, 53, 54] (by decide +kernel) (by decide +kernel)
set_option maxRecDepth 20000 in
theorem gX7_number_X7_mostOf : GoodIn wsX7_number (wsV RX7 120 RX7 yX7_mostOf wsX7_mostOf) := goodIn_app (goodIn_of _ (by decide +kernel)) ggX7_number_X7_mostOf
set_option maxRecDepth 20000 in
theorem ggX7_number_X7_allPushed : GoodIn wsX7_number wsX7_allPushed := goodIn_r _ [31, 1, 10, 32, 33, 34, 35, 36, 37, 38, 39, 40, 41, 42, 43, 44, 45, 46, 47, 48, 49, 50, 51, 52, 53, 54] (by decide +kernel) (by decide +kernel)
set_option maxRecDepth 20000 in
theorem gX7_number_X7_allPushed : GoodIn wsX7_number (wsV RX7 123 RX7 yX7_allPushed wsX7_allPushed) := goodIn_app (goodIn_of _ (by decide +kernel)) ggX7_number_X7_allPushed
theorem dX7_number_0 : decode cX7_number 0 = .ok (.iload_n 1, 1) := by decide +kernel
theorem dX7_number_1 : decode cX7_number 1 = .ok (.iconst 0, 1) := by decide +kernel
theorem dX7_number_2 : decode cX7_number 2 = .ok (.iconst 2, 1) := by decide +kernel
theorem dX7_number_3 : decode cX7_number 3 = .ok (.invokestatic 58, 3) := by decide +kernel
theorem dX7_number_6 : decode cX7_number 6 = .ok (.ifCond .ne 6, 3) := by decide +kernel
theorem dX7_number_9 : decode cX7_number 9 = .ok (.bipush (-2), 2) := by decide +kernel
theorem dX7_number_11 : decode cX7_number 11 = .ok (.ireturn, 1) := by decide +kernel
theorem dX7_number_12 : decode cX7_number 12 = .ok (.aload_n 0, 1) := by decide +kernel
theorem dX7_number_13 : decode cX7_number 13 = .ok (.getfield 62, 3) := by decide +kernel
theorem dX7_number_16 : decode cX7_number 16 = .ok (.ifCond .ne 6, 3) := by decide +kernel
theorem dX7_number_19 : decode cX7_number 19 = .ok (.bipush (-3), 2) := by decide +kernel
theorem dX7_number_21 : decode cX7_number 21 = .ok (.ireturn, 1) := by decide +kernel
theorem dX7_number_22 : decode cX7_number 22 = .ok (.iload_n 1, 1) := by decide +kernel
theorem dX7_number_23 : decode cX7_number 23 = .ok (.ifCond .ne 10, 3) := by decide +kernel
theorem dX7_number_26 : decode cX7_number 26 = .ok (.aload_n 0, 1) := by decide +kernel
theorem dX7_number_27 : decode cX7_number 27 = .ok (.invokevirtual 116, 3) := by decide +kernel
theorem dX7_number_30 : decode cX7_number 30 = .ok (.goto 19, 3) := by decide +kernel
theorem dX7_number_33 : decode cX7_number 33 = .ok (.iload_n 1, 1) := by decide +kernel
theorem dX7_number_34 : decode cX7_number 34 = .ok (.iconst 1, 1) := by decide +kernel
theorem dX7_number_35 : decode cX7_number 35 = .ok (.if_icmp .ne 10, 3) := by decide +kernel
theorem dX7_number_38 : decode cX7_number 38 = .ok (.aload_n 0, 1) := by decide +kernel
theorem dX7_number_39 : decode cX7_number 39 = .ok (.invokevirtual 120, 3) := by decide +kernel
theorem dX7_number_42 : decode cX7_number 42 = .ok (.goto 7, 3) := by decide +kernel
theorem dX7_number_45 : decode cX7_number 45 = .ok (.aload_n 0, 1) := by decide +kernel
theorem dX7_number_46 : decode cX7_number 46 = .ok (.invokevirtual 123, 3) := by decide +kernel
theorem dX7_number_49 : decode cX7_number 49 = .ok (.ireturn, 1) := by decide +kernel
set_option maxRecDepth 20000 in
theorem ggX7_figure_X7_isWire : GoodIn wsX7_figure wsX7_isWire := goodIn_r _ [5, 6, 31, 32, 33, 34, 35, 36, 37, 38, 39, 40, 41, 42, 43, 44, 45, 46, 47, 48, 49, 50, 51, 52, 53] (by decide +kernel) (by decide +kernel)
set_option maxRecDepth 20000 in
theorem gX7_figure_X7_isWire : GoodIn wsX7_figure (wsV RX7 113 RX7 yX7_isWire wsX7_isWire) := goodIn_app (goodIn_of _ (by decide +kernel)) ggX7_figure_X7_isWire
set_option maxRecDepth 20000 in
theorem ggX7_figure_X7_mostOf : GoodIn wsX7_figure wsX7_mostOf := goodIn_r _ [10, 6, 11, 12, 13, 4, 14, 15, 16, 17, 18, 19, 20, 21, 22, 23, 31, 32, 33, 34, 35, 36, 37, 38, 39, 40, 41, 42, 43, 44, 45, 46, 47, 48, 49, 50, 51, 52, 53] (by decide +kernel) (by decide +kernel)
set_option maxRecDepth 20000 in
theorem gX7_figure_X7_mostOf : GoodIn wsX7_figure (wsV RX7 120 RX7 yX7_mostOf wsX7_mostOf) := goodIn_app (goodIn_of _ (by decide +kernel)) ggX7_figure_X7_mostOf
set_option maxRecDepth 20000 in
theorem ggX7_figure_X7_within : GoodIn wsX7_figure wsX7_within := goodIn_r _ [26] (by decide +kernel) (by decide +kernel)
set_option maxRecDepth 20000 in
theorem gX7_figure_X7_within : GoodIn wsX7_figure (va_wsS RX7 58 yX7_within wsX7_within) := goodIn_app (goodIn_of _ (by decide +kernel)) ggX7_figure_X7_within
set_option maxRecDepth 20000 in
theorem ggX7_figure_X7_figureOf : GoodIn wsX7_figure wsX7_figureOf := goodIn_r _ [30, 11, 12, 13, 4, 14, 15, 16, 17, 18, 19, 20, 21, 22, 23, 31, 32, 33, 34, 35, 36, 37, 38, 39, 40, 41, 42, 43, 44, 45, 46, 47, 48, 49, 50, 51, 52, 53] (by decide +kernel) (by decide +kernel)
set_option maxRecDepth 20000 in
theorem gX7_figure_X7_figureOf : GoodIn wsX7_figure (wsV RX7 126 RX7 yX7_figureOf wsX7_figureOf) := goodIn_app (goodIn_of _ (by decide +kernel)) ggX7_figure_X7_figureOf
theorem dX7_figure_0 : decode cX7_figure 0 = .ok (.aload_n 0, 1) := by decide +kernel
theorem dX7_figure_1 : decode cX7_figure 1 = .ok (.iload_n 1, 1) := by decide +kernel
theorem dX7_figure_2 : decode cX7_figure 2 = .ok (.invokevirtual 113, 3) := by decide +kernel
theorem dX7_figure_5 : decode cX7_figure 5 = .ok (.ifCond .ne 5, 3) := by decide +kernel
theorem dX7_figure_8 : decode cX7_figure 8 = .ok (.iconst (-1), 1) := by decide +kernel
theorem dX7_figure_9 : decode cX7_figure 9 = .ok (.ireturn, 1) := by decide +kernel
theorem dX7_figure_10 : decode cX7_figure 10 = .ok (.iload_n 2, 1) := by decide +kernel
theorem dX7_figure_11 : decode cX7_figure 11 = .ok (.iconst 0, 1) := by decide +kernel
theorem dX7_figure_12 : decode cX7_figure 12 = .ok (.aload_n 0, 1) := by decide +kernel
theorem dX7_figure_13 : decode cX7_figure 13 = .ok (.invokevirtual 120, 3) := by decide +kernel
theorem dX7_figure_16 : decode cX7_figure 16 = .ok (.invokestatic 58, 3) := by decide +kernel
theorem dX7_figure_19 : decode cX7_figure 19 = .ok (.ifCond .eq 12, 3) := by decide +kernel
theorem dX7_figure_22 : decode cX7_figure 22 = .ok (.aload_n 0, 1) := by decide +kernel
theorem dX7_figure_23 : decode cX7_figure 23 = .ok (.iload_n 1, 1) := by decide +kernel
theorem dX7_figure_24 : decode cX7_figure 24 = .ok (.iload_n 2, 1) := by decide +kernel
theorem dX7_figure_25 : decode cX7_figure 25 = .ok (.invokevirtual 126, 3) := by decide +kernel
theorem dX7_figure_28 : decode cX7_figure 28 = .ok (.goto 5, 3) := by decide +kernel
theorem dX7_figure_31 : decode cX7_figure 31 = .ok (.bipush (-2), 2) := by decide +kernel
theorem dX7_figure_33 : decode cX7_figure 33 = .ok (.ireturn, 1) := by decide +kernel
set_option maxRecDepth 20000 in
theorem ggX7_slide_X7_isWire : GoodIn wsX7_slide wsX7_isWire := goodIn_r _ [6, 7, 20, 21, 22, 23, 24, 25, 26, 27, 28, 29, 30, 31, 32, 33, 34, 35, 36, 37, 38, 39, 40, 41, 42] (by decide +kernel) (by decide +kernel)
set_option maxRecDepth 20000 in
theorem gX7_slide_X7_isWire : GoodIn wsX7_slide (wsV RX7 113 RX7 yX7_isWire wsX7_isWire) := goodIn_app (goodIn_of _ (by decide +kernel)) ggX7_slide_X7_isWire
set_option maxRecDepth 20000 in
theorem ggX7_slide_X7_roomOf : GoodIn wsX7_slide wsX7_roomOf := goodIn_r _ [11, 12, 13, 14, 15, 5, 16, 20, 21, 22, 23, 24, 25, 26, 27, 28, 29, 30, 31, 32, 33, 34, 35, 36, 37, 38, 39, 40, 41, 42] (by decide +kernel) (by decide +kernel)
set_option maxRecDepth 20000 in
theorem gX7_slide_X7_roomOf : GoodIn wsX7_slide (wsV RX7 107 RX7 yX7_roomOf wsX7_roomOf) := goodIn_app (goodIn_of _ (by decide +kernel)) ggX7_slide_X7_roomOf
set_option maxRecDepth 20000 in
theorem ggX7_slide_X7_within : GoodIn wsX7_slide wsX7_within := goodIn_r _ [19] (by decide +kernel) (by decide +kernel)
set_option maxRecDepth 20000 in
theorem gX7_slide_X7_within : GoodIn wsX7_slide (va_wsS RX7 58 yX7_within wsX7_within) := goodIn_app (goodIn_of _ (by decide +kernel)) ggX7_slide_X7_within
theorem dX7_slide_0 : decode cX7_slide 0 = .ok (.aload_n 0, 1) := by decide +kernel
theorem dX7_slide_1 : decode cX7_slide 1 = .ok (.iload_n 1, 1) := by decide +kernel
theorem dX7_slide_2 : decode cX7_slide 2 = .ok (.invokevirtual 113, 3) := by decide +kernel
theorem dX7_slide_5 : decode cX7_slide 5 = .ok (.ifCond .ne 5, 3) := by decide +kernel
theorem dX7_slide_8 : decode cX7_slide 8 = .ok (.iconst (-1), 1) := by decide +kernel
theorem dX7_slide_9 : decode cX7_slide 9 = .ok (.ireturn, 1) := by decide +kernel
theorem dX7_slide_10 : decode cX7_slide 10 = .ok (.iload_n 2, 1) := by decide +kernel
theorem dX7_slide_11 : decode cX7_slide 11 = .ok (.iconst 0, 1) := by decide +kernel
theorem dX7_slide_12 : decode cX7_slide 12 = .ok (.aload_n 0, 1) := by decide +kernel
theorem dX7_slide_13 : decode cX7_slide 13 = .ok (.iload_n 1, 1) := by decide +kernel
theorem dX7_slide_14 : decode cX7_slide 14 = .ok (.invokevirtual 107, 3) := by decide +kernel
theorem dX7_slide_17 : decode cX7_slide 17 = .ok (.invokestatic 58, 3) := by decide +kernel
theorem dX7_slide_20 : decode cX7_slide 20 = .ok (.ifCond .ne 6, 3) := by decide +kernel
theorem dX7_slide_23 : decode cX7_slide 23 = .ok (.bipush (-2), 2) := by decide +kernel
theorem dX7_slide_25 : decode cX7_slide 25 = .ok (.ireturn, 1) := by decide +kernel
theorem dX7_slide_26 : decode cX7_slide 26 = .ok (.aload_n 0, 1) := by decide +kernel
theorem dX7_slide_27 : decode cX7_slide 27 = .ok (.getfield 25, 3) := by decide +kernel
theorem dX7_slide_30 : decode cX7_slide 30 = .ok (.iload_n 1, 1) := by decide +kernel
theorem dX7_slide_31 : decode cX7_slide 31 = .ok (.iaload, 1) := by decide +kernel
theorem dX7_slide_32 : decode cX7_slide 32 = .ok (.istore_n 3, 1) := by decide +kernel
theorem dX7_slide_33 : decode cX7_slide 33 = .ok (.aload_n 0, 1) := by decide +kernel
theorem dX7_slide_34 : decode cX7_slide 34 = .ok (.getfield 25, 3) := by decide +kernel
theorem dX7_slide_37 : decode cX7_slide 37 = .ok (.iload_n 1, 1) := by decide +kernel
theorem dX7_slide_38 : decode cX7_slide 38 = .ok (.iload_n 2, 1) := by decide +kernel
theorem dX7_slide_39 : decode cX7_slide 39 = .ok (.iastore, 1) := by decide +kernel
theorem dX7_slide_40 : decode cX7_slide 40 = .ok (.iload_n 3, 1) := by decide +kernel
theorem dX7_slide_41 : decode cX7_slide 41 = .ok (.ireturn, 1) := by decide +kernel
theorem dX7_apart_0 : decode cX7_apart 0 = .ok (.iload_n 0, 1) := by decide +kernel
theorem dX7_apart_1 : decode cX7_apart 1 = .ok (.iload_n 1, 1) := by decide +kernel
theorem dX7_apart_2 : decode cX7_apart 2 = .ok (.if_icmp .ge 9, 3) := by decide +kernel
theorem dX7_apart_5 : decode cX7_apart 5 = .ok (.iload_n 1, 1) := by decide +kernel
theorem dX7_apart_6 : decode cX7_apart 6 = .ok (.iload_n 0, 1) := by decide +kernel
theorem dX7_apart_7 : decode cX7_apart 7 = .ok (.isub, 1) := by decide +kernel
theorem dX7_apart_8 : decode cX7_apart 8 = .ok (.goto 6, 3) := by decide +kernel
theorem dX7_apart_11 : decode cX7_apart 11 = .ok (.iload_n 0, 1) := by decide +kernel
theorem dX7_apart_12 : decode cX7_apart 12 = .ok (.iload_n 1, 1) := by decide +kernel
theorem dX7_apart_13 : decode cX7_apart 13 = .ok (.isub, 1) := by decide +kernel
theorem dX7_apart_14 : decode cX7_apart 14 = .ok (.ireturn, 1) := by decide +kernel
set_option maxRecDepth 20000 in
theorem ggX7_slidBetween_X7_figureOf : GoodIn wsX7_slidBetween wsX7_figureOf := goodIn_r _ [6, 7, 8, 9, 5, 10, 11, 12, 13, 14, 15, 16, 17, 18, 19, 23, 24, 25, 26, 27, 28, 29, 30, 31, 32, 33, 34, 35, 36, 37, 38, 39, 40, 41, 42, 43, 44, 45] (by decide +kernel) (by decide +kernel)
set_option maxRecDepth 20000 in
theorem gX7_slidBetween_X7_figureOf : GoodIn wsX7_slidBetween (wsV RX7 126 RX7 yX7_figureOf wsX7_figureOf) := goodIn_app (goodIn_of _ (by decide +kernel)) ggX7_slidBetween_X7_figureOf
set_option maxRecDepth 20000 in
theorem ggX7_slidBetween_X7_apart : GoodIn wsX7_slidBetween wsX7_apart := goodIn_r _ [22] (by decide +kernel) (by decide +kernel)
set_option maxRecDepth 20000 in
theorem gX7_slidBetween_X7_apart : GoodIn wsX7_slidBetween (va_wsS RX7 129 yX7_apart wsX7_apart) := goodIn_app (goodIn_of _ (by decide +kernel)) ggX7_slidBetween_X7_apart
theorem dX7_slidBetween_0 : decode cX7_slidBetween 0 = .ok (.iconst 0, 1) := by decide +kernel
theorem dX7_slidBetween_1 : decode cX7_slidBetween 1 = .ok (.istore_n 3, 1) := by decide +kernel
theorem dX7_slidBetween_2 : decode cX7_slidBetween 2 = .ok (.iconst 0, 1) := by decide +kernel
theorem dX7_slidBetween_3 : decode cX7_slidBetween 3 = .ok (.istore 4, 2) := by decide +kernel
theorem dX7_slidBetween_5 : decode cX7_slidBetween 5 = .ok (.iload 4, 2) := by decide +kernel
theorem dX7_slidBetween_7 : decode cX7_slidBetween 7 = .ok (.aload_n 0, 1) := by decide +kernel
theorem dX7_slidBetween_8 : decode cX7_slidBetween 8 = .ok (.getfield 62, 3) := by decide +kernel
theorem dX7_slidBetween_11 : decode cX7_slidBetween 11 = .ok (.if_icmp .ge 29, 3) := by decide +kernel
theorem dX7_slidBetween_14 : decode cX7_slidBetween 14 = .ok (.iload_n 3, 1) := by decide +kernel
theorem dX7_slidBetween_15 : decode cX7_slidBetween 15 = .ok (.aload_n 0, 1) := by decide +kernel
theorem dX7_slidBetween_16 : decode cX7_slidBetween 16 = .ok (.iload 4, 2) := by decide +kernel
theorem dX7_slidBetween_18 : decode cX7_slidBetween 18 = .ok (.iload_n 1, 1) := by decide +kernel
theorem dX7_slidBetween_19 : decode cX7_slidBetween 19 = .ok (.invokevirtual 126, 3) := by decide +kernel
theorem dX7_slidBetween_22 : decode cX7_slidBetween 22 = .ok (.aload_n 0, 1) := by decide +kernel
theorem dX7_slidBetween_23 : decode cX7_slidBetween 23 = .ok (.iload 4, 2) := by decide +kernel
theorem dX7_slidBetween_25 : decode cX7_slidBetween 25 = .ok (.iload_n 2, 1) := by decide +kernel
theorem dX7_slidBetween_26 : decode cX7_slidBetween 26 = .ok (.invokevirtual 126, 3) := by decide +kernel
theorem dX7_slidBetween_29 : decode cX7_slidBetween 29 = .ok (.invokestatic 129, 3) := by decide +kernel
theorem dX7_slidBetween_32 : decode cX7_slidBetween 32 = .ok (.iadd, 1) := by decide +kernel
theorem dX7_slidBetween_33 : decode cX7_slidBetween 33 = .ok (.istore_n 3, 1) := by decide +kernel
theorem dX7_slidBetween_34 : decode cX7_slidBetween 34 = .ok (.iinc 4 1, 3) := by decide +kernel
theorem dX7_slidBetween_37 : decode cX7_slidBetween 37 = .ok (.goto (-32), 3) := by decide +kernel
theorem dX7_slidBetween_40 : decode cX7_slidBetween 40 = .ok (.iload_n 3, 1) := by decide +kernel
theorem dX7_slidBetween_41 : decode cX7_slidBetween 41 = .ok (.ireturn, 1) := by decide +kernel
set_option maxRecDepth 20000 in
theorem ggX7_carriedBy_X7_figureOf : GoodIn wsX7_carriedBy wsX7_figureOf := goodIn_r _ [6, 7, 8, 9, 5, 10, 11, 12, 13, 14, 15, 16, 17, 18, 19, 20, 21, 22, 23, 24, 25, 26, 27, 28, 29, 30, 31, 32, 33, 34, 35, 36, 37, 38, 39, 40, 41, 42] (by decide +kernel) (by decide +kernel)
set_option maxRecDepth 20000 in
theorem gX7_carriedBy_X7_figureOf : GoodIn wsX7_carriedBy (wsV RX7 126 RX7 yX7_figureOf wsX7_figureOf) := goodIn_app (goodIn_of _ (by decide +kernel)) ggX7_carriedBy_X7_figureOf
set_option maxRecDepth 20000 in
theorem ggX7_carriedBy_X7_roomOf : GoodIn wsX7_carriedBy wsX7_roomOf := goodIn_r _ [14, 15, 16, 17, 18, 5, 19, 20, 21, 22, 23, 24, 25, 26, 27, 28, 29, 30, 31, 32, 33, 34, 35, 36, 37, 38, 39, 40, 41, 42] (by decide +kernel) (by decide +kernel)
set_option maxRecDepth 20000 in
theorem gX7_carriedBy_X7_roomOf : GoodIn wsX7_carriedBy (wsV RX7 107 RX7 yX7_roomOf wsX7_roomOf) := goodIn_app (goodIn_of _ (by decide +kernel)) ggX7_carriedBy_X7_roomOf
theorem dX7_carriedBy_0 : decode cX7_carriedBy 0 = .ok (.iconst 0, 1) := by decide +kernel
theorem dX7_carriedBy_1 : decode cX7_carriedBy 1 = .ok (.istore_n 3, 1) := by decide +kernel
theorem dX7_carriedBy_2 : decode cX7_carriedBy 2 = .ok (.iconst 0, 1) := by decide +kernel
theorem dX7_carriedBy_3 : decode cX7_carriedBy 3 = .ok (.istore 4, 2) := by decide +kernel
theorem dX7_carriedBy_5 : decode cX7_carriedBy 5 = .ok (.iconst 0, 1) := by decide +kernel
theorem dX7_carriedBy_6 : decode cX7_carriedBy 6 = .ok (.istore 5, 2) := by decide +kernel
theorem dX7_carriedBy_8 : decode cX7_carriedBy 8 = .ok (.iload 5, 2) := by decide +kernel
theorem dX7_carriedBy_10 : decode cX7_carriedBy 10 = .ok (.aload_n 0, 1) := by decide +kernel
theorem dX7_carriedBy_11 : decode cX7_carriedBy 11 = .ok (.getfield 62, 3) := by decide +kernel
theorem dX7_carriedBy_14 : decode cX7_carriedBy 14 = .ok (.if_icmp .ge 48, 3) := by decide +kernel
theorem dX7_carriedBy_17 : decode cX7_carriedBy 17 = .ok (.aload_n 0, 1) := by decide +kernel
theorem dX7_carriedBy_18 : decode cX7_carriedBy 18 = .ok (.iload 5, 2) := by decide +kernel
theorem dX7_carriedBy_20 : decode cX7_carriedBy 20 = .ok (.iload_n 1, 1) := by decide +kernel
theorem dX7_carriedBy_21 : decode cX7_carriedBy 21 = .ok (.invokevirtual 126, 3) := by decide +kernel
theorem dX7_carriedBy_24 : decode cX7_carriedBy 24 = .ok (.aload_n 0, 1) := by decide +kernel
theorem dX7_carriedBy_25 : decode cX7_carriedBy 25 = .ok (.iload 5, 2) := by decide +kernel
theorem dX7_carriedBy_27 : decode cX7_carriedBy 27 = .ok (.iload_n 2, 1) := by decide +kernel
theorem dX7_carriedBy_28 : decode cX7_carriedBy 28 = .ok (.invokevirtual 126, 3) := by decide +kernel
theorem dX7_carriedBy_31 : decode cX7_carriedBy 31 = .ok (.iadd, 1) := by decide +kernel
theorem dX7_carriedBy_32 : decode cX7_carriedBy 32 = .ok (.iload 4, 2) := by decide +kernel
theorem dX7_carriedBy_34 : decode cX7_carriedBy 34 = .ok (.iadd, 1) := by decide +kernel
theorem dX7_carriedBy_35 : decode cX7_carriedBy 35 = .ok (.aload_n 0, 1) := by decide +kernel
theorem dX7_carriedBy_36 : decode cX7_carriedBy 36 = .ok (.iload 5, 2) := by decide +kernel
theorem dX7_carriedBy_38 : decode cX7_carriedBy 38 = .ok (.invokevirtual 107, 3) := by decide +kernel
theorem dX7_carriedBy_41 : decode cX7_carriedBy 41 = .ok (.if_icmp .le 7, 3) := by decide +kernel
theorem dX7_carriedBy_44 : decode cX7_carriedBy 44 = .ok (.iconst 1, 1) := by decide +kernel
theorem dX7_carriedBy_45 : decode cX7_carriedBy 45 = .ok (.goto 4, 3) := by decide +kernel
theorem dX7_carriedBy_48 : decode cX7_carriedBy 48 = .ok (.iconst 0, 1) := by decide +kernel
theorem dX7_carriedBy_49 : decode cX7_carriedBy 49 = .ok (.istore 4, 2) := by decide +kernel
theorem dX7_carriedBy_51 : decode cX7_carriedBy 51 = .ok (.iload_n 3, 1) := by decide +kernel
theorem dX7_carriedBy_52 : decode cX7_carriedBy 52 = .ok (.iload 4, 2) := by decide +kernel
theorem dX7_carriedBy_54 : decode cX7_carriedBy 54 = .ok (.iadd, 1) := by decide +kernel
theorem dX7_carriedBy_55 : decode cX7_carriedBy 55 = .ok (.istore_n 3, 1) := by decide +kernel
theorem dX7_carriedBy_56 : decode cX7_carriedBy 56 = .ok (.iinc 5 1, 3) := by decide +kernel
theorem dX7_carriedBy_59 : decode cX7_carriedBy 59 = .ok (.goto (-51), 3) := by decide +kernel
theorem dX7_carriedBy_62 : decode cX7_carriedBy 62 = .ok (.iload_n 3, 1) := by decide +kernel
theorem dX7_carriedBy_63 : decode cX7_carriedBy 63 = .ok (.ireturn, 1) := by decide +kernel
set_option maxRecDepth 20000 in
theorem ggX7_become_X7_figureOf : GoodIn wsX7_become wsX7_figureOf := goodIn_r _ [7, 8, 9, 10, 6, 11, 12, 13, 14, 15, 16, 17, 18, 19, 20, 21, 22, 23, 24, 25, 26, 27, 28, 29, 30, 31, 32, 33, 34, 35, 36, 37, 38, 39, 40, 41, 42, 43] (by decide +kernel) (by decide +kernel)
set_option maxRecDepth 20000 in
theorem gX7_become_X7_figureOf : GoodIn wsX7_become (wsV RX7 126 RX7 yX7_figureOf wsX7_figureOf) := goodIn_app (goodIn_of _ (by decide +kernel)) ggX7_become_X7_figureOf
theorem dX7_become_0 : decode cX7_become 0 = .ok (.iconst 0, 1) := by decide +kernel
theorem dX7_become_1 : decode cX7_become 1 = .ok (.istore_n 2, 1) := by decide +kernel
theorem dX7_become_2 : decode cX7_become 2 = .ok (.iload_n 2, 1) := by decide +kernel
theorem dX7_become_3 : decode cX7_become 3 = .ok (.aload_n 0, 1) := by decide +kernel
theorem dX7_become_4 : decode cX7_become 4 = .ok (.getfield 62, 3) := by decide +kernel
theorem dX7_become_7 : decode cX7_become 7 = .ok (.if_icmp .ge 21, 3) := by decide +kernel
theorem dX7_become_10 : decode cX7_become 10 = .ok (.aload_n 0, 1) := by decide +kernel
theorem dX7_become_11 : decode cX7_become 11 = .ok (.getfield 25, 3) := by decide +kernel
theorem dX7_become_14 : decode cX7_become 14 = .ok (.iload_n 2, 1) := by decide +kernel
theorem dX7_become_15 : decode cX7_become 15 = .ok (.aload_n 0, 1) := by decide +kernel
theorem dX7_become_16 : decode cX7_become 16 = .ok (.iload_n 2, 1) := by decide +kernel
theorem dX7_become_17 : decode cX7_become 17 = .ok (.iload_n 1, 1) := by decide +kernel
theorem dX7_become_18 : decode cX7_become 18 = .ok (.invokevirtual 126, 3) := by decide +kernel
theorem dX7_become_21 : decode cX7_become 21 = .ok (.iastore, 1) := by decide +kernel
theorem dX7_become_22 : decode cX7_become 22 = .ok (.iinc 2 1, 3) := by decide +kernel
theorem dX7_become_25 : decode cX7_become 25 = .ok (.goto (-23), 3) := by decide +kernel
theorem dX7_become_28 : decode cX7_become 28 = .ok (.return_, 1) := by decide +kernel
set_option maxRecDepth 20000 in
theorem ggX7_canAdd_X7_mostOf : GoodIn wsX7_canAdd wsX7_mostOf := goodIn_r _ [5, 6, 7, 8, 9, 4, 10, 11, 12, 13, 14, 15, 16, 17, 18, 19, 25, 26, 27, 28, 29, 30, 31, 32, 33, 34, 35, 36, 37, 38, 39, 40, 41, 42, 43, 44, 45, 46, 47] (by decide +kernel) (by decide +kernel)
set_option maxRecDepth 20000 in
theorem gX7_canAdd_X7_mostOf : GoodIn wsX7_canAdd (wsV RX7 120 RX7 yX7_mostOf wsX7_mostOf) := goodIn_app (goodIn_of _ (by decide +kernel)) ggX7_canAdd_X7_mostOf
set_option maxRecDepth 20000 in
theorem ggX7_canAdd_X7_numberNow : GoodIn wsX7_canAdd wsX7_numberNow := goodIn_r _ [23, 6, 24, 7, 8, 9, 4, 10, 11, 12, 13, 14, 15, 16, 17, 18, 19, 25, 26, 27, 28, 29, 30, 31, 32, 33, 34, 35, 36, 37, 38, 39, 40, 41, 42, 43, 44, 45, 46, 47] (by decide +kernel) (by decide +kernel)
set_option maxRecDepth 20000 in
theorem gX7_canAdd_X7_numberNow : GoodIn wsX7_canAdd (wsV RX7 116 RX7 yX7_numberNow wsX7_numberNow) := goodIn_app (goodIn_of _ (by decide +kernel)) ggX7_canAdd_X7_numberNow
theorem dX7_canAdd_0 : decode cX7_canAdd 0 = .ok (.iload_n 1, 1) := by decide +kernel
theorem dX7_canAdd_1 : decode cX7_canAdd 1 = .ok (.aload_n 0, 1) := by decide +kernel
theorem dX7_canAdd_2 : decode cX7_canAdd 2 = .ok (.invokevirtual 120, 3) := by decide +kernel
theorem dX7_canAdd_5 : decode cX7_canAdd 5 = .ok (.aload_n 0, 1) := by decide +kernel
theorem dX7_canAdd_6 : decode cX7_canAdd 6 = .ok (.invokevirtual 116, 3) := by decide +kernel
theorem dX7_canAdd_9 : decode cX7_canAdd 9 = .ok (.isub, 1) := by decide +kernel
theorem dX7_canAdd_10 : decode cX7_canAdd 10 = .ok (.if_icmp .gt 7, 3) := by decide +kernel
theorem dX7_canAdd_13 : decode cX7_canAdd 13 = .ok (.iconst 1, 1) := by decide +kernel
theorem dX7_canAdd_14 : decode cX7_canAdd 14 = .ok (.goto 4, 3) := by decide +kernel
theorem dX7_canAdd_17 : decode cX7_canAdd 17 = .ok (.iconst 0, 1) := by decide +kernel
theorem dX7_canAdd_18 : decode cX7_canAdd 18 = .ok (.ireturn, 1) := by decide +kernel
set_option maxRecDepth 20000 in
theorem ggX7_add_X7_canAdd : GoodIn wsX7_add wsX7_canAdd := goodIn_r _ [6, 7, 8, 9, 5, 10, 1, 11, 12, 13, 14, 15, 16, 17, 18, 19, 20, 21, 22, 23, 24, 25, 26, 27, 28, 44, 45, 46, 47, 48, 49, 50, 51, 52, 53, 54, 55, 56, 57, 58, 59, 60, 61, 62, 63, 64, 65, 66] (by decide +kernel) (by decide +kernel)
set_option maxRecDepth 20000 in
theorem gX7_add_X7_canAdd : GoodIn wsX7_add (wsV RX7 132 RX7 yX7_canAdd wsX7_canAdd) := goodIn_app (goodIn_of _ (by decide +kernel)) ggX7_add_X7_canAdd
set_option maxRecDepth 20000 in
theorem ggX7_add_X7_numberNow : GoodIn wsX7_add wsX7_numberNow := goodIn_r _ [27, 1, 28, 11, 12, 13, 5, 14, 15, 16, 17, 18, 19, 20, 21, 22, 23, 44, 45, 46, 47, 48, 49, 50, 51, 52, 53, 54, 55, 56, 57, 58, 59, 60, 61, 62, 63, 64, 65, 66] (by decide +kernel) (by decide +kernel)
set_option maxRecDepth 20000 in
theorem gX7_add_X7_numberNow : GoodIn wsX7_add (wsV RX7 116 RX7 yX7_numberNow wsX7_numberNow) := goodIn_app (goodIn_of _ (by decide +kernel)) ggX7_add_X7_numberNow
set_option maxRecDepth 20000 in
theorem ggX7_add_X7_become : GoodIn wsX7_add wsX7_become := goodIn_r _ [32, 1, 28, 33, 34, 35, 5, 36, 11, 12, 13, 14, 15, 16, 17, 18, 19, 20, 21, 22, 23, 44, 45, 46, 47, 48, 49, 50, 51, 52, 53, 54, 55, 56, 57, 58, 59, 60, 61, 62, 63, 64, 65, 66] (by decide +kernel) (by decide +kernel)
set_option maxRecDepth 20000 in
theorem gX7_add_X7_become : GoodIn wsX7_add (wsV RX7 135 RX7 yX7_become wsX7_become) := goodIn_app (goodIn_of _ (by decide +kernel)) ggX7_add_X7_become
set_option maxRecDepth 20000 in
theorem ggX7_add_X7_slidBetween : GoodIn wsX7_add wsX7_slidBetween := goodIn_r _ [40, 1, 33, 34, 35, 5, 36, 11, 12, 13, 14, 15, 16, 17, 18, 19, 20, 21, 22, 23, 41, 42, 43, 44, 45, 46, 47, 48, 49, 50, 51, 52, 53, 54, 55, 56, 57, 58, 59, 60, 61, 62, 63, 64, 65, 66] (by decide +kernel) (by decide +kernel)
set_option maxRecDepth 20000 in
theorem gX7_add_X7_slidBetween : GoodIn wsX7_add (wsV RX7 139 RX7 yX7_slidBetween wsX7_slidBetween) := goodIn_app (goodIn_of _ (by decide +kernel)) ggX7_add_X7_slidBetween
theorem dX7_add_0 : decode cX7_add 0 = .ok (.iload_n 1, 1) := by decide +kernel
theorem dX7_add_1 : decode cX7_add 1 = .ok (.ifCond .ge 6, 3) := by decide +kernel
theorem dX7_add_4 : decode cX7_add 4 = .ok (.bipush (-2), 2) := by decide +kernel
theorem dX7_add_6 : decode cX7_add 6 = .ok (.ireturn, 1) := by decide +kernel
theorem dX7_add_7 : decode cX7_add 7 = .ok (.aload_n 0, 1) := by decide +kernel
theorem dX7_add_8 : decode cX7_add 8 = .ok (.getfield 62, 3) := by decide +kernel
theorem dX7_add_11 : decode cX7_add 11 = .ok (.ifCond .eq 11, 3) := by decide +kernel
theorem dX7_add_14 : decode cX7_add 14 = .ok (.aload_n 0, 1) := by decide +kernel
theorem dX7_add_15 : decode cX7_add 15 = .ok (.iload_n 1, 1) := by decide +kernel
theorem dX7_add_16 : decode cX7_add 16 = .ok (.invokevirtual 132, 3) := by decide +kernel
theorem dX7_add_19 : decode cX7_add 19 = .ok (.ifCond .ne 6, 3) := by decide +kernel
theorem dX7_add_22 : decode cX7_add 22 = .ok (.bipush (-3), 2) := by decide +kernel
theorem dX7_add_24 : decode cX7_add 24 = .ok (.ireturn, 1) := by decide +kernel
theorem dX7_add_25 : decode cX7_add 25 = .ok (.aload_n 0, 1) := by decide +kernel
theorem dX7_add_26 : decode cX7_add 26 = .ok (.invokevirtual 116, 3) := by decide +kernel
theorem dX7_add_29 : decode cX7_add 29 = .ok (.istore_n 2, 1) := by decide +kernel
theorem dX7_add_30 : decode cX7_add 30 = .ok (.aload_n 0, 1) := by decide +kernel
theorem dX7_add_31 : decode cX7_add 31 = .ok (.iload_n 2, 1) := by decide +kernel
theorem dX7_add_32 : decode cX7_add 32 = .ok (.iload_n 1, 1) := by decide +kernel
theorem dX7_add_33 : decode cX7_add 33 = .ok (.iadd, 1) := by decide +kernel
theorem dX7_add_34 : decode cX7_add 34 = .ok (.invokevirtual 135, 3) := by decide +kernel
theorem dX7_add_37 : decode cX7_add 37 = .ok (.aload_n 0, 1) := by decide +kernel
theorem dX7_add_38 : decode cX7_add 38 = .ok (.iload_n 2, 1) := by decide +kernel
theorem dX7_add_39 : decode cX7_add 39 = .ok (.iload_n 2, 1) := by decide +kernel
theorem dX7_add_40 : decode cX7_add 40 = .ok (.iload_n 1, 1) := by decide +kernel
theorem dX7_add_41 : decode cX7_add 41 = .ok (.iadd, 1) := by decide +kernel
theorem dX7_add_42 : decode cX7_add 42 = .ok (.invokevirtual 139, 3) := by decide +kernel
theorem dX7_add_45 : decode cX7_add 45 = .ok (.ireturn, 1) := by decide +kernel
set_option maxRecDepth 20000 in
theorem ggX7_take_X7_numberNow : GoodIn wsX7_take wsX7_numberNow := goodIn_r _ [6, 1, 7, 8, 9, 10, 5, 11, 12, 13, 14, 15, 16, 17, 18, 19, 20, 36, 37, 38, 39, 40, 41, 42, 43, 44, 45, 46, 47, 48, 49, 50, 51, 52, 53, 54, 55, 56, 57, 58] (by decide +kernel) (by decide +kernel)
set_option maxRecDepth 20000 in
theorem gX7_take_X7_numberNow : GoodIn wsX7_take (wsV RX7 116 RX7 yX7_numberNow wsX7_numberNow) := goodIn_app (goodIn_of _ (by decide +kernel)) ggX7_take_X7_numberNow
set_option maxRecDepth 20000 in
theorem ggX7_take_X7_become : GoodIn wsX7_take wsX7_become := goodIn_r _ [24, 1, 7, 25, 26, 27, 5, 28, 8, 9, 10, 11, 12, 13, 14, 15, 16, 17, 18, 19, 20, 36, 37, 38, 39, 40, 41, 42, 43, 44, 45, 46, 47, 48, 49, 50, 51, 52, 53, 54, 55, 56, 57, 58] (by decide +kernel) (by decide +kernel)
set_option maxRecDepth 20000 in
theorem gX7_take_X7_become : GoodIn wsX7_take (wsV RX7 135 RX7 yX7_become wsX7_become) := goodIn_app (goodIn_of _ (by decide +kernel)) ggX7_take_X7_become
set_option maxRecDepth 20000 in
theorem ggX7_take_X7_slidBetween : GoodIn wsX7_take wsX7_slidBetween := goodIn_r _ [32, 1, 25, 26, 27, 5, 28, 8, 9, 10, 11, 12, 13, 14, 15, 16, 17, 18, 19, 20, 33, 34, 35, 36, 37, 38, 39, 40, 41, 42, 43, 44, 45, 46, 47, 48, 49, 50, 51, 52, 53, 54, 55, 56, 57, 58] (by decide +kernel) (by decide +kernel)
set_option maxRecDepth 20000 in
theorem gX7_take_X7_slidBetween : GoodIn wsX7_take (wsV RX7 139 RX7 yX7_slidBetween wsX7_slidBetween) := goodIn_app (goodIn_of _ (by decide +kernel)) ggX7_take_X7_slidBetween
theorem dX7_take_0 : decode cX7_take 0 = .ok (.iload_n 1, 1) := by decide +kernel
theorem dX7_take_1 : decode cX7_take 1 = .ok (.ifCond .ge 6, 3) := by decide +kernel
theorem dX7_take_4 : decode cX7_take 4 = .ok (.bipush (-2), 2) := by decide +kernel
theorem dX7_take_6 : decode cX7_take 6 = .ok (.ireturn, 1) := by decide +kernel
theorem dX7_take_7 : decode cX7_take 7 = .ok (.aload_n 0, 1) := by decide +kernel
theorem dX7_take_8 : decode cX7_take 8 = .ok (.invokevirtual 116, 3) := by decide +kernel
theorem dX7_take_11 : decode cX7_take 11 = .ok (.istore_n 2, 1) := by decide +kernel
theorem dX7_take_12 : decode cX7_take 12 = .ok (.aload_n 0, 1) := by decide +kernel
theorem dX7_take_13 : decode cX7_take 13 = .ok (.getfield 62, 3) := by decide +kernel
theorem dX7_take_16 : decode cX7_take 16 = .ok (.ifCond .eq 8, 3) := by decide +kernel
theorem dX7_take_19 : decode cX7_take 19 = .ok (.iload_n 1, 1) := by decide +kernel
theorem dX7_take_20 : decode cX7_take 20 = .ok (.iload_n 2, 1) := by decide +kernel
theorem dX7_take_21 : decode cX7_take 21 = .ok (.if_icmp .le 6, 3) := by decide +kernel
theorem dX7_take_24 : decode cX7_take 24 = .ok (.bipush (-3), 2) := by decide +kernel
theorem dX7_take_26 : decode cX7_take 26 = .ok (.ireturn, 1) := by decide +kernel
theorem dX7_take_27 : decode cX7_take 27 = .ok (.aload_n 0, 1) := by decide +kernel
theorem dX7_take_28 : decode cX7_take 28 = .ok (.iload_n 2, 1) := by decide +kernel
theorem dX7_take_29 : decode cX7_take 29 = .ok (.iload_n 1, 1) := by decide +kernel
theorem dX7_take_30 : decode cX7_take 30 = .ok (.isub, 1) := by decide +kernel
theorem dX7_take_31 : decode cX7_take 31 = .ok (.invokevirtual 135, 3) := by decide +kernel
theorem dX7_take_34 : decode cX7_take 34 = .ok (.aload_n 0, 1) := by decide +kernel
theorem dX7_take_35 : decode cX7_take 35 = .ok (.iload_n 2, 1) := by decide +kernel
theorem dX7_take_36 : decode cX7_take 36 = .ok (.iload_n 2, 1) := by decide +kernel
theorem dX7_take_37 : decode cX7_take 37 = .ok (.iload_n 1, 1) := by decide +kernel
theorem dX7_take_38 : decode cX7_take 38 = .ok (.isub, 1) := by decide +kernel
theorem dX7_take_39 : decode cX7_take 39 = .ok (.invokevirtual 139, 3) := by decide +kernel
theorem dX7_take_42 : decode cX7_take 42 = .ok (.ireturn, 1) := by decide +kernel
set_option maxRecDepth 20000 in
theorem ggX7_work_X7_within : GoodIn wsX7_work wsX7_within := goodIn_r _ [5] (by decide +kernel) (by decide +kernel)
set_option maxRecDepth 20000 in
theorem gX7_work_X7_within : GoodIn wsX7_work (va_wsS RX7 58 yX7_within wsX7_within) := goodIn_app (goodIn_of _ (by decide +kernel)) ggX7_work_X7_within
set_option maxRecDepth 20000 in
theorem ggX7_work_X7_canAdd : GoodIn wsX7_work wsX7_canAdd := goodIn_r _ [9, 10, 11, 12, 4, 13, 1, 14, 15, 16, 17, 18, 19, 20, 21, 22, 23, 24, 25, 26, 27, 28, 29, 30, 31, 47, 48, 49, 50, 51, 52, 53, 54, 55, 56, 57, 58, 59, 60, 61, 62, 63, 64, 65, 66, 67, 68, 69] (by decide +kernel) (by decide +kernel)
set_option maxRecDepth 20000 in
theorem gX7_work_X7_canAdd : GoodIn wsX7_work (wsV RX7 132 RX7 yX7_canAdd wsX7_canAdd) := goodIn_app (goodIn_of _ (by decide +kernel)) ggX7_work_X7_canAdd
set_option maxRecDepth 20000 in
theorem ggX7_work_X7_numberNow : GoodIn wsX7_work wsX7_numberNow := goodIn_r _ [30, 1, 31, 14, 15, 16, 4, 17, 18, 19, 20, 21, 22, 23, 24, 25, 26, 47, 48, 49, 50, 51, 52, 53, 54, 55, 56, 57, 58, 59, 60, 61, 62, 63, 64, 65, 66, 67, 68, 69] (by decide +kernel) (by decide +kernel)
set_option maxRecDepth 20000 in
theorem gX7_work_X7_numberNow : GoodIn wsX7_work (wsV RX7 116 RX7 yX7_numberNow wsX7_numberNow) := goodIn_app (goodIn_of _ (by decide +kernel)) ggX7_work_X7_numberNow
set_option maxRecDepth 20000 in
theorem ggX7_work_X7_slidBetween : GoodIn wsX7_work wsX7_slidBetween := goodIn_r _ [35, 1, 36, 37, 38, 4, 39, 14, 15, 16, 17, 18, 19, 20, 21, 22, 23, 24, 25, 26, 40, 41, 42, 47, 48, 49, 50, 51, 52, 53, 54, 55, 56, 57, 58, 59, 60, 61, 62, 63, 64, 65, 66, 67, 68, 69] (by decide +kernel) (by decide +kernel)
set_option maxRecDepth 20000 in
theorem gX7_work_X7_slidBetween : GoodIn wsX7_work (wsV RX7 139 RX7 yX7_slidBetween wsX7_slidBetween) := goodIn_app (goodIn_of _ (by decide +kernel)) ggX7_work_X7_slidBetween
set_option maxRecDepth 20000 in
theorem ggX7_work_X7_carriedBy : GoodIn wsX7_work wsX7_carriedBy := goodIn_r _ [46, 1, 36, 37, 38, 4, 39, 14, 15, 16, 17, 18, 19, 20, 21, 22, 23, 24, 25, 26, 47, 48, 49, 50, 51, 52, 53, 54, 55, 56, 57, 58, 59, 60, 61, 62, 63, 64, 65, 66, 67, 68, 69] (by decide +kernel) (by decide +kernel)
set_option maxRecDepth 20000 in
theorem gX7_work_X7_carriedBy : GoodIn wsX7_work (wsV RX7 142 RX7 yX7_carriedBy wsX7_carriedBy) := goodIn_app (goodIn_of _ (by decide +kernel)) ggX7_work_X7_carriedBy
theorem dX7_work_0 : decode cX7_work 0 = .ok (.iload_n 1, 1) := by decide +kernel
theorem dX7_work_1 : decode cX7_work 1 = .ok (.ifCond .lt 12, 3) := by decide +kernel
theorem dX7_work_4 : decode cX7_work 4 = .ok (.iload_n 2, 1) := by decide +kernel
theorem dX7_work_5 : decode cX7_work 5 = .ok (.iconst 0, 1) := by decide +kernel
theorem dX7_work_6 : decode cX7_work 6 = .ok (.iconst 1, 1) := by decide +kernel
theorem dX7_work_7 : decode cX7_work 7 = .ok (.invokestatic 58, 3) := by decide +kernel
theorem dX7_work_10 : decode cX7_work 10 = .ok (.ifCond .ne 6, 3) := by decide +kernel
theorem dX7_work_13 : decode cX7_work 13 = .ok (.bipush (-2), 2) := by decide +kernel
theorem dX7_work_15 : decode cX7_work 15 = .ok (.ireturn, 1) := by decide +kernel
theorem dX7_work_16 : decode cX7_work 16 = .ok (.aload_n 0, 1) := by decide +kernel
theorem dX7_work_17 : decode cX7_work 17 = .ok (.getfield 62, 3) := by decide +kernel
theorem dX7_work_20 : decode cX7_work 20 = .ok (.ifCond .eq 11, 3) := by decide +kernel
theorem dX7_work_23 : decode cX7_work 23 = .ok (.aload_n 0, 1) := by decide +kernel
theorem dX7_work_24 : decode cX7_work 24 = .ok (.iload_n 1, 1) := by decide +kernel
theorem dX7_work_25 : decode cX7_work 25 = .ok (.invokevirtual 132, 3) := by decide +kernel
theorem dX7_work_28 : decode cX7_work 28 = .ok (.ifCond .ne 6, 3) := by decide +kernel
theorem dX7_work_31 : decode cX7_work 31 = .ok (.bipush (-3), 2) := by decide +kernel
theorem dX7_work_33 : decode cX7_work 33 = .ok (.ireturn, 1) := by decide +kernel
theorem dX7_work_34 : decode cX7_work 34 = .ok (.aload_n 0, 1) := by decide +kernel
theorem dX7_work_35 : decode cX7_work 35 = .ok (.invokevirtual 116, 3) := by decide +kernel
theorem dX7_work_38 : decode cX7_work 38 = .ok (.istore_n 3, 1) := by decide +kernel
theorem dX7_work_39 : decode cX7_work 39 = .ok (.iload_n 2, 1) := by decide +kernel
theorem dX7_work_40 : decode cX7_work 40 = .ok (.ifCond .ne 14, 3) := by decide +kernel
theorem dX7_work_43 : decode cX7_work 43 = .ok (.aload_n 0, 1) := by decide +kernel
theorem dX7_work_44 : decode cX7_work 44 = .ok (.iload_n 3, 1) := by decide +kernel
theorem dX7_work_45 : decode cX7_work 45 = .ok (.iload_n 3, 1) := by decide +kernel
theorem dX7_work_46 : decode cX7_work 46 = .ok (.iload_n 1, 1) := by decide +kernel
theorem dX7_work_47 : decode cX7_work 47 = .ok (.iadd, 1) := by decide +kernel
theorem dX7_work_48 : decode cX7_work 48 = .ok (.invokevirtual 139, 3) := by decide +kernel
theorem dX7_work_51 : decode cX7_work 51 = .ok (.goto 9, 3) := by decide +kernel
theorem dX7_work_54 : decode cX7_work 54 = .ok (.aload_n 0, 1) := by decide +kernel
theorem dX7_work_55 : decode cX7_work 55 = .ok (.iload_n 3, 1) := by decide +kernel
theorem dX7_work_56 : decode cX7_work 56 = .ok (.iload_n 1, 1) := by decide +kernel
theorem dX7_work_57 : decode cX7_work 57 = .ok (.invokevirtual 142, 3) := by decide +kernel
theorem dX7_work_60 : decode cX7_work 60 = .ok (.ireturn, 1) := by decide +kernel
set_option maxRecDepth 20000 in
theorem ggX7_does_X7_numberNow : GoodIn wsX7_does wsX7_numberNow := goodIn_r _ [8, 9, 2, 10, 11, 12, 7, 13, 14, 15, 16, 17, 18, 19, 20, 21, 22, 50, 51, 52, 53, 54, 55, 56, 57, 58, 59, 60, 61, 62, 63, 64, 65, 66, 67, 68, 69, 70, 71, 72] (by decide +kernel) (by decide +kernel)
set_option maxRecDepth 20000 in
theorem gX7_does_X7_numberNow : GoodIn wsX7_does (wsV RX7 116 RX7 yX7_numberNow wsX7_numberNow) := goodIn_app (goodIn_of _ (by decide +kernel)) ggX7_does_X7_numberNow
set_option maxRecDepth 20000 in
theorem ggX7_does_X7_roomOf : GoodIn wsX7_does wsX7_roomOf := goodIn_r _ [17, 18, 19, 20, 21, 7, 22, 50, 51, 52, 53, 54, 55, 56, 57, 58, 59, 60, 61, 62, 63, 64, 65, 66, 67, 68, 69, 70, 71, 72] (by decide +kernel) (by decide +kernel)
set_option maxRecDepth 20000 in
theorem gX7_does_X7_roomOf : GoodIn wsX7_does (wsV RX7 107 RX7 yX7_roomOf wsX7_roomOf) := goodIn_app (goodIn_of _ (by decide +kernel)) ggX7_does_X7_roomOf
set_option maxRecDepth 20000 in
theorem ggX7_does_X7_apart : GoodIn wsX7_does wsX7_apart := goodIn_r _ [25] (by decide +kernel) (by decide +kernel)
set_option maxRecDepth 20000 in
theorem gX7_does_X7_apart : GoodIn wsX7_does (va_wsS RX7 129 yX7_apart wsX7_apart) := goodIn_app (goodIn_of _ (by decide +kernel)) ggX7_does_X7_apart
set_option maxRecDepth 20000 in
theorem ggX7_does_X7_canAdd : GoodIn wsX7_does wsX7_canAdd := goodIn_r _ [29, 30, 31, 32, 7, 33, 9, 10, 11, 12, 13, 14, 15, 16, 17, 18, 19, 20, 21, 22, 4, 5, 6, 8, 2, 50, 51, 52, 53, 54, 55, 56, 57, 58, 59, 60, 61, 62, 63, 64, 65, 66, 67, 68, 69, 70, 71, 72] (by decide +kernel) (by decide +kernel)
set_option maxRecDepth 20000 in
theorem gX7_does_X7_canAdd : GoodIn wsX7_does (wsV RX7 132 RX7 yX7_canAdd wsX7_canAdd) := goodIn_app (goodIn_of _ (by decide +kernel)) ggX7_does_X7_canAdd
set_option maxRecDepth 20000 in
theorem ggX7_does_X7_slidBetween : GoodIn wsX7_does wsX7_slidBetween := goodIn_r _ [37, 9, 38, 39, 40, 7, 41, 10, 11, 12, 13, 14, 15, 16, 17, 18, 19, 20, 21, 22, 23, 24, 25, 50, 51, 52, 53, 54, 55, 56, 57, 58, 59, 60, 61, 62, 63, 64, 65, 66, 67, 68, 69, 70, 71, 72] (by decide +kernel) (by decide +kernel)
set_option maxRecDepth 20000 in
theorem gX7_does_X7_slidBetween : GoodIn wsX7_does (wsV RX7 139 RX7 yX7_slidBetween wsX7_slidBetween) := goodIn_app (goodIn_of _ (by decide +kernel)) ggX7_does_X7_slidBetween
set_option maxRecDepth 20000 in
theorem ggX7_does_X7_carriedBy : GoodIn wsX7_does wsX7_carriedBy := goodIn_r _ [45, 9, 38, 39, 40, 7, 41, 10, 11, 12, 13, 14, 15, 16, 17, 18, 19, 20, 21, 22, 50, 51, 52, 53, 54, 55, 56, 57, 58, 59, 60, 61, 62, 63, 64, 65, 66, 67, 68, 69, 70, 71, 72] (by decide +kernel) (by decide +kernel)
set_option maxRecDepth 20000 in
theorem gX7_does_X7_carriedBy : GoodIn wsX7_does (wsV RX7 142 RX7 yX7_carriedBy wsX7_carriedBy) := goodIn_app (goodIn_of _ (by decide +kernel)) ggX7_does_X7_carriedBy
set_option maxRecDepth 20000 in
theorem ggX7_does_X7_become : GoodIn wsX7_does wsX7_become := goodIn_r _ [49, 9, 2, 38, 39, 40, 7, 41, 10, 11, 12, 13, 14, 15, 16, 17, 18, 19, 20, 21, 22, 50, 51, 52, 53, 54, 55, 56, 57, 58, 59, 60, 61, 62, 63, 64, 65, 66, 67, 68, 69, 70, 71, 72] (by decide +kernel) (by decide +kernel)
set_option maxRecDepth 20000 in
theorem gX7_does_X7_become : GoodIn wsX7_does (wsV RX7 135 RX7 yX7_become wsX7_become) := goodIn_app (goodIn_of _ (by decide +kernel)) ggX7_does_X7_become
theorem dX7_does_0 : decode cX7_does 0 = .ok (.aload_n 0, 1) := by decide +kernel
theorem dX7_does_1 : decode cX7_does 1 = .ok (.invokevirtual 116, 3) := by decide +kernel
theorem dX7_does_4 : decode cX7_does 4 = .ok (.istore_n 3, 1) := by decide +kernel
theorem dX7_does_5 : decode cX7_does 5 = .ok (.iload_n 2, 1) := by decide +kernel
theorem dX7_does_6 : decode cX7_does 6 = .ok (.bipush 10, 2) := by decide +kernel
theorem dX7_does_8 : decode cX7_does 8 = .ok (.if_icmp .lt 51, 3) := by decide +kernel
theorem dX7_does_11 : decode cX7_does 11 = .ok (.iload_n 2, 1) := by decide +kernel
theorem dX7_does_12 : decode cX7_does 12 = .ok (.bipush 10, 2) := by decide +kernel
theorem dX7_does_14 : decode cX7_does 14 = .ok (.isub, 1) := by decide +kernel
theorem dX7_does_15 : decode cX7_does 15 = .ok (.istore 4, 2) := by decide +kernel
theorem dX7_does_17 : decode cX7_does 17 = .ok (.iload 4, 2) := by decide +kernel
theorem dX7_does_19 : decode cX7_does 19 = .ok (.aload_n 0, 1) := by decide +kernel
theorem dX7_does_20 : decode cX7_does 20 = .ok (.iload_n 1, 1) := by decide +kernel
theorem dX7_does_21 : decode cX7_does 21 = .ok (.invokevirtual 107, 3) := by decide +kernel
theorem dX7_does_24 : decode cX7_does 24 = .ok (.if_icmp .le 5, 3) := by decide +kernel
theorem dX7_does_27 : decode cX7_does 27 = .ok (.iconst 0, 1) := by decide +kernel
theorem dX7_does_28 : decode cX7_does 28 = .ok (.ireturn, 1) := by decide +kernel
theorem dX7_does_29 : decode cX7_does 29 = .ok (.aload_n 0, 1) := by decide +kernel
theorem dX7_does_30 : decode cX7_does 30 = .ok (.dup, 1) := by decide +kernel
theorem dX7_does_31 : decode cX7_does 31 = .ok (.getfield 145, 3) := by decide +kernel
theorem dX7_does_34 : decode cX7_does 34 = .ok (.aload_n 0, 1) := by decide +kernel
theorem dX7_does_35 : decode cX7_does 35 = .ok (.getfield 25, 3) := by decide +kernel
theorem dX7_does_38 : decode cX7_does 38 = .ok (.iload_n 1, 1) := by decide +kernel
theorem dX7_does_39 : decode cX7_does 39 = .ok (.iaload, 1) := by decide +kernel
theorem dX7_does_40 : decode cX7_does 40 = .ok (.iload 4, 2) := by decide +kernel
theorem dX7_does_42 : decode cX7_does 42 = .ok (.invokestatic 129, 3) := by decide +kernel
theorem dX7_does_45 : decode cX7_does 45 = .ok (.iadd, 1) := by decide +kernel
theorem dX7_does_46 : decode cX7_does 46 = .ok (.putfield 145, 3) := by decide +kernel
theorem dX7_does_49 : decode cX7_does 49 = .ok (.aload_n 0, 1) := by decide +kernel
theorem dX7_does_50 : decode cX7_does 50 = .ok (.getfield 25, 3) := by decide +kernel
theorem dX7_does_53 : decode cX7_does 53 = .ok (.iload_n 1, 1) := by decide +kernel
theorem dX7_does_54 : decode cX7_does 54 = .ok (.iload 4, 2) := by decide +kernel
theorem dX7_does_56 : decode cX7_does 56 = .ok (.iastore, 1) := by decide +kernel
theorem dX7_does_57 : decode cX7_does 57 = .ok (.iconst 1, 1) := by decide +kernel
theorem dX7_does_58 : decode cX7_does 58 = .ok (.ireturn, 1) := by decide +kernel
theorem dX7_does_59 : decode cX7_does 59 = .ok (.iload_n 2, 1) := by decide +kernel
theorem dX7_does_60 : decode cX7_does 60 = .ok (.ifCond .ne 11, 3) := by decide +kernel
theorem dX7_does_63 : decode cX7_does 63 = .ok (.aload_n 0, 1) := by decide +kernel
theorem dX7_does_64 : decode cX7_does 64 = .ok (.iload_n 1, 1) := by decide +kernel
theorem dX7_does_65 : decode cX7_does 65 = .ok (.invokevirtual 132, 3) := by decide +kernel
theorem dX7_does_68 : decode cX7_does 68 = .ok (.ifCond .eq 13, 3) := by decide +kernel
theorem dX7_does_71 : decode cX7_does 71 = .ok (.iload_n 2, 1) := by decide +kernel
theorem dX7_does_72 : decode cX7_does 72 = .ok (.iconst 1, 1) := by decide +kernel
theorem dX7_does_73 : decode cX7_does 73 = .ok (.if_icmp .ne 10, 3) := by decide +kernel
theorem dX7_does_76 : decode cX7_does 76 = .ok (.iload_n 1, 1) := by decide +kernel
theorem dX7_does_77 : decode cX7_does 77 = .ok (.iload_n 3, 1) := by decide +kernel
theorem dX7_does_78 : decode cX7_does 78 = .ok (.if_icmp .le 5, 3) := by decide +kernel
theorem dX7_does_81 : decode cX7_does 81 = .ok (.iconst 0, 1) := by decide +kernel
theorem dX7_does_82 : decode cX7_does 82 = .ok (.ireturn, 1) := by decide +kernel
theorem dX7_does_83 : decode cX7_does 83 = .ok (.iload_n 2, 1) := by decide +kernel
theorem dX7_does_84 : decode cX7_does 84 = .ok (.ifCond .ne 9, 3) := by decide +kernel
theorem dX7_does_87 : decode cX7_does 87 = .ok (.iload_n 3, 1) := by decide +kernel
theorem dX7_does_88 : decode cX7_does 88 = .ok (.iload_n 1, 1) := by decide +kernel
theorem dX7_does_89 : decode cX7_does 89 = .ok (.iadd, 1) := by decide +kernel
theorem dX7_does_90 : decode cX7_does 90 = .ok (.goto 6, 3) := by decide +kernel
theorem dX7_does_93 : decode cX7_does 93 = .ok (.iload_n 3, 1) := by decide +kernel
theorem dX7_does_94 : decode cX7_does 94 = .ok (.iload_n 1, 1) := by decide +kernel
theorem dX7_does_95 : decode cX7_does 95 = .ok (.isub, 1) := by decide +kernel
theorem dX7_does_96 : decode cX7_does 96 = .ok (.istore 4, 2) := by decide +kernel
theorem dX7_does_98 : decode cX7_does 98 = .ok (.aload_n 0, 1) := by decide +kernel
theorem dX7_does_99 : decode cX7_does 99 = .ok (.dup, 1) := by decide +kernel
theorem dX7_does_100 : decode cX7_does 100 = .ok (.getfield 145, 3) := by decide +kernel
theorem dX7_does_103 : decode cX7_does 103 = .ok (.aload_n 0, 1) := by decide +kernel
theorem dX7_does_104 : decode cX7_does 104 = .ok (.iload_n 3, 1) := by decide +kernel
theorem dX7_does_105 : decode cX7_does 105 = .ok (.iload 4, 2) := by decide +kernel
theorem dX7_does_107 : decode cX7_does 107 = .ok (.invokevirtual 139, 3) := by decide +kernel
theorem dX7_does_110 : decode cX7_does 110 = .ok (.iadd, 1) := by decide +kernel
theorem dX7_does_111 : decode cX7_does 111 = .ok (.putfield 145, 3) := by decide +kernel
theorem dX7_does_114 : decode cX7_does 114 = .ok (.aload_n 0, 1) := by decide +kernel
theorem dX7_does_115 : decode cX7_does 115 = .ok (.dup, 1) := by decide +kernel
theorem dX7_does_116 : decode cX7_does 116 = .ok (.getfield 148, 3) := by decide +kernel
theorem dX7_does_119 : decode cX7_does 119 = .ok (.aload_n 0, 1) := by decide +kernel
theorem dX7_does_120 : decode cX7_does 120 = .ok (.iload_n 2, 1) := by decide +kernel
theorem dX7_does_121 : decode cX7_does 121 = .ok (.ifCond .ne 7, 3) := by decide +kernel
theorem dX7_does_124 : decode cX7_does 124 = .ok (.iload_n 3, 1) := by decide +kernel
theorem dX7_does_125 : decode cX7_does 125 = .ok (.goto 5, 3) := by decide +kernel
theorem dX7_does_128 : decode cX7_does 128 = .ok (.iload 4, 2) := by decide +kernel
theorem dX7_does_130 : decode cX7_does 130 = .ok (.iload_n 1, 1) := by decide +kernel
theorem dX7_does_131 : decode cX7_does 131 = .ok (.invokevirtual 142, 3) := by decide +kernel
theorem dX7_does_134 : decode cX7_does 134 = .ok (.iadd, 1) := by decide +kernel
theorem dX7_does_135 : decode cX7_does 135 = .ok (.putfield 148, 3) := by decide +kernel
theorem dX7_does_138 : decode cX7_does 138 = .ok (.aload_n 0, 1) := by decide +kernel
theorem dX7_does_139 : decode cX7_does 139 = .ok (.iload 4, 2) := by decide +kernel
theorem dX7_does_141 : decode cX7_does 141 = .ok (.invokevirtual 135, 3) := by decide +kernel
theorem dX7_does_144 : decode cX7_does 144 = .ok (.iconst 1, 1) := by decide +kernel
theorem dX7_does_145 : decode cX7_does 145 = .ok (.ireturn, 1) := by decide +kernel
set_option maxRecDepth 20000 in
theorem ggX7_goDay_X7_numberNow : GoodIn wsX7_goDay wsX7_numberNow := goodIn_r _ [9, 10, 11, 12, 13, 14, 8, 15, 16, 17, 18, 19, 20, 21, 22, 23, 24, 56, 57, 58, 59, 60, 61, 62, 63, 64, 65, 66, 67, 68, 69, 70, 71, 72, 73, 74, 75, 76, 77, 78] (by decide +kernel) (by decide +kernel)
set_option maxRecDepth 20000 in
theorem gX7_goDay_X7_numberNow : GoodIn wsX7_goDay (wsV RX7 116 RX7 yX7_numberNow wsX7_numberNow) := goodIn_app (goodIn_of _ (by decide +kernel)) ggX7_goDay_X7_numberNow
set_option maxRecDepth 20000 in
theorem ggX7_goDay_X7_does : GoodIn wsX7_goDay wsX7_does := goodIn_r _ [28, 1, 11, 2, 5, 6, 7, 8, 9, 10, 12, 13, 14, 15, 16, 17, 18, 19, 20, 21, 22, 23, 24, 29, 30, 31, 32, 33, 34, 35, 36, 37, 38, 39, 40, 41, 42, 43, 44, 45, 46, 47, 48, 49, 50, 51, 52, 53, 54, 55, 56, 57, 58, 59, 60, 61, 62, 63, 64, 65, 66, 67, 68, 69, 70, 71, 72, 73, 74, 75, 76, 77, 78] (by decide +kernel) (by decide +kernel)
set_option maxRecDepth 20000 in
theorem gX7_goDay_X7_does : GoodIn wsX7_goDay (wsV RX7 154 RX7 yX7_does wsX7_does) := goodIn_app (goodIn_of _ (by decide +kernel)) ggX7_goDay_X7_does
theorem dX7_goDay_0 : decode cX7_goDay 0 = .ok (.aload_n 0, 1) := by decide +kernel
theorem dX7_goDay_1 : decode cX7_goDay 1 = .ok (.iconst 0, 1) := by decide +kernel
theorem dX7_goDay_2 : decode cX7_goDay 2 = .ok (.putfield 145, 3) := by decide +kernel
theorem dX7_goDay_5 : decode cX7_goDay 5 = .ok (.aload_n 0, 1) := by decide +kernel
theorem dX7_goDay_6 : decode cX7_goDay 6 = .ok (.iconst 0, 1) := by decide +kernel
theorem dX7_goDay_7 : decode cX7_goDay 7 = .ok (.putfield 148, 3) := by decide +kernel
theorem dX7_goDay_10 : decode cX7_goDay 10 = .ok (.aload_n 0, 1) := by decide +kernel
theorem dX7_goDay_11 : decode cX7_goDay 11 = .ok (.aload_n 0, 1) := by decide +kernel
theorem dX7_goDay_12 : decode cX7_goDay 12 = .ok (.invokevirtual 116, 3) := by decide +kernel
theorem dX7_goDay_15 : decode cX7_goDay 15 = .ok (.putfield 151, 3) := by decide +kernel
theorem dX7_goDay_18 : decode cX7_goDay 18 = .ok (.iconst 0, 1) := by decide +kernel
theorem dX7_goDay_19 : decode cX7_goDay 19 = .ok (.istore_n 3, 1) := by decide +kernel
theorem dX7_goDay_20 : decode cX7_goDay 20 = .ok (.iload_n 3, 1) := by decide +kernel
theorem dX7_goDay_21 : decode cX7_goDay 21 = .ok (.iload_n 2, 1) := by decide +kernel
theorem dX7_goDay_22 : decode cX7_goDay 22 = .ok (.if_icmp .ge 66, 3) := by decide +kernel
theorem dX7_goDay_25 : decode cX7_goDay 25 = .ok (.aload_n 0, 1) := by decide +kernel
theorem dX7_goDay_26 : decode cX7_goDay 26 = .ok (.aload_n 0, 1) := by decide +kernel
theorem dX7_goDay_27 : decode cX7_goDay 27 = .ok (.getfield 16, 3) := by decide +kernel
theorem dX7_goDay_30 : decode cX7_goDay 30 = .ok (.iload_n 1, 1) := by decide +kernel
theorem dX7_goDay_31 : decode cX7_goDay 31 = .ok (.iconst 2, 1) := by decide +kernel
theorem dX7_goDay_32 : decode cX7_goDay 32 = .ok (.iload_n 3, 1) := by decide +kernel
theorem dX7_goDay_33 : decode cX7_goDay 33 = .ok (.imul, 1) := by decide +kernel
theorem dX7_goDay_34 : decode cX7_goDay 34 = .ok (.iadd, 1) := by decide +kernel
theorem dX7_goDay_35 : decode cX7_goDay 35 = .ok (.iaload, 1) := by decide +kernel
theorem dX7_goDay_36 : decode cX7_goDay 36 = .ok (.aload_n 0, 1) := by decide +kernel
theorem dX7_goDay_37 : decode cX7_goDay 37 = .ok (.getfield 16, 3) := by decide +kernel
theorem dX7_goDay_40 : decode cX7_goDay 40 = .ok (.iload_n 1, 1) := by decide +kernel
theorem dX7_goDay_41 : decode cX7_goDay 41 = .ok (.iconst 2, 1) := by decide +kernel
theorem dX7_goDay_42 : decode cX7_goDay 42 = .ok (.iload_n 3, 1) := by decide +kernel
theorem dX7_goDay_43 : decode cX7_goDay 43 = .ok (.imul, 1) := by decide +kernel
theorem dX7_goDay_44 : decode cX7_goDay 44 = .ok (.iadd, 1) := by decide +kernel
theorem dX7_goDay_45 : decode cX7_goDay 45 = .ok (.iconst 1, 1) := by decide +kernel
theorem dX7_goDay_46 : decode cX7_goDay 46 = .ok (.iadd, 1) := by decide +kernel
theorem dX7_goDay_47 : decode cX7_goDay 47 = .ok (.iaload, 1) := by decide +kernel
theorem dX7_goDay_48 : decode cX7_goDay 48 = .ok (.invokevirtual 154, 3) := by decide +kernel
theorem dX7_goDay_51 : decode cX7_goDay 51 = .ok (.ifCond .ne 5, 3) := by decide +kernel
theorem dX7_goDay_54 : decode cX7_goDay 54 = .ok (.iload_n 3, 1) := by decide +kernel
theorem dX7_goDay_55 : decode cX7_goDay 55 = .ok (.ireturn, 1) := by decide +kernel
theorem dX7_goDay_56 : decode cX7_goDay 56 = .ok (.aload_n 0, 1) := by decide +kernel
theorem dX7_goDay_57 : decode cX7_goDay 57 = .ok (.aload_n 0, 1) := by decide +kernel
theorem dX7_goDay_58 : decode cX7_goDay 58 = .ok (.invokevirtual 116, 3) := by decide +kernel
theorem dX7_goDay_61 : decode cX7_goDay 61 = .ok (.aload_n 0, 1) := by decide +kernel
theorem dX7_goDay_62 : decode cX7_goDay 62 = .ok (.getfield 151, 3) := by decide +kernel
theorem dX7_goDay_65 : decode cX7_goDay 65 = .ok (.if_icmp .le 10, 3) := by decide +kernel
theorem dX7_goDay_68 : decode cX7_goDay 68 = .ok (.aload_n 0, 1) := by decide +kernel
theorem dX7_goDay_69 : decode cX7_goDay 69 = .ok (.invokevirtual 116, 3) := by decide +kernel
theorem dX7_goDay_72 : decode cX7_goDay 72 = .ok (.goto 7, 3) := by decide +kernel
theorem dX7_goDay_75 : decode cX7_goDay 75 = .ok (.aload_n 0, 1) := by decide +kernel
theorem dX7_goDay_76 : decode cX7_goDay 76 = .ok (.getfield 151, 3) := by decide +kernel
theorem dX7_goDay_79 : decode cX7_goDay 79 = .ok (.putfield 151, 3) := by decide +kernel
theorem dX7_goDay_82 : decode cX7_goDay 82 = .ok (.iinc 3 1, 3) := by decide +kernel
theorem dX7_goDay_85 : decode cX7_goDay 85 = .ok (.goto (-65), 3) := by decide +kernel
theorem dX7_goDay_88 : decode cX7_goDay 88 = .ok (.bipush (-9), 2) := by decide +kernel
theorem dX7_goDay_90 : decode cX7_goDay 90 = .ok (.ireturn, 1) := by decide +kernel
set_option maxRecDepth 20000 in
theorem ggX7_refusesPair_X7_within : GoodIn wsX7_refusesPair wsX7_within := goodIn_r _ [5] (by decide +kernel) (by decide +kernel)
set_option maxRecDepth 20000 in
theorem gX7_refusesPair_X7_within : GoodIn wsX7_refusesPair (va_wsS RX7 58 yX7_within wsX7_within) := goodIn_app (goodIn_of _ (by decide +kernel)) ggX7_refusesPair_X7_within
set_option maxRecDepth 20000 in
theorem ggX7_refusesPair_X7_isWire : GoodIn wsX7_refusesPair wsX7_isWire := goodIn_r _ [9, 10, 11, 12, 13, 14, 15, 16, 17, 18, 19, 20, 21, 22, 23, 24, 25, 26, 27, 28, 29, 30, 31, 32, 33] (by decide +kernel) (by decide +kernel)
set_option maxRecDepth 20000 in
theorem gX7_refusesPair_X7_isWire : GoodIn wsX7_refusesPair (wsV RX7 113 RX7 yX7_isWire wsX7_isWire) := goodIn_app (goodIn_of _ (by decide +kernel)) ggX7_refusesPair_X7_isWire
theorem dX7_refusesPair_0 : decode cX7_refusesPair 0 = .ok (.iload_n 2, 1) := by decide +kernel
theorem dX7_refusesPair_1 : decode cX7_refusesPair 1 = .ok (.bipush 10, 2) := by decide +kernel
theorem dX7_refusesPair_3 : decode cX7_refusesPair 3 = .ok (.bipush 28, 2) := by decide +kernel
theorem dX7_refusesPair_5 : decode cX7_refusesPair 5 = .ok (.invokestatic 58, 3) := by decide +kernel
theorem dX7_refusesPair_8 : decode cX7_refusesPair 8 = .ok (.istore_n 3, 1) := by decide +kernel
theorem dX7_refusesPair_9 : decode cX7_refusesPair 9 = .ok (.iload_n 2, 1) := by decide +kernel
theorem dX7_refusesPair_10 : decode cX7_refusesPair 10 = .ok (.iconst 0, 1) := by decide +kernel
theorem dX7_refusesPair_11 : decode cX7_refusesPair 11 = .ok (.iconst 1, 1) := by decide +kernel
theorem dX7_refusesPair_12 : decode cX7_refusesPair 12 = .ok (.invokestatic 58, 3) := by decide +kernel
theorem dX7_refusesPair_15 : decode cX7_refusesPair 15 = .ok (.ifCond .ne 7, 3) := by decide +kernel
theorem dX7_refusesPair_18 : decode cX7_refusesPair 18 = .ok (.iload_n 3, 1) := by decide +kernel
theorem dX7_refusesPair_19 : decode cX7_refusesPair 19 = .ok (.ifCond .eq 17, 3) := by decide +kernel
theorem dX7_refusesPair_22 : decode cX7_refusesPair 22 = .ok (.iload_n 3, 1) := by decide +kernel
theorem dX7_refusesPair_23 : decode cX7_refusesPair 23 = .ok (.ifCond .ne 16, 3) := by decide +kernel
theorem dX7_refusesPair_26 : decode cX7_refusesPair 26 = .ok (.iload_n 1, 1) := by decide +kernel
theorem dX7_refusesPair_27 : decode cX7_refusesPair 27 = .ok (.iconst 0, 1) := by decide +kernel
theorem dX7_refusesPair_28 : decode cX7_refusesPair 28 = .ok (.ldc 157, 2) := by decide +kernel
theorem dX7_refusesPair_30 : decode cX7_refusesPair 30 = .ok (.invokestatic 58, 3) := by decide +kernel
theorem dX7_refusesPair_33 : decode cX7_refusesPair 33 = .ok (.ifCond .ne 6, 3) := by decide +kernel
theorem dX7_refusesPair_36 : decode cX7_refusesPair 36 = .ok (.bipush (-2), 2) := by decide +kernel
theorem dX7_refusesPair_38 : decode cX7_refusesPair 38 = .ok (.ireturn, 1) := by decide +kernel
theorem dX7_refusesPair_39 : decode cX7_refusesPair 39 = .ok (.iload_n 3, 1) := by decide +kernel
theorem dX7_refusesPair_40 : decode cX7_refusesPair 40 = .ok (.ifCond .eq 15, 3) := by decide +kernel
theorem dX7_refusesPair_43 : decode cX7_refusesPair 43 = .ok (.aload_n 0, 1) := by decide +kernel
theorem dX7_refusesPair_44 : decode cX7_refusesPair 44 = .ok (.iload_n 1, 1) := by decide +kernel
theorem dX7_refusesPair_45 : decode cX7_refusesPair 45 = .ok (.invokevirtual 113, 3) := by decide +kernel
theorem dX7_refusesPair_48 : decode cX7_refusesPair 48 = .ok (.ifCond .ne 7, 3) := by decide +kernel
theorem dX7_refusesPair_51 : decode cX7_refusesPair 51 = .ok (.iconst (-1), 1) := by decide +kernel
theorem dX7_refusesPair_52 : decode cX7_refusesPair 52 = .ok (.goto 4, 3) := by decide +kernel
theorem dX7_refusesPair_55 : decode cX7_refusesPair 55 = .ok (.iconst 0, 1) := by decide +kernel
theorem dX7_refusesPair_56 : decode cX7_refusesPair 56 = .ok (.ireturn, 1) := by decide +kernel
