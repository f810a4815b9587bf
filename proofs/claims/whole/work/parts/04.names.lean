theorem dX7_takeNumber_0 : decode cX7_takeNumber 0 = .ok (.aload_n 0, 1) := by decide +kernel
theorem dX7_takeNumber_1 : decode cX7_takeNumber 1 = .ok (.invokevirtual 27, 3) := by decide +kernel
theorem dX7_takeNumber_4 : decode cX7_takeNumber 4 = .ok (.aload_n 0, 1) := by decide +kernel
theorem dX7_takeNumber_5 : decode cX7_takeNumber 5 = .ok (.getfield 22, 3) := by decide +kernel
theorem dX7_takeNumber_8 : decode cX7_takeNumber 8 = .ok (.istore_n 1, 1) := by decide +kernel
theorem dX7_takeNumber_9 : decode cX7_takeNumber 9 = .ok (.iconst 0, 1) := by decide +kernel
theorem dX7_takeNumber_10 : decode cX7_takeNumber 10 = .ok (.istore_n 2, 1) := by decide +kernel
theorem dX7_takeNumber_11 : decode cX7_takeNumber 11 = .ok (.iload_n 1, 1) := by decide +kernel
theorem dX7_takeNumber_12 : decode cX7_takeNumber 12 = .ok (.aload_n 0, 1) := by decide +kernel
theorem dX7_takeNumber_13 : decode cX7_takeNumber 13 = .ok (.getfield 18, 3) := by decide +kernel
theorem dX7_takeNumber_16 : decode cX7_takeNumber 16 = .ok (.if_icmp .ge 31, 3) := by decide +kernel
theorem dX7_takeNumber_19 : decode cX7_takeNumber 19 = .ok (.aload_n 0, 1) := by decide +kernel
theorem dX7_takeNumber_20 : decode cX7_takeNumber 20 = .ok (.iload_n 1, 1) := by decide +kernel
theorem dX7_takeNumber_21 : decode cX7_takeNumber 21 = .ok (.invokevirtual 106, 3) := by decide +kernel
theorem dX7_takeNumber_24 : decode cX7_takeNumber 24 = .ok (.ifCond .eq 23, 3) := by decide +kernel
theorem dX7_takeNumber_27 : decode cX7_takeNumber 27 = .ok (.bipush 10, 2) := by decide +kernel
theorem dX7_takeNumber_29 : decode cX7_takeNumber 29 = .ok (.iload_n 2, 1) := by decide +kernel
theorem dX7_takeNumber_30 : decode cX7_takeNumber 30 = .ok (.imul, 1) := by decide +kernel
theorem dX7_takeNumber_31 : decode cX7_takeNumber 31 = .ok (.aload_n 0, 1) := by decide +kernel
theorem dX7_takeNumber_32 : decode cX7_takeNumber 32 = .ok (.iload_n 1, 1) := by decide +kernel
theorem dX7_takeNumber_33 : decode cX7_takeNumber 33 = .ok (.invokevirtual 76, 3) := by decide +kernel
theorem dX7_takeNumber_36 : decode cX7_takeNumber 36 = .ok (.iadd, 1) := by decide +kernel
theorem dX7_takeNumber_37 : decode cX7_takeNumber 37 = .ok (.bipush 48, 2) := by decide +kernel
theorem dX7_takeNumber_39 : decode cX7_takeNumber 39 = .ok (.isub, 1) := by decide +kernel
theorem dX7_takeNumber_40 : decode cX7_takeNumber 40 = .ok (.istore_n 2, 1) := by decide +kernel
theorem dX7_takeNumber_41 : decode cX7_takeNumber 41 = .ok (.iinc 1 1, 3) := by decide +kernel
theorem dX7_takeNumber_44 : decode cX7_takeNumber 44 = .ok (.goto (-33), 3) := by decide +kernel
theorem dX7_takeNumber_47 : decode cX7_takeNumber 47 = .ok (.iload_n 1, 1) := by decide +kernel
theorem dX7_takeNumber_48 : decode cX7_takeNumber 48 = .ok (.aload_n 0, 1) := by decide +kernel
theorem dX7_takeNumber_49 : decode cX7_takeNumber 49 = .ok (.getfield 22, 3) := by decide +kernel
theorem dX7_takeNumber_52 : decode cX7_takeNumber 52 = .ok (.if_icmp .eq 13, 3) := by decide +kernel
theorem dX7_takeNumber_55 : decode cX7_takeNumber 55 = .ok (.iload_n 1, 1) := by decide +kernel
theorem dX7_takeNumber_56 : decode cX7_takeNumber 56 = .ok (.aload_n 0, 1) := by decide +kernel
theorem dX7_takeNumber_57 : decode cX7_takeNumber 57 = .ok (.getfield 22, 3) := by decide +kernel
theorem dX7_takeNumber_60 : decode cX7_takeNumber 60 = .ok (.isub, 1) := by decide +kernel
theorem dX7_takeNumber_61 : decode cX7_takeNumber 61 = .ok (.iconst 3, 1) := by decide +kernel
theorem dX7_takeNumber_62 : decode cX7_takeNumber 62 = .ok (.if_icmp .le 5, 3) := by decide +kernel
theorem dX7_takeNumber_65 : decode cX7_takeNumber 65 = .ok (.iconst (-1), 1) := by decide +kernel
theorem dX7_takeNumber_66 : decode cX7_takeNumber 66 = .ok (.ireturn, 1) := by decide +kernel
theorem dX7_takeNumber_67 : decode cX7_takeNumber 67 = .ok (.aload_n 0, 1) := by decide +kernel
theorem dX7_takeNumber_68 : decode cX7_takeNumber 68 = .ok (.iload_n 1, 1) := by decide +kernel
theorem dX7_takeNumber_69 : decode cX7_takeNumber 69 = .ok (.putfield 22, 3) := by decide +kernel
theorem dX7_takeNumber_72 : decode cX7_takeNumber 72 = .ok (.iload_n 2, 1) := by decide +kernel
theorem dX7_takeNumber_73 : decode cX7_takeNumber 73 = .ok (.ireturn, 1) := by decide +kernel
set_option maxRecDepth 20000 in
theorem ggX7_takeEnd_X7_skipBlanks : GoodIn wsX7_takeEnd wsX7_skipBlanks := goodIn_r _ [6, 1, 7, 8, 9, 10, 5, 11, 12, 13, 14, 15, 16] (by decide +kernel) (by decide +kernel)
set_option maxRecDepth 20000 in
theorem gX7_takeEnd_X7_skipBlanks : GoodIn wsX7_takeEnd (wsV RX7 27 RX7 yX7_skipBlanks wsX7_skipBlanks) := goodIn_app (goodIn_of _ (by decide +kernel)) ggX7_takeEnd_X7_skipBlanks
set_option maxRecDepth 20000 in
theorem ggX7_takeEnd_X7_byteAt : GoodIn wsX7_takeEnd wsX7_byteAt := goodIn_r _ [11, 7, 12, 13, 14, 15, 16] (by decide +kernel) (by decide +kernel)
set_option maxRecDepth 20000 in
theorem gX7_takeEnd_X7_byteAt : GoodIn wsX7_takeEnd (wsV RX7 76 RX7 yX7_byteAt wsX7_byteAt) := goodIn_app (goodIn_of _ (by decide +kernel)) ggX7_takeEnd_X7_byteAt
theorem dX7_takeEnd_0 : decode cX7_takeEnd 0 = .ok (.aload_n 0, 1) := by decide +kernel
theorem dX7_takeEnd_1 : decode cX7_takeEnd 1 = .ok (.invokevirtual 27, 3) := by decide +kernel
theorem dX7_takeEnd_4 : decode cX7_takeEnd 4 = .ok (.aload_n 0, 1) := by decide +kernel
theorem dX7_takeEnd_5 : decode cX7_takeEnd 5 = .ok (.aload_n 0, 1) := by decide +kernel
theorem dX7_takeEnd_6 : decode cX7_takeEnd 6 = .ok (.getfield 22, 3) := by decide +kernel
theorem dX7_takeEnd_9 : decode cX7_takeEnd 9 = .ok (.invokevirtual 76, 3) := by decide +kernel
theorem dX7_takeEnd_12 : decode cX7_takeEnd 12 = .ok (.bipush 59, 2) := by decide +kernel
theorem dX7_takeEnd_14 : decode cX7_takeEnd 14 = .ok (.if_icmp .eq 5, 3) := by decide +kernel
theorem dX7_takeEnd_17 : decode cX7_takeEnd 17 = .ok (.iconst 0, 1) := by decide +kernel
theorem dX7_takeEnd_18 : decode cX7_takeEnd 18 = .ok (.ireturn, 1) := by decide +kernel
theorem dX7_takeEnd_19 : decode cX7_takeEnd 19 = .ok (.aload_n 0, 1) := by decide +kernel
theorem dX7_takeEnd_20 : decode cX7_takeEnd 20 = .ok (.dup, 1) := by decide +kernel
theorem dX7_takeEnd_21 : decode cX7_takeEnd 21 = .ok (.getfield 22, 3) := by decide +kernel
theorem dX7_takeEnd_24 : decode cX7_takeEnd 24 = .ok (.iconst 1, 1) := by decide +kernel
theorem dX7_takeEnd_25 : decode cX7_takeEnd 25 = .ok (.iadd, 1) := by decide +kernel
theorem dX7_takeEnd_26 : decode cX7_takeEnd 26 = .ok (.putfield 22, 3) := by decide +kernel
theorem dX7_takeEnd_29 : decode cX7_takeEnd 29 = .ok (.iconst 1, 1) := by decide +kernel
theorem dX7_takeEnd_30 : decode cX7_takeEnd 30 = .ok (.ireturn, 1) := by decide +kernel
set_option maxRecDepth 20000 in
theorem ggX8_init_X7_init : GoodIn wsX8_init wsX7_init := goodIn_r _ [32, 33, 2, 3, 34, 35, 36, 37, 38, 87, 88, 89, 90] (by decide +kernel) (by decide +kernel)
set_option maxRecDepth 20000 in
theorem gX8_init_X7_init_n11 : GoodIn wsX8_init (wsX7_init) := ggX8_init_X7_init
set_option maxRecDepth 20000 in
theorem ggX8_init_X6_init : GoodIn wsX8_init wsX6_init := goodIn_r _ [40, 41, 2, 3, 34, 42, 43, 44, 45, 103, 104, 105, 106] (by decide +kernel) (by decide +kernel)
set_option maxRecDepth 20000 in
theorem gX8_init_X6_init_n18 : GoodIn wsX8_init (wsX6_init) := ggX8_init_X6_init
set_option maxRecDepth 20000 in
theorem ggX8_init_X5_init : GoodIn wsX8_init wsX5_init := goodIn_r _ [47, 48, 2, 3, 34, 49, 50, 51, 52, 107, 108, 109, 110] (by decide +kernel) (by decide +kernel)
set_option maxRecDepth 20000 in
theorem gX8_init_X5_init_n25 : GoodIn wsX8_init (wsX5_init) := ggX8_init_X5_init
set_option maxRecDepth 20000 in
theorem ggX8_init_X1_init : GoodIn wsX8_init wsX1_init := goodIn_r _ [54, 55, 2, 3, 34, 56, 57, 58, 59, 111, 112, 113, 114] (by decide +kernel) (by decide +kernel)
set_option maxRecDepth 20000 in
theorem gX8_init_X1_init_n32 : GoodIn wsX8_init (wsX1_init) := ggX8_init_X1_init
set_option maxRecDepth 20000 in
theorem ggX8_init_X0_init : GoodIn wsX8_init wsX0_init := goodIn_r _ [61, 62, 2, 3, 63, 64, 65, 66, 67, 68, 69, 70, 71, 34, 72, 73, 74, 75, 76, 77, 78, 79, 80, 81, 82, 83, 84, 85, 86, 124, 125, 126, 127, 115, 116, 117, 118, 119, 120, 121, 122, 123] (by decide +kernel) (by decide +kernel)
set_option maxRecDepth 20000 in
theorem gX8_init_X0_init_n43 : GoodIn wsX8_init (wsX0_init) := ggX8_init_X0_init
theorem dX8_init_0 : decode cX8_init 0 = .ok (.aload_n 0, 1) := by decide +kernel
theorem dX8_init_1 : decode cX8_init 1 = .ok (.invokespecial 3, 3) := by decide +kernel
theorem dX8_init_4 : decode cX8_init 4 = .ok (.aload_n 0, 1) := by decide +kernel
theorem dX8_init_5 : decode cX8_init 5 = .ok (.new 9, 3) := by decide +kernel
theorem dX8_init_8 : decode cX8_init 8 = .ok (.dup, 1) := by decide +kernel
theorem dX8_init_9 : decode cX8_init 9 = .ok (.invokespecial 11, 3) := by decide +kernel
theorem dX8_init_12 : decode cX8_init 12 = .ok (.putfield 12, 3) := by decide +kernel
theorem dX8_init_15 : decode cX8_init 15 = .ok (.aload_n 0, 1) := by decide +kernel
theorem dX8_init_16 : decode cX8_init 16 = .ok (.new 16, 3) := by decide +kernel
theorem dX8_init_19 : decode cX8_init 19 = .ok (.dup, 1) := by decide +kernel
theorem dX8_init_20 : decode cX8_init 20 = .ok (.invokespecial 18, 3) := by decide +kernel
theorem dX8_init_23 : decode cX8_init 23 = .ok (.putfield 19, 3) := by decide +kernel
theorem dX8_init_26 : decode cX8_init 26 = .ok (.aload_n 0, 1) := by decide +kernel
theorem dX8_init_27 : decode cX8_init 27 = .ok (.new 23, 3) := by decide +kernel
theorem dX8_init_30 : decode cX8_init 30 = .ok (.dup, 1) := by decide +kernel
theorem dX8_init_31 : decode cX8_init 31 = .ok (.invokespecial 25, 3) := by decide +kernel
theorem dX8_init_34 : decode cX8_init 34 = .ok (.putfield 26, 3) := by decide +kernel
theorem dX8_init_37 : decode cX8_init 37 = .ok (.aload_n 0, 1) := by decide +kernel
theorem dX8_init_38 : decode cX8_init 38 = .ok (.new 30, 3) := by decide +kernel
theorem dX8_init_41 : decode cX8_init 41 = .ok (.dup, 1) := by decide +kernel
theorem dX8_init_42 : decode cX8_init 42 = .ok (.invokespecial 32, 3) := by decide +kernel
theorem dX8_init_45 : decode cX8_init 45 = .ok (.putfield 33, 3) := by decide +kernel
theorem dX8_init_48 : decode cX8_init 48 = .ok (.aload_n 0, 1) := by decide +kernel
theorem dX8_init_49 : decode cX8_init 49 = .ok (.iconst 2, 1) := by decide +kernel
theorem dX8_init_50 : decode cX8_init 50 = .ok (.anewarray 37, 3) := by decide +kernel
theorem dX8_init_53 : decode cX8_init 53 = .ok (.putfield 39, 3) := by decide +kernel
theorem dX8_init_56 : decode cX8_init 56 = .ok (.aload_n 0, 1) := by decide +kernel
theorem dX8_init_57 : decode cX8_init 57 = .ok (.new 37, 3) := by decide +kernel
theorem dX8_init_60 : decode cX8_init 60 = .ok (.dup, 1) := by decide +kernel
theorem dX8_init_61 : decode cX8_init 61 = .ok (.invokespecial 43, 3) := by decide +kernel
theorem dX8_init_64 : decode cX8_init 64 = .ok (.putfield 44, 3) := by decide +kernel
theorem dX8_init_67 : decode cX8_init 67 = .ok (.aload_n 0, 1) := by decide +kernel
theorem dX8_init_68 : decode cX8_init 68 = .ok (.new 37, 3) := by decide +kernel
theorem dX8_init_71 : decode cX8_init 71 = .ok (.dup, 1) := by decide +kernel
theorem dX8_init_72 : decode cX8_init 72 = .ok (.invokespecial 43, 3) := by decide +kernel
theorem dX8_init_75 : decode cX8_init 75 = .ok (.putfield 48, 3) := by decide +kernel
theorem dX8_init_78 : decode cX8_init 78 = .ok (.aload_n 0, 1) := by decide +kernel
theorem dX8_init_79 : decode cX8_init 79 = .ok (.iconst 0, 1) := by decide +kernel
theorem dX8_init_80 : decode cX8_init 80 = .ok (.putfield 51, 3) := by decide +kernel
theorem dX8_init_83 : decode cX8_init 83 = .ok (.aload_n 0, 1) := by decide +kernel
theorem dX8_init_84 : decode cX8_init 84 = .ok (.iconst 1, 1) := by decide +kernel
theorem dX8_init_85 : decode cX8_init 85 = .ok (.putfield 55, 3) := by decide +kernel
theorem dX8_init_88 : decode cX8_init 88 = .ok (.aload_n 0, 1) := by decide +kernel
theorem dX8_init_89 : decode cX8_init 89 = .ok (.iconst 0, 1) := by decide +kernel
theorem dX8_init_90 : decode cX8_init 90 = .ok (.putfield 58, 3) := by decide +kernel
theorem dX8_init_93 : decode cX8_init 93 = .ok (.aload_n 0, 1) := by decide +kernel
theorem dX8_init_94 : decode cX8_init 94 = .ok (.iconst 0, 1) := by decide +kernel
theorem dX8_init_95 : decode cX8_init 95 = .ok (.putfield 61, 3) := by decide +kernel
theorem dX8_init_98 : decode cX8_init 98 = .ok (.aload_n 0, 1) := by decide +kernel
theorem dX8_init_99 : decode cX8_init 99 = .ok (.iconst 0, 1) := by decide +kernel
theorem dX8_init_100 : decode cX8_init 100 = .ok (.putfield 64, 3) := by decide +kernel
theorem dX8_init_103 : decode cX8_init 103 = .ok (.return_, 1) := by decide +kernel
set_option maxRecDepth 20000 in
theorem ggX8_term_X0_addTerm : GoodIn wsX8_term wsX0_addTerm := goodIn_r _ [6, 7, 8, 9, 10, 11, 12, 13, 14, 15, 36, 37, 38, 39, 40, 41, 42, 43, 44, 45, 46, 47, 48] (by decide +kernel) (by decide +kernel)
set_option maxRecDepth 20000 in
theorem gX8_term_X0_addTerm : GoodIn wsX8_term (wsV RX8 67 RX0 yX0_addTerm wsX0_addTerm) := goodIn_app (goodIn_of _ (by decide +kernel)) ggX8_term_X0_addTerm
set_option maxRecDepth 20000 in
theorem ggX8_term_X8_told : GoodIn wsX8_term wsX8_told := goodIn_r _ [20, 21, 22, 23, 24, 25, 26, 27, 28, 29, 30, 31, 32, 33, 34, 35] (by decide +kernel) (by decide +kernel)
set_option maxRecDepth 20000 in
theorem gX8_term_X8_told : GoodIn wsX8_term (wsV RX8 71 RX8 yX8_told wsX8_told) := goodIn_app (goodIn_of _ (by decide +kernel)) ggX8_term_X8_told
theorem dX8_term_0 : decode cX8_term 0 = .ok (.aload_n 0, 1) := by decide +kernel
theorem dX8_term_1 : decode cX8_term 1 = .ok (.aload_n 0, 1) := by decide +kernel
theorem dX8_term_2 : decode cX8_term 2 = .ok (.getfield 44, 3) := by decide +kernel
theorem dX8_term_5 : decode cX8_term 5 = .ok (.iload_n 1, 1) := by decide +kernel
theorem dX8_term_6 : decode cX8_term 6 = .ok (.iload_n 2, 1) := by decide +kernel
theorem dX8_term_7 : decode cX8_term 7 = .ok (.iload_n 3, 1) := by decide +kernel
theorem dX8_term_8 : decode cX8_term 8 = .ok (.invokevirtual 67, 3) := by decide +kernel
theorem dX8_term_11 : decode cX8_term 11 = .ok (.invokevirtual 71, 3) := by decide +kernel
theorem dX8_term_14 : decode cX8_term 14 = .ok (.ireturn, 1) := by decide +kernel
set_option maxRecDepth 20000 in
theorem ggX8_may_X4_holds : GoodIn wsX8_may wsX4_holds := goodIn_r _ [6, 7, 65, 66, 67, 68] (by decide +kernel) (by decide +kernel)
set_option maxRecDepth 20000 in
theorem gX8_may_X4_holds : GoodIn wsX8_may (wsV RX8 79 RX4 yX4_holds wsX4_holds) := goodIn_app (goodIn_of _ (by decide +kernel)) ggX8_may_X4_holds
set_option maxRecDepth 20000 in
theorem ggX8_may_X8_told : GoodIn wsX8_may wsX8_told := goodIn_r _ [12, 13, 14, 15, 44, 45, 46, 47, 48, 49, 50, 51, 52, 53, 54, 55] (by decide +kernel) (by decide +kernel)
set_option maxRecDepth 20000 in
theorem gX8_may_X8_told : GoodIn wsX8_may (wsV RX8 71 RX8 yX8_told wsX8_told) := goodIn_app (goodIn_of _ (by decide +kernel)) ggX8_may_X8_told
set_option maxRecDepth 20000 in
theorem ggX8_may_X0_mayHave : GoodIn wsX8_may wsX0_mayHave := goodIn_r _ [20, 21, 22, 3, 4, 5, 6, 7, 23, 24, 25, 19, 26, 27, 28, 29, 30, 31, 32, 33, 34, 35, 36, 56, 57, 58, 59, 60, 61, 62, 63, 64, 65, 66, 67, 68] (by decide +kernel) (by decide +kernel)
set_option maxRecDepth 20000 in
theorem gX8_may_X0_mayHave : GoodIn wsX8_may (wsV RX8 85 RX0 yX0_mayHave wsX0_mayHave) := goodIn_app (goodIn_of _ (by decide +kernel)) ggX8_may_X0_mayHave
set_option maxRecDepth 20000 in
theorem ggX8_may_X0_longest : GoodIn wsX8_may wsX0_longest := goodIn_r _ [40, 21, 27, 28, 29, 5, 30, 7, 31, 32, 41, 42, 35, 43, 56, 57, 58, 59, 60, 61, 62, 63, 64, 65, 66, 67, 68] (by decide +kernel) (by decide +kernel)
set_option maxRecDepth 20000 in
theorem gX8_may_X0_longest : GoodIn wsX8_may (wsV RX8 88 RX0 yX0_longest wsX0_longest) := goodIn_app (goodIn_of _ (by decide +kernel)) ggX8_may_X0_longest
theorem dX8_may_0 : decode cX8_may 0 = .ok (.aload_n 0, 1) := by decide +kernel
theorem dX8_may_1 : decode cX8_may 1 = .ok (.getfield 44, 3) := by decide +kernel
theorem dX8_may_4 : decode cX8_may 4 = .ok (.getfield 75, 3) := by decide +kernel
theorem dX8_may_7 : decode cX8_may 7 = .ok (.iload_n 1, 1) := by decide +kernel
theorem dX8_may_8 : decode cX8_may 8 = .ok (.invokevirtual 79, 3) := by decide +kernel
theorem dX8_may_11 : decode cX8_may 11 = .ok (.ifCond .eq 12, 3) := by decide +kernel
theorem dX8_may_14 : decode cX8_may 14 = .ok (.iload_n 2, 1) := by decide +kernel
theorem dX8_may_15 : decode cX8_may 15 = .ok (.ifCond .lt 8, 3) := by decide +kernel
theorem dX8_may_18 : decode cX8_may 18 = .ok (.iload_n 2, 1) := by decide +kernel
theorem dX8_may_19 : decode cX8_may 19 = .ok (.iconst 1, 1) := by decide +kernel
theorem dX8_may_20 : decode cX8_may 20 = .ok (.if_icmp .le 10, 3) := by decide +kernel
theorem dX8_may_23 : decode cX8_may 23 = .ok (.aload_n 0, 1) := by decide +kernel
theorem dX8_may_24 : decode cX8_may 24 = .ok (.bipush (-2), 2) := by decide +kernel
theorem dX8_may_26 : decode cX8_may 26 = .ok (.invokevirtual 71, 3) := by decide +kernel
theorem dX8_may_29 : decode cX8_may 29 = .ok (.ireturn, 1) := by decide +kernel
theorem dX8_may_30 : decode cX8_may 30 = .ok (.iload_n 2, 1) := by decide +kernel
theorem dX8_may_31 : decode cX8_may 31 = .ok (.ifCond .ne 14, 3) := by decide +kernel
theorem dX8_may_34 : decode cX8_may 34 = .ok (.aload_n 0, 1) := by decide +kernel
theorem dX8_may_35 : decode cX8_may 35 = .ok (.getfield 44, 3) := by decide +kernel
theorem dX8_may_38 : decode cX8_may 38 = .ok (.iload_n 1, 1) := by decide +kernel
theorem dX8_may_39 : decode cX8_may 39 = .ok (.invokevirtual 85, 3) := by decide +kernel
theorem dX8_may_42 : decode cX8_may 42 = .ok (.goto 11, 3) := by decide +kernel
theorem dX8_may_45 : decode cX8_may 45 = .ok (.aload_n 0, 1) := by decide +kernel
theorem dX8_may_46 : decode cX8_may 46 = .ok (.getfield 44, 3) := by decide +kernel
theorem dX8_may_49 : decode cX8_may 49 = .ok (.iload_n 1, 1) := by decide +kernel
theorem dX8_may_50 : decode cX8_may 50 = .ok (.invokevirtual 88, 3) := by decide +kernel
theorem dX8_may_53 : decode cX8_may 53 = .ok (.ireturn, 1) := by decide +kernel
set_option maxRecDepth 20000 in
theorem ggX8_cost_X4_holds : GoodIn wsX8_cost wsX4_holds := goodIn_r _ [6, 7, 56, 57, 58, 59] (by decide +kernel) (by decide +kernel)
set_option maxRecDepth 20000 in
theorem gX8_cost_X4_holds : GoodIn wsX8_cost (wsV RX8 79 RX4 yX4_holds wsX4_holds) := goodIn_app (goodIn_of _ (by decide +kernel)) ggX8_cost_X4_holds
set_option maxRecDepth 20000 in
theorem ggX8_cost_X8_told : GoodIn wsX8_cost wsX8_told := goodIn_r _ [12, 13, 14, 15, 35, 36, 37, 38, 39, 40, 41, 42, 43, 44, 45, 46] (by decide +kernel) (by decide +kernel)
set_option maxRecDepth 20000 in
theorem gX8_cost_X8_told : GoodIn wsX8_cost (wsV RX8 71 RX8 yX8_told wsX8_told) := goodIn_app (goodIn_of _ (by decide +kernel)) ggX8_cost_X8_told
set_option maxRecDepth 20000 in
theorem ggX8_cost_X0_price : GoodIn wsX8_cost wsX0_price := goodIn_r _ [20, 21, 22, 23, 24, 5, 25, 7, 26, 27, 28, 29, 30, 31, 32, 33, 34, 47, 48, 49, 50, 51, 52, 53, 54, 55, 56, 57, 58, 59] (by decide +kernel) (by decide +kernel)
set_option maxRecDepth 20000 in
theorem gX8_cost_X0_price : GoodIn wsX8_cost (wsV RX8 91 RX0 yX0_price wsX0_price) := goodIn_app (goodIn_of _ (by decide +kernel)) ggX8_cost_X0_price
theorem dX8_cost_0 : decode cX8_cost 0 = .ok (.aload_n 0, 1) := by decide +kernel
theorem dX8_cost_1 : decode cX8_cost 1 = .ok (.getfield 44, 3) := by decide +kernel
theorem dX8_cost_4 : decode cX8_cost 4 = .ok (.getfield 75, 3) := by decide +kernel
theorem dX8_cost_7 : decode cX8_cost 7 = .ok (.iload_n 1, 1) := by decide +kernel
theorem dX8_cost_8 : decode cX8_cost 8 = .ok (.invokevirtual 79, 3) := by decide +kernel
theorem dX8_cost_11 : decode cX8_cost 11 = .ok (.ifCond .eq 14, 3) := by decide +kernel
theorem dX8_cost_14 : decode cX8_cost 14 = .ok (.iload_n 2, 1) := by decide +kernel
theorem dX8_cost_15 : decode cX8_cost 15 = .ok (.iconst 1, 1) := by decide +kernel
theorem dX8_cost_16 : decode cX8_cost 16 = .ok (.if_icmp .lt 9, 3) := by decide +kernel
theorem dX8_cost_19 : decode cX8_cost 19 = .ok (.iload_n 2, 1) := by decide +kernel
theorem dX8_cost_20 : decode cX8_cost 20 = .ok (.bipush 24, 2) := by decide +kernel
theorem dX8_cost_22 : decode cX8_cost 22 = .ok (.if_icmp .le 10, 3) := by decide +kernel
theorem dX8_cost_25 : decode cX8_cost 25 = .ok (.aload_n 0, 1) := by decide +kernel
theorem dX8_cost_26 : decode cX8_cost 26 = .ok (.bipush (-2), 2) := by decide +kernel
theorem dX8_cost_28 : decode cX8_cost 28 = .ok (.invokevirtual 71, 3) := by decide +kernel
theorem dX8_cost_31 : decode cX8_cost 31 = .ok (.ireturn, 1) := by decide +kernel
theorem dX8_cost_32 : decode cX8_cost 32 = .ok (.aload_n 0, 1) := by decide +kernel
theorem dX8_cost_33 : decode cX8_cost 33 = .ok (.getfield 44, 3) := by decide +kernel
theorem dX8_cost_36 : decode cX8_cost 36 = .ok (.iload_n 1, 1) := by decide +kernel
theorem dX8_cost_37 : decode cX8_cost 37 = .ok (.iload_n 2, 1) := by decide +kernel
theorem dX8_cost_38 : decode cX8_cost 38 = .ok (.invokevirtual 91, 3) := by decide +kernel
theorem dX8_cost_41 : decode cX8_cost 41 = .ok (.ireturn, 1) := by decide +kernel
set_option maxRecDepth 20000 in
theorem ggX8_loan_X0_addLoan : GoodIn wsX8_loan wsX0_addLoan := goodIn_r _ [6, 7, 8, 9, 10, 11, 12, 13, 14, 15, 16, 17, 18, 19, 20, 21, 22, 23, 24, 25, 45, 46, 47, 48, 49, 50, 51, 52, 53, 54, 55, 56, 57] (by decide +kernel) (by decide +kernel)
set_option maxRecDepth 20000 in
theorem gX8_loan_X0_addLoan : GoodIn wsX8_loan (wsV RX8 95 RX0 yX0_addLoan wsX0_addLoan) := goodIn_app (goodIn_of _ (by decide +kernel)) ggX8_loan_X0_addLoan
set_option maxRecDepth 20000 in
theorem ggX8_loan_X8_told : GoodIn wsX8_loan wsX8_told := goodIn_r _ [29, 30, 31, 32, 33, 34, 35, 36, 37, 38, 39, 40, 41, 42, 43, 44] (by decide +kernel) (by decide +kernel)
set_option maxRecDepth 20000 in
theorem gX8_loan_X8_told : GoodIn wsX8_loan (wsV RX8 71 RX8 yX8_told wsX8_told) := goodIn_app (goodIn_of _ (by decide +kernel)) ggX8_loan_X8_told
theorem dX8_loan_0 : decode cX8_loan 0 = .ok (.aload_n 0, 1) := by decide +kernel
theorem dX8_loan_1 : decode cX8_loan 1 = .ok (.aload_n 0, 1) := by decide +kernel
theorem dX8_loan_2 : decode cX8_loan 2 = .ok (.getfield 44, 3) := by decide +kernel
theorem dX8_loan_5 : decode cX8_loan 5 = .ok (.iload_n 1, 1) := by decide +kernel
theorem dX8_loan_6 : decode cX8_loan 6 = .ok (.iload_n 2, 1) := by decide +kernel
theorem dX8_loan_7 : decode cX8_loan 7 = .ok (.iload_n 3, 1) := by decide +kernel
theorem dX8_loan_8 : decode cX8_loan 8 = .ok (.iload 4, 2) := by decide +kernel
theorem dX8_loan_10 : decode cX8_loan 10 = .ok (.invokevirtual 95, 3) := by decide +kernel
theorem dX8_loan_13 : decode cX8_loan 13 = .ok (.invokevirtual 71, 3) := by decide +kernel
theorem dX8_loan_16 : decode cX8_loan 16 = .ok (.ireturn, 1) := by decide +kernel
set_option maxRecDepth 20000 in
theorem ggX8_close_X4_size : GoodIn wsX8_close wsX4_size := goodIn_r _ [6, 7, 33, 34, 35, 36] (by decide +kernel) (by decide +kernel)
set_option maxRecDepth 20000 in
theorem gX8_close_X4_size : GoodIn wsX8_close (wsV RX8 102 RX4 yX4_size wsX4_size) := goodIn_app (goodIn_of _ (by decide +kernel)) ggX8_close_X4_size
set_option maxRecDepth 20000 in
theorem ggX8_close_X4_empty : GoodIn wsX8_close wsX4_empty := goodIn_r _ [11, 7, 33, 34, 35, 36] (by decide +kernel) (by decide +kernel)
set_option maxRecDepth 20000 in
theorem gX8_close_X4_empty : GoodIn wsX8_close (wsV RX8 106 RX4 yX4_empty wsX4_empty) := goodIn_app (goodIn_of _ (by decide +kernel)) ggX8_close_X4_empty
theorem dX8_close_0 : decode cX8_close 0 = .ok (.aload_n 0, 1) := by decide +kernel
theorem dX8_close_1 : decode cX8_close 1 = .ok (.getfield 44, 3) := by decide +kernel
theorem dX8_close_4 : decode cX8_close 4 = .ok (.getfield 99, 3) := by decide +kernel
theorem dX8_close_7 : decode cX8_close 7 = .ok (.invokevirtual 102, 3) := by decide +kernel
theorem dX8_close_10 : decode cX8_close 10 = .ok (.istore_n 1, 1) := by decide +kernel
theorem dX8_close_11 : decode cX8_close 11 = .ok (.aload_n 0, 1) := by decide +kernel
theorem dX8_close_12 : decode cX8_close 12 = .ok (.getfield 44, 3) := by decide +kernel
theorem dX8_close_15 : decode cX8_close 15 = .ok (.getfield 99, 3) := by decide +kernel
theorem dX8_close_18 : decode cX8_close 18 = .ok (.invokevirtual 106, 3) := by decide +kernel
theorem dX8_close_21 : decode cX8_close 21 = .ok (.aload_n 0, 1) := by decide +kernel
theorem dX8_close_22 : decode cX8_close 22 = .ok (.getfield 44, 3) := by decide +kernel
theorem dX8_close_25 : decode cX8_close 25 = .ok (.getfield 109, 3) := by decide +kernel
theorem dX8_close_28 : decode cX8_close 28 = .ok (.invokevirtual 106, 3) := by decide +kernel
theorem dX8_close_31 : decode cX8_close 31 = .ok (.iload_n 1, 1) := by decide +kernel
theorem dX8_close_32 : decode cX8_close 32 = .ok (.ireturn, 1) := by decide +kernel
set_option maxRecDepth 20000 in
theorem ggX8_wrong_X0_firstWrongLoan : GoodIn wsX8_wrong wsX0_firstWrongLoan := goodIn_r _ [6, 7, 8, 9, 10, 11, 12, 13, 14, 15, 16, 5, 17, 18, 19, 20, 21, 22, 23, 24, 25, 26, 27, 28, 29, 30, 31, 32, 33, 34, 35, 36, 37, 38, 39, 40, 41, 42, 43, 44, 45, 46, 47, 48, 49, 50, 51, 52, 53, 54, 55, 56, 57, 58, 59, 72, 73, 74, 75, 76, 77, 78, 79, 80, 81, 82, 83, 84] (by decide +kernel) (by decide +kernel)
set_option maxRecDepth 20000 in
theorem gX8_wrong_X0_firstWrongLoan : GoodIn wsX8_wrong (wsV RX8 112 RX0 yX0_firstWrongLoan wsX0_firstWrongLoan) := goodIn_app (goodIn_of _ (by decide +kernel)) ggX8_wrong_X0_firstWrongLoan
theorem dX8_wrong_0 : decode cX8_wrong 0 = .ok (.aload_n 0, 1) := by decide +kernel
theorem dX8_wrong_1 : decode cX8_wrong 1 = .ok (.getfield 44, 3) := by decide +kernel
theorem dX8_wrong_4 : decode cX8_wrong 4 = .ok (.invokevirtual 112, 3) := by decide +kernel
theorem dX8_wrong_7 : decode cX8_wrong 7 = .ok (.ireturn, 1) := by decide +kernel
set_option maxRecDepth 20000 in
theorem ggX8_in_X8_isHour : GoodIn wsX8_in wsX8_isHour := goodIn_r _ [5] (by decide +kernel) (by decide +kernel)
set_option maxRecDepth 20000 in
theorem gX8_in_X8_isHour : GoodIn wsX8_in (va_wsS RX8 115 yX8_isHour wsX8_isHour) := goodIn_app (goodIn_of _ (by decide +kernel)) ggX8_in_X8_isHour
set_option maxRecDepth 20000 in
theorem ggX8_in_X0_termsIn : GoodIn wsX8_in wsX0_termsIn := goodIn_r _ [10, 11, 12, 13, 14, 15, 16, 17, 18, 19, 20, 21, 9, 22, 23, 24, 25, 26, 27, 28, 29, 30, 31, 32, 33, 34, 35, 36, 37, 38, 39, 40, 41, 42, 43, 44, 45, 46, 47, 48, 68, 69, 70, 71, 72, 73, 74, 75, 76, 77, 78, 79, 80] (by decide +kernel) (by decide +kernel)
set_option maxRecDepth 20000 in
theorem gX8_in_X0_termsIn : GoodIn wsX8_in (wsV RX8 118 RX0 yX0_termsIn wsX0_termsIn) := goodIn_app (goodIn_of _ (by decide +kernel)) ggX8_in_X0_termsIn
set_option maxRecDepth 20000 in
theorem ggX8_in_X8_told : GoodIn wsX8_in wsX8_told := goodIn_r _ [52, 53, 54, 55, 56, 57, 58, 59, 60, 61, 62, 63, 64, 65, 66, 67] (by decide +kernel) (by decide +kernel)
set_option maxRecDepth 20000 in
theorem gX8_in_X8_told : GoodIn wsX8_in (wsV RX8 71 RX8 yX8_told wsX8_told) := goodIn_app (goodIn_of _ (by decide +kernel)) ggX8_in_X8_told
theorem dX8_in_0 : decode cX8_in 0 = .ok (.iload_n 1, 1) := by decide +kernel
theorem dX8_in_1 : decode cX8_in 1 = .ok (.invokestatic 115, 3) := by decide +kernel
theorem dX8_in_4 : decode cX8_in 4 = .ok (.ifCond .eq 14, 3) := by decide +kernel
theorem dX8_in_7 : decode cX8_in 7 = .ok (.aload_n 0, 1) := by decide +kernel
theorem dX8_in_8 : decode cX8_in 8 = .ok (.getfield 44, 3) := by decide +kernel
theorem dX8_in_11 : decode cX8_in 11 = .ok (.iload_n 1, 1) := by decide +kernel
theorem dX8_in_12 : decode cX8_in 12 = .ok (.invokevirtual 118, 3) := by decide +kernel
theorem dX8_in_15 : decode cX8_in 15 = .ok (.goto 9, 3) := by decide +kernel
theorem dX8_in_18 : decode cX8_in 18 = .ok (.aload_n 0, 1) := by decide +kernel
theorem dX8_in_19 : decode cX8_in 19 = .ok (.bipush (-2), 2) := by decide +kernel
theorem dX8_in_21 : decode cX8_in 21 = .ok (.invokevirtual 71, 3) := by decide +kernel
theorem dX8_in_24 : decode cX8_in 24 = .ok (.ireturn, 1) := by decide +kernel
set_option maxRecDepth 20000 in
theorem ggX8_bill_X8_isPerson : GoodIn wsX8_bill wsX8_isPerson := goodIn_r _ [5] (by decide +kernel) (by decide +kernel)
set_option maxRecDepth 20000 in
theorem gX8_bill_X8_isPerson : GoodIn wsX8_bill (va_wsS RX8 121 yX8_isPerson wsX8_isPerson) := goodIn_app (goodIn_of _ (by decide +kernel)) ggX8_bill_X8_isPerson
set_option maxRecDepth 20000 in
theorem ggX8_bill_X0_billOf : GoodIn wsX8_bill wsX0_billOf := goodIn_r _ [10, 11, 12, 13, 14, 15, 16, 17, 18, 19, 20, 21, 22, 23, 24, 25, 26, 9, 27, 28, 29, 30, 31, 32, 33, 34, 35, 36, 37, 38, 39, 59, 60, 61, 62, 63, 64, 65, 66, 67, 68, 69, 70, 71] (by decide +kernel) (by decide +kernel)
set_option maxRecDepth 20000 in
theorem gX8_bill_X0_billOf : GoodIn wsX8_bill (wsV RX8 124 RX0 yX0_billOf wsX0_billOf) := goodIn_app (goodIn_of _ (by decide +kernel)) ggX8_bill_X0_billOf
set_option maxRecDepth 20000 in
theorem ggX8_bill_X8_told : GoodIn wsX8_bill wsX8_told := goodIn_r _ [43, 44, 45, 46, 47, 48, 49, 50, 51, 52, 53, 54, 55, 56, 57, 58] (by decide +kernel) (by decide +kernel)
set_option maxRecDepth 20000 in
theorem gX8_bill_X8_told : GoodIn wsX8_bill (wsV RX8 71 RX8 yX8_told wsX8_told) := goodIn_app (goodIn_of _ (by decide +kernel)) ggX8_bill_X8_told
theorem dX8_bill_0 : decode cX8_bill 0 = .ok (.iload_n 1, 1) := by decide +kernel
theorem dX8_bill_1 : decode cX8_bill 1 = .ok (.invokestatic 121, 3) := by decide +kernel
theorem dX8_bill_4 : decode cX8_bill 4 = .ok (.ifCond .eq 14, 3) := by decide +kernel
theorem dX8_bill_7 : decode cX8_bill 7 = .ok (.aload_n 0, 1) := by decide +kernel
theorem dX8_bill_8 : decode cX8_bill 8 = .ok (.getfield 44, 3) := by decide +kernel
theorem dX8_bill_11 : decode cX8_bill 11 = .ok (.iload_n 1, 1) := by decide +kernel
theorem dX8_bill_12 : decode cX8_bill 12 = .ok (.invokevirtual 124, 3) := by decide +kernel
theorem dX8_bill_15 : decode cX8_bill 15 = .ok (.goto 9, 3) := by decide +kernel
theorem dX8_bill_18 : decode cX8_bill 18 = .ok (.aload_n 0, 1) := by decide +kernel
theorem dX8_bill_19 : decode cX8_bill 19 = .ok (.bipush (-2), 2) := by decide +kernel
theorem dX8_bill_21 : decode cX8_bill 21 = .ok (.invokevirtual 71, 3) := by decide +kernel
theorem dX8_bill_24 : decode cX8_bill 24 = .ok (.ireturn, 1) := by decide +kernel
set_option maxRecDepth 20000 in
theorem ggX8_said_X0_addSaid : GoodIn wsX8_said wsX0_addSaid := goodIn_r _ [6, 7, 8, 9, 10, 11, 12, 13, 14, 15, 16, 17, 18, 19, 20, 21, 22, 23, 24, 25, 45, 46, 47, 48, 49, 50, 51, 52, 53, 54, 55, 56, 57] (by decide +kernel) (by decide +kernel)
set_option maxRecDepth 20000 in
theorem gX8_said_X0_addSaid : GoodIn wsX8_said (wsV RX8 127 RX0 yX0_addSaid wsX0_addSaid) := goodIn_app (goodIn_of _ (by decide +kernel)) ggX8_said_X0_addSaid
set_option maxRecDepth 20000 in
theorem ggX8_said_X8_told : GoodIn wsX8_said wsX8_told := goodIn_r _ [29, 30, 31, 32, 33, 34, 35, 36, 37, 38, 39, 40, 41, 42, 43, 44] (by decide +kernel) (by decide +kernel)
set_option maxRecDepth 20000 in
theorem gX8_said_X8_told : GoodIn wsX8_said (wsV RX8 71 RX8 yX8_told wsX8_told) := goodIn_app (goodIn_of _ (by decide +kernel)) ggX8_said_X8_told
theorem dX8_said_0 : decode cX8_said 0 = .ok (.aload_n 0, 1) := by decide +kernel
theorem dX8_said_1 : decode cX8_said 1 = .ok (.aload_n 0, 1) := by decide +kernel
theorem dX8_said_2 : decode cX8_said 2 = .ok (.getfield 44, 3) := by decide +kernel
theorem dX8_said_5 : decode cX8_said 5 = .ok (.iload_n 1, 1) := by decide +kernel
theorem dX8_said_6 : decode cX8_said 6 = .ok (.iload_n 2, 1) := by decide +kernel
theorem dX8_said_7 : decode cX8_said 7 = .ok (.iload_n 3, 1) := by decide +kernel
theorem dX8_said_8 : decode cX8_said 8 = .ok (.invokevirtual 127, 3) := by decide +kernel
theorem dX8_said_11 : decode cX8_said 11 = .ok (.invokevirtual 71, 3) := by decide +kernel
theorem dX8_said_14 : decode cX8_said 14 = .ok (.ireturn, 1) := by decide +kernel
set_option maxRecDepth 20000 in
theorem ggX8_judge_X0_firstWithoutLoan : GoodIn wsX8_judge wsX0_firstWithoutLoan := goodIn_r _ [6, 7, 8, 9, 10, 11, 12, 13, 14, 15, 16, 17, 18, 19, 20, 21, 22, 5, 23, 24, 25, 26, 27, 28, 29, 30, 31, 32, 45, 46, 47, 48, 49, 50, 51, 52, 53, 54, 55, 56, 57] (by decide +kernel) (by decide +kernel)
set_option maxRecDepth 20000 in
theorem gX8_judge_X0_firstWithoutLoan : GoodIn wsX8_judge (wsV RX8 130 RX0 yX0_firstWithoutLoan wsX0_firstWithoutLoan) := goodIn_app (goodIn_of _ (by decide +kernel)) ggX8_judge_X0_firstWithoutLoan
theorem dX8_judge_0 : decode cX8_judge 0 = .ok (.aload_n 0, 1) := by decide +kernel
theorem dX8_judge_1 : decode cX8_judge 1 = .ok (.getfield 44, 3) := by decide +kernel
theorem dX8_judge_4 : decode cX8_judge 4 = .ok (.invokevirtual 130, 3) := by decide +kernel
theorem dX8_judge_7 : decode cX8_judge 7 = .ok (.ireturn, 1) := by decide +kernel
set_option maxRecDepth 20000 in
theorem ggX8_type_X7_append : GoodIn wsX8_type wsX7_append := goodIn_r _ [6, 7, 8, 9, 30, 31, 32, 33] (by decide +kernel) (by decide +kernel)
set_option maxRecDepth 20000 in
theorem gX8_type_X7_append : GoodIn wsX8_type (wsV RX8 133 RX7 yX7_append wsX7_append) := goodIn_app (goodIn_of _ (by decide +kernel)) ggX8_type_X7_append
set_option maxRecDepth 20000 in
theorem ggX8_type_X8_told : GoodIn wsX8_type wsX8_told := goodIn_r _ [14, 15, 16, 17, 18, 19, 20, 21, 22, 23, 24, 25, 26, 27, 28, 29] (by decide +kernel) (by decide +kernel)
set_option maxRecDepth 20000 in
theorem gX8_type_X8_told : GoodIn wsX8_type (wsV RX8 71 RX8 yX8_told wsX8_told) := goodIn_app (goodIn_of _ (by decide +kernel)) ggX8_type_X8_told
theorem dX8_type_0 : decode cX8_type 0 = .ok (.aload_n 0, 1) := by decide +kernel
theorem dX8_type_1 : decode cX8_type 1 = .ok (.aload_n 0, 1) := by decide +kernel
theorem dX8_type_2 : decode cX8_type 2 = .ok (.getfield 12, 3) := by decide +kernel
theorem dX8_type_5 : decode cX8_type 5 = .ok (.lload_n 1, 1) := by decide +kernel
theorem dX8_type_6 : decode cX8_type 6 = .ok (.iload_n 3, 1) := by decide +kernel
theorem dX8_type_7 : decode cX8_type 7 = .ok (.invokevirtual 133, 3) := by decide +kernel
theorem dX8_type_10 : decode cX8_type 10 = .ok (.invokevirtual 71, 3) := by decide +kernel
theorem dX8_type_13 : decode cX8_type 13 = .ok (.ireturn, 1) := by decide +kernel
set_option maxRecDepth 20000 in
theorem ggX8_clear_X7_empty : GoodIn wsX8_clear wsX7_empty := goodIn_r _ [6, 7, 20, 21, 22, 23] (by decide +kernel) (by decide +kernel)
set_option maxRecDepth 20000 in
theorem gX8_clear_X7_empty : GoodIn wsX8_clear (wsV RX8 137 RX7 yX7_empty wsX7_empty) := goodIn_app (goodIn_of _ (by decide +kernel)) ggX8_clear_X7_empty
theorem dX8_clear_0 : decode cX8_clear 0 = .ok (.aload_n 0, 1) := by decide +kernel
theorem dX8_clear_1 : decode cX8_clear 1 = .ok (.getfield 12, 3) := by decide +kernel
theorem dX8_clear_4 : decode cX8_clear 4 = .ok (.invokevirtual 137, 3) := by decide +kernel
theorem dX8_clear_7 : decode cX8_clear 7 = .ok (.ireturn, 1) := by decide +kernel
set_option maxRecDepth 20000 in
theorem ggX8_read_X0_forget : GoodIn wsX8_read wsX0_forget := goodIn_r _ [8, 9, 10, 11, 12, 13, 14, 15, 16, 17, 18, 19, 20, 21, 22, 23, 24, 25, 26, 27, 196, 197, 198, 199, 200, 201, 202, 203, 204, 205, 206, 207, 208] (by decide +kernel) (by decide +kernel)
set_option maxRecDepth 20000 in
theorem gX8_read_X0_forget : GoodIn wsX8_read (wsV RX8 139 RX0 yX0_forget wsX0_forget) := goodIn_app (goodIn_of _ (by decide +kernel)) ggX8_read_X0_forget
set_option maxRecDepth 20000 in
theorem ggX8_read_X7_tellTo : GoodIn wsX8_read wsX7_tellTo := goodIn_r _ [32, 33, 34, 35, 36, 37, 31, 38, 39, 40, 41, 42, 43, 44, 45, 46, 47, 48, 49, 50, 51, 52, 53, 54, 55, 56, 57, 58, 59, 60, 61, 62, 63, 64, 65, 66, 67, 68, 69, 70, 71, 72, 73, 74, 75, 76, 77, 78, 79, 80, 81, 82, 83, 84, 85, 86, 87, 88, 89, 90, 91, 92, 93, 94, 95, 96, 97, 98, 99, 100, 101, 102, 103, 104, 105, 106, 107, 108, 109, 110, 111, 112, 113, 114, 115, 116, 117, 118, 119, 120, 121, 122, 123, 124, 125, 126, 127, 128, 129, 130, 131, 132, 7, 133, 9, 134, 135, 136, 21, 137, 23, 138, 139, 140, 141, 142, 143, 12, 144, 145, 146, 147, 148, 149, 150, 151, 10, 152, 153, 154, 155, 156, 157, 158, 159, 160, 13, 161, 162, 163, 164, 165, 166, 167, 168, 169, 170, 171, 172, 173, 174, 175, 176, 177, 178, 179, 180, 181, 182, 183, 14, 209, 210, 211, 212, 196, 197, 198, 199, 200, 201, 202, 203, 204, 205, 206, 207, 208] (by decide +kernel) (by decide +kernel)
set_option maxRecDepth 20000 in
theorem gX8_read_X7_tellTo : GoodIn wsX8_read (wsV RX8 142 RX7 yX7_tellTo wsX7_tellTo) := goodIn_app (goodIn_of _ (by decide +kernel)) ggX8_read_X7_tellTo
theorem dX8_read_0 : decode cX8_read 0 = .ok (.aload_n 0, 1) := by decide +kernel
theorem dX8_read_1 : decode cX8_read 1 = .ok (.getfield 48, 3) := by decide +kernel
theorem dX8_read_4 : decode cX8_read 4 = .ok (.invokevirtual 139, 3) := by decide +kernel
theorem dX8_read_7 : decode cX8_read 7 = .ok (.aload_n 0, 1) := by decide +kernel
theorem dX8_read_8 : decode cX8_read 8 = .ok (.getfield 12, 3) := by decide +kernel
theorem dX8_read_11 : decode cX8_read 11 = .ok (.aload_n 0, 1) := by decide +kernel
theorem dX8_read_12 : decode cX8_read 12 = .ok (.getfield 48, 3) := by decide +kernel
theorem dX8_read_15 : decode cX8_read 15 = .ok (.invokevirtual 142, 3) := by decide +kernel
theorem dX8_read_18 : decode cX8_read 18 = .ok (.istore_n 1, 1) := by decide +kernel
theorem dX8_read_19 : decode cX8_read 19 = .ok (.iload_n 1, 1) := by decide +kernel
theorem dX8_read_20 : decode cX8_read 20 = .ok (.ifCond .lt 21, 3) := by decide +kernel
theorem dX8_read_23 : decode cX8_read 23 = .ok (.aload_n 0, 1) := by decide +kernel
theorem dX8_read_24 : decode cX8_read 24 = .ok (.getfield 44, 3) := by decide +kernel
theorem dX8_read_27 : decode cX8_read 27 = .ok (.astore_n 2, 1) := by decide +kernel
theorem dX8_read_28 : decode cX8_read 28 = .ok (.aload_n 0, 1) := by decide +kernel
theorem dX8_read_29 : decode cX8_read 29 = .ok (.aload_n 0, 1) := by decide +kernel
theorem dX8_read_30 : decode cX8_read 30 = .ok (.getfield 48, 3) := by decide +kernel
theorem dX8_read_33 : decode cX8_read 33 = .ok (.putfield 44, 3) := by decide +kernel
theorem dX8_read_36 : decode cX8_read 36 = .ok (.aload_n 0, 1) := by decide +kernel
theorem dX8_read_37 : decode cX8_read 37 = .ok (.aload_n 2, 1) := by decide +kernel
theorem dX8_read_38 : decode cX8_read 38 = .ok (.putfield 48, 3) := by decide +kernel
theorem dX8_read_41 : decode cX8_read 41 = .ok (.iload_n 1, 1) := by decide +kernel
theorem dX8_read_42 : decode cX8_read 42 = .ok (.ireturn, 1) := by decide +kernel
set_option maxRecDepth 20000 in
theorem ggX8_rule_X0_addRule : GoodIn wsX8_rule wsX0_addRule := goodIn_r _ [6, 7, 8, 9, 10, 11, 12, 13, 14, 15, 16, 17, 18, 19, 20, 41, 42, 43, 44, 45, 46, 47, 48, 49, 50, 51, 52, 53] (by decide +kernel) (by decide +kernel)
set_option maxRecDepth 20000 in
theorem gX8_rule_X0_addRule : GoodIn wsX8_rule (wsV RX8 146 RX0 yX0_addRule wsX0_addRule) := goodIn_app (goodIn_of _ (by decide +kernel)) ggX8_rule_X0_addRule
set_option maxRecDepth 20000 in
theorem ggX8_rule_X8_told : GoodIn wsX8_rule wsX8_told := goodIn_r _ [25, 26, 27, 28, 29, 30, 31, 32, 33, 34, 35, 36, 37, 38, 39, 40] (by decide +kernel) (by decide +kernel)
set_option maxRecDepth 20000 in
theorem gX8_rule_X8_told : GoodIn wsX8_rule (wsV RX8 71 RX8 yX8_told wsX8_told) := goodIn_app (goodIn_of _ (by decide +kernel)) ggX8_rule_X8_told
theorem dX8_rule_0 : decode cX8_rule 0 = .ok (.aload_n 0, 1) := by decide +kernel
theorem dX8_rule_1 : decode cX8_rule 1 = .ok (.aload_n 0, 1) := by decide +kernel
theorem dX8_rule_2 : decode cX8_rule 2 = .ok (.getfield 44, 3) := by decide +kernel
theorem dX8_rule_5 : decode cX8_rule 5 = .ok (.iload_n 1, 1) := by decide +kernel
theorem dX8_rule_6 : decode cX8_rule 6 = .ok (.iload_n 2, 1) := by decide +kernel
theorem dX8_rule_7 : decode cX8_rule 7 = .ok (.iload_n 3, 1) := by decide +kernel
theorem dX8_rule_8 : decode cX8_rule 8 = .ok (.invokevirtual 146, 3) := by decide +kernel
theorem dX8_rule_11 : decode cX8_rule 11 = .ok (.invokevirtual 71, 3) := by decide +kernel
theorem dX8_rule_14 : decode cX8_rule 14 = .ok (.ireturn, 1) := by decide +kernel
set_option maxRecDepth 20000 in
theorem ggX8_roundAbout_X4_holds : GoodIn wsX8_roundAbout wsX4_holds := goodIn_r _ [7, 8, 85, 86, 87, 88] (by decide +kernel) (by decide +kernel)
set_option maxRecDepth 20000 in
theorem gX8_roundAbout_X4_holds : GoodIn wsX8_roundAbout (wsV RX8 79 RX4 yX4_holds wsX4_holds) := goodIn_app (goodIn_of _ (by decide +kernel)) ggX8_roundAbout_X4_holds
set_option maxRecDepth 20000 in
theorem ggX8_roundAbout_X0_isSet : GoodIn wsX8_roundAbout wsX0_isSet := goodIn_r _ [13, 14, 15, 16, 12, 17, 18, 19, 20, 21, 6, 22, 8, 76, 77, 78, 79, 80, 81, 82, 83, 84, 85, 86, 87, 88] (by decide +kernel) (by decide +kernel)
set_option maxRecDepth 20000 in
theorem gX8_roundAbout_X0_isSet : GoodIn wsX8_roundAbout (wsV RX8 149 RX0 yX0_isSet wsX0_isSet) := goodIn_app (goodIn_of _ (by decide +kernel)) ggX8_roundAbout_X0_isSet
set_option maxRecDepth 20000 in
theorem ggX8_roundAbout_X8_badTen : GoodIn wsX8_roundAbout wsX8_badTen := goodIn_r _ [27, 28, 64, 65, 66, 67, 68, 69, 70, 71, 72, 73, 74, 75] (by decide +kernel) (by decide +kernel)
set_option maxRecDepth 20000 in
theorem gX8_roundAbout_X8_badTen : GoodIn wsX8_roundAbout (wsV RX8 152 RX8 yX8_badTen wsX8_badTen) := goodIn_app (goodIn_of _ (by decide +kernel)) ggX8_roundAbout_X8_badTen
set_option maxRecDepth 20000 in
theorem ggX8_roundAbout_X6_weigh : GoodIn wsX8_roundAbout wsX6_weigh := goodIn_r _ [33, 34, 35, 26, 36, 37, 20, 21, 6, 22, 8, 38, 39, 40, 41, 42, 43, 44, 45, 46, 32, 47, 48, 49, 50, 51, 52, 53, 54, 89, 90, 91, 92, 76, 77, 78, 79, 80, 81, 82, 83, 84, 85, 86, 87, 88] (by decide +kernel) (by decide +kernel)
set_option maxRecDepth 20000 in
theorem gX8_roundAbout_X6_weigh : GoodIn wsX8_roundAbout (wsV RX8 155 RX6 yX6_weigh wsX6_weigh) := goodIn_app (goodIn_of _ (by decide +kernel)) ggX8_roundAbout_X6_weigh
set_option maxRecDepth 20000 in
theorem ggX8_roundAbout_X6_fewest : GoodIn wsX8_roundAbout wsX6_fewest := goodIn_r _ [51, 34, 52, 53, 32, 54, 89, 90, 91, 92] (by decide +kernel) (by decide +kernel)
set_option maxRecDepth 20000 in
theorem gX8_roundAbout_X6_fewest : GoodIn wsX8_roundAbout (wsV RX8 159 RX6 yX6_fewest wsX6_fewest) := goodIn_app (goodIn_of _ (by decide +kernel)) ggX8_roundAbout_X6_fewest
set_option maxRecDepth 20000 in
theorem ggX8_roundAbout_X6_placeOfRow : GoodIn wsX8_roundAbout wsX6_placeOfRow := goodIn_r _ [59, 48, 49, 50, 32, 51, 34, 52, 53, 54, 60, 61, 62, 63, 37, 20, 21, 6, 22, 8, 38, 39, 40, 41, 42, 43, 44, 45, 46, 47, 76, 77, 78, 79, 80, 81, 82, 83, 84, 89, 90, 91, 92, 85, 86, 87, 88] (by decide +kernel) (by decide +kernel)
set_option maxRecDepth 20000 in
theorem gX8_roundAbout_X6_placeOfRow : GoodIn wsX8_roundAbout (wsV RX8 162 RX6 yX6_placeOfRow wsX6_placeOfRow) := goodIn_app (goodIn_of _ (by decide +kernel)) ggX8_roundAbout_X6_placeOfRow
theorem dX8_roundAbout_0 : decode cX8_roundAbout 0 = .ok (.aload_n 0, 1) := by decide +kernel
theorem dX8_roundAbout_1 : decode cX8_roundAbout 1 = .ok (.getfield 44, 3) := by decide +kernel
theorem dX8_roundAbout_4 : decode cX8_roundAbout 4 = .ok (.getfield 75, 3) := by decide +kernel
theorem dX8_roundAbout_7 : decode cX8_roundAbout 7 = .ok (.iload_n 1, 1) := by decide +kernel
theorem dX8_roundAbout_8 : decode cX8_roundAbout 8 = .ok (.invokevirtual 79, 3) := by decide +kernel
theorem dX8_roundAbout_11 : decode cX8_roundAbout 11 = .ok (.ifCond .eq 19, 3) := by decide +kernel
theorem dX8_roundAbout_14 : decode cX8_roundAbout 14 = .ok (.aload_n 0, 1) := by decide +kernel
theorem dX8_roundAbout_15 : decode cX8_roundAbout 15 = .ok (.getfield 44, 3) := by decide +kernel
theorem dX8_roundAbout_18 : decode cX8_roundAbout 18 = .ok (.iload_n 2, 1) := by decide +kernel
theorem dX8_roundAbout_19 : decode cX8_roundAbout 19 = .ok (.invokevirtual 149, 3) := by decide +kernel
theorem dX8_roundAbout_22 : decode cX8_roundAbout 22 = .ok (.ifCond .eq 8, 3) := by decide +kernel
theorem dX8_roundAbout_25 : decode cX8_roundAbout 25 = .ok (.iload_n 3, 1) := by decide +kernel
theorem dX8_roundAbout_26 : decode cX8_roundAbout 26 = .ok (.iconst (-1), 1) := by decide +kernel
theorem dX8_roundAbout_27 : decode cX8_roundAbout 27 = .ok (.if_icmp .ge 8, 3) := by decide +kernel
theorem dX8_roundAbout_30 : decode cX8_roundAbout 30 = .ok (.aload_n 0, 1) := by decide +kernel
theorem dX8_roundAbout_31 : decode cX8_roundAbout 31 = .ok (.invokevirtual 152, 3) := by decide +kernel
theorem dX8_roundAbout_34 : decode cX8_roundAbout 34 = .ok (.ireturn, 1) := by decide +kernel
theorem dX8_roundAbout_35 : decode cX8_roundAbout 35 = .ok (.aload_n 0, 1) := by decide +kernel
theorem dX8_roundAbout_36 : decode cX8_roundAbout 36 = .ok (.getfield 19, 3) := by decide +kernel
theorem dX8_roundAbout_39 : decode cX8_roundAbout 39 = .ok (.aload_n 0, 1) := by decide +kernel
theorem dX8_roundAbout_40 : decode cX8_roundAbout 40 = .ok (.getfield 44, 3) := by decide +kernel
theorem dX8_roundAbout_43 : decode cX8_roundAbout 43 = .ok (.iload_n 2, 1) := by decide +kernel
theorem dX8_roundAbout_44 : decode cX8_roundAbout 44 = .ok (.invokevirtual 155, 3) := by decide +kernel
theorem dX8_roundAbout_47 : decode cX8_roundAbout 47 = .ok (.aload_n 0, 1) := by decide +kernel
theorem dX8_roundAbout_48 : decode cX8_roundAbout 48 = .ok (.getfield 19, 3) := by decide +kernel
theorem dX8_roundAbout_51 : decode cX8_roundAbout 51 = .ok (.iload_n 1, 1) := by decide +kernel
theorem dX8_roundAbout_52 : decode cX8_roundAbout 52 = .ok (.invokevirtual 159, 3) := by decide +kernel
theorem dX8_roundAbout_55 : decode cX8_roundAbout 55 = .ok (.istore 4, 2) := by decide +kernel
theorem dX8_roundAbout_57 : decode cX8_roundAbout 57 = .ok (.iload 4, 2) := by decide +kernel
theorem dX8_roundAbout_59 : decode cX8_roundAbout 59 = .ok (.ifCond .ne 5, 3) := by decide +kernel
theorem dX8_roundAbout_62 : decode cX8_roundAbout 62 = .ok (.iconst (-1), 1) := by decide +kernel
theorem dX8_roundAbout_63 : decode cX8_roundAbout 63 = .ok (.ireturn, 1) := by decide +kernel
theorem dX8_roundAbout_64 : decode cX8_roundAbout 64 = .ok (.iload_n 3, 1) := by decide +kernel
theorem dX8_roundAbout_65 : decode cX8_roundAbout 65 = .ok (.iconst (-1), 1) := by decide +kernel
theorem dX8_roundAbout_66 : decode cX8_roundAbout 66 = .ok (.if_icmp .ne 6, 3) := by decide +kernel
theorem dX8_roundAbout_69 : decode cX8_roundAbout 69 = .ok (.iload 4, 2) := by decide +kernel
theorem dX8_roundAbout_71 : decode cX8_roundAbout 71 = .ok (.ireturn, 1) := by decide +kernel
theorem dX8_roundAbout_72 : decode cX8_roundAbout 72 = .ok (.iload_n 3, 1) := by decide +kernel
theorem dX8_roundAbout_73 : decode cX8_roundAbout 73 = .ok (.iload 4, 2) := by decide +kernel
theorem dX8_roundAbout_75 : decode cX8_roundAbout 75 = .ok (.if_icmp .ge 19, 3) := by decide +kernel
theorem dX8_roundAbout_78 : decode cX8_roundAbout 78 = .ok (.aload_n 0, 1) := by decide +kernel
theorem dX8_roundAbout_79 : decode cX8_roundAbout 79 = .ok (.getfield 19, 3) := by decide +kernel
theorem dX8_roundAbout_82 : decode cX8_roundAbout 82 = .ok (.aload_n 0, 1) := by decide +kernel
theorem dX8_roundAbout_83 : decode cX8_roundAbout 83 = .ok (.getfield 44, 3) := by decide +kernel
theorem dX8_roundAbout_86 : decode cX8_roundAbout 86 = .ok (.iload_n 1, 1) := by decide +kernel
theorem dX8_roundAbout_87 : decode cX8_roundAbout 87 = .ok (.iload_n 3, 1) := by decide +kernel
theorem dX8_roundAbout_88 : decode cX8_roundAbout 88 = .ok (.invokevirtual 162, 3) := by decide +kernel
theorem dX8_roundAbout_91 : decode cX8_roundAbout 91 = .ok (.goto 5, 3) := by decide +kernel
theorem dX8_roundAbout_94 : decode cX8_roundAbout 94 = .ok (.bipush (-5), 2) := by decide +kernel
theorem dX8_roundAbout_96 : decode cX8_roundAbout 96 = .ok (.ireturn, 1) := by decide +kernel
set_option maxRecDepth 20000 in
theorem ggX8_want_X0_addWant : GoodIn wsX8_want wsX0_addWant := goodIn_r _ [6, 7, 8, 9, 10, 11, 12, 13, 14, 15, 16, 17, 18, 19, 20, 5, 21, 22, 23, 24, 25, 26, 27, 28, 29, 30, 31, 32, 33, 34, 35, 36, 37, 38, 39, 40, 60, 61, 62, 63, 64, 65, 66, 67, 68, 69, 70, 71, 72] (by decide +kernel) (by decide +kernel)
set_option maxRecDepth 20000 in
theorem gX8_want_X0_addWant : GoodIn wsX8_want (wsV RX8 166 RX0 yX0_addWant wsX0_addWant) := goodIn_app (goodIn_of _ (by decide +kernel)) ggX8_want_X0_addWant
set_option maxRecDepth 20000 in
theorem ggX8_want_X8_told : GoodIn wsX8_want wsX8_told := goodIn_r _ [44, 45, 46, 47, 48, 49, 50, 51, 52, 53, 54, 55, 56, 57, 58, 59] (by decide +kernel) (by decide +kernel)
set_option maxRecDepth 20000 in
theorem gX8_want_X8_told : GoodIn wsX8_want (wsV RX8 71 RX8 yX8_told wsX8_told) := goodIn_app (goodIn_of _ (by decide +kernel)) ggX8_want_X8_told
theorem dX8_want_0 : decode cX8_want 0 = .ok (.aload_n 0, 1) := by decide +kernel
theorem dX8_want_1 : decode cX8_want 1 = .ok (.aload_n 0, 1) := by decide +kernel
theorem dX8_want_2 : decode cX8_want 2 = .ok (.getfield 44, 3) := by decide +kernel
theorem dX8_want_5 : decode cX8_want 5 = .ok (.iload_n 1, 1) := by decide +kernel
theorem dX8_want_6 : decode cX8_want 6 = .ok (.iload_n 2, 1) := by decide +kernel
theorem dX8_want_7 : decode cX8_want 7 = .ok (.iload_n 3, 1) := by decide +kernel
theorem dX8_want_8 : decode cX8_want 8 = .ok (.iload 4, 2) := by decide +kernel
theorem dX8_want_10 : decode cX8_want 10 = .ok (.invokevirtual 166, 3) := by decide +kernel
theorem dX8_want_13 : decode cX8_want 13 = .ok (.invokevirtual 71, 3) := by decide +kernel
theorem dX8_want_16 : decode cX8_want 16 = .ok (.ireturn, 1) := by decide +kernel
set_option maxRecDepth 20000 in
theorem ggX8_plan_X4_holds : GoodIn wsX8_plan wsX4_holds := goodIn_r _ [7, 8, 92, 93, 94, 95] (by decide +kernel) (by decide +kernel)
set_option maxRecDepth 20000 in
theorem gX8_plan_X4_holds : GoodIn wsX8_plan (wsV RX8 79 RX4 yX4_holds wsX4_holds) := goodIn_app (goodIn_of _ (by decide +kernel)) ggX8_plan_X4_holds
set_option maxRecDepth 20000 in
theorem ggX8_plan_X8_badTen : GoodIn wsX8_plan wsX8_badTen := goodIn_r _ [13, 14, 71, 72, 73, 74, 75, 76, 77, 78, 79, 80, 81, 82] (by decide +kernel) (by decide +kernel)
set_option maxRecDepth 20000 in
theorem gX8_plan_X8_badTen : GoodIn wsX8_plan (wsV RX8 152 RX8 yX8_badTen wsX8_badTen) := goodIn_app (goodIn_of _ (by decide +kernel)) ggX8_plan_X8_badTen
set_option maxRecDepth 20000 in
theorem ggX8_plan_X5_mostMet : GoodIn wsX8_plan wsX5_mostMet := goodIn_r _ [19, 20, 21, 22, 23, 24, 25, 26, 27, 28, 4, 5, 6, 7, 8, 29, 30, 31, 32, 33, 34, 35, 36, 37, 38, 39, 40, 41, 42, 43, 44, 18, 45, 46, 47, 48, 49, 50, 51, 52, 53, 54, 55, 56, 57, 58, 59, 60, 61, 12, 62, 63, 64, 65, 66, 96, 97, 98, 99, 83, 84, 85, 86, 87, 88, 89, 90, 91, 92, 93, 94, 95] (by decide +kernel) (by decide +kernel)
set_option maxRecDepth 20000 in
theorem gX8_plan_X5_mostMet : GoodIn wsX8_plan (wsV RX8 172 RX5 yX5_mostMet wsX5_mostMet) := goodIn_app (goodIn_of _ (by decide +kernel)) ggX8_plan_X5_mostMet
set_option maxRecDepth 20000 in
theorem ggX8_plan_X5_hourOf : GoodIn wsX8_plan wsX5_hourOf := goodIn_r _ [70, 47, 96, 97, 98, 99] (by decide +kernel) (by decide +kernel)
set_option maxRecDepth 20000 in
theorem gX8_plan_X5_hourOf : GoodIn wsX8_plan (wsV RX8 176 RX5 yX5_hourOf wsX5_hourOf) := goodIn_app (goodIn_of _ (by decide +kernel)) ggX8_plan_X5_hourOf
theorem dX8_plan_0 : decode cX8_plan 0 = .ok (.iload_n 1, 1) := by decide +kernel
theorem dX8_plan_1 : decode cX8_plan 1 = .ok (.iconst (-1), 1) := by decide +kernel
theorem dX8_plan_2 : decode cX8_plan 2 = .ok (.if_icmp .eq 22, 3) := by decide +kernel
theorem dX8_plan_5 : decode cX8_plan 5 = .ok (.aload_n 0, 1) := by decide +kernel
theorem dX8_plan_6 : decode cX8_plan 6 = .ok (.getfield 44, 3) := by decide +kernel
theorem dX8_plan_9 : decode cX8_plan 9 = .ok (.getfield 169, 3) := by decide +kernel
theorem dX8_plan_12 : decode cX8_plan 12 = .ok (.iload_n 1, 1) := by decide +kernel
theorem dX8_plan_13 : decode cX8_plan 13 = .ok (.invokevirtual 79, 3) := by decide +kernel
theorem dX8_plan_16 : decode cX8_plan 16 = .ok (.ifCond .ne 8, 3) := by decide +kernel
theorem dX8_plan_19 : decode cX8_plan 19 = .ok (.aload_n 0, 1) := by decide +kernel
theorem dX8_plan_20 : decode cX8_plan 20 = .ok (.invokevirtual 152, 3) := by decide +kernel
theorem dX8_plan_23 : decode cX8_plan 23 = .ok (.ireturn, 1) := by decide +kernel
theorem dX8_plan_24 : decode cX8_plan 24 = .ok (.aload_n 0, 1) := by decide +kernel
theorem dX8_plan_25 : decode cX8_plan 25 = .ok (.getfield 26, 3) := by decide +kernel
theorem dX8_plan_28 : decode cX8_plan 28 = .ok (.aload_n 0, 1) := by decide +kernel
theorem dX8_plan_29 : decode cX8_plan 29 = .ok (.getfield 44, 3) := by decide +kernel
theorem dX8_plan_32 : decode cX8_plan 32 = .ok (.iconst (-1), 1) := by decide +kernel
theorem dX8_plan_33 : decode cX8_plan 33 = .ok (.invokevirtual 172, 3) := by decide +kernel
theorem dX8_plan_36 : decode cX8_plan 36 = .ok (.istore_n 2, 1) := by decide +kernel
theorem dX8_plan_37 : decode cX8_plan 37 = .ok (.iload_n 1, 1) := by decide +kernel
theorem dX8_plan_38 : decode cX8_plan 38 = .ok (.iconst (-1), 1) := by decide +kernel
theorem dX8_plan_39 : decode cX8_plan 39 = .ok (.if_icmp .ne 7, 3) := by decide +kernel
theorem dX8_plan_42 : decode cX8_plan 42 = .ok (.iload_n 2, 1) := by decide +kernel
theorem dX8_plan_43 : decode cX8_plan 43 = .ok (.goto 11, 3) := by decide +kernel
theorem dX8_plan_46 : decode cX8_plan 46 = .ok (.aload_n 0, 1) := by decide +kernel
theorem dX8_plan_47 : decode cX8_plan 47 = .ok (.getfield 26, 3) := by decide +kernel
theorem dX8_plan_50 : decode cX8_plan 50 = .ok (.iload_n 1, 1) := by decide +kernel
theorem dX8_plan_51 : decode cX8_plan 51 = .ok (.invokevirtual 176, 3) := by decide +kernel
theorem dX8_plan_54 : decode cX8_plan 54 = .ok (.ireturn, 1) := by decide +kernel
set_option maxRecDepth 20000 in
theorem ggX8_buy_X5_bestToBuy : GoodIn wsX8_buy wsX5_bestToBuy := goodIn_r _ [7, 8, 9, 10, 6, 11, 12, 13, 14, 15, 16, 17, 18, 19, 20, 21, 22, 23, 24, 25, 26, 27, 28, 29, 30, 31, 32, 33, 34, 35, 36, 37, 38, 39, 40, 41, 42, 43, 44, 45, 46, 47, 48, 49, 50, 51, 52, 53, 54, 55, 56, 57, 58, 59, 60, 61, 62, 63, 64, 65, 78, 79, 80, 81, 82, 83, 84, 85, 86, 87, 88, 89, 90, 91, 92, 93, 94] (by decide +kernel) (by decide +kernel)
set_option maxRecDepth 20000 in
theorem gX8_buy_X5_bestToBuy : GoodIn wsX8_buy (wsV RX8 179 RX5 yX5_bestToBuy wsX5_bestToBuy) := goodIn_app (goodIn_of _ (by decide +kernel)) ggX8_buy_X5_bestToBuy
theorem dX8_buy_0 : decode cX8_buy 0 = .ok (.aload_n 0, 1) := by decide +kernel
theorem dX8_buy_1 : decode cX8_buy 1 = .ok (.getfield 26, 3) := by decide +kernel
theorem dX8_buy_4 : decode cX8_buy 4 = .ok (.aload_n 0, 1) := by decide +kernel
theorem dX8_buy_5 : decode cX8_buy 5 = .ok (.getfield 44, 3) := by decide +kernel
theorem dX8_buy_8 : decode cX8_buy 8 = .ok (.invokevirtual 179, 3) := by decide +kernel
theorem dX8_buy_11 : decode cX8_buy 11 = .ok (.ireturn, 1) := by decide +kernel
set_option maxRecDepth 20000 in
theorem ggX8_waits_X0_setWaits : GoodIn wsX8_waits wsX0_setWaits := goodIn_r _ [6, 7, 8, 9, 10, 11, 12, 13, 14, 5, 15, 16, 17, 18, 19, 20, 21, 22, 23, 24, 25, 26, 46, 47, 48, 49, 50, 51, 52, 53, 54, 55, 56, 57, 58] (by decide +kernel) (by decide +kernel)
set_option maxRecDepth 20000 in
theorem gX8_waits_X0_setWaits : GoodIn wsX8_waits (wsV RX8 182 RX0 yX0_setWaits wsX0_setWaits) := goodIn_app (goodIn_of _ (by decide +kernel)) ggX8_waits_X0_setWaits
set_option maxRecDepth 20000 in
theorem ggX8_waits_X8_told : GoodIn wsX8_waits wsX8_told := goodIn_r _ [30, 31, 32, 33, 34, 35, 36, 37, 38, 39, 40, 41, 42, 43, 44, 45] (by decide +kernel) (by decide +kernel)
set_option maxRecDepth 20000 in
theorem gX8_waits_X8_told : GoodIn wsX8_waits (wsV RX8 71 RX8 yX8_told wsX8_told) := goodIn_app (goodIn_of _ (by decide +kernel)) ggX8_waits_X8_told
theorem dX8_waits_0 : decode cX8_waits 0 = .ok (.aload_n 0, 1) := by decide +kernel
theorem dX8_waits_1 : decode cX8_waits 1 = .ok (.aload_n 0, 1) := by decide +kernel
theorem dX8_waits_2 : decode cX8_waits 2 = .ok (.getfield 44, 3) := by decide +kernel
theorem dX8_waits_5 : decode cX8_waits 5 = .ok (.iload_n 1, 1) := by decide +kernel
theorem dX8_waits_6 : decode cX8_waits 6 = .ok (.iload_n 2, 1) := by decide +kernel
theorem dX8_waits_7 : decode cX8_waits 7 = .ok (.iload_n 3, 1) := by decide +kernel
theorem dX8_waits_8 : decode cX8_waits 8 = .ok (.invokevirtual 182, 3) := by decide +kernel
theorem dX8_waits_11 : decode cX8_waits 11 = .ok (.invokevirtual 71, 3) := by decide +kernel
theorem dX8_waits_14 : decode cX8_waits 14 = .ok (.ireturn, 1) := by decide +kernel
set_option maxRecDepth 20000 in
theorem ggX8_stuck_X8_told : GoodIn wsX8_stuck wsX8_told := goodIn_r _ [6, 7, 8, 9, 72, 73, 74, 75, 76, 77, 78, 79, 80, 81, 82, 83] (by decide +kernel) (by decide +kernel)
set_option maxRecDepth 20000 in
theorem gX8_stuck_X8_told : GoodIn wsX8_stuck (wsV RX8 71 RX8 yX8_told wsX8_told) := goodIn_app (goodIn_of _ (by decide +kernel)) ggX8_stuck_X8_told
set_option maxRecDepth 20000 in
theorem ggX8_stuck_X3_stuckAfter : GoodIn wsX8_stuck wsX3_stuckAfter := goodIn_r _ [13, 14, 15, 12, 16, 17, 18, 19, 20, 21, 22, 23, 5, 24, 25, 26, 27, 28, 29, 30, 31, 32, 33, 34, 35, 36, 37, 38, 39, 40, 41, 42, 43, 44, 45, 46, 47, 48, 49, 50, 51, 52, 53, 54, 55, 56, 57, 58, 59, 60, 84, 85, 86, 87, 88, 89, 90, 91, 92, 93, 94, 95, 96] (by decide +kernel) (by decide +kernel)
set_option maxRecDepth 20000 in
theorem gX8_stuck_X3_stuckAfter : GoodIn wsX8_stuck (va_wsS RX8 185 yX3_stuckAfter wsX3_stuckAfter) := goodIn_app (goodIn_of _ (by decide +kernel)) ggX8_stuck_X3_stuckAfter
set_option maxRecDepth 20000 in
theorem ggX8_stuck_X3_leastBreak : GoodIn wsX8_stuck wsX3_leastBreak := goodIn_r _ [63, 64, 11, 12, 13, 14, 15, 16, 17, 18, 19, 20, 21, 22, 23, 5, 24, 25, 26, 27, 28, 29, 30, 31, 32, 33, 34, 35, 36, 37, 38, 39, 40, 41, 42, 43, 44, 45, 46, 47, 48, 49, 50, 51, 52, 53, 54, 55, 56, 57, 58, 59, 60, 65, 66, 67, 68, 69, 70, 71, 84, 85, 86, 87, 88, 89, 90, 91, 92, 93, 94, 95, 96] (by decide +kernel) (by decide +kernel)
set_option maxRecDepth 20000 in
theorem gX8_stuck_X3_leastBreak : GoodIn wsX8_stuck (va_wsS RX8 190 yX3_leastBreak wsX3_leastBreak) := goodIn_app (goodIn_of _ (by decide +kernel)) ggX8_stuck_X3_leastBreak
theorem dX8_stuck_0 : decode cX8_stuck 0 = .ok (.iload_n 1, 1) := by decide +kernel
theorem dX8_stuck_1 : decode cX8_stuck 1 = .ok (.ifCond .lt 8, 3) := by decide +kernel
theorem dX8_stuck_4 : decode cX8_stuck 4 = .ok (.iload_n 1, 1) := by decide +kernel
theorem dX8_stuck_5 : decode cX8_stuck 5 = .ok (.iconst 1, 1) := by decide +kernel
theorem dX8_stuck_6 : decode cX8_stuck 6 = .ok (.if_icmp .le 10, 3) := by decide +kernel
theorem dX8_stuck_9 : decode cX8_stuck 9 = .ok (.aload_n 0, 1) := by decide +kernel
theorem dX8_stuck_10 : decode cX8_stuck 10 = .ok (.bipush (-2), 2) := by decide +kernel
theorem dX8_stuck_12 : decode cX8_stuck 12 = .ok (.invokevirtual 71, 3) := by decide +kernel
theorem dX8_stuck_15 : decode cX8_stuck 15 = .ok (.ireturn, 1) := by decide +kernel
theorem dX8_stuck_16 : decode cX8_stuck 16 = .ok (.iload_n 1, 1) := by decide +kernel
theorem dX8_stuck_17 : decode cX8_stuck 17 = .ok (.ifCond .ne 14, 3) := by decide +kernel
theorem dX8_stuck_20 : decode cX8_stuck 20 = .ok (.aload_n 0, 1) := by decide +kernel
theorem dX8_stuck_21 : decode cX8_stuck 21 = .ok (.getfield 44, 3) := by decide +kernel
theorem dX8_stuck_24 : decode cX8_stuck 24 = .ok (.iconst 0, 1) := by decide +kernel
theorem dX8_stuck_25 : decode cX8_stuck 25 = .ok (.invokestatic 185, 3) := by decide +kernel
theorem dX8_stuck_28 : decode cX8_stuck 28 = .ok (.goto 10, 3) := by decide +kernel
theorem dX8_stuck_31 : decode cX8_stuck 31 = .ok (.aload_n 0, 1) := by decide +kernel
theorem dX8_stuck_32 : decode cX8_stuck 32 = .ok (.getfield 44, 3) := by decide +kernel
theorem dX8_stuck_35 : decode cX8_stuck 35 = .ok (.invokestatic 190, 3) := by decide +kernel
theorem dX8_stuck_38 : decode cX8_stuck 38 = .ok (.ireturn, 1) := by decide +kernel
set_option maxRecDepth 20000 in
theorem ggX8_worth_X0_setWorth : GoodIn wsX8_worth wsX0_setWorth := goodIn_r _ [6, 7, 8, 9, 10, 11, 12, 13, 14, 15, 16, 17, 18, 19, 20, 5, 21, 41, 42, 43, 44, 45, 46, 47, 48, 49, 50, 51, 52, 53] (by decide +kernel) (by decide +kernel)
set_option maxRecDepth 20000 in
theorem gX8_worth_X0_setWorth : GoodIn wsX8_worth (wsV RX8 193 RX0 yX0_setWorth wsX0_setWorth) := goodIn_app (goodIn_of _ (by decide +kernel)) ggX8_worth_X0_setWorth
set_option maxRecDepth 20000 in
theorem ggX8_worth_X8_told : GoodIn wsX8_worth wsX8_told := goodIn_r _ [25, 26, 27, 28, 29, 30, 31, 32, 33, 34, 35, 36, 37, 38, 39, 40] (by decide +kernel) (by decide +kernel)
set_option maxRecDepth 20000 in
theorem gX8_worth_X8_told : GoodIn wsX8_worth (wsV RX8 71 RX8 yX8_told wsX8_told) := goodIn_app (goodIn_of _ (by decide +kernel)) ggX8_worth_X8_told
theorem dX8_worth_0 : decode cX8_worth 0 = .ok (.aload_n 0, 1) := by decide +kernel
theorem dX8_worth_1 : decode cX8_worth 1 = .ok (.aload_n 0, 1) := by decide +kernel
theorem dX8_worth_2 : decode cX8_worth 2 = .ok (.getfield 44, 3) := by decide +kernel
theorem dX8_worth_5 : decode cX8_worth 5 = .ok (.iload_n 1, 1) := by decide +kernel
theorem dX8_worth_6 : decode cX8_worth 6 = .ok (.iload_n 2, 1) := by decide +kernel
theorem dX8_worth_7 : decode cX8_worth 7 = .ok (.iload_n 3, 1) := by decide +kernel
theorem dX8_worth_8 : decode cX8_worth 8 = .ok (.invokevirtual 193, 3) := by decide +kernel
theorem dX8_worth_11 : decode cX8_worth 11 = .ok (.invokevirtual 71, 3) := by decide +kernel
theorem dX8_worth_14 : decode cX8_worth 14 = .ok (.ireturn, 1) := by decide +kernel
set_option maxRecDepth 20000 in
theorem ggX8_deal_X8_isPerson : GoodIn wsX8_deal wsX8_isPerson := goodIn_r _ [6] (by decide +kernel) (by decide +kernel)
set_option maxRecDepth 20000 in
theorem gX8_deal_X8_isPerson : GoodIn wsX8_deal (va_wsS RX8 121 yX8_isPerson wsX8_isPerson) := goodIn_app (goodIn_of _ (by decide +kernel)) ggX8_deal_X8_isPerson
set_option maxRecDepth 20000 in
theorem ggX8_deal_X8_badTen : GoodIn wsX8_deal wsX8_badTen := goodIn_r _ [10, 11, 73, 74, 75, 76, 77, 78, 79, 80, 81, 82, 83, 84] (by decide +kernel) (by decide +kernel)
set_option maxRecDepth 20000 in
theorem gX8_deal_X8_badTen : GoodIn wsX8_deal (wsV RX8 152 RX8 yX8_badTen wsX8_badTen) := goodIn_app (goodIn_of _ (by decide +kernel)) ggX8_deal_X8_badTen
set_option maxRecDepth 20000 in
theorem ggX8_deal_X1_mostWorth : GoodIn wsX8_deal wsX1_mostWorth := goodIn_r _ [16, 17, 18, 19, 20, 21, 22, 23, 24, 25, 26, 27, 28, 29, 30, 31, 32, 33, 34, 35, 36, 37, 38, 39, 40, 41, 42, 43, 44, 45, 46, 47, 15, 48, 49, 50, 51, 52, 53, 54, 55, 56, 57, 4, 5, 6, 58, 59, 60, 61, 62, 63, 64, 65, 66, 67, 68, 85, 86, 87, 88, 89, 90, 91, 92, 93, 94, 95, 96, 97, 98, 99, 100, 101] (by decide +kernel) (by decide +kernel)
set_option maxRecDepth 20000 in
theorem gX8_deal_X1_mostWorth : GoodIn wsX8_deal (wsV RX8 196 RX1 yX1_mostWorth wsX1_mostWorth) := goodIn_app (goodIn_of _ (by decide +kernel)) ggX8_deal_X1_mostWorth
set_option maxRecDepth 20000 in
theorem ggX8_deal_X1_termOf : GoodIn wsX8_deal wsX1_termOf := goodIn_r _ [72, 68, 4, 5, 6, 85, 86, 87, 88] (by decide +kernel) (by decide +kernel)
set_option maxRecDepth 20000 in
theorem gX8_deal_X1_termOf : GoodIn wsX8_deal (wsV RX8 199 RX1 yX1_termOf wsX1_termOf) := goodIn_app (goodIn_of _ (by decide +kernel)) ggX8_deal_X1_termOf
theorem dX8_deal_0 : decode cX8_deal 0 = .ok (.iload_n 1, 1) := by decide +kernel
theorem dX8_deal_1 : decode cX8_deal 1 = .ok (.iconst (-1), 1) := by decide +kernel
theorem dX8_deal_2 : decode cX8_deal 2 = .ok (.if_icmp .eq 15, 3) := by decide +kernel
theorem dX8_deal_5 : decode cX8_deal 5 = .ok (.iload_n 1, 1) := by decide +kernel
theorem dX8_deal_6 : decode cX8_deal 6 = .ok (.invokestatic 121, 3) := by decide +kernel
theorem dX8_deal_9 : decode cX8_deal 9 = .ok (.ifCond .ne 8, 3) := by decide +kernel
theorem dX8_deal_12 : decode cX8_deal 12 = .ok (.aload_n 0, 1) := by decide +kernel
theorem dX8_deal_13 : decode cX8_deal 13 = .ok (.invokevirtual 152, 3) := by decide +kernel
theorem dX8_deal_16 : decode cX8_deal 16 = .ok (.ireturn, 1) := by decide +kernel
theorem dX8_deal_17 : decode cX8_deal 17 = .ok (.aload_n 0, 1) := by decide +kernel
theorem dX8_deal_18 : decode cX8_deal 18 = .ok (.getfield 33, 3) := by decide +kernel
theorem dX8_deal_21 : decode cX8_deal 21 = .ok (.aload_n 0, 1) := by decide +kernel
theorem dX8_deal_22 : decode cX8_deal 22 = .ok (.getfield 44, 3) := by decide +kernel
theorem dX8_deal_25 : decode cX8_deal 25 = .ok (.invokevirtual 196, 3) := by decide +kernel
theorem dX8_deal_28 : decode cX8_deal 28 = .ok (.istore_n 2, 1) := by decide +kernel
theorem dX8_deal_29 : decode cX8_deal 29 = .ok (.iload_n 1, 1) := by decide +kernel
theorem dX8_deal_30 : decode cX8_deal 30 = .ok (.iconst (-1), 1) := by decide +kernel
theorem dX8_deal_31 : decode cX8_deal 31 = .ok (.if_icmp .ne 7, 3) := by decide +kernel
theorem dX8_deal_34 : decode cX8_deal 34 = .ok (.iload_n 2, 1) := by decide +kernel
theorem dX8_deal_35 : decode cX8_deal 35 = .ok (.goto 11, 3) := by decide +kernel
theorem dX8_deal_38 : decode cX8_deal 38 = .ok (.aload_n 0, 1) := by decide +kernel
theorem dX8_deal_39 : decode cX8_deal 39 = .ok (.getfield 33, 3) := by decide +kernel
theorem dX8_deal_42 : decode cX8_deal 42 = .ok (.iload_n 1, 1) := by decide +kernel
theorem dX8_deal_43 : decode cX8_deal 43 = .ok (.invokevirtual 199, 3) := by decide +kernel
theorem dX8_deal_46 : decode cX8_deal 46 = .ok (.ireturn, 1) := by decide +kernel
set_option maxRecDepth 20000 in
theorem ggX8_saying_X0_addSaying : GoodIn wsX8_saying wsX0_addSaying := goodIn_r _ [6, 7, 8, 9, 10, 5, 11, 12, 13, 14, 15, 16, 17, 18, 19, 20, 21, 22, 23, 24, 25, 26, 27, 28, 49, 50, 51, 52, 53, 54, 55, 56, 57, 58, 59, 60, 61] (by decide +kernel) (by decide +kernel)
set_option maxRecDepth 20000 in
theorem gX8_saying_X0_addSaying : GoodIn wsX8_saying (wsV RX8 202 RX0 yX0_addSaying wsX0_addSaying) := goodIn_app (goodIn_of _ (by decide +kernel)) ggX8_saying_X0_addSaying
set_option maxRecDepth 20000 in
theorem ggX8_saying_X8_told : GoodIn wsX8_saying wsX8_told := goodIn_r _ [33, 34, 35, 36, 37, 38, 39, 40, 41, 42, 43, 44, 45, 46, 47, 48] (by decide +kernel) (by decide +kernel)
set_option maxRecDepth 20000 in
theorem gX8_saying_X8_told : GoodIn wsX8_saying (wsV RX8 71 RX8 yX8_told wsX8_told) := goodIn_app (goodIn_of _ (by decide +kernel)) ggX8_saying_X8_told
theorem dX8_saying_0 : decode cX8_saying 0 = .ok (.aload_n 0, 1) := by decide +kernel
theorem dX8_saying_1 : decode cX8_saying 1 = .ok (.aload_n 0, 1) := by decide +kernel
theorem dX8_saying_2 : decode cX8_saying 2 = .ok (.getfield 44, 3) := by decide +kernel
theorem dX8_saying_5 : decode cX8_saying 5 = .ok (.iload_n 1, 1) := by decide +kernel
theorem dX8_saying_6 : decode cX8_saying 6 = .ok (.iload_n 2, 1) := by decide +kernel
theorem dX8_saying_7 : decode cX8_saying 7 = .ok (.invokevirtual 202, 3) := by decide +kernel
theorem dX8_saying_10 : decode cX8_saying 10 = .ok (.invokevirtual 71, 3) := by decide +kernel
theorem dX8_saying_13 : decode cX8_saying 13 = .ok (.ireturn, 1) := by decide +kernel
set_option maxRecDepth 20000 in
theorem ggX8_about_X0_isSet : GoodIn wsX8_about wsX0_isSet := goodIn_r _ [6, 7, 8, 9, 5, 10, 11, 12, 13, 14, 15, 16, 17, 49, 50, 51, 52, 53, 54, 55, 56, 57, 58, 59, 60, 61] (by decide +kernel) (by decide +kernel)
set_option maxRecDepth 20000 in
theorem gX8_about_X0_isSet : GoodIn wsX8_about (wsV RX8 149 RX0 yX0_isSet wsX0_isSet) := goodIn_app (goodIn_of _ (by decide +kernel)) ggX8_about_X0_isSet
set_option maxRecDepth 20000 in
theorem ggX8_about_X0_sayingsWith : GoodIn wsX8_about wsX0_sayingsWith := goodIn_r _ [21, 22, 12, 13, 14, 15, 16, 17, 23, 24, 25, 26, 27, 28, 49, 50, 51, 52, 53, 54, 55, 56, 57, 58, 59, 60, 61] (by decide +kernel) (by decide +kernel)
set_option maxRecDepth 20000 in
theorem gX8_about_X0_sayingsWith : GoodIn wsX8_about (wsV RX8 205 RX0 yX0_sayingsWith wsX0_sayingsWith) := goodIn_app (goodIn_of _ (by decide +kernel)) ggX8_about_X0_sayingsWith
set_option maxRecDepth 20000 in
theorem ggX8_about_X8_told : GoodIn wsX8_about wsX8_told := goodIn_r _ [33, 34, 35, 36, 37, 38, 39, 40, 41, 42, 43, 44, 45, 46, 47, 48] (by decide +kernel) (by decide +kernel)
set_option maxRecDepth 20000 in
theorem gX8_about_X8_told : GoodIn wsX8_about (wsV RX8 71 RX8 yX8_told wsX8_told) := goodIn_app (goodIn_of _ (by decide +kernel)) ggX8_about_X8_told
theorem dX8_about_0 : decode cX8_about 0 = .ok (.aload_n 0, 1) := by decide +kernel
theorem dX8_about_1 : decode cX8_about 1 = .ok (.getfield 44, 3) := by decide +kernel
theorem dX8_about_4 : decode cX8_about 4 = .ok (.iload_n 1, 1) := by decide +kernel
theorem dX8_about_5 : decode cX8_about 5 = .ok (.invokevirtual 149, 3) := by decide +kernel
theorem dX8_about_8 : decode cX8_about 8 = .ok (.ifCond .eq 14, 3) := by decide +kernel
theorem dX8_about_11 : decode cX8_about 11 = .ok (.aload_n 0, 1) := by decide +kernel
theorem dX8_about_12 : decode cX8_about 12 = .ok (.getfield 44, 3) := by decide +kernel
theorem dX8_about_15 : decode cX8_about 15 = .ok (.iload_n 1, 1) := by decide +kernel
theorem dX8_about_16 : decode cX8_about 16 = .ok (.invokevirtual 205, 3) := by decide +kernel
theorem dX8_about_19 : decode cX8_about 19 = .ok (.goto 9, 3) := by decide +kernel
theorem dX8_about_22 : decode cX8_about 22 = .ok (.aload_n 0, 1) := by decide +kernel
theorem dX8_about_23 : decode cX8_about 23 = .ok (.bipush (-2), 2) := by decide +kernel
theorem dX8_about_25 : decode cX8_about 25 = .ok (.invokevirtual 71, 3) := by decide +kernel
theorem dX8_about_28 : decode cX8_about 28 = .ok (.ireturn, 1) := by decide +kernel
set_option maxRecDepth 20000 in
theorem ggX8_odds_X0_isSet : GoodIn wsX8_odds wsX0_isSet := goodIn_r _ [6, 7, 8, 9, 5, 10, 11, 12, 13, 14, 15, 16, 17, 67, 68, 69, 70, 71, 72, 73, 74, 75, 76, 77, 78, 79] (by decide +kernel) (by decide +kernel)
set_option maxRecDepth 20000 in
theorem gX8_odds_X0_isSet : GoodIn wsX8_odds (wsV RX8 149 RX0 yX0_isSet wsX0_isSet) := goodIn_app (goodIn_of _ (by decide +kernel)) ggX8_odds_X0_isSet
set_option maxRecDepth 20000 in
theorem ggX8_odds_X4_holds : GoodIn wsX8_odds wsX4_holds := goodIn_r _ [21, 17, 76, 77, 78, 79] (by decide +kernel) (by decide +kernel)
set_option maxRecDepth 20000 in
theorem gX8_odds_X4_holds : GoodIn wsX8_odds (wsV RX8 79 RX4 yX4_holds wsX4_holds) := goodIn_app (goodIn_of _ (by decide +kernel)) ggX8_odds_X4_holds
set_option maxRecDepth 20000 in
theorem ggX8_odds_X8_told : GoodIn wsX8_odds wsX8_told := goodIn_r _ [26, 27, 28, 29, 55, 56, 57, 58, 59, 60, 61, 62, 63, 64, 65, 66] (by decide +kernel) (by decide +kernel)
set_option maxRecDepth 20000 in
theorem gX8_odds_X8_told : GoodIn wsX8_odds (wsV RX8 71 RX8 yX8_told wsX8_told) := goodIn_app (goodIn_of _ (by decide +kernel)) ggX8_odds_X8_told
set_option maxRecDepth 20000 in
theorem ggX8_odds_X0_sayingsWith : GoodIn wsX8_odds wsX0_sayingsWith := goodIn_r _ [33, 34, 12, 13, 14, 15, 16, 17, 35, 36, 37, 38, 39, 40, 67, 68, 69, 70, 71, 72, 73, 74, 75, 76, 77, 78, 79] (by decide +kernel) (by decide +kernel)
set_option maxRecDepth 20000 in
theorem gX8_odds_X0_sayingsWith : GoodIn wsX8_odds (wsV RX8 205 RX0 yX0_sayingsWith wsX0_sayingsWith) := goodIn_app (goodIn_of _ (by decide +kernel)) ggX8_odds_X0_sayingsWith
set_option maxRecDepth 20000 in
theorem ggX8_odds_X8_hasBit : GoodIn wsX8_odds wsX8_hasBit := goodIn_r _ [43] (by decide +kernel) (by decide +kernel)
set_option maxRecDepth 20000 in
theorem gX8_odds_X8_hasBit : GoodIn wsX8_odds (va_wsS RX8 211 yX8_hasBit wsX8_hasBit) := goodIn_app (goodIn_of _ (by decide +kernel)) ggX8_odds_X8_hasBit
set_option maxRecDepth 20000 in
theorem ggX8_odds_X4_at : GoodIn wsX8_odds wsX4_at := goodIn_r _ [38, 17, 39, 40, 76, 77, 78, 79] (by decide +kernel) (by decide +kernel)
set_option maxRecDepth 20000 in
theorem gX8_odds_X4_at : GoodIn wsX8_odds (wsV RX8 215 RX4 yX4_at wsX4_at) := goodIn_app (goodIn_of _ (by decide +kernel)) ggX8_odds_X4_at
set_option maxRecDepth 20000 in
theorem ggX8_odds_X0_usedOf : GoodIn wsX8_odds wsX0_usedOf := goodIn_r _ [48, 34, 12, 13, 14, 15, 16, 17, 42, 25, 43, 35, 36, 37, 38, 39, 40, 67, 68, 69, 70, 71, 72, 73, 74, 75, 76, 77, 78, 79] (by decide +kernel) (by decide +kernel)
set_option maxRecDepth 20000 in
theorem gX8_odds_X0_usedOf : GoodIn wsX8_odds (wsV RX8 218 RX0 yX0_usedOf wsX0_usedOf) := goodIn_app (goodIn_of _ (by decide +kernel)) ggX8_odds_X0_usedOf
set_option maxRecDepth 20000 in
theorem ggX8_odds_X8_setFraction : GoodIn wsX8_odds wsX8_setFraction := goodIn_r _ [52, 53, 54, 55, 56, 57, 58, 59, 60, 61, 62, 63, 64, 65, 66] (by decide +kernel) (by decide +kernel)
set_option maxRecDepth 20000 in
theorem gX8_odds_X8_setFraction : GoodIn wsX8_odds (wsV RX8 221 RX8 yX8_setFraction wsX8_setFraction) := goodIn_app (goodIn_of _ (by decide +kernel)) ggX8_odds_X8_setFraction
theorem dX8_odds_0 : decode cX8_odds 0 = .ok (.aload_n 0, 1) := by decide +kernel
theorem dX8_odds_1 : decode cX8_odds 1 = .ok (.getfield 44, 3) := by decide +kernel
theorem dX8_odds_4 : decode cX8_odds 4 = .ok (.iload_n 1, 1) := by decide +kernel
theorem dX8_odds_5 : decode cX8_odds 5 = .ok (.invokevirtual 149, 3) := by decide +kernel
theorem dX8_odds_8 : decode cX8_odds 8 = .ok (.ifCond .eq 17, 3) := by decide +kernel
theorem dX8_odds_11 : decode cX8_odds 11 = .ok (.aload_n 0, 1) := by decide +kernel
theorem dX8_odds_12 : decode cX8_odds 12 = .ok (.getfield 44, 3) := by decide +kernel
theorem dX8_odds_15 : decode cX8_odds 15 = .ok (.getfield 208, 3) := by decide +kernel
theorem dX8_odds_18 : decode cX8_odds 18 = .ok (.iload_n 2, 1) := by decide +kernel
theorem dX8_odds_19 : decode cX8_odds 19 = .ok (.invokevirtual 79, 3) := by decide +kernel
theorem dX8_odds_22 : decode cX8_odds 22 = .ok (.ifCond .ne 10, 3) := by decide +kernel
theorem dX8_odds_25 : decode cX8_odds 25 = .ok (.aload_n 0, 1) := by decide +kernel
theorem dX8_odds_26 : decode cX8_odds 26 = .ok (.bipush (-2), 2) := by decide +kernel
theorem dX8_odds_28 : decode cX8_odds 28 = .ok (.invokevirtual 71, 3) := by decide +kernel
theorem dX8_odds_31 : decode cX8_odds 31 = .ok (.ireturn, 1) := by decide +kernel
theorem dX8_odds_32 : decode cX8_odds 32 = .ok (.aload_n 0, 1) := by decide +kernel
theorem dX8_odds_33 : decode cX8_odds 33 = .ok (.getfield 44, 3) := by decide +kernel
theorem dX8_odds_36 : decode cX8_odds 36 = .ok (.iload_n 1, 1) := by decide +kernel
theorem dX8_odds_37 : decode cX8_odds 37 = .ok (.invokevirtual 205, 3) := by decide +kernel
theorem dX8_odds_40 : decode cX8_odds 40 = .ok (.istore_n 3, 1) := by decide +kernel
theorem dX8_odds_41 : decode cX8_odds 41 = .ok (.iload_n 3, 1) := by decide +kernel
theorem dX8_odds_42 : decode cX8_odds 42 = .ok (.iload_n 2, 1) := by decide +kernel
theorem dX8_odds_43 : decode cX8_odds 43 = .ok (.invokestatic 211, 3) := by decide +kernel
theorem dX8_odds_46 : decode cX8_odds 46 = .ok (.ifCond .ne 10, 3) := by decide +kernel
theorem dX8_odds_49 : decode cX8_odds 49 = .ok (.aload_n 0, 1) := by decide +kernel
theorem dX8_odds_50 : decode cX8_odds 50 = .ok (.bipush (-3), 2) := by decide +kernel
theorem dX8_odds_52 : decode cX8_odds 52 = .ok (.invokevirtual 71, 3) := by decide +kernel
theorem dX8_odds_55 : decode cX8_odds 55 = .ok (.ireturn, 1) := by decide +kernel
theorem dX8_odds_56 : decode cX8_odds 56 = .ok (.aload_n 0, 1) := by decide +kernel
theorem dX8_odds_57 : decode cX8_odds 57 = .ok (.aload_n 0, 1) := by decide +kernel
theorem dX8_odds_58 : decode cX8_odds 58 = .ok (.getfield 44, 3) := by decide +kernel
theorem dX8_odds_61 : decode cX8_odds 61 = .ok (.getfield 208, 3) := by decide +kernel
theorem dX8_odds_64 : decode cX8_odds 64 = .ok (.iload_n 2, 1) := by decide +kernel
theorem dX8_odds_65 : decode cX8_odds 65 = .ok (.iconst 1, 1) := by decide +kernel
theorem dX8_odds_66 : decode cX8_odds 66 = .ok (.invokevirtual 215, 3) := by decide +kernel
theorem dX8_odds_69 : decode cX8_odds 69 = .ok (.aload_n 0, 1) := by decide +kernel
theorem dX8_odds_70 : decode cX8_odds 70 = .ok (.getfield 44, 3) := by decide +kernel
theorem dX8_odds_73 : decode cX8_odds 73 = .ok (.iload_n 3, 1) := by decide +kernel
theorem dX8_odds_74 : decode cX8_odds 74 = .ok (.invokevirtual 218, 3) := by decide +kernel
theorem dX8_odds_77 : decode cX8_odds 77 = .ok (.invokevirtual 221, 3) := by decide +kernel
theorem dX8_odds_80 : decode cX8_odds 80 = .ok (.iconst 1, 1) := by decide +kernel
theorem dX8_odds_81 : decode cX8_odds 81 = .ok (.ireturn, 1) := by decide +kernel
set_option maxRecDepth 20000 in
theorem ggX8_dumb_X0_isMatter : GoodIn wsX8_dumb wsX0_isMatter := goodIn_r _ [7, 8, 9, 10, 11, 12, 13, 14, 79, 80, 81, 82, 83, 84, 85, 86, 87, 88, 89, 90, 91] (by decide +kernel) (by decide +kernel)
set_option maxRecDepth 20000 in
theorem gX8_dumb_X0_isMatter : GoodIn wsX8_dumb (wsV RX8 225 RX0 yX0_isMatter wsX0_isMatter) := goodIn_app (goodIn_of _ (by decide +kernel)) ggX8_dumb_X0_isMatter
set_option maxRecDepth 20000 in
theorem ggX8_dumb_X6_leastKept : GoodIn wsX8_dumb wsX6_leastKept := goodIn_r _ [19, 20, 21, 22, 6, 23, 24, 9, 10, 11, 12, 13, 14, 25, 26, 27, 18, 28, 29, 30, 31, 32, 33, 34, 35, 36, 37, 38, 39, 40, 41, 42, 43, 44, 45, 46, 47, 48, 49, 50, 51, 52, 53, 54, 55, 56, 57, 58, 59, 79, 80, 81, 82, 83, 84, 85, 86, 87, 88, 89, 90, 91, 92, 93, 94, 95] (by decide +kernel) (by decide +kernel)
set_option maxRecDepth 20000 in
theorem gX8_dumb_X6_leastKept : GoodIn wsX8_dumb (wsV RX8 228 RX6 yX6_leastKept wsX6_leastKept) := goodIn_app (goodIn_of _ (by decide +kernel)) ggX8_dumb_X6_leastKept
set_option maxRecDepth 20000 in
theorem ggX8_dumb_X8_told : GoodIn wsX8_dumb wsX8_told := goodIn_r _ [63, 64, 65, 66, 67, 68, 69, 70, 71, 72, 73, 74, 75, 76, 77, 78] (by decide +kernel) (by decide +kernel)
set_option maxRecDepth 20000 in
theorem gX8_dumb_X8_told : GoodIn wsX8_dumb (wsV RX8 71 RX8 yX8_told wsX8_told) := goodIn_app (goodIn_of _ (by decide +kernel)) ggX8_dumb_X8_told
theorem dX8_dumb_0 : decode cX8_dumb 0 = .ok (.aload_n 0, 1) := by decide +kernel
theorem dX8_dumb_1 : decode cX8_dumb 1 = .ok (.getfield 44, 3) := by decide +kernel
theorem dX8_dumb_4 : decode cX8_dumb 4 = .ok (.iload_n 1, 1) := by decide +kernel
theorem dX8_dumb_5 : decode cX8_dumb 5 = .ok (.invokevirtual 225, 3) := by decide +kernel
theorem dX8_dumb_8 : decode cX8_dumb 8 = .ok (.ifCond .eq 18, 3) := by decide +kernel
theorem dX8_dumb_11 : decode cX8_dumb 11 = .ok (.aload_n 0, 1) := by decide +kernel
theorem dX8_dumb_12 : decode cX8_dumb 12 = .ok (.getfield 19, 3) := by decide +kernel
theorem dX8_dumb_15 : decode cX8_dumb 15 = .ok (.aload_n 0, 1) := by decide +kernel
theorem dX8_dumb_16 : decode cX8_dumb 16 = .ok (.getfield 44, 3) := by decide +kernel
theorem dX8_dumb_19 : decode cX8_dumb 19 = .ok (.iload_n 1, 1) := by decide +kernel
theorem dX8_dumb_20 : decode cX8_dumb 20 = .ok (.invokevirtual 228, 3) := by decide +kernel
theorem dX8_dumb_23 : decode cX8_dumb 23 = .ok (.goto 9, 3) := by decide +kernel
theorem dX8_dumb_26 : decode cX8_dumb 26 = .ok (.aload_n 0, 1) := by decide +kernel
theorem dX8_dumb_27 : decode cX8_dumb 27 = .ok (.bipush (-2), 2) := by decide +kernel
theorem dX8_dumb_29 : decode cX8_dumb 29 = .ok (.invokevirtual 71, 3) := by decide +kernel
theorem dX8_dumb_32 : decode cX8_dumb 32 = .ok (.ireturn, 1) := by decide +kernel
set_option maxRecDepth 20000 in
theorem ggX8_part_X8_told : GoodIn wsX8_part wsX8_told := goodIn_r _ [7, 8, 9, 10, 11, 12, 13, 14, 15, 16, 17, 18, 19, 20, 21, 22] (by decide +kernel) (by decide +kernel)
set_option maxRecDepth 20000 in
theorem gX8_part_X8_told : GoodIn wsX8_part (wsV RX8 71 RX8 yX8_told wsX8_told) := goodIn_app (goodIn_of _ (by decide +kernel)) ggX8_part_X8_told
theorem dX8_part_0 : decode cX8_part 0 = .ok (.iload_n 1, 1) := by decide +kernel
theorem dX8_part_1 : decode cX8_part 1 = .ok (.ifCond .lt 8, 3) := by decide +kernel
theorem dX8_part_4 : decode cX8_part 4 = .ok (.iload_n 1, 1) := by decide +kernel
theorem dX8_part_5 : decode cX8_part 5 = .ok (.iconst 1, 1) := by decide +kernel
theorem dX8_part_6 : decode cX8_part 6 = .ok (.if_icmp .le 11, 3) := by decide +kernel
theorem dX8_part_9 : decode cX8_part 9 = .ok (.aload_n 0, 1) := by decide +kernel
theorem dX8_part_10 : decode cX8_part 10 = .ok (.bipush (-2), 2) := by decide +kernel
theorem dX8_part_12 : decode cX8_part 12 = .ok (.invokevirtual 71, 3) := by decide +kernel
theorem dX8_part_15 : decode cX8_part 15 = .ok (.i2l, 1) := by decide +kernel
theorem dX8_part_16 : decode cX8_part 16 = .ok (.lreturn, 1) := by decide +kernel
theorem dX8_part_17 : decode cX8_part 17 = .ok (.iload_n 1, 1) := by decide +kernel
theorem dX8_part_18 : decode cX8_part 18 = .ok (.ifCond .ne 11, 3) := by decide +kernel
theorem dX8_part_21 : decode cX8_part 21 = .ok (.aload_n 0, 1) := by decide +kernel
theorem dX8_part_22 : decode cX8_part 22 = .ok (.getfield 51, 3) := by decide +kernel
theorem dX8_part_25 : decode cX8_part 25 = .ok (.i2l, 1) := by decide +kernel
theorem dX8_part_26 : decode cX8_part 26 = .ok (.goto 8, 3) := by decide +kernel
theorem dX8_part_29 : decode cX8_part 29 = .ok (.aload_n 0, 1) := by decide +kernel
theorem dX8_part_30 : decode cX8_part 30 = .ok (.getfield 55, 3) := by decide +kernel
theorem dX8_part_33 : decode cX8_part 33 = .ok (.i2l, 1) := by decide +kernel
theorem dX8_part_34 : decode cX8_part 34 = .ok (.lreturn, 1) := by decide +kernel
set_option maxRecDepth 20000 in
theorem ggX8_image_X8_isImage : GoodIn wsX8_image wsX8_isImage := goodIn_r _ [9] (by decide +kernel) (by decide +kernel)
set_option maxRecDepth 20000 in
theorem gX8_image_X8_isImage : GoodIn wsX8_image (va_wsS RX8 231 yX8_isImage wsX8_isImage) := goodIn_app (goodIn_of _ (by decide +kernel)) ggX8_image_X8_isImage
set_option maxRecDepth 20000 in
theorem ggX8_image_X8_told : GoodIn wsX8_image wsX8_told := goodIn_r _ [13, 14, 15, 16, 60, 61, 62, 63, 64, 65, 66, 67, 68, 69, 70, 71] (by decide +kernel) (by decide +kernel)
set_option maxRecDepth 20000 in
theorem gX8_image_X8_told : GoodIn wsX8_image (wsV RX8 71 RX8 yX8_told wsX8_told) := goodIn_app (goodIn_of _ (by decide +kernel)) ggX8_image_X8_told
set_option maxRecDepth 20000 in
theorem ggX8_image_X0_init : GoodIn wsX8_image wsX0_init := goodIn_r _ [18, 19, 20, 21, 22, 23, 24, 25, 26, 27, 28, 29, 30, 31, 32, 33, 34, 35, 36, 37, 38, 39, 40, 41, 42, 43, 44, 45, 46, 81, 82, 83, 84, 72, 73, 74, 75, 76, 77, 78, 79, 80] (by decide +kernel) (by decide +kernel)
set_option maxRecDepth 20000 in
theorem gX8_image_X0_init_n43 : GoodIn wsX8_image (wsX0_init) := ggX8_image_X0_init
set_option maxRecDepth 20000 in
theorem ggX8_image_X0_copyFrom : GoodIn wsX8_image wsX0_copyFrom := goodIn_r _ [50, 25, 26, 27, 28, 29, 30, 32, 51, 52, 53, 54, 33, 34, 55, 56, 57, 24, 58, 39, 59, 40, 72, 73, 74, 75, 76, 77, 78, 79, 80, 81, 82, 83, 84] (by decide +kernel) (by decide +kernel)
set_option maxRecDepth 20000 in
theorem gX8_image_X0_copyFrom : GoodIn wsX8_image (wsV RX8 234 RX0 yX0_copyFrom wsX0_copyFrom) := goodIn_app (goodIn_of _ (by decide +kernel)) ggX8_image_X0_copyFrom
theorem dX8_image_0 : decode cX8_image 0 = .ok (.iload_n 1, 1) := by decide +kernel
theorem dX8_image_1 : decode cX8_image 1 = .ok (.invokestatic 231, 3) := by decide +kernel
theorem dX8_image_4 : decode cX8_image 4 = .ok (.ifCond .ne 10, 3) := by decide +kernel
theorem dX8_image_7 : decode cX8_image 7 = .ok (.aload_n 0, 1) := by decide +kernel
theorem dX8_image_8 : decode cX8_image 8 = .ok (.bipush (-2), 2) := by decide +kernel
theorem dX8_image_10 : decode cX8_image 10 = .ok (.invokevirtual 71, 3) := by decide +kernel
theorem dX8_image_13 : decode cX8_image 13 = .ok (.ireturn, 1) := by decide +kernel
theorem dX8_image_14 : decode cX8_image 14 = .ok (.aload_n 0, 1) := by decide +kernel
theorem dX8_image_15 : decode cX8_image 15 = .ok (.getfield 39, 3) := by decide +kernel
theorem dX8_image_18 : decode cX8_image 18 = .ok (.iload_n 1, 1) := by decide +kernel
theorem dX8_image_19 : decode cX8_image 19 = .ok (.aaload, 1) := by decide +kernel
theorem dX8_image_20 : decode cX8_image 20 = .ok (.astore_n 2, 1) := by decide +kernel
theorem dX8_image_21 : decode cX8_image 21 = .ok (.aload_n 2, 1) := by decide +kernel
theorem dX8_image_22 : decode cX8_image 22 = .ok (.ifnonnull 18, 3) := by decide +kernel
theorem dX8_image_25 : decode cX8_image 25 = .ok (.new 37, 3) := by decide +kernel
theorem dX8_image_28 : decode cX8_image 28 = .ok (.dup, 1) := by decide +kernel
theorem dX8_image_29 : decode cX8_image 29 = .ok (.invokespecial 43, 3) := by decide +kernel
theorem dX8_image_32 : decode cX8_image 32 = .ok (.astore_n 2, 1) := by decide +kernel
theorem dX8_image_33 : decode cX8_image 33 = .ok (.aload_n 0, 1) := by decide +kernel
theorem dX8_image_34 : decode cX8_image 34 = .ok (.getfield 39, 3) := by decide +kernel
theorem dX8_image_37 : decode cX8_image 37 = .ok (.iload_n 1, 1) := by decide +kernel
theorem dX8_image_38 : decode cX8_image 38 = .ok (.aload_n 2, 1) := by decide +kernel
theorem dX8_image_39 : decode cX8_image 39 = .ok (.aastore, 1) := by decide +kernel
theorem dX8_image_40 : decode cX8_image 40 = .ok (.aload_n 2, 1) := by decide +kernel
theorem dX8_image_41 : decode cX8_image 41 = .ok (.aload_n 0, 1) := by decide +kernel
theorem dX8_image_42 : decode cX8_image 42 = .ok (.getfield 44, 3) := by decide +kernel
theorem dX8_image_45 : decode cX8_image 45 = .ok (.invokevirtual 234, 3) := by decide +kernel
theorem dX8_image_48 : decode cX8_image 48 = .ok (.iconst 1, 1) := by decide +kernel
theorem dX8_image_49 : decode cX8_image 49 = .ok (.ireturn, 1) := by decide +kernel
set_option maxRecDepth 20000 in
theorem ggX8_from_X8_isImage : GoodIn wsX8_from wsX8_isImage := goodIn_r _ [6] (by decide +kernel) (by decide +kernel)
set_option maxRecDepth 20000 in
theorem gX8_from_X8_isImage : GoodIn wsX8_from (va_wsS RX8 231 yX8_isImage wsX8_isImage) := goodIn_app (goodIn_of _ (by decide +kernel)) ggX8_from_X8_isImage
set_option maxRecDepth 20000 in
theorem ggX8_from_X8_told : GoodIn wsX8_from wsX8_told := goodIn_r _ [10, 11, 12, 13, 40, 41, 42, 43, 44, 45, 46, 47, 48, 49, 50, 51] (by decide +kernel) (by decide +kernel)
set_option maxRecDepth 20000 in
theorem gX8_from_X8_told : GoodIn wsX8_from (wsV RX8 71 RX8 yX8_told wsX8_told) := goodIn_app (goodIn_of _ (by decide +kernel)) ggX8_from_X8_told
set_option maxRecDepth 20000 in
theorem ggX8_from_X0_copyFrom : GoodIn wsX8_from wsX0_copyFrom := goodIn_r _ [18, 19, 20, 21, 22, 23, 24, 25, 26, 27, 28, 29, 30, 31, 32, 33, 34, 35, 36, 37, 38, 39, 52, 53, 54, 55, 56, 57, 58, 59, 60, 61, 62, 63, 64] (by decide +kernel) (by decide +kernel)
set_option maxRecDepth 20000 in
theorem gX8_from_X0_copyFrom : GoodIn wsX8_from (wsV RX8 234 RX0 yX0_copyFrom wsX0_copyFrom) := goodIn_app (goodIn_of _ (by decide +kernel)) ggX8_from_X0_copyFrom
theorem dX8_from_0 : decode cX8_from 0 = .ok (.iload_n 1, 1) := by decide +kernel
theorem dX8_from_1 : decode cX8_from 1 = .ok (.invokestatic 231, 3) := by decide +kernel
theorem dX8_from_4 : decode cX8_from 4 = .ok (.ifCond .ne 10, 3) := by decide +kernel
theorem dX8_from_7 : decode cX8_from 7 = .ok (.aload_n 0, 1) := by decide +kernel
theorem dX8_from_8 : decode cX8_from 8 = .ok (.bipush (-2), 2) := by decide +kernel
theorem dX8_from_10 : decode cX8_from 10 = .ok (.invokevirtual 71, 3) := by decide +kernel
theorem dX8_from_13 : decode cX8_from 13 = .ok (.ireturn, 1) := by decide +kernel
theorem dX8_from_14 : decode cX8_from 14 = .ok (.aload_n 0, 1) := by decide +kernel
theorem dX8_from_15 : decode cX8_from 15 = .ok (.getfield 39, 3) := by decide +kernel
theorem dX8_from_18 : decode cX8_from 18 = .ok (.iload_n 1, 1) := by decide +kernel
theorem dX8_from_19 : decode cX8_from 19 = .ok (.aaload, 1) := by decide +kernel
theorem dX8_from_20 : decode cX8_from 20 = .ok (.astore_n 2, 1) := by decide +kernel
theorem dX8_from_21 : decode cX8_from 21 = .ok (.aload_n 2, 1) := by decide +kernel
theorem dX8_from_22 : decode cX8_from 22 = .ok (.ifnonnull 10, 3) := by decide +kernel
theorem dX8_from_25 : decode cX8_from 25 = .ok (.aload_n 0, 1) := by decide +kernel
theorem dX8_from_26 : decode cX8_from 26 = .ok (.bipush (-3), 2) := by decide +kernel
theorem dX8_from_28 : decode cX8_from 28 = .ok (.invokevirtual 71, 3) := by decide +kernel
theorem dX8_from_31 : decode cX8_from 31 = .ok (.ireturn, 1) := by decide +kernel
theorem dX8_from_32 : decode cX8_from 32 = .ok (.aload_n 0, 1) := by decide +kernel
theorem dX8_from_33 : decode cX8_from 33 = .ok (.getfield 44, 3) := by decide +kernel
theorem dX8_from_36 : decode cX8_from 36 = .ok (.aload_n 2, 1) := by decide +kernel
theorem dX8_from_37 : decode cX8_from 37 = .ok (.invokevirtual 234, 3) := by decide +kernel
theorem dX8_from_40 : decode cX8_from 40 = .ok (.iconst 1, 1) := by decide +kernel
theorem dX8_from_41 : decode cX8_from 41 = .ok (.ireturn, 1) := by decide +kernel
theorem dX8_status_0 : decode cX8_status 0 = .ok (.iload_n 1, 1) := by decide +kernel
theorem dX8_status_1 : decode cX8_status 1 = .ok (.tableswitch 42 0 2 #[27, 32, 37], 27) := by decide +kernel
theorem dX8_status_28 : decode cX8_status 28 = .ok (.aload_n 0, 1) := by decide +kernel
theorem dX8_status_29 : decode cX8_status 29 = .ok (.getfield 58, 3) := by decide +kernel
theorem dX8_status_32 : decode cX8_status 32 = .ok (.ireturn, 1) := by decide +kernel
theorem dX8_status_33 : decode cX8_status 33 = .ok (.aload_n 0, 1) := by decide +kernel
theorem dX8_status_34 : decode cX8_status 34 = .ok (.getfield 61, 3) := by decide +kernel
theorem dX8_status_37 : decode cX8_status 37 = .ok (.ireturn, 1) := by decide +kernel
theorem dX8_status_38 : decode cX8_status 38 = .ok (.aload_n 0, 1) := by decide +kernel
theorem dX8_status_39 : decode cX8_status 39 = .ok (.getfield 64, 3) := by decide +kernel
theorem dX8_status_42 : decode cX8_status 42 = .ok (.ireturn, 1) := by decide +kernel
theorem dX8_status_43 : decode cX8_status 43 = .ok (.aload_n 0, 1) := by decide +kernel
theorem dX8_status_44 : decode cX8_status 44 = .ok (.dup, 1) := by decide +kernel
theorem dX8_status_45 : decode cX8_status 45 = .ok (.getfield 58, 3) := by decide +kernel
theorem dX8_status_48 : decode cX8_status 48 = .ok (.iconst 1, 1) := by decide +kernel
theorem dX8_status_49 : decode cX8_status 49 = .ok (.iadd, 1) := by decide +kernel
theorem dX8_status_50 : decode cX8_status 50 = .ok (.putfield 58, 3) := by decide +kernel
theorem dX8_status_53 : decode cX8_status 53 = .ok (.iconst (-1), 1) := by decide +kernel
theorem dX8_status_54 : decode cX8_status 54 = .ok (.ireturn, 1) := by decide +kernel
set_option maxRecDepth 20000 in
theorem ggX8_count_X8_howMany : GoodIn wsX8_count wsX8_howMany := goodIn_r _ [5, 6, 7, 8, 9, 10, 11, 12, 13, 14, 15, 16, 17, 18, 19, 27, 28, 29, 30, 31, 32, 33, 34, 35, 36, 37, 38, 39, 40, 41, 42, 43, 44, 45, 46, 47, 48, 49, 50, 51, 52, 53, 54, 55] (by decide +kernel) (by decide +kernel)
set_option maxRecDepth 20000 in
theorem gX8_count_X8_howMany : GoodIn wsX8_count (wsV RX8 238 RX8 yX8_howMany wsX8_howMany) := goodIn_app (goodIn_of _ (by decide +kernel)) ggX8_count_X8_howMany
set_option maxRecDepth 20000 in
theorem ggX8_count_X8_told : GoodIn wsX8_count wsX8_told := goodIn_r _ [23, 24, 25, 26, 27, 28, 29, 30, 31, 32, 33, 34, 35, 36, 37, 38] (by decide +kernel) (by decide +kernel)
set_option maxRecDepth 20000 in
theorem gX8_count_X8_told : GoodIn wsX8_count (wsV RX8 71 RX8 yX8_told wsX8_told) := goodIn_app (goodIn_of _ (by decide +kernel)) ggX8_count_X8_told
theorem dX8_count_0 : decode cX8_count 0 = .ok (.aload_n 0, 1) := by decide +kernel
theorem dX8_count_1 : decode cX8_count 1 = .ok (.aload_n 0, 1) := by decide +kernel
theorem dX8_count_2 : decode cX8_count 2 = .ok (.iload_n 1, 1) := by decide +kernel
theorem dX8_count_3 : decode cX8_count 3 = .ok (.invokevirtual 238, 3) := by decide +kernel
theorem dX8_count_6 : decode cX8_count 6 = .ok (.invokevirtual 71, 3) := by decide +kernel
theorem dX8_count_9 : decode cX8_count 9 = .ok (.ireturn, 1) := by decide +kernel
set_option maxRecDepth 20000 in
theorem ggX8_digest_X8_howMany : GoodIn wsX8_digest wsX8_howMany := goodIn_r _ [10, 3, 11, 12, 13, 14, 15, 16, 17, 18, 19, 20, 21, 22, 23, 61, 62, 63, 64, 65, 66, 67, 68, 69, 70, 71, 72, 73, 74, 75, 76, 77, 78, 79, 80, 81, 82, 83, 84, 85, 86, 87, 88, 89] (by decide +kernel) (by decide +kernel)
set_option maxRecDepth 20000 in
theorem gX8_digest_X8_howMany : GoodIn wsX8_digest (wsV RX8 238 RX8 yX8_howMany wsX8_howMany) := goodIn_app (goodIn_of _ (by decide +kernel)) ggX8_digest_X8_howMany
set_option maxRecDepth 20000 in
theorem ggX8_digest_X0_digestOn : GoodIn wsX8_digest wsX0_digestOn := goodIn_r _ [28, 29, 30, 31, 32, 33, 34, 35, 36, 37, 38, 39, 40, 15, 41, 17, 42, 43, 44, 45, 46, 47, 48, 49, 13, 14, 16, 50, 51, 52, 27, 53, 54, 55, 9, 56, 57, 58, 59, 60, 73, 74, 75, 76, 77, 78, 79, 80, 81, 82, 83, 84, 85] (by decide +kernel) (by decide +kernel)
set_option maxRecDepth 20000 in
theorem gX8_digest_X0_digestOn : GoodIn wsX8_digest (wsV RX8 245 RX0 yX0_digestOn wsX0_digestOn) := goodIn_app (goodIn_of _ (by decide +kernel)) ggX8_digest_X0_digestOn
theorem dX8_digest_0 : decode cX8_digest 0 = .ok (.ldc2_w 241, 3) := by decide +kernel
theorem dX8_digest_3 : decode cX8_digest 3 = .ok (.lstore_n 1, 1) := by decide +kernel
theorem dX8_digest_4 : decode cX8_digest 4 = .ok (.iconst 0, 1) := by decide +kernel
theorem dX8_digest_5 : decode cX8_digest 5 = .ok (.istore_n 3, 1) := by decide +kernel
theorem dX8_digest_6 : decode cX8_digest 6 = .ok (.iload_n 3, 1) := by decide +kernel
theorem dX8_digest_7 : decode cX8_digest 7 = .ok (.bipush 7, 2) := by decide +kernel
theorem dX8_digest_9 : decode cX8_digest 9 = .ok (.if_icmp .ge 22, 3) := by decide +kernel
theorem dX8_digest_12 : decode cX8_digest 12 = .ok (.ldc2_w 243, 3) := by decide +kernel
theorem dX8_digest_15 : decode cX8_digest 15 = .ok (.lload_n 1, 1) := by decide +kernel
theorem dX8_digest_16 : decode cX8_digest 16 = .ok (.lmul, 1) := by decide +kernel
theorem dX8_digest_17 : decode cX8_digest 17 = .ok (.aload_n 0, 1) := by decide +kernel
theorem dX8_digest_18 : decode cX8_digest 18 = .ok (.iload_n 3, 1) := by decide +kernel
theorem dX8_digest_19 : decode cX8_digest 19 = .ok (.invokevirtual 238, 3) := by decide +kernel
theorem dX8_digest_22 : decode cX8_digest 22 = .ok (.i2l, 1) := by decide +kernel
theorem dX8_digest_23 : decode cX8_digest 23 = .ok (.ladd, 1) := by decide +kernel
theorem dX8_digest_24 : decode cX8_digest 24 = .ok (.lstore_n 1, 1) := by decide +kernel
theorem dX8_digest_25 : decode cX8_digest 25 = .ok (.iinc 3 1, 3) := by decide +kernel
theorem dX8_digest_28 : decode cX8_digest 28 = .ok (.goto (-22), 3) := by decide +kernel
theorem dX8_digest_31 : decode cX8_digest 31 = .ok (.aload_n 0, 1) := by decide +kernel
theorem dX8_digest_32 : decode cX8_digest 32 = .ok (.getfield 44, 3) := by decide +kernel
theorem dX8_digest_35 : decode cX8_digest 35 = .ok (.lload_n 1, 1) := by decide +kernel
theorem dX8_digest_36 : decode cX8_digest 36 = .ok (.invokevirtual 245, 3) := by decide +kernel
theorem dX8_digest_39 : decode cX8_digest 39 = .ok (.lstore_n 1, 1) := by decide +kernel
theorem dX8_digest_40 : decode cX8_digest 40 = .ok (.ldc2_w 243, 3) := by decide +kernel
theorem dX8_digest_43 : decode cX8_digest 43 = .ok (.lload_n 1, 1) := by decide +kernel
theorem dX8_digest_44 : decode cX8_digest 44 = .ok (.lmul, 1) := by decide +kernel
theorem dX8_digest_45 : decode cX8_digest 45 = .ok (.aload_n 0, 1) := by decide +kernel
theorem dX8_digest_46 : decode cX8_digest 46 = .ok (.getfield 51, 3) := by decide +kernel
theorem dX8_digest_49 : decode cX8_digest 49 = .ok (.i2l, 1) := by decide +kernel
theorem dX8_digest_50 : decode cX8_digest 50 = .ok (.ladd, 1) := by decide +kernel
theorem dX8_digest_51 : decode cX8_digest 51 = .ok (.lstore_n 1, 1) := by decide +kernel
theorem dX8_digest_52 : decode cX8_digest 52 = .ok (.ldc2_w 243, 3) := by decide +kernel
theorem dX8_digest_55 : decode cX8_digest 55 = .ok (.lload_n 1, 1) := by decide +kernel
theorem dX8_digest_56 : decode cX8_digest 56 = .ok (.lmul, 1) := by decide +kernel
theorem dX8_digest_57 : decode cX8_digest 57 = .ok (.aload_n 0, 1) := by decide +kernel
theorem dX8_digest_58 : decode cX8_digest 58 = .ok (.getfield 55, 3) := by decide +kernel
theorem dX8_digest_61 : decode cX8_digest 61 = .ok (.i2l, 1) := by decide +kernel
theorem dX8_digest_62 : decode cX8_digest 62 = .ok (.ladd, 1) := by decide +kernel
theorem dX8_digest_63 : decode cX8_digest 63 = .ok (.lreturn, 1) := by decide +kernel
set_option maxRecDepth 20000 in
theorem ggX8_howMany_X4_size : GoodIn wsX8_howMany wsX4_size := goodIn_r _ [7, 8, 36, 37, 38, 39] (by decide +kernel) (by decide +kernel)
set_option maxRecDepth 20000 in
theorem gX8_howMany_X4_size : GoodIn wsX8_howMany (wsV RX8 102 RX4 yX4_size wsX4_size) := goodIn_app (goodIn_of _ (by decide +kernel)) ggX8_howMany_X4_size
set_option maxRecDepth 20000 in
theorem ggX8_howMany_X7_size : GoodIn wsX8_howMany wsX7_size := goodIn_r _ [13, 14, 40, 41, 42, 43] (by decide +kernel) (by decide +kernel)
set_option maxRecDepth 20000 in
theorem gX8_howMany_X7_size : GoodIn wsX8_howMany (wsV RX8 252 RX7 yX7_size wsX7_size) := goodIn_app (goodIn_of _ (by decide +kernel)) ggX8_howMany_X7_size
theorem dX8_howMany_0 : decode cX8_howMany 0 = .ok (.iload_n 1, 1) := by decide +kernel
theorem dX8_howMany_1 : decode cX8_howMany 1 = .ok (.tableswitch 117 0 6 #[43, 54, 65, 76, 87, 98, 109], 43) := by decide +kernel
theorem dX8_howMany_44 : decode cX8_howMany 44 = .ok (.aload_n 0, 1) := by decide +kernel
theorem dX8_howMany_45 : decode cX8_howMany 45 = .ok (.getfield 44, 3) := by decide +kernel
theorem dX8_howMany_48 : decode cX8_howMany 48 = .ok (.getfield 75, 3) := by decide +kernel
theorem dX8_howMany_51 : decode cX8_howMany 51 = .ok (.invokevirtual 102, 3) := by decide +kernel
theorem dX8_howMany_54 : decode cX8_howMany 54 = .ok (.ireturn, 1) := by decide +kernel
theorem dX8_howMany_55 : decode cX8_howMany 55 = .ok (.aload_n 0, 1) := by decide +kernel
theorem dX8_howMany_56 : decode cX8_howMany 56 = .ok (.getfield 44, 3) := by decide +kernel
theorem dX8_howMany_59 : decode cX8_howMany 59 = .ok (.getfield 99, 3) := by decide +kernel
theorem dX8_howMany_62 : decode cX8_howMany 62 = .ok (.invokevirtual 102, 3) := by decide +kernel
theorem dX8_howMany_65 : decode cX8_howMany 65 = .ok (.ireturn, 1) := by decide +kernel
theorem dX8_howMany_66 : decode cX8_howMany 66 = .ok (.aload_n 0, 1) := by decide +kernel
theorem dX8_howMany_67 : decode cX8_howMany 67 = .ok (.getfield 44, 3) := by decide +kernel
theorem dX8_howMany_70 : decode cX8_howMany 70 = .ok (.getfield 109, 3) := by decide +kernel
theorem dX8_howMany_73 : decode cX8_howMany 73 = .ok (.invokevirtual 102, 3) := by decide +kernel
theorem dX8_howMany_76 : decode cX8_howMany 76 = .ok (.ireturn, 1) := by decide +kernel
theorem dX8_howMany_77 : decode cX8_howMany 77 = .ok (.aload_n 0, 1) := by decide +kernel
theorem dX8_howMany_78 : decode cX8_howMany 78 = .ok (.getfield 44, 3) := by decide +kernel
theorem dX8_howMany_81 : decode cX8_howMany 81 = .ok (.getfield 249, 3) := by decide +kernel
theorem dX8_howMany_84 : decode cX8_howMany 84 = .ok (.invokevirtual 102, 3) := by decide +kernel
theorem dX8_howMany_87 : decode cX8_howMany 87 = .ok (.ireturn, 1) := by decide +kernel
theorem dX8_howMany_88 : decode cX8_howMany 88 = .ok (.aload_n 0, 1) := by decide +kernel
theorem dX8_howMany_89 : decode cX8_howMany 89 = .ok (.getfield 44, 3) := by decide +kernel
theorem dX8_howMany_92 : decode cX8_howMany 92 = .ok (.getfield 169, 3) := by decide +kernel
theorem dX8_howMany_95 : decode cX8_howMany 95 = .ok (.invokevirtual 102, 3) := by decide +kernel
theorem dX8_howMany_98 : decode cX8_howMany 98 = .ok (.ireturn, 1) := by decide +kernel
theorem dX8_howMany_99 : decode cX8_howMany 99 = .ok (.aload_n 0, 1) := by decide +kernel
theorem dX8_howMany_100 : decode cX8_howMany 100 = .ok (.getfield 44, 3) := by decide +kernel
theorem dX8_howMany_103 : decode cX8_howMany 103 = .ok (.getfield 208, 3) := by decide +kernel
theorem dX8_howMany_106 : decode cX8_howMany 106 = .ok (.invokevirtual 102, 3) := by decide +kernel
theorem dX8_howMany_109 : decode cX8_howMany 109 = .ok (.ireturn, 1) := by decide +kernel
theorem dX8_howMany_110 : decode cX8_howMany 110 = .ok (.aload_n 0, 1) := by decide +kernel
theorem dX8_howMany_111 : decode cX8_howMany 111 = .ok (.getfield 12, 3) := by decide +kernel
theorem dX8_howMany_114 : decode cX8_howMany 114 = .ok (.invokevirtual 252, 3) := by decide +kernel
theorem dX8_howMany_117 : decode cX8_howMany 117 = .ok (.ireturn, 1) := by decide +kernel
theorem dX8_howMany_118 : decode cX8_howMany 118 = .ok (.bipush (-2), 2) := by decide +kernel
theorem dX8_howMany_120 : decode cX8_howMany 120 = .ok (.ireturn, 1) := by decide +kernel
theorem dX8_told_0 : decode cX8_told 0 = .ok (.iload_n 1, 1) := by decide +kernel
theorem dX8_told_1 : decode cX8_told 1 = .ok (.bipush (-2), 2) := by decide +kernel
theorem dX8_told_3 : decode cX8_told 3 = .ok (.if_icmp .ne 16, 3) := by decide +kernel
theorem dX8_told_6 : decode cX8_told 6 = .ok (.aload_n 0, 1) := by decide +kernel
theorem dX8_told_7 : decode cX8_told 7 = .ok (.dup, 1) := by decide +kernel
theorem dX8_told_8 : decode cX8_told 8 = .ok (.getfield 58, 3) := by decide +kernel
theorem dX8_told_11 : decode cX8_told 11 = .ok (.iconst 1, 1) := by decide +kernel
theorem dX8_told_12 : decode cX8_told 12 = .ok (.iadd, 1) := by decide +kernel
theorem dX8_told_13 : decode cX8_told 13 = .ok (.putfield 58, 3) := by decide +kernel
theorem dX8_told_16 : decode cX8_told 16 = .ok (.goto 38, 3) := by decide +kernel
theorem dX8_told_19 : decode cX8_told 19 = .ok (.iload_n 1, 1) := by decide +kernel
theorem dX8_told_20 : decode cX8_told 20 = .ok (.bipush (-3), 2) := by decide +kernel
theorem dX8_told_22 : decode cX8_told 22 = .ok (.if_icmp .ne 16, 3) := by decide +kernel
theorem dX8_told_25 : decode cX8_told 25 = .ok (.aload_n 0, 1) := by decide +kernel
theorem dX8_told_26 : decode cX8_told 26 = .ok (.dup, 1) := by decide +kernel
theorem dX8_told_27 : decode cX8_told 27 = .ok (.getfield 61, 3) := by decide +kernel
theorem dX8_told_30 : decode cX8_told 30 = .ok (.iconst 1, 1) := by decide +kernel
theorem dX8_told_31 : decode cX8_told 31 = .ok (.iadd, 1) := by decide +kernel
theorem dX8_told_32 : decode cX8_told 32 = .ok (.putfield 61, 3) := by decide +kernel
theorem dX8_told_35 : decode cX8_told 35 = .ok (.goto 19, 3) := by decide +kernel
theorem dX8_told_38 : decode cX8_told 38 = .ok (.iload_n 1, 1) := by decide +kernel
theorem dX8_told_39 : decode cX8_told 39 = .ok (.bipush (-4), 2) := by decide +kernel
theorem dX8_told_41 : decode cX8_told 41 = .ok (.if_icmp .ne 13, 3) := by decide +kernel
theorem dX8_told_44 : decode cX8_told 44 = .ok (.aload_n 0, 1) := by decide +kernel
theorem dX8_told_45 : decode cX8_told 45 = .ok (.dup, 1) := by decide +kernel
theorem dX8_told_46 : decode cX8_told 46 = .ok (.getfield 64, 3) := by decide +kernel
theorem dX8_told_49 : decode cX8_told 49 = .ok (.iconst 1, 1) := by decide +kernel
theorem dX8_told_50 : decode cX8_told 50 = .ok (.iadd, 1) := by decide +kernel
theorem dX8_told_51 : decode cX8_told 51 = .ok (.putfield 64, 3) := by decide +kernel
theorem dX8_told_54 : decode cX8_told 54 = .ok (.iload_n 1, 1) := by decide +kernel
theorem dX8_told_55 : decode cX8_told 55 = .ok (.ireturn, 1) := by decide +kernel
theorem dX8_badTen_0 : decode cX8_badTen 0 = .ok (.aload_n 0, 1) := by decide +kernel
theorem dX8_badTen_1 : decode cX8_badTen 1 = .ok (.dup, 1) := by decide +kernel
theorem dX8_badTen_2 : decode cX8_badTen 2 = .ok (.getfield 58, 3) := by decide +kernel
theorem dX8_badTen_5 : decode cX8_badTen 5 = .ok (.iconst 1, 1) := by decide +kernel
theorem dX8_badTen_6 : decode cX8_badTen 6 = .ok (.iadd, 1) := by decide +kernel
theorem dX8_badTen_7 : decode cX8_badTen 7 = .ok (.putfield 58, 3) := by decide +kernel
theorem dX8_badTen_10 : decode cX8_badTen 10 = .ok (.bipush (-10), 2) := by decide +kernel
theorem dX8_badTen_12 : decode cX8_badTen 12 = .ok (.ireturn, 1) := by decide +kernel
theorem dX8_setFraction_0 : decode cX8_setFraction 0 = .ok (.aload_n 0, 1) := by decide +kernel
theorem dX8_setFraction_1 : decode cX8_setFraction 1 = .ok (.iload_n 1, 1) := by decide +kernel
theorem dX8_setFraction_2 : decode cX8_setFraction 2 = .ok (.putfield 51, 3) := by decide +kernel
theorem dX8_setFraction_5 : decode cX8_setFraction 5 = .ok (.aload_n 0, 1) := by decide +kernel
theorem dX8_setFraction_6 : decode cX8_setFraction 6 = .ok (.iload_n 2, 1) := by decide +kernel
theorem dX8_setFraction_7 : decode cX8_setFraction 7 = .ok (.putfield 55, 3) := by decide +kernel
theorem dX8_setFraction_10 : decode cX8_setFraction 10 = .ok (.iload_n 1, 1) := by decide +kernel
theorem dX8_setFraction_11 : decode cX8_setFraction 11 = .ok (.istore_n 3, 1) := by decide +kernel
theorem dX8_setFraction_12 : decode cX8_setFraction 12 = .ok (.iload_n 3, 1) := by decide +kernel
theorem dX8_setFraction_13 : decode cX8_setFraction 13 = .ok (.iconst 1, 1) := by decide +kernel
theorem dX8_setFraction_14 : decode cX8_setFraction 14 = .ok (.if_icmp .le 36, 3) := by decide +kernel
theorem dX8_setFraction_17 : decode cX8_setFraction 17 = .ok (.iload_n 1, 1) := by decide +kernel
theorem dX8_setFraction_18 : decode cX8_setFraction 18 = .ok (.iload_n 3, 1) := by decide +kernel
theorem dX8_setFraction_19 : decode cX8_setFraction 19 = .ok (.irem, 1) := by decide +kernel
theorem dX8_setFraction_20 : decode cX8_setFraction 20 = .ok (.ifCond .ne 24, 3) := by decide +kernel
theorem dX8_setFraction_23 : decode cX8_setFraction 23 = .ok (.iload_n 2, 1) := by decide +kernel
theorem dX8_setFraction_24 : decode cX8_setFraction 24 = .ok (.iload_n 3, 1) := by decide +kernel
theorem dX8_setFraction_25 : decode cX8_setFraction 25 = .ok (.irem, 1) := by decide +kernel
theorem dX8_setFraction_26 : decode cX8_setFraction 26 = .ok (.ifCond .ne 18, 3) := by decide +kernel
theorem dX8_setFraction_29 : decode cX8_setFraction 29 = .ok (.aload_n 0, 1) := by decide +kernel
theorem dX8_setFraction_30 : decode cX8_setFraction 30 = .ok (.iload_n 1, 1) := by decide +kernel
theorem dX8_setFraction_31 : decode cX8_setFraction 31 = .ok (.iload_n 3, 1) := by decide +kernel
theorem dX8_setFraction_32 : decode cX8_setFraction 32 = .ok (.idiv, 1) := by decide +kernel
theorem dX8_setFraction_33 : decode cX8_setFraction 33 = .ok (.putfield 51, 3) := by decide +kernel
theorem dX8_setFraction_36 : decode cX8_setFraction 36 = .ok (.aload_n 0, 1) := by decide +kernel
theorem dX8_setFraction_37 : decode cX8_setFraction 37 = .ok (.iload_n 2, 1) := by decide +kernel
theorem dX8_setFraction_38 : decode cX8_setFraction 38 = .ok (.iload_n 3, 1) := by decide +kernel
theorem dX8_setFraction_39 : decode cX8_setFraction 39 = .ok (.idiv, 1) := by decide +kernel
theorem dX8_setFraction_40 : decode cX8_setFraction 40 = .ok (.putfield 55, 3) := by decide +kernel
theorem dX8_setFraction_43 : decode cX8_setFraction 43 = .ok (.return_, 1) := by decide +kernel
theorem dX8_setFraction_44 : decode cX8_setFraction 44 = .ok (.iinc 3 (-1), 3) := by decide +kernel
theorem dX8_setFraction_47 : decode cX8_setFraction 47 = .ok (.goto (-35), 3) := by decide +kernel
theorem dX8_setFraction_50 : decode cX8_setFraction 50 = .ok (.return_, 1) := by decide +kernel
theorem dX8_isPerson_0 : decode cX8_isPerson 0 = .ok (.iload_n 0, 1) := by decide +kernel
theorem dX8_isPerson_1 : decode cX8_isPerson 1 = .ok (.ifCond .lt 12, 3) := by decide +kernel
theorem dX8_isPerson_4 : decode cX8_isPerson 4 = .ok (.iload_n 0, 1) := by decide +kernel
theorem dX8_isPerson_5 : decode cX8_isPerson 5 = .ok (.iconst 5, 1) := by decide +kernel
theorem dX8_isPerson_6 : decode cX8_isPerson 6 = .ok (.if_icmp .ge 7, 3) := by decide +kernel
theorem dX8_isPerson_9 : decode cX8_isPerson 9 = .ok (.iconst 1, 1) := by decide +kernel
theorem dX8_isPerson_10 : decode cX8_isPerson 10 = .ok (.goto 4, 3) := by decide +kernel
theorem dX8_isPerson_13 : decode cX8_isPerson 13 = .ok (.iconst 0, 1) := by decide +kernel
theorem dX8_isPerson_14 : decode cX8_isPerson 14 = .ok (.ireturn, 1) := by decide +kernel
theorem dX8_isHour_0 : decode cX8_isHour 0 = .ok (.iload_n 0, 1) := by decide +kernel
theorem dX8_isHour_1 : decode cX8_isHour 1 = .ok (.ifCond .lt 13, 3) := by decide +kernel
theorem dX8_isHour_4 : decode cX8_isHour 4 = .ok (.iload_n 0, 1) := by decide +kernel
theorem dX8_isHour_5 : decode cX8_isHour 5 = .ok (.bipush 24, 2) := by decide +kernel
theorem dX8_isHour_7 : decode cX8_isHour 7 = .ok (.if_icmp .ge 7, 3) := by decide +kernel
theorem dX8_isHour_10 : decode cX8_isHour 10 = .ok (.iconst 1, 1) := by decide +kernel
theorem dX8_isHour_11 : decode cX8_isHour 11 = .ok (.goto 4, 3) := by decide +kernel
theorem dX8_isHour_14 : decode cX8_isHour 14 = .ok (.iconst 0, 1) := by decide +kernel
theorem dX8_isHour_15 : decode cX8_isHour 15 = .ok (.ireturn, 1) := by decide +kernel
theorem dX8_isImage_0 : decode cX8_isImage 0 = .ok (.iload_n 0, 1) := by decide +kernel
theorem dX8_isImage_1 : decode cX8_isImage 1 = .ok (.ifCond .lt 12, 3) := by decide +kernel
theorem dX8_isImage_4 : decode cX8_isImage 4 = .ok (.iload_n 0, 1) := by decide +kernel
theorem dX8_isImage_5 : decode cX8_isImage 5 = .ok (.iconst 2, 1) := by decide +kernel
theorem dX8_isImage_6 : decode cX8_isImage 6 = .ok (.if_icmp .ge 7, 3) := by decide +kernel
theorem dX8_isImage_9 : decode cX8_isImage 9 = .ok (.iconst 1, 1) := by decide +kernel
theorem dX8_isImage_10 : decode cX8_isImage 10 = .ok (.goto 4, 3) := by decide +kernel
theorem dX8_isImage_13 : decode cX8_isImage 13 = .ok (.iconst 0, 1) := by decide +kernel
theorem dX8_isImage_14 : decode cX8_isImage 14 = .ok (.ireturn, 1) := by decide +kernel
theorem dX8_hasBit_0 : decode cX8_hasBit 0 = .ok (.iload_n 1, 1) := by decide +kernel
theorem dX8_hasBit_1 : decode cX8_hasBit 1 = .ok (.ifCond .lt 22, 3) := by decide +kernel
theorem dX8_hasBit_4 : decode cX8_hasBit 4 = .ok (.iload_n 1, 1) := by decide +kernel
theorem dX8_hasBit_5 : decode cX8_hasBit 5 = .ok (.bipush 32, 2) := by decide +kernel
theorem dX8_hasBit_7 : decode cX8_hasBit 7 = .ok (.if_icmp .ge 16, 3) := by decide +kernel
theorem dX8_hasBit_10 : decode cX8_hasBit 10 = .ok (.iload_n 0, 1) := by decide +kernel
theorem dX8_hasBit_11 : decode cX8_hasBit 11 = .ok (.iload_n 1, 1) := by decide +kernel
theorem dX8_hasBit_12 : decode cX8_hasBit 12 = .ok (.ishr, 1) := by decide +kernel
theorem dX8_hasBit_13 : decode cX8_hasBit 13 = .ok (.iconst 1, 1) := by decide +kernel
theorem dX8_hasBit_14 : decode cX8_hasBit 14 = .ok (.iand, 1) := by decide +kernel
theorem dX8_hasBit_15 : decode cX8_hasBit 15 = .ok (.iconst 1, 1) := by decide +kernel
theorem dX8_hasBit_16 : decode cX8_hasBit 16 = .ok (.if_icmp .ne 7, 3) := by decide +kernel
theorem dX8_hasBit_19 : decode cX8_hasBit 19 = .ok (.iconst 1, 1) := by decide +kernel
theorem dX8_hasBit_20 : decode cX8_hasBit 20 = .ok (.goto 4, 3) := by decide +kernel
theorem dX8_hasBit_23 : decode cX8_hasBit 23 = .ok (.iconst 0, 1) := by decide +kernel
theorem dX8_hasBit_24 : decode cX8_hasBit 24 = .ok (.ireturn, 1) := by decide +kernel
theorem dX9_is_0 : decode cX9_is 0 = .ok (.lload_n 0, 1) := by decide +kernel
theorem dX9_is_1 : decode cX9_is 1 = .ok (.lload_n 2, 1) := by decide +kernel
theorem dX9_is_2 : decode cX9_is 2 = .ok (.lcmp, 1) := by decide +kernel
theorem dX9_is_3 : decode cX9_is 3 = .ok (.ifCond .lt 14, 3) := by decide +kernel
theorem dX9_is_6 : decode cX9_is 6 = .ok (.lload_n 0, 1) := by decide +kernel
theorem dX9_is_7 : decode cX9_is 7 = .ok (.lload 4, 2) := by decide +kernel
theorem dX9_is_9 : decode cX9_is 9 = .ok (.lcmp, 1) := by decide +kernel
theorem dX9_is_10 : decode cX9_is 10 = .ok (.ifCond .gt 7, 3) := by decide +kernel
theorem dX9_is_13 : decode cX9_is 13 = .ok (.iconst 1, 1) := by decide +kernel
theorem dX9_is_14 : decode cX9_is 14 = .ok (.goto 4, 3) := by decide +kernel
theorem dX9_is_17 : decode cX9_is 17 = .ok (.iconst 0, 1) := by decide +kernel
theorem dX9_is_18 : decode cX9_is 18 = .ok (.ireturn, 1) := by decide +kernel
theorem dX9_init_0 : decode cX9_init 0 = .ok (.aload_n 0, 1) := by decide +kernel
theorem dX9_init_1 : decode cX9_init 1 = .ok (.invokespecial 1, 3) := by decide +kernel
theorem dX9_init_4 : decode cX9_init 4 = .ok (.aload_n 0, 1) := by decide +kernel
theorem dX9_init_5 : decode cX9_init 5 = .ok (.sipush 212, 3) := by decide +kernel
theorem dX9_init_8 : decode cX9_init 8 = .ok (.newarray .int, 2) := by decide +kernel
theorem dX9_init_10 : decode cX9_init 10 = .ok (.putfield 7, 3) := by decide +kernel
theorem dX9_init_13 : decode cX9_init 13 = .ok (.aload_n 0, 1) := by decide +kernel
theorem dX9_init_14 : decode cX9_init 14 = .ok (.sipush 424, 3) := by decide +kernel
theorem dX9_init_17 : decode cX9_init 17 = .ok (.newarray .int, 2) := by decide +kernel
theorem dX9_init_19 : decode cX9_init 19 = .ok (.putfield 13, 3) := by decide +kernel
theorem dX9_init_22 : decode cX9_init 22 = .ok (.aload_n 0, 1) := by decide +kernel
theorem dX9_init_23 : decode cX9_init 23 = .ok (.iconst 2, 1) := by decide +kernel
theorem dX9_init_24 : decode cX9_init 24 = .ok (.newarray .boolean, 2) := by decide +kernel
theorem dX9_init_26 : decode cX9_init 26 = .ok (.putfield 16, 3) := by decide +kernel
theorem dX9_init_29 : decode cX9_init 29 = .ok (.aload_n 0, 1) := by decide +kernel
theorem dX9_init_30 : decode cX9_init 30 = .ok (.sipush 212, 3) := by decide +kernel
theorem dX9_init_33 : decode cX9_init 33 = .ok (.newarray .int, 2) := by decide +kernel
theorem dX9_init_35 : decode cX9_init 35 = .ok (.putfield 20, 3) := by decide +kernel
theorem dX9_init_38 : decode cX9_init 38 = .ok (.aload_n 0, 1) := by decide +kernel
theorem dX9_init_39 : decode cX9_init 39 = .ok (.iconst 3, 1) := by decide +kernel
theorem dX9_init_40 : decode cX9_init 40 = .ok (.newarray .int, 2) := by decide +kernel
theorem dX9_init_42 : decode cX9_init 42 = .ok (.putfield 23, 3) := by decide +kernel
theorem dX9_init_45 : decode cX9_init 45 = .ok (.aload_n 0, 1) := by decide +kernel
theorem dX9_init_46 : decode cX9_init 46 = .ok (.sipush 250, 3) := by decide +kernel
theorem dX9_init_49 : decode cX9_init 49 = .ok (.newarray .int, 2) := by decide +kernel
theorem dX9_init_51 : decode cX9_init 51 = .ok (.putfield 26, 3) := by decide +kernel
theorem dX9_init_54 : decode cX9_init 54 = .ok (.aload_n 0, 1) := by decide +kernel
theorem dX9_init_55 : decode cX9_init 55 = .ok (.sipush 500, 3) := by decide +kernel
theorem dX9_init_58 : decode cX9_init 58 = .ok (.newarray .int, 2) := by decide +kernel
theorem dX9_init_60 : decode cX9_init 60 = .ok (.putfield 29, 3) := by decide +kernel
theorem dX9_init_63 : decode cX9_init 63 = .ok (.aload_n 0, 1) := by decide +kernel
theorem dX9_init_64 : decode cX9_init 64 = .ok (.bipush 8, 2) := by decide +kernel
theorem dX9_init_66 : decode cX9_init 66 = .ok (.newarray .int, 2) := by decide +kernel
theorem dX9_init_68 : decode cX9_init 68 = .ok (.putfield 32, 3) := by decide +kernel
theorem dX9_init_71 : decode cX9_init 71 = .ok (.aload_n 0, 1) := by decide +kernel
theorem dX9_init_72 : decode cX9_init 72 = .ok (.sipush 300, 3) := by decide +kernel
theorem dX9_init_75 : decode cX9_init 75 = .ok (.newarray .int, 2) := by decide +kernel
theorem dX9_init_77 : decode cX9_init 77 = .ok (.putfield 35, 3) := by decide +kernel
theorem dX9_init_80 : decode cX9_init 80 = .ok (.aload_n 0, 1) := by decide +kernel
theorem dX9_init_81 : decode cX9_init 81 = .ok (.sipush 300, 3) := by decide +kernel
theorem dX9_init_84 : decode cX9_init 84 = .ok (.newarray .int, 2) := by decide +kernel
theorem dX9_init_86 : decode cX9_init 86 = .ok (.putfield 38, 3) := by decide +kernel
theorem dX9_init_89 : decode cX9_init 89 = .ok (.aload_n 0, 1) := by decide +kernel
theorem dX9_init_90 : decode cX9_init 90 = .ok (.iconst 5, 1) := by decide +kernel
theorem dX9_init_91 : decode cX9_init 91 = .ok (.newarray .int, 2) := by decide +kernel
theorem dX9_init_93 : decode cX9_init 93 = .ok (.putfield 41, 3) := by decide +kernel
theorem dX9_init_96 : decode cX9_init 96 = .ok (.aload_n 0, 1) := by decide +kernel
theorem dX9_init_97 : decode cX9_init 97 = .ok (.iconst 5, 1) := by decide +kernel
theorem dX9_init_98 : decode cX9_init 98 = .ok (.newarray .int, 2) := by decide +kernel
theorem dX9_init_100 : decode cX9_init 100 = .ok (.putfield 44, 3) := by decide +kernel
theorem dX9_init_103 : decode cX9_init 103 = .ok (.aload_n 0, 1) := by decide +kernel
theorem dX9_init_104 : decode cX9_init 104 = .ok (.iconst 5, 1) := by decide +kernel
theorem dX9_init_105 : decode cX9_init 105 = .ok (.newarray .int, 2) := by decide +kernel
theorem dX9_init_107 : decode cX9_init 107 = .ok (.putfield 47, 3) := by decide +kernel
theorem dX9_init_110 : decode cX9_init 110 = .ok (.aload_n 0, 1) := by decide +kernel
theorem dX9_init_111 : decode cX9_init 111 = .ok (.iconst 5, 1) := by decide +kernel
theorem dX9_init_112 : decode cX9_init 112 = .ok (.newarray .int, 2) := by decide +kernel
theorem dX9_init_114 : decode cX9_init 114 = .ok (.putfield 50, 3) := by decide +kernel
theorem dX9_init_117 : decode cX9_init 117 = .ok (.aload_n 0, 1) := by decide +kernel
theorem dX9_init_118 : decode cX9_init 118 = .ok (.lconst 1, 1) := by decide +kernel
theorem dX9_init_119 : decode cX9_init 119 = .ok (.putfield 53, 3) := by decide +kernel
theorem dX9_init_122 : decode cX9_init 122 = .ok (.return_, 1) := by decide +kernel
theorem dX9_refuses_0 : decode cX9_refuses 0 = .ok (.aload_n 0, 1) := by decide +kernel
theorem dX9_refuses_1 : decode cX9_refuses 1 = .ok (.getfield 23, 3) := by decide +kernel
theorem dX9_refuses_4 : decode cX9_refuses 4 = .ok (.iload_n 1, 1) := by decide +kernel
theorem dX9_refuses_5 : decode cX9_refuses 5 = .ok (.dup2, 1) := by decide +kernel
theorem dX9_refuses_6 : decode cX9_refuses 6 = .ok (.iaload, 1) := by decide +kernel
theorem dX9_refuses_7 : decode cX9_refuses 7 = .ok (.aload_n 0, 1) := by decide +kernel
theorem dX9_refuses_8 : decode cX9_refuses 8 = .ok (.getfield 57, 3) := by decide +kernel
theorem dX9_refuses_11 : decode cX9_refuses 11 = .ok (.ifCond .eq 7, 3) := by decide +kernel
theorem dX9_refuses_14 : decode cX9_refuses 14 = .ok (.iconst 0, 1) := by decide +kernel
theorem dX9_refuses_15 : decode cX9_refuses 15 = .ok (.goto 4, 3) := by decide +kernel
theorem dX9_refuses_18 : decode cX9_refuses 18 = .ok (.iconst 1, 1) := by decide +kernel
theorem dX9_refuses_19 : decode cX9_refuses 19 = .ok (.iadd, 1) := by decide +kernel
theorem dX9_refuses_20 : decode cX9_refuses 20 = .ok (.iastore, 1) := by decide +kernel
theorem dX9_refuses_21 : decode cX9_refuses 21 = .ok (.iload_n 2, 1) := by decide +kernel
theorem dX9_refuses_22 : decode cX9_refuses 22 = .ok (.ireturn, 1) := by decide +kernel
set_option maxRecDepth 20000 in
theorem ggX9_bad_X9_refuses : GoodIn wsX9_bad wsX9_refuses := goodIn_r _ [5, 6, 7, 8, 9, 10, 11, 12, 13, 14, 15, 16, 17, 18, 19, 20, 21, 22, 23, 24, 25, 26, 27, 28, 29, 30] (by decide +kernel) (by decide +kernel)
set_option maxRecDepth 20000 in
theorem gX9_bad_X9_refuses : GoodIn wsX9_bad (wsV RX9 61 RX9 yX9_refuses wsX9_refuses) := goodIn_app (goodIn_of _ (by decide +kernel)) ggX9_bad_X9_refuses
theorem dX9_bad_0 : decode cX9_bad 0 = .ok (.aload_n 0, 1) := by decide +kernel
theorem dX9_bad_1 : decode cX9_bad 1 = .ok (.iconst 0, 1) := by decide +kernel
theorem dX9_bad_2 : decode cX9_bad 2 = .ok (.bipush (-2), 2) := by decide +kernel
theorem dX9_bad_4 : decode cX9_bad 4 = .ok (.invokevirtual 61, 3) := by decide +kernel
theorem dX9_bad_7 : decode cX9_bad 7 = .ok (.ireturn, 1) := by decide +kernel
set_option maxRecDepth 20000 in
theorem ggX9_no_X9_refuses : GoodIn wsX9_no wsX9_refuses := goodIn_r _ [5, 6, 7, 8, 9, 10, 11, 12, 13, 14, 15, 16, 17, 18, 19, 20, 21, 22, 23, 24, 25, 26, 27, 28, 29, 30] (by decide +kernel) (by decide +kernel)
set_option maxRecDepth 20000 in
theorem gX9_no_X9_refuses : GoodIn wsX9_no (wsV RX9 61 RX9 yX9_refuses wsX9_refuses) := goodIn_app (goodIn_of _ (by decide +kernel)) ggX9_no_X9_refuses
theorem dX9_no_0 : decode cX9_no 0 = .ok (.aload_n 0, 1) := by decide +kernel
theorem dX9_no_1 : decode cX9_no 1 = .ok (.iconst 1, 1) := by decide +kernel
theorem dX9_no_2 : decode cX9_no 2 = .ok (.bipush (-3), 2) := by decide +kernel
theorem dX9_no_4 : decode cX9_no 4 = .ok (.invokevirtual 61, 3) := by decide +kernel
theorem dX9_no_7 : decode cX9_no 7 = .ok (.ireturn, 1) := by decide +kernel
set_option maxRecDepth 20000 in
theorem ggX9_full_X9_refuses : GoodIn wsX9_full wsX9_refuses := goodIn_r _ [5, 6, 7, 8, 9, 10, 11, 12, 13, 14, 15, 16, 17, 18, 19, 20, 21, 22, 23, 24, 25, 26, 27, 28, 29, 30] (by decide +kernel) (by decide +kernel)
set_option maxRecDepth 20000 in
theorem gX9_full_X9_refuses : GoodIn wsX9_full (wsV RX9 61 RX9 yX9_refuses wsX9_refuses) := goodIn_app (goodIn_of _ (by decide +kernel)) ggX9_full_X9_refuses
theorem dX9_full_0 : decode cX9_full 0 = .ok (.aload_n 0, 1) := by decide +kernel
theorem dX9_full_1 : decode cX9_full 1 = .ok (.iconst 2, 1) := by decide +kernel
theorem dX9_full_2 : decode cX9_full 2 = .ok (.bipush (-4), 2) := by decide +kernel
theorem dX9_full_4 : decode cX9_full 4 = .ok (.invokevirtual 61, 3) := by decide +kernel
theorem dX9_full_7 : decode cX9_full 7 = .ok (.ireturn, 1) := by decide +kernel
set_option maxRecDepth 20000 in
theorem ggX9_isTerm_X9_is : GoodIn wsX9_isTerm wsX9_is := goodIn_r _ [5] (by decide +kernel) (by decide +kernel)
set_option maxRecDepth 20000 in
theorem gX9_isTerm_X9_is : GoodIn wsX9_isTerm (va_wsS RX9 65 yX9_is wsX9_is) := goodIn_app (goodIn_of _ (by decide +kernel)) ggX9_isTerm_X9_is
theorem dX9_isTerm_0 : decode cX9_isTerm 0 = .ok (.iload_n 1, 1) := by decide +kernel
theorem dX9_isTerm_1 : decode cX9_isTerm 1 = .ok (.i2l, 1) := by decide +kernel
theorem dX9_isTerm_2 : decode cX9_isTerm 2 = .ok (.lconst 0, 1) := by decide +kernel
theorem dX9_isTerm_3 : decode cX9_isTerm 3 = .ok (.aload_n 0, 1) := by decide +kernel
theorem dX9_isTerm_4 : decode cX9_isTerm 4 = .ok (.getfield 7, 3) := by decide +kernel
theorem dX9_isTerm_7 : decode cX9_isTerm 7 = .ok (.iconst 0, 1) := by decide +kernel
theorem dX9_isTerm_8 : decode cX9_isTerm 8 = .ok (.iaload, 1) := by decide +kernel
theorem dX9_isTerm_9 : decode cX9_isTerm 9 = .ok (.iconst 1, 1) := by decide +kernel
theorem dX9_isTerm_10 : decode cX9_isTerm 10 = .ok (.isub, 1) := by decide +kernel
theorem dX9_isTerm_11 : decode cX9_isTerm 11 = .ok (.i2l, 1) := by decide +kernel
theorem dX9_isTerm_12 : decode cX9_isTerm 12 = .ok (.invokestatic 65, 3) := by decide +kernel
theorem dX9_isTerm_15 : decode cX9_isTerm 15 = .ok (.ireturn, 1) := by decide +kernel
set_option maxRecDepth 20000 in
theorem ggX9_isSet_X9_is : GoodIn wsX9_isSet wsX9_is := goodIn_r _ [5] (by decide +kernel) (by decide +kernel)
set_option maxRecDepth 20000 in
theorem gX9_isSet_X9_is : GoodIn wsX9_isSet (va_wsS RX9 65 yX9_is wsX9_is) := goodIn_app (goodIn_of _ (by decide +kernel)) ggX9_isSet_X9_is
theorem dX9_isSet_0 : decode cX9_isSet 0 = .ok (.iload_n 1, 1) := by decide +kernel
theorem dX9_isSet_1 : decode cX9_isSet 1 = .ok (.i2l, 1) := by decide +kernel
theorem dX9_isSet_2 : decode cX9_isSet 2 = .ok (.lconst 0, 1) := by decide +kernel
theorem dX9_isSet_3 : decode cX9_isSet 3 = .ok (.iconst 1, 1) := by decide +kernel
theorem dX9_isSet_4 : decode cX9_isSet 4 = .ok (.aload_n 0, 1) := by decide +kernel
theorem dX9_isSet_5 : decode cX9_isSet 5 = .ok (.getfield 7, 3) := by decide +kernel
theorem dX9_isSet_8 : decode cX9_isSet 8 = .ok (.iconst 0, 1) := by decide +kernel
theorem dX9_isSet_9 : decode cX9_isSet 9 = .ok (.iaload, 1) := by decide +kernel
theorem dX9_isSet_10 : decode cX9_isSet 10 = .ok (.ishl, 1) := by decide +kernel
theorem dX9_isSet_11 : decode cX9_isSet 11 = .ok (.iconst 1, 1) := by decide +kernel
theorem dX9_isSet_12 : decode cX9_isSet 12 = .ok (.isub, 1) := by decide +kernel
theorem dX9_isSet_13 : decode cX9_isSet 13 = .ok (.i2l, 1) := by decide +kernel
theorem dX9_isSet_14 : decode cX9_isSet 14 = .ok (.invokestatic 65, 3) := by decide +kernel
theorem dX9_isSet_17 : decode cX9_isSet 17 = .ok (.ireturn, 1) := by decide +kernel
set_option maxRecDepth 20000 in
theorem ggX9_isOne_X9_is : GoodIn wsX9_isOne wsX9_is := goodIn_r _ [5] (by decide +kernel) (by decide +kernel)
set_option maxRecDepth 20000 in
theorem gX9_isOne_X9_is : GoodIn wsX9_isOne (va_wsS RX9 65 yX9_is wsX9_is) := goodIn_app (goodIn_of _ (by decide +kernel)) ggX9_isOne_X9_is
theorem dX9_isOne_0 : decode cX9_isOne 0 = .ok (.iload_n 0, 1) := by decide +kernel
theorem dX9_isOne_1 : decode cX9_isOne 1 = .ok (.i2l, 1) := by decide +kernel
theorem dX9_isOne_2 : decode cX9_isOne 2 = .ok (.lconst 0, 1) := by decide +kernel
theorem dX9_isOne_3 : decode cX9_isOne 3 = .ok (.ldc2_w 69, 3) := by decide +kernel
theorem dX9_isOne_6 : decode cX9_isOne 6 = .ok (.invokestatic 65, 3) := by decide +kernel
theorem dX9_isOne_9 : decode cX9_isOne 9 = .ok (.ireturn, 1) := by decide +kernel
theorem dX9_bits_0 : decode cX9_bits 0 = .ok (.iconst 0, 1) := by decide +kernel
theorem dX9_bits_1 : decode cX9_bits 1 = .ok (.istore_n 1, 1) := by decide +kernel
theorem dX9_bits_2 : decode cX9_bits 2 = .ok (.iconst 0, 1) := by decide +kernel
theorem dX9_bits_3 : decode cX9_bits 3 = .ok (.istore_n 2, 1) := by decide +kernel
theorem dX9_bits_4 : decode cX9_bits 4 = .ok (.iload_n 2, 1) := by decide +kernel
theorem dX9_bits_5 : decode cX9_bits 5 = .ok (.bipush 10, 2) := by decide +kernel
theorem dX9_bits_7 : decode cX9_bits 7 = .ok (.if_icmp .ge 17, 3) := by decide +kernel
theorem dX9_bits_10 : decode cX9_bits 10 = .ok (.iload_n 1, 1) := by decide +kernel
theorem dX9_bits_11 : decode cX9_bits 11 = .ok (.iload_n 0, 1) := by decide +kernel
theorem dX9_bits_12 : decode cX9_bits 12 = .ok (.iload_n 2, 1) := by decide +kernel
theorem dX9_bits_13 : decode cX9_bits 13 = .ok (.ishr, 1) := by decide +kernel
theorem dX9_bits_14 : decode cX9_bits 14 = .ok (.iconst 1, 1) := by decide +kernel
theorem dX9_bits_15 : decode cX9_bits 15 = .ok (.iand, 1) := by decide +kernel
theorem dX9_bits_16 : decode cX9_bits 16 = .ok (.iadd, 1) := by decide +kernel
theorem dX9_bits_17 : decode cX9_bits 17 = .ok (.istore_n 1, 1) := by decide +kernel
theorem dX9_bits_18 : decode cX9_bits 18 = .ok (.iinc 2 1, 3) := by decide +kernel
theorem dX9_bits_21 : decode cX9_bits 21 = .ok (.goto (-17), 3) := by decide +kernel
theorem dX9_bits_24 : decode cX9_bits 24 = .ok (.iload_n 1, 1) := by decide +kernel
theorem dX9_bits_25 : decode cX9_bits 25 = .ok (.ireturn, 1) := by decide +kernel
set_option maxRecDepth 20000 in
theorem ggX9_term_X9_is : GoodIn wsX9_term wsX9_is := goodIn_r _ [8] (by decide +kernel) (by decide +kernel)
set_option maxRecDepth 20000 in
theorem gX9_term_X9_is : GoodIn wsX9_term (va_wsS RX9 65 yX9_is wsX9_is) := goodIn_app (goodIn_of _ (by decide +kernel)) ggX9_term_X9_is
set_option maxRecDepth 20000 in
theorem ggX9_term_X9_bad : GoodIn wsX9_term wsX9_bad := goodIn_r _ [12, 13, 14, 15, 7, 16, 17, 18, 23, 24, 25, 26, 27, 28, 29, 30, 31, 32, 33, 34, 35, 36, 37, 38, 39, 40, 41, 42, 43, 44, 45] (by decide +kernel) (by decide +kernel)
set_option maxRecDepth 20000 in
theorem gX9_term_X9_bad : GoodIn wsX9_term (wsV RX9 77 RX9 yX9_bad wsX9_bad) := goodIn_app (goodIn_of _ (by decide +kernel)) ggX9_term_X9_bad
set_option maxRecDepth 20000 in
theorem ggX9_term_X9_full : GoodIn wsX9_term wsX9_full := goodIn_r _ [22, 13, 14, 15, 7, 16, 17, 18, 23, 24, 25, 26, 27, 28, 29, 30, 31, 32, 33, 34, 35, 36, 37, 38, 39, 40, 41, 42, 43, 44, 45] (by decide +kernel) (by decide +kernel)
set_option maxRecDepth 20000 in
theorem gX9_term_X9_full : GoodIn wsX9_term (wsV RX9 81 RX9 yX9_full wsX9_full) := goodIn_app (goodIn_of _ (by decide +kernel)) ggX9_term_X9_full
theorem dX9_term_0 : decode cX9_term 0 = .ok (.iload_n 1, 1) := by decide +kernel
theorem dX9_term_1 : decode cX9_term 1 = .ok (.i2l, 1) := by decide +kernel
theorem dX9_term_2 : decode cX9_term 2 = .ok (.lconst 0, 1) := by decide +kernel
theorem dX9_term_3 : decode cX9_term 3 = .ok (.ldc2_w 71, 3) := by decide +kernel
theorem dX9_term_6 : decode cX9_term 6 = .ok (.invokestatic 65, 3) := by decide +kernel
theorem dX9_term_9 : decode cX9_term 9 = .ok (.ifCond .eq 27, 3) := by decide +kernel
theorem dX9_term_12 : decode cX9_term 12 = .ok (.iload_n 2, 1) := by decide +kernel
theorem dX9_term_13 : decode cX9_term 13 = .ok (.i2l, 1) := by decide +kernel
theorem dX9_term_14 : decode cX9_term 14 = .ok (.lconst 1, 1) := by decide +kernel
theorem dX9_term_15 : decode cX9_term 15 = .ok (.ldc2_w 73, 3) := by decide +kernel
theorem dX9_term_18 : decode cX9_term 18 = .ok (.invokestatic 65, 3) := by decide +kernel
theorem dX9_term_21 : decode cX9_term 21 = .ok (.ifCond .eq 15, 3) := by decide +kernel
theorem dX9_term_24 : decode cX9_term 24 = .ok (.iload_n 3, 1) := by decide +kernel
theorem dX9_term_25 : decode cX9_term 25 = .ok (.i2l, 1) := by decide +kernel
theorem dX9_term_26 : decode cX9_term 26 = .ok (.lconst 0, 1) := by decide +kernel
theorem dX9_term_27 : decode cX9_term 27 = .ok (.ldc2_w 75, 3) := by decide +kernel
theorem dX9_term_30 : decode cX9_term 30 = .ok (.invokestatic 65, 3) := by decide +kernel
theorem dX9_term_33 : decode cX9_term 33 = .ok (.ifCond .ne 8, 3) := by decide +kernel
theorem dX9_term_36 : decode cX9_term 36 = .ok (.aload_n 0, 1) := by decide +kernel
theorem dX9_term_37 : decode cX9_term 37 = .ok (.invokevirtual 77, 3) := by decide +kernel
theorem dX9_term_40 : decode cX9_term 40 = .ok (.ireturn, 1) := by decide +kernel
theorem dX9_term_41 : decode cX9_term 41 = .ok (.aload_n 0, 1) := by decide +kernel
theorem dX9_term_42 : decode cX9_term 42 = .ok (.getfield 7, 3) := by decide +kernel
theorem dX9_term_45 : decode cX9_term 45 = .ok (.iconst 0, 1) := by decide +kernel
theorem dX9_term_46 : decode cX9_term 46 = .ok (.iaload, 1) := by decide +kernel
theorem dX9_term_47 : decode cX9_term 47 = .ok (.bipush 8, 2) := by decide +kernel
theorem dX9_term_49 : decode cX9_term 49 = .ok (.if_icmp .ne 8, 3) := by decide +kernel
theorem dX9_term_52 : decode cX9_term 52 = .ok (.aload_n 0, 1) := by decide +kernel
theorem dX9_term_53 : decode cX9_term 53 = .ok (.invokevirtual 81, 3) := by decide +kernel
theorem dX9_term_56 : decode cX9_term 56 = .ok (.ireturn, 1) := by decide +kernel
theorem dX9_term_57 : decode cX9_term 57 = .ok (.aload_n 0, 1) := by decide +kernel
theorem dX9_term_58 : decode cX9_term 58 = .ok (.getfield 7, 3) := by decide +kernel
theorem dX9_term_61 : decode cX9_term 61 = .ok (.iconst 0, 1) := by decide +kernel
theorem dX9_term_62 : decode cX9_term 62 = .ok (.iaload, 1) := by decide +kernel
theorem dX9_term_63 : decode cX9_term 63 = .ok (.istore 4, 2) := by decide +kernel
theorem dX9_term_65 : decode cX9_term 65 = .ok (.aload_n 0, 1) := by decide +kernel
theorem dX9_term_66 : decode cX9_term 66 = .ok (.getfield 7, 3) := by decide +kernel
theorem dX9_term_69 : decode cX9_term 69 = .ok (.bipush 8, 2) := by decide +kernel
theorem dX9_term_71 : decode cX9_term 71 = .ok (.iconst 3, 1) := by decide +kernel
theorem dX9_term_72 : decode cX9_term 72 = .ok (.iload 4, 2) := by decide +kernel
theorem dX9_term_74 : decode cX9_term 74 = .ok (.imul, 1) := by decide +kernel
theorem dX9_term_75 : decode cX9_term 75 = .ok (.iadd, 1) := by decide +kernel
theorem dX9_term_76 : decode cX9_term 76 = .ok (.iload_n 1, 1) := by decide +kernel
theorem dX9_term_77 : decode cX9_term 77 = .ok (.iastore, 1) := by decide +kernel
theorem dX9_term_78 : decode cX9_term 78 = .ok (.aload_n 0, 1) := by decide +kernel
theorem dX9_term_79 : decode cX9_term 79 = .ok (.getfield 7, 3) := by decide +kernel
theorem dX9_term_82 : decode cX9_term 82 = .ok (.bipush 8, 2) := by decide +kernel
theorem dX9_term_84 : decode cX9_term 84 = .ok (.iconst 3, 1) := by decide +kernel
theorem dX9_term_85 : decode cX9_term 85 = .ok (.iload 4, 2) := by decide +kernel
theorem dX9_term_87 : decode cX9_term 87 = .ok (.imul, 1) := by decide +kernel
theorem dX9_term_88 : decode cX9_term 88 = .ok (.iadd, 1) := by decide +kernel
theorem dX9_term_89 : decode cX9_term 89 = .ok (.iconst 1, 1) := by decide +kernel
theorem dX9_term_90 : decode cX9_term 90 = .ok (.iadd, 1) := by decide +kernel
theorem dX9_term_91 : decode cX9_term 91 = .ok (.iload_n 2, 1) := by decide +kernel
theorem dX9_term_92 : decode cX9_term 92 = .ok (.iastore, 1) := by decide +kernel
theorem dX9_term_93 : decode cX9_term 93 = .ok (.aload_n 0, 1) := by decide +kernel
theorem dX9_term_94 : decode cX9_term 94 = .ok (.getfield 7, 3) := by decide +kernel
theorem dX9_term_97 : decode cX9_term 97 = .ok (.bipush 8, 2) := by decide +kernel
theorem dX9_term_99 : decode cX9_term 99 = .ok (.iconst 3, 1) := by decide +kernel
theorem dX9_term_100 : decode cX9_term 100 = .ok (.iload 4, 2) := by decide +kernel
theorem dX9_term_102 : decode cX9_term 102 = .ok (.imul, 1) := by decide +kernel
theorem dX9_term_103 : decode cX9_term 103 = .ok (.iadd, 1) := by decide +kernel
theorem dX9_term_104 : decode cX9_term 104 = .ok (.iconst 2, 1) := by decide +kernel
theorem dX9_term_105 : decode cX9_term 105 = .ok (.iadd, 1) := by decide +kernel
theorem dX9_term_106 : decode cX9_term 106 = .ok (.iload_n 3, 1) := by decide +kernel
theorem dX9_term_107 : decode cX9_term 107 = .ok (.iastore, 1) := by decide +kernel
theorem dX9_term_108 : decode cX9_term 108 = .ok (.iconst 0, 1) := by decide +kernel
theorem dX9_term_109 : decode cX9_term 109 = .ok (.istore 5, 2) := by decide +kernel
theorem dX9_term_111 : decode cX9_term 111 = .ok (.iload 5, 2) := by decide +kernel
theorem dX9_term_113 : decode cX9_term 113 = .ok (.iconst 5, 1) := by decide +kernel
theorem dX9_term_114 : decode cX9_term 114 = .ok (.if_icmp .ge 27, 3) := by decide +kernel
theorem dX9_term_117 : decode cX9_term 117 = .ok (.aload_n 0, 1) := by decide +kernel
theorem dX9_term_118 : decode cX9_term 118 = .ok (.getfield 7, 3) := by decide +kernel
theorem dX9_term_121 : decode cX9_term 121 = .ok (.sipush 156, 3) := by decide +kernel
theorem dX9_term_124 : decode cX9_term 124 = .ok (.bipush 8, 2) := by decide +kernel
theorem dX9_term_126 : decode cX9_term 126 = .ok (.iload 5, 2) := by decide +kernel
theorem dX9_term_128 : decode cX9_term 128 = .ok (.imul, 1) := by decide +kernel
theorem dX9_term_129 : decode cX9_term 129 = .ok (.iadd, 1) := by decide +kernel
theorem dX9_term_130 : decode cX9_term 130 = .ok (.iload 4, 2) := by decide +kernel
theorem dX9_term_132 : decode cX9_term 132 = .ok (.iadd, 1) := by decide +kernel
theorem dX9_term_133 : decode cX9_term 133 = .ok (.iconst 0, 1) := by decide +kernel
theorem dX9_term_134 : decode cX9_term 134 = .ok (.iastore, 1) := by decide +kernel
theorem dX9_term_135 : decode cX9_term 135 = .ok (.iinc 5 1, 3) := by decide +kernel
theorem dX9_term_138 : decode cX9_term 138 = .ok (.goto (-27), 3) := by decide +kernel
theorem dX9_term_141 : decode cX9_term 141 = .ok (.aload_n 0, 1) := by decide +kernel
theorem dX9_term_142 : decode cX9_term 142 = .ok (.getfield 7, 3) := by decide +kernel
theorem dX9_term_145 : decode cX9_term 145 = .ok (.iconst 0, 1) := by decide +kernel
theorem dX9_term_146 : decode cX9_term 146 = .ok (.dup2, 1) := by decide +kernel
theorem dX9_term_147 : decode cX9_term 147 = .ok (.iaload, 1) := by decide +kernel
theorem dX9_term_148 : decode cX9_term 148 = .ok (.iconst 1, 1) := by decide +kernel
theorem dX9_term_149 : decode cX9_term 149 = .ok (.iadd, 1) := by decide +kernel
theorem dX9_term_150 : decode cX9_term 150 = .ok (.iastore, 1) := by decide +kernel
theorem dX9_term_151 : decode cX9_term 151 = .ok (.iload 4, 2) := by decide +kernel
theorem dX9_term_153 : decode cX9_term 153 = .ok (.ireturn, 1) := by decide +kernel
theorem dX9_mayOf_0 : decode cX9_mayOf 0 = .ok (.aload_n 0, 1) := by decide +kernel
theorem dX9_mayOf_1 : decode cX9_mayOf 1 = .ok (.getfield 7, 3) := by decide +kernel
theorem dX9_mayOf_4 : decode cX9_mayOf 4 = .ok (.bipush 8, 2) := by decide +kernel
theorem dX9_mayOf_6 : decode cX9_mayOf 6 = .ok (.iconst 3, 1) := by decide +kernel
theorem dX9_mayOf_7 : decode cX9_mayOf 7 = .ok (.iload_n 1, 1) := by decide +kernel
theorem dX9_mayOf_8 : decode cX9_mayOf 8 = .ok (.imul, 1) := by decide +kernel
theorem dX9_mayOf_9 : decode cX9_mayOf 9 = .ok (.iadd, 1) := by decide +kernel
theorem dX9_mayOf_10 : decode cX9_mayOf 10 = .ok (.iaload, 1) := by decide +kernel
theorem dX9_mayOf_11 : decode cX9_mayOf 11 = .ok (.istore_n 2, 1) := by decide +kernel
theorem dX9_mayOf_12 : decode cX9_mayOf 12 = .ok (.iload_n 2, 1) := by decide +kernel
theorem dX9_mayOf_13 : decode cX9_mayOf 13 = .ok (.iconst 2, 1) := by decide +kernel
theorem dX9_mayOf_14 : decode cX9_mayOf 14 = .ok (.if_icmp .eq 13, 3) := by decide +kernel
theorem dX9_mayOf_17 : decode cX9_mayOf 17 = .ok (.iload_n 2, 1) := by decide +kernel
theorem dX9_mayOf_18 : decode cX9_mayOf 18 = .ok (.iconst 4, 1) := by decide +kernel
theorem dX9_mayOf_19 : decode cX9_mayOf 19 = .ok (.if_icmp .eq 8, 3) := by decide +kernel
theorem dX9_mayOf_22 : decode cX9_mayOf 22 = .ok (.iload_n 2, 1) := by decide +kernel
theorem dX9_mayOf_23 : decode cX9_mayOf 23 = .ok (.iconst 5, 1) := by decide +kernel
theorem dX9_mayOf_24 : decode cX9_mayOf 24 = .ok (.if_icmp .ne 7, 3) := by decide +kernel
theorem dX9_mayOf_27 : decode cX9_mayOf 27 = .ok (.iconst 1, 1) := by decide +kernel
theorem dX9_mayOf_28 : decode cX9_mayOf 28 = .ok (.goto 16, 3) := by decide +kernel
theorem dX9_mayOf_31 : decode cX9_mayOf 31 = .ok (.aload_n 0, 1) := by decide +kernel
theorem dX9_mayOf_32 : decode cX9_mayOf 32 = .ok (.getfield 7, 3) := by decide +kernel
theorem dX9_mayOf_35 : decode cX9_mayOf 35 = .ok (.bipush 8, 2) := by decide +kernel
theorem dX9_mayOf_37 : decode cX9_mayOf 37 = .ok (.iconst 3, 1) := by decide +kernel
theorem dX9_mayOf_38 : decode cX9_mayOf 38 = .ok (.iload_n 1, 1) := by decide +kernel
theorem dX9_mayOf_39 : decode cX9_mayOf 39 = .ok (.imul, 1) := by decide +kernel
theorem dX9_mayOf_40 : decode cX9_mayOf 40 = .ok (.iadd, 1) := by decide +kernel
theorem dX9_mayOf_41 : decode cX9_mayOf 41 = .ok (.iconst 1, 1) := by decide +kernel
theorem dX9_mayOf_42 : decode cX9_mayOf 42 = .ok (.iadd, 1) := by decide +kernel
theorem dX9_mayOf_43 : decode cX9_mayOf 43 = .ok (.iaload, 1) := by decide +kernel
theorem dX9_mayOf_44 : decode cX9_mayOf 44 = .ok (.ireturn, 1) := by decide +kernel
theorem dX9_longOf_0 : decode cX9_longOf 0 = .ok (.aload_n 0, 1) := by decide +kernel
theorem dX9_longOf_1 : decode cX9_longOf 1 = .ok (.getfield 7, 3) := by decide +kernel
theorem dX9_longOf_4 : decode cX9_longOf 4 = .ok (.bipush 8, 2) := by decide +kernel
theorem dX9_longOf_6 : decode cX9_longOf 6 = .ok (.iconst 3, 1) := by decide +kernel
theorem dX9_longOf_7 : decode cX9_longOf 7 = .ok (.iload_n 1, 1) := by decide +kernel
theorem dX9_longOf_8 : decode cX9_longOf 8 = .ok (.imul, 1) := by decide +kernel
theorem dX9_longOf_9 : decode cX9_longOf 9 = .ok (.iadd, 1) := by decide +kernel
theorem dX9_longOf_10 : decode cX9_longOf 10 = .ok (.iaload, 1) := by decide +kernel
theorem dX9_longOf_11 : decode cX9_longOf 11 = .ok (.istore_n 2, 1) := by decide +kernel
theorem dX9_longOf_12 : decode cX9_longOf 12 = .ok (.iload_n 2, 1) := by decide +kernel
theorem dX9_longOf_13 : decode cX9_longOf 13 = .ok (.iconst 1, 1) := by decide +kernel
theorem dX9_longOf_14 : decode cX9_longOf 14 = .ok (.if_icmp .eq 13, 3) := by decide +kernel
theorem dX9_longOf_17 : decode cX9_longOf 17 = .ok (.iload_n 2, 1) := by decide +kernel
theorem dX9_longOf_18 : decode cX9_longOf 18 = .ok (.iconst 3, 1) := by decide +kernel
theorem dX9_longOf_19 : decode cX9_longOf 19 = .ok (.if_icmp .eq 8, 3) := by decide +kernel
theorem dX9_longOf_22 : decode cX9_longOf 22 = .ok (.iload_n 2, 1) := by decide +kernel
theorem dX9_longOf_23 : decode cX9_longOf 23 = .ok (.iconst 5, 1) := by decide +kernel
theorem dX9_longOf_24 : decode cX9_longOf 24 = .ok (.if_icmp .ne 7, 3) := by decide +kernel
theorem dX9_longOf_27 : decode cX9_longOf 27 = .ok (.iconst 2, 1) := by decide +kernel
theorem dX9_longOf_28 : decode cX9_longOf 28 = .ok (.goto 5, 3) := by decide +kernel
theorem dX9_longOf_31 : decode cX9_longOf 31 = .ok (.bipush 24, 2) := by decide +kernel
theorem dX9_longOf_33 : decode cX9_longOf 33 = .ok (.ireturn, 1) := by decide +kernel
theorem dX9_costOf_0 : decode cX9_costOf 0 = .ok (.aload_n 0, 1) := by decide +kernel
theorem dX9_costOf_1 : decode cX9_costOf 1 = .ok (.getfield 7, 3) := by decide +kernel
theorem dX9_costOf_4 : decode cX9_costOf 4 = .ok (.bipush 8, 2) := by decide +kernel
theorem dX9_costOf_6 : decode cX9_costOf 6 = .ok (.iconst 3, 1) := by decide +kernel
theorem dX9_costOf_7 : decode cX9_costOf 7 = .ok (.iload_n 1, 1) := by decide +kernel
theorem dX9_costOf_8 : decode cX9_costOf 8 = .ok (.imul, 1) := by decide +kernel
theorem dX9_costOf_9 : decode cX9_costOf 9 = .ok (.iadd, 1) := by decide +kernel
theorem dX9_costOf_10 : decode cX9_costOf 10 = .ok (.iaload, 1) := by decide +kernel
theorem dX9_costOf_11 : decode cX9_costOf 11 = .ok (.istore_n 3, 1) := by decide +kernel
theorem dX9_costOf_12 : decode cX9_costOf 12 = .ok (.aload_n 0, 1) := by decide +kernel
theorem dX9_costOf_13 : decode cX9_costOf 13 = .ok (.getfield 7, 3) := by decide +kernel
theorem dX9_costOf_16 : decode cX9_costOf 16 = .ok (.bipush 8, 2) := by decide +kernel
theorem dX9_costOf_18 : decode cX9_costOf 18 = .ok (.iconst 3, 1) := by decide +kernel
theorem dX9_costOf_19 : decode cX9_costOf 19 = .ok (.iload_n 1, 1) := by decide +kernel
theorem dX9_costOf_20 : decode cX9_costOf 20 = .ok (.imul, 1) := by decide +kernel
theorem dX9_costOf_21 : decode cX9_costOf 21 = .ok (.iadd, 1) := by decide +kernel
theorem dX9_costOf_22 : decode cX9_costOf 22 = .ok (.iconst 2, 1) := by decide +kernel
theorem dX9_costOf_23 : decode cX9_costOf 23 = .ok (.iadd, 1) := by decide +kernel
theorem dX9_costOf_24 : decode cX9_costOf 24 = .ok (.iaload, 1) := by decide +kernel
theorem dX9_costOf_25 : decode cX9_costOf 25 = .ok (.istore 4, 2) := by decide +kernel
theorem dX9_costOf_27 : decode cX9_costOf 27 = .ok (.iload 4, 2) := by decide +kernel
theorem dX9_costOf_29 : decode cX9_costOf 29 = .ok (.iconst 1, 1) := by decide +kernel
theorem dX9_costOf_30 : decode cX9_costOf 30 = .ok (.iload_n 2, 1) := by decide +kernel
theorem dX9_costOf_31 : decode cX9_costOf 31 = .ok (.ishl, 1) := by decide +kernel
theorem dX9_costOf_32 : decode cX9_costOf 32 = .ok (.iconst 1, 1) := by decide +kernel
theorem dX9_costOf_33 : decode cX9_costOf 33 = .ok (.isub, 1) := by decide +kernel
theorem dX9_costOf_34 : decode cX9_costOf 34 = .ok (.imul, 1) := by decide +kernel
theorem dX9_costOf_35 : decode cX9_costOf 35 = .ok (.istore 5, 2) := by decide +kernel
theorem dX9_costOf_37 : decode cX9_costOf 37 = .ok (.iload_n 3, 1) := by decide +kernel
theorem dX9_costOf_38 : decode cX9_costOf 38 = .ok (.iconst 3, 1) := by decide +kernel
theorem dX9_costOf_39 : decode cX9_costOf 39 = .ok (.if_icmp .ne 8, 3) := by decide +kernel
theorem dX9_costOf_42 : decode cX9_costOf 42 = .ok (.iload 5, 2) := by decide +kernel
theorem dX9_costOf_44 : decode cX9_costOf 44 = .ok (.goto 33, 3) := by decide +kernel
theorem dX9_costOf_47 : decode cX9_costOf 47 = .ok (.iload_n 3, 1) := by decide +kernel
theorem dX9_costOf_48 : decode cX9_costOf 48 = .ok (.iconst 5, 1) := by decide +kernel
theorem dX9_costOf_49 : decode cX9_costOf 49 = .ok (.if_icmp .ne 10, 3) := by decide +kernel
theorem dX9_costOf_52 : decode cX9_costOf 52 = .ok (.iload 5, 2) := by decide +kernel
theorem dX9_costOf_54 : decode cX9_costOf 54 = .ok (.iconst 2, 1) := by decide +kernel
theorem dX9_costOf_55 : decode cX9_costOf 55 = .ok (.idiv, 1) := by decide +kernel
theorem dX9_costOf_56 : decode cX9_costOf 56 = .ok (.goto 21, 3) := by decide +kernel
theorem dX9_costOf_59 : decode cX9_costOf 59 = .ok (.iload_n 3, 1) := by decide +kernel
theorem dX9_costOf_60 : decode cX9_costOf 60 = .ok (.iconst 4, 1) := by decide +kernel
theorem dX9_costOf_61 : decode cX9_costOf 61 = .ok (.if_icmp .ne 12, 3) := by decide +kernel
theorem dX9_costOf_64 : decode cX9_costOf 64 = .ok (.iload_n 2, 1) := by decide +kernel
theorem dX9_costOf_65 : decode cX9_costOf 65 = .ok (.iload 4, 2) := by decide +kernel
theorem dX9_costOf_67 : decode cX9_costOf 67 = .ok (.imul, 1) := by decide +kernel
theorem dX9_costOf_68 : decode cX9_costOf 68 = .ok (.iconst 5, 1) := by decide +kernel
theorem dX9_costOf_69 : decode cX9_costOf 69 = .ok (.iadd, 1) := by decide +kernel
theorem dX9_costOf_70 : decode cX9_costOf 70 = .ok (.goto 7, 3) := by decide +kernel
theorem dX9_costOf_73 : decode cX9_costOf 73 = .ok (.iload_n 2, 1) := by decide +kernel
theorem dX9_costOf_74 : decode cX9_costOf 74 = .ok (.iload 4, 2) := by decide +kernel
theorem dX9_costOf_76 : decode cX9_costOf 76 = .ok (.imul, 1) := by decide +kernel
theorem dX9_costOf_77 : decode cX9_costOf 77 = .ok (.ireturn, 1) := by decide +kernel
set_option maxRecDepth 20000 in
theorem ggX9_may_X9_isTerm : GoodIn wsX9_may wsX9_isTerm := goodIn_r _ [5, 6, 7, 8, 4, 9, 28, 29, 30, 31, 32, 33, 34, 35, 36, 37, 38, 39, 40, 41, 42, 43, 44, 45, 46, 47, 48, 49, 50] (by decide +kernel) (by decide +kernel)
set_option maxRecDepth 20000 in
theorem gX9_may_X9_isTerm : GoodIn wsX9_may (wsV RX9 84 RX9 yX9_isTerm wsX9_isTerm) := goodIn_app (goodIn_of _ (by decide +kernel)) ggX9_may_X9_isTerm
set_option maxRecDepth 20000 in
theorem ggX9_may_X9_is : GoodIn wsX9_may wsX9_is := goodIn_r _ [9] (by decide +kernel) (by decide +kernel)
set_option maxRecDepth 20000 in
theorem gX9_may_X9_is : GoodIn wsX9_may (va_wsS RX9 65 yX9_is wsX9_is) := goodIn_app (goodIn_of _ (by decide +kernel)) ggX9_may_X9_is
set_option maxRecDepth 20000 in
theorem ggX9_may_X9_bad : GoodIn wsX9_may wsX9_bad := goodIn_r _ [13, 14, 15, 16, 4, 17, 18, 19, 28, 29, 30, 31, 32, 33, 34, 35, 36, 37, 38, 39, 40, 41, 42, 43, 44, 45, 46, 47, 48, 49, 50] (by decide +kernel) (by decide +kernel)
set_option maxRecDepth 20000 in
theorem gX9_may_X9_bad : GoodIn wsX9_may (wsV RX9 77 RX9 yX9_bad wsX9_bad) := goodIn_app (goodIn_of _ (by decide +kernel)) ggX9_may_X9_bad
set_option maxRecDepth 20000 in
theorem ggX9_may_X9_mayOf : GoodIn wsX9_may wsX9_mayOf := goodIn_r _ [23, 6, 28, 29, 30, 31, 32, 33, 34, 35, 36, 37, 38, 39, 40, 41, 42, 43, 44, 45, 46, 47, 48, 49, 50] (by decide +kernel) (by decide +kernel)
set_option maxRecDepth 20000 in
theorem gX9_may_X9_mayOf : GoodIn wsX9_may (wsV RX9 88 RX9 yX9_mayOf wsX9_mayOf) := goodIn_app (goodIn_of _ (by decide +kernel)) ggX9_may_X9_mayOf
set_option maxRecDepth 20000 in
theorem ggX9_may_X9_longOf : GoodIn wsX9_may wsX9_longOf := goodIn_r _ [27, 6, 28, 29, 30, 31, 32, 33, 34, 35, 36, 37, 38, 39, 40, 41, 42, 43, 44, 45, 46, 47, 48, 49, 50] (by decide +kernel) (by decide +kernel)
set_option maxRecDepth 20000 in
theorem gX9_may_X9_longOf : GoodIn wsX9_may (wsV RX9 92 RX9 yX9_longOf wsX9_longOf) := goodIn_app (goodIn_of _ (by decide +kernel)) ggX9_may_X9_longOf
theorem dX9_may_0 : decode cX9_may 0 = .ok (.aload_n 0, 1) := by decide +kernel
theorem dX9_may_1 : decode cX9_may 1 = .ok (.iload_n 1, 1) := by decide +kernel
theorem dX9_may_2 : decode cX9_may 2 = .ok (.invokevirtual 84, 3) := by decide +kernel
theorem dX9_may_5 : decode cX9_may 5 = .ok (.ifCond .eq 13, 3) := by decide +kernel
theorem dX9_may_8 : decode cX9_may 8 = .ok (.iload_n 2, 1) := by decide +kernel
theorem dX9_may_9 : decode cX9_may 9 = .ok (.i2l, 1) := by decide +kernel
theorem dX9_may_10 : decode cX9_may 10 = .ok (.lconst 0, 1) := by decide +kernel
theorem dX9_may_11 : decode cX9_may 11 = .ok (.lconst 1, 1) := by decide +kernel
theorem dX9_may_12 : decode cX9_may 12 = .ok (.invokestatic 65, 3) := by decide +kernel
theorem dX9_may_15 : decode cX9_may 15 = .ok (.ifCond .ne 8, 3) := by decide +kernel
theorem dX9_may_18 : decode cX9_may 18 = .ok (.aload_n 0, 1) := by decide +kernel
theorem dX9_may_19 : decode cX9_may 19 = .ok (.invokevirtual 77, 3) := by decide +kernel
theorem dX9_may_22 : decode cX9_may 22 = .ok (.ireturn, 1) := by decide +kernel
theorem dX9_may_23 : decode cX9_may 23 = .ok (.iload_n 2, 1) := by decide +kernel
theorem dX9_may_24 : decode cX9_may 24 = .ok (.ifCond .ne 11, 3) := by decide +kernel
