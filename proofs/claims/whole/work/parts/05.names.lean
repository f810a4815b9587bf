theorem dX9_may_27 : decode cX9_may 27 = .ok (.aload_n 0, 1) := by decide +kernel
theorem dX9_may_28 : decode cX9_may 28 = .ok (.iload_n 1, 1) := by decide +kernel
theorem dX9_may_29 : decode cX9_may 29 = .ok (.invokevirtual 88, 3) := by decide +kernel
theorem dX9_may_32 : decode cX9_may 32 = .ok (.goto 8, 3) := by decide +kernel
theorem dX9_may_35 : decode cX9_may 35 = .ok (.aload_n 0, 1) := by decide +kernel
theorem dX9_may_36 : decode cX9_may 36 = .ok (.iload_n 1, 1) := by decide +kernel
theorem dX9_may_37 : decode cX9_may 37 = .ok (.invokevirtual 92, 3) := by decide +kernel
theorem dX9_may_40 : decode cX9_may 40 = .ok (.ireturn, 1) := by decide +kernel
set_option maxRecDepth 20000 in
theorem ggX9_cost_X9_isTerm : GoodIn wsX9_cost wsX9_isTerm := goodIn_r _ [6, 7, 8, 9, 5, 10, 25, 26, 27, 28, 29, 30, 31, 32, 33, 34, 35, 36, 37, 38, 39, 40, 41, 42, 43, 44, 45, 46, 47] (by decide +kernel) (by decide +kernel)
set_option maxRecDepth 20000 in
theorem gX9_cost_X9_isTerm : GoodIn wsX9_cost (wsV RX9 84 RX9 yX9_isTerm wsX9_isTerm) := goodIn_app (goodIn_of _ (by decide +kernel)) ggX9_cost_X9_isTerm
set_option maxRecDepth 20000 in
theorem ggX9_cost_X9_is : GoodIn wsX9_cost wsX9_is := goodIn_r _ [10] (by decide +kernel) (by decide +kernel)
set_option maxRecDepth 20000 in
theorem gX9_cost_X9_is : GoodIn wsX9_cost (va_wsS RX9 65 yX9_is wsX9_is) := goodIn_app (goodIn_of _ (by decide +kernel)) ggX9_cost_X9_is
set_option maxRecDepth 20000 in
theorem ggX9_cost_X9_costOf : GoodIn wsX9_cost wsX9_costOf := goodIn_r _ [14, 7, 25, 26, 27, 28, 29, 30, 31, 32, 33, 34, 35, 36, 37, 38, 39, 40, 41, 42, 43, 44, 45, 46, 47] (by decide +kernel) (by decide +kernel)
set_option maxRecDepth 20000 in
theorem gX9_cost_X9_costOf : GoodIn wsX9_cost (wsV RX9 97 RX9 yX9_costOf wsX9_costOf) := goodIn_app (goodIn_of _ (by decide +kernel)) ggX9_cost_X9_costOf
set_option maxRecDepth 20000 in
theorem ggX9_cost_X9_bad : GoodIn wsX9_cost wsX9_bad := goodIn_r _ [18, 19, 20, 21, 5, 22, 23, 24, 25, 26, 27, 28, 29, 30, 31, 32, 33, 34, 35, 36, 37, 38, 39, 40, 41, 42, 43, 44, 45, 46, 47] (by decide +kernel) (by decide +kernel)
set_option maxRecDepth 20000 in
theorem gX9_cost_X9_bad : GoodIn wsX9_cost (wsV RX9 77 RX9 yX9_bad wsX9_bad) := goodIn_app (goodIn_of _ (by decide +kernel)) ggX9_cost_X9_bad
theorem dX9_cost_0 : decode cX9_cost 0 = .ok (.aload_n 0, 1) := by decide +kernel
theorem dX9_cost_1 : decode cX9_cost 1 = .ok (.iload_n 1, 1) := by decide +kernel
theorem dX9_cost_2 : decode cX9_cost 2 = .ok (.invokevirtual 84, 3) := by decide +kernel
theorem dX9_cost_5 : decode cX9_cost 5 = .ok (.ifCond .eq 24, 3) := by decide +kernel
theorem dX9_cost_8 : decode cX9_cost 8 = .ok (.iload_n 2, 1) := by decide +kernel
theorem dX9_cost_9 : decode cX9_cost 9 = .ok (.i2l, 1) := by decide +kernel
theorem dX9_cost_10 : decode cX9_cost 10 = .ok (.lconst 1, 1) := by decide +kernel
theorem dX9_cost_11 : decode cX9_cost 11 = .ok (.ldc2_w 95, 3) := by decide +kernel
theorem dX9_cost_14 : decode cX9_cost 14 = .ok (.invokestatic 65, 3) := by decide +kernel
theorem dX9_cost_17 : decode cX9_cost 17 = .ok (.ifCond .eq 12, 3) := by decide +kernel
theorem dX9_cost_20 : decode cX9_cost 20 = .ok (.aload_n 0, 1) := by decide +kernel
theorem dX9_cost_21 : decode cX9_cost 21 = .ok (.iload_n 1, 1) := by decide +kernel
theorem dX9_cost_22 : decode cX9_cost 22 = .ok (.iload_n 2, 1) := by decide +kernel
theorem dX9_cost_23 : decode cX9_cost 23 = .ok (.invokevirtual 97, 3) := by decide +kernel
theorem dX9_cost_26 : decode cX9_cost 26 = .ok (.goto 7, 3) := by decide +kernel
theorem dX9_cost_29 : decode cX9_cost 29 = .ok (.aload_n 0, 1) := by decide +kernel
theorem dX9_cost_30 : decode cX9_cost 30 = .ok (.invokevirtual 77, 3) := by decide +kernel
theorem dX9_cost_33 : decode cX9_cost 33 = .ok (.ireturn, 1) := by decide +kernel
set_option maxRecDepth 20000 in
theorem ggX9_loan_X9_isOne : GoodIn wsX9_loan wsX9_isOne := goodIn_r _ [6, 7, 8, 9, 5, 10] (by decide +kernel) (by decide +kernel)
set_option maxRecDepth 20000 in
theorem gX9_loan_X9_isOne : GoodIn wsX9_loan (va_wsS RX9 100 yX9_isOne wsX9_isOne) := goodIn_app (goodIn_of _ (by decide +kernel)) ggX9_loan_X9_isOne
set_option maxRecDepth 20000 in
theorem ggX9_loan_X9_isTerm : GoodIn wsX9_loan wsX9_isTerm := goodIn_r _ [14, 2, 8, 9, 5, 10, 29, 30, 31, 32, 33, 34, 35, 36, 37, 38, 39, 40, 41, 42, 43, 44, 45, 46, 47, 48, 49, 50, 51] (by decide +kernel) (by decide +kernel)
set_option maxRecDepth 20000 in
theorem gX9_loan_X9_isTerm : GoodIn wsX9_loan (wsV RX9 84 RX9 yX9_isTerm wsX9_isTerm) := goodIn_app (goodIn_of _ (by decide +kernel)) ggX9_loan_X9_isTerm
set_option maxRecDepth 20000 in
theorem ggX9_loan_X9_is : GoodIn wsX9_loan wsX9_is := goodIn_r _ [10] (by decide +kernel) (by decide +kernel)
set_option maxRecDepth 20000 in
theorem gX9_loan_X9_is : GoodIn wsX9_loan (va_wsS RX9 65 yX9_is wsX9_is) := goodIn_app (goodIn_of _ (by decide +kernel)) ggX9_loan_X9_is
set_option maxRecDepth 20000 in
theorem ggX9_loan_X9_bad : GoodIn wsX9_loan wsX9_bad := goodIn_r _ [18, 19, 20, 21, 5, 22, 23, 24, 29, 30, 31, 32, 33, 34, 35, 36, 37, 38, 39, 40, 41, 42, 43, 44, 45, 46, 47, 48, 49, 50, 51] (by decide +kernel) (by decide +kernel)
set_option maxRecDepth 20000 in
theorem gX9_loan_X9_bad : GoodIn wsX9_loan (wsV RX9 77 RX9 yX9_bad wsX9_bad) := goodIn_app (goodIn_of _ (by decide +kernel)) ggX9_loan_X9_bad
set_option maxRecDepth 20000 in
theorem ggX9_loan_X9_full : GoodIn wsX9_loan wsX9_full := goodIn_r _ [28, 19, 20, 21, 5, 22, 23, 24, 29, 30, 31, 32, 33, 34, 35, 36, 37, 38, 39, 40, 41, 42, 43, 44, 45, 46, 47, 48, 49, 50, 51] (by decide +kernel) (by decide +kernel)
set_option maxRecDepth 20000 in
theorem gX9_loan_X9_full : GoodIn wsX9_loan (wsV RX9 81 RX9 yX9_full wsX9_full) := goodIn_app (goodIn_of _ (by decide +kernel)) ggX9_loan_X9_full
theorem dX9_loan_0 : decode cX9_loan 0 = .ok (.iload_n 1, 1) := by decide +kernel
theorem dX9_loan_1 : decode cX9_loan 1 = .ok (.invokestatic 100, 3) := by decide +kernel
theorem dX9_loan_4 : decode cX9_loan 4 = .ok (.ifCond .eq 36, 3) := by decide +kernel
theorem dX9_loan_7 : decode cX9_loan 7 = .ok (.aload_n 0, 1) := by decide +kernel
theorem dX9_loan_8 : decode cX9_loan 8 = .ok (.iload_n 2, 1) := by decide +kernel
theorem dX9_loan_9 : decode cX9_loan 9 = .ok (.invokevirtual 84, 3) := by decide +kernel
theorem dX9_loan_12 : decode cX9_loan 12 = .ok (.ifCond .eq 28, 3) := by decide +kernel
theorem dX9_loan_15 : decode cX9_loan 15 = .ok (.iload 4, 2) := by decide +kernel
theorem dX9_loan_17 : decode cX9_loan 17 = .ok (.i2l, 1) := by decide +kernel
theorem dX9_loan_18 : decode cX9_loan 18 = .ok (.lconst 0, 1) := by decide +kernel
theorem dX9_loan_19 : decode cX9_loan 19 = .ok (.ldc2_w 103, 3) := by decide +kernel
theorem dX9_loan_22 : decode cX9_loan 22 = .ok (.invokestatic 65, 3) := by decide +kernel
theorem dX9_loan_25 : decode cX9_loan 25 = .ok (.ifCond .eq 15, 3) := by decide +kernel
theorem dX9_loan_28 : decode cX9_loan 28 = .ok (.iload_n 3, 1) := by decide +kernel
theorem dX9_loan_29 : decode cX9_loan 29 = .ok (.i2l, 1) := by decide +kernel
theorem dX9_loan_30 : decode cX9_loan 30 = .ok (.lconst 0, 1) := by decide +kernel
theorem dX9_loan_31 : decode cX9_loan 31 = .ok (.iload 4, 2) := by decide +kernel
theorem dX9_loan_33 : decode cX9_loan 33 = .ok (.i2l, 1) := by decide +kernel
theorem dX9_loan_34 : decode cX9_loan 34 = .ok (.invokestatic 65, 3) := by decide +kernel
theorem dX9_loan_37 : decode cX9_loan 37 = .ok (.ifCond .ne 8, 3) := by decide +kernel
theorem dX9_loan_40 : decode cX9_loan 40 = .ok (.aload_n 0, 1) := by decide +kernel
theorem dX9_loan_41 : decode cX9_loan 41 = .ok (.invokevirtual 77, 3) := by decide +kernel
theorem dX9_loan_44 : decode cX9_loan 44 = .ok (.ireturn, 1) := by decide +kernel
theorem dX9_loan_45 : decode cX9_loan 45 = .ok (.aload_n 0, 1) := by decide +kernel
theorem dX9_loan_46 : decode cX9_loan 46 = .ok (.getfield 7, 3) := by decide +kernel
theorem dX9_loan_49 : decode cX9_loan 49 = .ok (.iconst 1, 1) := by decide +kernel
theorem dX9_loan_50 : decode cX9_loan 50 = .ok (.iaload, 1) := by decide +kernel
theorem dX9_loan_51 : decode cX9_loan 51 = .ok (.bipush 10, 2) := by decide +kernel
theorem dX9_loan_53 : decode cX9_loan 53 = .ok (.if_icmp .ne 8, 3) := by decide +kernel
theorem dX9_loan_56 : decode cX9_loan 56 = .ok (.aload_n 0, 1) := by decide +kernel
theorem dX9_loan_57 : decode cX9_loan 57 = .ok (.invokevirtual 81, 3) := by decide +kernel
theorem dX9_loan_60 : decode cX9_loan 60 = .ok (.ireturn, 1) := by decide +kernel
theorem dX9_loan_61 : decode cX9_loan 61 = .ok (.bipush 32, 2) := by decide +kernel
theorem dX9_loan_63 : decode cX9_loan 63 = .ok (.iconst 4, 1) := by decide +kernel
theorem dX9_loan_64 : decode cX9_loan 64 = .ok (.aload_n 0, 1) := by decide +kernel
theorem dX9_loan_65 : decode cX9_loan 65 = .ok (.getfield 7, 3) := by decide +kernel
theorem dX9_loan_68 : decode cX9_loan 68 = .ok (.iconst 1, 1) := by decide +kernel
theorem dX9_loan_69 : decode cX9_loan 69 = .ok (.iaload, 1) := by decide +kernel
theorem dX9_loan_70 : decode cX9_loan 70 = .ok (.imul, 1) := by decide +kernel
theorem dX9_loan_71 : decode cX9_loan 71 = .ok (.iadd, 1) := by decide +kernel
theorem dX9_loan_72 : decode cX9_loan 72 = .ok (.istore 5, 2) := by decide +kernel
theorem dX9_loan_74 : decode cX9_loan 74 = .ok (.aload_n 0, 1) := by decide +kernel
theorem dX9_loan_75 : decode cX9_loan 75 = .ok (.getfield 7, 3) := by decide +kernel
theorem dX9_loan_78 : decode cX9_loan 78 = .ok (.iload 5, 2) := by decide +kernel
theorem dX9_loan_80 : decode cX9_loan 80 = .ok (.iload_n 1, 1) := by decide +kernel
theorem dX9_loan_81 : decode cX9_loan 81 = .ok (.iastore, 1) := by decide +kernel
theorem dX9_loan_82 : decode cX9_loan 82 = .ok (.aload_n 0, 1) := by decide +kernel
theorem dX9_loan_83 : decode cX9_loan 83 = .ok (.getfield 7, 3) := by decide +kernel
theorem dX9_loan_86 : decode cX9_loan 86 = .ok (.iload 5, 2) := by decide +kernel
theorem dX9_loan_88 : decode cX9_loan 88 = .ok (.iconst 1, 1) := by decide +kernel
theorem dX9_loan_89 : decode cX9_loan 89 = .ok (.iadd, 1) := by decide +kernel
theorem dX9_loan_90 : decode cX9_loan 90 = .ok (.iload_n 2, 1) := by decide +kernel
theorem dX9_loan_91 : decode cX9_loan 91 = .ok (.iastore, 1) := by decide +kernel
theorem dX9_loan_92 : decode cX9_loan 92 = .ok (.aload_n 0, 1) := by decide +kernel
theorem dX9_loan_93 : decode cX9_loan 93 = .ok (.getfield 7, 3) := by decide +kernel
theorem dX9_loan_96 : decode cX9_loan 96 = .ok (.iload 5, 2) := by decide +kernel
theorem dX9_loan_98 : decode cX9_loan 98 = .ok (.iconst 2, 1) := by decide +kernel
theorem dX9_loan_99 : decode cX9_loan 99 = .ok (.iadd, 1) := by decide +kernel
theorem dX9_loan_100 : decode cX9_loan 100 = .ok (.iload_n 3, 1) := by decide +kernel
theorem dX9_loan_101 : decode cX9_loan 101 = .ok (.iastore, 1) := by decide +kernel
theorem dX9_loan_102 : decode cX9_loan 102 = .ok (.aload_n 0, 1) := by decide +kernel
theorem dX9_loan_103 : decode cX9_loan 103 = .ok (.getfield 7, 3) := by decide +kernel
theorem dX9_loan_106 : decode cX9_loan 106 = .ok (.iload 5, 2) := by decide +kernel
theorem dX9_loan_108 : decode cX9_loan 108 = .ok (.iconst 3, 1) := by decide +kernel
theorem dX9_loan_109 : decode cX9_loan 109 = .ok (.iadd, 1) := by decide +kernel
theorem dX9_loan_110 : decode cX9_loan 110 = .ok (.iload 4, 2) := by decide +kernel
theorem dX9_loan_112 : decode cX9_loan 112 = .ok (.iastore, 1) := by decide +kernel
theorem dX9_loan_113 : decode cX9_loan 113 = .ok (.aload_n 0, 1) := by decide +kernel
theorem dX9_loan_114 : decode cX9_loan 114 = .ok (.getfield 7, 3) := by decide +kernel
theorem dX9_loan_117 : decode cX9_loan 117 = .ok (.iconst 1, 1) := by decide +kernel
theorem dX9_loan_118 : decode cX9_loan 118 = .ok (.dup2, 1) := by decide +kernel
theorem dX9_loan_119 : decode cX9_loan 119 = .ok (.iaload, 1) := by decide +kernel
theorem dX9_loan_120 : decode cX9_loan 120 = .ok (.iconst 1, 1) := by decide +kernel
theorem dX9_loan_121 : decode cX9_loan 121 = .ok (.iadd, 1) := by decide +kernel
theorem dX9_loan_122 : decode cX9_loan 122 = .ok (.iastore, 1) := by decide +kernel
theorem dX9_loan_123 : decode cX9_loan 123 = .ok (.aload_n 0, 1) := by decide +kernel
theorem dX9_loan_124 : decode cX9_loan 124 = .ok (.getfield 7, 3) := by decide +kernel
theorem dX9_loan_127 : decode cX9_loan 127 = .ok (.iconst 1, 1) := by decide +kernel
theorem dX9_loan_128 : decode cX9_loan 128 = .ok (.iaload, 1) := by decide +kernel
theorem dX9_loan_129 : decode cX9_loan 129 = .ok (.iconst 1, 1) := by decide +kernel
theorem dX9_loan_130 : decode cX9_loan 130 = .ok (.isub, 1) := by decide +kernel
theorem dX9_loan_131 : decode cX9_loan 131 = .ok (.ireturn, 1) := by decide +kernel
theorem dX9_close_0 : decode cX9_close 0 = .ok (.aload_n 0, 1) := by decide +kernel
theorem dX9_close_1 : decode cX9_close 1 = .ok (.getfield 7, 3) := by decide +kernel
theorem dX9_close_4 : decode cX9_close 4 = .ok (.iconst 1, 1) := by decide +kernel
theorem dX9_close_5 : decode cX9_close 5 = .ok (.iaload, 1) := by decide +kernel
theorem dX9_close_6 : decode cX9_close 6 = .ok (.istore_n 1, 1) := by decide +kernel
theorem dX9_close_7 : decode cX9_close 7 = .ok (.aload_n 0, 1) := by decide +kernel
theorem dX9_close_8 : decode cX9_close 8 = .ok (.getfield 7, 3) := by decide +kernel
theorem dX9_close_11 : decode cX9_close 11 = .ok (.iconst 1, 1) := by decide +kernel
theorem dX9_close_12 : decode cX9_close 12 = .ok (.iconst 0, 1) := by decide +kernel
theorem dX9_close_13 : decode cX9_close 13 = .ok (.iastore, 1) := by decide +kernel
theorem dX9_close_14 : decode cX9_close 14 = .ok (.aload_n 0, 1) := by decide +kernel
theorem dX9_close_15 : decode cX9_close 15 = .ok (.getfield 7, 3) := by decide +kernel
theorem dX9_close_18 : decode cX9_close 18 = .ok (.iconst 2, 1) := by decide +kernel
theorem dX9_close_19 : decode cX9_close 19 = .ok (.iconst 0, 1) := by decide +kernel
theorem dX9_close_20 : decode cX9_close 20 = .ok (.iastore, 1) := by decide +kernel
theorem dX9_close_21 : decode cX9_close 21 = .ok (.iload_n 1, 1) := by decide +kernel
theorem dX9_close_22 : decode cX9_close 22 = .ok (.ireturn, 1) := by decide +kernel
set_option maxRecDepth 20000 in
theorem ggX9_having_X9_is : GoodIn wsX9_having wsX9_is := goodIn_r _ [5] (by decide +kernel) (by decide +kernel)
set_option maxRecDepth 20000 in
theorem gX9_having_X9_is : GoodIn wsX9_having (va_wsS RX9 65 yX9_is wsX9_is) := goodIn_app (goodIn_of _ (by decide +kernel)) ggX9_having_X9_is
theorem dX9_having_0 : decode cX9_having 0 = .ok (.iconst 0, 1) := by decide +kernel
theorem dX9_having_1 : decode cX9_having 1 = .ok (.istore 5, 2) := by decide +kernel
theorem dX9_having_3 : decode cX9_having 3 = .ok (.iconst 0, 1) := by decide +kernel
theorem dX9_having_4 : decode cX9_having 4 = .ok (.istore 6, 2) := by decide +kernel
theorem dX9_having_6 : decode cX9_having 6 = .ok (.iload 6, 2) := by decide +kernel
theorem dX9_having_8 : decode cX9_having 8 = .ok (.iload_n 1, 1) := by decide +kernel
theorem dX9_having_9 : decode cX9_having 9 = .ok (.if_icmp .ge 99, 3) := by decide +kernel
theorem dX9_having_12 : decode cX9_having 12 = .ok (.bipush 32, 2) := by decide +kernel
theorem dX9_having_14 : decode cX9_having 14 = .ok (.iconst 4, 1) := by decide +kernel
theorem dX9_having_15 : decode cX9_having 15 = .ok (.iload 6, 2) := by decide +kernel
theorem dX9_having_17 : decode cX9_having 17 = .ok (.imul, 1) := by decide +kernel
theorem dX9_having_18 : decode cX9_having 18 = .ok (.iadd, 1) := by decide +kernel
theorem dX9_having_19 : decode cX9_having 19 = .ok (.istore 7, 2) := by decide +kernel
theorem dX9_having_21 : decode cX9_having 21 = .ok (.iload 4, 2) := by decide +kernel
theorem dX9_having_23 : decode cX9_having 23 = .ok (.iconst (-1), 1) := by decide +kernel
theorem dX9_having_24 : decode cX9_having 24 = .ok (.if_icmp .eq 15, 3) := by decide +kernel
theorem dX9_having_27 : decode cX9_having 27 = .ok (.aload_n 0, 1) := by decide +kernel
theorem dX9_having_28 : decode cX9_having 28 = .ok (.getfield 7, 3) := by decide +kernel
theorem dX9_having_31 : decode cX9_having 31 = .ok (.iload 7, 2) := by decide +kernel
theorem dX9_having_33 : decode cX9_having 33 = .ok (.iaload, 1) := by decide +kernel
theorem dX9_having_34 : decode cX9_having 34 = .ok (.iload 4, 2) := by decide +kernel
theorem dX9_having_36 : decode cX9_having 36 = .ok (.if_icmp .ne 7, 3) := by decide +kernel
theorem dX9_having_39 : decode cX9_having 39 = .ok (.iconst 1, 1) := by decide +kernel
theorem dX9_having_40 : decode cX9_having 40 = .ok (.goto 4, 3) := by decide +kernel
theorem dX9_having_43 : decode cX9_having 43 = .ok (.iconst 0, 1) := by decide +kernel
theorem dX9_having_44 : decode cX9_having 44 = .ok (.istore 8, 2) := by decide +kernel
theorem dX9_having_46 : decode cX9_having 46 = .ok (.iload 5, 2) := by decide +kernel
theorem dX9_having_48 : decode cX9_having 48 = .ok (.iload 8, 2) := by decide +kernel
theorem dX9_having_50 : decode cX9_having 50 = .ok (.ifCond .eq 48, 3) := by decide +kernel
theorem dX9_having_53 : decode cX9_having 53 = .ok (.aload_n 0, 1) := by decide +kernel
theorem dX9_having_54 : decode cX9_having 54 = .ok (.getfield 7, 3) := by decide +kernel
theorem dX9_having_57 : decode cX9_having 57 = .ok (.iload 7, 2) := by decide +kernel
theorem dX9_having_59 : decode cX9_having 59 = .ok (.iconst 1, 1) := by decide +kernel
theorem dX9_having_60 : decode cX9_having 60 = .ok (.iadd, 1) := by decide +kernel
theorem dX9_having_61 : decode cX9_having 61 = .ok (.iaload, 1) := by decide +kernel
theorem dX9_having_62 : decode cX9_having 62 = .ok (.iload_n 2, 1) := by decide +kernel
theorem dX9_having_63 : decode cX9_having 63 = .ok (.if_icmp .ne 35, 3) := by decide +kernel
theorem dX9_having_66 : decode cX9_having 66 = .ok (.iload_n 3, 1) := by decide +kernel
theorem dX9_having_67 : decode cX9_having 67 = .ok (.i2l, 1) := by decide +kernel
theorem dX9_having_68 : decode cX9_having 68 = .ok (.aload_n 0, 1) := by decide +kernel
theorem dX9_having_69 : decode cX9_having 69 = .ok (.getfield 7, 3) := by decide +kernel
theorem dX9_having_72 : decode cX9_having 72 = .ok (.iload 7, 2) := by decide +kernel
theorem dX9_having_74 : decode cX9_having 74 = .ok (.iconst 2, 1) := by decide +kernel
theorem dX9_having_75 : decode cX9_having 75 = .ok (.iadd, 1) := by decide +kernel
theorem dX9_having_76 : decode cX9_having 76 = .ok (.iaload, 1) := by decide +kernel
theorem dX9_having_77 : decode cX9_having 77 = .ok (.i2l, 1) := by decide +kernel
theorem dX9_having_78 : decode cX9_having 78 = .ok (.aload_n 0, 1) := by decide +kernel
theorem dX9_having_79 : decode cX9_having 79 = .ok (.getfield 7, 3) := by decide +kernel
theorem dX9_having_82 : decode cX9_having 82 = .ok (.iload 7, 2) := by decide +kernel
theorem dX9_having_84 : decode cX9_having 84 = .ok (.iconst 3, 1) := by decide +kernel
theorem dX9_having_85 : decode cX9_having 85 = .ok (.iadd, 1) := by decide +kernel
theorem dX9_having_86 : decode cX9_having 86 = .ok (.iaload, 1) := by decide +kernel
theorem dX9_having_87 : decode cX9_having 87 = .ok (.i2l, 1) := by decide +kernel
theorem dX9_having_88 : decode cX9_having 88 = .ok (.invokestatic 65, 3) := by decide +kernel
theorem dX9_having_91 : decode cX9_having 91 = .ok (.ifCond .eq 7, 3) := by decide +kernel
theorem dX9_having_94 : decode cX9_having 94 = .ok (.iconst 1, 1) := by decide +kernel
theorem dX9_having_95 : decode cX9_having 95 = .ok (.goto 4, 3) := by decide +kernel
theorem dX9_having_98 : decode cX9_having 98 = .ok (.iconst 0, 1) := by decide +kernel
theorem dX9_having_99 : decode cX9_having 99 = .ok (.iadd, 1) := by decide +kernel
theorem dX9_having_100 : decode cX9_having 100 = .ok (.istore 5, 2) := by decide +kernel
theorem dX9_having_102 : decode cX9_having 102 = .ok (.iinc 6 1, 3) := by decide +kernel
theorem dX9_having_105 : decode cX9_having 105 = .ok (.goto (-99), 3) := by decide +kernel
theorem dX9_having_108 : decode cX9_having 108 = .ok (.iload 5, 2) := by decide +kernel
theorem dX9_having_110 : decode cX9_having 110 = .ok (.ireturn, 1) := by decide +kernel
set_option maxRecDepth 20000 in
theorem ggX9_wrong_X9_longOf : GoodIn wsX9_wrong wsX9_longOf := goodIn_r _ [6, 1, 18, 19, 20, 21, 22, 23, 24, 25, 26, 27, 28, 29, 30, 31, 32, 33, 34, 35, 36, 37, 38, 39, 40] (by decide +kernel) (by decide +kernel)
set_option maxRecDepth 20000 in
theorem gX9_wrong_X9_longOf : GoodIn wsX9_wrong (wsV RX9 92 RX9 yX9_longOf wsX9_longOf) := goodIn_app (goodIn_of _ (by decide +kernel)) ggX9_wrong_X9_longOf
set_option maxRecDepth 20000 in
theorem ggX9_wrong_X9_having : GoodIn wsX9_wrong wsX9_having := goodIn_r _ [10, 1, 11, 12, 5, 13, 18, 19, 20, 21, 22, 23, 24, 25, 26, 27, 28, 29, 30, 31, 32, 33, 34, 35, 36, 37, 38, 39, 40] (by decide +kernel) (by decide +kernel)
set_option maxRecDepth 20000 in
theorem gX9_wrong_X9_having : GoodIn wsX9_wrong (wsV RX9 105 RX9 yX9_having wsX9_having) := goodIn_app (goodIn_of _ (by decide +kernel)) ggX9_wrong_X9_having
set_option maxRecDepth 20000 in
theorem ggX9_wrong_X9_mayOf : GoodIn wsX9_wrong wsX9_mayOf := goodIn_r _ [17, 1, 18, 19, 20, 21, 22, 23, 24, 25, 26, 27, 28, 29, 30, 31, 32, 33, 34, 35, 36, 37, 38, 39, 40] (by decide +kernel) (by decide +kernel)
set_option maxRecDepth 20000 in
theorem gX9_wrong_X9_mayOf : GoodIn wsX9_wrong (wsV RX9 88 RX9 yX9_mayOf wsX9_mayOf) := goodIn_app (goodIn_of _ (by decide +kernel)) ggX9_wrong_X9_mayOf
theorem dX9_wrong_0 : decode cX9_wrong 0 = .ok (.iconst 0, 1) := by decide +kernel
theorem dX9_wrong_1 : decode cX9_wrong 1 = .ok (.istore_n 1, 1) := by decide +kernel
theorem dX9_wrong_2 : decode cX9_wrong 2 = .ok (.iload_n 1, 1) := by decide +kernel
theorem dX9_wrong_3 : decode cX9_wrong 3 = .ok (.aload_n 0, 1) := by decide +kernel
theorem dX9_wrong_4 : decode cX9_wrong 4 = .ok (.getfield 7, 3) := by decide +kernel
theorem dX9_wrong_7 : decode cX9_wrong 7 = .ok (.iconst 1, 1) := by decide +kernel
theorem dX9_wrong_8 : decode cX9_wrong 8 = .ok (.iaload, 1) := by decide +kernel
theorem dX9_wrong_9 : decode cX9_wrong 9 = .ok (.if_icmp .ge 127, 3) := by decide +kernel
theorem dX9_wrong_12 : decode cX9_wrong 12 = .ok (.aload_n 0, 1) := by decide +kernel
theorem dX9_wrong_13 : decode cX9_wrong 13 = .ok (.getfield 7, 3) := by decide +kernel
theorem dX9_wrong_16 : decode cX9_wrong 16 = .ok (.bipush 32, 2) := by decide +kernel
theorem dX9_wrong_18 : decode cX9_wrong 18 = .ok (.iconst 4, 1) := by decide +kernel
theorem dX9_wrong_19 : decode cX9_wrong 19 = .ok (.iload_n 1, 1) := by decide +kernel
theorem dX9_wrong_20 : decode cX9_wrong 20 = .ok (.imul, 1) := by decide +kernel
theorem dX9_wrong_21 : decode cX9_wrong 21 = .ok (.iadd, 1) := by decide +kernel
theorem dX9_wrong_22 : decode cX9_wrong 22 = .ok (.iconst 1, 1) := by decide +kernel
theorem dX9_wrong_23 : decode cX9_wrong 23 = .ok (.iadd, 1) := by decide +kernel
theorem dX9_wrong_24 : decode cX9_wrong 24 = .ok (.iaload, 1) := by decide +kernel
theorem dX9_wrong_25 : decode cX9_wrong 25 = .ok (.istore_n 2, 1) := by decide +kernel
theorem dX9_wrong_26 : decode cX9_wrong 26 = .ok (.aload_n 0, 1) := by decide +kernel
theorem dX9_wrong_27 : decode cX9_wrong 27 = .ok (.getfield 7, 3) := by decide +kernel
theorem dX9_wrong_30 : decode cX9_wrong 30 = .ok (.bipush 32, 2) := by decide +kernel
theorem dX9_wrong_32 : decode cX9_wrong 32 = .ok (.iconst 4, 1) := by decide +kernel
theorem dX9_wrong_33 : decode cX9_wrong 33 = .ok (.iload_n 1, 1) := by decide +kernel
theorem dX9_wrong_34 : decode cX9_wrong 34 = .ok (.imul, 1) := by decide +kernel
theorem dX9_wrong_35 : decode cX9_wrong 35 = .ok (.iadd, 1) := by decide +kernel
theorem dX9_wrong_36 : decode cX9_wrong 36 = .ok (.iconst 2, 1) := by decide +kernel
theorem dX9_wrong_37 : decode cX9_wrong 37 = .ok (.iadd, 1) := by decide +kernel
theorem dX9_wrong_38 : decode cX9_wrong 38 = .ok (.iaload, 1) := by decide +kernel
theorem dX9_wrong_39 : decode cX9_wrong 39 = .ok (.istore_n 3, 1) := by decide +kernel
theorem dX9_wrong_40 : decode cX9_wrong 40 = .ok (.aload_n 0, 1) := by decide +kernel
theorem dX9_wrong_41 : decode cX9_wrong 41 = .ok (.getfield 7, 3) := by decide +kernel
theorem dX9_wrong_44 : decode cX9_wrong 44 = .ok (.bipush 32, 2) := by decide +kernel
theorem dX9_wrong_46 : decode cX9_wrong 46 = .ok (.iconst 4, 1) := by decide +kernel
theorem dX9_wrong_47 : decode cX9_wrong 47 = .ok (.iload_n 1, 1) := by decide +kernel
theorem dX9_wrong_48 : decode cX9_wrong 48 = .ok (.imul, 1) := by decide +kernel
theorem dX9_wrong_49 : decode cX9_wrong 49 = .ok (.iadd, 1) := by decide +kernel
theorem dX9_wrong_50 : decode cX9_wrong 50 = .ok (.iconst 3, 1) := by decide +kernel
theorem dX9_wrong_51 : decode cX9_wrong 51 = .ok (.iadd, 1) := by decide +kernel
theorem dX9_wrong_52 : decode cX9_wrong 52 = .ok (.iaload, 1) := by decide +kernel
theorem dX9_wrong_53 : decode cX9_wrong 53 = .ok (.istore 4, 2) := by decide +kernel
theorem dX9_wrong_55 : decode cX9_wrong 55 = .ok (.iload 4, 2) := by decide +kernel
theorem dX9_wrong_57 : decode cX9_wrong 57 = .ok (.iload_n 3, 1) := by decide +kernel
theorem dX9_wrong_58 : decode cX9_wrong 58 = .ok (.isub, 1) := by decide +kernel
theorem dX9_wrong_59 : decode cX9_wrong 59 = .ok (.iconst 1, 1) := by decide +kernel
theorem dX9_wrong_60 : decode cX9_wrong 60 = .ok (.iadd, 1) := by decide +kernel
theorem dX9_wrong_61 : decode cX9_wrong 61 = .ok (.aload_n 0, 1) := by decide +kernel
theorem dX9_wrong_62 : decode cX9_wrong 62 = .ok (.iload_n 2, 1) := by decide +kernel
theorem dX9_wrong_63 : decode cX9_wrong 63 = .ok (.invokevirtual 92, 3) := by decide +kernel
theorem dX9_wrong_66 : decode cX9_wrong 66 = .ok (.if_icmp .gt 7, 3) := by decide +kernel
theorem dX9_wrong_69 : decode cX9_wrong 69 = .ok (.iconst 1, 1) := by decide +kernel
theorem dX9_wrong_70 : decode cX9_wrong 70 = .ok (.goto 4, 3) := by decide +kernel
theorem dX9_wrong_73 : decode cX9_wrong 73 = .ok (.iconst 0, 1) := by decide +kernel
theorem dX9_wrong_74 : decode cX9_wrong 74 = .ok (.istore 5, 2) := by decide +kernel
theorem dX9_wrong_76 : decode cX9_wrong 76 = .ok (.iload_n 3, 1) := by decide +kernel
theorem dX9_wrong_77 : decode cX9_wrong 77 = .ok (.istore 6, 2) := by decide +kernel
theorem dX9_wrong_79 : decode cX9_wrong 79 = .ok (.iload 6, 2) := by decide +kernel
theorem dX9_wrong_81 : decode cX9_wrong 81 = .ok (.iload 4, 2) := by decide +kernel
theorem dX9_wrong_83 : decode cX9_wrong 83 = .ok (.if_icmp .gt 40, 3) := by decide +kernel
theorem dX9_wrong_86 : decode cX9_wrong 86 = .ok (.iload 5, 2) := by decide +kernel
theorem dX9_wrong_88 : decode cX9_wrong 88 = .ok (.ifCond .eq 26, 3) := by decide +kernel
theorem dX9_wrong_91 : decode cX9_wrong 91 = .ok (.aload_n 0, 1) := by decide +kernel
theorem dX9_wrong_92 : decode cX9_wrong 92 = .ok (.iload_n 1, 1) := by decide +kernel
theorem dX9_wrong_93 : decode cX9_wrong 93 = .ok (.iconst 1, 1) := by decide +kernel
theorem dX9_wrong_94 : decode cX9_wrong 94 = .ok (.iadd, 1) := by decide +kernel
theorem dX9_wrong_95 : decode cX9_wrong 95 = .ok (.iload_n 2, 1) := by decide +kernel
theorem dX9_wrong_96 : decode cX9_wrong 96 = .ok (.iload 6, 2) := by decide +kernel
theorem dX9_wrong_98 : decode cX9_wrong 98 = .ok (.iconst (-1), 1) := by decide +kernel
theorem dX9_wrong_99 : decode cX9_wrong 99 = .ok (.invokevirtual 105, 3) := by decide +kernel
theorem dX9_wrong_102 : decode cX9_wrong 102 = .ok (.aload_n 0, 1) := by decide +kernel
theorem dX9_wrong_103 : decode cX9_wrong 103 = .ok (.iload_n 2, 1) := by decide +kernel
theorem dX9_wrong_104 : decode cX9_wrong 104 = .ok (.invokevirtual 88, 3) := by decide +kernel
theorem dX9_wrong_107 : decode cX9_wrong 107 = .ok (.if_icmp .gt 7, 3) := by decide +kernel
theorem dX9_wrong_110 : decode cX9_wrong 110 = .ok (.iconst 1, 1) := by decide +kernel
theorem dX9_wrong_111 : decode cX9_wrong 111 = .ok (.goto 4, 3) := by decide +kernel
theorem dX9_wrong_114 : decode cX9_wrong 114 = .ok (.iconst 0, 1) := by decide +kernel
theorem dX9_wrong_115 : decode cX9_wrong 115 = .ok (.istore 5, 2) := by decide +kernel
theorem dX9_wrong_117 : decode cX9_wrong 117 = .ok (.iinc 6 1, 3) := by decide +kernel
theorem dX9_wrong_120 : decode cX9_wrong 120 = .ok (.goto (-41), 3) := by decide +kernel
theorem dX9_wrong_123 : decode cX9_wrong 123 = .ok (.iload 5, 2) := by decide +kernel
theorem dX9_wrong_125 : decode cX9_wrong 125 = .ok (.ifCond .ne 5, 3) := by decide +kernel
theorem dX9_wrong_128 : decode cX9_wrong 128 = .ok (.iload_n 1, 1) := by decide +kernel
theorem dX9_wrong_129 : decode cX9_wrong 129 = .ok (.ireturn, 1) := by decide +kernel
theorem dX9_wrong_130 : decode cX9_wrong 130 = .ok (.iinc 1 1, 3) := by decide +kernel
theorem dX9_wrong_133 : decode cX9_wrong 133 = .ok (.goto (-131), 3) := by decide +kernel
theorem dX9_wrong_136 : decode cX9_wrong 136 = .ok (.iconst (-1), 1) := by decide +kernel
theorem dX9_wrong_137 : decode cX9_wrong 137 = .ok (.ireturn, 1) := by decide +kernel
set_option maxRecDepth 20000 in
theorem ggX9_in_X9_is : GoodIn wsX9_in wsX9_is := goodIn_r _ [6] (by decide +kernel) (by decide +kernel)
set_option maxRecDepth 20000 in
theorem gX9_in_X9_is : GoodIn wsX9_in (va_wsS RX9 65 yX9_is wsX9_is) := goodIn_app (goodIn_of _ (by decide +kernel)) ggX9_in_X9_is
set_option maxRecDepth 20000 in
theorem ggX9_in_X9_bad : GoodIn wsX9_in wsX9_bad := goodIn_r _ [10, 11, 12, 13, 5, 14, 15, 16, 25, 26, 27, 28, 29, 30, 31, 32, 33, 34, 35, 36, 37, 38, 39, 40, 41, 42, 43, 44, 45, 46, 47] (by decide +kernel) (by decide +kernel)
set_option maxRecDepth 20000 in
theorem gX9_in_X9_bad : GoodIn wsX9_in (wsV RX9 77 RX9 yX9_bad wsX9_bad) := goodIn_app (goodIn_of _ (by decide +kernel)) ggX9_in_X9_bad
set_option maxRecDepth 20000 in
theorem ggX9_in_X9_having : GoodIn wsX9_in wsX9_having := goodIn_r _ [20, 2, 3, 4, 5, 6, 25, 26, 27, 28, 29, 30, 31, 32, 33, 34, 35, 36, 37, 38, 39, 40, 41, 42, 43, 44, 45, 46, 47] (by decide +kernel) (by decide +kernel)
set_option maxRecDepth 20000 in
theorem gX9_in_X9_having : GoodIn wsX9_in (wsV RX9 105 RX9 yX9_having wsX9_having) := goodIn_app (goodIn_of _ (by decide +kernel)) ggX9_in_X9_having
set_option maxRecDepth 20000 in
theorem ggX9_in_X9_mayOf : GoodIn wsX9_in wsX9_mayOf := goodIn_r _ [24, 2, 25, 26, 27, 28, 29, 30, 31, 32, 33, 34, 35, 36, 37, 38, 39, 40, 41, 42, 43, 44, 45, 46, 47] (by decide +kernel) (by decide +kernel)
set_option maxRecDepth 20000 in
theorem gX9_in_X9_mayOf : GoodIn wsX9_in (wsV RX9 88 RX9 yX9_mayOf wsX9_mayOf) := goodIn_app (goodIn_of _ (by decide +kernel)) ggX9_in_X9_mayOf
theorem dX9_in_0 : decode cX9_in 0 = .ok (.iload_n 1, 1) := by decide +kernel
theorem dX9_in_1 : decode cX9_in 1 = .ok (.i2l, 1) := by decide +kernel
theorem dX9_in_2 : decode cX9_in 2 = .ok (.lconst 0, 1) := by decide +kernel
theorem dX9_in_3 : decode cX9_in 3 = .ok (.ldc2_w 103, 3) := by decide +kernel
theorem dX9_in_6 : decode cX9_in 6 = .ok (.invokestatic 65, 3) := by decide +kernel
theorem dX9_in_9 : decode cX9_in 9 = .ok (.ifCond .ne 8, 3) := by decide +kernel
theorem dX9_in_12 : decode cX9_in 12 = .ok (.aload_n 0, 1) := by decide +kernel
theorem dX9_in_13 : decode cX9_in 13 = .ok (.invokevirtual 77, 3) := by decide +kernel
theorem dX9_in_16 : decode cX9_in 16 = .ok (.ireturn, 1) := by decide +kernel
theorem dX9_in_17 : decode cX9_in 17 = .ok (.iconst 0, 1) := by decide +kernel
theorem dX9_in_18 : decode cX9_in 18 = .ok (.istore_n 2, 1) := by decide +kernel
theorem dX9_in_19 : decode cX9_in 19 = .ok (.iconst 0, 1) := by decide +kernel
theorem dX9_in_20 : decode cX9_in 20 = .ok (.istore_n 3, 1) := by decide +kernel
theorem dX9_in_21 : decode cX9_in 21 = .ok (.iload_n 3, 1) := by decide +kernel
theorem dX9_in_22 : decode cX9_in 22 = .ok (.aload_n 0, 1) := by decide +kernel
theorem dX9_in_23 : decode cX9_in 23 = .ok (.getfield 7, 3) := by decide +kernel
theorem dX9_in_26 : decode cX9_in 26 = .ok (.iconst 0, 1) := by decide +kernel
theorem dX9_in_27 : decode cX9_in 27 = .ok (.iaload, 1) := by decide +kernel
theorem dX9_in_28 : decode cX9_in 28 = .ok (.if_icmp .ge 40, 3) := by decide +kernel
theorem dX9_in_31 : decode cX9_in 31 = .ok (.iload_n 2, 1) := by decide +kernel
theorem dX9_in_32 : decode cX9_in 32 = .ok (.aload_n 0, 1) := by decide +kernel
theorem dX9_in_33 : decode cX9_in 33 = .ok (.aload_n 0, 1) := by decide +kernel
theorem dX9_in_34 : decode cX9_in 34 = .ok (.getfield 7, 3) := by decide +kernel
theorem dX9_in_37 : decode cX9_in 37 = .ok (.iconst 1, 1) := by decide +kernel
theorem dX9_in_38 : decode cX9_in 38 = .ok (.iaload, 1) := by decide +kernel
theorem dX9_in_39 : decode cX9_in 39 = .ok (.iload_n 3, 1) := by decide +kernel
theorem dX9_in_40 : decode cX9_in 40 = .ok (.iload_n 1, 1) := by decide +kernel
theorem dX9_in_41 : decode cX9_in 41 = .ok (.iconst (-1), 1) := by decide +kernel
theorem dX9_in_42 : decode cX9_in 42 = .ok (.invokevirtual 105, 3) := by decide +kernel
theorem dX9_in_45 : decode cX9_in 45 = .ok (.aload_n 0, 1) := by decide +kernel
theorem dX9_in_46 : decode cX9_in 46 = .ok (.iload_n 3, 1) := by decide +kernel
theorem dX9_in_47 : decode cX9_in 47 = .ok (.invokevirtual 88, 3) := by decide +kernel
theorem dX9_in_50 : decode cX9_in 50 = .ok (.if_icmp .ge 9, 3) := by decide +kernel
theorem dX9_in_53 : decode cX9_in 53 = .ok (.iconst 1, 1) := by decide +kernel
theorem dX9_in_54 : decode cX9_in 54 = .ok (.iload_n 3, 1) := by decide +kernel
theorem dX9_in_55 : decode cX9_in 55 = .ok (.ishl, 1) := by decide +kernel
theorem dX9_in_56 : decode cX9_in 56 = .ok (.goto 4, 3) := by decide +kernel
theorem dX9_in_59 : decode cX9_in 59 = .ok (.iconst 0, 1) := by decide +kernel
theorem dX9_in_60 : decode cX9_in 60 = .ok (.ior, 1) := by decide +kernel
theorem dX9_in_61 : decode cX9_in 61 = .ok (.istore_n 2, 1) := by decide +kernel
theorem dX9_in_62 : decode cX9_in 62 = .ok (.iinc 3 1, 3) := by decide +kernel
theorem dX9_in_65 : decode cX9_in 65 = .ok (.goto (-44), 3) := by decide +kernel
theorem dX9_in_68 : decode cX9_in 68 = .ok (.iload_n 2, 1) := by decide +kernel
theorem dX9_in_69 : decode cX9_in 69 = .ok (.ireturn, 1) := by decide +kernel
set_option maxRecDepth 20000 in
theorem ggX9_bill_X9_isOne : GoodIn wsX9_bill wsX9_isOne := goodIn_r _ [5, 6, 7, 8, 4, 9] (by decide +kernel) (by decide +kernel)
set_option maxRecDepth 20000 in
theorem gX9_bill_X9_isOne : GoodIn wsX9_bill (va_wsS RX9 100 yX9_isOne wsX9_isOne) := goodIn_app (goodIn_of _ (by decide +kernel)) ggX9_bill_X9_isOne
set_option maxRecDepth 20000 in
theorem ggX9_bill_X9_bad : GoodIn wsX9_bill wsX9_bad := goodIn_r _ [13, 14, 15, 16, 4, 17, 18, 19, 24, 25, 26, 27, 28, 29, 30, 31, 32, 33, 34, 35, 36, 37, 38, 39, 40, 41, 42, 43, 44, 45, 46] (by decide +kernel) (by decide +kernel)
set_option maxRecDepth 20000 in
theorem gX9_bill_X9_bad : GoodIn wsX9_bill (wsV RX9 77 RX9 yX9_bad wsX9_bad) := goodIn_app (goodIn_of _ (by decide +kernel)) ggX9_bill_X9_bad
set_option maxRecDepth 20000 in
theorem ggX9_bill_X9_costOf : GoodIn wsX9_bill wsX9_costOf := goodIn_r _ [23, 1, 24, 25, 26, 27, 28, 29, 30, 31, 32, 33, 34, 35, 36, 37, 38, 39, 40, 41, 42, 43, 44, 45, 46] (by decide +kernel) (by decide +kernel)
set_option maxRecDepth 20000 in
theorem gX9_bill_X9_costOf : GoodIn wsX9_bill (wsV RX9 97 RX9 yX9_costOf wsX9_costOf) := goodIn_app (goodIn_of _ (by decide +kernel)) ggX9_bill_X9_costOf
theorem dX9_bill_0 : decode cX9_bill 0 = .ok (.iload_n 1, 1) := by decide +kernel
theorem dX9_bill_1 : decode cX9_bill 1 = .ok (.invokestatic 100, 3) := by decide +kernel
theorem dX9_bill_4 : decode cX9_bill 4 = .ok (.ifCond .ne 8, 3) := by decide +kernel
theorem dX9_bill_7 : decode cX9_bill 7 = .ok (.aload_n 0, 1) := by decide +kernel
theorem dX9_bill_8 : decode cX9_bill 8 = .ok (.invokevirtual 77, 3) := by decide +kernel
theorem dX9_bill_11 : decode cX9_bill 11 = .ok (.ireturn, 1) := by decide +kernel
theorem dX9_bill_12 : decode cX9_bill 12 = .ok (.iconst 0, 1) := by decide +kernel
theorem dX9_bill_13 : decode cX9_bill 13 = .ok (.istore_n 2, 1) := by decide +kernel
theorem dX9_bill_14 : decode cX9_bill 14 = .ok (.iconst 0, 1) := by decide +kernel
theorem dX9_bill_15 : decode cX9_bill 15 = .ok (.istore_n 3, 1) := by decide +kernel
theorem dX9_bill_16 : decode cX9_bill 16 = .ok (.iload_n 3, 1) := by decide +kernel
theorem dX9_bill_17 : decode cX9_bill 17 = .ok (.aload_n 0, 1) := by decide +kernel
theorem dX9_bill_18 : decode cX9_bill 18 = .ok (.getfield 7, 3) := by decide +kernel
theorem dX9_bill_21 : decode cX9_bill 21 = .ok (.iconst 1, 1) := by decide +kernel
theorem dX9_bill_22 : decode cX9_bill 22 = .ok (.iaload, 1) := by decide +kernel
theorem dX9_bill_23 : decode cX9_bill 23 = .ok (.if_icmp .ge 69, 3) := by decide +kernel
theorem dX9_bill_26 : decode cX9_bill 26 = .ok (.bipush 32, 2) := by decide +kernel
theorem dX9_bill_28 : decode cX9_bill 28 = .ok (.iconst 4, 1) := by decide +kernel
theorem dX9_bill_29 : decode cX9_bill 29 = .ok (.iload_n 3, 1) := by decide +kernel
theorem dX9_bill_30 : decode cX9_bill 30 = .ok (.imul, 1) := by decide +kernel
theorem dX9_bill_31 : decode cX9_bill 31 = .ok (.iadd, 1) := by decide +kernel
theorem dX9_bill_32 : decode cX9_bill 32 = .ok (.istore 4, 2) := by decide +kernel
theorem dX9_bill_34 : decode cX9_bill 34 = .ok (.iload_n 2, 1) := by decide +kernel
theorem dX9_bill_35 : decode cX9_bill 35 = .ok (.aload_n 0, 1) := by decide +kernel
theorem dX9_bill_36 : decode cX9_bill 36 = .ok (.getfield 7, 3) := by decide +kernel
theorem dX9_bill_39 : decode cX9_bill 39 = .ok (.iload 4, 2) := by decide +kernel
theorem dX9_bill_41 : decode cX9_bill 41 = .ok (.iaload, 1) := by decide +kernel
theorem dX9_bill_42 : decode cX9_bill 42 = .ok (.iload_n 1, 1) := by decide +kernel
theorem dX9_bill_43 : decode cX9_bill 43 = .ok (.if_icmp .ne 40, 3) := by decide +kernel
theorem dX9_bill_46 : decode cX9_bill 46 = .ok (.aload_n 0, 1) := by decide +kernel
theorem dX9_bill_47 : decode cX9_bill 47 = .ok (.aload_n 0, 1) := by decide +kernel
theorem dX9_bill_48 : decode cX9_bill 48 = .ok (.getfield 7, 3) := by decide +kernel
theorem dX9_bill_51 : decode cX9_bill 51 = .ok (.iload 4, 2) := by decide +kernel
theorem dX9_bill_53 : decode cX9_bill 53 = .ok (.iconst 1, 1) := by decide +kernel
theorem dX9_bill_54 : decode cX9_bill 54 = .ok (.iadd, 1) := by decide +kernel
theorem dX9_bill_55 : decode cX9_bill 55 = .ok (.iaload, 1) := by decide +kernel
theorem dX9_bill_56 : decode cX9_bill 56 = .ok (.aload_n 0, 1) := by decide +kernel
theorem dX9_bill_57 : decode cX9_bill 57 = .ok (.getfield 7, 3) := by decide +kernel
theorem dX9_bill_60 : decode cX9_bill 60 = .ok (.iload 4, 2) := by decide +kernel
theorem dX9_bill_62 : decode cX9_bill 62 = .ok (.iconst 3, 1) := by decide +kernel
theorem dX9_bill_63 : decode cX9_bill 63 = .ok (.iadd, 1) := by decide +kernel
theorem dX9_bill_64 : decode cX9_bill 64 = .ok (.iaload, 1) := by decide +kernel
theorem dX9_bill_65 : decode cX9_bill 65 = .ok (.aload_n 0, 1) := by decide +kernel
theorem dX9_bill_66 : decode cX9_bill 66 = .ok (.getfield 7, 3) := by decide +kernel
theorem dX9_bill_69 : decode cX9_bill 69 = .ok (.iload 4, 2) := by decide +kernel
theorem dX9_bill_71 : decode cX9_bill 71 = .ok (.iconst 2, 1) := by decide +kernel
theorem dX9_bill_72 : decode cX9_bill 72 = .ok (.iadd, 1) := by decide +kernel
theorem dX9_bill_73 : decode cX9_bill 73 = .ok (.iaload, 1) := by decide +kernel
theorem dX9_bill_74 : decode cX9_bill 74 = .ok (.isub, 1) := by decide +kernel
theorem dX9_bill_75 : decode cX9_bill 75 = .ok (.iconst 1, 1) := by decide +kernel
theorem dX9_bill_76 : decode cX9_bill 76 = .ok (.iadd, 1) := by decide +kernel
theorem dX9_bill_77 : decode cX9_bill 77 = .ok (.invokevirtual 97, 3) := by decide +kernel
theorem dX9_bill_80 : decode cX9_bill 80 = .ok (.goto 4, 3) := by decide +kernel
theorem dX9_bill_83 : decode cX9_bill 83 = .ok (.iconst 0, 1) := by decide +kernel
theorem dX9_bill_84 : decode cX9_bill 84 = .ok (.iadd, 1) := by decide +kernel
theorem dX9_bill_85 : decode cX9_bill 85 = .ok (.istore_n 2, 1) := by decide +kernel
theorem dX9_bill_86 : decode cX9_bill 86 = .ok (.iinc 3 1, 3) := by decide +kernel
theorem dX9_bill_89 : decode cX9_bill 89 = .ok (.goto (-73), 3) := by decide +kernel
theorem dX9_bill_92 : decode cX9_bill 92 = .ok (.iload_n 2, 1) := by decide +kernel
theorem dX9_bill_93 : decode cX9_bill 93 = .ok (.ireturn, 1) := by decide +kernel
set_option maxRecDepth 20000 in
theorem ggX9_said_X9_isOne : GoodIn wsX9_said wsX9_isOne := goodIn_r _ [6, 7, 8, 9, 5, 10] (by decide +kernel) (by decide +kernel)
set_option maxRecDepth 20000 in
theorem gX9_said_X9_isOne : GoodIn wsX9_said (va_wsS RX9 100 yX9_isOne wsX9_isOne) := goodIn_app (goodIn_of _ (by decide +kernel)) ggX9_said_X9_isOne
set_option maxRecDepth 20000 in
theorem ggX9_said_X9_isTerm : GoodIn wsX9_said wsX9_isTerm := goodIn_r _ [14, 2, 8, 9, 5, 10, 29, 30, 31, 32, 33, 34, 35, 36, 37, 38, 39, 40, 41, 42, 43, 44, 45, 46, 47, 48, 49, 50, 51] (by decide +kernel) (by decide +kernel)
set_option maxRecDepth 20000 in
theorem gX9_said_X9_isTerm : GoodIn wsX9_said (wsV RX9 84 RX9 yX9_isTerm wsX9_isTerm) := goodIn_app (goodIn_of _ (by decide +kernel)) ggX9_said_X9_isTerm
set_option maxRecDepth 20000 in
theorem ggX9_said_X9_is : GoodIn wsX9_said wsX9_is := goodIn_r _ [10] (by decide +kernel) (by decide +kernel)
set_option maxRecDepth 20000 in
theorem gX9_said_X9_is : GoodIn wsX9_said (va_wsS RX9 65 yX9_is wsX9_is) := goodIn_app (goodIn_of _ (by decide +kernel)) ggX9_said_X9_is
set_option maxRecDepth 20000 in
theorem ggX9_said_X9_bad : GoodIn wsX9_said wsX9_bad := goodIn_r _ [18, 19, 20, 21, 5, 22, 23, 24, 29, 30, 31, 32, 33, 34, 35, 36, 37, 38, 39, 40, 41, 42, 43, 44, 45, 46, 47, 48, 49, 50, 51] (by decide +kernel) (by decide +kernel)
set_option maxRecDepth 20000 in
theorem gX9_said_X9_bad : GoodIn wsX9_said (wsV RX9 77 RX9 yX9_bad wsX9_bad) := goodIn_app (goodIn_of _ (by decide +kernel)) ggX9_said_X9_bad
set_option maxRecDepth 20000 in
theorem ggX9_said_X9_full : GoodIn wsX9_said wsX9_full := goodIn_r _ [28, 19, 20, 21, 5, 22, 23, 24, 29, 30, 31, 32, 33, 34, 35, 36, 37, 38, 39, 40, 41, 42, 43, 44, 45, 46, 47, 48, 49, 50, 51] (by decide +kernel) (by decide +kernel)
set_option maxRecDepth 20000 in
theorem gX9_said_X9_full : GoodIn wsX9_said (wsV RX9 81 RX9 yX9_full wsX9_full) := goodIn_app (goodIn_of _ (by decide +kernel)) ggX9_said_X9_full
theorem dX9_said_0 : decode cX9_said 0 = .ok (.iload_n 1, 1) := by decide +kernel
theorem dX9_said_1 : decode cX9_said 1 = .ok (.invokestatic 100, 3) := by decide +kernel
theorem dX9_said_4 : decode cX9_said 4 = .ok (.ifCond .eq 23, 3) := by decide +kernel
theorem dX9_said_7 : decode cX9_said 7 = .ok (.aload_n 0, 1) := by decide +kernel
theorem dX9_said_8 : decode cX9_said 8 = .ok (.iload_n 2, 1) := by decide +kernel
theorem dX9_said_9 : decode cX9_said 9 = .ok (.invokevirtual 84, 3) := by decide +kernel
theorem dX9_said_12 : decode cX9_said 12 = .ok (.ifCond .eq 15, 3) := by decide +kernel
theorem dX9_said_15 : decode cX9_said 15 = .ok (.iload_n 3, 1) := by decide +kernel
theorem dX9_said_16 : decode cX9_said 16 = .ok (.i2l, 1) := by decide +kernel
theorem dX9_said_17 : decode cX9_said 17 = .ok (.lconst 0, 1) := by decide +kernel
theorem dX9_said_18 : decode cX9_said 18 = .ok (.ldc2_w 103, 3) := by decide +kernel
theorem dX9_said_21 : decode cX9_said 21 = .ok (.invokestatic 65, 3) := by decide +kernel
theorem dX9_said_24 : decode cX9_said 24 = .ok (.ifCond .ne 8, 3) := by decide +kernel
theorem dX9_said_27 : decode cX9_said 27 = .ok (.aload_n 0, 1) := by decide +kernel
theorem dX9_said_28 : decode cX9_said 28 = .ok (.invokevirtual 77, 3) := by decide +kernel
theorem dX9_said_31 : decode cX9_said 31 = .ok (.ireturn, 1) := by decide +kernel
theorem dX9_said_32 : decode cX9_said 32 = .ok (.aload_n 0, 1) := by decide +kernel
theorem dX9_said_33 : decode cX9_said 33 = .ok (.getfield 7, 3) := by decide +kernel
theorem dX9_said_36 : decode cX9_said 36 = .ok (.iconst 2, 1) := by decide +kernel
theorem dX9_said_37 : decode cX9_said 37 = .ok (.iaload, 1) := by decide +kernel
theorem dX9_said_38 : decode cX9_said 38 = .ok (.bipush 10, 2) := by decide +kernel
theorem dX9_said_40 : decode cX9_said 40 = .ok (.if_icmp .ne 8, 3) := by decide +kernel
theorem dX9_said_43 : decode cX9_said 43 = .ok (.aload_n 0, 1) := by decide +kernel
theorem dX9_said_44 : decode cX9_said 44 = .ok (.invokevirtual 81, 3) := by decide +kernel
theorem dX9_said_47 : decode cX9_said 47 = .ok (.ireturn, 1) := by decide +kernel
theorem dX9_said_48 : decode cX9_said 48 = .ok (.bipush 72, 2) := by decide +kernel
theorem dX9_said_50 : decode cX9_said 50 = .ok (.iconst 3, 1) := by decide +kernel
theorem dX9_said_51 : decode cX9_said 51 = .ok (.aload_n 0, 1) := by decide +kernel
theorem dX9_said_52 : decode cX9_said 52 = .ok (.getfield 7, 3) := by decide +kernel
theorem dX9_said_55 : decode cX9_said 55 = .ok (.iconst 2, 1) := by decide +kernel
theorem dX9_said_56 : decode cX9_said 56 = .ok (.iaload, 1) := by decide +kernel
theorem dX9_said_57 : decode cX9_said 57 = .ok (.imul, 1) := by decide +kernel
theorem dX9_said_58 : decode cX9_said 58 = .ok (.iadd, 1) := by decide +kernel
theorem dX9_said_59 : decode cX9_said 59 = .ok (.istore 4, 2) := by decide +kernel
theorem dX9_said_61 : decode cX9_said 61 = .ok (.aload_n 0, 1) := by decide +kernel
theorem dX9_said_62 : decode cX9_said 62 = .ok (.getfield 7, 3) := by decide +kernel
theorem dX9_said_65 : decode cX9_said 65 = .ok (.iload 4, 2) := by decide +kernel
theorem dX9_said_67 : decode cX9_said 67 = .ok (.iload_n 1, 1) := by decide +kernel
theorem dX9_said_68 : decode cX9_said 68 = .ok (.iastore, 1) := by decide +kernel
theorem dX9_said_69 : decode cX9_said 69 = .ok (.aload_n 0, 1) := by decide +kernel
theorem dX9_said_70 : decode cX9_said 70 = .ok (.getfield 7, 3) := by decide +kernel
theorem dX9_said_73 : decode cX9_said 73 = .ok (.iload 4, 2) := by decide +kernel
theorem dX9_said_75 : decode cX9_said 75 = .ok (.iconst 1, 1) := by decide +kernel
theorem dX9_said_76 : decode cX9_said 76 = .ok (.iadd, 1) := by decide +kernel
theorem dX9_said_77 : decode cX9_said 77 = .ok (.iload_n 2, 1) := by decide +kernel
theorem dX9_said_78 : decode cX9_said 78 = .ok (.iastore, 1) := by decide +kernel
theorem dX9_said_79 : decode cX9_said 79 = .ok (.aload_n 0, 1) := by decide +kernel
theorem dX9_said_80 : decode cX9_said 80 = .ok (.getfield 7, 3) := by decide +kernel
theorem dX9_said_83 : decode cX9_said 83 = .ok (.iload 4, 2) := by decide +kernel
theorem dX9_said_85 : decode cX9_said 85 = .ok (.iconst 2, 1) := by decide +kernel
theorem dX9_said_86 : decode cX9_said 86 = .ok (.iadd, 1) := by decide +kernel
theorem dX9_said_87 : decode cX9_said 87 = .ok (.iload_n 3, 1) := by decide +kernel
theorem dX9_said_88 : decode cX9_said 88 = .ok (.iastore, 1) := by decide +kernel
theorem dX9_said_89 : decode cX9_said 89 = .ok (.aload_n 0, 1) := by decide +kernel
theorem dX9_said_90 : decode cX9_said 90 = .ok (.getfield 7, 3) := by decide +kernel
theorem dX9_said_93 : decode cX9_said 93 = .ok (.iconst 2, 1) := by decide +kernel
theorem dX9_said_94 : decode cX9_said 94 = .ok (.dup2, 1) := by decide +kernel
theorem dX9_said_95 : decode cX9_said 95 = .ok (.iaload, 1) := by decide +kernel
theorem dX9_said_96 : decode cX9_said 96 = .ok (.iconst 1, 1) := by decide +kernel
theorem dX9_said_97 : decode cX9_said 97 = .ok (.iadd, 1) := by decide +kernel
theorem dX9_said_98 : decode cX9_said 98 = .ok (.iastore, 1) := by decide +kernel
theorem dX9_said_99 : decode cX9_said 99 = .ok (.aload_n 0, 1) := by decide +kernel
theorem dX9_said_100 : decode cX9_said 100 = .ok (.getfield 7, 3) := by decide +kernel
theorem dX9_said_103 : decode cX9_said 103 = .ok (.iconst 2, 1) := by decide +kernel
theorem dX9_said_104 : decode cX9_said 104 = .ok (.iaload, 1) := by decide +kernel
theorem dX9_said_105 : decode cX9_said 105 = .ok (.iconst 1, 1) := by decide +kernel
theorem dX9_said_106 : decode cX9_said 106 = .ok (.isub, 1) := by decide +kernel
theorem dX9_said_107 : decode cX9_said 107 = .ok (.ireturn, 1) := by decide +kernel
set_option maxRecDepth 20000 in
theorem ggX9_judge_X9_having : GoodIn wsX9_judge wsX9_having := goodIn_r _ [6, 1, 7, 8, 5, 9, 10, 11, 12, 13, 14, 15, 16, 17, 18, 19, 20, 21, 22, 23, 24, 25, 26, 27, 28, 29, 30, 31, 32] (by decide +kernel) (by decide +kernel)
set_option maxRecDepth 20000 in
theorem gX9_judge_X9_having : GoodIn wsX9_judge (wsV RX9 105 RX9 yX9_having wsX9_having) := goodIn_app (goodIn_of _ (by decide +kernel)) ggX9_judge_X9_having
theorem dX9_judge_0 : decode cX9_judge 0 = .ok (.iconst 0, 1) := by decide +kernel
theorem dX9_judge_1 : decode cX9_judge 1 = .ok (.istore_n 1, 1) := by decide +kernel
theorem dX9_judge_2 : decode cX9_judge 2 = .ok (.iload_n 1, 1) := by decide +kernel
theorem dX9_judge_3 : decode cX9_judge 3 = .ok (.aload_n 0, 1) := by decide +kernel
theorem dX9_judge_4 : decode cX9_judge 4 = .ok (.getfield 7, 3) := by decide +kernel
theorem dX9_judge_7 : decode cX9_judge 7 = .ok (.iconst 2, 1) := by decide +kernel
theorem dX9_judge_8 : decode cX9_judge 8 = .ok (.iaload, 1) := by decide +kernel
theorem dX9_judge_9 : decode cX9_judge 9 = .ok (.if_icmp .ge 53, 3) := by decide +kernel
theorem dX9_judge_12 : decode cX9_judge 12 = .ok (.bipush 72, 2) := by decide +kernel
theorem dX9_judge_14 : decode cX9_judge 14 = .ok (.iconst 3, 1) := by decide +kernel
theorem dX9_judge_15 : decode cX9_judge 15 = .ok (.iload_n 1, 1) := by decide +kernel
theorem dX9_judge_16 : decode cX9_judge 16 = .ok (.imul, 1) := by decide +kernel
theorem dX9_judge_17 : decode cX9_judge 17 = .ok (.iadd, 1) := by decide +kernel
theorem dX9_judge_18 : decode cX9_judge 18 = .ok (.istore_n 2, 1) := by decide +kernel
theorem dX9_judge_19 : decode cX9_judge 19 = .ok (.aload_n 0, 1) := by decide +kernel
theorem dX9_judge_20 : decode cX9_judge 20 = .ok (.aload_n 0, 1) := by decide +kernel
theorem dX9_judge_21 : decode cX9_judge 21 = .ok (.getfield 7, 3) := by decide +kernel
theorem dX9_judge_24 : decode cX9_judge 24 = .ok (.iconst 1, 1) := by decide +kernel
theorem dX9_judge_25 : decode cX9_judge 25 = .ok (.iaload, 1) := by decide +kernel
theorem dX9_judge_26 : decode cX9_judge 26 = .ok (.aload_n 0, 1) := by decide +kernel
theorem dX9_judge_27 : decode cX9_judge 27 = .ok (.getfield 7, 3) := by decide +kernel
theorem dX9_judge_30 : decode cX9_judge 30 = .ok (.iload_n 2, 1) := by decide +kernel
theorem dX9_judge_31 : decode cX9_judge 31 = .ok (.iconst 1, 1) := by decide +kernel
theorem dX9_judge_32 : decode cX9_judge 32 = .ok (.iadd, 1) := by decide +kernel
theorem dX9_judge_33 : decode cX9_judge 33 = .ok (.iaload, 1) := by decide +kernel
theorem dX9_judge_34 : decode cX9_judge 34 = .ok (.aload_n 0, 1) := by decide +kernel
theorem dX9_judge_35 : decode cX9_judge 35 = .ok (.getfield 7, 3) := by decide +kernel
theorem dX9_judge_38 : decode cX9_judge 38 = .ok (.iload_n 2, 1) := by decide +kernel
theorem dX9_judge_39 : decode cX9_judge 39 = .ok (.iconst 2, 1) := by decide +kernel
theorem dX9_judge_40 : decode cX9_judge 40 = .ok (.iadd, 1) := by decide +kernel
theorem dX9_judge_41 : decode cX9_judge 41 = .ok (.iaload, 1) := by decide +kernel
theorem dX9_judge_42 : decode cX9_judge 42 = .ok (.aload_n 0, 1) := by decide +kernel
theorem dX9_judge_43 : decode cX9_judge 43 = .ok (.getfield 7, 3) := by decide +kernel
theorem dX9_judge_46 : decode cX9_judge 46 = .ok (.iload_n 2, 1) := by decide +kernel
theorem dX9_judge_47 : decode cX9_judge 47 = .ok (.iaload, 1) := by decide +kernel
theorem dX9_judge_48 : decode cX9_judge 48 = .ok (.invokevirtual 105, 3) := by decide +kernel
theorem dX9_judge_51 : decode cX9_judge 51 = .ok (.ifCond .ne 5, 3) := by decide +kernel
theorem dX9_judge_54 : decode cX9_judge 54 = .ok (.iload_n 1, 1) := by decide +kernel
theorem dX9_judge_55 : decode cX9_judge 55 = .ok (.ireturn, 1) := by decide +kernel
theorem dX9_judge_56 : decode cX9_judge 56 = .ok (.iinc 1 1, 3) := by decide +kernel
theorem dX9_judge_59 : decode cX9_judge 59 = .ok (.goto (-57), 3) := by decide +kernel
theorem dX9_judge_62 : decode cX9_judge 62 = .ok (.iconst (-1), 1) := by decide +kernel
theorem dX9_judge_63 : decode cX9_judge 63 = .ok (.ireturn, 1) := by decide +kernel
set_option maxRecDepth 20000 in
theorem ggX9_type_X9_is : GoodIn wsX9_type wsX9_is := goodIn_r _ [8] (by decide +kernel) (by decide +kernel)
set_option maxRecDepth 20000 in
theorem gX9_type_X9_is : GoodIn wsX9_type (va_wsS RX9 65 yX9_is wsX9_is) := goodIn_app (goodIn_of _ (by decide +kernel)) ggX9_type_X9_is
set_option maxRecDepth 20000 in
theorem ggX9_type_X9_bad : GoodIn wsX9_type wsX9_bad := goodIn_r _ [12, 13, 14, 15, 7, 16, 17, 18, 23, 24, 25, 26, 27, 28, 29, 30, 31, 32, 33, 34, 35, 36, 37, 38, 39, 40, 41, 42, 43, 44, 45] (by decide +kernel) (by decide +kernel)
set_option maxRecDepth 20000 in
theorem gX9_type_X9_bad : GoodIn wsX9_type (wsV RX9 77 RX9 yX9_bad wsX9_bad) := goodIn_app (goodIn_of _ (by decide +kernel)) ggX9_type_X9_bad
set_option maxRecDepth 20000 in
theorem ggX9_type_X9_full : GoodIn wsX9_type wsX9_full := goodIn_r _ [22, 13, 14, 15, 7, 16, 17, 18, 23, 24, 25, 26, 27, 28, 29, 30, 31, 32, 33, 34, 35, 36, 37, 38, 39, 40, 41, 42, 43, 44, 45] (by decide +kernel) (by decide +kernel)
set_option maxRecDepth 20000 in
theorem gX9_type_X9_full : GoodIn wsX9_type (wsV RX9 81 RX9 yX9_full wsX9_full) := goodIn_app (goodIn_of _ (by decide +kernel)) ggX9_type_X9_full
theorem dX9_type_0 : decode cX9_type 0 = .ok (.iload_n 3, 1) := by decide +kernel
theorem dX9_type_1 : decode cX9_type 1 = .ok (.i2l, 1) := by decide +kernel
theorem dX9_type_2 : decode cX9_type 2 = .ok (.lconst 1, 1) := by decide +kernel
theorem dX9_type_3 : decode cX9_type 3 = .ok (.ldc2_w 109, 3) := by decide +kernel
theorem dX9_type_6 : decode cX9_type 6 = .ok (.invokestatic 65, 3) := by decide +kernel
theorem dX9_type_9 : decode cX9_type 9 = .ok (.ifCond .ne 8, 3) := by decide +kernel
theorem dX9_type_12 : decode cX9_type 12 = .ok (.aload_n 0, 1) := by decide +kernel
theorem dX9_type_13 : decode cX9_type 13 = .ok (.invokevirtual 77, 3) := by decide +kernel
theorem dX9_type_16 : decode cX9_type 16 = .ok (.ireturn, 1) := by decide +kernel
theorem dX9_type_17 : decode cX9_type 17 = .ok (.aload_n 0, 1) := by decide +kernel
theorem dX9_type_18 : decode cX9_type 18 = .ok (.getfield 111, 3) := by decide +kernel
theorem dX9_type_21 : decode cX9_type 21 = .ok (.iload_n 3, 1) := by decide +kernel
theorem dX9_type_22 : decode cX9_type 22 = .ok (.iadd, 1) := by decide +kernel
theorem dX9_type_23 : decode cX9_type 23 = .ok (.sipush 250, 3) := by decide +kernel
theorem dX9_type_26 : decode cX9_type 26 = .ok (.if_icmp .le 8, 3) := by decide +kernel
theorem dX9_type_29 : decode cX9_type 29 = .ok (.aload_n 0, 1) := by decide +kernel
theorem dX9_type_30 : decode cX9_type 30 = .ok (.invokevirtual 81, 3) := by decide +kernel
theorem dX9_type_33 : decode cX9_type 33 = .ok (.ireturn, 1) := by decide +kernel
theorem dX9_type_34 : decode cX9_type 34 = .ok (.iload_n 3, 1) := by decide +kernel
theorem dX9_type_35 : decode cX9_type 35 = .ok (.iconst 1, 1) := by decide +kernel
theorem dX9_type_36 : decode cX9_type 36 = .ok (.isub, 1) := by decide +kernel
theorem dX9_type_37 : decode cX9_type 37 = .ok (.istore 4, 2) := by decide +kernel
theorem dX9_type_39 : decode cX9_type 39 = .ok (.iload 4, 2) := by decide +kernel
theorem dX9_type_41 : decode cX9_type 41 = .ok (.ifCond .lt 40, 3) := by decide +kernel
theorem dX9_type_44 : decode cX9_type 44 = .ok (.aload_n 0, 1) := by decide +kernel
theorem dX9_type_45 : decode cX9_type 45 = .ok (.getfield 26, 3) := by decide +kernel
theorem dX9_type_48 : decode cX9_type 48 = .ok (.aload_n 0, 1) := by decide +kernel
theorem dX9_type_49 : decode cX9_type 49 = .ok (.getfield 111, 3) := by decide +kernel
theorem dX9_type_52 : decode cX9_type 52 = .ok (.lload_n 1, 1) := by decide +kernel
theorem dX9_type_53 : decode cX9_type 53 = .ok (.bipush 8, 2) := by decide +kernel
theorem dX9_type_55 : decode cX9_type 55 = .ok (.iload 4, 2) := by decide +kernel
theorem dX9_type_57 : decode cX9_type 57 = .ok (.imul, 1) := by decide +kernel
theorem dX9_type_58 : decode cX9_type 58 = .ok (.lshr, 1) := by decide +kernel
theorem dX9_type_59 : decode cX9_type 59 = .ok (.ldc2_w 115, 3) := by decide +kernel
theorem dX9_type_62 : decode cX9_type 62 = .ok (.land, 1) := by decide +kernel
theorem dX9_type_63 : decode cX9_type 63 = .ok (.l2i, 1) := by decide +kernel
theorem dX9_type_64 : decode cX9_type 64 = .ok (.iastore, 1) := by decide +kernel
theorem dX9_type_65 : decode cX9_type 65 = .ok (.aload_n 0, 1) := by decide +kernel
theorem dX9_type_66 : decode cX9_type 66 = .ok (.dup, 1) := by decide +kernel
theorem dX9_type_67 : decode cX9_type 67 = .ok (.getfield 111, 3) := by decide +kernel
theorem dX9_type_70 : decode cX9_type 70 = .ok (.iconst 1, 1) := by decide +kernel
theorem dX9_type_71 : decode cX9_type 71 = .ok (.iadd, 1) := by decide +kernel
theorem dX9_type_72 : decode cX9_type 72 = .ok (.putfield 111, 3) := by decide +kernel
theorem dX9_type_75 : decode cX9_type 75 = .ok (.iinc 4 (-1), 3) := by decide +kernel
theorem dX9_type_78 : decode cX9_type 78 = .ok (.goto (-39), 3) := by decide +kernel
theorem dX9_type_81 : decode cX9_type 81 = .ok (.aload_n 0, 1) := by decide +kernel
theorem dX9_type_82 : decode cX9_type 82 = .ok (.getfield 111, 3) := by decide +kernel
theorem dX9_type_85 : decode cX9_type 85 = .ok (.ireturn, 1) := by decide +kernel
theorem dX9_clear_0 : decode cX9_clear 0 = .ok (.aload_n 0, 1) := by decide +kernel
theorem dX9_clear_1 : decode cX9_clear 1 = .ok (.getfield 111, 3) := by decide +kernel
theorem dX9_clear_4 : decode cX9_clear 4 = .ok (.istore_n 1, 1) := by decide +kernel
theorem dX9_clear_5 : decode cX9_clear 5 = .ok (.aload_n 0, 1) := by decide +kernel
theorem dX9_clear_6 : decode cX9_clear 6 = .ok (.iconst 0, 1) := by decide +kernel
theorem dX9_clear_7 : decode cX9_clear 7 = .ok (.putfield 111, 3) := by decide +kernel
theorem dX9_clear_10 : decode cX9_clear 10 = .ok (.iload_n 1, 1) := by decide +kernel
theorem dX9_clear_11 : decode cX9_clear 11 = .ok (.ireturn, 1) := by decide +kernel
set_option maxRecDepth 20000 in
theorem ggX9_isAt_X9_is : GoodIn wsX9_isAt wsX9_is := goodIn_r _ [7] (by decide +kernel) (by decide +kernel)
set_option maxRecDepth 20000 in
theorem gX9_isAt_X9_is : GoodIn wsX9_isAt (va_wsS RX9 65 yX9_is wsX9_is) := goodIn_app (goodIn_of _ (by decide +kernel)) ggX9_isAt_X9_is
theorem dX9_isAt_0 : decode cX9_isAt 0 = .ok (.aload_n 0, 1) := by decide +kernel
theorem dX9_isAt_1 : decode cX9_isAt 1 = .ok (.getfield 117, 3) := by decide +kernel
theorem dX9_isAt_4 : decode cX9_isAt 4 = .ok (.aload_n 0, 1) := by decide +kernel
theorem dX9_isAt_5 : decode cX9_isAt 5 = .ok (.getfield 111, 3) := by decide +kernel
theorem dX9_isAt_8 : decode cX9_isAt 8 = .ok (.if_icmp .ge 27, 3) := by decide +kernel
theorem dX9_isAt_11 : decode cX9_isAt 11 = .ok (.aload_n 0, 1) := by decide +kernel
theorem dX9_isAt_12 : decode cX9_isAt 12 = .ok (.getfield 26, 3) := by decide +kernel
theorem dX9_isAt_15 : decode cX9_isAt 15 = .ok (.aload_n 0, 1) := by decide +kernel
theorem dX9_isAt_16 : decode cX9_isAt 16 = .ok (.getfield 117, 3) := by decide +kernel
theorem dX9_isAt_19 : decode cX9_isAt 19 = .ok (.iaload, 1) := by decide +kernel
theorem dX9_isAt_20 : decode cX9_isAt 20 = .ok (.i2l, 1) := by decide +kernel
theorem dX9_isAt_21 : decode cX9_isAt 21 = .ok (.iload_n 1, 1) := by decide +kernel
theorem dX9_isAt_22 : decode cX9_isAt 22 = .ok (.i2l, 1) := by decide +kernel
theorem dX9_isAt_23 : decode cX9_isAt 23 = .ok (.iload_n 2, 1) := by decide +kernel
theorem dX9_isAt_24 : decode cX9_isAt 24 = .ok (.i2l, 1) := by decide +kernel
theorem dX9_isAt_25 : decode cX9_isAt 25 = .ok (.invokestatic 65, 3) := by decide +kernel
theorem dX9_isAt_28 : decode cX9_isAt 28 = .ok (.ifCond .eq 7, 3) := by decide +kernel
theorem dX9_isAt_31 : decode cX9_isAt 31 = .ok (.iconst 1, 1) := by decide +kernel
theorem dX9_isAt_32 : decode cX9_isAt 32 = .ok (.goto 4, 3) := by decide +kernel
theorem dX9_isAt_35 : decode cX9_isAt 35 = .ok (.iconst 0, 1) := by decide +kernel
theorem dX9_isAt_36 : decode cX9_isAt 36 = .ok (.ireturn, 1) := by decide +kernel
theorem dX9_verbOf_0 : decode cX9_verbOf 0 = .ok (.lload_n 0, 1) := by decide +kernel
theorem dX9_verbOf_1 : decode cX9_verbOf 1 = .ok (.ldc2_w 120, 3) := by decide +kernel
theorem dX9_verbOf_4 : decode cX9_verbOf 4 = .ok (.lcmp, 1) := by decide +kernel
theorem dX9_verbOf_5 : decode cX9_verbOf 5 = .ok (.ifCond .ne 7, 3) := by decide +kernel
theorem dX9_verbOf_8 : decode cX9_verbOf 8 = .ok (.iconst 0, 1) := by decide +kernel
theorem dX9_verbOf_9 : decode cX9_verbOf 9 = .ok (.goto 28, 3) := by decide +kernel
theorem dX9_verbOf_12 : decode cX9_verbOf 12 = .ok (.lload_n 0, 1) := by decide +kernel
theorem dX9_verbOf_13 : decode cX9_verbOf 13 = .ok (.ldc2_w 122, 3) := by decide +kernel
theorem dX9_verbOf_16 : decode cX9_verbOf 16 = .ok (.lcmp, 1) := by decide +kernel
theorem dX9_verbOf_17 : decode cX9_verbOf 17 = .ok (.ifCond .ne 7, 3) := by decide +kernel
theorem dX9_verbOf_20 : decode cX9_verbOf 20 = .ok (.iconst 1, 1) := by decide +kernel
theorem dX9_verbOf_21 : decode cX9_verbOf 21 = .ok (.goto 16, 3) := by decide +kernel
theorem dX9_verbOf_24 : decode cX9_verbOf 24 = .ok (.lload_n 0, 1) := by decide +kernel
theorem dX9_verbOf_25 : decode cX9_verbOf 25 = .ok (.ldc2_w 124, 3) := by decide +kernel
theorem dX9_verbOf_28 : decode cX9_verbOf 28 = .ok (.lcmp, 1) := by decide +kernel
theorem dX9_verbOf_29 : decode cX9_verbOf 29 = .ok (.ifCond .ne 7, 3) := by decide +kernel
theorem dX9_verbOf_32 : decode cX9_verbOf 32 = .ok (.iconst 2, 1) := by decide +kernel
theorem dX9_verbOf_33 : decode cX9_verbOf 33 = .ok (.goto 4, 3) := by decide +kernel
theorem dX9_verbOf_36 : decode cX9_verbOf 36 = .ok (.iconst (-1), 1) := by decide +kernel
theorem dX9_verbOf_37 : decode cX9_verbOf 37 = .ok (.istore_n 2, 1) := by decide +kernel
theorem dX9_verbOf_38 : decode cX9_verbOf 38 = .ok (.lload_n 0, 1) := by decide +kernel
theorem dX9_verbOf_39 : decode cX9_verbOf 39 = .ok (.ldc2_w 126, 3) := by decide +kernel
theorem dX9_verbOf_42 : decode cX9_verbOf 42 = .ok (.lcmp, 1) := by decide +kernel
theorem dX9_verbOf_43 : decode cX9_verbOf 43 = .ok (.ifCond .ne 7, 3) := by decide +kernel
theorem dX9_verbOf_46 : decode cX9_verbOf 46 = .ok (.iconst 3, 1) := by decide +kernel
theorem dX9_verbOf_47 : decode cX9_verbOf 47 = .ok (.goto 16, 3) := by decide +kernel
theorem dX9_verbOf_50 : decode cX9_verbOf 50 = .ok (.lload_n 0, 1) := by decide +kernel
theorem dX9_verbOf_51 : decode cX9_verbOf 51 = .ok (.ldc2_w 128, 3) := by decide +kernel
theorem dX9_verbOf_54 : decode cX9_verbOf 54 = .ok (.lcmp, 1) := by decide +kernel
theorem dX9_verbOf_55 : decode cX9_verbOf 55 = .ok (.ifCond .ne 7, 3) := by decide +kernel
theorem dX9_verbOf_58 : decode cX9_verbOf 58 = .ok (.iconst 4, 1) := by decide +kernel
theorem dX9_verbOf_59 : decode cX9_verbOf 59 = .ok (.goto 4, 3) := by decide +kernel
theorem dX9_verbOf_62 : decode cX9_verbOf 62 = .ok (.iconst (-1), 1) := by decide +kernel
theorem dX9_verbOf_63 : decode cX9_verbOf 63 = .ok (.istore_n 3, 1) := by decide +kernel
theorem dX9_verbOf_64 : decode cX9_verbOf 64 = .ok (.iload_n 2, 1) := by decide +kernel
theorem dX9_verbOf_65 : decode cX9_verbOf 65 = .ok (.iconst (-1), 1) := by decide +kernel
theorem dX9_verbOf_66 : decode cX9_verbOf 66 = .ok (.if_icmp .eq 7, 3) := by decide +kernel
theorem dX9_verbOf_69 : decode cX9_verbOf 69 = .ok (.iload_n 2, 1) := by decide +kernel
theorem dX9_verbOf_70 : decode cX9_verbOf 70 = .ok (.goto 4, 3) := by decide +kernel
theorem dX9_verbOf_73 : decode cX9_verbOf 73 = .ok (.iload_n 3, 1) := by decide +kernel
theorem dX9_verbOf_74 : decode cX9_verbOf 74 = .ok (.ireturn, 1) := by decide +kernel
set_option maxRecDepth 20000 in
theorem ggX9_scans_X9_isAt : GoodIn wsX9_scans wsX9_isAt := goodIn_r _ [13, 1, 3, 6, 14, 15, 12, 16, 25, 26, 27, 28, 29, 30, 31, 32, 33, 34, 35, 36, 37, 38, 39, 40, 41, 42, 43, 44, 45, 46, 47] (by decide +kernel) (by decide +kernel)
set_option maxRecDepth 20000 in
theorem gX9_scans_X9_isAt : GoodIn wsX9_scans (wsV RX9 130 RX9 yX9_isAt wsX9_isAt) := goodIn_app (goodIn_of _ (by decide +kernel)) ggX9_scans_X9_isAt
set_option maxRecDepth 20000 in
theorem ggX9_scans_X9_verbOf : GoodIn wsX9_scans wsX9_verbOf := goodIn_r _ [19, 20, 21, 22, 23, 24] (by decide +kernel) (by decide +kernel)
set_option maxRecDepth 20000 in
theorem gX9_scans_X9_verbOf : GoodIn wsX9_scans (va_wsS RX9 144 yX9_verbOf wsX9_verbOf) := goodIn_app (goodIn_of _ (by decide +kernel)) ggX9_scans_X9_verbOf
theorem dX9_scans_0 : decode cX9_scans 0 = .ok (.aload_n 0, 1) := by decide +kernel
theorem dX9_scans_1 : decode cX9_scans 1 = .ok (.bipush 32, 2) := by decide +kernel
theorem dX9_scans_3 : decode cX9_scans 3 = .ok (.bipush 32, 2) := by decide +kernel
theorem dX9_scans_5 : decode cX9_scans 5 = .ok (.invokevirtual 130, 3) := by decide +kernel
theorem dX9_scans_8 : decode cX9_scans 8 = .ok (.ifCond .eq 16, 3) := by decide +kernel
theorem dX9_scans_11 : decode cX9_scans 11 = .ok (.aload_n 0, 1) := by decide +kernel
theorem dX9_scans_12 : decode cX9_scans 12 = .ok (.dup, 1) := by decide +kernel
theorem dX9_scans_13 : decode cX9_scans 13 = .ok (.getfield 117, 3) := by decide +kernel
theorem dX9_scans_16 : decode cX9_scans 16 = .ok (.iconst 1, 1) := by decide +kernel
theorem dX9_scans_17 : decode cX9_scans 17 = .ok (.iadd, 1) := by decide +kernel
theorem dX9_scans_18 : decode cX9_scans 18 = .ok (.putfield 117, 3) := by decide +kernel
theorem dX9_scans_21 : decode cX9_scans 21 = .ok (.goto (-21), 3) := by decide +kernel
theorem dX9_scans_24 : decode cX9_scans 24 = .ok (.aload_n 0, 1) := by decide +kernel
theorem dX9_scans_25 : decode cX9_scans 25 = .ok (.aload_n 0, 1) := by decide +kernel
theorem dX9_scans_26 : decode cX9_scans 26 = .ok (.getfield 117, 3) := by decide +kernel
theorem dX9_scans_29 : decode cX9_scans 29 = .ok (.putfield 134, 3) := by decide +kernel
theorem dX9_scans_32 : decode cX9_scans 32 = .ok (.aload_n 0, 1) := by decide +kernel
theorem dX9_scans_33 : decode cX9_scans 33 = .ok (.getfield 117, 3) := by decide +kernel
theorem dX9_scans_36 : decode cX9_scans 36 = .ok (.aload_n 0, 1) := by decide +kernel
theorem dX9_scans_37 : decode cX9_scans 37 = .ok (.getfield 111, 3) := by decide +kernel
theorem dX9_scans_40 : decode cX9_scans 40 = .ok (.if_icmp .ne 9, 3) := by decide +kernel
theorem dX9_scans_43 : decode cX9_scans 43 = .ok (.aload_n 0, 1) := by decide +kernel
theorem dX9_scans_44 : decode cX9_scans 44 = .ok (.iconst 0, 1) := by decide +kernel
theorem dX9_scans_45 : decode cX9_scans 45 = .ok (.putfield 137, 3) := by decide +kernel
theorem dX9_scans_48 : decode cX9_scans 48 = .ok (.return_, 1) := by decide +kernel
theorem dX9_scans_49 : decode cX9_scans 49 = .ok (.aload_n 0, 1) := by decide +kernel
theorem dX9_scans_50 : decode cX9_scans 50 = .ok (.bipush 97, 2) := by decide +kernel
theorem dX9_scans_52 : decode cX9_scans 52 = .ok (.bipush 122, 2) := by decide +kernel
theorem dX9_scans_54 : decode cX9_scans 54 = .ok (.invokevirtual 130, 3) := by decide +kernel
theorem dX9_scans_57 : decode cX9_scans 57 = .ok (.ifCond .eq 107, 3) := by decide +kernel
theorem dX9_scans_60 : decode cX9_scans 60 = .ok (.lconst 0, 1) := by decide +kernel
theorem dX9_scans_61 : decode cX9_scans 61 = .ok (.lstore_n 1, 1) := by decide +kernel
theorem dX9_scans_62 : decode cX9_scans 62 = .ok (.aload_n 0, 1) := by decide +kernel
theorem dX9_scans_63 : decode cX9_scans 63 = .ok (.bipush 97, 2) := by decide +kernel
theorem dX9_scans_65 : decode cX9_scans 65 = .ok (.bipush 122, 2) := by decide +kernel
theorem dX9_scans_67 : decode cX9_scans 67 = .ok (.invokevirtual 130, 3) := by decide +kernel
theorem dX9_scans_70 : decode cX9_scans 70 = .ok (.ifCond .eq 57, 3) := by decide +kernel
theorem dX9_scans_73 : decode cX9_scans 73 = .ok (.aload_n 0, 1) := by decide +kernel
theorem dX9_scans_74 : decode cX9_scans 74 = .ok (.getfield 117, 3) := by decide +kernel
theorem dX9_scans_77 : decode cX9_scans 77 = .ok (.aload_n 0, 1) := by decide +kernel
theorem dX9_scans_78 : decode cX9_scans 78 = .ok (.getfield 134, 3) := by decide +kernel
theorem dX9_scans_81 : decode cX9_scans 81 = .ok (.isub, 1) := by decide +kernel
theorem dX9_scans_82 : decode cX9_scans 82 = .ok (.bipush 6, 2) := by decide +kernel
theorem dX9_scans_84 : decode cX9_scans 84 = .ok (.if_icmp .le 7, 3) := by decide +kernel
theorem dX9_scans_87 : decode cX9_scans 87 = .ok (.lconst 0, 1) := by decide +kernel
theorem dX9_scans_88 : decode cX9_scans 88 = .ok (.goto 25, 3) := by decide +kernel
theorem dX9_scans_91 : decode cX9_scans 91 = .ok (.ldc2_w 140, 3) := by decide +kernel
theorem dX9_scans_94 : decode cX9_scans 94 = .ok (.lload_n 1, 1) := by decide +kernel
theorem dX9_scans_95 : decode cX9_scans 95 = .ok (.lmul, 1) := by decide +kernel
theorem dX9_scans_96 : decode cX9_scans 96 = .ok (.aload_n 0, 1) := by decide +kernel
theorem dX9_scans_97 : decode cX9_scans 97 = .ok (.getfield 26, 3) := by decide +kernel
theorem dX9_scans_100 : decode cX9_scans 100 = .ok (.aload_n 0, 1) := by decide +kernel
theorem dX9_scans_101 : decode cX9_scans 101 = .ok (.getfield 117, 3) := by decide +kernel
theorem dX9_scans_104 : decode cX9_scans 104 = .ok (.iaload, 1) := by decide +kernel
theorem dX9_scans_105 : decode cX9_scans 105 = .ok (.i2l, 1) := by decide +kernel
theorem dX9_scans_106 : decode cX9_scans 106 = .ok (.ladd, 1) := by decide +kernel
theorem dX9_scans_107 : decode cX9_scans 107 = .ok (.ldc2_w 142, 3) := by decide +kernel
theorem dX9_scans_110 : decode cX9_scans 110 = .ok (.lsub, 1) := by decide +kernel
theorem dX9_scans_111 : decode cX9_scans 111 = .ok (.lconst 1, 1) := by decide +kernel
theorem dX9_scans_112 : decode cX9_scans 112 = .ok (.ladd, 1) := by decide +kernel
theorem dX9_scans_113 : decode cX9_scans 113 = .ok (.lstore_n 1, 1) := by decide +kernel
theorem dX9_scans_114 : decode cX9_scans 114 = .ok (.aload_n 0, 1) := by decide +kernel
theorem dX9_scans_115 : decode cX9_scans 115 = .ok (.dup, 1) := by decide +kernel
theorem dX9_scans_116 : decode cX9_scans 116 = .ok (.getfield 117, 3) := by decide +kernel
theorem dX9_scans_119 : decode cX9_scans 119 = .ok (.iconst 1, 1) := by decide +kernel
theorem dX9_scans_120 : decode cX9_scans 120 = .ok (.iadd, 1) := by decide +kernel
theorem dX9_scans_121 : decode cX9_scans 121 = .ok (.putfield 117, 3) := by decide +kernel
theorem dX9_scans_124 : decode cX9_scans 124 = .ok (.goto (-62), 3) := by decide +kernel
theorem dX9_scans_127 : decode cX9_scans 127 = .ok (.aload_n 0, 1) := by decide +kernel
theorem dX9_scans_128 : decode cX9_scans 128 = .ok (.aload_n 0, 1) := by decide +kernel
theorem dX9_scans_129 : decode cX9_scans 129 = .ok (.getfield 117, 3) := by decide +kernel
theorem dX9_scans_132 : decode cX9_scans 132 = .ok (.aload_n 0, 1) := by decide +kernel
theorem dX9_scans_133 : decode cX9_scans 133 = .ok (.getfield 134, 3) := by decide +kernel
theorem dX9_scans_136 : decode cX9_scans 136 = .ok (.isub, 1) := by decide +kernel
theorem dX9_scans_137 : decode cX9_scans 137 = .ok (.bipush 6, 2) := by decide +kernel
theorem dX9_scans_139 : decode cX9_scans 139 = .ok (.if_icmp .gt 11, 3) := by decide +kernel
theorem dX9_scans_142 : decode cX9_scans 142 = .ok (.lload_n 1, 1) := by decide +kernel
theorem dX9_scans_143 : decode cX9_scans 143 = .ok (.invokestatic 144, 3) := by decide +kernel
theorem dX9_scans_146 : decode cX9_scans 146 = .ok (.iconst (-1), 1) := by decide +kernel
theorem dX9_scans_147 : decode cX9_scans 147 = .ok (.if_icmp .ne 7, 3) := by decide +kernel
theorem dX9_scans_150 : decode cX9_scans 150 = .ok (.iconst 1, 1) := by decide +kernel
theorem dX9_scans_151 : decode cX9_scans 151 = .ok (.goto 9, 3) := by decide +kernel
theorem dX9_scans_154 : decode cX9_scans 154 = .ok (.iconst 4, 1) := by decide +kernel
theorem dX9_scans_155 : decode cX9_scans 155 = .ok (.lload_n 1, 1) := by decide +kernel
theorem dX9_scans_156 : decode cX9_scans 156 = .ok (.invokestatic 144, 3) := by decide +kernel
theorem dX9_scans_159 : decode cX9_scans 159 = .ok (.iadd, 1) := by decide +kernel
theorem dX9_scans_160 : decode cX9_scans 160 = .ok (.putfield 137, 3) := by decide +kernel
theorem dX9_scans_163 : decode cX9_scans 163 = .ok (.return_, 1) := by decide +kernel
theorem dX9_scans_164 : decode cX9_scans 164 = .ok (.aload_n 0, 1) := by decide +kernel
theorem dX9_scans_165 : decode cX9_scans 165 = .ok (.bipush 48, 2) := by decide +kernel
theorem dX9_scans_167 : decode cX9_scans 167 = .ok (.bipush 57, 2) := by decide +kernel
theorem dX9_scans_169 : decode cX9_scans 169 = .ok (.invokevirtual 130, 3) := by decide +kernel
theorem dX9_scans_172 : decode cX9_scans 172 = .ok (.ifCond .eq 99, 3) := by decide +kernel
theorem dX9_scans_175 : decode cX9_scans 175 = .ok (.aload_n 0, 1) := by decide +kernel
theorem dX9_scans_176 : decode cX9_scans 176 = .ok (.iconst 0, 1) := by decide +kernel
theorem dX9_scans_177 : decode cX9_scans 177 = .ok (.putfield 148, 3) := by decide +kernel
theorem dX9_scans_180 : decode cX9_scans 180 = .ok (.aload_n 0, 1) := by decide +kernel
theorem dX9_scans_181 : decode cX9_scans 181 = .ok (.bipush 48, 2) := by decide +kernel
theorem dX9_scans_183 : decode cX9_scans 183 = .ok (.bipush 57, 2) := by decide +kernel
theorem dX9_scans_185 : decode cX9_scans 185 = .ok (.invokevirtual 130, 3) := by decide +kernel
theorem dX9_scans_188 : decode cX9_scans 188 = .ok (.ifCond .eq 60, 3) := by decide +kernel
theorem dX9_scans_191 : decode cX9_scans 191 = .ok (.aload_n 0, 1) := by decide +kernel
theorem dX9_scans_192 : decode cX9_scans 192 = .ok (.aload_n 0, 1) := by decide +kernel
theorem dX9_scans_193 : decode cX9_scans 193 = .ok (.getfield 117, 3) := by decide +kernel
theorem dX9_scans_196 : decode cX9_scans 196 = .ok (.aload_n 0, 1) := by decide +kernel
theorem dX9_scans_197 : decode cX9_scans 197 = .ok (.getfield 134, 3) := by decide +kernel
theorem dX9_scans_200 : decode cX9_scans 200 = .ok (.isub, 1) := by decide +kernel
theorem dX9_scans_201 : decode cX9_scans 201 = .ok (.iconst 3, 1) := by decide +kernel
theorem dX9_scans_202 : decode cX9_scans 202 = .ok (.if_icmp .ge 26, 3) := by decide +kernel
theorem dX9_scans_205 : decode cX9_scans 205 = .ok (.bipush 10, 2) := by decide +kernel
theorem dX9_scans_207 : decode cX9_scans 207 = .ok (.aload_n 0, 1) := by decide +kernel
theorem dX9_scans_208 : decode cX9_scans 208 = .ok (.getfield 148, 3) := by decide +kernel
theorem dX9_scans_211 : decode cX9_scans 211 = .ok (.imul, 1) := by decide +kernel
theorem dX9_scans_212 : decode cX9_scans 212 = .ok (.aload_n 0, 1) := by decide +kernel
theorem dX9_scans_213 : decode cX9_scans 213 = .ok (.getfield 26, 3) := by decide +kernel
theorem dX9_scans_216 : decode cX9_scans 216 = .ok (.aload_n 0, 1) := by decide +kernel
theorem dX9_scans_217 : decode cX9_scans 217 = .ok (.getfield 117, 3) := by decide +kernel
theorem dX9_scans_220 : decode cX9_scans 220 = .ok (.iaload, 1) := by decide +kernel
theorem dX9_scans_221 : decode cX9_scans 221 = .ok (.iadd, 1) := by decide +kernel
theorem dX9_scans_222 : decode cX9_scans 222 = .ok (.bipush 48, 2) := by decide +kernel
theorem dX9_scans_224 : decode cX9_scans 224 = .ok (.isub, 1) := by decide +kernel
theorem dX9_scans_225 : decode cX9_scans 225 = .ok (.goto 7, 3) := by decide +kernel
theorem dX9_scans_228 : decode cX9_scans 228 = .ok (.aload_n 0, 1) := by decide +kernel
theorem dX9_scans_229 : decode cX9_scans 229 = .ok (.getfield 148, 3) := by decide +kernel
theorem dX9_scans_232 : decode cX9_scans 232 = .ok (.putfield 148, 3) := by decide +kernel
theorem dX9_scans_235 : decode cX9_scans 235 = .ok (.aload_n 0, 1) := by decide +kernel
theorem dX9_scans_236 : decode cX9_scans 236 = .ok (.dup, 1) := by decide +kernel
theorem dX9_scans_237 : decode cX9_scans 237 = .ok (.getfield 117, 3) := by decide +kernel
theorem dX9_scans_240 : decode cX9_scans 240 = .ok (.iconst 1, 1) := by decide +kernel
theorem dX9_scans_241 : decode cX9_scans 241 = .ok (.iadd, 1) := by decide +kernel
theorem dX9_scans_242 : decode cX9_scans 242 = .ok (.putfield 117, 3) := by decide +kernel
theorem dX9_scans_245 : decode cX9_scans 245 = .ok (.goto (-65), 3) := by decide +kernel
theorem dX9_scans_248 : decode cX9_scans 248 = .ok (.aload_n 0, 1) := by decide +kernel
theorem dX9_scans_249 : decode cX9_scans 249 = .ok (.aload_n 0, 1) := by decide +kernel
theorem dX9_scans_250 : decode cX9_scans 250 = .ok (.getfield 117, 3) := by decide +kernel
theorem dX9_scans_253 : decode cX9_scans 253 = .ok (.aload_n 0, 1) := by decide +kernel
theorem dX9_scans_254 : decode cX9_scans 254 = .ok (.getfield 134, 3) := by decide +kernel
theorem dX9_scans_257 : decode cX9_scans 257 = .ok (.isub, 1) := by decide +kernel
theorem dX9_scans_258 : decode cX9_scans 258 = .ok (.iconst 3, 1) := by decide +kernel
theorem dX9_scans_259 : decode cX9_scans 259 = .ok (.if_icmp .le 7, 3) := by decide +kernel
theorem dX9_scans_262 : decode cX9_scans 262 = .ok (.iconst 1, 1) := by decide +kernel
theorem dX9_scans_263 : decode cX9_scans 263 = .ok (.goto 4, 3) := by decide +kernel
theorem dX9_scans_266 : decode cX9_scans 266 = .ok (.iconst 2, 1) := by decide +kernel
theorem dX9_scans_267 : decode cX9_scans 267 = .ok (.putfield 137, 3) := by decide +kernel
theorem dX9_scans_270 : decode cX9_scans 270 = .ok (.return_, 1) := by decide +kernel
theorem dX9_scans_271 : decode cX9_scans 271 = .ok (.aload_n 0, 1) := by decide +kernel
theorem dX9_scans_272 : decode cX9_scans 272 = .ok (.aload_n 0, 1) := by decide +kernel
theorem dX9_scans_273 : decode cX9_scans 273 = .ok (.bipush 59, 2) := by decide +kernel
theorem dX9_scans_275 : decode cX9_scans 275 = .ok (.bipush 59, 2) := by decide +kernel
theorem dX9_scans_277 : decode cX9_scans 277 = .ok (.invokevirtual 130, 3) := by decide +kernel
theorem dX9_scans_280 : decode cX9_scans 280 = .ok (.ifCond .eq 7, 3) := by decide +kernel
theorem dX9_scans_283 : decode cX9_scans 283 = .ok (.iconst 3, 1) := by decide +kernel
theorem dX9_scans_284 : decode cX9_scans 284 = .ok (.goto 4, 3) := by decide +kernel
theorem dX9_scans_287 : decode cX9_scans 287 = .ok (.iconst 1, 1) := by decide +kernel
theorem dX9_scans_288 : decode cX9_scans 288 = .ok (.putfield 137, 3) := by decide +kernel
theorem dX9_scans_291 : decode cX9_scans 291 = .ok (.aload_n 0, 1) := by decide +kernel
theorem dX9_scans_292 : decode cX9_scans 292 = .ok (.dup, 1) := by decide +kernel
theorem dX9_scans_293 : decode cX9_scans 293 = .ok (.getfield 117, 3) := by decide +kernel
theorem dX9_scans_296 : decode cX9_scans 296 = .ok (.iconst 1, 1) := by decide +kernel
theorem dX9_scans_297 : decode cX9_scans 297 = .ok (.iadd, 1) := by decide +kernel
theorem dX9_scans_298 : decode cX9_scans 298 = .ok (.putfield 117, 3) := by decide +kernel
theorem dX9_scans_301 : decode cX9_scans 301 = .ok (.return_, 1) := by decide +kernel
theorem dX9_numbers_0 : decode cX9_numbers 0 = .ok (.iload_n 0, 1) := by decide +kernel
theorem dX9_numbers_1 : decode cX9_numbers 1 = .ok (.iconst 2, 1) := by decide +kernel
theorem dX9_numbers_2 : decode cX9_numbers 2 = .ok (.if_icmp .ge 7, 3) := by decide +kernel
theorem dX9_numbers_5 : decode cX9_numbers 5 = .ok (.iconst 3, 1) := by decide +kernel
theorem dX9_numbers_6 : decode cX9_numbers 6 = .ok (.goto 13, 3) := by decide +kernel
theorem dX9_numbers_9 : decode cX9_numbers 9 = .ok (.iload_n 0, 1) := by decide +kernel
theorem dX9_numbers_10 : decode cX9_numbers 10 = .ok (.iconst 4, 1) := by decide +kernel
theorem dX9_numbers_11 : decode cX9_numbers 11 = .ok (.if_icmp .ge 7, 3) := by decide +kernel
theorem dX9_numbers_14 : decode cX9_numbers 14 = .ok (.iconst 4, 1) := by decide +kernel
theorem dX9_numbers_15 : decode cX9_numbers 15 = .ok (.goto 4, 3) := by decide +kernel
theorem dX9_numbers_18 : decode cX9_numbers 18 = .ok (.iconst 2, 1) := by decide +kernel
theorem dX9_numbers_19 : decode cX9_numbers 19 = .ok (.ireturn, 1) := by decide +kernel
set_option maxRecDepth 20000 in
theorem ggX9_reads_X9_scans : GoodIn wsX9_reads wsX9_scans := goodIn_r _ [10, 1, 11, 12, 3, 13, 14, 15, 5, 16, 17, 18, 9, 19, 20, 21, 22, 23, 24, 25, 26, 27, 28, 29, 30, 34, 35, 36, 37, 38, 39, 40, 41, 42, 43, 44, 45, 46, 47, 48, 49, 50, 51, 52, 53, 54, 55, 56] (by decide +kernel) (by decide +kernel)
set_option maxRecDepth 20000 in
theorem gX9_reads_X9_scans : GoodIn wsX9_reads (wsV RX9 154 RX9 yX9_scans wsX9_scans) := goodIn_app (goodIn_of _ (by decide +kernel)) ggX9_reads_X9_scans
set_option maxRecDepth 20000 in
theorem ggX9_reads_X9_numbers : GoodIn wsX9_reads wsX9_numbers := goodIn_r _ [33] (by decide +kernel) (by decide +kernel)
set_option maxRecDepth 20000 in
theorem gX9_reads_X9_numbers : GoodIn wsX9_reads (va_wsS RX9 157 yX9_numbers wsX9_numbers) := goodIn_app (goodIn_of _ (by decide +kernel)) ggX9_reads_X9_numbers
theorem dX9_reads_0 : decode cX9_reads 0 = .ok (.aload_n 0, 1) := by decide +kernel
theorem dX9_reads_1 : decode cX9_reads 1 = .ok (.iconst 0, 1) := by decide +kernel
theorem dX9_reads_2 : decode cX9_reads 2 = .ok (.putfield 117, 3) := by decide +kernel
theorem dX9_reads_5 : decode cX9_reads 5 = .ok (.aload_n 0, 1) := by decide +kernel
theorem dX9_reads_6 : decode cX9_reads 6 = .ok (.iconst 0, 1) := by decide +kernel
theorem dX9_reads_7 : decode cX9_reads 7 = .ok (.putfield 151, 3) := by decide +kernel
theorem dX9_reads_10 : decode cX9_reads 10 = .ok (.aload_n 0, 1) := by decide +kernel
theorem dX9_reads_11 : decode cX9_reads 11 = .ok (.invokevirtual 154, 3) := by decide +kernel
theorem dX9_reads_14 : decode cX9_reads 14 = .ok (.aload_n 0, 1) := by decide +kernel
theorem dX9_reads_15 : decode cX9_reads 15 = .ok (.getfield 137, 3) := by decide +kernel
theorem dX9_reads_18 : decode cX9_reads 18 = .ok (.ifCond .eq 108, 3) := by decide +kernel
theorem dX9_reads_21 : decode cX9_reads 21 = .ok (.aload_n 0, 1) := by decide +kernel
theorem dX9_reads_22 : decode cX9_reads 22 = .ok (.getfield 137, 3) := by decide +kernel
theorem dX9_reads_25 : decode cX9_reads 25 = .ok (.iconst 4, 1) := by decide +kernel
theorem dX9_reads_26 : decode cX9_reads 26 = .ok (.isub, 1) := by decide +kernel
theorem dX9_reads_27 : decode cX9_reads 27 = .ok (.istore_n 1, 1) := by decide +kernel
theorem dX9_reads_28 : decode cX9_reads 28 = .ok (.iload_n 1, 1) := by decide +kernel
theorem dX9_reads_29 : decode cX9_reads 29 = .ok (.ifCond .ge 5, 3) := by decide +kernel
theorem dX9_reads_32 : decode cX9_reads 32 = .ok (.iconst 0, 1) := by decide +kernel
theorem dX9_reads_33 : decode cX9_reads 33 = .ok (.ireturn, 1) := by decide +kernel
theorem dX9_reads_34 : decode cX9_reads 34 = .ok (.aload_n 0, 1) := by decide +kernel
theorem dX9_reads_35 : decode cX9_reads 35 = .ok (.getfield 29, 3) := by decide +kernel
theorem dX9_reads_38 : decode cX9_reads 38 = .ok (.iconst 5, 1) := by decide +kernel
theorem dX9_reads_39 : decode cX9_reads 39 = .ok (.aload_n 0, 1) := by decide +kernel
theorem dX9_reads_40 : decode cX9_reads 40 = .ok (.getfield 151, 3) := by decide +kernel
theorem dX9_reads_43 : decode cX9_reads 43 = .ok (.imul, 1) := by decide +kernel
theorem dX9_reads_44 : decode cX9_reads 44 = .ok (.iload_n 1, 1) := by decide +kernel
theorem dX9_reads_45 : decode cX9_reads 45 = .ok (.iastore, 1) := by decide +kernel
theorem dX9_reads_46 : decode cX9_reads 46 = .ok (.aload_n 0, 1) := by decide +kernel
theorem dX9_reads_47 : decode cX9_reads 47 = .ok (.invokevirtual 154, 3) := by decide +kernel
theorem dX9_reads_50 : decode cX9_reads 50 = .ok (.iconst 0, 1) := by decide +kernel
theorem dX9_reads_51 : decode cX9_reads 51 = .ok (.istore_n 2, 1) := by decide +kernel
theorem dX9_reads_52 : decode cX9_reads 52 = .ok (.iload_n 2, 1) := by decide +kernel
theorem dX9_reads_53 : decode cX9_reads 53 = .ok (.iload_n 1, 1) := by decide +kernel
theorem dX9_reads_54 : decode cX9_reads 54 = .ok (.invokestatic 157, 3) := by decide +kernel
theorem dX9_reads_57 : decode cX9_reads 57 = .ok (.if_icmp .ge 42, 3) := by decide +kernel
theorem dX9_reads_60 : decode cX9_reads 60 = .ok (.aload_n 0, 1) := by decide +kernel
theorem dX9_reads_61 : decode cX9_reads 61 = .ok (.getfield 137, 3) := by decide +kernel
theorem dX9_reads_64 : decode cX9_reads 64 = .ok (.iconst 2, 1) := by decide +kernel
theorem dX9_reads_65 : decode cX9_reads 65 = .ok (.if_icmp .eq 5, 3) := by decide +kernel
theorem dX9_reads_68 : decode cX9_reads 68 = .ok (.iconst 0, 1) := by decide +kernel
theorem dX9_reads_69 : decode cX9_reads 69 = .ok (.ireturn, 1) := by decide +kernel
theorem dX9_reads_70 : decode cX9_reads 70 = .ok (.aload_n 0, 1) := by decide +kernel
theorem dX9_reads_71 : decode cX9_reads 71 = .ok (.getfield 29, 3) := by decide +kernel
theorem dX9_reads_74 : decode cX9_reads 74 = .ok (.iconst 5, 1) := by decide +kernel
theorem dX9_reads_75 : decode cX9_reads 75 = .ok (.aload_n 0, 1) := by decide +kernel
theorem dX9_reads_76 : decode cX9_reads 76 = .ok (.getfield 151, 3) := by decide +kernel
theorem dX9_reads_79 : decode cX9_reads 79 = .ok (.imul, 1) := by decide +kernel
theorem dX9_reads_80 : decode cX9_reads 80 = .ok (.iconst 1, 1) := by decide +kernel
theorem dX9_reads_81 : decode cX9_reads 81 = .ok (.iadd, 1) := by decide +kernel
theorem dX9_reads_82 : decode cX9_reads 82 = .ok (.iload_n 2, 1) := by decide +kernel
theorem dX9_reads_83 : decode cX9_reads 83 = .ok (.iadd, 1) := by decide +kernel
theorem dX9_reads_84 : decode cX9_reads 84 = .ok (.aload_n 0, 1) := by decide +kernel
theorem dX9_reads_85 : decode cX9_reads 85 = .ok (.getfield 148, 3) := by decide +kernel
theorem dX9_reads_88 : decode cX9_reads 88 = .ok (.iastore, 1) := by decide +kernel
theorem dX9_reads_89 : decode cX9_reads 89 = .ok (.aload_n 0, 1) := by decide +kernel
theorem dX9_reads_90 : decode cX9_reads 90 = .ok (.invokevirtual 154, 3) := by decide +kernel
theorem dX9_reads_93 : decode cX9_reads 93 = .ok (.iinc 2 1, 3) := by decide +kernel
theorem dX9_reads_96 : decode cX9_reads 96 = .ok (.goto (-44), 3) := by decide +kernel
theorem dX9_reads_99 : decode cX9_reads 99 = .ok (.aload_n 0, 1) := by decide +kernel
theorem dX9_reads_100 : decode cX9_reads 100 = .ok (.getfield 137, 3) := by decide +kernel
theorem dX9_reads_103 : decode cX9_reads 103 = .ok (.iconst 3, 1) := by decide +kernel
theorem dX9_reads_104 : decode cX9_reads 104 = .ok (.if_icmp .eq 5, 3) := by decide +kernel
theorem dX9_reads_107 : decode cX9_reads 107 = .ok (.iconst 0, 1) := by decide +kernel
theorem dX9_reads_108 : decode cX9_reads 108 = .ok (.ireturn, 1) := by decide +kernel
theorem dX9_reads_109 : decode cX9_reads 109 = .ok (.aload_n 0, 1) := by decide +kernel
theorem dX9_reads_110 : decode cX9_reads 110 = .ok (.dup, 1) := by decide +kernel
theorem dX9_reads_111 : decode cX9_reads 111 = .ok (.getfield 151, 3) := by decide +kernel
theorem dX9_reads_114 : decode cX9_reads 114 = .ok (.iconst 1, 1) := by decide +kernel
theorem dX9_reads_115 : decode cX9_reads 115 = .ok (.iadd, 1) := by decide +kernel
theorem dX9_reads_116 : decode cX9_reads 116 = .ok (.putfield 151, 3) := by decide +kernel
theorem dX9_reads_119 : decode cX9_reads 119 = .ok (.aload_n 0, 1) := by decide +kernel
theorem dX9_reads_120 : decode cX9_reads 120 = .ok (.invokevirtual 154, 3) := by decide +kernel
theorem dX9_reads_123 : decode cX9_reads 123 = .ok (.goto (-109), 3) := by decide +kernel
theorem dX9_reads_126 : decode cX9_reads 126 = .ok (.iconst 1, 1) := by decide +kernel
theorem dX9_reads_127 : decode cX9_reads 127 = .ok (.ireturn, 1) := by decide +kernel
set_option maxRecDepth 20000 in
theorem ggX9_tellsItem_X9_term : GoodIn wsX9_tellsItem wsX9_term := goodIn_r _ [6, 7, 8, 9, 10, 11, 12, 5, 13, 14, 15, 16, 17, 18, 19, 20, 21, 22, 23, 24, 25, 26, 27, 60, 61, 62, 63, 64, 65, 66, 67, 68, 69, 70, 71, 72, 73, 74, 75, 76, 77, 78, 79, 80, 81, 82] (by decide +kernel) (by decide +kernel)
set_option maxRecDepth 20000 in
theorem gX9_tellsItem_X9_term : GoodIn wsX9_tellsItem (wsV RX9 160 RX9 yX9_term wsX9_term) := goodIn_app (goodIn_of _ (by decide +kernel)) ggX9_tellsItem_X9_term
set_option maxRecDepth 20000 in
theorem ggX9_tellsItem_X9_rule : GoodIn wsX9_tellsItem wsX9_rule := goodIn_r _ [31, 10, 32, 33, 34, 5, 35, 11, 12, 13, 14, 15, 16, 17, 18, 19, 20, 21, 22, 23, 24, 25, 26, 27, 60, 61, 62, 63, 64, 65, 66, 67, 68, 69, 70, 71, 72, 73, 74, 75, 76, 77, 78, 79, 80, 81, 82] (by decide +kernel) (by decide +kernel)
set_option maxRecDepth 20000 in
theorem gX9_tellsItem_X9_rule : GoodIn wsX9_tellsItem (wsV RX9 164 RX9 yX9_rule wsX9_rule) := goodIn_app (goodIn_of _ (by decide +kernel)) ggX9_tellsItem_X9_rule
set_option maxRecDepth 20000 in
theorem ggX9_tellsItem_X9_loan : GoodIn wsX9_tellsItem wsX9_loan := goodIn_r _ [39, 40, 10, 41, 42, 5, 43, 44, 11, 12, 13, 32, 33, 34, 35, 14, 15, 16, 17, 18, 19, 20, 21, 22, 23, 24, 25, 26, 27, 60, 61, 62, 63, 64, 65, 66, 67, 68, 69, 70, 71, 72, 73, 74, 75, 76, 77, 78, 79, 80, 81, 82] (by decide +kernel) (by decide +kernel)
set_option maxRecDepth 20000 in
theorem gX9_tellsItem_X9_loan : GoodIn wsX9_tellsItem (wsV RX9 167 RX9 yX9_loan wsX9_loan) := goodIn_app (goodIn_of _ (by decide +kernel)) ggX9_tellsItem_X9_loan
set_option maxRecDepth 20000 in
theorem ggX9_tellsItem_X9_want : GoodIn wsX9_tellsItem wsX9_want := goodIn_r _ [48, 8, 40, 10, 41, 42, 5, 43, 44, 11, 12, 13, 49, 50, 51, 52, 53, 54, 55, 14, 15, 16, 17, 18, 19, 20, 21, 22, 23, 24, 25, 26, 27, 60, 61, 62, 63, 64, 65, 66, 67, 68, 69, 70, 71, 72, 73, 74, 75, 76, 77, 78, 79, 80, 81, 82] (by decide +kernel) (by decide +kernel)
set_option maxRecDepth 20000 in
theorem gX9_tellsItem_X9_want : GoodIn wsX9_tellsItem (wsV RX9 170 RX9 yX9_want wsX9_want) := goodIn_app (goodIn_of _ (by decide +kernel)) ggX9_tellsItem_X9_want
set_option maxRecDepth 20000 in
theorem ggX9_tellsItem_X9_saying : GoodIn wsX9_tellsItem wsX9_saying := goodIn_r _ [59, 9, 10, 49, 50, 51, 5, 52, 11, 12, 13, 14, 15, 16, 17, 18, 19, 20, 21, 22, 23, 24, 25, 26, 27, 60, 61, 62, 63, 64, 65, 66, 67, 68, 69, 70, 71, 72, 73, 74, 75, 76, 77, 78, 79, 80, 81, 82] (by decide +kernel) (by decide +kernel)
set_option maxRecDepth 20000 in
theorem gX9_tellsItem_X9_saying : GoodIn wsX9_tellsItem (wsV RX9 173 RX9 yX9_saying wsX9_saying) := goodIn_app (goodIn_of _ (by decide +kernel)) ggX9_tellsItem_X9_saying
theorem dX9_tellsItem_0 : decode cX9_tellsItem 0 = .ok (.aload_n 0, 1) := by decide +kernel
theorem dX9_tellsItem_1 : decode cX9_tellsItem 1 = .ok (.getfield 29, 3) := by decide +kernel
theorem dX9_tellsItem_4 : decode cX9_tellsItem 4 = .ok (.iconst 5, 1) := by decide +kernel
theorem dX9_tellsItem_5 : decode cX9_tellsItem 5 = .ok (.iload_n 1, 1) := by decide +kernel
theorem dX9_tellsItem_6 : decode cX9_tellsItem 6 = .ok (.imul, 1) := by decide +kernel
theorem dX9_tellsItem_7 : decode cX9_tellsItem 7 = .ok (.iconst 1, 1) := by decide +kernel
theorem dX9_tellsItem_8 : decode cX9_tellsItem 8 = .ok (.iadd, 1) := by decide +kernel
theorem dX9_tellsItem_9 : decode cX9_tellsItem 9 = .ok (.iaload, 1) := by decide +kernel
theorem dX9_tellsItem_10 : decode cX9_tellsItem 10 = .ok (.istore_n 2, 1) := by decide +kernel
theorem dX9_tellsItem_11 : decode cX9_tellsItem 11 = .ok (.aload_n 0, 1) := by decide +kernel
theorem dX9_tellsItem_12 : decode cX9_tellsItem 12 = .ok (.getfield 29, 3) := by decide +kernel
theorem dX9_tellsItem_15 : decode cX9_tellsItem 15 = .ok (.iconst 5, 1) := by decide +kernel
theorem dX9_tellsItem_16 : decode cX9_tellsItem 16 = .ok (.iload_n 1, 1) := by decide +kernel
theorem dX9_tellsItem_17 : decode cX9_tellsItem 17 = .ok (.imul, 1) := by decide +kernel
theorem dX9_tellsItem_18 : decode cX9_tellsItem 18 = .ok (.iconst 2, 1) := by decide +kernel
theorem dX9_tellsItem_19 : decode cX9_tellsItem 19 = .ok (.iadd, 1) := by decide +kernel
theorem dX9_tellsItem_20 : decode cX9_tellsItem 20 = .ok (.iaload, 1) := by decide +kernel
theorem dX9_tellsItem_21 : decode cX9_tellsItem 21 = .ok (.istore_n 3, 1) := by decide +kernel
theorem dX9_tellsItem_22 : decode cX9_tellsItem 22 = .ok (.aload_n 0, 1) := by decide +kernel
theorem dX9_tellsItem_23 : decode cX9_tellsItem 23 = .ok (.getfield 29, 3) := by decide +kernel
theorem dX9_tellsItem_26 : decode cX9_tellsItem 26 = .ok (.iconst 5, 1) := by decide +kernel
theorem dX9_tellsItem_27 : decode cX9_tellsItem 27 = .ok (.iload_n 1, 1) := by decide +kernel
theorem dX9_tellsItem_28 : decode cX9_tellsItem 28 = .ok (.imul, 1) := by decide +kernel
theorem dX9_tellsItem_29 : decode cX9_tellsItem 29 = .ok (.iconst 3, 1) := by decide +kernel
theorem dX9_tellsItem_30 : decode cX9_tellsItem 30 = .ok (.iadd, 1) := by decide +kernel
theorem dX9_tellsItem_31 : decode cX9_tellsItem 31 = .ok (.iaload, 1) := by decide +kernel
theorem dX9_tellsItem_32 : decode cX9_tellsItem 32 = .ok (.istore 4, 2) := by decide +kernel
theorem dX9_tellsItem_34 : decode cX9_tellsItem 34 = .ok (.aload_n 0, 1) := by decide +kernel
theorem dX9_tellsItem_35 : decode cX9_tellsItem 35 = .ok (.getfield 29, 3) := by decide +kernel
theorem dX9_tellsItem_38 : decode cX9_tellsItem 38 = .ok (.iconst 5, 1) := by decide +kernel
theorem dX9_tellsItem_39 : decode cX9_tellsItem 39 = .ok (.iload_n 1, 1) := by decide +kernel
theorem dX9_tellsItem_40 : decode cX9_tellsItem 40 = .ok (.imul, 1) := by decide +kernel
theorem dX9_tellsItem_41 : decode cX9_tellsItem 41 = .ok (.iconst 4, 1) := by decide +kernel
theorem dX9_tellsItem_42 : decode cX9_tellsItem 42 = .ok (.iadd, 1) := by decide +kernel
theorem dX9_tellsItem_43 : decode cX9_tellsItem 43 = .ok (.iaload, 1) := by decide +kernel
theorem dX9_tellsItem_44 : decode cX9_tellsItem 44 = .ok (.istore 5, 2) := by decide +kernel
theorem dX9_tellsItem_46 : decode cX9_tellsItem 46 = .ok (.aload_n 0, 1) := by decide +kernel
theorem dX9_tellsItem_47 : decode cX9_tellsItem 47 = .ok (.getfield 29, 3) := by decide +kernel
theorem dX9_tellsItem_50 : decode cX9_tellsItem 50 = .ok (.iconst 5, 1) := by decide +kernel
theorem dX9_tellsItem_51 : decode cX9_tellsItem 51 = .ok (.iload_n 1, 1) := by decide +kernel
theorem dX9_tellsItem_52 : decode cX9_tellsItem 52 = .ok (.imul, 1) := by decide +kernel
theorem dX9_tellsItem_53 : decode cX9_tellsItem 53 = .ok (.iaload, 1) := by decide +kernel
theorem dX9_tellsItem_54 : decode cX9_tellsItem 54 = .ok (.istore 6, 2) := by decide +kernel
theorem dX9_tellsItem_56 : decode cX9_tellsItem 56 = .ok (.iload 6, 2) := by decide +kernel
theorem dX9_tellsItem_58 : decode cX9_tellsItem 58 = .ok (.ifCond .ne 14, 3) := by decide +kernel
theorem dX9_tellsItem_61 : decode cX9_tellsItem 61 = .ok (.aload_n 0, 1) := by decide +kernel
theorem dX9_tellsItem_62 : decode cX9_tellsItem 62 = .ok (.iload_n 2, 1) := by decide +kernel
theorem dX9_tellsItem_63 : decode cX9_tellsItem 63 = .ok (.iload_n 3, 1) := by decide +kernel
theorem dX9_tellsItem_64 : decode cX9_tellsItem 64 = .ok (.iload 4, 2) := by decide +kernel
theorem dX9_tellsItem_66 : decode cX9_tellsItem 66 = .ok (.invokevirtual 160, 3) := by decide +kernel
theorem dX9_tellsItem_69 : decode cX9_tellsItem 69 = .ok (.goto 64, 3) := by decide +kernel
theorem dX9_tellsItem_72 : decode cX9_tellsItem 72 = .ok (.iload 6, 2) := by decide +kernel
theorem dX9_tellsItem_74 : decode cX9_tellsItem 74 = .ok (.iconst 1, 1) := by decide +kernel
theorem dX9_tellsItem_75 : decode cX9_tellsItem 75 = .ok (.if_icmp .ne 14, 3) := by decide +kernel
theorem dX9_tellsItem_78 : decode cX9_tellsItem 78 = .ok (.aload_n 0, 1) := by decide +kernel
theorem dX9_tellsItem_79 : decode cX9_tellsItem 79 = .ok (.iload_n 2, 1) := by decide +kernel
theorem dX9_tellsItem_80 : decode cX9_tellsItem 80 = .ok (.iload_n 3, 1) := by decide +kernel
theorem dX9_tellsItem_81 : decode cX9_tellsItem 81 = .ok (.iload 4, 2) := by decide +kernel
theorem dX9_tellsItem_83 : decode cX9_tellsItem 83 = .ok (.invokevirtual 164, 3) := by decide +kernel
theorem dX9_tellsItem_86 : decode cX9_tellsItem 86 = .ok (.goto 47, 3) := by decide +kernel
theorem dX9_tellsItem_89 : decode cX9_tellsItem 89 = .ok (.iload 6, 2) := by decide +kernel
theorem dX9_tellsItem_91 : decode cX9_tellsItem 91 = .ok (.iconst 2, 1) := by decide +kernel
theorem dX9_tellsItem_92 : decode cX9_tellsItem 92 = .ok (.if_icmp .ne 16, 3) := by decide +kernel
theorem dX9_tellsItem_95 : decode cX9_tellsItem 95 = .ok (.aload_n 0, 1) := by decide +kernel
theorem dX9_tellsItem_96 : decode cX9_tellsItem 96 = .ok (.iload_n 2, 1) := by decide +kernel
theorem dX9_tellsItem_97 : decode cX9_tellsItem 97 = .ok (.iload_n 3, 1) := by decide +kernel
theorem dX9_tellsItem_98 : decode cX9_tellsItem 98 = .ok (.iload 4, 2) := by decide +kernel
theorem dX9_tellsItem_100 : decode cX9_tellsItem 100 = .ok (.iload 5, 2) := by decide +kernel
theorem dX9_tellsItem_102 : decode cX9_tellsItem 102 = .ok (.invokevirtual 167, 3) := by decide +kernel
theorem dX9_tellsItem_105 : decode cX9_tellsItem 105 = .ok (.goto 28, 3) := by decide +kernel
theorem dX9_tellsItem_108 : decode cX9_tellsItem 108 = .ok (.iload 6, 2) := by decide +kernel
theorem dX9_tellsItem_110 : decode cX9_tellsItem 110 = .ok (.iconst 3, 1) := by decide +kernel
theorem dX9_tellsItem_111 : decode cX9_tellsItem 111 = .ok (.if_icmp .ne 16, 3) := by decide +kernel
theorem dX9_tellsItem_114 : decode cX9_tellsItem 114 = .ok (.aload_n 0, 1) := by decide +kernel
theorem dX9_tellsItem_115 : decode cX9_tellsItem 115 = .ok (.iload_n 2, 1) := by decide +kernel
theorem dX9_tellsItem_116 : decode cX9_tellsItem 116 = .ok (.iload_n 3, 1) := by decide +kernel
theorem dX9_tellsItem_117 : decode cX9_tellsItem 117 = .ok (.iload 4, 2) := by decide +kernel
theorem dX9_tellsItem_119 : decode cX9_tellsItem 119 = .ok (.iload 5, 2) := by decide +kernel
theorem dX9_tellsItem_121 : decode cX9_tellsItem 121 = .ok (.invokevirtual 170, 3) := by decide +kernel
theorem dX9_tellsItem_124 : decode cX9_tellsItem 124 = .ok (.goto 9, 3) := by decide +kernel
theorem dX9_tellsItem_127 : decode cX9_tellsItem 127 = .ok (.aload_n 0, 1) := by decide +kernel
theorem dX9_tellsItem_128 : decode cX9_tellsItem 128 = .ok (.iload_n 2, 1) := by decide +kernel
theorem dX9_tellsItem_129 : decode cX9_tellsItem 129 = .ok (.iload_n 3, 1) := by decide +kernel
theorem dX9_tellsItem_130 : decode cX9_tellsItem 130 = .ok (.invokevirtual 173, 3) := by decide +kernel
theorem dX9_tellsItem_133 : decode cX9_tellsItem 133 = .ok (.istore 7, 2) := by decide +kernel
theorem dX9_tellsItem_135 : decode cX9_tellsItem 135 = .ok (.iload 7, 2) := by decide +kernel
theorem dX9_tellsItem_137 : decode cX9_tellsItem 137 = .ok (.ifCond .lt 7, 3) := by decide +kernel
theorem dX9_tellsItem_140 : decode cX9_tellsItem 140 = .ok (.iconst 1, 1) := by decide +kernel
theorem dX9_tellsItem_141 : decode cX9_tellsItem 141 = .ok (.goto 4, 3) := by decide +kernel
theorem dX9_tellsItem_144 : decode cX9_tellsItem 144 = .ok (.iconst 0, 1) := by decide +kernel
theorem dX9_tellsItem_145 : decode cX9_tellsItem 145 = .ok (.ireturn, 1) := by decide +kernel
set_option maxRecDepth 20000 in
theorem ggX9_read_X9_reads : GoodIn wsX9_read wsX9_reads := goodIn_r _ [10, 11, 5, 12, 13, 14, 15, 16, 17, 9, 18, 1, 19, 20, 21, 22, 23, 24, 25, 26, 27, 28, 29, 30, 31, 32, 33, 34, 35, 36, 37, 38, 39, 40, 97, 98, 99, 100, 101, 102, 103, 104, 105, 106, 107, 108, 109, 110, 111, 112, 113, 114, 115, 116, 117, 118, 119] (by decide +kernel) (by decide +kernel)
set_option maxRecDepth 20000 in
theorem gX9_read_X9_reads : GoodIn wsX9_read (wsV RX9 176 RX9 yX9_reads wsX9_reads) := goodIn_app (goodIn_of _ (by decide +kernel)) ggX9_read_X9_reads
set_option maxRecDepth 20000 in
theorem ggX9_read_X9_tellsItem : GoodIn wsX9_read wsX9_tellsItem := goodIn_r _ [44, 13, 45, 46, 47, 9, 48, 49, 50, 51, 3, 27, 28, 29, 52, 53, 54, 55, 56, 57, 58, 59, 60, 4, 61, 62, 63, 64, 65, 66, 67, 68, 69, 70, 71, 72, 73, 74, 75, 76, 77, 78, 79, 80, 81, 82, 83, 84, 85, 86, 87, 88, 89, 90, 91, 92, 93, 94, 95, 96, 97, 98, 99, 100, 101, 102, 103, 104, 105, 106, 107, 108, 109, 110, 111, 112, 113, 114, 115, 116, 117, 118, 119] (by decide +kernel) (by decide +kernel)
set_option maxRecDepth 20000 in
theorem gX9_read_X9_tellsItem : GoodIn wsX9_read (wsV RX9 180 RX9 yX9_tellsItem wsX9_tellsItem) := goodIn_app (goodIn_of _ (by decide +kernel)) ggX9_read_X9_tellsItem
theorem dX9_read_0 : decode cX9_read 0 = .ok (.aload_n 0, 1) := by decide +kernel
theorem dX9_read_1 : decode cX9_read 1 = .ok (.invokevirtual 176, 3) := by decide +kernel
theorem dX9_read_4 : decode cX9_read 4 = .ok (.ifCond .ne 11, 3) := by decide +kernel
theorem dX9_read_7 : decode cX9_read 7 = .ok (.bipush (-10), 2) := by decide +kernel
theorem dX9_read_9 : decode cX9_read 9 = .ok (.aload_n 0, 1) := by decide +kernel
theorem dX9_read_10 : decode cX9_read 10 = .ok (.getfield 134, 3) := by decide +kernel
theorem dX9_read_13 : decode cX9_read 13 = .ok (.isub, 1) := by decide +kernel
theorem dX9_read_14 : decode cX9_read 14 = .ok (.ireturn, 1) := by decide +kernel
theorem dX9_read_15 : decode cX9_read 15 = .ok (.iconst 0, 1) := by decide +kernel
theorem dX9_read_16 : decode cX9_read 16 = .ok (.istore_n 1, 1) := by decide +kernel
theorem dX9_read_17 : decode cX9_read 17 = .ok (.iload_n 1, 1) := by decide +kernel
theorem dX9_read_18 : decode cX9_read 18 = .ok (.sipush 212, 3) := by decide +kernel
theorem dX9_read_21 : decode cX9_read 21 = .ok (.if_icmp .ge 28, 3) := by decide +kernel
theorem dX9_read_24 : decode cX9_read 24 = .ok (.aload_n 0, 1) := by decide +kernel
theorem dX9_read_25 : decode cX9_read 25 = .ok (.getfield 20, 3) := by decide +kernel
theorem dX9_read_28 : decode cX9_read 28 = .ok (.iload_n 1, 1) := by decide +kernel
theorem dX9_read_29 : decode cX9_read 29 = .ok (.aload_n 0, 1) := by decide +kernel
theorem dX9_read_30 : decode cX9_read 30 = .ok (.getfield 7, 3) := by decide +kernel
theorem dX9_read_33 : decode cX9_read 33 = .ok (.iload_n 1, 1) := by decide +kernel
theorem dX9_read_34 : decode cX9_read 34 = .ok (.iaload, 1) := by decide +kernel
theorem dX9_read_35 : decode cX9_read 35 = .ok (.iastore, 1) := by decide +kernel
theorem dX9_read_36 : decode cX9_read 36 = .ok (.aload_n 0, 1) := by decide +kernel
theorem dX9_read_37 : decode cX9_read 37 = .ok (.getfield 7, 3) := by decide +kernel
theorem dX9_read_40 : decode cX9_read 40 = .ok (.iload_n 1, 1) := by decide +kernel
theorem dX9_read_41 : decode cX9_read 41 = .ok (.iconst 0, 1) := by decide +kernel
theorem dX9_read_42 : decode cX9_read 42 = .ok (.iastore, 1) := by decide +kernel
theorem dX9_read_43 : decode cX9_read 43 = .ok (.iinc 1 1, 3) := by decide +kernel
theorem dX9_read_46 : decode cX9_read 46 = .ok (.goto (-29), 3) := by decide +kernel
theorem dX9_read_49 : decode cX9_read 49 = .ok (.aload_n 0, 1) := by decide +kernel
theorem dX9_read_50 : decode cX9_read 50 = .ok (.iconst 1, 1) := by decide +kernel
theorem dX9_read_51 : decode cX9_read 51 = .ok (.putfield 57, 3) := by decide +kernel
theorem dX9_read_54 : decode cX9_read 54 = .ok (.iconst 0, 1) := by decide +kernel
theorem dX9_read_55 : decode cX9_read 55 = .ok (.istore_n 1, 1) := by decide +kernel
theorem dX9_read_56 : decode cX9_read 56 = .ok (.iload_n 1, 1) := by decide +kernel
theorem dX9_read_57 : decode cX9_read 57 = .ok (.aload_n 0, 1) := by decide +kernel
theorem dX9_read_58 : decode cX9_read 58 = .ok (.getfield 151, 3) := by decide +kernel
theorem dX9_read_61 : decode cX9_read 61 = .ok (.if_icmp .ge 17, 3) := by decide +kernel
theorem dX9_read_64 : decode cX9_read 64 = .ok (.aload_n 0, 1) := by decide +kernel
theorem dX9_read_65 : decode cX9_read 65 = .ok (.iload_n 1, 1) := by decide +kernel
theorem dX9_read_66 : decode cX9_read 66 = .ok (.invokevirtual 180, 3) := by decide +kernel
theorem dX9_read_69 : decode cX9_read 69 = .ok (.ifCond .eq 9, 3) := by decide +kernel
theorem dX9_read_72 : decode cX9_read 72 = .ok (.iinc 1 1, 3) := by decide +kernel
theorem dX9_read_75 : decode cX9_read 75 = .ok (.goto (-19), 3) := by decide +kernel
theorem dX9_read_78 : decode cX9_read 78 = .ok (.aload_n 0, 1) := by decide +kernel
theorem dX9_read_79 : decode cX9_read 79 = .ok (.iconst 0, 1) := by decide +kernel
theorem dX9_read_80 : decode cX9_read 80 = .ok (.putfield 57, 3) := by decide +kernel
theorem dX9_read_83 : decode cX9_read 83 = .ok (.iload_n 1, 1) := by decide +kernel
theorem dX9_read_84 : decode cX9_read 84 = .ok (.aload_n 0, 1) := by decide +kernel
theorem dX9_read_85 : decode cX9_read 85 = .ok (.getfield 151, 3) := by decide +kernel
theorem dX9_read_88 : decode cX9_read 88 = .ok (.if_icmp .ne 8, 3) := by decide +kernel
theorem dX9_read_91 : decode cX9_read 91 = .ok (.aload_n 0, 1) := by decide +kernel
theorem dX9_read_92 : decode cX9_read 92 = .ok (.getfield 151, 3) := by decide +kernel
theorem dX9_read_95 : decode cX9_read 95 = .ok (.ireturn, 1) := by decide +kernel
theorem dX9_read_96 : decode cX9_read 96 = .ok (.iconst 0, 1) := by decide +kernel
theorem dX9_read_97 : decode cX9_read 97 = .ok (.istore_n 2, 1) := by decide +kernel
theorem dX9_read_98 : decode cX9_read 98 = .ok (.iload_n 2, 1) := by decide +kernel
theorem dX9_read_99 : decode cX9_read 99 = .ok (.sipush 212, 3) := by decide +kernel
theorem dX9_read_102 : decode cX9_read 102 = .ok (.if_icmp .ge 21, 3) := by decide +kernel
theorem dX9_read_105 : decode cX9_read 105 = .ok (.aload_n 0, 1) := by decide +kernel
theorem dX9_read_106 : decode cX9_read 106 = .ok (.getfield 7, 3) := by decide +kernel
theorem dX9_read_109 : decode cX9_read 109 = .ok (.iload_n 2, 1) := by decide +kernel
theorem dX9_read_110 : decode cX9_read 110 = .ok (.aload_n 0, 1) := by decide +kernel
theorem dX9_read_111 : decode cX9_read 111 = .ok (.getfield 20, 3) := by decide +kernel
theorem dX9_read_114 : decode cX9_read 114 = .ok (.iload_n 2, 1) := by decide +kernel
theorem dX9_read_115 : decode cX9_read 115 = .ok (.iaload, 1) := by decide +kernel
theorem dX9_read_116 : decode cX9_read 116 = .ok (.iastore, 1) := by decide +kernel
theorem dX9_read_117 : decode cX9_read 117 = .ok (.iinc 2 1, 3) := by decide +kernel
theorem dX9_read_120 : decode cX9_read 120 = .ok (.goto (-22), 3) := by decide +kernel
theorem dX9_read_123 : decode cX9_read 123 = .ok (.sipush (-1000), 3) := by decide +kernel
theorem dX9_read_126 : decode cX9_read 126 = .ok (.iload_n 1, 1) := by decide +kernel
theorem dX9_read_127 : decode cX9_read 127 = .ok (.isub, 1) := by decide +kernel
theorem dX9_read_128 : decode cX9_read 128 = .ok (.ireturn, 1) := by decide +kernel
set_option maxRecDepth 20000 in
theorem ggX9_rule_X9_isTerm : GoodIn wsX9_rule wsX9_isTerm := goodIn_r _ [6, 1, 7, 8, 5, 9, 24, 25, 26, 27, 28, 29, 30, 31, 32, 33, 34, 35, 36, 37, 38, 39, 40, 41, 42, 43, 44, 45, 46] (by decide +kernel) (by decide +kernel)
set_option maxRecDepth 20000 in
theorem gX9_rule_X9_isTerm : GoodIn wsX9_rule (wsV RX9 84 RX9 yX9_isTerm wsX9_isTerm) := goodIn_app (goodIn_of _ (by decide +kernel)) ggX9_rule_X9_isTerm
set_option maxRecDepth 20000 in
theorem ggX9_rule_X9_bad : GoodIn wsX9_rule wsX9_bad := goodIn_r _ [13, 14, 15, 16, 5, 17, 18, 19, 24, 25, 26, 27, 28, 29, 30, 31, 32, 33, 34, 35, 36, 37, 38, 39, 40, 41, 42, 43, 44, 45, 46] (by decide +kernel) (by decide +kernel)
set_option maxRecDepth 20000 in
theorem gX9_rule_X9_bad : GoodIn wsX9_rule (wsV RX9 77 RX9 yX9_bad wsX9_bad) := goodIn_app (goodIn_of _ (by decide +kernel)) ggX9_rule_X9_bad
set_option maxRecDepth 20000 in
theorem ggX9_rule_X9_full : GoodIn wsX9_rule wsX9_full := goodIn_r _ [23, 14, 15, 16, 5, 17, 18, 19, 24, 25, 26, 27, 28, 29, 30, 31, 32, 33, 34, 35, 36, 37, 38, 39, 40, 41, 42, 43, 44, 45, 46] (by decide +kernel) (by decide +kernel)
set_option maxRecDepth 20000 in
theorem gX9_rule_X9_full : GoodIn wsX9_rule (wsV RX9 81 RX9 yX9_full wsX9_full) := goodIn_app (goodIn_of _ (by decide +kernel)) ggX9_rule_X9_full
theorem dX9_rule_0 : decode cX9_rule 0 = .ok (.aload_n 0, 1) := by decide +kernel
theorem dX9_rule_1 : decode cX9_rule 1 = .ok (.iload_n 1, 1) := by decide +kernel
theorem dX9_rule_2 : decode cX9_rule 2 = .ok (.invokevirtual 84, 3) := by decide +kernel
theorem dX9_rule_5 : decode cX9_rule 5 = .ok (.ifCond .eq 29, 3) := by decide +kernel
theorem dX9_rule_8 : decode cX9_rule 8 = .ok (.aload_n 0, 1) := by decide +kernel
theorem dX9_rule_9 : decode cX9_rule 9 = .ok (.iload_n 2, 1) := by decide +kernel
theorem dX9_rule_10 : decode cX9_rule 10 = .ok (.invokevirtual 84, 3) := by decide +kernel
theorem dX9_rule_13 : decode cX9_rule 13 = .ok (.ifCond .eq 21, 3) := by decide +kernel
theorem dX9_rule_16 : decode cX9_rule 16 = .ok (.aload_n 0, 1) := by decide +kernel
theorem dX9_rule_17 : decode cX9_rule 17 = .ok (.iload_n 3, 1) := by decide +kernel
theorem dX9_rule_18 : decode cX9_rule 18 = .ok (.invokevirtual 84, 3) := by decide +kernel
theorem dX9_rule_21 : decode cX9_rule 21 = .ok (.ifCond .eq 13, 3) := by decide +kernel
theorem dX9_rule_24 : decode cX9_rule 24 = .ok (.iload_n 1, 1) := by decide +kernel
theorem dX9_rule_25 : decode cX9_rule 25 = .ok (.iload_n 2, 1) := by decide +kernel
theorem dX9_rule_26 : decode cX9_rule 26 = .ok (.if_icmp .eq 8, 3) := by decide +kernel
theorem dX9_rule_29 : decode cX9_rule 29 = .ok (.iload_n 1, 1) := by decide +kernel
theorem dX9_rule_30 : decode cX9_rule 30 = .ok (.iload_n 3, 1) := by decide +kernel
theorem dX9_rule_31 : decode cX9_rule 31 = .ok (.if_icmp .ne 8, 3) := by decide +kernel
theorem dX9_rule_34 : decode cX9_rule 34 = .ok (.aload_n 0, 1) := by decide +kernel
theorem dX9_rule_35 : decode cX9_rule 35 = .ok (.invokevirtual 77, 3) := by decide +kernel
theorem dX9_rule_38 : decode cX9_rule 38 = .ok (.ireturn, 1) := by decide +kernel
theorem dX9_rule_39 : decode cX9_rule 39 = .ok (.aload_n 0, 1) := by decide +kernel
theorem dX9_rule_40 : decode cX9_rule 40 = .ok (.getfield 7, 3) := by decide +kernel
theorem dX9_rule_43 : decode cX9_rule 43 = .ok (.iconst 3, 1) := by decide +kernel
theorem dX9_rule_44 : decode cX9_rule 44 = .ok (.iaload, 1) := by decide +kernel
theorem dX9_rule_45 : decode cX9_rule 45 = .ok (.bipush 8, 2) := by decide +kernel
theorem dX9_rule_47 : decode cX9_rule 47 = .ok (.if_icmp .ne 8, 3) := by decide +kernel
theorem dX9_rule_50 : decode cX9_rule 50 = .ok (.aload_n 0, 1) := by decide +kernel
theorem dX9_rule_51 : decode cX9_rule 51 = .ok (.invokevirtual 81, 3) := by decide +kernel
theorem dX9_rule_54 : decode cX9_rule 54 = .ok (.ireturn, 1) := by decide +kernel
theorem dX9_rule_55 : decode cX9_rule 55 = .ok (.bipush 102, 2) := by decide +kernel
theorem dX9_rule_57 : decode cX9_rule 57 = .ok (.iconst 3, 1) := by decide +kernel
theorem dX9_rule_58 : decode cX9_rule 58 = .ok (.aload_n 0, 1) := by decide +kernel
theorem dX9_rule_59 : decode cX9_rule 59 = .ok (.getfield 7, 3) := by decide +kernel
theorem dX9_rule_62 : decode cX9_rule 62 = .ok (.iconst 3, 1) := by decide +kernel
theorem dX9_rule_63 : decode cX9_rule 63 = .ok (.iaload, 1) := by decide +kernel
theorem dX9_rule_64 : decode cX9_rule 64 = .ok (.imul, 1) := by decide +kernel
theorem dX9_rule_65 : decode cX9_rule 65 = .ok (.iadd, 1) := by decide +kernel
theorem dX9_rule_66 : decode cX9_rule 66 = .ok (.istore 4, 2) := by decide +kernel
theorem dX9_rule_68 : decode cX9_rule 68 = .ok (.aload_n 0, 1) := by decide +kernel
theorem dX9_rule_69 : decode cX9_rule 69 = .ok (.getfield 7, 3) := by decide +kernel
theorem dX9_rule_72 : decode cX9_rule 72 = .ok (.iload 4, 2) := by decide +kernel
theorem dX9_rule_74 : decode cX9_rule 74 = .ok (.iload_n 1, 1) := by decide +kernel
theorem dX9_rule_75 : decode cX9_rule 75 = .ok (.iastore, 1) := by decide +kernel
theorem dX9_rule_76 : decode cX9_rule 76 = .ok (.aload_n 0, 1) := by decide +kernel
theorem dX9_rule_77 : decode cX9_rule 77 = .ok (.getfield 7, 3) := by decide +kernel
theorem dX9_rule_80 : decode cX9_rule 80 = .ok (.iload 4, 2) := by decide +kernel
theorem dX9_rule_82 : decode cX9_rule 82 = .ok (.iconst 1, 1) := by decide +kernel
theorem dX9_rule_83 : decode cX9_rule 83 = .ok (.iadd, 1) := by decide +kernel
theorem dX9_rule_84 : decode cX9_rule 84 = .ok (.iload_n 2, 1) := by decide +kernel
theorem dX9_rule_85 : decode cX9_rule 85 = .ok (.iastore, 1) := by decide +kernel
theorem dX9_rule_86 : decode cX9_rule 86 = .ok (.aload_n 0, 1) := by decide +kernel
theorem dX9_rule_87 : decode cX9_rule 87 = .ok (.getfield 7, 3) := by decide +kernel
theorem dX9_rule_90 : decode cX9_rule 90 = .ok (.iload 4, 2) := by decide +kernel
theorem dX9_rule_92 : decode cX9_rule 92 = .ok (.iconst 2, 1) := by decide +kernel
theorem dX9_rule_93 : decode cX9_rule 93 = .ok (.iadd, 1) := by decide +kernel
theorem dX9_rule_94 : decode cX9_rule 94 = .ok (.iload_n 3, 1) := by decide +kernel
theorem dX9_rule_95 : decode cX9_rule 95 = .ok (.iastore, 1) := by decide +kernel
theorem dX9_rule_96 : decode cX9_rule 96 = .ok (.aload_n 0, 1) := by decide +kernel
theorem dX9_rule_97 : decode cX9_rule 97 = .ok (.getfield 7, 3) := by decide +kernel
theorem dX9_rule_100 : decode cX9_rule 100 = .ok (.iconst 3, 1) := by decide +kernel
theorem dX9_rule_101 : decode cX9_rule 101 = .ok (.dup2, 1) := by decide +kernel
theorem dX9_rule_102 : decode cX9_rule 102 = .ok (.iaload, 1) := by decide +kernel
theorem dX9_rule_103 : decode cX9_rule 103 = .ok (.iconst 1, 1) := by decide +kernel
theorem dX9_rule_104 : decode cX9_rule 104 = .ok (.iadd, 1) := by decide +kernel
theorem dX9_rule_105 : decode cX9_rule 105 = .ok (.iastore, 1) := by decide +kernel
theorem dX9_rule_106 : decode cX9_rule 106 = .ok (.aload_n 0, 1) := by decide +kernel
theorem dX9_rule_107 : decode cX9_rule 107 = .ok (.getfield 7, 3) := by decide +kernel
theorem dX9_rule_110 : decode cX9_rule 110 = .ok (.iconst 3, 1) := by decide +kernel
theorem dX9_rule_111 : decode cX9_rule 111 = .ok (.iaload, 1) := by decide +kernel
theorem dX9_rule_112 : decode cX9_rule 112 = .ok (.iconst 1, 1) := by decide +kernel
theorem dX9_rule_113 : decode cX9_rule 113 = .ok (.isub, 1) := by decide +kernel
theorem dX9_rule_114 : decode cX9_rule 114 = .ok (.ireturn, 1) := by decide +kernel
theorem dX9_fewest_0 : decode cX9_fewest 0 = .ok (.iconst 0, 1) := by decide +kernel
theorem dX9_fewest_1 : decode cX9_fewest 1 = .ok (.istore_n 2, 1) := by decide +kernel
theorem dX9_fewest_2 : decode cX9_fewest 2 = .ok (.iload_n 2, 1) := by decide +kernel
theorem dX9_fewest_3 : decode cX9_fewest 3 = .ok (.aload_n 0, 1) := by decide +kernel
theorem dX9_fewest_4 : decode cX9_fewest 4 = .ok (.getfield 7, 3) := by decide +kernel
theorem dX9_fewest_7 : decode cX9_fewest 7 = .ok (.iconst 0, 1) := by decide +kernel
theorem dX9_fewest_8 : decode cX9_fewest 8 = .ok (.iaload, 1) := by decide +kernel
theorem dX9_fewest_9 : decode cX9_fewest 9 = .ok (.if_icmp .ge 30, 3) := by decide +kernel
theorem dX9_fewest_12 : decode cX9_fewest 12 = .ok (.aload_n 0, 1) := by decide +kernel
theorem dX9_fewest_13 : decode cX9_fewest 13 = .ok (.getfield 32, 3) := by decide +kernel
theorem dX9_fewest_16 : decode cX9_fewest 16 = .ok (.iload_n 2, 1) := by decide +kernel
theorem dX9_fewest_17 : decode cX9_fewest 17 = .ok (.iload_n 1, 1) := by decide +kernel
theorem dX9_fewest_18 : decode cX9_fewest 18 = .ok (.iload_n 2, 1) := by decide +kernel
theorem dX9_fewest_19 : decode cX9_fewest 19 = .ok (.ishr, 1) := by decide +kernel
theorem dX9_fewest_20 : decode cX9_fewest 20 = .ok (.iconst 1, 1) := by decide +kernel
theorem dX9_fewest_21 : decode cX9_fewest 21 = .ok (.iand, 1) := by decide +kernel
theorem dX9_fewest_22 : decode cX9_fewest 22 = .ok (.iconst 1, 1) := by decide +kernel
theorem dX9_fewest_23 : decode cX9_fewest 23 = .ok (.if_icmp .ne 7, 3) := by decide +kernel
theorem dX9_fewest_26 : decode cX9_fewest 26 = .ok (.iconst 1, 1) := by decide +kernel
theorem dX9_fewest_27 : decode cX9_fewest 27 = .ok (.goto 5, 3) := by decide +kernel
theorem dX9_fewest_30 : decode cX9_fewest 30 = .ok (.ldc 183, 2) := by decide +kernel
theorem dX9_fewest_32 : decode cX9_fewest 32 = .ok (.iastore, 1) := by decide +kernel
theorem dX9_fewest_33 : decode cX9_fewest 33 = .ok (.iinc 2 1, 3) := by decide +kernel
theorem dX9_fewest_36 : decode cX9_fewest 36 = .ok (.goto (-34), 3) := by decide +kernel
theorem dX9_fewest_39 : decode cX9_fewest 39 = .ok (.iconst 0, 1) := by decide +kernel
theorem dX9_fewest_40 : decode cX9_fewest 40 = .ok (.istore_n 2, 1) := by decide +kernel
theorem dX9_fewest_41 : decode cX9_fewest 41 = .ok (.iload_n 2, 1) := by decide +kernel
theorem dX9_fewest_42 : decode cX9_fewest 42 = .ok (.bipush 8, 2) := by decide +kernel
theorem dX9_fewest_44 : decode cX9_fewest 44 = .ok (.if_icmp .gt 97, 3) := by decide +kernel
theorem dX9_fewest_47 : decode cX9_fewest 47 = .ok (.iconst 0, 1) := by decide +kernel
theorem dX9_fewest_48 : decode cX9_fewest 48 = .ok (.istore_n 3, 1) := by decide +kernel
theorem dX9_fewest_49 : decode cX9_fewest 49 = .ok (.iload_n 3, 1) := by decide +kernel
theorem dX9_fewest_50 : decode cX9_fewest 50 = .ok (.aload_n 0, 1) := by decide +kernel
theorem dX9_fewest_51 : decode cX9_fewest 51 = .ok (.getfield 7, 3) := by decide +kernel
theorem dX9_fewest_54 : decode cX9_fewest 54 = .ok (.iconst 3, 1) := by decide +kernel
theorem dX9_fewest_55 : decode cX9_fewest 55 = .ok (.iaload, 1) := by decide +kernel
theorem dX9_fewest_56 : decode cX9_fewest 56 = .ok (.if_icmp .ge 79, 3) := by decide +kernel
theorem dX9_fewest_59 : decode cX9_fewest 59 = .ok (.bipush 102, 2) := by decide +kernel
theorem dX9_fewest_61 : decode cX9_fewest 61 = .ok (.iconst 3, 1) := by decide +kernel
theorem dX9_fewest_62 : decode cX9_fewest 62 = .ok (.iload_n 3, 1) := by decide +kernel
theorem dX9_fewest_63 : decode cX9_fewest 63 = .ok (.imul, 1) := by decide +kernel
theorem dX9_fewest_64 : decode cX9_fewest 64 = .ok (.iadd, 1) := by decide +kernel
theorem dX9_fewest_65 : decode cX9_fewest 65 = .ok (.istore 4, 2) := by decide +kernel
theorem dX9_fewest_67 : decode cX9_fewest 67 = .ok (.aload_n 0, 1) := by decide +kernel
theorem dX9_fewest_68 : decode cX9_fewest 68 = .ok (.getfield 32, 3) := by decide +kernel
theorem dX9_fewest_71 : decode cX9_fewest 71 = .ok (.aload_n 0, 1) := by decide +kernel
theorem dX9_fewest_72 : decode cX9_fewest 72 = .ok (.getfield 7, 3) := by decide +kernel
theorem dX9_fewest_75 : decode cX9_fewest 75 = .ok (.iload 4, 2) := by decide +kernel
theorem dX9_fewest_77 : decode cX9_fewest 77 = .ok (.iconst 1, 1) := by decide +kernel
theorem dX9_fewest_78 : decode cX9_fewest 78 = .ok (.iadd, 1) := by decide +kernel
theorem dX9_fewest_79 : decode cX9_fewest 79 = .ok (.iaload, 1) := by decide +kernel
theorem dX9_fewest_80 : decode cX9_fewest 80 = .ok (.iaload, 1) := by decide +kernel
theorem dX9_fewest_81 : decode cX9_fewest 81 = .ok (.aload_n 0, 1) := by decide +kernel
theorem dX9_fewest_82 : decode cX9_fewest 82 = .ok (.getfield 32, 3) := by decide +kernel
theorem dX9_fewest_85 : decode cX9_fewest 85 = .ok (.aload_n 0, 1) := by decide +kernel
theorem dX9_fewest_86 : decode cX9_fewest 86 = .ok (.getfield 7, 3) := by decide +kernel
theorem dX9_fewest_89 : decode cX9_fewest 89 = .ok (.iload 4, 2) := by decide +kernel
theorem dX9_fewest_91 : decode cX9_fewest 91 = .ok (.iconst 2, 1) := by decide +kernel
theorem dX9_fewest_92 : decode cX9_fewest 92 = .ok (.iadd, 1) := by decide +kernel
theorem dX9_fewest_93 : decode cX9_fewest 93 = .ok (.iaload, 1) := by decide +kernel
theorem dX9_fewest_94 : decode cX9_fewest 94 = .ok (.iaload, 1) := by decide +kernel
theorem dX9_fewest_95 : decode cX9_fewest 95 = .ok (.iadd, 1) := by decide +kernel
theorem dX9_fewest_96 : decode cX9_fewest 96 = .ok (.istore 5, 2) := by decide +kernel
theorem dX9_fewest_98 : decode cX9_fewest 98 = .ok (.iload 5, 2) := by decide +kernel
theorem dX9_fewest_100 : decode cX9_fewest 100 = .ok (.aload_n 0, 1) := by decide +kernel
theorem dX9_fewest_101 : decode cX9_fewest 101 = .ok (.getfield 32, 3) := by decide +kernel
theorem dX9_fewest_104 : decode cX9_fewest 104 = .ok (.aload_n 0, 1) := by decide +kernel
theorem dX9_fewest_105 : decode cX9_fewest 105 = .ok (.getfield 7, 3) := by decide +kernel
theorem dX9_fewest_108 : decode cX9_fewest 108 = .ok (.iload 4, 2) := by decide +kernel
theorem dX9_fewest_110 : decode cX9_fewest 110 = .ok (.iaload, 1) := by decide +kernel
theorem dX9_fewest_111 : decode cX9_fewest 111 = .ok (.iaload, 1) := by decide +kernel
theorem dX9_fewest_112 : decode cX9_fewest 112 = .ok (.if_icmp .ge 17, 3) := by decide +kernel
theorem dX9_fewest_115 : decode cX9_fewest 115 = .ok (.aload_n 0, 1) := by decide +kernel
theorem dX9_fewest_116 : decode cX9_fewest 116 = .ok (.getfield 32, 3) := by decide +kernel
theorem dX9_fewest_119 : decode cX9_fewest 119 = .ok (.aload_n 0, 1) := by decide +kernel
theorem dX9_fewest_120 : decode cX9_fewest 120 = .ok (.getfield 7, 3) := by decide +kernel
theorem dX9_fewest_123 : decode cX9_fewest 123 = .ok (.iload 4, 2) := by decide +kernel
theorem dX9_fewest_125 : decode cX9_fewest 125 = .ok (.iaload, 1) := by decide +kernel
theorem dX9_fewest_126 : decode cX9_fewest 126 = .ok (.iload 5, 2) := by decide +kernel
theorem dX9_fewest_128 : decode cX9_fewest 128 = .ok (.iastore, 1) := by decide +kernel
theorem dX9_fewest_129 : decode cX9_fewest 129 = .ok (.iinc 3 1, 3) := by decide +kernel
theorem dX9_fewest_132 : decode cX9_fewest 132 = .ok (.goto (-83), 3) := by decide +kernel
theorem dX9_fewest_135 : decode cX9_fewest 135 = .ok (.iinc 2 1, 3) := by decide +kernel
theorem dX9_fewest_138 : decode cX9_fewest 138 = .ok (.goto (-97), 3) := by decide +kernel
theorem dX9_fewest_141 : decode cX9_fewest 141 = .ok (.return_, 1) := by decide +kernel
theorem dX9_unrolls_0 : decode cX9_unrolls 0 = .ok (.iconst 1, 1) := by decide +kernel
theorem dX9_unrolls_1 : decode cX9_unrolls 1 = .ok (.istore_n 2, 1) := by decide +kernel
theorem dX9_unrolls_2 : decode cX9_unrolls 2 = .ok (.iconst 0, 1) := by decide +kernel
theorem dX9_unrolls_3 : decode cX9_unrolls 3 = .ok (.istore_n 3, 1) := by decide +kernel
theorem dX9_unrolls_4 : decode cX9_unrolls 4 = .ok (.aload_n 0, 1) := by decide +kernel
theorem dX9_unrolls_5 : decode cX9_unrolls 5 = .ok (.getfield 35, 3) := by decide +kernel
theorem dX9_unrolls_8 : decode cX9_unrolls 8 = .ok (.iconst 0, 1) := by decide +kernel
theorem dX9_unrolls_9 : decode cX9_unrolls 9 = .ok (.iload_n 1, 1) := by decide +kernel
theorem dX9_unrolls_10 : decode cX9_unrolls 10 = .ok (.iastore, 1) := by decide +kernel
theorem dX9_unrolls_11 : decode cX9_unrolls 11 = .ok (.iload_n 2, 1) := by decide +kernel
theorem dX9_unrolls_12 : decode cX9_unrolls 12 = .ok (.ifCond .le 162, 3) := by decide +kernel
theorem dX9_unrolls_15 : decode cX9_unrolls 15 = .ok (.iinc 2 (-1), 3) := by decide +kernel
theorem dX9_unrolls_18 : decode cX9_unrolls 18 = .ok (.aload_n 0, 1) := by decide +kernel
theorem dX9_unrolls_19 : decode cX9_unrolls 19 = .ok (.getfield 35, 3) := by decide +kernel
theorem dX9_unrolls_22 : decode cX9_unrolls 22 = .ok (.iload_n 2, 1) := by decide +kernel
theorem dX9_unrolls_23 : decode cX9_unrolls 23 = .ok (.iaload, 1) := by decide +kernel
theorem dX9_unrolls_24 : decode cX9_unrolls 24 = .ok (.istore 4, 2) := by decide +kernel
theorem dX9_unrolls_26 : decode cX9_unrolls 26 = .ok (.aload_n 0, 1) := by decide +kernel
theorem dX9_unrolls_27 : decode cX9_unrolls 27 = .ok (.getfield 32, 3) := by decide +kernel
theorem dX9_unrolls_30 : decode cX9_unrolls 30 = .ok (.iload 4, 2) := by decide +kernel
theorem dX9_unrolls_32 : decode cX9_unrolls 32 = .ok (.iaload, 1) := by decide +kernel
theorem dX9_unrolls_33 : decode cX9_unrolls 33 = .ok (.iconst 1, 1) := by decide +kernel
theorem dX9_unrolls_34 : decode cX9_unrolls 34 = .ok (.if_icmp .ne 17, 3) := by decide +kernel
theorem dX9_unrolls_37 : decode cX9_unrolls 37 = .ok (.aload_n 0, 1) := by decide +kernel
theorem dX9_unrolls_38 : decode cX9_unrolls 38 = .ok (.getfield 38, 3) := by decide +kernel
theorem dX9_unrolls_41 : decode cX9_unrolls 41 = .ok (.iload_n 3, 1) := by decide +kernel
theorem dX9_unrolls_42 : decode cX9_unrolls 42 = .ok (.iload 4, 2) := by decide +kernel
theorem dX9_unrolls_44 : decode cX9_unrolls 44 = .ok (.iastore, 1) := by decide +kernel
theorem dX9_unrolls_45 : decode cX9_unrolls 45 = .ok (.iinc 3 1, 3) := by decide +kernel
theorem dX9_unrolls_48 : decode cX9_unrolls 48 = .ok (.goto 123, 3) := by decide +kernel
theorem dX9_unrolls_51 : decode cX9_unrolls 51 = .ok (.iconst 0, 1) := by decide +kernel
theorem dX9_unrolls_52 : decode cX9_unrolls 52 = .ok (.istore 5, 2) := by decide +kernel
theorem dX9_unrolls_54 : decode cX9_unrolls 54 = .ok (.aload_n 0, 1) := by decide +kernel
theorem dX9_unrolls_55 : decode cX9_unrolls 55 = .ok (.getfield 7, 3) := by decide +kernel
theorem dX9_unrolls_58 : decode cX9_unrolls 58 = .ok (.bipush 102, 2) := by decide +kernel
theorem dX9_unrolls_60 : decode cX9_unrolls 60 = .ok (.iconst 3, 1) := by decide +kernel
theorem dX9_unrolls_61 : decode cX9_unrolls 61 = .ok (.iload 5, 2) := by decide +kernel
theorem dX9_unrolls_63 : decode cX9_unrolls 63 = .ok (.imul, 1) := by decide +kernel
theorem dX9_unrolls_64 : decode cX9_unrolls 64 = .ok (.iadd, 1) := by decide +kernel
theorem dX9_unrolls_65 : decode cX9_unrolls 65 = .ok (.iaload, 1) := by decide +kernel
theorem dX9_unrolls_66 : decode cX9_unrolls 66 = .ok (.iload 4, 2) := by decide +kernel
theorem dX9_unrolls_68 : decode cX9_unrolls 68 = .ok (.if_icmp .ne 52, 3) := by decide +kernel
theorem dX9_unrolls_71 : decode cX9_unrolls 71 = .ok (.aload_n 0, 1) := by decide +kernel
theorem dX9_unrolls_72 : decode cX9_unrolls 72 = .ok (.getfield 32, 3) := by decide +kernel
theorem dX9_unrolls_75 : decode cX9_unrolls 75 = .ok (.aload_n 0, 1) := by decide +kernel
theorem dX9_unrolls_76 : decode cX9_unrolls 76 = .ok (.getfield 7, 3) := by decide +kernel
theorem dX9_unrolls_79 : decode cX9_unrolls 79 = .ok (.bipush 102, 2) := by decide +kernel
theorem dX9_unrolls_81 : decode cX9_unrolls 81 = .ok (.iconst 3, 1) := by decide +kernel
theorem dX9_unrolls_82 : decode cX9_unrolls 82 = .ok (.iload 5, 2) := by decide +kernel
theorem dX9_unrolls_84 : decode cX9_unrolls 84 = .ok (.imul, 1) := by decide +kernel
theorem dX9_unrolls_85 : decode cX9_unrolls 85 = .ok (.iadd, 1) := by decide +kernel
theorem dX9_unrolls_86 : decode cX9_unrolls 86 = .ok (.iconst 1, 1) := by decide +kernel
theorem dX9_unrolls_87 : decode cX9_unrolls 87 = .ok (.iadd, 1) := by decide +kernel
theorem dX9_unrolls_88 : decode cX9_unrolls 88 = .ok (.iaload, 1) := by decide +kernel
theorem dX9_unrolls_89 : decode cX9_unrolls 89 = .ok (.iaload, 1) := by decide +kernel
theorem dX9_unrolls_90 : decode cX9_unrolls 90 = .ok (.aload_n 0, 1) := by decide +kernel
theorem dX9_unrolls_91 : decode cX9_unrolls 91 = .ok (.getfield 32, 3) := by decide +kernel
theorem dX9_unrolls_94 : decode cX9_unrolls 94 = .ok (.aload_n 0, 1) := by decide +kernel
theorem dX9_unrolls_95 : decode cX9_unrolls 95 = .ok (.getfield 7, 3) := by decide +kernel
theorem dX9_unrolls_98 : decode cX9_unrolls 98 = .ok (.bipush 102, 2) := by decide +kernel
theorem dX9_unrolls_100 : decode cX9_unrolls 100 = .ok (.iconst 3, 1) := by decide +kernel
theorem dX9_unrolls_101 : decode cX9_unrolls 101 = .ok (.iload 5, 2) := by decide +kernel
theorem dX9_unrolls_103 : decode cX9_unrolls 103 = .ok (.imul, 1) := by decide +kernel
theorem dX9_unrolls_104 : decode cX9_unrolls 104 = .ok (.iadd, 1) := by decide +kernel
theorem dX9_unrolls_105 : decode cX9_unrolls 105 = .ok (.iconst 2, 1) := by decide +kernel
theorem dX9_unrolls_106 : decode cX9_unrolls 106 = .ok (.iadd, 1) := by decide +kernel
theorem dX9_unrolls_107 : decode cX9_unrolls 107 = .ok (.iaload, 1) := by decide +kernel
theorem dX9_unrolls_108 : decode cX9_unrolls 108 = .ok (.iaload, 1) := by decide +kernel
theorem dX9_unrolls_109 : decode cX9_unrolls 109 = .ok (.iadd, 1) := by decide +kernel
theorem dX9_unrolls_110 : decode cX9_unrolls 110 = .ok (.aload_n 0, 1) := by decide +kernel
theorem dX9_unrolls_111 : decode cX9_unrolls 111 = .ok (.getfield 32, 3) := by decide +kernel
theorem dX9_unrolls_114 : decode cX9_unrolls 114 = .ok (.iload 4, 2) := by decide +kernel
theorem dX9_unrolls_116 : decode cX9_unrolls 116 = .ok (.iaload, 1) := by decide +kernel
theorem dX9_unrolls_117 : decode cX9_unrolls 117 = .ok (.if_icmp .eq 9, 3) := by decide +kernel
theorem dX9_unrolls_120 : decode cX9_unrolls 120 = .ok (.iinc 5 1, 3) := by decide +kernel
theorem dX9_unrolls_123 : decode cX9_unrolls 123 = .ok (.goto (-69), 3) := by decide +kernel
theorem dX9_unrolls_126 : decode cX9_unrolls 126 = .ok (.aload_n 0, 1) := by decide +kernel
theorem dX9_unrolls_127 : decode cX9_unrolls 127 = .ok (.getfield 35, 3) := by decide +kernel
theorem dX9_unrolls_130 : decode cX9_unrolls 130 = .ok (.iload_n 2, 1) := by decide +kernel
theorem dX9_unrolls_131 : decode cX9_unrolls 131 = .ok (.aload_n 0, 1) := by decide +kernel
theorem dX9_unrolls_132 : decode cX9_unrolls 132 = .ok (.getfield 7, 3) := by decide +kernel
theorem dX9_unrolls_135 : decode cX9_unrolls 135 = .ok (.bipush 102, 2) := by decide +kernel
theorem dX9_unrolls_137 : decode cX9_unrolls 137 = .ok (.iconst 3, 1) := by decide +kernel
theorem dX9_unrolls_138 : decode cX9_unrolls 138 = .ok (.iload 5, 2) := by decide +kernel
theorem dX9_unrolls_140 : decode cX9_unrolls 140 = .ok (.imul, 1) := by decide +kernel
theorem dX9_unrolls_141 : decode cX9_unrolls 141 = .ok (.iadd, 1) := by decide +kernel
theorem dX9_unrolls_142 : decode cX9_unrolls 142 = .ok (.iconst 2, 1) := by decide +kernel
theorem dX9_unrolls_143 : decode cX9_unrolls 143 = .ok (.iadd, 1) := by decide +kernel
theorem dX9_unrolls_144 : decode cX9_unrolls 144 = .ok (.iaload, 1) := by decide +kernel
theorem dX9_unrolls_145 : decode cX9_unrolls 145 = .ok (.iastore, 1) := by decide +kernel
theorem dX9_unrolls_146 : decode cX9_unrolls 146 = .ok (.aload_n 0, 1) := by decide +kernel
theorem dX9_unrolls_147 : decode cX9_unrolls 147 = .ok (.getfield 35, 3) := by decide +kernel
theorem dX9_unrolls_150 : decode cX9_unrolls 150 = .ok (.iload_n 2, 1) := by decide +kernel
theorem dX9_unrolls_151 : decode cX9_unrolls 151 = .ok (.iconst 1, 1) := by decide +kernel
theorem dX9_unrolls_152 : decode cX9_unrolls 152 = .ok (.iadd, 1) := by decide +kernel
theorem dX9_unrolls_153 : decode cX9_unrolls 153 = .ok (.aload_n 0, 1) := by decide +kernel
theorem dX9_unrolls_154 : decode cX9_unrolls 154 = .ok (.getfield 7, 3) := by decide +kernel
theorem dX9_unrolls_157 : decode cX9_unrolls 157 = .ok (.bipush 102, 2) := by decide +kernel
theorem dX9_unrolls_159 : decode cX9_unrolls 159 = .ok (.iconst 3, 1) := by decide +kernel
theorem dX9_unrolls_160 : decode cX9_unrolls 160 = .ok (.iload 5, 2) := by decide +kernel
theorem dX9_unrolls_162 : decode cX9_unrolls 162 = .ok (.imul, 1) := by decide +kernel
theorem dX9_unrolls_163 : decode cX9_unrolls 163 = .ok (.iadd, 1) := by decide +kernel
theorem dX9_unrolls_164 : decode cX9_unrolls 164 = .ok (.iconst 1, 1) := by decide +kernel
theorem dX9_unrolls_165 : decode cX9_unrolls 165 = .ok (.iadd, 1) := by decide +kernel
theorem dX9_unrolls_166 : decode cX9_unrolls 166 = .ok (.iaload, 1) := by decide +kernel
theorem dX9_unrolls_167 : decode cX9_unrolls 167 = .ok (.iastore, 1) := by decide +kernel
theorem dX9_unrolls_168 : decode cX9_unrolls 168 = .ok (.iinc 2 2, 3) := by decide +kernel
theorem dX9_unrolls_171 : decode cX9_unrolls 171 = .ok (.goto (-160), 3) := by decide +kernel
theorem dX9_unrolls_174 : decode cX9_unrolls 174 = .ok (.iload_n 3, 1) := by decide +kernel
theorem dX9_unrolls_175 : decode cX9_unrolls 175 = .ok (.ireturn, 1) := by decide +kernel
set_option maxRecDepth 20000 in
theorem ggX9_roundAbout_X9_isTerm : GoodIn wsX9_roundAbout wsX9_isTerm := goodIn_r _ [8, 9, 10, 11, 7, 12, 32, 33, 34, 35, 36, 37, 38, 39, 40, 41, 42, 43, 44, 45, 46, 47, 48, 49, 50, 51, 52, 53, 54] (by decide +kernel) (by decide +kernel)
set_option maxRecDepth 20000 in
theorem gX9_roundAbout_X9_isTerm : GoodIn wsX9_roundAbout (wsV RX9 84 RX9 yX9_isTerm wsX9_isTerm) := goodIn_app (goodIn_of _ (by decide +kernel)) ggX9_roundAbout_X9_isTerm
set_option maxRecDepth 20000 in
theorem ggX9_roundAbout_X9_isSet : GoodIn wsX9_roundAbout wsX9_isSet := goodIn_r _ [16, 9, 10, 11, 7, 12, 32, 33, 34, 35, 36, 37, 38, 39, 40, 41, 42, 43, 44, 45, 46, 47, 48, 49, 50, 51, 52, 53, 54] (by decide +kernel) (by decide +kernel)
set_option maxRecDepth 20000 in
theorem gX9_roundAbout_X9_isSet : GoodIn wsX9_roundAbout (wsV RX9 184 RX9 yX9_isSet wsX9_isSet) := goodIn_app (goodIn_of _ (by decide +kernel)) ggX9_roundAbout_X9_isSet
set_option maxRecDepth 20000 in
theorem ggX9_roundAbout_X9_refuses : GoodIn wsX9_roundAbout wsX9_refuses := goodIn_r _ [20, 21, 22, 32, 33, 34, 35, 36, 37, 38, 39, 40, 41, 42, 43, 44, 45, 46, 47, 48, 49, 50, 51, 52, 53, 54] (by decide +kernel) (by decide +kernel)
set_option maxRecDepth 20000 in
theorem gX9_roundAbout_X9_refuses : GoodIn wsX9_roundAbout (wsV RX9 61 RX9 yX9_refuses wsX9_refuses) := goodIn_app (goodIn_of _ (by decide +kernel)) ggX9_roundAbout_X9_refuses
set_option maxRecDepth 20000 in
theorem ggX9_roundAbout_X9_fewest : GoodIn wsX9_roundAbout wsX9_fewest := goodIn_r _ [26, 9, 1, 2, 32, 33, 34, 35, 36, 37, 38, 39, 40, 41, 42, 43, 44, 45, 46, 47, 48, 49, 50, 51, 52, 53, 54] (by decide +kernel) (by decide +kernel)
set_option maxRecDepth 20000 in
theorem gX9_roundAbout_X9_fewest : GoodIn wsX9_roundAbout (wsV RX9 187 RX9 yX9_fewest wsX9_fewest) := goodIn_app (goodIn_of _ (by decide +kernel)) ggX9_roundAbout_X9_fewest
set_option maxRecDepth 20000 in
theorem ggX9_roundAbout_X9_unrolls : GoodIn wsX9_roundAbout wsX9_unrolls := goodIn_r _ [30, 31, 1, 3, 9, 32, 33, 34, 35, 36, 37, 38, 39, 40, 41, 42, 43, 44, 45, 46, 47, 48, 49, 50, 51, 52, 53, 54] (by decide +kernel) (by decide +kernel)
set_option maxRecDepth 20000 in
theorem gX9_roundAbout_X9_unrolls : GoodIn wsX9_roundAbout (wsV RX9 191 RX9 yX9_unrolls wsX9_unrolls) := goodIn_app (goodIn_of _ (by decide +kernel)) ggX9_roundAbout_X9_unrolls
theorem dX9_roundAbout_0 : decode cX9_roundAbout 0 = .ok (.aload_n 0, 1) := by decide +kernel
theorem dX9_roundAbout_1 : decode cX9_roundAbout 1 = .ok (.iload_n 1, 1) := by decide +kernel
theorem dX9_roundAbout_2 : decode cX9_roundAbout 2 = .ok (.invokevirtual 84, 3) := by decide +kernel
theorem dX9_roundAbout_5 : decode cX9_roundAbout 5 = .ok (.ifCond .eq 16, 3) := by decide +kernel
theorem dX9_roundAbout_8 : decode cX9_roundAbout 8 = .ok (.aload_n 0, 1) := by decide +kernel
theorem dX9_roundAbout_9 : decode cX9_roundAbout 9 = .ok (.iload_n 2, 1) := by decide +kernel
theorem dX9_roundAbout_10 : decode cX9_roundAbout 10 = .ok (.invokevirtual 184, 3) := by decide +kernel
theorem dX9_roundAbout_13 : decode cX9_roundAbout 13 = .ok (.ifCond .eq 8, 3) := by decide +kernel
theorem dX9_roundAbout_16 : decode cX9_roundAbout 16 = .ok (.iload_n 3, 1) := by decide +kernel
theorem dX9_roundAbout_17 : decode cX9_roundAbout 17 = .ok (.iconst (-1), 1) := by decide +kernel
theorem dX9_roundAbout_18 : decode cX9_roundAbout 18 = .ok (.if_icmp .ge 11, 3) := by decide +kernel
theorem dX9_roundAbout_21 : decode cX9_roundAbout 21 = .ok (.aload_n 0, 1) := by decide +kernel
theorem dX9_roundAbout_22 : decode cX9_roundAbout 22 = .ok (.iconst 0, 1) := by decide +kernel
theorem dX9_roundAbout_23 : decode cX9_roundAbout 23 = .ok (.bipush (-10), 2) := by decide +kernel
theorem dX9_roundAbout_25 : decode cX9_roundAbout 25 = .ok (.invokevirtual 61, 3) := by decide +kernel
theorem dX9_roundAbout_28 : decode cX9_roundAbout 28 = .ok (.ireturn, 1) := by decide +kernel
theorem dX9_roundAbout_29 : decode cX9_roundAbout 29 = .ok (.aload_n 0, 1) := by decide +kernel
theorem dX9_roundAbout_30 : decode cX9_roundAbout 30 = .ok (.iload_n 2, 1) := by decide +kernel
theorem dX9_roundAbout_31 : decode cX9_roundAbout 31 = .ok (.invokevirtual 187, 3) := by decide +kernel
theorem dX9_roundAbout_34 : decode cX9_roundAbout 34 = .ok (.aload_n 0, 1) := by decide +kernel
theorem dX9_roundAbout_35 : decode cX9_roundAbout 35 = .ok (.getfield 32, 3) := by decide +kernel
theorem dX9_roundAbout_38 : decode cX9_roundAbout 38 = .ok (.iload_n 1, 1) := by decide +kernel
theorem dX9_roundAbout_39 : decode cX9_roundAbout 39 = .ok (.iaload, 1) := by decide +kernel
theorem dX9_roundAbout_40 : decode cX9_roundAbout 40 = .ok (.ldc 183, 2) := by decide +kernel
theorem dX9_roundAbout_42 : decode cX9_roundAbout 42 = .ok (.if_icmp .lt 5, 3) := by decide +kernel
theorem dX9_roundAbout_45 : decode cX9_roundAbout 45 = .ok (.iconst (-1), 1) := by decide +kernel
theorem dX9_roundAbout_46 : decode cX9_roundAbout 46 = .ok (.ireturn, 1) := by decide +kernel
theorem dX9_roundAbout_47 : decode cX9_roundAbout 47 = .ok (.aload_n 0, 1) := by decide +kernel
theorem dX9_roundAbout_48 : decode cX9_roundAbout 48 = .ok (.iload_n 1, 1) := by decide +kernel
theorem dX9_roundAbout_49 : decode cX9_roundAbout 49 = .ok (.invokevirtual 191, 3) := by decide +kernel
theorem dX9_roundAbout_52 : decode cX9_roundAbout 52 = .ok (.istore 4, 2) := by decide +kernel
theorem dX9_roundAbout_54 : decode cX9_roundAbout 54 = .ok (.iload_n 3, 1) := by decide +kernel
theorem dX9_roundAbout_55 : decode cX9_roundAbout 55 = .ok (.iconst (-1), 1) := by decide +kernel
theorem dX9_roundAbout_56 : decode cX9_roundAbout 56 = .ok (.if_icmp .ne 8, 3) := by decide +kernel
theorem dX9_roundAbout_59 : decode cX9_roundAbout 59 = .ok (.iload 4, 2) := by decide +kernel
theorem dX9_roundAbout_61 : decode cX9_roundAbout 61 = .ok (.goto 20, 3) := by decide +kernel
theorem dX9_roundAbout_64 : decode cX9_roundAbout 64 = .ok (.iload_n 3, 1) := by decide +kernel
theorem dX9_roundAbout_65 : decode cX9_roundAbout 65 = .ok (.iload 4, 2) := by decide +kernel
theorem dX9_roundAbout_67 : decode cX9_roundAbout 67 = .ok (.if_icmp .ge 12, 3) := by decide +kernel
theorem dX9_roundAbout_70 : decode cX9_roundAbout 70 = .ok (.aload_n 0, 1) := by decide +kernel
theorem dX9_roundAbout_71 : decode cX9_roundAbout 71 = .ok (.getfield 38, 3) := by decide +kernel
theorem dX9_roundAbout_74 : decode cX9_roundAbout 74 = .ok (.iload_n 3, 1) := by decide +kernel
theorem dX9_roundAbout_75 : decode cX9_roundAbout 75 = .ok (.iaload, 1) := by decide +kernel
theorem dX9_roundAbout_76 : decode cX9_roundAbout 76 = .ok (.goto 5, 3) := by decide +kernel
theorem dX9_roundAbout_79 : decode cX9_roundAbout 79 = .ok (.bipush (-5), 2) := by decide +kernel
theorem dX9_roundAbout_81 : decode cX9_roundAbout 81 = .ok (.ireturn, 1) := by decide +kernel
set_option maxRecDepth 20000 in
theorem ggX9_want_X9_isOne : GoodIn wsX9_want wsX9_isOne := goodIn_r _ [7, 8, 9, 10, 6, 11] (by decide +kernel) (by decide +kernel)
set_option maxRecDepth 20000 in
theorem gX9_want_X9_isOne : GoodIn wsX9_want (va_wsS RX9 100 yX9_isOne wsX9_isOne) := goodIn_app (goodIn_of _ (by decide +kernel)) ggX9_want_X9_isOne
set_option maxRecDepth 20000 in
theorem ggX9_want_X9_isSet : GoodIn wsX9_want wsX9_isSet := goodIn_r _ [15, 3, 9, 10, 6, 11, 33, 34, 35, 36, 37, 38, 39, 40, 41, 42, 43, 44, 45, 46, 47, 48, 49, 50, 51, 52, 53, 54, 55] (by decide +kernel) (by decide +kernel)
set_option maxRecDepth 20000 in
theorem gX9_want_X9_isSet : GoodIn wsX9_want (wsV RX9 184 RX9 yX9_isSet wsX9_isSet) := goodIn_app (goodIn_of _ (by decide +kernel)) ggX9_want_X9_isSet
set_option maxRecDepth 20000 in
theorem ggX9_want_X9_bits : GoodIn wsX9_want wsX9_bits := goodIn_r _ [18] (by decide +kernel) (by decide +kernel)
set_option maxRecDepth 20000 in
theorem gX9_want_X9_bits : GoodIn wsX9_want (va_wsS RX9 194 yX9_bits wsX9_bits) := goodIn_app (goodIn_of _ (by decide +kernel)) ggX9_want_X9_bits
set_option maxRecDepth 20000 in
theorem ggX9_want_X9_is : GoodIn wsX9_want wsX9_is := goodIn_r _ [11] (by decide +kernel) (by decide +kernel)
set_option maxRecDepth 20000 in
theorem gX9_want_X9_is : GoodIn wsX9_want (va_wsS RX9 65 yX9_is wsX9_is) := goodIn_app (goodIn_of _ (by decide +kernel)) ggX9_want_X9_is
set_option maxRecDepth 20000 in
theorem ggX9_want_X9_bad : GoodIn wsX9_want wsX9_bad := goodIn_r _ [22, 23, 24, 25, 6, 26, 27, 28, 33, 34, 35, 36, 37, 38, 39, 40, 41, 42, 43, 44, 45, 46, 47, 48, 49, 50, 51, 52, 53, 54, 55] (by decide +kernel) (by decide +kernel)
set_option maxRecDepth 20000 in
theorem gX9_want_X9_bad : GoodIn wsX9_want (wsV RX9 77 RX9 yX9_bad wsX9_bad) := goodIn_app (goodIn_of _ (by decide +kernel)) ggX9_want_X9_bad
set_option maxRecDepth 20000 in
theorem ggX9_want_X9_full : GoodIn wsX9_want wsX9_full := goodIn_r _ [32, 23, 24, 25, 6, 26, 27, 28, 33, 34, 35, 36, 37, 38, 39, 40, 41, 42, 43, 44, 45, 46, 47, 48, 49, 50, 51, 52, 53, 54, 55] (by decide +kernel) (by decide +kernel)
set_option maxRecDepth 20000 in
theorem gX9_want_X9_full : GoodIn wsX9_want (wsV RX9 81 RX9 yX9_full wsX9_full) := goodIn_app (goodIn_of _ (by decide +kernel)) ggX9_want_X9_full
theorem dX9_want_0 : decode cX9_want 0 = .ok (.iload_n 1, 1) := by decide +kernel
theorem dX9_want_1 : decode cX9_want 1 = .ok (.invokestatic 100, 3) := by decide +kernel
theorem dX9_want_4 : decode cX9_want 4 = .ok (.ifCond .eq 59, 3) := by decide +kernel
theorem dX9_want_7 : decode cX9_want 7 = .ok (.aload_n 0, 1) := by decide +kernel
theorem dX9_want_8 : decode cX9_want 8 = .ok (.iload_n 2, 1) := by decide +kernel
theorem dX9_want_9 : decode cX9_want 9 = .ok (.invokevirtual 184, 3) := by decide +kernel
theorem dX9_want_12 : decode cX9_want 12 = .ok (.ifCond .eq 51, 3) := by decide +kernel
theorem dX9_want_15 : decode cX9_want 15 = .ok (.iload_n 2, 1) := by decide +kernel
theorem dX9_want_16 : decode cX9_want 16 = .ok (.invokestatic 194, 3) := by decide +kernel
theorem dX9_want_19 : decode cX9_want 19 = .ok (.i2l, 1) := by decide +kernel
theorem dX9_want_20 : decode cX9_want 20 = .ok (.lconst 1, 1) := by decide +kernel
theorem dX9_want_21 : decode cX9_want 21 = .ok (.ldc2_w 73, 3) := by decide +kernel
theorem dX9_want_24 : decode cX9_want 24 = .ok (.invokestatic 65, 3) := by decide +kernel
theorem dX9_want_27 : decode cX9_want 27 = .ok (.ifCond .eq 36, 3) := by decide +kernel
theorem dX9_want_30 : decode cX9_want 30 = .ok (.iload 4, 2) := by decide +kernel
theorem dX9_want_32 : decode cX9_want 32 = .ok (.i2l, 1) := by decide +kernel
theorem dX9_want_33 : decode cX9_want 33 = .ok (.lconst 0, 1) := by decide +kernel
theorem dX9_want_34 : decode cX9_want 34 = .ok (.ldc2_w 103, 3) := by decide +kernel
theorem dX9_want_37 : decode cX9_want 37 = .ok (.invokestatic 65, 3) := by decide +kernel
theorem dX9_want_40 : decode cX9_want 40 = .ok (.ifCond .eq 23, 3) := by decide +kernel
theorem dX9_want_43 : decode cX9_want 43 = .ok (.iload_n 3, 1) := by decide +kernel
theorem dX9_want_44 : decode cX9_want 44 = .ok (.i2l, 1) := by decide +kernel
theorem dX9_want_45 : decode cX9_want 45 = .ok (.lconst 0, 1) := by decide +kernel
theorem dX9_want_46 : decode cX9_want 46 = .ok (.iload 4, 2) := by decide +kernel
theorem dX9_want_48 : decode cX9_want 48 = .ok (.i2l, 1) := by decide +kernel
theorem dX9_want_49 : decode cX9_want 49 = .ok (.invokestatic 65, 3) := by decide +kernel
theorem dX9_want_52 : decode cX9_want 52 = .ok (.ifCond .eq 11, 3) := by decide +kernel
theorem dX9_want_55 : decode cX9_want 55 = .ok (.iload 4, 2) := by decide +kernel
theorem dX9_want_57 : decode cX9_want 57 = .ok (.iload_n 3, 1) := by decide +kernel
theorem dX9_want_58 : decode cX9_want 58 = .ok (.isub, 1) := by decide +kernel
theorem dX9_want_59 : decode cX9_want 59 = .ok (.iconst 5, 1) := by decide +kernel
theorem dX9_want_60 : decode cX9_want 60 = .ok (.if_icmp .le 8, 3) := by decide +kernel
theorem dX9_want_63 : decode cX9_want 63 = .ok (.aload_n 0, 1) := by decide +kernel
theorem dX9_want_64 : decode cX9_want 64 = .ok (.invokevirtual 77, 3) := by decide +kernel
theorem dX9_want_67 : decode cX9_want 67 = .ok (.ireturn, 1) := by decide +kernel
theorem dX9_want_68 : decode cX9_want 68 = .ok (.aload_n 0, 1) := by decide +kernel
theorem dX9_want_69 : decode cX9_want 69 = .ok (.getfield 7, 3) := by decide +kernel
theorem dX9_want_72 : decode cX9_want 72 = .ok (.iconst 4, 1) := by decide +kernel
theorem dX9_want_73 : decode cX9_want 73 = .ok (.iaload, 1) := by decide +kernel
theorem dX9_want_74 : decode cX9_want 74 = .ok (.iconst 5, 1) := by decide +kernel
theorem dX9_want_75 : decode cX9_want 75 = .ok (.if_icmp .ne 8, 3) := by decide +kernel
theorem dX9_want_78 : decode cX9_want 78 = .ok (.aload_n 0, 1) := by decide +kernel
theorem dX9_want_79 : decode cX9_want 79 = .ok (.invokevirtual 81, 3) := by decide +kernel
theorem dX9_want_82 : decode cX9_want 82 = .ok (.ireturn, 1) := by decide +kernel
