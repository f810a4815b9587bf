theorem dX3_stuckAfter_5 : decode cX3_stuckAfter 5 = .ok (.istore 4, 2) := by decide +kernel
theorem dX3_stuckAfter_7 : decode cX3_stuckAfter 7 = .ok (.iload 4, 2) := by decide +kernel
theorem dX3_stuckAfter_9 : decode cX3_stuckAfter 9 = .ok (.iconst 5, 1) := by decide +kernel
theorem dX3_stuckAfter_10 : decode cX3_stuckAfter 10 = .ok (.if_icmp .gt 59, 3) := by decide +kernel
theorem dX3_stuckAfter_13 : decode cX3_stuckAfter 13 = .ok (.iload_n 2, 1) := by decide +kernel
theorem dX3_stuckAfter_14 : decode cX3_stuckAfter 14 = .ok (.iload_n 3, 1) := by decide +kernel
theorem dX3_stuckAfter_15 : decode cX3_stuckAfter 15 = .ok (.if_icmp .eq 54, 3) := by decide +kernel
theorem dX3_stuckAfter_18 : decode cX3_stuckAfter 18 = .ok (.iload_n 2, 1) := by decide +kernel
theorem dX3_stuckAfter_19 : decode cX3_stuckAfter 19 = .ok (.istore_n 3, 1) := by decide +kernel
theorem dX3_stuckAfter_20 : decode cX3_stuckAfter 20 = .ok (.aload_n 0, 1) := by decide +kernel
theorem dX3_stuckAfter_21 : decode cX3_stuckAfter 21 = .ok (.iload_n 2, 1) := by decide +kernel
theorem dX3_stuckAfter_22 : decode cX3_stuckAfter 22 = .ok (.invokestatic 9, 3) := by decide +kernel
theorem dX3_stuckAfter_25 : decode cX3_stuckAfter 25 = .ok (.istore 5, 2) := by decide +kernel
theorem dX3_stuckAfter_27 : decode cX3_stuckAfter 27 = .ok (.iconst 0, 1) := by decide +kernel
theorem dX3_stuckAfter_28 : decode cX3_stuckAfter 28 = .ok (.istore 6, 2) := by decide +kernel
theorem dX3_stuckAfter_30 : decode cX3_stuckAfter 30 = .ok (.iload 6, 2) := by decide +kernel
theorem dX3_stuckAfter_32 : decode cX3_stuckAfter 32 = .ok (.iconst 5, 1) := by decide +kernel
theorem dX3_stuckAfter_33 : decode cX3_stuckAfter 33 = .ok (.if_icmp .ge 30, 3) := by decide +kernel
theorem dX3_stuckAfter_36 : decode cX3_stuckAfter 36 = .ok (.aload_n 0, 1) := by decide +kernel
theorem dX3_stuckAfter_37 : decode cX3_stuckAfter 37 = .ok (.iload 6, 2) := by decide +kernel
theorem dX3_stuckAfter_39 : decode cX3_stuckAfter 39 = .ok (.invokevirtual 15, 3) := by decide +kernel
theorem dX3_stuckAfter_42 : decode cX3_stuckAfter 42 = .ok (.iload 5, 2) := by decide +kernel
theorem dX3_stuckAfter_44 : decode cX3_stuckAfter 44 = .ok (.iconst (-1), 1) := by decide +kernel
theorem dX3_stuckAfter_45 : decode cX3_stuckAfter 45 = .ok (.ixor, 1) := by decide +kernel
theorem dX3_stuckAfter_46 : decode cX3_stuckAfter 46 = .ok (.iand, 1) := by decide +kernel
theorem dX3_stuckAfter_47 : decode cX3_stuckAfter 47 = .ok (.ifCond .ne 10, 3) := by decide +kernel
theorem dX3_stuckAfter_50 : decode cX3_stuckAfter 50 = .ok (.iload_n 2, 1) := by decide +kernel
theorem dX3_stuckAfter_51 : decode cX3_stuckAfter 51 = .ok (.iconst 1, 1) := by decide +kernel
theorem dX3_stuckAfter_52 : decode cX3_stuckAfter 52 = .ok (.iload 6, 2) := by decide +kernel
theorem dX3_stuckAfter_54 : decode cX3_stuckAfter 54 = .ok (.ishl, 1) := by decide +kernel
theorem dX3_stuckAfter_55 : decode cX3_stuckAfter 55 = .ok (.ior, 1) := by decide +kernel
theorem dX3_stuckAfter_56 : decode cX3_stuckAfter 56 = .ok (.istore_n 2, 1) := by decide +kernel
theorem dX3_stuckAfter_57 : decode cX3_stuckAfter 57 = .ok (.iinc 6 1, 3) := by decide +kernel
theorem dX3_stuckAfter_60 : decode cX3_stuckAfter 60 = .ok (.goto (-30), 3) := by decide +kernel
theorem dX3_stuckAfter_63 : decode cX3_stuckAfter 63 = .ok (.iinc 4 1, 3) := by decide +kernel
theorem dX3_stuckAfter_66 : decode cX3_stuckAfter 66 = .ok (.goto (-59), 3) := by decide +kernel
theorem dX3_stuckAfter_69 : decode cX3_stuckAfter 69 = .ok (.bipush 31, 2) := by decide +kernel
theorem dX3_stuckAfter_71 : decode cX3_stuckAfter 71 = .ok (.iload_n 2, 1) := by decide +kernel
theorem dX3_stuckAfter_72 : decode cX3_stuckAfter 72 = .ok (.iconst (-1), 1) := by decide +kernel
theorem dX3_stuckAfter_73 : decode cX3_stuckAfter 73 = .ok (.ixor, 1) := by decide +kernel
theorem dX3_stuckAfter_74 : decode cX3_stuckAfter 74 = .ok (.iand, 1) := by decide +kernel
theorem dX3_stuckAfter_75 : decode cX3_stuckAfter 75 = .ok (.ireturn, 1) := by decide +kernel
set_option maxRecDepth 20000 in
theorem ggX3_leastBreak_X3_stuckAfter : GoodIn wsX3_leastBreak wsX3_stuckAfter := goodIn_r _ [4, 5, 6, 3, 7, 8, 9, 10, 11, 12, 13, 14, 15, 16, 17, 18, 19, 20, 21, 22, 23, 24, 25, 26, 27, 28, 29, 30, 31, 32, 33, 34, 35, 36, 37, 38, 39, 40, 41, 42, 43, 44, 45, 46, 47, 48, 49, 50, 51, 52, 60, 61, 62, 63, 64, 65, 66, 67, 68, 69, 70, 71, 72] (by decide +kernel) (by decide +kernel)
set_option maxRecDepth 20000 in
theorem gX3_leastBreak_X3_stuckAfter : GoodIn wsX3_leastBreak (va_wsS RX3 21 yX3_stuckAfter wsX3_stuckAfter) := goodIn_app (goodIn_of _ (by decide +kernel)) ggX3_leastBreak_X3_stuckAfter
set_option maxRecDepth 20000 in
theorem ggX3_leastBreak_J6_bitCount_0f7a4 : GoodIn wsX3_leastBreak wsJ6_bitCount_0f7a4 := goodIn_r _ [56, 57, 58, 59] (by decide +kernel) (by decide +kernel)
set_option maxRecDepth 20000 in
theorem gX3_leastBreak_J6_bitCount_0f7a4 : GoodIn wsX3_leastBreak (va_wsS RX3 24 yJ6_bitCount_0f7a4 wsJ6_bitCount_0f7a4) := goodIn_app (goodIn_of _ (by decide +kernel)) ggX3_leastBreak_J6_bitCount_0f7a4
theorem dX3_leastBreak_0 : decode cX3_leastBreak 0 = .ok (.aload_n 0, 1) := by decide +kernel
theorem dX3_leastBreak_1 : decode cX3_leastBreak 1 = .ok (.iconst 0, 1) := by decide +kernel
theorem dX3_leastBreak_2 : decode cX3_leastBreak 2 = .ok (.invokestatic 21, 3) := by decide +kernel
theorem dX3_leastBreak_5 : decode cX3_leastBreak 5 = .ok (.istore_n 1, 1) := by decide +kernel
theorem dX3_leastBreak_6 : decode cX3_leastBreak 6 = .ok (.iconst 0, 1) := by decide +kernel
theorem dX3_leastBreak_7 : decode cX3_leastBreak 7 = .ok (.istore_n 2, 1) := by decide +kernel
theorem dX3_leastBreak_8 : decode cX3_leastBreak 8 = .ok (.iload_n 2, 1) := by decide +kernel
theorem dX3_leastBreak_9 : decode cX3_leastBreak 9 = .ok (.iconst 5, 1) := by decide +kernel
theorem dX3_leastBreak_10 : decode cX3_leastBreak 10 = .ok (.if_icmp .gt 48, 3) := by decide +kernel
theorem dX3_leastBreak_13 : decode cX3_leastBreak 13 = .ok (.iconst 0, 1) := by decide +kernel
theorem dX3_leastBreak_14 : decode cX3_leastBreak 14 = .ok (.istore_n 3, 1) := by decide +kernel
theorem dX3_leastBreak_15 : decode cX3_leastBreak 15 = .ok (.iload_n 3, 1) := by decide +kernel
theorem dX3_leastBreak_16 : decode cX3_leastBreak 16 = .ok (.iload_n 1, 1) := by decide +kernel
theorem dX3_leastBreak_17 : decode cX3_leastBreak 17 = .ok (.if_icmp .gt 35, 3) := by decide +kernel
theorem dX3_leastBreak_20 : decode cX3_leastBreak 20 = .ok (.iload_n 3, 1) := by decide +kernel
theorem dX3_leastBreak_21 : decode cX3_leastBreak 21 = .ok (.invokestatic 24, 3) := by decide +kernel
theorem dX3_leastBreak_24 : decode cX3_leastBreak 24 = .ok (.iload_n 2, 1) := by decide +kernel
theorem dX3_leastBreak_25 : decode cX3_leastBreak 25 = .ok (.if_icmp .ne 21, 3) := by decide +kernel
theorem dX3_leastBreak_28 : decode cX3_leastBreak 28 = .ok (.iload_n 3, 1) := by decide +kernel
theorem dX3_leastBreak_29 : decode cX3_leastBreak 29 = .ok (.iload_n 1, 1) := by decide +kernel
theorem dX3_leastBreak_30 : decode cX3_leastBreak 30 = .ok (.iconst (-1), 1) := by decide +kernel
theorem dX3_leastBreak_31 : decode cX3_leastBreak 31 = .ok (.ixor, 1) := by decide +kernel
theorem dX3_leastBreak_32 : decode cX3_leastBreak 32 = .ok (.iand, 1) := by decide +kernel
theorem dX3_leastBreak_33 : decode cX3_leastBreak 33 = .ok (.ifCond .ne 13, 3) := by decide +kernel
theorem dX3_leastBreak_36 : decode cX3_leastBreak 36 = .ok (.aload_n 0, 1) := by decide +kernel
theorem dX3_leastBreak_37 : decode cX3_leastBreak 37 = .ok (.iload_n 3, 1) := by decide +kernel
theorem dX3_leastBreak_38 : decode cX3_leastBreak 38 = .ok (.invokestatic 21, 3) := by decide +kernel
theorem dX3_leastBreak_41 : decode cX3_leastBreak 41 = .ok (.ifCond .ne 5, 3) := by decide +kernel
theorem dX3_leastBreak_44 : decode cX3_leastBreak 44 = .ok (.iload_n 3, 1) := by decide +kernel
theorem dX3_leastBreak_45 : decode cX3_leastBreak 45 = .ok (.ireturn, 1) := by decide +kernel
theorem dX3_leastBreak_46 : decode cX3_leastBreak 46 = .ok (.iinc 3 1, 3) := by decide +kernel
theorem dX3_leastBreak_49 : decode cX3_leastBreak 49 = .ok (.goto (-34), 3) := by decide +kernel
theorem dX3_leastBreak_52 : decode cX3_leastBreak 52 = .ok (.iinc 2 1, 3) := by decide +kernel
theorem dX3_leastBreak_55 : decode cX3_leastBreak 55 = .ok (.goto (-47), 3) := by decide +kernel
theorem dX3_leastBreak_58 : decode cX3_leastBreak 58 = .ok (.iload_n 1, 1) := by decide +kernel
theorem dX3_leastBreak_59 : decode cX3_leastBreak 59 = .ok (.ireturn, 1) := by decide +kernel
set_option maxRecDepth 20000 in
theorem ggX3_freeTerms_X4_size : GoodIn wsX3_freeTerms wsX4_size := goodIn_r _ [5, 6, 50, 51, 52, 53] (by decide +kernel) (by decide +kernel)
set_option maxRecDepth 20000 in
theorem gX3_freeTerms_X4_size : GoodIn wsX3_freeTerms (wsV RX3 33 RX4 yX4_size wsX4_size) := goodIn_app (goodIn_of _ (by decide +kernel)) ggX3_freeTerms_X4_size
set_option maxRecDepth 20000 in
theorem ggX3_freeTerms_X8_hasBit : GoodIn wsX3_freeTerms wsX8_hasBit := goodIn_r _ [9] (by decide +kernel) (by decide +kernel)
set_option maxRecDepth 20000 in
theorem gX3_freeTerms_X8_hasBit_n39 : GoodIn wsX3_freeTerms (wsX8_hasBit) := ggX3_freeTerms_X8_hasBit
set_option maxRecDepth 20000 in
theorem ggX3_freeTerms_X0_hasNow : GoodIn wsX3_freeTerms wsX0_hasNow := goodIn_r _ [14, 15, 16, 8, 17, 41, 42, 43, 44, 45, 46, 47, 48, 49] (by decide +kernel) (by decide +kernel)
set_option maxRecDepth 20000 in
theorem gX3_freeTerms_X0_hasNow : GoodIn wsX3_freeTerms (wsV RX3 43 RX0 yX0_hasNow wsX0_hasNow) := goodIn_app (goodIn_of _ (by decide +kernel)) ggX3_freeTerms_X0_hasNow
set_option maxRecDepth 20000 in
theorem ggX3_freeTerms_X0_mayHave : GoodIn wsX3_freeTerms wsX0_mayHave := goodIn_r _ [21, 22, 23, 24, 25, 4, 26, 6, 27, 28, 29, 13, 30, 31, 32, 33, 34, 35, 36, 37, 38, 39, 40, 41, 42, 43, 44, 45, 46, 47, 48, 49, 50, 51, 52, 53] (by decide +kernel) (by decide +kernel)
set_option maxRecDepth 20000 in
theorem gX3_freeTerms_X0_mayHave : GoodIn wsX3_freeTerms (wsV RX3 46 RX0 yX0_mayHave wsX0_mayHave) := goodIn_app (goodIn_of _ (by decide +kernel)) ggX3_freeTerms_X0_mayHave
theorem dX3_freeTerms_0 : decode cX3_freeTerms 0 = .ok (.iconst 0, 1) := by decide +kernel
theorem dX3_freeTerms_1 : decode cX3_freeTerms 1 = .ok (.istore_n 2, 1) := by decide +kernel
theorem dX3_freeTerms_2 : decode cX3_freeTerms 2 = .ok (.iconst 0, 1) := by decide +kernel
theorem dX3_freeTerms_3 : decode cX3_freeTerms 3 = .ok (.istore_n 3, 1) := by decide +kernel
theorem dX3_freeTerms_4 : decode cX3_freeTerms 4 = .ok (.iload_n 3, 1) := by decide +kernel
theorem dX3_freeTerms_5 : decode cX3_freeTerms 5 = .ok (.aload_n 0, 1) := by decide +kernel
theorem dX3_freeTerms_6 : decode cX3_freeTerms 6 = .ok (.getfield 29, 3) := by decide +kernel
theorem dX3_freeTerms_9 : decode cX3_freeTerms 9 = .ok (.invokevirtual 33, 3) := by decide +kernel
theorem dX3_freeTerms_12 : decode cX3_freeTerms 12 = .ok (.if_icmp .ge 68, 3) := by decide +kernel
theorem dX3_freeTerms_15 : decode cX3_freeTerms 15 = .ok (.iconst 0, 1) := by decide +kernel
theorem dX3_freeTerms_16 : decode cX3_freeTerms 16 = .ok (.istore 4, 2) := by decide +kernel
theorem dX3_freeTerms_18 : decode cX3_freeTerms 18 = .ok (.iconst 0, 1) := by decide +kernel
theorem dX3_freeTerms_19 : decode cX3_freeTerms 19 = .ok (.istore 5, 2) := by decide +kernel
theorem dX3_freeTerms_21 : decode cX3_freeTerms 21 = .ok (.iload 5, 2) := by decide +kernel
theorem dX3_freeTerms_23 : decode cX3_freeTerms 23 = .ok (.iconst 5, 1) := by decide +kernel
theorem dX3_freeTerms_24 : decode cX3_freeTerms 24 = .ok (.if_icmp .ge 34, 3) := by decide +kernel
theorem dX3_freeTerms_27 : decode cX3_freeTerms 27 = .ok (.iload_n 1, 1) := by decide +kernel
theorem dX3_freeTerms_28 : decode cX3_freeTerms 28 = .ok (.iload 5, 2) := by decide +kernel
theorem dX3_freeTerms_30 : decode cX3_freeTerms 30 = .ok (.invokestatic 39, 3) := by decide +kernel
theorem dX3_freeTerms_33 : decode cX3_freeTerms 33 = .ok (.ifCond .ne 19, 3) := by decide +kernel
theorem dX3_freeTerms_36 : decode cX3_freeTerms 36 = .ok (.aload_n 0, 1) := by decide +kernel
theorem dX3_freeTerms_37 : decode cX3_freeTerms 37 = .ok (.iload 5, 2) := by decide +kernel
theorem dX3_freeTerms_39 : decode cX3_freeTerms 39 = .ok (.invokevirtual 43, 3) := by decide +kernel
theorem dX3_freeTerms_42 : decode cX3_freeTerms 42 = .ok (.iload_n 3, 1) := by decide +kernel
theorem dX3_freeTerms_43 : decode cX3_freeTerms 43 = .ok (.invokestatic 39, 3) := by decide +kernel
theorem dX3_freeTerms_46 : decode cX3_freeTerms 46 = .ok (.ifCond .eq 6, 3) := by decide +kernel
theorem dX3_freeTerms_49 : decode cX3_freeTerms 49 = .ok (.iinc 4 1, 3) := by decide +kernel
theorem dX3_freeTerms_52 : decode cX3_freeTerms 52 = .ok (.iinc 5 1, 3) := by decide +kernel
theorem dX3_freeTerms_55 : decode cX3_freeTerms 55 = .ok (.goto (-34), 3) := by decide +kernel
theorem dX3_freeTerms_58 : decode cX3_freeTerms 58 = .ok (.iload 4, 2) := by decide +kernel
theorem dX3_freeTerms_60 : decode cX3_freeTerms 60 = .ok (.aload_n 0, 1) := by decide +kernel
theorem dX3_freeTerms_61 : decode cX3_freeTerms 61 = .ok (.iload_n 3, 1) := by decide +kernel
theorem dX3_freeTerms_62 : decode cX3_freeTerms 62 = .ok (.invokevirtual 46, 3) := by decide +kernel
theorem dX3_freeTerms_65 : decode cX3_freeTerms 65 = .ok (.if_icmp .ge 9, 3) := by decide +kernel
theorem dX3_freeTerms_68 : decode cX3_freeTerms 68 = .ok (.iload_n 2, 1) := by decide +kernel
theorem dX3_freeTerms_69 : decode cX3_freeTerms 69 = .ok (.iconst 1, 1) := by decide +kernel
theorem dX3_freeTerms_70 : decode cX3_freeTerms 70 = .ok (.iload_n 3, 1) := by decide +kernel
theorem dX3_freeTerms_71 : decode cX3_freeTerms 71 = .ok (.ishl, 1) := by decide +kernel
theorem dX3_freeTerms_72 : decode cX3_freeTerms 72 = .ok (.ior, 1) := by decide +kernel
theorem dX3_freeTerms_73 : decode cX3_freeTerms 73 = .ok (.istore_n 2, 1) := by decide +kernel
theorem dX3_freeTerms_74 : decode cX3_freeTerms 74 = .ok (.iinc 3 1, 3) := by decide +kernel
theorem dX3_freeTerms_77 : decode cX3_freeTerms 77 = .ok (.goto (-73), 3) := by decide +kernel
theorem dX3_freeTerms_80 : decode cX3_freeTerms 80 = .ok (.iload_n 2, 1) := by decide +kernel
theorem dX3_freeTerms_81 : decode cX3_freeTerms 81 = .ok (.ireturn, 1) := by decide +kernel
theorem dX4_init_0 : decode cX4_init 0 = .ok (.aload_n 0, 1) := by decide +kernel
theorem dX4_init_1 : decode cX4_init 1 = .ok (.invokespecial 3, 3) := by decide +kernel
theorem dX4_init_4 : decode cX4_init 4 = .ok (.aload_n 0, 1) := by decide +kernel
theorem dX4_init_5 : decode cX4_init 5 = .ok (.bipush 40, 2) := by decide +kernel
theorem dX4_init_7 : decode cX4_init 7 = .ok (.newarray .int, 2) := by decide +kernel
theorem dX4_init_9 : decode cX4_init 9 = .ok (.putfield 11, 3) := by decide +kernel
theorem dX4_init_12 : decode cX4_init 12 = .ok (.aload_n 0, 1) := by decide +kernel
theorem dX4_init_13 : decode cX4_init 13 = .ok (.iconst 0, 1) := by decide +kernel
theorem dX4_init_14 : decode cX4_init 14 = .ok (.putfield 15, 3) := by decide +kernel
theorem dX4_init_17 : decode cX4_init 17 = .ok (.aload_n 0, 1) := by decide +kernel
theorem dX4_init_18 : decode cX4_init 18 = .ok (.iload_n 1, 1) := by decide +kernel
theorem dX4_init_19 : decode cX4_init 19 = .ok (.bipush 10, 2) := by decide +kernel
theorem dX4_init_21 : decode cX4_init 21 = .ok (.invokestatic 19, 3) := by decide +kernel
theorem dX4_init_24 : decode cX4_init 24 = .ok (.putfield 25, 3) := by decide +kernel
theorem dX4_init_27 : decode cX4_init 27 = .ok (.aload_n 0, 1) := by decide +kernel
theorem dX4_init_28 : decode cX4_init 28 = .ok (.iload_n 2, 1) := by decide +kernel
theorem dX4_init_29 : decode cX4_init 29 = .ok (.iconst 4, 1) := by decide +kernel
theorem dX4_init_30 : decode cX4_init 30 = .ok (.invokestatic 19, 3) := by decide +kernel
theorem dX4_init_33 : decode cX4_init 33 = .ok (.putfield 28, 3) := by decide +kernel
theorem dX4_init_36 : decode cX4_init 36 = .ok (.return_, 1) := by decide +kernel
theorem dX4_size_0 : decode cX4_size 0 = .ok (.aload_n 0, 1) := by decide +kernel
theorem dX4_size_1 : decode cX4_size 1 = .ok (.getfield 15, 3) := by decide +kernel
theorem dX4_size_4 : decode cX4_size 4 = .ok (.ireturn, 1) := by decide +kernel
theorem dX4_holds_0 : decode cX4_holds 0 = .ok (.iload_n 1, 1) := by decide +kernel
theorem dX4_holds_1 : decode cX4_holds 1 = .ok (.ifCond .lt 15, 3) := by decide +kernel
theorem dX4_holds_4 : decode cX4_holds 4 = .ok (.iload_n 1, 1) := by decide +kernel
theorem dX4_holds_5 : decode cX4_holds 5 = .ok (.aload_n 0, 1) := by decide +kernel
theorem dX4_holds_6 : decode cX4_holds 6 = .ok (.getfield 15, 3) := by decide +kernel
theorem dX4_holds_9 : decode cX4_holds 9 = .ok (.if_icmp .ge 7, 3) := by decide +kernel
theorem dX4_holds_12 : decode cX4_holds 12 = .ok (.iconst 1, 1) := by decide +kernel
theorem dX4_holds_13 : decode cX4_holds 13 = .ok (.goto 4, 3) := by decide +kernel
theorem dX4_holds_16 : decode cX4_holds 16 = .ok (.iconst 0, 1) := by decide +kernel
theorem dX4_holds_17 : decode cX4_holds 17 = .ok (.ireturn, 1) := by decide +kernel
theorem dX4_at_0 : decode cX4_at 0 = .ok (.iload_n 1, 1) := by decide +kernel
theorem dX4_at_1 : decode cX4_at 1 = .ok (.ifCond .lt 27, 3) := by decide +kernel
theorem dX4_at_4 : decode cX4_at 4 = .ok (.iload_n 1, 1) := by decide +kernel
theorem dX4_at_5 : decode cX4_at 5 = .ok (.aload_n 0, 1) := by decide +kernel
theorem dX4_at_6 : decode cX4_at 6 = .ok (.getfield 15, 3) := by decide +kernel
theorem dX4_at_9 : decode cX4_at 9 = .ok (.if_icmp .ge 19, 3) := by decide +kernel
theorem dX4_at_12 : decode cX4_at 12 = .ok (.iload_n 2, 1) := by decide +kernel
theorem dX4_at_13 : decode cX4_at 13 = .ok (.ifCond .lt 15, 3) := by decide +kernel
theorem dX4_at_16 : decode cX4_at 16 = .ok (.iload_n 2, 1) := by decide +kernel
theorem dX4_at_17 : decode cX4_at 17 = .ok (.aload_n 0, 1) := by decide +kernel
theorem dX4_at_18 : decode cX4_at 18 = .ok (.getfield 28, 3) := by decide +kernel
theorem dX4_at_21 : decode cX4_at 21 = .ok (.if_icmp .ge 7, 3) := by decide +kernel
theorem dX4_at_24 : decode cX4_at 24 = .ok (.iconst 1, 1) := by decide +kernel
theorem dX4_at_25 : decode cX4_at 25 = .ok (.goto 4, 3) := by decide +kernel
theorem dX4_at_28 : decode cX4_at 28 = .ok (.iconst 0, 1) := by decide +kernel
theorem dX4_at_29 : decode cX4_at 29 = .ok (.istore_n 3, 1) := by decide +kernel
theorem dX4_at_30 : decode cX4_at 30 = .ok (.iload_n 3, 1) := by decide +kernel
theorem dX4_at_31 : decode cX4_at 31 = .ok (.ifCond .eq 16, 3) := by decide +kernel
theorem dX4_at_34 : decode cX4_at 34 = .ok (.aload_n 0, 1) := by decide +kernel
theorem dX4_at_35 : decode cX4_at 35 = .ok (.getfield 11, 3) := by decide +kernel
theorem dX4_at_38 : decode cX4_at 38 = .ok (.iload_n 1, 1) := by decide +kernel
theorem dX4_at_39 : decode cX4_at 39 = .ok (.iconst 4, 1) := by decide +kernel
theorem dX4_at_40 : decode cX4_at 40 = .ok (.imul, 1) := by decide +kernel
theorem dX4_at_41 : decode cX4_at 41 = .ok (.iload_n 2, 1) := by decide +kernel
theorem dX4_at_42 : decode cX4_at 42 = .ok (.iadd, 1) := by decide +kernel
theorem dX4_at_43 : decode cX4_at 43 = .ok (.iaload, 1) := by decide +kernel
theorem dX4_at_44 : decode cX4_at 44 = .ok (.goto 4, 3) := by decide +kernel
theorem dX4_at_47 : decode cX4_at 47 = .ok (.iconst 0, 1) := by decide +kernel
theorem dX4_at_48 : decode cX4_at 48 = .ok (.ireturn, 1) := by decide +kernel
theorem dX4_add_0 : decode cX4_add 0 = .ok (.aload_n 0, 1) := by decide +kernel
theorem dX4_add_1 : decode cX4_add 1 = .ok (.getfield 15, 3) := by decide +kernel
theorem dX4_add_4 : decode cX4_add 4 = .ok (.aload_n 0, 1) := by decide +kernel
theorem dX4_add_5 : decode cX4_add 5 = .ok (.getfield 25, 3) := by decide +kernel
theorem dX4_add_8 : decode cX4_add 8 = .ok (.if_icmp .lt 6, 3) := by decide +kernel
theorem dX4_add_11 : decode cX4_add 11 = .ok (.bipush (-4), 2) := by decide +kernel
theorem dX4_add_13 : decode cX4_add 13 = .ok (.ireturn, 1) := by decide +kernel
theorem dX4_add_14 : decode cX4_add 14 = .ok (.aload_n 0, 1) := by decide +kernel
theorem dX4_add_15 : decode cX4_add 15 = .ok (.getfield 15, 3) := by decide +kernel
theorem dX4_add_18 : decode cX4_add 18 = .ok (.iconst 4, 1) := by decide +kernel
theorem dX4_add_19 : decode cX4_add 19 = .ok (.imul, 1) := by decide +kernel
theorem dX4_add_20 : decode cX4_add 20 = .ok (.istore 5, 2) := by decide +kernel
theorem dX4_add_22 : decode cX4_add 22 = .ok (.aload_n 0, 1) := by decide +kernel
theorem dX4_add_23 : decode cX4_add 23 = .ok (.getfield 11, 3) := by decide +kernel
theorem dX4_add_26 : decode cX4_add 26 = .ok (.iload 5, 2) := by decide +kernel
theorem dX4_add_28 : decode cX4_add 28 = .ok (.iload_n 1, 1) := by decide +kernel
theorem dX4_add_29 : decode cX4_add 29 = .ok (.iastore, 1) := by decide +kernel
theorem dX4_add_30 : decode cX4_add 30 = .ok (.aload_n 0, 1) := by decide +kernel
theorem dX4_add_31 : decode cX4_add 31 = .ok (.getfield 11, 3) := by decide +kernel
theorem dX4_add_34 : decode cX4_add 34 = .ok (.iload 5, 2) := by decide +kernel
theorem dX4_add_36 : decode cX4_add 36 = .ok (.iconst 1, 1) := by decide +kernel
theorem dX4_add_37 : decode cX4_add 37 = .ok (.iadd, 1) := by decide +kernel
theorem dX4_add_38 : decode cX4_add 38 = .ok (.iload_n 2, 1) := by decide +kernel
theorem dX4_add_39 : decode cX4_add 39 = .ok (.iastore, 1) := by decide +kernel
theorem dX4_add_40 : decode cX4_add 40 = .ok (.aload_n 0, 1) := by decide +kernel
theorem dX4_add_41 : decode cX4_add 41 = .ok (.getfield 11, 3) := by decide +kernel
theorem dX4_add_44 : decode cX4_add 44 = .ok (.iload 5, 2) := by decide +kernel
theorem dX4_add_46 : decode cX4_add 46 = .ok (.iconst 2, 1) := by decide +kernel
theorem dX4_add_47 : decode cX4_add 47 = .ok (.iadd, 1) := by decide +kernel
theorem dX4_add_48 : decode cX4_add 48 = .ok (.iload_n 3, 1) := by decide +kernel
theorem dX4_add_49 : decode cX4_add 49 = .ok (.iastore, 1) := by decide +kernel
theorem dX4_add_50 : decode cX4_add 50 = .ok (.aload_n 0, 1) := by decide +kernel
theorem dX4_add_51 : decode cX4_add 51 = .ok (.getfield 11, 3) := by decide +kernel
theorem dX4_add_54 : decode cX4_add 54 = .ok (.iload 5, 2) := by decide +kernel
theorem dX4_add_56 : decode cX4_add 56 = .ok (.iconst 3, 1) := by decide +kernel
theorem dX4_add_57 : decode cX4_add 57 = .ok (.iadd, 1) := by decide +kernel
theorem dX4_add_58 : decode cX4_add 58 = .ok (.iload 4, 2) := by decide +kernel
theorem dX4_add_60 : decode cX4_add 60 = .ok (.iastore, 1) := by decide +kernel
theorem dX4_add_61 : decode cX4_add 61 = .ok (.aload_n 0, 1) := by decide +kernel
theorem dX4_add_62 : decode cX4_add 62 = .ok (.dup, 1) := by decide +kernel
theorem dX4_add_63 : decode cX4_add 63 = .ok (.getfield 15, 3) := by decide +kernel
theorem dX4_add_66 : decode cX4_add 66 = .ok (.iconst 1, 1) := by decide +kernel
theorem dX4_add_67 : decode cX4_add 67 = .ok (.iadd, 1) := by decide +kernel
theorem dX4_add_68 : decode cX4_add 68 = .ok (.putfield 15, 3) := by decide +kernel
theorem dX4_add_71 : decode cX4_add 71 = .ok (.aload_n 0, 1) := by decide +kernel
theorem dX4_add_72 : decode cX4_add 72 = .ok (.getfield 15, 3) := by decide +kernel
theorem dX4_add_75 : decode cX4_add 75 = .ok (.iconst 1, 1) := by decide +kernel
theorem dX4_add_76 : decode cX4_add 76 = .ok (.isub, 1) := by decide +kernel
theorem dX4_add_77 : decode cX4_add 77 = .ok (.ireturn, 1) := by decide +kernel
theorem dX4_empty_0 : decode cX4_empty 0 = .ok (.aload_n 0, 1) := by decide +kernel
theorem dX4_empty_1 : decode cX4_empty 1 = .ok (.iconst 0, 1) := by decide +kernel
theorem dX4_empty_2 : decode cX4_empty 2 = .ok (.putfield 15, 3) := by decide +kernel
theorem dX4_empty_5 : decode cX4_empty 5 = .ok (.return_, 1) := by decide +kernel
theorem dX4_copyFrom_0 : decode cX4_copyFrom 0 = .ok (.aload_n 1, 1) := by decide +kernel
theorem dX4_copyFrom_1 : decode cX4_copyFrom 1 = .ok (.getfield 11, 3) := by decide +kernel
theorem dX4_copyFrom_4 : decode cX4_copyFrom 4 = .ok (.iconst 0, 1) := by decide +kernel
theorem dX4_copyFrom_5 : decode cX4_copyFrom 5 = .ok (.aload_n 0, 1) := by decide +kernel
theorem dX4_copyFrom_6 : decode cX4_copyFrom 6 = .ok (.getfield 11, 3) := by decide +kernel
theorem dX4_copyFrom_9 : decode cX4_copyFrom 9 = .ok (.iconst 0, 1) := by decide +kernel
theorem dX4_copyFrom_10 : decode cX4_copyFrom 10 = .ok (.bipush 40, 2) := by decide +kernel
theorem dX4_copyFrom_12 : decode cX4_copyFrom 12 = .ok (.invokestatic 31, 3) := by decide +kernel
theorem dX4_copyFrom_15 : decode cX4_copyFrom 15 = .ok (.aload_n 0, 1) := by decide +kernel
theorem dX4_copyFrom_16 : decode cX4_copyFrom 16 = .ok (.aload_n 1, 1) := by decide +kernel
theorem dX4_copyFrom_17 : decode cX4_copyFrom 17 = .ok (.getfield 15, 3) := by decide +kernel
theorem dX4_copyFrom_20 : decode cX4_copyFrom 20 = .ok (.putfield 15, 3) := by decide +kernel
theorem dX4_copyFrom_23 : decode cX4_copyFrom 23 = .ok (.return_, 1) := by decide +kernel
set_option maxRecDepth 20000 in
theorem ggX4_digestOn_X4_at : GoodIn wsX4_digestOn wsX4_at := goodIn_r _ [8, 1, 2, 9, 10, 11, 12, 13] (by decide +kernel) (by decide +kernel)
set_option maxRecDepth 20000 in
theorem gX4_digestOn_X4_at : GoodIn wsX4_digestOn (wsV RX4 39 RX4 yX4_at wsX4_at) := goodIn_app (goodIn_of _ (by decide +kernel)) ggX4_digestOn_X4_at
theorem dX4_digestOn_0 : decode cX4_digestOn 0 = .ok (.lload_n 1, 1) := by decide +kernel
theorem dX4_digestOn_1 : decode cX4_digestOn 1 = .ok (.lstore_n 3, 1) := by decide +kernel
theorem dX4_digestOn_2 : decode cX4_digestOn 2 = .ok (.iconst 0, 1) := by decide +kernel
theorem dX4_digestOn_3 : decode cX4_digestOn 3 = .ok (.istore 5, 2) := by decide +kernel
theorem dX4_digestOn_5 : decode cX4_digestOn 5 = .ok (.iload 5, 2) := by decide +kernel
theorem dX4_digestOn_7 : decode cX4_digestOn 7 = .ok (.aload_n 0, 1) := by decide +kernel
theorem dX4_digestOn_8 : decode cX4_digestOn 8 = .ok (.getfield 15, 3) := by decide +kernel
theorem dX4_digestOn_11 : decode cX4_digestOn 11 = .ok (.if_icmp .ge 43, 3) := by decide +kernel
theorem dX4_digestOn_14 : decode cX4_digestOn 14 = .ok (.iconst 0, 1) := by decide +kernel
theorem dX4_digestOn_15 : decode cX4_digestOn 15 = .ok (.istore 6, 2) := by decide +kernel
theorem dX4_digestOn_17 : decode cX4_digestOn 17 = .ok (.iload 6, 2) := by decide +kernel
theorem dX4_digestOn_19 : decode cX4_digestOn 19 = .ok (.aload_n 0, 1) := by decide +kernel
theorem dX4_digestOn_20 : decode cX4_digestOn 20 = .ok (.getfield 28, 3) := by decide +kernel
theorem dX4_digestOn_23 : decode cX4_digestOn 23 = .ok (.if_icmp .ge 25, 3) := by decide +kernel
theorem dX4_digestOn_26 : decode cX4_digestOn 26 = .ok (.ldc2_w 37, 3) := by decide +kernel
theorem dX4_digestOn_29 : decode cX4_digestOn 29 = .ok (.lload_n 3, 1) := by decide +kernel
theorem dX4_digestOn_30 : decode cX4_digestOn 30 = .ok (.lmul, 1) := by decide +kernel
theorem dX4_digestOn_31 : decode cX4_digestOn 31 = .ok (.aload_n 0, 1) := by decide +kernel
theorem dX4_digestOn_32 : decode cX4_digestOn 32 = .ok (.iload 5, 2) := by decide +kernel
theorem dX4_digestOn_34 : decode cX4_digestOn 34 = .ok (.iload 6, 2) := by decide +kernel
theorem dX4_digestOn_36 : decode cX4_digestOn 36 = .ok (.invokevirtual 39, 3) := by decide +kernel
theorem dX4_digestOn_39 : decode cX4_digestOn 39 = .ok (.i2l, 1) := by decide +kernel
theorem dX4_digestOn_40 : decode cX4_digestOn 40 = .ok (.ladd, 1) := by decide +kernel
theorem dX4_digestOn_41 : decode cX4_digestOn 41 = .ok (.lstore_n 3, 1) := by decide +kernel
theorem dX4_digestOn_42 : decode cX4_digestOn 42 = .ok (.iinc 6 1, 3) := by decide +kernel
theorem dX4_digestOn_45 : decode cX4_digestOn 45 = .ok (.goto (-28), 3) := by decide +kernel
theorem dX4_digestOn_48 : decode cX4_digestOn 48 = .ok (.iinc 5 1, 3) := by decide +kernel
theorem dX4_digestOn_51 : decode cX4_digestOn 51 = .ok (.goto (-46), 3) := by decide +kernel
theorem dX4_digestOn_54 : decode cX4_digestOn 54 = .ok (.lload_n 3, 1) := by decide +kernel
theorem dX4_digestOn_55 : decode cX4_digestOn 55 = .ok (.lreturn, 1) := by decide +kernel
theorem dX5_init_0 : decode cX5_init 0 = .ok (.aload_n 0, 1) := by decide +kernel
theorem dX5_init_1 : decode cX5_init 1 = .ok (.invokespecial 3, 3) := by decide +kernel
theorem dX5_init_4 : decode cX5_init 4 = .ok (.aload_n 0, 1) := by decide +kernel
theorem dX5_init_5 : decode cX5_init 5 = .ok (.bipush 8, 2) := by decide +kernel
theorem dX5_init_7 : decode cX5_init 7 = .ok (.newarray .int, 2) := by decide +kernel
theorem dX5_init_9 : decode cX5_init 9 = .ok (.putfield 9, 3) := by decide +kernel
theorem dX5_init_12 : decode cX5_init 12 = .ok (.aload_n 0, 1) := by decide +kernel
theorem dX5_init_13 : decode cX5_init 13 = .ok (.iconst 5, 1) := by decide +kernel
theorem dX5_init_14 : decode cX5_init 14 = .ok (.newarray .int, 2) := by decide +kernel
theorem dX5_init_16 : decode cX5_init 16 = .ok (.putfield 15, 3) := by decide +kernel
theorem dX5_init_19 : decode cX5_init 19 = .ok (.aload_n 0, 1) := by decide +kernel
theorem dX5_init_20 : decode cX5_init 20 = .ok (.iconst 5, 1) := by decide +kernel
theorem dX5_init_21 : decode cX5_init 21 = .ok (.newarray .int, 2) := by decide +kernel
theorem dX5_init_23 : decode cX5_init 23 = .ok (.putfield 18, 3) := by decide +kernel
theorem dX5_init_26 : decode cX5_init 26 = .ok (.aload_n 0, 1) := by decide +kernel
theorem dX5_init_27 : decode cX5_init 27 = .ok (.iconst 0, 1) := by decide +kernel
theorem dX5_init_28 : decode cX5_init 28 = .ok (.putfield 21, 3) := by decide +kernel
theorem dX5_init_31 : decode cX5_init 31 = .ok (.return_, 1) := by decide +kernel
set_option maxRecDepth 20000 in
theorem ggX5_mostMet_X0_mayHave : GoodIn wsX5_mostMet wsX0_mayHave := goodIn_r _ [7, 8, 9, 10, 11, 12, 13, 14, 15, 16, 17, 6, 18, 19, 20, 21, 22, 23, 24, 25, 26, 27, 28, 59, 60, 61, 62, 63, 64, 65, 66, 67, 68, 69, 70, 71] (by decide +kernel) (by decide +kernel)
set_option maxRecDepth 20000 in
theorem gX5_mostMet_X0_mayHave : GoodIn wsX5_mostMet (wsV RX5 25 RX0 yX0_mayHave wsX0_mayHave) := goodIn_app (goodIn_of _ (by decide +kernel)) ggX5_mostMet_X0_mayHave
set_option maxRecDepth 20000 in
theorem ggX5_mostMet_X5_choose : GoodIn wsX5_mostMet wsX5_choose := goodIn_r _ [32, 2, 33, 34, 35, 36, 37, 38, 39, 40, 41, 12, 42, 14, 43, 20, 21, 22, 23, 24, 44, 45, 46, 31, 47, 1, 48, 49, 50, 51, 52, 53, 54, 29, 30, 59, 60, 61, 62, 63, 64, 65, 66, 67, 55, 56, 57, 58, 68, 69, 70, 71] (by decide +kernel) (by decide +kernel)
set_option maxRecDepth 20000 in
theorem gX5_mostMet_X5_choose : GoodIn wsX5_mostMet (va_wsS RX5 31 yX5_choose wsX5_choose) := goodIn_app (goodIn_of _ (by decide +kernel)) ggX5_mostMet_X5_choose
theorem dX5_mostMet_0 : decode cX5_mostMet 0 = .ok (.iconst 0, 1) := by decide +kernel
theorem dX5_mostMet_1 : decode cX5_mostMet 1 = .ok (.istore_n 3, 1) := by decide +kernel
theorem dX5_mostMet_2 : decode cX5_mostMet 2 = .ok (.iload_n 3, 1) := by decide +kernel
theorem dX5_mostMet_3 : decode cX5_mostMet 3 = .ok (.bipush 8, 2) := by decide +kernel
theorem dX5_mostMet_5 : decode cX5_mostMet 5 = .ok (.if_icmp .ge 31, 3) := by decide +kernel
theorem dX5_mostMet_8 : decode cX5_mostMet 8 = .ok (.aload_n 0, 1) := by decide +kernel
theorem dX5_mostMet_9 : decode cX5_mostMet 9 = .ok (.getfield 9, 3) := by decide +kernel
theorem dX5_mostMet_12 : decode cX5_mostMet 12 = .ok (.iload_n 3, 1) := by decide +kernel
theorem dX5_mostMet_13 : decode cX5_mostMet 13 = .ok (.aload_n 1, 1) := by decide +kernel
theorem dX5_mostMet_14 : decode cX5_mostMet 14 = .ok (.iload_n 3, 1) := by decide +kernel
theorem dX5_mostMet_15 : decode cX5_mostMet 15 = .ok (.invokevirtual 25, 3) := by decide +kernel
theorem dX5_mostMet_18 : decode cX5_mostMet 18 = .ok (.iload_n 3, 1) := by decide +kernel
theorem dX5_mostMet_19 : decode cX5_mostMet 19 = .ok (.iload_n 2, 1) := by decide +kernel
theorem dX5_mostMet_20 : decode cX5_mostMet 20 = .ok (.if_icmp .ne 7, 3) := by decide +kernel
theorem dX5_mostMet_23 : decode cX5_mostMet 23 = .ok (.iconst 1, 1) := by decide +kernel
theorem dX5_mostMet_24 : decode cX5_mostMet 24 = .ok (.goto 4, 3) := by decide +kernel
theorem dX5_mostMet_27 : decode cX5_mostMet 27 = .ok (.iconst 0, 1) := by decide +kernel
theorem dX5_mostMet_28 : decode cX5_mostMet 28 = .ok (.iadd, 1) := by decide +kernel
theorem dX5_mostMet_29 : decode cX5_mostMet 29 = .ok (.iastore, 1) := by decide +kernel
theorem dX5_mostMet_30 : decode cX5_mostMet 30 = .ok (.iinc 3 1, 3) := by decide +kernel
theorem dX5_mostMet_33 : decode cX5_mostMet 33 = .ok (.goto (-31), 3) := by decide +kernel
theorem dX5_mostMet_36 : decode cX5_mostMet 36 = .ok (.aload_n 0, 1) := by decide +kernel
theorem dX5_mostMet_37 : decode cX5_mostMet 37 = .ok (.iconst (-1), 1) := by decide +kernel
theorem dX5_mostMet_38 : decode cX5_mostMet 38 = .ok (.putfield 21, 3) := by decide +kernel
theorem dX5_mostMet_41 : decode cX5_mostMet 41 = .ok (.aload_n 0, 1) := by decide +kernel
theorem dX5_mostMet_42 : decode cX5_mostMet 42 = .ok (.aload_n 1, 1) := by decide +kernel
theorem dX5_mostMet_43 : decode cX5_mostMet 43 = .ok (.iconst 0, 1) := by decide +kernel
theorem dX5_mostMet_44 : decode cX5_mostMet 44 = .ok (.iconst 0, 1) := by decide +kernel
theorem dX5_mostMet_45 : decode cX5_mostMet 45 = .ok (.invokestatic 31, 3) := by decide +kernel
theorem dX5_mostMet_48 : decode cX5_mostMet 48 = .ok (.aload_n 0, 1) := by decide +kernel
theorem dX5_mostMet_49 : decode cX5_mostMet 49 = .ok (.getfield 21, 3) := by decide +kernel
theorem dX5_mostMet_52 : decode cX5_mostMet 52 = .ok (.ireturn, 1) := by decide +kernel
theorem dX5_hourOf_0 : decode cX5_hourOf 0 = .ok (.iload_n 1, 1) := by decide +kernel
theorem dX5_hourOf_1 : decode cX5_hourOf 1 = .ok (.ifCond .lt 17, 3) := by decide +kernel
theorem dX5_hourOf_4 : decode cX5_hourOf 4 = .ok (.iload_n 1, 1) := by decide +kernel
theorem dX5_hourOf_5 : decode cX5_hourOf 5 = .ok (.iconst 5, 1) := by decide +kernel
theorem dX5_hourOf_6 : decode cX5_hourOf 6 = .ok (.if_icmp .ge 12, 3) := by decide +kernel
theorem dX5_hourOf_9 : decode cX5_hourOf 9 = .ok (.aload_n 0, 1) := by decide +kernel
theorem dX5_hourOf_10 : decode cX5_hourOf 10 = .ok (.getfield 18, 3) := by decide +kernel
theorem dX5_hourOf_13 : decode cX5_hourOf 13 = .ok (.iload_n 1, 1) := by decide +kernel
theorem dX5_hourOf_14 : decode cX5_hourOf 14 = .ok (.iaload, 1) := by decide +kernel
theorem dX5_hourOf_15 : decode cX5_hourOf 15 = .ok (.goto 5, 3) := by decide +kernel
theorem dX5_hourOf_18 : decode cX5_hourOf 18 = .ok (.bipush 24, 2) := by decide +kernel
theorem dX5_hourOf_20 : decode cX5_hourOf 20 = .ok (.ireturn, 1) := by decide +kernel
set_option maxRecDepth 20000 in
theorem ggX5_bestToBuy_X5_mostMet : GoodIn wsX5_bestToBuy wsX5_mostMet := goodIn_r _ [5, 6, 7, 8, 9, 10, 11, 12, 13, 14, 15, 16, 17, 18, 19, 20, 21, 22, 23, 24, 25, 26, 27, 28, 29, 30, 31, 32, 33, 34, 35, 4, 36, 37, 38, 39, 40, 41, 42, 43, 44, 45, 46, 47, 48, 49, 50, 51, 52, 53, 54, 55, 56, 57, 58, 69, 70, 71, 72, 60, 61, 62, 63, 64, 65, 66, 67, 68, 73, 74, 75, 76] (by decide +kernel) (by decide +kernel)
set_option maxRecDepth 20000 in
theorem gX5_bestToBuy_X5_mostMet : GoodIn wsX5_bestToBuy (wsV RX5 35 RX5 yX5_mostMet wsX5_mostMet) := goodIn_app (goodIn_of _ (by decide +kernel)) ggX5_bestToBuy_X5_mostMet
set_option maxRecDepth 20000 in
theorem ggX5_bestToBuy_X4_size : GoodIn wsX5_bestToBuy wsX4_size := goodIn_r _ [46, 19, 73, 74, 75, 76] (by decide +kernel) (by decide +kernel)
set_option maxRecDepth 20000 in
theorem gX5_bestToBuy_X4_size : GoodIn wsX5_bestToBuy (wsV RX5 43 RX4 yX4_size wsX4_size) := goodIn_app (goodIn_of _ (by decide +kernel)) ggX5_bestToBuy_X4_size
set_option maxRecDepth 20000 in
theorem ggX5_bestToBuy_X0_isOneAtATime : GoodIn wsX5_bestToBuy wsX0_isOneAtATime := goodIn_r _ [23, 13, 24, 25, 26, 17, 27, 19, 28, 29, 30, 31, 32, 33, 60, 61, 62, 63, 64, 65, 66, 67, 68, 73, 74, 75, 76] (by decide +kernel) (by decide +kernel)
set_option maxRecDepth 20000 in
theorem gX5_bestToBuy_X0_isOneAtATime : GoodIn wsX5_bestToBuy (wsV RX5 52 RX0 yX0_isOneAtATime wsX0_isOneAtATime) := goodIn_app (goodIn_of _ (by decide +kernel)) ggX5_bestToBuy_X0_isOneAtATime
set_option maxRecDepth 20000 in
theorem ggX5_bestToBuy_X0_mayHave : GoodIn wsX5_bestToBuy wsX0_mayHave := goodIn_r _ [12, 13, 14, 15, 16, 17, 18, 19, 20, 21, 22, 11, 23, 24, 25, 26, 27, 28, 29, 30, 31, 32, 33, 60, 61, 62, 63, 64, 65, 66, 67, 68, 73, 74, 75, 76] (by decide +kernel) (by decide +kernel)
set_option maxRecDepth 20000 in
theorem gX5_bestToBuy_X0_mayHave : GoodIn wsX5_bestToBuy (wsV RX5 25 RX0 yX0_mayHave wsX0_mayHave) := goodIn_app (goodIn_of _ (by decide +kernel)) ggX5_bestToBuy_X0_mayHave
theorem dX5_bestToBuy_0 : decode cX5_bestToBuy 0 = .ok (.aload_n 0, 1) := by decide +kernel
theorem dX5_bestToBuy_1 : decode cX5_bestToBuy 1 = .ok (.aload_n 1, 1) := by decide +kernel
theorem dX5_bestToBuy_2 : decode cX5_bestToBuy 2 = .ok (.iconst (-1), 1) := by decide +kernel
theorem dX5_bestToBuy_3 : decode cX5_bestToBuy 3 = .ok (.invokevirtual 35, 3) := by decide +kernel
theorem dX5_bestToBuy_6 : decode cX5_bestToBuy 6 = .ok (.istore_n 2, 1) := by decide +kernel
theorem dX5_bestToBuy_7 : decode cX5_bestToBuy 7 = .ok (.iconst (-1), 1) := by decide +kernel
theorem dX5_bestToBuy_8 : decode cX5_bestToBuy 8 = .ok (.istore_n 3, 1) := by decide +kernel
theorem dX5_bestToBuy_9 : decode cX5_bestToBuy 9 = .ok (.iconst 0, 1) := by decide +kernel
theorem dX5_bestToBuy_10 : decode cX5_bestToBuy 10 = .ok (.istore 4, 2) := by decide +kernel
theorem dX5_bestToBuy_12 : decode cX5_bestToBuy 12 = .ok (.iload 4, 2) := by decide +kernel
theorem dX5_bestToBuy_14 : decode cX5_bestToBuy 14 = .ok (.aload_n 1, 1) := by decide +kernel
theorem dX5_bestToBuy_15 : decode cX5_bestToBuy 15 = .ok (.getfield 39, 3) := by decide +kernel
theorem dX5_bestToBuy_18 : decode cX5_bestToBuy 18 = .ok (.invokevirtual 43, 3) := by decide +kernel
theorem dX5_bestToBuy_21 : decode cX5_bestToBuy 21 = .ok (.if_icmp .ge 76, 3) := by decide +kernel
theorem dX5_bestToBuy_24 : decode cX5_bestToBuy 24 = .ok (.iload_n 2, 1) := by decide +kernel
theorem dX5_bestToBuy_25 : decode cX5_bestToBuy 25 = .ok (.aload_n 1, 1) := by decide +kernel
theorem dX5_bestToBuy_26 : decode cX5_bestToBuy 26 = .ok (.getfield 49, 3) := by decide +kernel
theorem dX5_bestToBuy_29 : decode cX5_bestToBuy 29 = .ok (.invokevirtual 43, 3) := by decide +kernel
theorem dX5_bestToBuy_32 : decode cX5_bestToBuy 32 = .ok (.if_icmp .ge 65, 3) := by decide +kernel
theorem dX5_bestToBuy_35 : decode cX5_bestToBuy 35 = .ok (.aload_n 1, 1) := by decide +kernel
theorem dX5_bestToBuy_36 : decode cX5_bestToBuy 36 = .ok (.iload 4, 2) := by decide +kernel
theorem dX5_bestToBuy_38 : decode cX5_bestToBuy 38 = .ok (.invokevirtual 52, 3) := by decide +kernel
theorem dX5_bestToBuy_41 : decode cX5_bestToBuy 41 = .ok (.ifCond .ne 17, 3) := by decide +kernel
theorem dX5_bestToBuy_44 : decode cX5_bestToBuy 44 = .ok (.aload_n 1, 1) := by decide +kernel
theorem dX5_bestToBuy_45 : decode cX5_bestToBuy 45 = .ok (.iload 4, 2) := by decide +kernel
theorem dX5_bestToBuy_47 : decode cX5_bestToBuy 47 = .ok (.invokevirtual 25, 3) := by decide +kernel
theorem dX5_bestToBuy_50 : decode cX5_bestToBuy 50 = .ok (.iconst 3, 1) := by decide +kernel
theorem dX5_bestToBuy_51 : decode cX5_bestToBuy 51 = .ok (.if_icmp .ge 7, 3) := by decide +kernel
theorem dX5_bestToBuy_54 : decode cX5_bestToBuy 54 = .ok (.iconst 1, 1) := by decide +kernel
theorem dX5_bestToBuy_55 : decode cX5_bestToBuy 55 = .ok (.goto 4, 3) := by decide +kernel
theorem dX5_bestToBuy_58 : decode cX5_bestToBuy 58 = .ok (.iconst 0, 1) := by decide +kernel
theorem dX5_bestToBuy_59 : decode cX5_bestToBuy 59 = .ok (.istore 5, 2) := by decide +kernel
theorem dX5_bestToBuy_61 : decode cX5_bestToBuy 61 = .ok (.iload 5, 2) := by decide +kernel
theorem dX5_bestToBuy_63 : decode cX5_bestToBuy 63 = .ok (.ifCond .eq 13, 3) := by decide +kernel
theorem dX5_bestToBuy_66 : decode cX5_bestToBuy 66 = .ok (.aload_n 0, 1) := by decide +kernel
theorem dX5_bestToBuy_67 : decode cX5_bestToBuy 67 = .ok (.aload_n 1, 1) := by decide +kernel
theorem dX5_bestToBuy_68 : decode cX5_bestToBuy 68 = .ok (.iload 4, 2) := by decide +kernel
theorem dX5_bestToBuy_70 : decode cX5_bestToBuy 70 = .ok (.invokevirtual 35, 3) := by decide +kernel
theorem dX5_bestToBuy_73 : decode cX5_bestToBuy 73 = .ok (.goto 4, 3) := by decide +kernel
theorem dX5_bestToBuy_76 : decode cX5_bestToBuy 76 = .ok (.iconst 0, 1) := by decide +kernel
theorem dX5_bestToBuy_77 : decode cX5_bestToBuy 77 = .ok (.istore 6, 2) := by decide +kernel
theorem dX5_bestToBuy_79 : decode cX5_bestToBuy 79 = .ok (.iload 6, 2) := by decide +kernel
theorem dX5_bestToBuy_81 : decode cX5_bestToBuy 81 = .ok (.iload_n 2, 1) := by decide +kernel
theorem dX5_bestToBuy_82 : decode cX5_bestToBuy 82 = .ok (.if_icmp .le 9, 3) := by decide +kernel
theorem dX5_bestToBuy_85 : decode cX5_bestToBuy 85 = .ok (.iload 6, 2) := by decide +kernel
theorem dX5_bestToBuy_87 : decode cX5_bestToBuy 87 = .ok (.istore_n 2, 1) := by decide +kernel
theorem dX5_bestToBuy_88 : decode cX5_bestToBuy 88 = .ok (.iload 4, 2) := by decide +kernel
theorem dX5_bestToBuy_90 : decode cX5_bestToBuy 90 = .ok (.istore_n 3, 1) := by decide +kernel
theorem dX5_bestToBuy_91 : decode cX5_bestToBuy 91 = .ok (.iinc 4 1, 3) := by decide +kernel
theorem dX5_bestToBuy_94 : decode cX5_bestToBuy 94 = .ok (.goto (-82), 3) := by decide +kernel
theorem dX5_bestToBuy_97 : decode cX5_bestToBuy 97 = .ok (.iload_n 3, 1) := by decide +kernel
theorem dX5_bestToBuy_98 : decode cX5_bestToBuy 98 = .ok (.ireturn, 1) := by decide +kernel
set_option maxRecDepth 20000 in
theorem ggX5_choose_X4_size : GoodIn wsX5_choose wsX4_size := goodIn_r _ [12, 13, 48, 49, 50, 51] (by decide +kernel) (by decide +kernel)
set_option maxRecDepth 20000 in
theorem gX5_choose_X4_size : GoodIn wsX5_choose (wsV RX5 43 RX4 yX4_size wsX4_size) := goodIn_app (goodIn_of _ (by decide +kernel)) ggX5_choose_X4_size
set_option maxRecDepth 20000 in
theorem ggX5_choose_X4_at : GoodIn wsX5_choose wsX4_at := goodIn_r _ [17, 13, 18, 19, 48, 49, 50, 51] (by decide +kernel) (by decide +kernel)
set_option maxRecDepth 20000 in
theorem gX5_choose_X4_at : GoodIn wsX5_choose (wsV RX5 62 RX4 yX4_at wsX4_at) := goodIn_app (goodIn_of _ (by decide +kernel)) ggX5_choose_X4_at
set_option maxRecDepth 20000 in
theorem ggX5_choose_X5_fits : GoodIn wsX5_choose wsX5_fits := goodIn_r _ [24, 2, 25, 14, 15, 16, 11, 17, 13, 18, 19, 26, 27, 28, 29, 30, 31, 23, 32, 44, 45, 46, 47, 35, 36, 37, 38, 39, 40, 41, 42, 43, 48, 49, 50, 51] (by decide +kernel) (by decide +kernel)
set_option maxRecDepth 20000 in
theorem gX5_choose_X5_fits : GoodIn wsX5_choose (wsV RX5 66 RX5 yX5_fits wsX5_fits) := goodIn_app (goodIn_of _ (by decide +kernel)) ggX5_choose_X5_fits
set_option maxRecDepth 20000 in
theorem ggX5_choose_X5_choose : GoodIn wsX5_choose wsX5_choose := goodIn_r _ [0, 1, 2, 3, 4, 5, 6, 7, 8, 9, 10, 11, 12, 13, 14, 15, 16, 17, 18, 19, 20, 21, 22, 23, 24, 25, 26, 27, 28, 29, 30, 31, 32, 33, 34, 35, 36, 37, 38, 39, 40, 41, 42, 43, 44, 45, 46, 47, 48, 49, 50, 51] (by decide +kernel) (by decide +kernel)
set_option maxRecDepth 20000 in
theorem gX5_choose_X5_choose : GoodIn wsX5_choose (va_wsS RX5 31 yX5_choose wsX5_choose) := goodIn_app (goodIn_of _ (by decide +kernel)) ggX5_choose_X5_choose
theorem dX5_choose_0 : decode cX5_choose 0 = .ok (.aload_n 1, 1) := by decide +kernel
theorem dX5_choose_1 : decode cX5_choose 1 = .ok (.getfield 49, 3) := by decide +kernel
theorem dX5_choose_4 : decode cX5_choose 4 = .ok (.invokevirtual 43, 3) := by decide +kernel
theorem dX5_choose_7 : decode cX5_choose 7 = .ok (.iload_n 2, 1) := by decide +kernel
theorem dX5_choose_8 : decode cX5_choose 8 = .ok (.isub, 1) := by decide +kernel
theorem dX5_choose_9 : decode cX5_choose 9 = .ok (.istore 4, 2) := by decide +kernel
theorem dX5_choose_11 : decode cX5_choose 11 = .ok (.iload_n 3, 1) := by decide +kernel
theorem dX5_choose_12 : decode cX5_choose 12 = .ok (.iload 4, 2) := by decide +kernel
theorem dX5_choose_14 : decode cX5_choose 14 = .ok (.iadd, 1) := by decide +kernel
theorem dX5_choose_15 : decode cX5_choose 15 = .ok (.aload_n 0, 1) := by decide +kernel
theorem dX5_choose_16 : decode cX5_choose 16 = .ok (.getfield 21, 3) := by decide +kernel
theorem dX5_choose_19 : decode cX5_choose 19 = .ok (.if_icmp .gt 4, 3) := by decide +kernel
theorem dX5_choose_22 : decode cX5_choose 22 = .ok (.return_, 1) := by decide +kernel
theorem dX5_choose_23 : decode cX5_choose 23 = .ok (.iload 4, 2) := by decide +kernel
theorem dX5_choose_25 : decode cX5_choose 25 = .ok (.ifCond .le 12, 3) := by decide +kernel
theorem dX5_choose_28 : decode cX5_choose 28 = .ok (.iload_n 2, 1) := by decide +kernel
theorem dX5_choose_29 : decode cX5_choose 29 = .ok (.ifCond .lt 8, 3) := by decide +kernel
theorem dX5_choose_32 : decode cX5_choose 32 = .ok (.iload_n 2, 1) := by decide +kernel
theorem dX5_choose_33 : decode cX5_choose 33 = .ok (.iconst 5, 1) := by decide +kernel
theorem dX5_choose_34 : decode cX5_choose 34 = .ok (.if_icmp .lt 23, 3) := by decide +kernel
theorem dX5_choose_37 : decode cX5_choose 37 = .ok (.aload_n 0, 1) := by decide +kernel
theorem dX5_choose_38 : decode cX5_choose 38 = .ok (.getfield 15, 3) := by decide +kernel
theorem dX5_choose_41 : decode cX5_choose 41 = .ok (.iconst 0, 1) := by decide +kernel
theorem dX5_choose_42 : decode cX5_choose 42 = .ok (.aload_n 0, 1) := by decide +kernel
theorem dX5_choose_43 : decode cX5_choose 43 = .ok (.getfield 18, 3) := by decide +kernel
theorem dX5_choose_46 : decode cX5_choose 46 = .ok (.iconst 0, 1) := by decide +kernel
theorem dX5_choose_47 : decode cX5_choose 47 = .ok (.iconst 5, 1) := by decide +kernel
theorem dX5_choose_48 : decode cX5_choose 48 = .ok (.invokestatic 56, 3) := by decide +kernel
theorem dX5_choose_51 : decode cX5_choose 51 = .ok (.aload_n 0, 1) := by decide +kernel
theorem dX5_choose_52 : decode cX5_choose 52 = .ok (.iload_n 3, 1) := by decide +kernel
theorem dX5_choose_53 : decode cX5_choose 53 = .ok (.putfield 21, 3) := by decide +kernel
theorem dX5_choose_56 : decode cX5_choose 56 = .ok (.return_, 1) := by decide +kernel
theorem dX5_choose_57 : decode cX5_choose 57 = .ok (.aload_n 1, 1) := by decide +kernel
theorem dX5_choose_58 : decode cX5_choose 58 = .ok (.getfield 49, 3) := by decide +kernel
theorem dX5_choose_61 : decode cX5_choose 61 = .ok (.iload_n 2, 1) := by decide +kernel
theorem dX5_choose_62 : decode cX5_choose 62 = .ok (.iconst 3, 1) := by decide +kernel
theorem dX5_choose_63 : decode cX5_choose 63 = .ok (.invokevirtual 62, 3) := by decide +kernel
theorem dX5_choose_66 : decode cX5_choose 66 = .ok (.istore 5, 2) := by decide +kernel
theorem dX5_choose_68 : decode cX5_choose 68 = .ok (.aload_n 1, 1) := by decide +kernel
theorem dX5_choose_69 : decode cX5_choose 69 = .ok (.getfield 49, 3) := by decide +kernel
theorem dX5_choose_72 : decode cX5_choose 72 = .ok (.iload_n 2, 1) := by decide +kernel
theorem dX5_choose_73 : decode cX5_choose 73 = .ok (.iconst 2, 1) := by decide +kernel
theorem dX5_choose_74 : decode cX5_choose 74 = .ok (.invokevirtual 62, 3) := by decide +kernel
theorem dX5_choose_77 : decode cX5_choose 77 = .ok (.istore 6, 2) := by decide +kernel
theorem dX5_choose_79 : decode cX5_choose 79 = .ok (.iload 6, 2) := by decide +kernel
theorem dX5_choose_81 : decode cX5_choose 81 = .ok (.iload 5, 2) := by decide +kernel
theorem dX5_choose_83 : decode cX5_choose 83 = .ok (.if_icmp .gt 39, 3) := by decide +kernel
theorem dX5_choose_86 : decode cX5_choose 86 = .ok (.aload_n 0, 1) := by decide +kernel
theorem dX5_choose_87 : decode cX5_choose 87 = .ok (.aload_n 1, 1) := by decide +kernel
theorem dX5_choose_88 : decode cX5_choose 88 = .ok (.iload_n 2, 1) := by decide +kernel
theorem dX5_choose_89 : decode cX5_choose 89 = .ok (.iload 6, 2) := by decide +kernel
theorem dX5_choose_91 : decode cX5_choose 91 = .ok (.invokevirtual 66, 3) := by decide +kernel
theorem dX5_choose_94 : decode cX5_choose 94 = .ok (.ifCond .eq 22, 3) := by decide +kernel
theorem dX5_choose_97 : decode cX5_choose 97 = .ok (.aload_n 0, 1) := by decide +kernel
theorem dX5_choose_98 : decode cX5_choose 98 = .ok (.getfield 15, 3) := by decide +kernel
theorem dX5_choose_101 : decode cX5_choose 101 = .ok (.iload_n 2, 1) := by decide +kernel
theorem dX5_choose_102 : decode cX5_choose 102 = .ok (.iload 6, 2) := by decide +kernel
theorem dX5_choose_104 : decode cX5_choose 104 = .ok (.iastore, 1) := by decide +kernel
theorem dX5_choose_105 : decode cX5_choose 105 = .ok (.aload_n 0, 1) := by decide +kernel
theorem dX5_choose_106 : decode cX5_choose 106 = .ok (.aload_n 1, 1) := by decide +kernel
theorem dX5_choose_107 : decode cX5_choose 107 = .ok (.iload_n 2, 1) := by decide +kernel
theorem dX5_choose_108 : decode cX5_choose 108 = .ok (.iconst 1, 1) := by decide +kernel
theorem dX5_choose_109 : decode cX5_choose 109 = .ok (.iadd, 1) := by decide +kernel
theorem dX5_choose_110 : decode cX5_choose 110 = .ok (.iload_n 3, 1) := by decide +kernel
theorem dX5_choose_111 : decode cX5_choose 111 = .ok (.iconst 1, 1) := by decide +kernel
theorem dX5_choose_112 : decode cX5_choose 112 = .ok (.iadd, 1) := by decide +kernel
theorem dX5_choose_113 : decode cX5_choose 113 = .ok (.invokestatic 31, 3) := by decide +kernel
theorem dX5_choose_116 : decode cX5_choose 116 = .ok (.iinc 6 1, 3) := by decide +kernel
theorem dX5_choose_119 : decode cX5_choose 119 = .ok (.goto (-40), 3) := by decide +kernel
theorem dX5_choose_122 : decode cX5_choose 122 = .ok (.aload_n 0, 1) := by decide +kernel
theorem dX5_choose_123 : decode cX5_choose 123 = .ok (.getfield 15, 3) := by decide +kernel
theorem dX5_choose_126 : decode cX5_choose 126 = .ok (.iload_n 2, 1) := by decide +kernel
theorem dX5_choose_127 : decode cX5_choose 127 = .ok (.bipush 24, 2) := by decide +kernel
theorem dX5_choose_129 : decode cX5_choose 129 = .ok (.iastore, 1) := by decide +kernel
theorem dX5_choose_130 : decode cX5_choose 130 = .ok (.aload_n 0, 1) := by decide +kernel
theorem dX5_choose_131 : decode cX5_choose 131 = .ok (.aload_n 1, 1) := by decide +kernel
theorem dX5_choose_132 : decode cX5_choose 132 = .ok (.iload_n 2, 1) := by decide +kernel
theorem dX5_choose_133 : decode cX5_choose 133 = .ok (.iconst 1, 1) := by decide +kernel
theorem dX5_choose_134 : decode cX5_choose 134 = .ok (.iadd, 1) := by decide +kernel
theorem dX5_choose_135 : decode cX5_choose 135 = .ok (.iload_n 3, 1) := by decide +kernel
theorem dX5_choose_136 : decode cX5_choose 136 = .ok (.invokestatic 31, 3) := by decide +kernel
theorem dX5_choose_139 : decode cX5_choose 139 = .ok (.return_, 1) := by decide +kernel
set_option maxRecDepth 20000 in
theorem ggX5_fits_X4_at : GoodIn wsX5_fits wsX4_at := goodIn_r _ [7, 8, 9, 10, 32, 33, 34, 35] (by decide +kernel) (by decide +kernel)
set_option maxRecDepth 20000 in
theorem gX5_fits_X4_at : GoodIn wsX5_fits (wsV RX5 62 RX4 yX4_at wsX4_at) := goodIn_app (goodIn_of _ (by decide +kernel)) ggX5_fits_X4_at
set_option maxRecDepth 20000 in
theorem ggX5_fits_X8_hasBit : GoodIn wsX5_fits wsX8_hasBit := goodIn_r _ [13] (by decide +kernel) (by decide +kernel)
set_option maxRecDepth 20000 in
theorem gX5_fits_X8_hasBit_n70 : GoodIn wsX5_fits (wsX8_hasBit) := ggX5_fits_X8_hasBit
set_option maxRecDepth 20000 in
theorem ggX5_fits_X5_takenIn : GoodIn wsX5_fits wsX5_takenIn := goodIn_r _ [18, 1, 3, 4, 5, 6, 7, 8, 9, 10, 11, 12, 13, 19, 20, 21, 22, 23, 24, 25, 26, 27, 28, 29, 30, 31, 32, 33, 34, 35] (by decide +kernel) (by decide +kernel)
set_option maxRecDepth 20000 in
theorem gX5_fits_X5_takenIn : GoodIn wsX5_fits (wsV RX5 74 RX5 yX5_takenIn wsX5_takenIn) := goodIn_app (goodIn_of _ (by decide +kernel)) ggX5_fits_X5_takenIn
theorem dX5_fits_0 : decode cX5_fits 0 = .ok (.iconst 0, 1) := by decide +kernel
theorem dX5_fits_1 : decode cX5_fits 1 = .ok (.istore 4, 2) := by decide +kernel
theorem dX5_fits_3 : decode cX5_fits 3 = .ok (.iload 4, 2) := by decide +kernel
theorem dX5_fits_5 : decode cX5_fits 5 = .ok (.iload_n 2, 1) := by decide +kernel
theorem dX5_fits_6 : decode cX5_fits 6 = .ok (.if_icmp .ge 50, 3) := by decide +kernel
theorem dX5_fits_9 : decode cX5_fits 9 = .ok (.iload 4, 2) := by decide +kernel
theorem dX5_fits_11 : decode cX5_fits 11 = .ok (.iconst 5, 1) := by decide +kernel
theorem dX5_fits_12 : decode cX5_fits 12 = .ok (.if_icmp .ge 44, 3) := by decide +kernel
theorem dX5_fits_15 : decode cX5_fits 15 = .ok (.aload_n 0, 1) := by decide +kernel
theorem dX5_fits_16 : decode cX5_fits 16 = .ok (.getfield 15, 3) := by decide +kernel
theorem dX5_fits_19 : decode cX5_fits 19 = .ok (.iload 4, 2) := by decide +kernel
theorem dX5_fits_21 : decode cX5_fits 21 = .ok (.iaload, 1) := by decide +kernel
theorem dX5_fits_22 : decode cX5_fits 22 = .ok (.iload_n 3, 1) := by decide +kernel
theorem dX5_fits_23 : decode cX5_fits 23 = .ok (.if_icmp .ne 27, 3) := by decide +kernel
theorem dX5_fits_26 : decode cX5_fits 26 = .ok (.aload_n 1, 1) := by decide +kernel
theorem dX5_fits_27 : decode cX5_fits 27 = .ok (.getfield 49, 3) := by decide +kernel
theorem dX5_fits_30 : decode cX5_fits 30 = .ok (.iload 4, 2) := by decide +kernel
theorem dX5_fits_32 : decode cX5_fits 32 = .ok (.iconst 0, 1) := by decide +kernel
theorem dX5_fits_33 : decode cX5_fits 33 = .ok (.invokevirtual 62, 3) := by decide +kernel
theorem dX5_fits_36 : decode cX5_fits 36 = .ok (.aload_n 1, 1) := by decide +kernel
theorem dX5_fits_37 : decode cX5_fits 37 = .ok (.getfield 49, 3) := by decide +kernel
theorem dX5_fits_40 : decode cX5_fits 40 = .ok (.iload_n 2, 1) := by decide +kernel
theorem dX5_fits_41 : decode cX5_fits 41 = .ok (.iconst 0, 1) := by decide +kernel
theorem dX5_fits_42 : decode cX5_fits 42 = .ok (.invokevirtual 62, 3) := by decide +kernel
theorem dX5_fits_45 : decode cX5_fits 45 = .ok (.if_icmp .ne 5, 3) := by decide +kernel
theorem dX5_fits_48 : decode cX5_fits 48 = .ok (.iconst 0, 1) := by decide +kernel
theorem dX5_fits_49 : decode cX5_fits 49 = .ok (.ireturn, 1) := by decide +kernel
theorem dX5_fits_50 : decode cX5_fits 50 = .ok (.iinc 4 1, 3) := by decide +kernel
theorem dX5_fits_53 : decode cX5_fits 53 = .ok (.goto (-50), 3) := by decide +kernel
theorem dX5_fits_56 : decode cX5_fits 56 = .ok (.iconst 0, 1) := by decide +kernel
theorem dX5_fits_57 : decode cX5_fits 57 = .ok (.istore 4, 2) := by decide +kernel
theorem dX5_fits_59 : decode cX5_fits 59 = .ok (.iload 4, 2) := by decide +kernel
theorem dX5_fits_61 : decode cX5_fits 61 = .ok (.bipush 8, 2) := by decide +kernel
theorem dX5_fits_63 : decode cX5_fits 63 = .ok (.if_icmp .ge 47, 3) := by decide +kernel
theorem dX5_fits_66 : decode cX5_fits 66 = .ok (.aload_n 1, 1) := by decide +kernel
theorem dX5_fits_67 : decode cX5_fits 67 = .ok (.getfield 49, 3) := by decide +kernel
theorem dX5_fits_70 : decode cX5_fits 70 = .ok (.iload_n 2, 1) := by decide +kernel
theorem dX5_fits_71 : decode cX5_fits 71 = .ok (.iconst 1, 1) := by decide +kernel
theorem dX5_fits_72 : decode cX5_fits 72 = .ok (.invokevirtual 62, 3) := by decide +kernel
theorem dX5_fits_75 : decode cX5_fits 75 = .ok (.iload 4, 2) := by decide +kernel
theorem dX5_fits_77 : decode cX5_fits 77 = .ok (.invokestatic 70, 3) := by decide +kernel
theorem dX5_fits_80 : decode cX5_fits 80 = .ok (.ifCond .eq 24, 3) := by decide +kernel
theorem dX5_fits_83 : decode cX5_fits 83 = .ok (.aload_n 0, 1) := by decide +kernel
theorem dX5_fits_84 : decode cX5_fits 84 = .ok (.aload_n 1, 1) := by decide +kernel
theorem dX5_fits_85 : decode cX5_fits 85 = .ok (.iload_n 2, 1) := by decide +kernel
theorem dX5_fits_86 : decode cX5_fits 86 = .ok (.iload 4, 2) := by decide +kernel
theorem dX5_fits_88 : decode cX5_fits 88 = .ok (.iload_n 3, 1) := by decide +kernel
theorem dX5_fits_89 : decode cX5_fits 89 = .ok (.invokevirtual 74, 3) := by decide +kernel
theorem dX5_fits_92 : decode cX5_fits 92 = .ok (.aload_n 0, 1) := by decide +kernel
theorem dX5_fits_93 : decode cX5_fits 93 = .ok (.getfield 9, 3) := by decide +kernel
theorem dX5_fits_96 : decode cX5_fits 96 = .ok (.iload 4, 2) := by decide +kernel
theorem dX5_fits_98 : decode cX5_fits 98 = .ok (.iaload, 1) := by decide +kernel
theorem dX5_fits_99 : decode cX5_fits 99 = .ok (.if_icmp .lt 5, 3) := by decide +kernel
theorem dX5_fits_102 : decode cX5_fits 102 = .ok (.iconst 0, 1) := by decide +kernel
theorem dX5_fits_103 : decode cX5_fits 103 = .ok (.ireturn, 1) := by decide +kernel
theorem dX5_fits_104 : decode cX5_fits 104 = .ok (.iinc 4 1, 3) := by decide +kernel
theorem dX5_fits_107 : decode cX5_fits 107 = .ok (.goto (-48), 3) := by decide +kernel
theorem dX5_fits_110 : decode cX5_fits 110 = .ok (.iconst 1, 1) := by decide +kernel
theorem dX5_fits_111 : decode cX5_fits 111 = .ok (.ireturn, 1) := by decide +kernel
set_option maxRecDepth 20000 in
theorem ggX5_takenIn_X4_at : GoodIn wsX5_takenIn wsX4_at := goodIn_r _ [6, 7, 8, 9, 26, 27, 28, 29] (by decide +kernel) (by decide +kernel)
set_option maxRecDepth 20000 in
theorem gX5_takenIn_X4_at : GoodIn wsX5_takenIn (wsV RX5 62 RX4 yX4_at wsX4_at) := goodIn_app (goodIn_of _ (by decide +kernel)) ggX5_takenIn_X4_at
set_option maxRecDepth 20000 in
theorem ggX5_takenIn_X8_hasBit : GoodIn wsX5_takenIn wsX8_hasBit := goodIn_r _ [12] (by decide +kernel) (by decide +kernel)
set_option maxRecDepth 20000 in
theorem gX5_takenIn_X8_hasBit_n70 : GoodIn wsX5_takenIn (wsX8_hasBit) := ggX5_takenIn_X8_hasBit
theorem dX5_takenIn_0 : decode cX5_takenIn 0 = .ok (.iconst 0, 1) := by decide +kernel
theorem dX5_takenIn_1 : decode cX5_takenIn 1 = .ok (.istore 5, 2) := by decide +kernel
theorem dX5_takenIn_3 : decode cX5_takenIn 3 = .ok (.iconst 0, 1) := by decide +kernel
theorem dX5_takenIn_4 : decode cX5_takenIn 4 = .ok (.istore 6, 2) := by decide +kernel
theorem dX5_takenIn_6 : decode cX5_takenIn 6 = .ok (.iload 6, 2) := by decide +kernel
theorem dX5_takenIn_8 : decode cX5_takenIn 8 = .ok (.iload_n 2, 1) := by decide +kernel
theorem dX5_takenIn_9 : decode cX5_takenIn 9 = .ok (.if_icmp .ge 47, 3) := by decide +kernel
theorem dX5_takenIn_12 : decode cX5_takenIn 12 = .ok (.iload 6, 2) := by decide +kernel
theorem dX5_takenIn_14 : decode cX5_takenIn 14 = .ok (.iconst 5, 1) := by decide +kernel
theorem dX5_takenIn_15 : decode cX5_takenIn 15 = .ok (.if_icmp .ge 41, 3) := by decide +kernel
theorem dX5_takenIn_18 : decode cX5_takenIn 18 = .ok (.aload_n 0, 1) := by decide +kernel
theorem dX5_takenIn_19 : decode cX5_takenIn 19 = .ok (.getfield 15, 3) := by decide +kernel
theorem dX5_takenIn_22 : decode cX5_takenIn 22 = .ok (.iload 6, 2) := by decide +kernel
theorem dX5_takenIn_24 : decode cX5_takenIn 24 = .ok (.iaload, 1) := by decide +kernel
theorem dX5_takenIn_25 : decode cX5_takenIn 25 = .ok (.iload 4, 2) := by decide +kernel
theorem dX5_takenIn_27 : decode cX5_takenIn 27 = .ok (.if_icmp .ne 23, 3) := by decide +kernel
theorem dX5_takenIn_30 : decode cX5_takenIn 30 = .ok (.aload_n 1, 1) := by decide +kernel
theorem dX5_takenIn_31 : decode cX5_takenIn 31 = .ok (.getfield 49, 3) := by decide +kernel
theorem dX5_takenIn_34 : decode cX5_takenIn 34 = .ok (.iload 6, 2) := by decide +kernel
theorem dX5_takenIn_36 : decode cX5_takenIn 36 = .ok (.iconst 1, 1) := by decide +kernel
theorem dX5_takenIn_37 : decode cX5_takenIn 37 = .ok (.invokevirtual 62, 3) := by decide +kernel
theorem dX5_takenIn_40 : decode cX5_takenIn 40 = .ok (.iload_n 3, 1) := by decide +kernel
theorem dX5_takenIn_41 : decode cX5_takenIn 41 = .ok (.invokestatic 70, 3) := by decide +kernel
theorem dX5_takenIn_44 : decode cX5_takenIn 44 = .ok (.ifCond .eq 6, 3) := by decide +kernel
theorem dX5_takenIn_47 : decode cX5_takenIn 47 = .ok (.iinc 5 1, 3) := by decide +kernel
theorem dX5_takenIn_50 : decode cX5_takenIn 50 = .ok (.iinc 6 1, 3) := by decide +kernel
theorem dX5_takenIn_53 : decode cX5_takenIn 53 = .ok (.goto (-47), 3) := by decide +kernel
theorem dX5_takenIn_56 : decode cX5_takenIn 56 = .ok (.iload 5, 2) := by decide +kernel
theorem dX5_takenIn_58 : decode cX5_takenIn 58 = .ok (.ireturn, 1) := by decide +kernel
theorem dX6_init_0 : decode cX6_init 0 = .ok (.aload_n 0, 1) := by decide +kernel
theorem dX6_init_1 : decode cX6_init 1 = .ok (.invokespecial 3, 3) := by decide +kernel
theorem dX6_init_4 : decode cX6_init 4 = .ok (.aload_n 0, 1) := by decide +kernel
theorem dX6_init_5 : decode cX6_init 5 = .ok (.bipush 8, 2) := by decide +kernel
theorem dX6_init_7 : decode cX6_init 7 = .ok (.newarray .int, 2) := by decide +kernel
theorem dX6_init_9 : decode cX6_init 9 = .ok (.putfield 9, 3) := by decide +kernel
theorem dX6_init_12 : decode cX6_init 12 = .ok (.aload_n 0, 1) := by decide +kernel
theorem dX6_init_13 : decode cX6_init 13 = .ok (.bipush 8, 2) := by decide +kernel
theorem dX6_init_15 : decode cX6_init 15 = .ok (.newarray .int, 2) := by decide +kernel
theorem dX6_init_17 : decode cX6_init 17 = .ok (.putfield 15, 3) := by decide +kernel
theorem dX6_init_20 : decode cX6_init 20 = .ok (.aload_n 0, 1) := by decide +kernel
theorem dX6_init_21 : decode cX6_init 21 = .ok (.bipush 8, 2) := by decide +kernel
theorem dX6_init_23 : decode cX6_init 23 = .ok (.newarray .int, 2) := by decide +kernel
theorem dX6_init_25 : decode cX6_init 25 = .ok (.putfield 18, 3) := by decide +kernel
theorem dX6_init_28 : decode cX6_init 28 = .ok (.aload_n 0, 1) := by decide +kernel
theorem dX6_init_29 : decode cX6_init 29 = .ok (.iconst 0, 1) := by decide +kernel
theorem dX6_init_30 : decode cX6_init 30 = .ok (.putfield 21, 3) := by decide +kernel
theorem dX6_init_33 : decode cX6_init 33 = .ok (.return_, 1) := by decide +kernel
set_option maxRecDepth 20000 in
theorem ggX6_weigh_X8_hasBit : GoodIn wsX6_weigh wsX8_hasBit := goodIn_r _ [4] (by decide +kernel) (by decide +kernel)
set_option maxRecDepth 20000 in
theorem gX6_weigh_X8_hasBit_n25 : GoodIn wsX6_weigh (wsX8_hasBit) := ggX6_weigh_X8_hasBit
set_option maxRecDepth 20000 in
theorem ggX6_weigh_X4_size : GoodIn wsX6_weigh wsX4_size := goodIn_r _ [9, 10, 42, 43, 44, 45] (by decide +kernel) (by decide +kernel)
set_option maxRecDepth 20000 in
theorem gX6_weigh_X4_size : GoodIn wsX6_weigh (wsV RX6 34 RX4 yX4_size wsX4_size) := goodIn_app (goodIn_of _ (by decide +kernel)) ggX6_weigh_X4_size
set_option maxRecDepth 20000 in
theorem ggX6_weigh_X4_at : GoodIn wsX6_weigh wsX4_at := goodIn_r _ [14, 10, 15, 16, 42, 43, 44, 45] (by decide +kernel) (by decide +kernel)
set_option maxRecDepth 20000 in
theorem gX6_weigh_X4_at : GoodIn wsX6_weigh (wsV RX6 40 RX4 yX4_at wsX4_at) := goodIn_app (goodIn_of _ (by decide +kernel)) ggX6_weigh_X4_at
set_option maxRecDepth 20000 in
theorem ggX6_weigh_X6_fewestBy : GoodIn wsX6_weigh wsX6_fewestBy := goodIn_r _ [21, 11, 12, 13, 8, 14, 10, 15, 16, 22, 23, 24, 20, 25, 1, 26, 27, 28, 33, 34, 35, 36, 37, 38, 39, 40, 41, 42, 43, 44, 45, 29, 30, 31, 32] (by decide +kernel) (by decide +kernel)
set_option maxRecDepth 20000 in
theorem gX6_weigh_X6_fewestBy : GoodIn wsX6_weigh (wsV RX6 44 RX6 yX6_fewestBy wsX6_fewestBy) := goodIn_app (goodIn_of _ (by decide +kernel)) ggX6_weigh_X6_fewestBy
set_option maxRecDepth 20000 in
theorem ggX6_weigh_X6_isTerm : GoodIn wsX6_weigh wsX6_isTerm := goodIn_r _ [28] (by decide +kernel) (by decide +kernel)
set_option maxRecDepth 20000 in
theorem gX6_weigh_X6_isTerm : GoodIn wsX6_weigh (va_wsS RX6 48 yX6_isTerm wsX6_isTerm) := goodIn_app (goodIn_of _ (by decide +kernel)) ggX6_weigh_X6_isTerm
theorem dX6_weigh_0 : decode cX6_weigh 0 = .ok (.iconst 0, 1) := by decide +kernel
theorem dX6_weigh_1 : decode cX6_weigh 1 = .ok (.istore_n 3, 1) := by decide +kernel
theorem dX6_weigh_2 : decode cX6_weigh 2 = .ok (.iload_n 3, 1) := by decide +kernel
theorem dX6_weigh_3 : decode cX6_weigh 3 = .ok (.bipush 8, 2) := by decide +kernel
theorem dX6_weigh_5 : decode cX6_weigh 5 = .ok (.if_icmp .ge 28, 3) := by decide +kernel
theorem dX6_weigh_8 : decode cX6_weigh 8 = .ok (.aload_n 0, 1) := by decide +kernel
theorem dX6_weigh_9 : decode cX6_weigh 9 = .ok (.getfield 9, 3) := by decide +kernel
theorem dX6_weigh_12 : decode cX6_weigh 12 = .ok (.iload_n 3, 1) := by decide +kernel
theorem dX6_weigh_13 : decode cX6_weigh 13 = .ok (.iload_n 2, 1) := by decide +kernel
theorem dX6_weigh_14 : decode cX6_weigh 14 = .ok (.iload_n 3, 1) := by decide +kernel
theorem dX6_weigh_15 : decode cX6_weigh 15 = .ok (.invokestatic 25, 3) := by decide +kernel
theorem dX6_weigh_18 : decode cX6_weigh 18 = .ok (.ifCond .eq 7, 3) := by decide +kernel
theorem dX6_weigh_21 : decode cX6_weigh 21 = .ok (.iconst 1, 1) := by decide +kernel
theorem dX6_weigh_22 : decode cX6_weigh 22 = .ok (.goto 4, 3) := by decide +kernel
theorem dX6_weigh_25 : decode cX6_weigh 25 = .ok (.iconst 0, 1) := by decide +kernel
theorem dX6_weigh_26 : decode cX6_weigh 26 = .ok (.iastore, 1) := by decide +kernel
theorem dX6_weigh_27 : decode cX6_weigh 27 = .ok (.iinc 3 1, 3) := by decide +kernel
theorem dX6_weigh_30 : decode cX6_weigh 30 = .ok (.goto (-28), 3) := by decide +kernel
theorem dX6_weigh_33 : decode cX6_weigh 33 = .ok (.iconst 1, 1) := by decide +kernel
theorem dX6_weigh_34 : decode cX6_weigh 34 = .ok (.istore_n 3, 1) := by decide +kernel
theorem dX6_weigh_35 : decode cX6_weigh 35 = .ok (.iconst 0, 1) := by decide +kernel
theorem dX6_weigh_36 : decode cX6_weigh 36 = .ok (.istore 4, 2) := by decide +kernel
theorem dX6_weigh_38 : decode cX6_weigh 38 = .ok (.iload 4, 2) := by decide +kernel
theorem dX6_weigh_40 : decode cX6_weigh 40 = .ok (.bipush 8, 2) := by decide +kernel
theorem dX6_weigh_42 : decode cX6_weigh 42 = .ok (.if_icmp .ge 103, 3) := by decide +kernel
theorem dX6_weigh_45 : decode cX6_weigh 45 = .ok (.iload_n 3, 1) := by decide +kernel
theorem dX6_weigh_46 : decode cX6_weigh 46 = .ok (.ifCond .eq 99, 3) := by decide +kernel
theorem dX6_weigh_49 : decode cX6_weigh 49 = .ok (.iconst 0, 1) := by decide +kernel
theorem dX6_weigh_50 : decode cX6_weigh 50 = .ok (.istore_n 3, 1) := by decide +kernel
theorem dX6_weigh_51 : decode cX6_weigh 51 = .ok (.iconst 0, 1) := by decide +kernel
theorem dX6_weigh_52 : decode cX6_weigh 52 = .ok (.istore 5, 2) := by decide +kernel
theorem dX6_weigh_54 : decode cX6_weigh 54 = .ok (.iload 5, 2) := by decide +kernel
theorem dX6_weigh_56 : decode cX6_weigh 56 = .ok (.aload_n 1, 1) := by decide +kernel
theorem dX6_weigh_57 : decode cX6_weigh 57 = .ok (.getfield 29, 3) := by decide +kernel
theorem dX6_weigh_60 : decode cX6_weigh 60 = .ok (.invokevirtual 34, 3) := by decide +kernel
theorem dX6_weigh_63 : decode cX6_weigh 63 = .ok (.if_icmp .ge 76, 3) := by decide +kernel
theorem dX6_weigh_66 : decode cX6_weigh 66 = .ok (.aload_n 1, 1) := by decide +kernel
theorem dX6_weigh_67 : decode cX6_weigh 67 = .ok (.getfield 29, 3) := by decide +kernel
theorem dX6_weigh_70 : decode cX6_weigh 70 = .ok (.iload 5, 2) := by decide +kernel
theorem dX6_weigh_72 : decode cX6_weigh 72 = .ok (.iconst 0, 1) := by decide +kernel
theorem dX6_weigh_73 : decode cX6_weigh 73 = .ok (.invokevirtual 40, 3) := by decide +kernel
theorem dX6_weigh_76 : decode cX6_weigh 76 = .ok (.istore 6, 2) := by decide +kernel
theorem dX6_weigh_78 : decode cX6_weigh 78 = .ok (.aload_n 0, 1) := by decide +kernel
theorem dX6_weigh_79 : decode cX6_weigh 79 = .ok (.aload_n 1, 1) := by decide +kernel
theorem dX6_weigh_80 : decode cX6_weigh 80 = .ok (.iload 5, 2) := by decide +kernel
theorem dX6_weigh_82 : decode cX6_weigh 82 = .ok (.invokevirtual 44, 3) := by decide +kernel
theorem dX6_weigh_85 : decode cX6_weigh 85 = .ok (.istore 7, 2) := by decide +kernel
theorem dX6_weigh_87 : decode cX6_weigh 87 = .ok (.iload 7, 2) := by decide +kernel
theorem dX6_weigh_89 : decode cX6_weigh 89 = .ok (.ifCond .le 44, 3) := by decide +kernel
theorem dX6_weigh_92 : decode cX6_weigh 92 = .ok (.iload 6, 2) := by decide +kernel
theorem dX6_weigh_94 : decode cX6_weigh 94 = .ok (.invokestatic 48, 3) := by decide +kernel
theorem dX6_weigh_97 : decode cX6_weigh 97 = .ok (.ifCond .eq 36, 3) := by decide +kernel
theorem dX6_weigh_100 : decode cX6_weigh 100 = .ok (.aload_n 0, 1) := by decide +kernel
theorem dX6_weigh_101 : decode cX6_weigh 101 = .ok (.getfield 9, 3) := by decide +kernel
theorem dX6_weigh_104 : decode cX6_weigh 104 = .ok (.iload 6, 2) := by decide +kernel
theorem dX6_weigh_106 : decode cX6_weigh 106 = .ok (.iaload, 1) := by decide +kernel
theorem dX6_weigh_107 : decode cX6_weigh 107 = .ok (.ifCond .eq 15, 3) := by decide +kernel
theorem dX6_weigh_110 : decode cX6_weigh 110 = .ok (.iload 7, 2) := by decide +kernel
theorem dX6_weigh_112 : decode cX6_weigh 112 = .ok (.aload_n 0, 1) := by decide +kernel
theorem dX6_weigh_113 : decode cX6_weigh 113 = .ok (.getfield 9, 3) := by decide +kernel
theorem dX6_weigh_116 : decode cX6_weigh 116 = .ok (.iload 6, 2) := by decide +kernel
theorem dX6_weigh_118 : decode cX6_weigh 118 = .ok (.iaload, 1) := by decide +kernel
theorem dX6_weigh_119 : decode cX6_weigh 119 = .ok (.if_icmp .ge 14, 3) := by decide +kernel
theorem dX6_weigh_122 : decode cX6_weigh 122 = .ok (.aload_n 0, 1) := by decide +kernel
theorem dX6_weigh_123 : decode cX6_weigh 123 = .ok (.getfield 9, 3) := by decide +kernel
theorem dX6_weigh_126 : decode cX6_weigh 126 = .ok (.iload 6, 2) := by decide +kernel
theorem dX6_weigh_128 : decode cX6_weigh 128 = .ok (.iload 7, 2) := by decide +kernel
theorem dX6_weigh_130 : decode cX6_weigh 130 = .ok (.iastore, 1) := by decide +kernel
theorem dX6_weigh_131 : decode cX6_weigh 131 = .ok (.iconst 1, 1) := by decide +kernel
theorem dX6_weigh_132 : decode cX6_weigh 132 = .ok (.istore_n 3, 1) := by decide +kernel
theorem dX6_weigh_133 : decode cX6_weigh 133 = .ok (.iinc 5 1, 3) := by decide +kernel
theorem dX6_weigh_136 : decode cX6_weigh 136 = .ok (.goto (-82), 3) := by decide +kernel
theorem dX6_weigh_139 : decode cX6_weigh 139 = .ok (.iinc 4 1, 3) := by decide +kernel
theorem dX6_weigh_142 : decode cX6_weigh 142 = .ok (.goto (-104), 3) := by decide +kernel
theorem dX6_weigh_145 : decode cX6_weigh 145 = .ok (.return_, 1) := by decide +kernel
set_option maxRecDepth 20000 in
theorem ggX6_fewest_X6_isTerm : GoodIn wsX6_fewest wsX6_isTerm := goodIn_r _ [5] (by decide +kernel) (by decide +kernel)
set_option maxRecDepth 20000 in
theorem gX6_fewest_X6_isTerm : GoodIn wsX6_fewest (va_wsS RX6 48 yX6_isTerm wsX6_isTerm) := goodIn_app (goodIn_of _ (by decide +kernel)) ggX6_fewest_X6_isTerm
theorem dX6_fewest_0 : decode cX6_fewest 0 = .ok (.iload_n 1, 1) := by decide +kernel
theorem dX6_fewest_1 : decode cX6_fewest 1 = .ok (.invokestatic 48, 3) := by decide +kernel
theorem dX6_fewest_4 : decode cX6_fewest 4 = .ok (.ifCond .eq 12, 3) := by decide +kernel
theorem dX6_fewest_7 : decode cX6_fewest 7 = .ok (.aload_n 0, 1) := by decide +kernel
theorem dX6_fewest_8 : decode cX6_fewest 8 = .ok (.getfield 9, 3) := by decide +kernel
theorem dX6_fewest_11 : decode cX6_fewest 11 = .ok (.iload_n 1, 1) := by decide +kernel
theorem dX6_fewest_12 : decode cX6_fewest 12 = .ok (.iaload, 1) := by decide +kernel
theorem dX6_fewest_13 : decode cX6_fewest 13 = .ok (.goto 4, 3) := by decide +kernel
theorem dX6_fewest_16 : decode cX6_fewest 16 = .ok (.iconst 0, 1) := by decide +kernel
theorem dX6_fewest_17 : decode cX6_fewest 17 = .ok (.ireturn, 1) := by decide +kernel
set_option maxRecDepth 20000 in
theorem ggX6_placeOfRow_X6_fewest : GoodIn wsX6_placeOfRow wsX6_fewest := goodIn_r _ [5, 6, 7, 8, 4, 9, 39, 40, 41, 42] (by decide +kernel) (by decide +kernel)
set_option maxRecDepth 20000 in
theorem gX6_placeOfRow_X6_fewest : GoodIn wsX6_placeOfRow (wsV RX6 52 RX6 yX6_fewest wsX6_fewest) := goodIn_app (goodIn_of _ (by decide +kernel)) ggX6_placeOfRow_X6_fewest
set_option maxRecDepth 20000 in
theorem ggX6_placeOfRow_X6_firstRule : GoodIn wsX6_placeOfRow wsX6_firstRule := goodIn_r _ [13, 14, 15, 16, 17, 18, 19, 20, 21, 22, 23, 24, 25, 26, 27, 28, 4, 29, 1, 2, 3, 5, 6, 7, 8, 9, 30, 31, 32, 33, 34, 35, 36, 37, 38, 43, 44, 45, 46, 39, 40, 41, 42] (by decide +kernel) (by decide +kernel)
set_option maxRecDepth 20000 in
theorem gX6_placeOfRow_X6_firstRule : GoodIn wsX6_placeOfRow (wsV RX6 56 RX6 yX6_firstRule wsX6_firstRule) := goodIn_app (goodIn_of _ (by decide +kernel)) ggX6_placeOfRow_X6_firstRule
set_option maxRecDepth 20000 in
theorem ggX6_placeOfRow_X4_at : GoodIn wsX6_placeOfRow wsX4_at := goodIn_r _ [23, 19, 24, 25, 43, 44, 45, 46] (by decide +kernel) (by decide +kernel)
set_option maxRecDepth 20000 in
theorem gX6_placeOfRow_X4_at : GoodIn wsX6_placeOfRow (wsV RX6 40 RX4 yX4_at wsX4_at) := goodIn_app (goodIn_of _ (by decide +kernel)) ggX6_placeOfRow_X4_at
theorem dX6_placeOfRow_0 : decode cX6_placeOfRow 0 = .ok (.iload_n 2, 1) := by decide +kernel
theorem dX6_placeOfRow_1 : decode cX6_placeOfRow 1 = .ok (.istore 4, 2) := by decide +kernel
theorem dX6_placeOfRow_3 : decode cX6_placeOfRow 3 = .ok (.iload_n 3, 1) := by decide +kernel
theorem dX6_placeOfRow_4 : decode cX6_placeOfRow 4 = .ok (.istore 5, 2) := by decide +kernel
theorem dX6_placeOfRow_6 : decode cX6_placeOfRow 6 = .ok (.iconst 0, 1) := by decide +kernel
theorem dX6_placeOfRow_7 : decode cX6_placeOfRow 7 = .ok (.istore 6, 2) := by decide +kernel
theorem dX6_placeOfRow_9 : decode cX6_placeOfRow 9 = .ok (.iload 6, 2) := by decide +kernel
theorem dX6_placeOfRow_11 : decode cX6_placeOfRow 11 = .ok (.bipush 8, 2) := by decide +kernel
theorem dX6_placeOfRow_13 : decode cX6_placeOfRow 13 = .ok (.if_icmp .ge 81, 3) := by decide +kernel
theorem dX6_placeOfRow_16 : decode cX6_placeOfRow 16 = .ok (.aload_n 0, 1) := by decide +kernel
theorem dX6_placeOfRow_17 : decode cX6_placeOfRow 17 = .ok (.iload 4, 2) := by decide +kernel
theorem dX6_placeOfRow_19 : decode cX6_placeOfRow 19 = .ok (.invokevirtual 52, 3) := by decide +kernel
theorem dX6_placeOfRow_22 : decode cX6_placeOfRow 22 = .ok (.iconst 1, 1) := by decide +kernel
theorem dX6_placeOfRow_23 : decode cX6_placeOfRow 23 = .ok (.if_icmp .le 71, 3) := by decide +kernel
theorem dX6_placeOfRow_26 : decode cX6_placeOfRow 26 = .ok (.aload_n 0, 1) := by decide +kernel
theorem dX6_placeOfRow_27 : decode cX6_placeOfRow 27 = .ok (.aload_n 1, 1) := by decide +kernel
theorem dX6_placeOfRow_28 : decode cX6_placeOfRow 28 = .ok (.iload 4, 2) := by decide +kernel
theorem dX6_placeOfRow_30 : decode cX6_placeOfRow 30 = .ok (.invokevirtual 56, 3) := by decide +kernel
theorem dX6_placeOfRow_33 : decode cX6_placeOfRow 33 = .ok (.istore 7, 2) := by decide +kernel
theorem dX6_placeOfRow_35 : decode cX6_placeOfRow 35 = .ok (.aload_n 1, 1) := by decide +kernel
theorem dX6_placeOfRow_36 : decode cX6_placeOfRow 36 = .ok (.getfield 29, 3) := by decide +kernel
theorem dX6_placeOfRow_39 : decode cX6_placeOfRow 39 = .ok (.iload 7, 2) := by decide +kernel
theorem dX6_placeOfRow_41 : decode cX6_placeOfRow 41 = .ok (.iconst 1, 1) := by decide +kernel
theorem dX6_placeOfRow_42 : decode cX6_placeOfRow 42 = .ok (.invokevirtual 40, 3) := by decide +kernel
theorem dX6_placeOfRow_45 : decode cX6_placeOfRow 45 = .ok (.istore 8, 2) := by decide +kernel
theorem dX6_placeOfRow_47 : decode cX6_placeOfRow 47 = .ok (.iload 5, 2) := by decide +kernel
theorem dX6_placeOfRow_49 : decode cX6_placeOfRow 49 = .ok (.aload_n 0, 1) := by decide +kernel
theorem dX6_placeOfRow_50 : decode cX6_placeOfRow 50 = .ok (.iload 8, 2) := by decide +kernel
theorem dX6_placeOfRow_52 : decode cX6_placeOfRow 52 = .ok (.invokevirtual 52, 3) := by decide +kernel
theorem dX6_placeOfRow_55 : decode cX6_placeOfRow 55 = .ok (.if_icmp .ge 10, 3) := by decide +kernel
theorem dX6_placeOfRow_58 : decode cX6_placeOfRow 58 = .ok (.iload 8, 2) := by decide +kernel
theorem dX6_placeOfRow_60 : decode cX6_placeOfRow 60 = .ok (.istore 4, 2) := by decide +kernel
theorem dX6_placeOfRow_62 : decode cX6_placeOfRow 62 = .ok (.goto 26, 3) := by decide +kernel
theorem dX6_placeOfRow_65 : decode cX6_placeOfRow 65 = .ok (.iload 5, 2) := by decide +kernel
theorem dX6_placeOfRow_67 : decode cX6_placeOfRow 67 = .ok (.aload_n 0, 1) := by decide +kernel
theorem dX6_placeOfRow_68 : decode cX6_placeOfRow 68 = .ok (.iload 8, 2) := by decide +kernel
theorem dX6_placeOfRow_70 : decode cX6_placeOfRow 70 = .ok (.invokevirtual 52, 3) := by decide +kernel
theorem dX6_placeOfRow_73 : decode cX6_placeOfRow 73 = .ok (.isub, 1) := by decide +kernel
theorem dX6_placeOfRow_74 : decode cX6_placeOfRow 74 = .ok (.istore 5, 2) := by decide +kernel
theorem dX6_placeOfRow_76 : decode cX6_placeOfRow 76 = .ok (.aload_n 1, 1) := by decide +kernel
theorem dX6_placeOfRow_77 : decode cX6_placeOfRow 77 = .ok (.getfield 29, 3) := by decide +kernel
theorem dX6_placeOfRow_80 : decode cX6_placeOfRow 80 = .ok (.iload 7, 2) := by decide +kernel
theorem dX6_placeOfRow_82 : decode cX6_placeOfRow 82 = .ok (.iconst 2, 1) := by decide +kernel
theorem dX6_placeOfRow_83 : decode cX6_placeOfRow 83 = .ok (.invokevirtual 40, 3) := by decide +kernel
theorem dX6_placeOfRow_86 : decode cX6_placeOfRow 86 = .ok (.istore 4, 2) := by decide +kernel
theorem dX6_placeOfRow_88 : decode cX6_placeOfRow 88 = .ok (.iinc 6 1, 3) := by decide +kernel
theorem dX6_placeOfRow_91 : decode cX6_placeOfRow 91 = .ok (.goto (-82), 3) := by decide +kernel
theorem dX6_placeOfRow_94 : decode cX6_placeOfRow 94 = .ok (.iload 4, 2) := by decide +kernel
theorem dX6_placeOfRow_96 : decode cX6_placeOfRow 96 = .ok (.ireturn, 1) := by decide +kernel
set_option maxRecDepth 20000 in
theorem ggX6_firstRule_X4_size : GoodIn wsX6_firstRule wsX4_size := goodIn_r _ [5, 6, 35, 36, 37, 38] (by decide +kernel) (by decide +kernel)
set_option maxRecDepth 20000 in
theorem gX6_firstRule_X4_size : GoodIn wsX6_firstRule (wsV RX6 34 RX4 yX4_size wsX4_size) := goodIn_app (goodIn_of _ (by decide +kernel)) ggX6_firstRule_X4_size
set_option maxRecDepth 20000 in
theorem ggX6_firstRule_X4_at : GoodIn wsX6_firstRule wsX4_at := goodIn_r _ [10, 6, 11, 12, 35, 36, 37, 38] (by decide +kernel) (by decide +kernel)
set_option maxRecDepth 20000 in
theorem gX6_firstRule_X4_at : GoodIn wsX6_firstRule (wsV RX6 40 RX4 yX4_at wsX4_at) := goodIn_app (goodIn_of _ (by decide +kernel)) ggX6_firstRule_X4_at
set_option maxRecDepth 20000 in
theorem ggX6_firstRule_X6_fewestBy : GoodIn wsX6_firstRule wsX6_fewestBy := goodIn_r _ [17, 7, 8, 9, 4, 10, 6, 11, 12, 18, 19, 20, 16, 21, 22, 23, 24, 25, 26, 27, 28, 29, 30, 31, 32, 33, 34, 35, 36, 37, 38, 39, 40, 41, 42] (by decide +kernel) (by decide +kernel)
set_option maxRecDepth 20000 in
theorem gX6_firstRule_X6_fewestBy : GoodIn wsX6_firstRule (wsV RX6 44 RX6 yX6_fewestBy wsX6_fewestBy) := goodIn_app (goodIn_of _ (by decide +kernel)) ggX6_firstRule_X6_fewestBy
set_option maxRecDepth 20000 in
theorem ggX6_firstRule_X6_fewest : GoodIn wsX6_firstRule wsX6_fewest := goodIn_r _ [21, 22, 23, 24, 16, 25, 39, 40, 41, 42] (by decide +kernel) (by decide +kernel)
set_option maxRecDepth 20000 in
theorem gX6_firstRule_X6_fewest : GoodIn wsX6_firstRule (wsV RX6 52 RX6 yX6_fewest wsX6_fewest) := goodIn_app (goodIn_of _ (by decide +kernel)) ggX6_firstRule_X6_fewest
theorem dX6_firstRule_0 : decode cX6_firstRule 0 = .ok (.iconst 0, 1) := by decide +kernel
theorem dX6_firstRule_1 : decode cX6_firstRule 1 = .ok (.istore_n 3, 1) := by decide +kernel
theorem dX6_firstRule_2 : decode cX6_firstRule 2 = .ok (.iload_n 3, 1) := by decide +kernel
theorem dX6_firstRule_3 : decode cX6_firstRule 3 = .ok (.aload_n 1, 1) := by decide +kernel
theorem dX6_firstRule_4 : decode cX6_firstRule 4 = .ok (.getfield 29, 3) := by decide +kernel
theorem dX6_firstRule_7 : decode cX6_firstRule 7 = .ok (.invokevirtual 34, 3) := by decide +kernel
theorem dX6_firstRule_10 : decode cX6_firstRule 10 = .ok (.if_icmp .ge 38, 3) := by decide +kernel
theorem dX6_firstRule_13 : decode cX6_firstRule 13 = .ok (.aload_n 1, 1) := by decide +kernel
theorem dX6_firstRule_14 : decode cX6_firstRule 14 = .ok (.getfield 29, 3) := by decide +kernel
theorem dX6_firstRule_17 : decode cX6_firstRule 17 = .ok (.iload_n 3, 1) := by decide +kernel
theorem dX6_firstRule_18 : decode cX6_firstRule 18 = .ok (.iconst 0, 1) := by decide +kernel
theorem dX6_firstRule_19 : decode cX6_firstRule 19 = .ok (.invokevirtual 40, 3) := by decide +kernel
theorem dX6_firstRule_22 : decode cX6_firstRule 22 = .ok (.iload_n 2, 1) := by decide +kernel
theorem dX6_firstRule_23 : decode cX6_firstRule 23 = .ok (.if_icmp .ne 19, 3) := by decide +kernel
theorem dX6_firstRule_26 : decode cX6_firstRule 26 = .ok (.aload_n 0, 1) := by decide +kernel
theorem dX6_firstRule_27 : decode cX6_firstRule 27 = .ok (.aload_n 1, 1) := by decide +kernel
theorem dX6_firstRule_28 : decode cX6_firstRule 28 = .ok (.iload_n 3, 1) := by decide +kernel
theorem dX6_firstRule_29 : decode cX6_firstRule 29 = .ok (.invokevirtual 44, 3) := by decide +kernel
theorem dX6_firstRule_32 : decode cX6_firstRule 32 = .ok (.aload_n 0, 1) := by decide +kernel
theorem dX6_firstRule_33 : decode cX6_firstRule 33 = .ok (.iload_n 2, 1) := by decide +kernel
theorem dX6_firstRule_34 : decode cX6_firstRule 34 = .ok (.invokevirtual 52, 3) := by decide +kernel
theorem dX6_firstRule_37 : decode cX6_firstRule 37 = .ok (.if_icmp .ne 5, 3) := by decide +kernel
theorem dX6_firstRule_40 : decode cX6_firstRule 40 = .ok (.iload_n 3, 1) := by decide +kernel
theorem dX6_firstRule_41 : decode cX6_firstRule 41 = .ok (.ireturn, 1) := by decide +kernel
theorem dX6_firstRule_42 : decode cX6_firstRule 42 = .ok (.iinc 3 1, 3) := by decide +kernel
theorem dX6_firstRule_45 : decode cX6_firstRule 45 = .ok (.goto (-43), 3) := by decide +kernel
theorem dX6_firstRule_48 : decode cX6_firstRule 48 = .ok (.iconst (-1), 1) := by decide +kernel
theorem dX6_firstRule_49 : decode cX6_firstRule 49 = .ok (.ireturn, 1) := by decide +kernel
set_option maxRecDepth 20000 in
theorem ggX6_fewestBy_X4_at : GoodIn wsX6_fewestBy wsX4_at := goodIn_r _ [5, 6, 7, 8, 27, 28, 29, 30] (by decide +kernel) (by decide +kernel)
set_option maxRecDepth 20000 in
theorem gX6_fewestBy_X4_at : GoodIn wsX6_fewestBy (wsV RX6 40 RX4 yX4_at wsX4_at) := goodIn_app (goodIn_of _ (by decide +kernel)) ggX6_fewestBy_X4_at
set_option maxRecDepth 20000 in
theorem ggX6_fewestBy_X6_fewest : GoodIn wsX6_fewestBy wsX6_fewest := goodIn_r _ [13, 14, 15, 16, 12, 17, 31, 32, 33, 34] (by decide +kernel) (by decide +kernel)
set_option maxRecDepth 20000 in
theorem gX6_fewestBy_X6_fewest : GoodIn wsX6_fewestBy (wsV RX6 52 RX6 yX6_fewest wsX6_fewest) := goodIn_app (goodIn_of _ (by decide +kernel)) ggX6_fewestBy_X6_fewest
theorem dX6_fewestBy_0 : decode cX6_fewestBy 0 = .ok (.aload_n 0, 1) := by decide +kernel
theorem dX6_fewestBy_1 : decode cX6_fewestBy 1 = .ok (.aload_n 1, 1) := by decide +kernel
theorem dX6_fewestBy_2 : decode cX6_fewestBy 2 = .ok (.getfield 29, 3) := by decide +kernel
theorem dX6_fewestBy_5 : decode cX6_fewestBy 5 = .ok (.iload_n 2, 1) := by decide +kernel
theorem dX6_fewestBy_6 : decode cX6_fewestBy 6 = .ok (.iconst 1, 1) := by decide +kernel
theorem dX6_fewestBy_7 : decode cX6_fewestBy 7 = .ok (.invokevirtual 40, 3) := by decide +kernel
theorem dX6_fewestBy_10 : decode cX6_fewestBy 10 = .ok (.invokevirtual 52, 3) := by decide +kernel
theorem dX6_fewestBy_13 : decode cX6_fewestBy 13 = .ok (.istore_n 3, 1) := by decide +kernel
theorem dX6_fewestBy_14 : decode cX6_fewestBy 14 = .ok (.aload_n 0, 1) := by decide +kernel
theorem dX6_fewestBy_15 : decode cX6_fewestBy 15 = .ok (.aload_n 1, 1) := by decide +kernel
theorem dX6_fewestBy_16 : decode cX6_fewestBy 16 = .ok (.getfield 29, 3) := by decide +kernel
theorem dX6_fewestBy_19 : decode cX6_fewestBy 19 = .ok (.iload_n 2, 1) := by decide +kernel
theorem dX6_fewestBy_20 : decode cX6_fewestBy 20 = .ok (.iconst 2, 1) := by decide +kernel
theorem dX6_fewestBy_21 : decode cX6_fewestBy 21 = .ok (.invokevirtual 40, 3) := by decide +kernel
theorem dX6_fewestBy_24 : decode cX6_fewestBy 24 = .ok (.invokevirtual 52, 3) := by decide +kernel
theorem dX6_fewestBy_27 : decode cX6_fewestBy 27 = .ok (.istore 4, 2) := by decide +kernel
theorem dX6_fewestBy_29 : decode cX6_fewestBy 29 = .ok (.iload_n 3, 1) := by decide +kernel
theorem dX6_fewestBy_30 : decode cX6_fewestBy 30 = .ok (.ifCond .le 15, 3) := by decide +kernel
theorem dX6_fewestBy_33 : decode cX6_fewestBy 33 = .ok (.iload 4, 2) := by decide +kernel
theorem dX6_fewestBy_35 : decode cX6_fewestBy 35 = .ok (.ifCond .le 10, 3) := by decide +kernel
theorem dX6_fewestBy_38 : decode cX6_fewestBy 38 = .ok (.iload_n 3, 1) := by decide +kernel
theorem dX6_fewestBy_39 : decode cX6_fewestBy 39 = .ok (.iload 4, 2) := by decide +kernel
theorem dX6_fewestBy_41 : decode cX6_fewestBy 41 = .ok (.iadd, 1) := by decide +kernel
theorem dX6_fewestBy_42 : decode cX6_fewestBy 42 = .ok (.goto 4, 3) := by decide +kernel
theorem dX6_fewestBy_45 : decode cX6_fewestBy 45 = .ok (.iconst 0, 1) := by decide +kernel
theorem dX6_fewestBy_46 : decode cX6_fewestBy 46 = .ok (.ireturn, 1) := by decide +kernel
theorem dX6_isTerm_0 : decode cX6_isTerm 0 = .ok (.iload_n 0, 1) := by decide +kernel
theorem dX6_isTerm_1 : decode cX6_isTerm 1 = .ok (.ifCond .lt 13, 3) := by decide +kernel
theorem dX6_isTerm_4 : decode cX6_isTerm 4 = .ok (.iload_n 0, 1) := by decide +kernel
theorem dX6_isTerm_5 : decode cX6_isTerm 5 = .ok (.bipush 8, 2) := by decide +kernel
theorem dX6_isTerm_7 : decode cX6_isTerm 7 = .ok (.if_icmp .ge 7, 3) := by decide +kernel
theorem dX6_isTerm_10 : decode cX6_isTerm 10 = .ok (.iconst 1, 1) := by decide +kernel
theorem dX6_isTerm_11 : decode cX6_isTerm 11 = .ok (.goto 4, 3) := by decide +kernel
theorem dX6_isTerm_14 : decode cX6_isTerm 14 = .ok (.iconst 0, 1) := by decide +kernel
theorem dX6_isTerm_15 : decode cX6_isTerm 15 = .ok (.ireturn, 1) := by decide +kernel
set_option maxRecDepth 20000 in
theorem ggX6_leastKept_X0_allTerms : GoodIn wsX6_leastKept wsX0_allTerms := goodIn_r _ [5, 6, 7, 8, 9, 10, 11, 12, 49, 50, 51, 52, 53, 54, 55, 56, 57, 58, 59, 60, 61] (by decide +kernel) (by decide +kernel)
set_option maxRecDepth 20000 in
theorem gX6_leastKept_X0_allTerms : GoodIn wsX6_leastKept (wsV RX6 59 RX0 yX0_allTerms wsX0_allTerms) := goodIn_app (goodIn_of _ (by decide +kernel)) ggX6_leastKept_X0_allTerms
set_option maxRecDepth 20000 in
theorem ggX6_leastKept_X6_learn : GoodIn wsX6_leastKept wsX6_learn := goodIn_r _ [17, 18, 19, 20, 21, 22, 23, 24, 25, 8, 9, 10, 11, 12, 26, 27, 28, 29, 30, 31, 49, 50, 51, 52, 53, 54, 55, 56, 57, 62, 63, 64, 65, 58, 59, 60, 61] (by decide +kernel) (by decide +kernel)
set_option maxRecDepth 20000 in
theorem gX6_leastKept_X6_learn : GoodIn wsX6_leastKept (wsV RX6 62 RX6 yX6_learn wsX6_learn) := goodIn_app (goodIn_of _ (by decide +kernel)) ggX6_leastKept_X6_learn
set_option maxRecDepth 20000 in
theorem ggX6_leastKept_J6_bitCount_0f7a4 : GoodIn wsX6_leastKept wsJ6_bitCount_0f7a4 := goodIn_r _ [35, 36, 37, 38] (by decide +kernel) (by decide +kernel)
set_option maxRecDepth 20000 in
theorem gX6_leastKept_J6_bitCount_0f7a4 : GoodIn wsX6_leastKept (va_wsS RX6 66 yJ6_bitCount_0f7a4 wsJ6_bitCount_0f7a4) := goodIn_app (goodIn_of _ (by decide +kernel)) ggX6_leastKept_J6_bitCount_0f7a4
set_option maxRecDepth 20000 in
theorem ggX6_leastKept_X6_sayableBy : GoodIn wsX6_leastKept wsX6_sayableBy := goodIn_r _ [42, 22, 24, 23, 62, 63, 64, 65] (by decide +kernel) (by decide +kernel)
set_option maxRecDepth 20000 in
theorem gX6_leastKept_X6_sayableBy : GoodIn wsX6_leastKept (wsV RX6 71 RX6 yX6_sayableBy wsX6_sayableBy) := goodIn_app (goodIn_of _ (by decide +kernel)) ggX6_leastKept_X6_sayableBy
set_option maxRecDepth 20000 in
theorem ggX6_leastKept_X6_isDumb : GoodIn wsX6_leastKept wsX6_isDumb := goodIn_r _ [45, 25, 8, 9, 10, 11, 12, 46, 47, 48, 26, 27, 28, 29, 30, 31, 49, 50, 51, 52, 53, 54, 55, 56, 57, 58, 59, 60, 61] (by decide +kernel) (by decide +kernel)
set_option maxRecDepth 20000 in
theorem gX6_leastKept_X6_isDumb : GoodIn wsX6_leastKept (va_wsS RX6 74 yX6_isDumb wsX6_isDumb) := goodIn_app (goodIn_of _ (by decide +kernel)) ggX6_leastKept_X6_isDumb
theorem dX6_leastKept_0 : decode cX6_leastKept 0 = .ok (.aload_n 1, 1) := by decide +kernel
theorem dX6_leastKept_1 : decode cX6_leastKept 1 = .ok (.invokevirtual 59, 3) := by decide +kernel
theorem dX6_leastKept_4 : decode cX6_leastKept 4 = .ok (.istore_n 3, 1) := by decide +kernel
theorem dX6_leastKept_5 : decode cX6_leastKept 5 = .ok (.aload_n 0, 1) := by decide +kernel
theorem dX6_leastKept_6 : decode cX6_leastKept 6 = .ok (.aload_n 1, 1) := by decide +kernel
theorem dX6_leastKept_7 : decode cX6_leastKept 7 = .ok (.invokevirtual 62, 3) := by decide +kernel
theorem dX6_leastKept_10 : decode cX6_leastKept 10 = .ok (.iconst 0, 1) := by decide +kernel
theorem dX6_leastKept_11 : decode cX6_leastKept 11 = .ok (.istore 4, 2) := by decide +kernel
theorem dX6_leastKept_13 : decode cX6_leastKept 13 = .ok (.iload 4, 2) := by decide +kernel
theorem dX6_leastKept_15 : decode cX6_leastKept 15 = .ok (.bipush 8, 2) := by decide +kernel
theorem dX6_leastKept_17 : decode cX6_leastKept 17 = .ok (.if_icmp .gt 55, 3) := by decide +kernel
theorem dX6_leastKept_20 : decode cX6_leastKept 20 = .ok (.iconst 0, 1) := by decide +kernel
theorem dX6_leastKept_21 : decode cX6_leastKept 21 = .ok (.istore 5, 2) := by decide +kernel
theorem dX6_leastKept_23 : decode cX6_leastKept 23 = .ok (.iload 5, 2) := by decide +kernel
theorem dX6_leastKept_25 : decode cX6_leastKept 25 = .ok (.iload_n 3, 1) := by decide +kernel
theorem dX6_leastKept_26 : decode cX6_leastKept 26 = .ok (.if_icmp .gt 40, 3) := by decide +kernel
theorem dX6_leastKept_29 : decode cX6_leastKept 29 = .ok (.iload 5, 2) := by decide +kernel
theorem dX6_leastKept_31 : decode cX6_leastKept 31 = .ok (.invokestatic 66, 3) := by decide +kernel
theorem dX6_leastKept_34 : decode cX6_leastKept 34 = .ok (.iload 4, 2) := by decide +kernel
theorem dX6_leastKept_36 : decode cX6_leastKept 36 = .ok (.if_icmp .ne 24, 3) := by decide +kernel
theorem dX6_leastKept_39 : decode cX6_leastKept 39 = .ok (.aload_n 1, 1) := by decide +kernel
theorem dX6_leastKept_40 : decode cX6_leastKept 40 = .ok (.iload_n 2, 1) := by decide +kernel
theorem dX6_leastKept_41 : decode cX6_leastKept 41 = .ok (.aload_n 0, 1) := by decide +kernel
theorem dX6_leastKept_42 : decode cX6_leastKept 42 = .ok (.iload_n 3, 1) := by decide +kernel
theorem dX6_leastKept_43 : decode cX6_leastKept 43 = .ok (.iload 5, 2) := by decide +kernel
theorem dX6_leastKept_45 : decode cX6_leastKept 45 = .ok (.iconst (-1), 1) := by decide +kernel
theorem dX6_leastKept_46 : decode cX6_leastKept 46 = .ok (.ixor, 1) := by decide +kernel
theorem dX6_leastKept_47 : decode cX6_leastKept 47 = .ok (.iand, 1) := by decide +kernel
theorem dX6_leastKept_48 : decode cX6_leastKept 48 = .ok (.invokevirtual 71, 3) := by decide +kernel
theorem dX6_leastKept_51 : decode cX6_leastKept 51 = .ok (.invokestatic 74, 3) := by decide +kernel
theorem dX6_leastKept_54 : decode cX6_leastKept 54 = .ok (.ifCond .eq 6, 3) := by decide +kernel
theorem dX6_leastKept_57 : decode cX6_leastKept 57 = .ok (.iload 5, 2) := by decide +kernel
theorem dX6_leastKept_59 : decode cX6_leastKept 59 = .ok (.ireturn, 1) := by decide +kernel
theorem dX6_leastKept_60 : decode cX6_leastKept 60 = .ok (.iinc 5 1, 3) := by decide +kernel
theorem dX6_leastKept_63 : decode cX6_leastKept 63 = .ok (.goto (-40), 3) := by decide +kernel
theorem dX6_leastKept_66 : decode cX6_leastKept 66 = .ok (.iinc 4 1, 3) := by decide +kernel
theorem dX6_leastKept_69 : decode cX6_leastKept 69 = .ok (.goto (-56), 3) := by decide +kernel
theorem dX6_leastKept_72 : decode cX6_leastKept 72 = .ok (.iload_n 3, 1) := by decide +kernel
theorem dX6_leastKept_73 : decode cX6_leastKept 73 = .ok (.ireturn, 1) := by decide +kernel
set_option maxRecDepth 20000 in
theorem ggX6_isDumb_X4_size : GoodIn wsX6_isDumb wsX4_size := goodIn_r _ [5, 6, 25, 26, 27, 28] (by decide +kernel) (by decide +kernel)
set_option maxRecDepth 20000 in
theorem gX6_isDumb_X4_size : GoodIn wsX6_isDumb (wsV RX6 34 RX4 yX4_size wsX4_size) := goodIn_app (goodIn_of _ (by decide +kernel)) ggX6_isDumb_X4_size
set_option maxRecDepth 20000 in
theorem ggX6_isDumb_X8_hasBit : GoodIn wsX6_isDumb wsX8_hasBit := goodIn_r _ [9] (by decide +kernel) (by decide +kernel)
set_option maxRecDepth 20000 in
theorem gX6_isDumb_X8_hasBit_n25 : GoodIn wsX6_isDumb (wsX8_hasBit) := ggX6_isDumb_X8_hasBit
set_option maxRecDepth 20000 in
theorem ggX6_isDumb_X4_at : GoodIn wsX6_isDumb wsX4_at := goodIn_r _ [13, 6, 14, 15, 25, 26, 27, 28] (by decide +kernel) (by decide +kernel)
set_option maxRecDepth 20000 in
theorem gX6_isDumb_X4_at : GoodIn wsX6_isDumb (wsV RX6 40 RX4 yX4_at wsX4_at) := goodIn_app (goodIn_of _ (by decide +kernel)) ggX6_isDumb_X4_at
theorem dX6_isDumb_0 : decode cX6_isDumb 0 = .ok (.iconst 0, 1) := by decide +kernel
theorem dX6_isDumb_1 : decode cX6_isDumb 1 = .ok (.istore_n 3, 1) := by decide +kernel
theorem dX6_isDumb_2 : decode cX6_isDumb 2 = .ok (.iload_n 3, 1) := by decide +kernel
theorem dX6_isDumb_3 : decode cX6_isDumb 3 = .ok (.aload_n 0, 1) := by decide +kernel
theorem dX6_isDumb_4 : decode cX6_isDumb 4 = .ok (.getfield 78, 3) := by decide +kernel
theorem dX6_isDumb_7 : decode cX6_isDumb 7 = .ok (.invokevirtual 34, 3) := by decide +kernel
theorem dX6_isDumb_10 : decode cX6_isDumb 10 = .ok (.if_icmp .ge 35, 3) := by decide +kernel
theorem dX6_isDumb_13 : decode cX6_isDumb 13 = .ok (.iload_n 1, 1) := by decide +kernel
theorem dX6_isDumb_14 : decode cX6_isDumb 14 = .ok (.iload_n 3, 1) := by decide +kernel
theorem dX6_isDumb_15 : decode cX6_isDumb 15 = .ok (.invokestatic 25, 3) := by decide +kernel
theorem dX6_isDumb_18 : decode cX6_isDumb 18 = .ok (.ifCond .eq 21, 3) := by decide +kernel
theorem dX6_isDumb_21 : decode cX6_isDumb 21 = .ok (.aload_n 0, 1) := by decide +kernel
theorem dX6_isDumb_22 : decode cX6_isDumb 22 = .ok (.getfield 78, 3) := by decide +kernel
theorem dX6_isDumb_25 : decode cX6_isDumb 25 = .ok (.iload_n 3, 1) := by decide +kernel
theorem dX6_isDumb_26 : decode cX6_isDumb 26 = .ok (.iconst 0, 1) := by decide +kernel
theorem dX6_isDumb_27 : decode cX6_isDumb 27 = .ok (.invokevirtual 40, 3) := by decide +kernel
theorem dX6_isDumb_30 : decode cX6_isDumb 30 = .ok (.iload_n 2, 1) := by decide +kernel
theorem dX6_isDumb_31 : decode cX6_isDumb 31 = .ok (.iconst (-1), 1) := by decide +kernel
theorem dX6_isDumb_32 : decode cX6_isDumb 32 = .ok (.ixor, 1) := by decide +kernel
theorem dX6_isDumb_33 : decode cX6_isDumb 33 = .ok (.iand, 1) := by decide +kernel
theorem dX6_isDumb_34 : decode cX6_isDumb 34 = .ok (.ifCond .ne 5, 3) := by decide +kernel
theorem dX6_isDumb_37 : decode cX6_isDumb 37 = .ok (.iconst 0, 1) := by decide +kernel
theorem dX6_isDumb_38 : decode cX6_isDumb 38 = .ok (.ireturn, 1) := by decide +kernel
theorem dX6_isDumb_39 : decode cX6_isDumb 39 = .ok (.iinc 3 1, 3) := by decide +kernel
theorem dX6_isDumb_42 : decode cX6_isDumb 42 = .ok (.goto (-40), 3) := by decide +kernel
theorem dX6_isDumb_45 : decode cX6_isDumb 45 = .ok (.iconst 1, 1) := by decide +kernel
theorem dX6_isDumb_46 : decode cX6_isDumb 46 = .ok (.ireturn, 1) := by decide +kernel
set_option maxRecDepth 20000 in
theorem ggX6_learn_X4_size : GoodIn wsX6_learn wsX4_size := goodIn_r _ [12, 13, 33, 34, 35, 36] (by decide +kernel) (by decide +kernel)
set_option maxRecDepth 20000 in
theorem gX6_learn_X4_size : GoodIn wsX6_learn (wsV RX6 34 RX4 yX4_size wsX4_size) := goodIn_app (goodIn_of _ (by decide +kernel)) ggX6_learn_X4_size
set_option maxRecDepth 20000 in
theorem ggX6_learn_X4_at : GoodIn wsX6_learn wsX4_at := goodIn_r _ [17, 13, 18, 19, 33, 34, 35, 36] (by decide +kernel) (by decide +kernel)
set_option maxRecDepth 20000 in
theorem gX6_learn_X4_at : GoodIn wsX6_learn (wsV RX6 40 RX4 yX4_at wsX4_at) := goodIn_app (goodIn_of _ (by decide +kernel)) ggX6_learn_X4_at
theorem dX6_learn_0 : decode cX6_learn 0 = .ok (.aload_n 0, 1) := by decide +kernel
theorem dX6_learn_1 : decode cX6_learn 1 = .ok (.aload_n 1, 1) := by decide +kernel
theorem dX6_learn_2 : decode cX6_learn 2 = .ok (.getfield 29, 3) := by decide +kernel
theorem dX6_learn_5 : decode cX6_learn 5 = .ok (.invokevirtual 34, 3) := by decide +kernel
theorem dX6_learn_8 : decode cX6_learn 8 = .ok (.bipush 8, 2) := by decide +kernel
theorem dX6_learn_10 : decode cX6_learn 10 = .ok (.invokestatic 81, 3) := by decide +kernel
theorem dX6_learn_13 : decode cX6_learn 13 = .ok (.putfield 21, 3) := by decide +kernel
theorem dX6_learn_16 : decode cX6_learn 16 = .ok (.iconst 0, 1) := by decide +kernel
theorem dX6_learn_17 : decode cX6_learn 17 = .ok (.istore_n 2, 1) := by decide +kernel
theorem dX6_learn_18 : decode cX6_learn 18 = .ok (.iload_n 2, 1) := by decide +kernel
theorem dX6_learn_19 : decode cX6_learn 19 = .ok (.aload_n 0, 1) := by decide +kernel
theorem dX6_learn_20 : decode cX6_learn 20 = .ok (.getfield 21, 3) := by decide +kernel
theorem dX6_learn_23 : decode cX6_learn 23 = .ok (.if_icmp .ge 55, 3) := by decide +kernel
theorem dX6_learn_26 : decode cX6_learn 26 = .ok (.aload_n 0, 1) := by decide +kernel
theorem dX6_learn_27 : decode cX6_learn 27 = .ok (.getfield 15, 3) := by decide +kernel
theorem dX6_learn_30 : decode cX6_learn 30 = .ok (.iload_n 2, 1) := by decide +kernel
theorem dX6_learn_31 : decode cX6_learn 31 = .ok (.iconst 1, 1) := by decide +kernel
theorem dX6_learn_32 : decode cX6_learn 32 = .ok (.aload_n 1, 1) := by decide +kernel
theorem dX6_learn_33 : decode cX6_learn 33 = .ok (.getfield 29, 3) := by decide +kernel
theorem dX6_learn_36 : decode cX6_learn 36 = .ok (.iload_n 2, 1) := by decide +kernel
theorem dX6_learn_37 : decode cX6_learn 37 = .ok (.iconst 0, 1) := by decide +kernel
theorem dX6_learn_38 : decode cX6_learn 38 = .ok (.invokevirtual 40, 3) := by decide +kernel
theorem dX6_learn_41 : decode cX6_learn 41 = .ok (.ishl, 1) := by decide +kernel
theorem dX6_learn_42 : decode cX6_learn 42 = .ok (.iastore, 1) := by decide +kernel
theorem dX6_learn_43 : decode cX6_learn 43 = .ok (.aload_n 0, 1) := by decide +kernel
theorem dX6_learn_44 : decode cX6_learn 44 = .ok (.getfield 18, 3) := by decide +kernel
theorem dX6_learn_47 : decode cX6_learn 47 = .ok (.iload_n 2, 1) := by decide +kernel
theorem dX6_learn_48 : decode cX6_learn 48 = .ok (.iconst 1, 1) := by decide +kernel
theorem dX6_learn_49 : decode cX6_learn 49 = .ok (.aload_n 1, 1) := by decide +kernel
theorem dX6_learn_50 : decode cX6_learn 50 = .ok (.getfield 29, 3) := by decide +kernel
theorem dX6_learn_53 : decode cX6_learn 53 = .ok (.iload_n 2, 1) := by decide +kernel
theorem dX6_learn_54 : decode cX6_learn 54 = .ok (.iconst 1, 1) := by decide +kernel
theorem dX6_learn_55 : decode cX6_learn 55 = .ok (.invokevirtual 40, 3) := by decide +kernel
theorem dX6_learn_58 : decode cX6_learn 58 = .ok (.ishl, 1) := by decide +kernel
theorem dX6_learn_59 : decode cX6_learn 59 = .ok (.iconst 1, 1) := by decide +kernel
theorem dX6_learn_60 : decode cX6_learn 60 = .ok (.aload_n 1, 1) := by decide +kernel
theorem dX6_learn_61 : decode cX6_learn 61 = .ok (.getfield 29, 3) := by decide +kernel
theorem dX6_learn_64 : decode cX6_learn 64 = .ok (.iload_n 2, 1) := by decide +kernel
theorem dX6_learn_65 : decode cX6_learn 65 = .ok (.iconst 2, 1) := by decide +kernel
theorem dX6_learn_66 : decode cX6_learn 66 = .ok (.invokevirtual 40, 3) := by decide +kernel
theorem dX6_learn_69 : decode cX6_learn 69 = .ok (.ishl, 1) := by decide +kernel
theorem dX6_learn_70 : decode cX6_learn 70 = .ok (.ior, 1) := by decide +kernel
theorem dX6_learn_71 : decode cX6_learn 71 = .ok (.iastore, 1) := by decide +kernel
theorem dX6_learn_72 : decode cX6_learn 72 = .ok (.iinc 2 1, 3) := by decide +kernel
theorem dX6_learn_75 : decode cX6_learn 75 = .ok (.goto (-57), 3) := by decide +kernel
theorem dX6_learn_78 : decode cX6_learn 78 = .ok (.return_, 1) := by decide +kernel
theorem dX6_sayableBy_0 : decode cX6_sayableBy 0 = .ok (.iload_n 1, 1) := by decide +kernel
theorem dX6_sayableBy_1 : decode cX6_sayableBy 1 = .ok (.istore_n 2, 1) := by decide +kernel
theorem dX6_sayableBy_2 : decode cX6_sayableBy 2 = .ok (.iconst (-1), 1) := by decide +kernel
theorem dX6_sayableBy_3 : decode cX6_sayableBy 3 = .ok (.istore_n 3, 1) := by decide +kernel
theorem dX6_sayableBy_4 : decode cX6_sayableBy 4 = .ok (.iconst 0, 1) := by decide +kernel
theorem dX6_sayableBy_5 : decode cX6_sayableBy 5 = .ok (.istore 4, 2) := by decide +kernel
theorem dX6_sayableBy_7 : decode cX6_sayableBy 7 = .ok (.iload 4, 2) := by decide +kernel
theorem dX6_sayableBy_9 : decode cX6_sayableBy 9 = .ok (.bipush 8, 2) := by decide +kernel
theorem dX6_sayableBy_11 : decode cX6_sayableBy 11 = .ok (.if_icmp .gt 58, 3) := by decide +kernel
theorem dX6_sayableBy_14 : decode cX6_sayableBy 14 = .ok (.iload_n 2, 1) := by decide +kernel
theorem dX6_sayableBy_15 : decode cX6_sayableBy 15 = .ok (.iload_n 3, 1) := by decide +kernel
theorem dX6_sayableBy_16 : decode cX6_sayableBy 16 = .ok (.if_icmp .eq 53, 3) := by decide +kernel
theorem dX6_sayableBy_19 : decode cX6_sayableBy 19 = .ok (.iload_n 2, 1) := by decide +kernel
theorem dX6_sayableBy_20 : decode cX6_sayableBy 20 = .ok (.istore_n 3, 1) := by decide +kernel
theorem dX6_sayableBy_21 : decode cX6_sayableBy 21 = .ok (.iconst 0, 1) := by decide +kernel
theorem dX6_sayableBy_22 : decode cX6_sayableBy 22 = .ok (.istore 5, 2) := by decide +kernel
theorem dX6_sayableBy_24 : decode cX6_sayableBy 24 = .ok (.iload 5, 2) := by decide +kernel
theorem dX6_sayableBy_26 : decode cX6_sayableBy 26 = .ok (.aload_n 0, 1) := by decide +kernel
theorem dX6_sayableBy_27 : decode cX6_sayableBy 27 = .ok (.getfield 21, 3) := by decide +kernel
theorem dX6_sayableBy_30 : decode cX6_sayableBy 30 = .ok (.if_icmp .ge 33, 3) := by decide +kernel
theorem dX6_sayableBy_33 : decode cX6_sayableBy 33 = .ok (.aload_n 0, 1) := by decide +kernel
theorem dX6_sayableBy_34 : decode cX6_sayableBy 34 = .ok (.getfield 18, 3) := by decide +kernel
theorem dX6_sayableBy_37 : decode cX6_sayableBy 37 = .ok (.iload 5, 2) := by decide +kernel
theorem dX6_sayableBy_39 : decode cX6_sayableBy 39 = .ok (.iaload, 1) := by decide +kernel
theorem dX6_sayableBy_40 : decode cX6_sayableBy 40 = .ok (.iload_n 2, 1) := by decide +kernel
theorem dX6_sayableBy_41 : decode cX6_sayableBy 41 = .ok (.iconst (-1), 1) := by decide +kernel
theorem dX6_sayableBy_42 : decode cX6_sayableBy 42 = .ok (.ixor, 1) := by decide +kernel
theorem dX6_sayableBy_43 : decode cX6_sayableBy 43 = .ok (.iand, 1) := by decide +kernel
theorem dX6_sayableBy_44 : decode cX6_sayableBy 44 = .ok (.ifCond .ne 13, 3) := by decide +kernel
theorem dX6_sayableBy_47 : decode cX6_sayableBy 47 = .ok (.iload_n 2, 1) := by decide +kernel
theorem dX6_sayableBy_48 : decode cX6_sayableBy 48 = .ok (.aload_n 0, 1) := by decide +kernel
theorem dX6_sayableBy_49 : decode cX6_sayableBy 49 = .ok (.getfield 15, 3) := by decide +kernel
theorem dX6_sayableBy_52 : decode cX6_sayableBy 52 = .ok (.iload 5, 2) := by decide +kernel
theorem dX6_sayableBy_54 : decode cX6_sayableBy 54 = .ok (.iaload, 1) := by decide +kernel
theorem dX6_sayableBy_55 : decode cX6_sayableBy 55 = .ok (.ior, 1) := by decide +kernel
theorem dX6_sayableBy_56 : decode cX6_sayableBy 56 = .ok (.istore_n 2, 1) := by decide +kernel
theorem dX6_sayableBy_57 : decode cX6_sayableBy 57 = .ok (.iinc 5 1, 3) := by decide +kernel
theorem dX6_sayableBy_60 : decode cX6_sayableBy 60 = .ok (.goto (-36), 3) := by decide +kernel
theorem dX6_sayableBy_63 : decode cX6_sayableBy 63 = .ok (.iinc 4 1, 3) := by decide +kernel
theorem dX6_sayableBy_66 : decode cX6_sayableBy 66 = .ok (.goto (-59), 3) := by decide +kernel
theorem dX6_sayableBy_69 : decode cX6_sayableBy 69 = .ok (.iload_n 2, 1) := by decide +kernel
theorem dX6_sayableBy_70 : decode cX6_sayableBy 70 = .ok (.ireturn, 1) := by decide +kernel
theorem dX7_init_0 : decode cX7_init 0 = .ok (.aload_n 0, 1) := by decide +kernel
theorem dX7_init_1 : decode cX7_init 1 = .ok (.invokespecial 3, 3) := by decide +kernel
theorem dX7_init_4 : decode cX7_init 4 = .ok (.aload_n 0, 1) := by decide +kernel
theorem dX7_init_5 : decode cX7_init 5 = .ok (.sipush 250, 3) := by decide +kernel
theorem dX7_init_8 : decode cX7_init 8 = .ok (.newarray .int, 2) := by decide +kernel
theorem dX7_init_10 : decode cX7_init 10 = .ok (.putfield 9, 3) := by decide +kernel
theorem dX7_init_13 : decode cX7_init 13 = .ok (.aload_n 0, 1) := by decide +kernel
theorem dX7_init_14 : decode cX7_init 14 = .ok (.iconst 4, 1) := by decide +kernel
theorem dX7_init_15 : decode cX7_init 15 = .ok (.newarray .int, 2) := by decide +kernel
theorem dX7_init_17 : decode cX7_init 17 = .ok (.putfield 15, 3) := by decide +kernel
theorem dX7_init_20 : decode cX7_init 20 = .ok (.aload_n 0, 1) := by decide +kernel
theorem dX7_init_21 : decode cX7_init 21 = .ok (.iconst 0, 1) := by decide +kernel
theorem dX7_init_22 : decode cX7_init 22 = .ok (.putfield 18, 3) := by decide +kernel
theorem dX7_init_25 : decode cX7_init 25 = .ok (.aload_n 0, 1) := by decide +kernel
theorem dX7_init_26 : decode cX7_init 26 = .ok (.iconst 0, 1) := by decide +kernel
theorem dX7_init_27 : decode cX7_init 27 = .ok (.putfield 22, 3) := by decide +kernel
theorem dX7_init_30 : decode cX7_init 30 = .ok (.return_, 1) := by decide +kernel
theorem dX7_size_0 : decode cX7_size 0 = .ok (.aload_n 0, 1) := by decide +kernel
theorem dX7_size_1 : decode cX7_size 1 = .ok (.getfield 18, 3) := by decide +kernel
theorem dX7_size_4 : decode cX7_size 4 = .ok (.ireturn, 1) := by decide +kernel
theorem dX7_append_0 : decode cX7_append 0 = .ok (.iload_n 3, 1) := by decide +kernel
theorem dX7_append_1 : decode cX7_append 1 = .ok (.iconst 1, 1) := by decide +kernel
theorem dX7_append_2 : decode cX7_append 2 = .ok (.if_icmp .lt 9, 3) := by decide +kernel
theorem dX7_append_5 : decode cX7_append 5 = .ok (.iload_n 3, 1) := by decide +kernel
theorem dX7_append_6 : decode cX7_append 6 = .ok (.bipush 8, 2) := by decide +kernel
theorem dX7_append_8 : decode cX7_append 8 = .ok (.if_icmp .le 6, 3) := by decide +kernel
theorem dX7_append_11 : decode cX7_append 11 = .ok (.bipush (-2), 2) := by decide +kernel
theorem dX7_append_13 : decode cX7_append 13 = .ok (.ireturn, 1) := by decide +kernel
theorem dX7_append_14 : decode cX7_append 14 = .ok (.aload_n 0, 1) := by decide +kernel
theorem dX7_append_15 : decode cX7_append 15 = .ok (.getfield 18, 3) := by decide +kernel
theorem dX7_append_18 : decode cX7_append 18 = .ok (.iload_n 3, 1) := by decide +kernel
theorem dX7_append_19 : decode cX7_append 19 = .ok (.iadd, 1) := by decide +kernel
theorem dX7_append_20 : decode cX7_append 20 = .ok (.sipush 250, 3) := by decide +kernel
theorem dX7_append_23 : decode cX7_append 23 = .ok (.if_icmp .le 6, 3) := by decide +kernel
theorem dX7_append_26 : decode cX7_append 26 = .ok (.bipush (-4), 2) := by decide +kernel
theorem dX7_append_28 : decode cX7_append 28 = .ok (.ireturn, 1) := by decide +kernel
theorem dX7_append_29 : decode cX7_append 29 = .ok (.iload_n 3, 1) := by decide +kernel
theorem dX7_append_30 : decode cX7_append 30 = .ok (.iconst 1, 1) := by decide +kernel
theorem dX7_append_31 : decode cX7_append 31 = .ok (.isub, 1) := by decide +kernel
theorem dX7_append_32 : decode cX7_append 32 = .ok (.istore 4, 2) := by decide +kernel
theorem dX7_append_34 : decode cX7_append 34 = .ok (.iload 4, 2) := by decide +kernel
theorem dX7_append_36 : decode cX7_append 36 = .ok (.ifCond .lt 40, 3) := by decide +kernel
theorem dX7_append_39 : decode cX7_append 39 = .ok (.aload_n 0, 1) := by decide +kernel
theorem dX7_append_40 : decode cX7_append 40 = .ok (.getfield 9, 3) := by decide +kernel
theorem dX7_append_43 : decode cX7_append 43 = .ok (.aload_n 0, 1) := by decide +kernel
theorem dX7_append_44 : decode cX7_append 44 = .ok (.getfield 18, 3) := by decide +kernel
theorem dX7_append_47 : decode cX7_append 47 = .ok (.lload_n 1, 1) := by decide +kernel
theorem dX7_append_48 : decode cX7_append 48 = .ok (.bipush 8, 2) := by decide +kernel
theorem dX7_append_50 : decode cX7_append 50 = .ok (.iload 4, 2) := by decide +kernel
theorem dX7_append_52 : decode cX7_append 52 = .ok (.imul, 1) := by decide +kernel
theorem dX7_append_53 : decode cX7_append 53 = .ok (.lshr, 1) := by decide +kernel
theorem dX7_append_54 : decode cX7_append 54 = .ok (.ldc2_w 25, 3) := by decide +kernel
theorem dX7_append_57 : decode cX7_append 57 = .ok (.land, 1) := by decide +kernel
theorem dX7_append_58 : decode cX7_append 58 = .ok (.l2i, 1) := by decide +kernel
theorem dX7_append_59 : decode cX7_append 59 = .ok (.iastore, 1) := by decide +kernel
theorem dX7_append_60 : decode cX7_append 60 = .ok (.aload_n 0, 1) := by decide +kernel
theorem dX7_append_61 : decode cX7_append 61 = .ok (.dup, 1) := by decide +kernel
theorem dX7_append_62 : decode cX7_append 62 = .ok (.getfield 18, 3) := by decide +kernel
theorem dX7_append_65 : decode cX7_append 65 = .ok (.iconst 1, 1) := by decide +kernel
theorem dX7_append_66 : decode cX7_append 66 = .ok (.iadd, 1) := by decide +kernel
theorem dX7_append_67 : decode cX7_append 67 = .ok (.putfield 18, 3) := by decide +kernel
theorem dX7_append_70 : decode cX7_append 70 = .ok (.iinc 4 (-1), 3) := by decide +kernel
theorem dX7_append_73 : decode cX7_append 73 = .ok (.goto (-39), 3) := by decide +kernel
theorem dX7_append_76 : decode cX7_append 76 = .ok (.aload_n 0, 1) := by decide +kernel
theorem dX7_append_77 : decode cX7_append 77 = .ok (.getfield 18, 3) := by decide +kernel
theorem dX7_append_80 : decode cX7_append 80 = .ok (.ireturn, 1) := by decide +kernel
theorem dX7_empty_0 : decode cX7_empty 0 = .ok (.aload_n 0, 1) := by decide +kernel
theorem dX7_empty_1 : decode cX7_empty 1 = .ok (.getfield 18, 3) := by decide +kernel
theorem dX7_empty_4 : decode cX7_empty 4 = .ok (.istore_n 1, 1) := by decide +kernel
theorem dX7_empty_5 : decode cX7_empty 5 = .ok (.aload_n 0, 1) := by decide +kernel
theorem dX7_empty_6 : decode cX7_empty 6 = .ok (.iconst 0, 1) := by decide +kernel
theorem dX7_empty_7 : decode cX7_empty 7 = .ok (.putfield 18, 3) := by decide +kernel
theorem dX7_empty_10 : decode cX7_empty 10 = .ok (.iload_n 1, 1) := by decide +kernel
theorem dX7_empty_11 : decode cX7_empty 11 = .ok (.ireturn, 1) := by decide +kernel
set_option maxRecDepth 20000 in
theorem ggX7_tellTo_X7_skipBlanks : GoodIn wsX7_tellTo wsX7_skipBlanks := goodIn_r _ [7, 1, 2, 8, 9, 10, 6, 11, 12, 161, 162, 163, 164] (by decide +kernel) (by decide +kernel)
set_option maxRecDepth 20000 in
theorem gX7_tellTo_X7_skipBlanks : GoodIn wsX7_tellTo (wsV RX7 27 RX7 yX7_skipBlanks wsX7_skipBlanks) := goodIn_app (goodIn_of _ (by decide +kernel)) ggX7_tellTo_X7_skipBlanks
set_option maxRecDepth 20000 in
theorem ggX7_tellTo_X7_takeWord : GoodIn wsX7_tellTo wsX7_takeWord := goodIn_r _ [16, 1, 2, 17, 18, 19, 6, 20, 8, 9, 10, 11, 12, 21, 22, 23, 24, 25, 26, 27, 28, 29, 30, 31, 32, 33, 34, 35, 36, 37, 38, 39, 40, 41, 42, 43, 44, 45, 46, 47, 48, 49, 50, 51, 52, 53, 54, 55, 56, 57, 58, 59, 60, 61, 62, 63, 64, 65, 66, 67, 68, 69, 70, 71, 72, 73, 74, 75, 76, 161, 162, 163, 164] (by decide +kernel) (by decide +kernel)
set_option maxRecDepth 20000 in
theorem gX7_tellTo_X7_takeWord : GoodIn wsX7_tellTo (wsV RX7 30 RX7 yX7_takeWord wsX7_takeWord) := goodIn_app (goodIn_of _ (by decide +kernel)) ggX7_tellTo_X7_takeWord
set_option maxRecDepth 20000 in
theorem ggX7_tellTo_X7_takeNumbers : GoodIn wsX7_tellTo wsX7_takeNumbers := goodIn_r _ [80, 81, 82, 83, 84, 85, 6, 86, 1, 2, 3, 4, 5, 7, 8, 9, 10, 11, 12, 87, 88, 89, 90, 161, 162, 163, 164] (by decide +kernel) (by decide +kernel)
set_option maxRecDepth 20000 in
theorem gX7_tellTo_X7_takeNumbers : GoodIn wsX7_tellTo (wsV RX7 34 RX7 yX7_takeNumbers wsX7_takeNumbers) := goodIn_app (goodIn_of _ (by decide +kernel)) ggX7_tellTo_X7_takeNumbers
set_option maxRecDepth 20000 in
theorem ggX7_tellTo_X7_takeEnd : GoodIn wsX7_tellTo wsX7_takeEnd := goodIn_r _ [94, 1, 3, 4, 5, 6, 7, 2, 8, 9, 10, 11, 12, 161, 162, 163, 164] (by decide +kernel) (by decide +kernel)
set_option maxRecDepth 20000 in
theorem gX7_tellTo_X7_takeEnd : GoodIn wsX7_tellTo (wsV RX7 38 RX7 yX7_takeEnd wsX7_takeEnd) := goodIn_app (goodIn_of _ (by decide +kernel)) ggX7_tellTo_X7_takeEnd
set_option maxRecDepth 20000 in
theorem ggX7_tellTo_X7_tellItem : GoodIn wsX7_tellTo wsX7_tellItem := goodIn_r _ [98, 82, 99, 100, 101, 102, 103, 104, 105, 106, 107, 108, 109, 110, 111, 112, 113, 114, 115, 116, 117, 118, 119, 120, 121, 122, 123, 124, 125, 126, 127, 128, 129, 130, 131, 132, 133, 134, 135, 136, 137, 138, 139, 140, 141, 142, 143, 144, 145, 146, 147, 148, 149, 150, 151, 152, 153, 154, 155, 156, 157, 158, 159, 160, 161, 162, 163, 164, 165, 166, 167, 168, 169, 170, 171, 172, 173, 174, 175, 176, 177] (by decide +kernel) (by decide +kernel)
set_option maxRecDepth 20000 in
theorem gX7_tellTo_X7_tellItem : GoodIn wsX7_tellTo (wsV RX7 42 RX7 yX7_tellItem wsX7_tellItem) := goodIn_app (goodIn_of _ (by decide +kernel)) ggX7_tellTo_X7_tellItem
theorem dX7_tellTo_0 : decode cX7_tellTo 0 = .ok (.iconst 0, 1) := by decide +kernel
theorem dX7_tellTo_1 : decode cX7_tellTo 1 = .ok (.istore_n 2, 1) := by decide +kernel
theorem dX7_tellTo_2 : decode cX7_tellTo 2 = .ok (.iconst (-1), 1) := by decide +kernel
theorem dX7_tellTo_3 : decode cX7_tellTo 3 = .ok (.istore_n 3, 1) := by decide +kernel
theorem dX7_tellTo_4 : decode cX7_tellTo 4 = .ok (.aload_n 0, 1) := by decide +kernel
theorem dX7_tellTo_5 : decode cX7_tellTo 5 = .ok (.iconst 0, 1) := by decide +kernel
theorem dX7_tellTo_6 : decode cX7_tellTo 6 = .ok (.putfield 22, 3) := by decide +kernel
theorem dX7_tellTo_9 : decode cX7_tellTo 9 = .ok (.aload_n 0, 1) := by decide +kernel
theorem dX7_tellTo_10 : decode cX7_tellTo 10 = .ok (.invokevirtual 27, 3) := by decide +kernel
theorem dX7_tellTo_13 : decode cX7_tellTo 13 = .ok (.iconst 0, 1) := by decide +kernel
theorem dX7_tellTo_14 : decode cX7_tellTo 14 = .ok (.istore 4, 2) := by decide +kernel
theorem dX7_tellTo_16 : decode cX7_tellTo 16 = .ok (.iload 4, 2) := by decide +kernel
theorem dX7_tellTo_18 : decode cX7_tellTo 18 = .ok (.sipush 250, 3) := by decide +kernel
theorem dX7_tellTo_21 : decode cX7_tellTo 21 = .ok (.if_icmp .ge 80, 3) := by decide +kernel
theorem dX7_tellTo_24 : decode cX7_tellTo 24 = .ok (.aload_n 0, 1) := by decide +kernel
theorem dX7_tellTo_25 : decode cX7_tellTo 25 = .ok (.getfield 22, 3) := by decide +kernel
theorem dX7_tellTo_28 : decode cX7_tellTo 28 = .ok (.aload_n 0, 1) := by decide +kernel
theorem dX7_tellTo_29 : decode cX7_tellTo 29 = .ok (.getfield 18, 3) := by decide +kernel
theorem dX7_tellTo_32 : decode cX7_tellTo 32 = .ok (.if_icmp .ge 69, 3) := by decide +kernel
theorem dX7_tellTo_35 : decode cX7_tellTo 35 = .ok (.aload_n 0, 1) := by decide +kernel
theorem dX7_tellTo_36 : decode cX7_tellTo 36 = .ok (.invokevirtual 30, 3) := by decide +kernel
theorem dX7_tellTo_39 : decode cX7_tellTo 39 = .ok (.istore 5, 2) := by decide +kernel
theorem dX7_tellTo_41 : decode cX7_tellTo 41 = .ok (.iload 5, 2) := by decide +kernel
theorem dX7_tellTo_43 : decode cX7_tellTo 43 = .ok (.iconst (-1), 1) := by decide +kernel
theorem dX7_tellTo_44 : decode cX7_tellTo 44 = .ok (.if_icmp .eq 19, 3) := by decide +kernel
theorem dX7_tellTo_47 : decode cX7_tellTo 47 = .ok (.aload_n 0, 1) := by decide +kernel
theorem dX7_tellTo_48 : decode cX7_tellTo 48 = .ok (.iload 5, 2) := by decide +kernel
theorem dX7_tellTo_50 : decode cX7_tellTo 50 = .ok (.invokevirtual 34, 3) := by decide +kernel
theorem dX7_tellTo_53 : decode cX7_tellTo 53 = .ok (.ifCond .eq 10, 3) := by decide +kernel
theorem dX7_tellTo_56 : decode cX7_tellTo 56 = .ok (.aload_n 0, 1) := by decide +kernel
theorem dX7_tellTo_57 : decode cX7_tellTo 57 = .ok (.invokevirtual 38, 3) := by decide +kernel
theorem dX7_tellTo_60 : decode cX7_tellTo 60 = .ok (.ifCond .ne 11, 3) := by decide +kernel
theorem dX7_tellTo_63 : decode cX7_tellTo 63 = .ok (.bipush (-10), 2) := by decide +kernel
theorem dX7_tellTo_65 : decode cX7_tellTo 65 = .ok (.aload_n 0, 1) := by decide +kernel
theorem dX7_tellTo_66 : decode cX7_tellTo 66 = .ok (.getfield 22, 3) := by decide +kernel
theorem dX7_tellTo_69 : decode cX7_tellTo 69 = .ok (.isub, 1) := by decide +kernel
theorem dX7_tellTo_70 : decode cX7_tellTo 70 = .ok (.ireturn, 1) := by decide +kernel
theorem dX7_tellTo_71 : decode cX7_tellTo 71 = .ok (.iload_n 3, 1) := by decide +kernel
theorem dX7_tellTo_72 : decode cX7_tellTo 72 = .ok (.iconst (-1), 1) := by decide +kernel
theorem dX7_tellTo_73 : decode cX7_tellTo 73 = .ok (.if_icmp .ne 15, 3) := by decide +kernel
theorem dX7_tellTo_76 : decode cX7_tellTo 76 = .ok (.aload_n 0, 1) := by decide +kernel
theorem dX7_tellTo_77 : decode cX7_tellTo 77 = .ok (.aload_n 1, 1) := by decide +kernel
theorem dX7_tellTo_78 : decode cX7_tellTo 78 = .ok (.iload 5, 2) := by decide +kernel
theorem dX7_tellTo_80 : decode cX7_tellTo 80 = .ok (.invokevirtual 42, 3) := by decide +kernel
theorem dX7_tellTo_83 : decode cX7_tellTo 83 = .ok (.ifCond .ge 5, 3) := by decide +kernel
theorem dX7_tellTo_86 : decode cX7_tellTo 86 = .ok (.iload_n 2, 1) := by decide +kernel
theorem dX7_tellTo_87 : decode cX7_tellTo 87 = .ok (.istore_n 3, 1) := by decide +kernel
theorem dX7_tellTo_88 : decode cX7_tellTo 88 = .ok (.iinc 2 1, 3) := by decide +kernel
theorem dX7_tellTo_91 : decode cX7_tellTo 91 = .ok (.aload_n 0, 1) := by decide +kernel
theorem dX7_tellTo_92 : decode cX7_tellTo 92 = .ok (.invokevirtual 27, 3) := by decide +kernel
theorem dX7_tellTo_95 : decode cX7_tellTo 95 = .ok (.iinc 4 1, 3) := by decide +kernel
theorem dX7_tellTo_98 : decode cX7_tellTo 98 = .ok (.goto (-82), 3) := by decide +kernel
theorem dX7_tellTo_101 : decode cX7_tellTo 101 = .ok (.iload_n 3, 1) := by decide +kernel
theorem dX7_tellTo_102 : decode cX7_tellTo 102 = .ok (.iconst (-1), 1) := by decide +kernel
theorem dX7_tellTo_103 : decode cX7_tellTo 103 = .ok (.if_icmp .ne 7, 3) := by decide +kernel
theorem dX7_tellTo_106 : decode cX7_tellTo 106 = .ok (.iload_n 2, 1) := by decide +kernel
theorem dX7_tellTo_107 : decode cX7_tellTo 107 = .ok (.goto 8, 3) := by decide +kernel
theorem dX7_tellTo_110 : decode cX7_tellTo 110 = .ok (.sipush (-1000), 3) := by decide +kernel
theorem dX7_tellTo_113 : decode cX7_tellTo 113 = .ok (.iload_n 3, 1) := by decide +kernel
theorem dX7_tellTo_114 : decode cX7_tellTo 114 = .ok (.isub, 1) := by decide +kernel
theorem dX7_tellTo_115 : decode cX7_tellTo 115 = .ok (.ireturn, 1) := by decide +kernel
set_option maxRecDepth 20000 in
theorem ggX7_tellItem_X0_addTerm : GoodIn wsX7_tellItem wsX0_addTerm := goodIn_r _ [6, 7, 8, 9, 10, 11, 12, 13, 14, 15, 68, 69, 70, 71, 72, 73, 74, 75, 76, 77, 78, 79, 80] (by decide +kernel) (by decide +kernel)
set_option maxRecDepth 20000 in
theorem gX7_tellItem_X0_addTerm : GoodIn wsX7_tellItem (wsV RX7 46 RX0 yX0_addTerm wsX0_addTerm) := goodIn_app (goodIn_of _ (by decide +kernel)) ggX7_tellItem_X0_addTerm
set_option maxRecDepth 20000 in
theorem ggX7_tellItem_X0_addRule : GoodIn wsX7_tellItem wsX0_addRule := goodIn_r _ [19, 7, 20, 21, 22, 23, 11, 24, 13, 8, 9, 10, 12, 14, 15, 68, 69, 70, 71, 72, 73, 74, 75, 76, 77, 78, 79, 80] (by decide +kernel) (by decide +kernel)
set_option maxRecDepth 20000 in
theorem gX7_tellItem_X0_addRule : GoodIn wsX7_tellItem (wsV RX7 52 RX0 yX0_addRule wsX0_addRule) := goodIn_app (goodIn_of _ (by decide +kernel)) ggX7_tellItem_X0_addRule
set_option maxRecDepth 20000 in
theorem ggX7_tellItem_X0_addLoan : GoodIn wsX7_tellItem wsX0_addLoan := goodIn_r _ [28, 7, 29, 30, 31, 32, 21, 22, 23, 11, 24, 13, 33, 34, 8, 9, 10, 12, 14, 15, 68, 69, 70, 71, 72, 73, 74, 75, 76, 77, 78, 79, 80] (by decide +kernel) (by decide +kernel)
set_option maxRecDepth 20000 in
theorem gX7_tellItem_X0_addLoan : GoodIn wsX7_tellItem (wsV RX7 55 RX0 yX0_addLoan wsX0_addLoan) := goodIn_app (goodIn_of _ (by decide +kernel)) ggX7_tellItem_X0_addLoan
set_option maxRecDepth 20000 in
theorem ggX7_tellItem_X0_addWant : GoodIn wsX7_tellItem wsX0_addWant := goodIn_r _ [38, 39, 40, 41, 42, 43, 44, 45, 46, 30, 31, 32, 47, 48, 49, 5, 50, 51, 52, 53, 54, 7, 55, 56, 57, 11, 58, 13, 33, 34, 8, 9, 10, 12, 14, 15, 68, 69, 70, 71, 72, 73, 74, 75, 76, 77, 78, 79, 80] (by decide +kernel) (by decide +kernel)
set_option maxRecDepth 20000 in
theorem gX7_tellItem_X0_addWant : GoodIn wsX7_tellItem (wsV RX7 59 RX0 yX0_addWant wsX0_addWant) := goodIn_app (goodIn_of _ (by decide +kernel)) ggX7_tellItem_X0_addWant
set_option maxRecDepth 20000 in
theorem ggX7_tellItem_X0_addSaying : GoodIn wsX7_tellItem wsX0_addSaying := goodIn_r _ [62, 63, 47, 48, 49, 5, 50, 51, 52, 53, 54, 7, 55, 56, 57, 11, 58, 13, 8, 9, 10, 12, 14, 15, 68, 69, 70, 71, 72, 73, 74, 75, 76, 77, 78, 79, 80] (by decide +kernel) (by decide +kernel)
set_option maxRecDepth 20000 in
theorem gX7_tellItem_X0_addSaying : GoodIn wsX7_tellItem (wsV RX7 62 RX0 yX0_addSaying wsX0_addSaying) := goodIn_app (goodIn_of _ (by decide +kernel)) ggX7_tellItem_X0_addSaying
theorem dX7_tellItem_0 : decode cX7_tellItem 0 = .ok (.iload_n 2, 1) := by decide +kernel
theorem dX7_tellItem_1 : decode cX7_tellItem 1 = .ok (.tableswitch 135 0 3 #[31, 54, 77, 106], 31) := by decide +kernel
theorem dX7_tellItem_32 : decode cX7_tellItem 32 = .ok (.aload_n 1, 1) := by decide +kernel
theorem dX7_tellItem_33 : decode cX7_tellItem 33 = .ok (.aload_n 0, 1) := by decide +kernel
theorem dX7_tellItem_34 : decode cX7_tellItem 34 = .ok (.getfield 15, 3) := by decide +kernel
theorem dX7_tellItem_37 : decode cX7_tellItem 37 = .ok (.iconst 0, 1) := by decide +kernel
theorem dX7_tellItem_38 : decode cX7_tellItem 38 = .ok (.iaload, 1) := by decide +kernel
theorem dX7_tellItem_39 : decode cX7_tellItem 39 = .ok (.aload_n 0, 1) := by decide +kernel
theorem dX7_tellItem_40 : decode cX7_tellItem 40 = .ok (.getfield 15, 3) := by decide +kernel
theorem dX7_tellItem_43 : decode cX7_tellItem 43 = .ok (.iconst 1, 1) := by decide +kernel
theorem dX7_tellItem_44 : decode cX7_tellItem 44 = .ok (.iaload, 1) := by decide +kernel
theorem dX7_tellItem_45 : decode cX7_tellItem 45 = .ok (.aload_n 0, 1) := by decide +kernel
theorem dX7_tellItem_46 : decode cX7_tellItem 46 = .ok (.getfield 15, 3) := by decide +kernel
theorem dX7_tellItem_49 : decode cX7_tellItem 49 = .ok (.iconst 2, 1) := by decide +kernel
theorem dX7_tellItem_50 : decode cX7_tellItem 50 = .ok (.iaload, 1) := by decide +kernel
theorem dX7_tellItem_51 : decode cX7_tellItem 51 = .ok (.invokevirtual 46, 3) := by decide +kernel
theorem dX7_tellItem_54 : decode cX7_tellItem 54 = .ok (.ireturn, 1) := by decide +kernel
theorem dX7_tellItem_55 : decode cX7_tellItem 55 = .ok (.aload_n 1, 1) := by decide +kernel
theorem dX7_tellItem_56 : decode cX7_tellItem 56 = .ok (.aload_n 0, 1) := by decide +kernel
theorem dX7_tellItem_57 : decode cX7_tellItem 57 = .ok (.getfield 15, 3) := by decide +kernel
theorem dX7_tellItem_60 : decode cX7_tellItem 60 = .ok (.iconst 0, 1) := by decide +kernel
theorem dX7_tellItem_61 : decode cX7_tellItem 61 = .ok (.iaload, 1) := by decide +kernel
theorem dX7_tellItem_62 : decode cX7_tellItem 62 = .ok (.aload_n 0, 1) := by decide +kernel
theorem dX7_tellItem_63 : decode cX7_tellItem 63 = .ok (.getfield 15, 3) := by decide +kernel
theorem dX7_tellItem_66 : decode cX7_tellItem 66 = .ok (.iconst 1, 1) := by decide +kernel
theorem dX7_tellItem_67 : decode cX7_tellItem 67 = .ok (.iaload, 1) := by decide +kernel
theorem dX7_tellItem_68 : decode cX7_tellItem 68 = .ok (.aload_n 0, 1) := by decide +kernel
theorem dX7_tellItem_69 : decode cX7_tellItem 69 = .ok (.getfield 15, 3) := by decide +kernel
theorem dX7_tellItem_72 : decode cX7_tellItem 72 = .ok (.iconst 2, 1) := by decide +kernel
theorem dX7_tellItem_73 : decode cX7_tellItem 73 = .ok (.iaload, 1) := by decide +kernel
theorem dX7_tellItem_74 : decode cX7_tellItem 74 = .ok (.invokevirtual 52, 3) := by decide +kernel
theorem dX7_tellItem_77 : decode cX7_tellItem 77 = .ok (.ireturn, 1) := by decide +kernel
theorem dX7_tellItem_78 : decode cX7_tellItem 78 = .ok (.aload_n 1, 1) := by decide +kernel
theorem dX7_tellItem_79 : decode cX7_tellItem 79 = .ok (.aload_n 0, 1) := by decide +kernel
theorem dX7_tellItem_80 : decode cX7_tellItem 80 = .ok (.getfield 15, 3) := by decide +kernel
theorem dX7_tellItem_83 : decode cX7_tellItem 83 = .ok (.iconst 0, 1) := by decide +kernel
theorem dX7_tellItem_84 : decode cX7_tellItem 84 = .ok (.iaload, 1) := by decide +kernel
theorem dX7_tellItem_85 : decode cX7_tellItem 85 = .ok (.aload_n 0, 1) := by decide +kernel
theorem dX7_tellItem_86 : decode cX7_tellItem 86 = .ok (.getfield 15, 3) := by decide +kernel
theorem dX7_tellItem_89 : decode cX7_tellItem 89 = .ok (.iconst 1, 1) := by decide +kernel
theorem dX7_tellItem_90 : decode cX7_tellItem 90 = .ok (.iaload, 1) := by decide +kernel
theorem dX7_tellItem_91 : decode cX7_tellItem 91 = .ok (.aload_n 0, 1) := by decide +kernel
theorem dX7_tellItem_92 : decode cX7_tellItem 92 = .ok (.getfield 15, 3) := by decide +kernel
theorem dX7_tellItem_95 : decode cX7_tellItem 95 = .ok (.iconst 2, 1) := by decide +kernel
theorem dX7_tellItem_96 : decode cX7_tellItem 96 = .ok (.iaload, 1) := by decide +kernel
theorem dX7_tellItem_97 : decode cX7_tellItem 97 = .ok (.aload_n 0, 1) := by decide +kernel
theorem dX7_tellItem_98 : decode cX7_tellItem 98 = .ok (.getfield 15, 3) := by decide +kernel
theorem dX7_tellItem_101 : decode cX7_tellItem 101 = .ok (.iconst 3, 1) := by decide +kernel
theorem dX7_tellItem_102 : decode cX7_tellItem 102 = .ok (.iaload, 1) := by decide +kernel
theorem dX7_tellItem_103 : decode cX7_tellItem 103 = .ok (.invokevirtual 55, 3) := by decide +kernel
theorem dX7_tellItem_106 : decode cX7_tellItem 106 = .ok (.ireturn, 1) := by decide +kernel
theorem dX7_tellItem_107 : decode cX7_tellItem 107 = .ok (.aload_n 1, 1) := by decide +kernel
theorem dX7_tellItem_108 : decode cX7_tellItem 108 = .ok (.aload_n 0, 1) := by decide +kernel
theorem dX7_tellItem_109 : decode cX7_tellItem 109 = .ok (.getfield 15, 3) := by decide +kernel
theorem dX7_tellItem_112 : decode cX7_tellItem 112 = .ok (.iconst 0, 1) := by decide +kernel
theorem dX7_tellItem_113 : decode cX7_tellItem 113 = .ok (.iaload, 1) := by decide +kernel
theorem dX7_tellItem_114 : decode cX7_tellItem 114 = .ok (.aload_n 0, 1) := by decide +kernel
theorem dX7_tellItem_115 : decode cX7_tellItem 115 = .ok (.getfield 15, 3) := by decide +kernel
theorem dX7_tellItem_118 : decode cX7_tellItem 118 = .ok (.iconst 1, 1) := by decide +kernel
theorem dX7_tellItem_119 : decode cX7_tellItem 119 = .ok (.iaload, 1) := by decide +kernel
theorem dX7_tellItem_120 : decode cX7_tellItem 120 = .ok (.aload_n 0, 1) := by decide +kernel
theorem dX7_tellItem_121 : decode cX7_tellItem 121 = .ok (.getfield 15, 3) := by decide +kernel
theorem dX7_tellItem_124 : decode cX7_tellItem 124 = .ok (.iconst 2, 1) := by decide +kernel
theorem dX7_tellItem_125 : decode cX7_tellItem 125 = .ok (.iaload, 1) := by decide +kernel
theorem dX7_tellItem_126 : decode cX7_tellItem 126 = .ok (.aload_n 0, 1) := by decide +kernel
theorem dX7_tellItem_127 : decode cX7_tellItem 127 = .ok (.getfield 15, 3) := by decide +kernel
theorem dX7_tellItem_130 : decode cX7_tellItem 130 = .ok (.iconst 3, 1) := by decide +kernel
theorem dX7_tellItem_131 : decode cX7_tellItem 131 = .ok (.iaload, 1) := by decide +kernel
theorem dX7_tellItem_132 : decode cX7_tellItem 132 = .ok (.invokevirtual 59, 3) := by decide +kernel
theorem dX7_tellItem_135 : decode cX7_tellItem 135 = .ok (.ireturn, 1) := by decide +kernel
theorem dX7_tellItem_136 : decode cX7_tellItem 136 = .ok (.aload_n 1, 1) := by decide +kernel
theorem dX7_tellItem_137 : decode cX7_tellItem 137 = .ok (.aload_n 0, 1) := by decide +kernel
theorem dX7_tellItem_138 : decode cX7_tellItem 138 = .ok (.getfield 15, 3) := by decide +kernel
theorem dX7_tellItem_141 : decode cX7_tellItem 141 = .ok (.iconst 0, 1) := by decide +kernel
theorem dX7_tellItem_142 : decode cX7_tellItem 142 = .ok (.iaload, 1) := by decide +kernel
theorem dX7_tellItem_143 : decode cX7_tellItem 143 = .ok (.aload_n 0, 1) := by decide +kernel
theorem dX7_tellItem_144 : decode cX7_tellItem 144 = .ok (.getfield 15, 3) := by decide +kernel
theorem dX7_tellItem_147 : decode cX7_tellItem 147 = .ok (.iconst 1, 1) := by decide +kernel
theorem dX7_tellItem_148 : decode cX7_tellItem 148 = .ok (.iaload, 1) := by decide +kernel
theorem dX7_tellItem_149 : decode cX7_tellItem 149 = .ok (.invokevirtual 62, 3) := by decide +kernel
theorem dX7_tellItem_152 : decode cX7_tellItem 152 = .ok (.ireturn, 1) := by decide +kernel
theorem dX7_spelling_0 : decode cX7_spelling 0 = .ok (.iload_n 0, 1) := by decide +kernel
theorem dX7_spelling_1 : decode cX7_spelling 1 = .ok (.tableswitch 43 0 3 #[31, 34, 37, 40], 31) := by decide +kernel
theorem dX7_spelling_32 : decode cX7_spelling 32 = .ok (.ldc 66, 2) := by decide +kernel
theorem dX7_spelling_34 : decode cX7_spelling 34 = .ok (.areturn, 1) := by decide +kernel
theorem dX7_spelling_35 : decode cX7_spelling 35 = .ok (.ldc 68, 2) := by decide +kernel
theorem dX7_spelling_37 : decode cX7_spelling 37 = .ok (.areturn, 1) := by decide +kernel
theorem dX7_spelling_38 : decode cX7_spelling 38 = .ok (.ldc 70, 2) := by decide +kernel
theorem dX7_spelling_40 : decode cX7_spelling 40 = .ok (.areturn, 1) := by decide +kernel
theorem dX7_spelling_41 : decode cX7_spelling 41 = .ok (.ldc 72, 2) := by decide +kernel
theorem dX7_spelling_43 : decode cX7_spelling 43 = .ok (.areturn, 1) := by decide +kernel
theorem dX7_spelling_44 : decode cX7_spelling 44 = .ok (.ldc 74, 2) := by decide +kernel
theorem dX7_spelling_46 : decode cX7_spelling 46 = .ok (.areturn, 1) := by decide +kernel
theorem dX7_byteAt_0 : decode cX7_byteAt 0 = .ok (.iload_n 1, 1) := by decide +kernel
theorem dX7_byteAt_1 : decode cX7_byteAt 1 = .ok (.ifCond .lt 20, 3) := by decide +kernel
theorem dX7_byteAt_4 : decode cX7_byteAt 4 = .ok (.iload_n 1, 1) := by decide +kernel
theorem dX7_byteAt_5 : decode cX7_byteAt 5 = .ok (.aload_n 0, 1) := by decide +kernel
theorem dX7_byteAt_6 : decode cX7_byteAt 6 = .ok (.getfield 18, 3) := by decide +kernel
theorem dX7_byteAt_9 : decode cX7_byteAt 9 = .ok (.if_icmp .ge 12, 3) := by decide +kernel
theorem dX7_byteAt_12 : decode cX7_byteAt 12 = .ok (.aload_n 0, 1) := by decide +kernel
theorem dX7_byteAt_13 : decode cX7_byteAt 13 = .ok (.getfield 9, 3) := by decide +kernel
theorem dX7_byteAt_16 : decode cX7_byteAt 16 = .ok (.iload_n 1, 1) := by decide +kernel
theorem dX7_byteAt_17 : decode cX7_byteAt 17 = .ok (.iaload, 1) := by decide +kernel
theorem dX7_byteAt_18 : decode cX7_byteAt 18 = .ok (.goto 4, 3) := by decide +kernel
theorem dX7_byteAt_21 : decode cX7_byteAt 21 = .ok (.iconst (-1), 1) := by decide +kernel
theorem dX7_byteAt_22 : decode cX7_byteAt 22 = .ok (.ireturn, 1) := by decide +kernel
set_option maxRecDepth 20000 in
theorem ggX7_isLetter_X7_byteAt : GoodIn wsX7_isLetter wsX7_byteAt := goodIn_r _ [5, 6, 7, 8, 9, 10, 11] (by decide +kernel) (by decide +kernel)
set_option maxRecDepth 20000 in
theorem gX7_isLetter_X7_byteAt : GoodIn wsX7_isLetter (wsV RX7 76 RX7 yX7_byteAt wsX7_byteAt) := goodIn_app (goodIn_of _ (by decide +kernel)) ggX7_isLetter_X7_byteAt
theorem dX7_isLetter_0 : decode cX7_isLetter 0 = .ok (.aload_n 0, 1) := by decide +kernel
theorem dX7_isLetter_1 : decode cX7_isLetter 1 = .ok (.iload_n 1, 1) := by decide +kernel
theorem dX7_isLetter_2 : decode cX7_isLetter 2 = .ok (.invokevirtual 76, 3) := by decide +kernel
theorem dX7_isLetter_5 : decode cX7_isLetter 5 = .ok (.bipush 97, 2) := by decide +kernel
theorem dX7_isLetter_7 : decode cX7_isLetter 7 = .ok (.if_icmp .lt 17, 3) := by decide +kernel
theorem dX7_isLetter_10 : decode cX7_isLetter 10 = .ok (.aload_n 0, 1) := by decide +kernel
theorem dX7_isLetter_11 : decode cX7_isLetter 11 = .ok (.iload_n 1, 1) := by decide +kernel
theorem dX7_isLetter_12 : decode cX7_isLetter 12 = .ok (.invokevirtual 76, 3) := by decide +kernel
theorem dX7_isLetter_15 : decode cX7_isLetter 15 = .ok (.bipush 122, 2) := by decide +kernel
theorem dX7_isLetter_17 : decode cX7_isLetter 17 = .ok (.if_icmp .gt 7, 3) := by decide +kernel
theorem dX7_isLetter_20 : decode cX7_isLetter 20 = .ok (.iconst 1, 1) := by decide +kernel
theorem dX7_isLetter_21 : decode cX7_isLetter 21 = .ok (.goto 4, 3) := by decide +kernel
theorem dX7_isLetter_24 : decode cX7_isLetter 24 = .ok (.iconst 0, 1) := by decide +kernel
theorem dX7_isLetter_25 : decode cX7_isLetter 25 = .ok (.ireturn, 1) := by decide +kernel
set_option maxRecDepth 20000 in
theorem ggX7_isFigure_X7_byteAt : GoodIn wsX7_isFigure wsX7_byteAt := goodIn_r _ [5, 6, 7, 8, 9, 10, 11] (by decide +kernel) (by decide +kernel)
set_option maxRecDepth 20000 in
theorem gX7_isFigure_X7_byteAt : GoodIn wsX7_isFigure (wsV RX7 76 RX7 yX7_byteAt wsX7_byteAt) := goodIn_app (goodIn_of _ (by decide +kernel)) ggX7_isFigure_X7_byteAt
theorem dX7_isFigure_0 : decode cX7_isFigure 0 = .ok (.aload_n 0, 1) := by decide +kernel
theorem dX7_isFigure_1 : decode cX7_isFigure 1 = .ok (.iload_n 1, 1) := by decide +kernel
theorem dX7_isFigure_2 : decode cX7_isFigure 2 = .ok (.invokevirtual 76, 3) := by decide +kernel
theorem dX7_isFigure_5 : decode cX7_isFigure 5 = .ok (.bipush 48, 2) := by decide +kernel
theorem dX7_isFigure_7 : decode cX7_isFigure 7 = .ok (.if_icmp .lt 17, 3) := by decide +kernel
theorem dX7_isFigure_10 : decode cX7_isFigure 10 = .ok (.aload_n 0, 1) := by decide +kernel
theorem dX7_isFigure_11 : decode cX7_isFigure 11 = .ok (.iload_n 1, 1) := by decide +kernel
theorem dX7_isFigure_12 : decode cX7_isFigure 12 = .ok (.invokevirtual 76, 3) := by decide +kernel
theorem dX7_isFigure_15 : decode cX7_isFigure 15 = .ok (.bipush 57, 2) := by decide +kernel
theorem dX7_isFigure_17 : decode cX7_isFigure 17 = .ok (.if_icmp .gt 7, 3) := by decide +kernel
theorem dX7_isFigure_20 : decode cX7_isFigure 20 = .ok (.iconst 1, 1) := by decide +kernel
theorem dX7_isFigure_21 : decode cX7_isFigure 21 = .ok (.goto 4, 3) := by decide +kernel
theorem dX7_isFigure_24 : decode cX7_isFigure 24 = .ok (.iconst 0, 1) := by decide +kernel
theorem dX7_isFigure_25 : decode cX7_isFigure 25 = .ok (.ireturn, 1) := by decide +kernel
set_option maxRecDepth 20000 in
theorem ggX7_skipBlanks_X7_byteAt : GoodIn wsX7_skipBlanks wsX7_byteAt := goodIn_r _ [7, 2, 8, 9, 10, 11, 12] (by decide +kernel) (by decide +kernel)
set_option maxRecDepth 20000 in
theorem gX7_skipBlanks_X7_byteAt : GoodIn wsX7_skipBlanks (wsV RX7 76 RX7 yX7_byteAt wsX7_byteAt) := goodIn_app (goodIn_of _ (by decide +kernel)) ggX7_skipBlanks_X7_byteAt
theorem dX7_skipBlanks_0 : decode cX7_skipBlanks 0 = .ok (.aload_n 0, 1) := by decide +kernel
theorem dX7_skipBlanks_1 : decode cX7_skipBlanks 1 = .ok (.getfield 22, 3) := by decide +kernel
theorem dX7_skipBlanks_4 : decode cX7_skipBlanks 4 = .ok (.aload_n 0, 1) := by decide +kernel
theorem dX7_skipBlanks_5 : decode cX7_skipBlanks 5 = .ok (.getfield 18, 3) := by decide +kernel
theorem dX7_skipBlanks_8 : decode cX7_skipBlanks 8 = .ok (.if_icmp .ge 29, 3) := by decide +kernel
theorem dX7_skipBlanks_11 : decode cX7_skipBlanks 11 = .ok (.aload_n 0, 1) := by decide +kernel
theorem dX7_skipBlanks_12 : decode cX7_skipBlanks 12 = .ok (.aload_n 0, 1) := by decide +kernel
theorem dX7_skipBlanks_13 : decode cX7_skipBlanks 13 = .ok (.getfield 22, 3) := by decide +kernel
theorem dX7_skipBlanks_16 : decode cX7_skipBlanks 16 = .ok (.invokevirtual 76, 3) := by decide +kernel
theorem dX7_skipBlanks_19 : decode cX7_skipBlanks 19 = .ok (.bipush 32, 2) := by decide +kernel
theorem dX7_skipBlanks_21 : decode cX7_skipBlanks 21 = .ok (.if_icmp .ne 16, 3) := by decide +kernel
theorem dX7_skipBlanks_24 : decode cX7_skipBlanks 24 = .ok (.aload_n 0, 1) := by decide +kernel
theorem dX7_skipBlanks_25 : decode cX7_skipBlanks 25 = .ok (.dup, 1) := by decide +kernel
theorem dX7_skipBlanks_26 : decode cX7_skipBlanks 26 = .ok (.getfield 22, 3) := by decide +kernel
theorem dX7_skipBlanks_29 : decode cX7_skipBlanks 29 = .ok (.iconst 1, 1) := by decide +kernel
theorem dX7_skipBlanks_30 : decode cX7_skipBlanks 30 = .ok (.iadd, 1) := by decide +kernel
theorem dX7_skipBlanks_31 : decode cX7_skipBlanks 31 = .ok (.putfield 22, 3) := by decide +kernel
theorem dX7_skipBlanks_34 : decode cX7_skipBlanks 34 = .ok (.goto (-34), 3) := by decide +kernel
theorem dX7_skipBlanks_37 : decode cX7_skipBlanks 37 = .ok (.return_, 1) := by decide +kernel
set_option maxRecDepth 20000 in
theorem ggX7_takeWord_X7_isLetter : GoodIn wsX7_takeWord wsX7_isLetter := goodIn_r _ [7, 8, 9, 10, 6, 11, 2, 12, 69, 70, 71, 72] (by decide +kernel) (by decide +kernel)
set_option maxRecDepth 20000 in
theorem gX7_takeWord_X7_isLetter : GoodIn wsX7_takeWord (wsV RX7 80 RX7 yX7_isLetter wsX7_isLetter) := goodIn_app (goodIn_of _ (by decide +kernel)) ggX7_takeWord_X7_isLetter
set_option maxRecDepth 20000 in
theorem ggX7_takeWord_X7_spelling : GoodIn wsX7_takeWord wsX7_spelling := goodIn_r _ [15] (by decide +kernel) (by decide +kernel)
set_option maxRecDepth 20000 in
theorem gX7_takeWord_X7_spelling : GoodIn wsX7_takeWord (va_wsS RX7 83 yX7_spelling wsX7_spelling) := goodIn_app (goodIn_of _ (by decide +kernel)) ggX7_takeWord_X7_spelling
set_option maxRecDepth 20000 in
theorem ggX7_takeWord_X7_isSpelled : GoodIn wsX7_takeWord wsX7_isSpelled := goodIn_r _ [19, 1, 20, 21, 22, 23, 24, 25, 26, 27, 28, 29, 30, 31, 8, 9, 10, 6, 11, 2, 12, 32, 33, 34, 35, 36, 37, 38, 39, 40, 41, 42, 43, 44, 45, 46, 47, 48, 49, 50, 51, 52, 53, 54, 55, 56, 57, 58, 59, 60, 61, 62, 63, 64, 65, 66, 67, 68, 69, 70, 71, 72] (by decide +kernel) (by decide +kernel)
set_option maxRecDepth 20000 in
theorem gX7_takeWord_X7_isSpelled : GoodIn wsX7_takeWord (wsV RX7 87 RX7 yX7_isSpelled wsX7_isSpelled) := goodIn_app (goodIn_of _ (by decide +kernel)) ggX7_takeWord_X7_isSpelled
theorem dX7_takeWord_0 : decode cX7_takeWord 0 = .ok (.aload_n 0, 1) := by decide +kernel
theorem dX7_takeWord_1 : decode cX7_takeWord 1 = .ok (.getfield 22, 3) := by decide +kernel
theorem dX7_takeWord_4 : decode cX7_takeWord 4 = .ok (.istore_n 1, 1) := by decide +kernel
theorem dX7_takeWord_5 : decode cX7_takeWord 5 = .ok (.iload_n 1, 1) := by decide +kernel
theorem dX7_takeWord_6 : decode cX7_takeWord 6 = .ok (.aload_n 0, 1) := by decide +kernel
theorem dX7_takeWord_7 : decode cX7_takeWord 7 = .ok (.getfield 18, 3) := by decide +kernel
theorem dX7_takeWord_10 : decode cX7_takeWord 10 = .ok (.if_icmp .ge 17, 3) := by decide +kernel
theorem dX7_takeWord_13 : decode cX7_takeWord 13 = .ok (.aload_n 0, 1) := by decide +kernel
theorem dX7_takeWord_14 : decode cX7_takeWord 14 = .ok (.iload_n 1, 1) := by decide +kernel
theorem dX7_takeWord_15 : decode cX7_takeWord 15 = .ok (.invokevirtual 80, 3) := by decide +kernel
theorem dX7_takeWord_18 : decode cX7_takeWord 18 = .ok (.ifCond .eq 9, 3) := by decide +kernel
theorem dX7_takeWord_21 : decode cX7_takeWord 21 = .ok (.iinc 1 1, 3) := by decide +kernel
theorem dX7_takeWord_24 : decode cX7_takeWord 24 = .ok (.goto (-19), 3) := by decide +kernel
theorem dX7_takeWord_27 : decode cX7_takeWord 27 = .ok (.iconst 0, 1) := by decide +kernel
theorem dX7_takeWord_28 : decode cX7_takeWord 28 = .ok (.istore_n 2, 1) := by decide +kernel
theorem dX7_takeWord_29 : decode cX7_takeWord 29 = .ok (.iload_n 2, 1) := by decide +kernel
theorem dX7_takeWord_30 : decode cX7_takeWord 30 = .ok (.iconst 5, 1) := by decide +kernel
theorem dX7_takeWord_31 : decode cX7_takeWord 31 = .ok (.if_icmp .ge 28, 3) := by decide +kernel
theorem dX7_takeWord_34 : decode cX7_takeWord 34 = .ok (.aload_n 0, 1) := by decide +kernel
theorem dX7_takeWord_35 : decode cX7_takeWord 35 = .ok (.iload_n 2, 1) := by decide +kernel
theorem dX7_takeWord_36 : decode cX7_takeWord 36 = .ok (.invokestatic 83, 3) := by decide +kernel
theorem dX7_takeWord_39 : decode cX7_takeWord 39 = .ok (.iload_n 1, 1) := by decide +kernel
theorem dX7_takeWord_40 : decode cX7_takeWord 40 = .ok (.invokevirtual 87, 3) := by decide +kernel
theorem dX7_takeWord_43 : decode cX7_takeWord 43 = .ok (.ifCond .eq 10, 3) := by decide +kernel
theorem dX7_takeWord_46 : decode cX7_takeWord 46 = .ok (.aload_n 0, 1) := by decide +kernel
theorem dX7_takeWord_47 : decode cX7_takeWord 47 = .ok (.iload_n 1, 1) := by decide +kernel
theorem dX7_takeWord_48 : decode cX7_takeWord 48 = .ok (.putfield 22, 3) := by decide +kernel
theorem dX7_takeWord_51 : decode cX7_takeWord 51 = .ok (.iload_n 2, 1) := by decide +kernel
theorem dX7_takeWord_52 : decode cX7_takeWord 52 = .ok (.ireturn, 1) := by decide +kernel
theorem dX7_takeWord_53 : decode cX7_takeWord 53 = .ok (.iinc 2 1, 3) := by decide +kernel
theorem dX7_takeWord_56 : decode cX7_takeWord 56 = .ok (.goto (-27), 3) := by decide +kernel
theorem dX7_takeWord_59 : decode cX7_takeWord 59 = .ok (.iconst (-1), 1) := by decide +kernel
theorem dX7_takeWord_60 : decode cX7_takeWord 60 = .ok (.ireturn, 1) := by decide +kernel
set_option maxRecDepth 20000 in
theorem ggX7_isSpelled_J0_length_8abf5 : GoodIn wsX7_isSpelled wsJ0_length_8abf5 := goodIn_r _ [6, 7, 8, 9, 10, 5, 11, 12, 13] (by decide +kernel) (by decide +kernel)
set_option maxRecDepth 20000 in
theorem gX7_isSpelled_J0_length_8abf5 : GoodIn wsX7_isSpelled (wsV RX7 91 RJ0 yJ0_length_8abf5 wsJ0_length_8abf5) := goodIn_app (goodIn_of _ (by decide +kernel)) ggX7_isSpelled_J0_length_8abf5
set_option maxRecDepth 20000 in
theorem ggX7_isSpelled_X7_byteAt : GoodIn wsX7_isSpelled wsX7_byteAt := goodIn_r _ [18, 19, 20, 58, 59, 60, 61] (by decide +kernel) (by decide +kernel)
set_option maxRecDepth 20000 in
theorem gX7_isSpelled_X7_byteAt : GoodIn wsX7_isSpelled (wsV RX7 76 RX7 yX7_byteAt wsX7_byteAt) := goodIn_app (goodIn_of _ (by decide +kernel)) ggX7_isSpelled_X7_byteAt
set_option maxRecDepth 20000 in
theorem ggX7_isSpelled_J0_charAt_5068e : GoodIn wsX7_isSpelled wsJ0_charAt_5068e := goodIn_r _ [24, 7, 25, 26, 27, 5, 28, 12, 13, 29, 30, 31, 32, 33, 34, 35, 36, 37, 38, 39, 40, 41, 42, 43, 44, 45, 46, 47, 48, 49, 50, 51, 52, 53, 54, 55, 56, 57] (by decide +kernel) (by decide +kernel)
set_option maxRecDepth 20000 in
theorem gX7_isSpelled_J0_charAt_5068e : GoodIn wsX7_isSpelled (wsV RX7 96 RJ0 yJ0_charAt_5068e wsJ0_charAt_5068e) := goodIn_app (goodIn_of _ (by decide +kernel)) ggX7_isSpelled_J0_charAt_5068e
theorem dX7_isSpelled_0 : decode cX7_isSpelled 0 = .ok (.iload_n 2, 1) := by decide +kernel
theorem dX7_isSpelled_1 : decode cX7_isSpelled 1 = .ok (.aload_n 0, 1) := by decide +kernel
theorem dX7_isSpelled_2 : decode cX7_isSpelled 2 = .ok (.getfield 22, 3) := by decide +kernel
theorem dX7_isSpelled_5 : decode cX7_isSpelled 5 = .ok (.isub, 1) := by decide +kernel
theorem dX7_isSpelled_6 : decode cX7_isSpelled 6 = .ok (.aload_n 1, 1) := by decide +kernel
theorem dX7_isSpelled_7 : decode cX7_isSpelled 7 = .ok (.invokevirtual 91, 3) := by decide +kernel
theorem dX7_isSpelled_10 : decode cX7_isSpelled 10 = .ok (.if_icmp .eq 5, 3) := by decide +kernel
theorem dX7_isSpelled_13 : decode cX7_isSpelled 13 = .ok (.iconst 0, 1) := by decide +kernel
theorem dX7_isSpelled_14 : decode cX7_isSpelled 14 = .ok (.ireturn, 1) := by decide +kernel
theorem dX7_isSpelled_15 : decode cX7_isSpelled 15 = .ok (.iconst 0, 1) := by decide +kernel
theorem dX7_isSpelled_16 : decode cX7_isSpelled 16 = .ok (.istore_n 3, 1) := by decide +kernel
theorem dX7_isSpelled_17 : decode cX7_isSpelled 17 = .ok (.iload_n 3, 1) := by decide +kernel
theorem dX7_isSpelled_18 : decode cX7_isSpelled 18 = .ok (.aload_n 1, 1) := by decide +kernel
theorem dX7_isSpelled_19 : decode cX7_isSpelled 19 = .ok (.invokevirtual 91, 3) := by decide +kernel
theorem dX7_isSpelled_22 : decode cX7_isSpelled 22 = .ok (.if_icmp .ge 29, 3) := by decide +kernel
theorem dX7_isSpelled_25 : decode cX7_isSpelled 25 = .ok (.aload_n 0, 1) := by decide +kernel
theorem dX7_isSpelled_26 : decode cX7_isSpelled 26 = .ok (.aload_n 0, 1) := by decide +kernel
theorem dX7_isSpelled_27 : decode cX7_isSpelled 27 = .ok (.getfield 22, 3) := by decide +kernel
theorem dX7_isSpelled_30 : decode cX7_isSpelled 30 = .ok (.iload_n 3, 1) := by decide +kernel
theorem dX7_isSpelled_31 : decode cX7_isSpelled 31 = .ok (.iadd, 1) := by decide +kernel
theorem dX7_isSpelled_32 : decode cX7_isSpelled 32 = .ok (.invokevirtual 76, 3) := by decide +kernel
theorem dX7_isSpelled_35 : decode cX7_isSpelled 35 = .ok (.aload_n 1, 1) := by decide +kernel
theorem dX7_isSpelled_36 : decode cX7_isSpelled 36 = .ok (.iload_n 3, 1) := by decide +kernel
theorem dX7_isSpelled_37 : decode cX7_isSpelled 37 = .ok (.invokevirtual 96, 3) := by decide +kernel
theorem dX7_isSpelled_40 : decode cX7_isSpelled 40 = .ok (.if_icmp .eq 5, 3) := by decide +kernel
theorem dX7_isSpelled_43 : decode cX7_isSpelled 43 = .ok (.iconst 0, 1) := by decide +kernel
theorem dX7_isSpelled_44 : decode cX7_isSpelled 44 = .ok (.ireturn, 1) := by decide +kernel
theorem dX7_isSpelled_45 : decode cX7_isSpelled 45 = .ok (.iinc 3 1, 3) := by decide +kernel
theorem dX7_isSpelled_48 : decode cX7_isSpelled 48 = .ok (.goto (-31), 3) := by decide +kernel
theorem dX7_isSpelled_51 : decode cX7_isSpelled 51 = .ok (.iconst 1, 1) := by decide +kernel
theorem dX7_isSpelled_52 : decode cX7_isSpelled 52 = .ok (.ireturn, 1) := by decide +kernel
set_option maxRecDepth 20000 in
theorem ggX7_takeNumbers_X7_takeNumber : GoodIn wsX7_takeNumbers wsX7_takeNumber := goodIn_r _ [7, 8, 9, 10, 11, 12, 6, 13, 14, 15, 16, 17, 18, 19, 20, 21, 22, 23, 24, 25, 26] (by decide +kernel) (by decide +kernel)
set_option maxRecDepth 20000 in
theorem gX7_takeNumbers_X7_takeNumber : GoodIn wsX7_takeNumbers (wsV RX7 103 RX7 yX7_takeNumber wsX7_takeNumber) := goodIn_app (goodIn_of _ (by decide +kernel)) ggX7_takeNumbers_X7_takeNumber
theorem dX7_takeNumbers_0 : decode cX7_takeNumbers 0 = .ok (.iload_n 1, 1) := by decide +kernel
theorem dX7_takeNumbers_1 : decode cX7_takeNumbers 1 = .ok (.ifCond .lt 16, 3) := by decide +kernel
theorem dX7_takeNumbers_4 : decode cX7_takeNumbers 4 = .ok (.iload_n 1, 1) := by decide +kernel
theorem dX7_takeNumbers_5 : decode cX7_takeNumbers 5 = .ok (.iconst 5, 1) := by decide +kernel
theorem dX7_takeNumbers_6 : decode cX7_takeNumbers 6 = .ok (.if_icmp .ge 11, 3) := by decide +kernel
theorem dX7_takeNumbers_9 : decode cX7_takeNumbers 9 = .ok (.getstatic 100, 3) := by decide +kernel
theorem dX7_takeNumbers_12 : decode cX7_takeNumbers 12 = .ok (.iload_n 1, 1) := by decide +kernel
theorem dX7_takeNumbers_13 : decode cX7_takeNumbers 13 = .ok (.iaload, 1) := by decide +kernel
theorem dX7_takeNumbers_14 : decode cX7_takeNumbers 14 = .ok (.goto 4, 3) := by decide +kernel
theorem dX7_takeNumbers_17 : decode cX7_takeNumbers 17 = .ok (.iconst 0, 1) := by decide +kernel
theorem dX7_takeNumbers_18 : decode cX7_takeNumbers 18 = .ok (.istore_n 2, 1) := by decide +kernel
theorem dX7_takeNumbers_19 : decode cX7_takeNumbers 19 = .ok (.iconst 0, 1) := by decide +kernel
theorem dX7_takeNumbers_20 : decode cX7_takeNumbers 20 = .ok (.istore_n 3, 1) := by decide +kernel
theorem dX7_takeNumbers_21 : decode cX7_takeNumbers 21 = .ok (.iload_n 3, 1) := by decide +kernel
theorem dX7_takeNumbers_22 : decode cX7_takeNumbers 22 = .ok (.iload_n 2, 1) := by decide +kernel
theorem dX7_takeNumbers_23 : decode cX7_takeNumbers 23 = .ok (.if_icmp .ge 36, 3) := by decide +kernel
theorem dX7_takeNumbers_26 : decode cX7_takeNumbers 26 = .ok (.iload_n 3, 1) := by decide +kernel
theorem dX7_takeNumbers_27 : decode cX7_takeNumbers 27 = .ok (.iconst 4, 1) := by decide +kernel
theorem dX7_takeNumbers_28 : decode cX7_takeNumbers 28 = .ok (.if_icmp .ge 31, 3) := by decide +kernel
theorem dX7_takeNumbers_31 : decode cX7_takeNumbers 31 = .ok (.aload_n 0, 1) := by decide +kernel
theorem dX7_takeNumbers_32 : decode cX7_takeNumbers 32 = .ok (.getfield 15, 3) := by decide +kernel
theorem dX7_takeNumbers_35 : decode cX7_takeNumbers 35 = .ok (.iload_n 3, 1) := by decide +kernel
theorem dX7_takeNumbers_36 : decode cX7_takeNumbers 36 = .ok (.aload_n 0, 1) := by decide +kernel
theorem dX7_takeNumbers_37 : decode cX7_takeNumbers 37 = .ok (.invokevirtual 103, 3) := by decide +kernel
theorem dX7_takeNumbers_40 : decode cX7_takeNumbers 40 = .ok (.iastore, 1) := by decide +kernel
theorem dX7_takeNumbers_41 : decode cX7_takeNumbers 41 = .ok (.aload_n 0, 1) := by decide +kernel
theorem dX7_takeNumbers_42 : decode cX7_takeNumbers 42 = .ok (.getfield 15, 3) := by decide +kernel
theorem dX7_takeNumbers_45 : decode cX7_takeNumbers 45 = .ok (.iload_n 3, 1) := by decide +kernel
theorem dX7_takeNumbers_46 : decode cX7_takeNumbers 46 = .ok (.iaload, 1) := by decide +kernel
theorem dX7_takeNumbers_47 : decode cX7_takeNumbers 47 = .ok (.iconst (-1), 1) := by decide +kernel
theorem dX7_takeNumbers_48 : decode cX7_takeNumbers 48 = .ok (.if_icmp .ne 5, 3) := by decide +kernel
theorem dX7_takeNumbers_51 : decode cX7_takeNumbers 51 = .ok (.iconst 0, 1) := by decide +kernel
theorem dX7_takeNumbers_52 : decode cX7_takeNumbers 52 = .ok (.ireturn, 1) := by decide +kernel
theorem dX7_takeNumbers_53 : decode cX7_takeNumbers 53 = .ok (.iinc 3 1, 3) := by decide +kernel
theorem dX7_takeNumbers_56 : decode cX7_takeNumbers 56 = .ok (.goto (-35), 3) := by decide +kernel
theorem dX7_takeNumbers_59 : decode cX7_takeNumbers 59 = .ok (.iconst 1, 1) := by decide +kernel
theorem dX7_takeNumbers_60 : decode cX7_takeNumbers 60 = .ok (.ireturn, 1) := by decide +kernel
set_option maxRecDepth 20000 in
theorem ggX7_takeNumber_X7_skipBlanks : GoodIn wsX7_takeNumber wsX7_skipBlanks := goodIn_r _ [7, 1, 2, 8, 9, 10, 6, 11, 12, 17, 18, 19, 20] (by decide +kernel) (by decide +kernel)
set_option maxRecDepth 20000 in
theorem gX7_takeNumber_X7_skipBlanks : GoodIn wsX7_takeNumber (wsV RX7 27 RX7 yX7_skipBlanks wsX7_skipBlanks) := goodIn_app (goodIn_of _ (by decide +kernel)) ggX7_takeNumber_X7_skipBlanks
set_option maxRecDepth 20000 in
theorem ggX7_takeNumber_X7_isFigure : GoodIn wsX7_takeNumber wsX7_isFigure := goodIn_r _ [16, 8, 9, 10, 6, 11, 2, 12, 17, 18, 19, 20] (by decide +kernel) (by decide +kernel)
set_option maxRecDepth 20000 in
theorem gX7_takeNumber_X7_isFigure : GoodIn wsX7_takeNumber (wsV RX7 106 RX7 yX7_isFigure wsX7_isFigure) := goodIn_app (goodIn_of _ (by decide +kernel)) ggX7_takeNumber_X7_isFigure
set_option maxRecDepth 20000 in
theorem ggX7_takeNumber_X7_byteAt : GoodIn wsX7_takeNumber wsX7_byteAt := goodIn_r _ [11, 2, 12, 17, 18, 19, 20] (by decide +kernel) (by decide +kernel)
set_option maxRecDepth 20000 in
theorem gX7_takeNumber_X7_byteAt : GoodIn wsX7_takeNumber (wsV RX7 76 RX7 yX7_byteAt wsX7_byteAt) := goodIn_app (goodIn_of _ (by decide +kernel)) ggX7_takeNumber_X7_byteAt
