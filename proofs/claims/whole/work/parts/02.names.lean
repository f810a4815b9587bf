theorem ggX0_init_X4_init : GoodIn wsX0_init wsX4_init := goodIn_r _ [19, 20, 2, 3, 13, 21, 22, 23, 24, 25, 26, 27, 28, 29, 30, 31, 32] (by decide +kernel) (by decide +kernel)
set_option maxRecDepth 20000 in
theorem gX0_init_X4_init : GoodIn wsX0_init (wsX4_init) := ggX0_init_X4_init
theorem dX0_init_0 : decode cX0_init 0 = .ok (.aload_n 0, 1) := by decide +kernel
theorem dX0_init_1 : decode cX0_init 1 = .ok (.invokespecial 3, 3) := by decide +kernel
theorem dX0_init_4 : decode cX0_init 4 = .ok (.aload_n 0, 1) := by decide +kernel
theorem dX0_init_5 : decode cX0_init 5 = .ok (.new 9, 3) := by decide +kernel
theorem dX0_init_8 : decode cX0_init 8 = .ok (.dup, 1) := by decide +kernel
theorem dX0_init_9 : decode cX0_init 9 = .ok (.bipush 8, 2) := by decide +kernel
theorem dX0_init_11 : decode cX0_init 11 = .ok (.iconst 3, 1) := by decide +kernel
theorem dX0_init_12 : decode cX0_init 12 = .ok (.invokespecial 11, 3) := by decide +kernel
theorem dX0_init_15 : decode cX0_init 15 = .ok (.putfield 14, 3) := by decide +kernel
theorem dX0_init_18 : decode cX0_init 18 = .ok (.aload_n 0, 1) := by decide +kernel
theorem dX0_init_19 : decode cX0_init 19 = .ok (.new 9, 3) := by decide +kernel
theorem dX0_init_22 : decode cX0_init 22 = .ok (.dup, 1) := by decide +kernel
theorem dX0_init_23 : decode cX0_init 23 = .ok (.bipush 10, 2) := by decide +kernel
theorem dX0_init_25 : decode cX0_init 25 = .ok (.iconst 4, 1) := by decide +kernel
theorem dX0_init_26 : decode cX0_init 26 = .ok (.invokespecial 11, 3) := by decide +kernel
theorem dX0_init_29 : decode cX0_init 29 = .ok (.putfield 20, 3) := by decide +kernel
theorem dX0_init_32 : decode cX0_init 32 = .ok (.aload_n 0, 1) := by decide +kernel
theorem dX0_init_33 : decode cX0_init 33 = .ok (.new 9, 3) := by decide +kernel
theorem dX0_init_36 : decode cX0_init 36 = .ok (.dup, 1) := by decide +kernel
theorem dX0_init_37 : decode cX0_init 37 = .ok (.bipush 10, 2) := by decide +kernel
theorem dX0_init_39 : decode cX0_init 39 = .ok (.iconst 3, 1) := by decide +kernel
theorem dX0_init_40 : decode cX0_init 40 = .ok (.invokespecial 11, 3) := by decide +kernel
theorem dX0_init_43 : decode cX0_init 43 = .ok (.putfield 23, 3) := by decide +kernel
theorem dX0_init_46 : decode cX0_init 46 = .ok (.aload_n 0, 1) := by decide +kernel
theorem dX0_init_47 : decode cX0_init 47 = .ok (.new 9, 3) := by decide +kernel
theorem dX0_init_50 : decode cX0_init 50 = .ok (.dup, 1) := by decide +kernel
theorem dX0_init_51 : decode cX0_init 51 = .ok (.bipush 8, 2) := by decide +kernel
theorem dX0_init_53 : decode cX0_init 53 = .ok (.iconst 3, 1) := by decide +kernel
theorem dX0_init_54 : decode cX0_init 54 = .ok (.invokespecial 11, 3) := by decide +kernel
theorem dX0_init_57 : decode cX0_init 57 = .ok (.putfield 26, 3) := by decide +kernel
theorem dX0_init_60 : decode cX0_init 60 = .ok (.aload_n 0, 1) := by decide +kernel
theorem dX0_init_61 : decode cX0_init 61 = .ok (.new 9, 3) := by decide +kernel
theorem dX0_init_64 : decode cX0_init 64 = .ok (.dup, 1) := by decide +kernel
theorem dX0_init_65 : decode cX0_init 65 = .ok (.iconst 5, 1) := by decide +kernel
theorem dX0_init_66 : decode cX0_init 66 = .ok (.iconst 4, 1) := by decide +kernel
theorem dX0_init_67 : decode cX0_init 67 = .ok (.invokespecial 11, 3) := by decide +kernel
theorem dX0_init_70 : decode cX0_init 70 = .ok (.putfield 29, 3) := by decide +kernel
theorem dX0_init_73 : decode cX0_init 73 = .ok (.aload_n 0, 1) := by decide +kernel
theorem dX0_init_74 : decode cX0_init 74 = .ok (.new 9, 3) := by decide +kernel
theorem dX0_init_77 : decode cX0_init 77 = .ok (.dup, 1) := by decide +kernel
theorem dX0_init_78 : decode cX0_init 78 = .ok (.bipush 8, 2) := by decide +kernel
theorem dX0_init_80 : decode cX0_init 80 = .ok (.iconst 2, 1) := by decide +kernel
theorem dX0_init_81 : decode cX0_init 81 = .ok (.invokespecial 11, 3) := by decide +kernel
theorem dX0_init_84 : decode cX0_init 84 = .ok (.putfield 32, 3) := by decide +kernel
theorem dX0_init_87 : decode cX0_init 87 = .ok (.aload_n 0, 1) := by decide +kernel
theorem dX0_init_88 : decode cX0_init 88 = .ok (.iconst 5, 1) := by decide +kernel
theorem dX0_init_89 : decode cX0_init 89 = .ok (.newarray .int, 2) := by decide +kernel
theorem dX0_init_91 : decode cX0_init 91 = .ok (.putfield 35, 3) := by decide +kernel
theorem dX0_init_94 : decode cX0_init 94 = .ok (.aload_n 0, 1) := by decide +kernel
theorem dX0_init_95 : decode cX0_init 95 = .ok (.iconst 5, 1) := by decide +kernel
theorem dX0_init_96 : decode cX0_init 96 = .ok (.newarray .int, 2) := by decide +kernel
theorem dX0_init_98 : decode cX0_init 98 = .ok (.putfield 39, 3) := by decide +kernel
theorem dX0_init_101 : decode cX0_init 101 = .ok (.aload_n 0, 1) := by decide +kernel
theorem dX0_init_102 : decode cX0_init 102 = .ok (.bipush 40, 2) := by decide +kernel
theorem dX0_init_104 : decode cX0_init 104 = .ok (.newarray .int, 2) := by decide +kernel
theorem dX0_init_106 : decode cX0_init 106 = .ok (.putfield 42, 3) := by decide +kernel
theorem dX0_init_109 : decode cX0_init 109 = .ok (.return_, 1) := by decide +kernel
set_option maxRecDepth 20000 in
theorem ggX0_forget_X4_empty : GoodIn wsX0_forget wsX4_empty := goodIn_r _ [14, 15, 29, 30, 31, 32] (by decide +kernel) (by decide +kernel)
set_option maxRecDepth 20000 in
theorem gX0_forget_X4_empty : GoodIn wsX0_forget (wsV RX0 45 RX4 yX4_empty wsX4_empty) := goodIn_app (goodIn_of _ (by decide +kernel)) ggX0_forget_X4_empty
set_option maxRecDepth 20000 in
theorem ggX0_forget_J7_fill_53178 : GoodIn wsX0_forget wsJ7_fill_53178 := goodIn_r _ [19] (by decide +kernel) (by decide +kernel)
set_option maxRecDepth 20000 in
theorem gX0_forget_J7_fill_53178 : GoodIn wsX0_forget (va_wsS RX0 48 yJ7_fill_53178 wsJ7_fill_53178) := goodIn_app (goodIn_of _ (by decide +kernel)) ggX0_forget_J7_fill_53178
theorem dX0_forget_0 : decode cX0_forget 0 = .ok (.aload_n 0, 1) := by decide +kernel
theorem dX0_forget_1 : decode cX0_forget 1 = .ok (.getfield 14, 3) := by decide +kernel
theorem dX0_forget_4 : decode cX0_forget 4 = .ok (.invokevirtual 45, 3) := by decide +kernel
theorem dX0_forget_7 : decode cX0_forget 7 = .ok (.aload_n 0, 1) := by decide +kernel
theorem dX0_forget_8 : decode cX0_forget 8 = .ok (.getfield 20, 3) := by decide +kernel
theorem dX0_forget_11 : decode cX0_forget 11 = .ok (.invokevirtual 45, 3) := by decide +kernel
theorem dX0_forget_14 : decode cX0_forget 14 = .ok (.aload_n 0, 1) := by decide +kernel
theorem dX0_forget_15 : decode cX0_forget 15 = .ok (.getfield 23, 3) := by decide +kernel
theorem dX0_forget_18 : decode cX0_forget 18 = .ok (.invokevirtual 45, 3) := by decide +kernel
theorem dX0_forget_21 : decode cX0_forget 21 = .ok (.aload_n 0, 1) := by decide +kernel
theorem dX0_forget_22 : decode cX0_forget 22 = .ok (.getfield 26, 3) := by decide +kernel
theorem dX0_forget_25 : decode cX0_forget 25 = .ok (.invokevirtual 45, 3) := by decide +kernel
theorem dX0_forget_28 : decode cX0_forget 28 = .ok (.aload_n 0, 1) := by decide +kernel
theorem dX0_forget_29 : decode cX0_forget 29 = .ok (.getfield 29, 3) := by decide +kernel
theorem dX0_forget_32 : decode cX0_forget 32 = .ok (.invokevirtual 45, 3) := by decide +kernel
theorem dX0_forget_35 : decode cX0_forget 35 = .ok (.aload_n 0, 1) := by decide +kernel
theorem dX0_forget_36 : decode cX0_forget 36 = .ok (.getfield 32, 3) := by decide +kernel
theorem dX0_forget_39 : decode cX0_forget 39 = .ok (.invokevirtual 45, 3) := by decide +kernel
theorem dX0_forget_42 : decode cX0_forget 42 = .ok (.aload_n 0, 1) := by decide +kernel
theorem dX0_forget_43 : decode cX0_forget 43 = .ok (.getfield 35, 3) := by decide +kernel
theorem dX0_forget_46 : decode cX0_forget 46 = .ok (.iconst 0, 1) := by decide +kernel
theorem dX0_forget_47 : decode cX0_forget 47 = .ok (.invokestatic 48, 3) := by decide +kernel
theorem dX0_forget_50 : decode cX0_forget 50 = .ok (.aload_n 0, 1) := by decide +kernel
theorem dX0_forget_51 : decode cX0_forget 51 = .ok (.getfield 39, 3) := by decide +kernel
theorem dX0_forget_54 : decode cX0_forget 54 = .ok (.iconst 0, 1) := by decide +kernel
theorem dX0_forget_55 : decode cX0_forget 55 = .ok (.invokestatic 48, 3) := by decide +kernel
theorem dX0_forget_58 : decode cX0_forget 58 = .ok (.aload_n 0, 1) := by decide +kernel
theorem dX0_forget_59 : decode cX0_forget 59 = .ok (.getfield 42, 3) := by decide +kernel
theorem dX0_forget_62 : decode cX0_forget 62 = .ok (.iconst 0, 1) := by decide +kernel
theorem dX0_forget_63 : decode cX0_forget 63 = .ok (.invokestatic 48, 3) := by decide +kernel
theorem dX0_forget_66 : decode cX0_forget 66 = .ok (.return_, 1) := by decide +kernel
set_option maxRecDepth 20000 in
theorem ggX0_copyFrom_X4_copyFrom : GoodIn wsX0_copyFrom wsX4_copyFrom := goodIn_r _ [18, 19, 20, 9, 10, 11, 21, 31, 32, 33, 34] (by decide +kernel) (by decide +kernel)
set_option maxRecDepth 20000 in
theorem gX0_copyFrom_X4_copyFrom : GoodIn wsX0_copyFrom (wsV RX0 54 RX4 yX4_copyFrom wsX4_copyFrom) := goodIn_app (goodIn_of _ (by decide +kernel)) ggX0_copyFrom_X4_copyFrom
theorem dX0_copyFrom_0 : decode cX0_copyFrom 0 = .ok (.aload_n 0, 1) := by decide +kernel
theorem dX0_copyFrom_1 : decode cX0_copyFrom 1 = .ok (.getfield 14, 3) := by decide +kernel
theorem dX0_copyFrom_4 : decode cX0_copyFrom 4 = .ok (.aload_n 1, 1) := by decide +kernel
theorem dX0_copyFrom_5 : decode cX0_copyFrom 5 = .ok (.getfield 14, 3) := by decide +kernel
theorem dX0_copyFrom_8 : decode cX0_copyFrom 8 = .ok (.invokevirtual 54, 3) := by decide +kernel
theorem dX0_copyFrom_11 : decode cX0_copyFrom 11 = .ok (.aload_n 0, 1) := by decide +kernel
theorem dX0_copyFrom_12 : decode cX0_copyFrom 12 = .ok (.getfield 20, 3) := by decide +kernel
theorem dX0_copyFrom_15 : decode cX0_copyFrom 15 = .ok (.aload_n 1, 1) := by decide +kernel
theorem dX0_copyFrom_16 : decode cX0_copyFrom 16 = .ok (.getfield 20, 3) := by decide +kernel
theorem dX0_copyFrom_19 : decode cX0_copyFrom 19 = .ok (.invokevirtual 54, 3) := by decide +kernel
theorem dX0_copyFrom_22 : decode cX0_copyFrom 22 = .ok (.aload_n 0, 1) := by decide +kernel
theorem dX0_copyFrom_23 : decode cX0_copyFrom 23 = .ok (.getfield 23, 3) := by decide +kernel
theorem dX0_copyFrom_26 : decode cX0_copyFrom 26 = .ok (.aload_n 1, 1) := by decide +kernel
theorem dX0_copyFrom_27 : decode cX0_copyFrom 27 = .ok (.getfield 23, 3) := by decide +kernel
theorem dX0_copyFrom_30 : decode cX0_copyFrom 30 = .ok (.invokevirtual 54, 3) := by decide +kernel
theorem dX0_copyFrom_33 : decode cX0_copyFrom 33 = .ok (.aload_n 0, 1) := by decide +kernel
theorem dX0_copyFrom_34 : decode cX0_copyFrom 34 = .ok (.getfield 26, 3) := by decide +kernel
theorem dX0_copyFrom_37 : decode cX0_copyFrom 37 = .ok (.aload_n 1, 1) := by decide +kernel
theorem dX0_copyFrom_38 : decode cX0_copyFrom 38 = .ok (.getfield 26, 3) := by decide +kernel
theorem dX0_copyFrom_41 : decode cX0_copyFrom 41 = .ok (.invokevirtual 54, 3) := by decide +kernel
theorem dX0_copyFrom_44 : decode cX0_copyFrom 44 = .ok (.aload_n 0, 1) := by decide +kernel
theorem dX0_copyFrom_45 : decode cX0_copyFrom 45 = .ok (.getfield 29, 3) := by decide +kernel
theorem dX0_copyFrom_48 : decode cX0_copyFrom 48 = .ok (.aload_n 1, 1) := by decide +kernel
theorem dX0_copyFrom_49 : decode cX0_copyFrom 49 = .ok (.getfield 29, 3) := by decide +kernel
theorem dX0_copyFrom_52 : decode cX0_copyFrom 52 = .ok (.invokevirtual 54, 3) := by decide +kernel
theorem dX0_copyFrom_55 : decode cX0_copyFrom 55 = .ok (.aload_n 0, 1) := by decide +kernel
theorem dX0_copyFrom_56 : decode cX0_copyFrom 56 = .ok (.getfield 32, 3) := by decide +kernel
theorem dX0_copyFrom_59 : decode cX0_copyFrom 59 = .ok (.aload_n 1, 1) := by decide +kernel
theorem dX0_copyFrom_60 : decode cX0_copyFrom 60 = .ok (.getfield 32, 3) := by decide +kernel
theorem dX0_copyFrom_63 : decode cX0_copyFrom 63 = .ok (.invokevirtual 54, 3) := by decide +kernel
theorem dX0_copyFrom_66 : decode cX0_copyFrom 66 = .ok (.aload_n 1, 1) := by decide +kernel
theorem dX0_copyFrom_67 : decode cX0_copyFrom 67 = .ok (.getfield 35, 3) := by decide +kernel
theorem dX0_copyFrom_70 : decode cX0_copyFrom 70 = .ok (.iconst 0, 1) := by decide +kernel
theorem dX0_copyFrom_71 : decode cX0_copyFrom 71 = .ok (.aload_n 0, 1) := by decide +kernel
theorem dX0_copyFrom_72 : decode cX0_copyFrom 72 = .ok (.getfield 35, 3) := by decide +kernel
theorem dX0_copyFrom_75 : decode cX0_copyFrom 75 = .ok (.iconst 0, 1) := by decide +kernel
theorem dX0_copyFrom_76 : decode cX0_copyFrom 76 = .ok (.iconst 5, 1) := by decide +kernel
theorem dX0_copyFrom_77 : decode cX0_copyFrom 77 = .ok (.invokestatic 58, 3) := by decide +kernel
theorem dX0_copyFrom_80 : decode cX0_copyFrom 80 = .ok (.aload_n 1, 1) := by decide +kernel
theorem dX0_copyFrom_81 : decode cX0_copyFrom 81 = .ok (.getfield 39, 3) := by decide +kernel
theorem dX0_copyFrom_84 : decode cX0_copyFrom 84 = .ok (.iconst 0, 1) := by decide +kernel
theorem dX0_copyFrom_85 : decode cX0_copyFrom 85 = .ok (.aload_n 0, 1) := by decide +kernel
theorem dX0_copyFrom_86 : decode cX0_copyFrom 86 = .ok (.getfield 39, 3) := by decide +kernel
theorem dX0_copyFrom_89 : decode cX0_copyFrom 89 = .ok (.iconst 0, 1) := by decide +kernel
theorem dX0_copyFrom_90 : decode cX0_copyFrom 90 = .ok (.iconst 5, 1) := by decide +kernel
theorem dX0_copyFrom_91 : decode cX0_copyFrom 91 = .ok (.invokestatic 58, 3) := by decide +kernel
theorem dX0_copyFrom_94 : decode cX0_copyFrom 94 = .ok (.aload_n 1, 1) := by decide +kernel
theorem dX0_copyFrom_95 : decode cX0_copyFrom 95 = .ok (.getfield 42, 3) := by decide +kernel
theorem dX0_copyFrom_98 : decode cX0_copyFrom 98 = .ok (.iconst 0, 1) := by decide +kernel
theorem dX0_copyFrom_99 : decode cX0_copyFrom 99 = .ok (.aload_n 0, 1) := by decide +kernel
theorem dX0_copyFrom_100 : decode cX0_copyFrom 100 = .ok (.getfield 42, 3) := by decide +kernel
theorem dX0_copyFrom_103 : decode cX0_copyFrom 103 = .ok (.iconst 0, 1) := by decide +kernel
theorem dX0_copyFrom_104 : decode cX0_copyFrom 104 = .ok (.bipush 40, 2) := by decide +kernel
theorem dX0_copyFrom_106 : decode cX0_copyFrom 106 = .ok (.invokestatic 58, 3) := by decide +kernel
theorem dX0_copyFrom_109 : decode cX0_copyFrom 109 = .ok (.return_, 1) := by decide +kernel
set_option maxRecDepth 20000 in
theorem ggX0_digestOn_X4_digestOn : GoodIn wsX0_digestOn wsX4_digestOn := goodIn_r _ [14, 15, 16, 17, 18, 19, 20, 13, 21, 22, 49, 50, 51, 52] (by decide +kernel) (by decide +kernel)
set_option maxRecDepth 20000 in
theorem gX0_digestOn_X4_digestOn : GoodIn wsX0_digestOn (wsV RX0 64 RX4 yX4_digestOn wsX4_digestOn) := goodIn_app (goodIn_of _ (by decide +kernel)) ggX0_digestOn_X4_digestOn
set_option maxRecDepth 20000 in
theorem ggX0_digestOn_X4_size : GoodIn wsX0_digestOn wsX4_size := goodIn_r _ [26, 15, 49, 50, 51, 52] (by decide +kernel) (by decide +kernel)
set_option maxRecDepth 20000 in
theorem gX0_digestOn_X4_size : GoodIn wsX0_digestOn (wsV RX0 70 RX4 yX4_size wsX4_size) := goodIn_app (goodIn_of _ (by decide +kernel)) ggX0_digestOn_X4_size
set_option maxRecDepth 20000 in
theorem ggX0_digestOn_X0_worthOf : GoodIn wsX0_digestOn wsX0_worthOf := goodIn_r _ [31, 1, 32, 33, 34, 35, 36, 37, 38, 13, 39, 15, 40, 41, 42, 43, 44, 45, 46, 47, 48, 49, 50, 51, 52] (by decide +kernel) (by decide +kernel)
set_option maxRecDepth 20000 in
theorem gX0_digestOn_X0_worthOf : GoodIn wsX0_digestOn (wsV RX0 74 RX0 yX0_worthOf wsX0_worthOf) := goodIn_app (goodIn_of _ (by decide +kernel)) ggX0_digestOn_X0_worthOf
theorem dX0_digestOn_0 : decode cX0_digestOn 0 = .ok (.aload_n 0, 1) := by decide +kernel
theorem dX0_digestOn_1 : decode cX0_digestOn 1 = .ok (.getfield 14, 3) := by decide +kernel
theorem dX0_digestOn_4 : decode cX0_digestOn 4 = .ok (.lload_n 1, 1) := by decide +kernel
theorem dX0_digestOn_5 : decode cX0_digestOn 5 = .ok (.invokevirtual 64, 3) := by decide +kernel
theorem dX0_digestOn_8 : decode cX0_digestOn 8 = .ok (.lstore_n 3, 1) := by decide +kernel
theorem dX0_digestOn_9 : decode cX0_digestOn 9 = .ok (.aload_n 0, 1) := by decide +kernel
theorem dX0_digestOn_10 : decode cX0_digestOn 10 = .ok (.getfield 20, 3) := by decide +kernel
theorem dX0_digestOn_13 : decode cX0_digestOn 13 = .ok (.lload_n 3, 1) := by decide +kernel
theorem dX0_digestOn_14 : decode cX0_digestOn 14 = .ok (.invokevirtual 64, 3) := by decide +kernel
theorem dX0_digestOn_17 : decode cX0_digestOn 17 = .ok (.lstore_n 3, 1) := by decide +kernel
theorem dX0_digestOn_18 : decode cX0_digestOn 18 = .ok (.aload_n 0, 1) := by decide +kernel
theorem dX0_digestOn_19 : decode cX0_digestOn 19 = .ok (.getfield 23, 3) := by decide +kernel
theorem dX0_digestOn_22 : decode cX0_digestOn 22 = .ok (.lload_n 3, 1) := by decide +kernel
theorem dX0_digestOn_23 : decode cX0_digestOn 23 = .ok (.invokevirtual 64, 3) := by decide +kernel
theorem dX0_digestOn_26 : decode cX0_digestOn 26 = .ok (.lstore_n 3, 1) := by decide +kernel
theorem dX0_digestOn_27 : decode cX0_digestOn 27 = .ok (.aload_n 0, 1) := by decide +kernel
theorem dX0_digestOn_28 : decode cX0_digestOn 28 = .ok (.getfield 26, 3) := by decide +kernel
theorem dX0_digestOn_31 : decode cX0_digestOn 31 = .ok (.lload_n 3, 1) := by decide +kernel
theorem dX0_digestOn_32 : decode cX0_digestOn 32 = .ok (.invokevirtual 64, 3) := by decide +kernel
theorem dX0_digestOn_35 : decode cX0_digestOn 35 = .ok (.lstore_n 3, 1) := by decide +kernel
theorem dX0_digestOn_36 : decode cX0_digestOn 36 = .ok (.aload_n 0, 1) := by decide +kernel
theorem dX0_digestOn_37 : decode cX0_digestOn 37 = .ok (.getfield 29, 3) := by decide +kernel
theorem dX0_digestOn_40 : decode cX0_digestOn 40 = .ok (.lload_n 3, 1) := by decide +kernel
theorem dX0_digestOn_41 : decode cX0_digestOn 41 = .ok (.invokevirtual 64, 3) := by decide +kernel
theorem dX0_digestOn_44 : decode cX0_digestOn 44 = .ok (.lstore_n 3, 1) := by decide +kernel
theorem dX0_digestOn_45 : decode cX0_digestOn 45 = .ok (.iconst 0, 1) := by decide +kernel
theorem dX0_digestOn_46 : decode cX0_digestOn 46 = .ok (.istore 5, 2) := by decide +kernel
theorem dX0_digestOn_48 : decode cX0_digestOn 48 = .ok (.iload 5, 2) := by decide +kernel
theorem dX0_digestOn_50 : decode cX0_digestOn 50 = .ok (.iconst 5, 1) := by decide +kernel
theorem dX0_digestOn_51 : decode cX0_digestOn 51 = .ok (.if_icmp .ge 76, 3) := by decide +kernel
theorem dX0_digestOn_54 : decode cX0_digestOn 54 = .ok (.ldc2_w 68, 3) := by decide +kernel
theorem dX0_digestOn_57 : decode cX0_digestOn 57 = .ok (.lload_n 3, 1) := by decide +kernel
theorem dX0_digestOn_58 : decode cX0_digestOn 58 = .ok (.lmul, 1) := by decide +kernel
theorem dX0_digestOn_59 : decode cX0_digestOn 59 = .ok (.aload_n 0, 1) := by decide +kernel
theorem dX0_digestOn_60 : decode cX0_digestOn 60 = .ok (.getfield 35, 3) := by decide +kernel
theorem dX0_digestOn_63 : decode cX0_digestOn 63 = .ok (.iload 5, 2) := by decide +kernel
theorem dX0_digestOn_65 : decode cX0_digestOn 65 = .ok (.iaload, 1) := by decide +kernel
theorem dX0_digestOn_66 : decode cX0_digestOn 66 = .ok (.i2l, 1) := by decide +kernel
theorem dX0_digestOn_67 : decode cX0_digestOn 67 = .ok (.ladd, 1) := by decide +kernel
theorem dX0_digestOn_68 : decode cX0_digestOn 68 = .ok (.lstore_n 3, 1) := by decide +kernel
theorem dX0_digestOn_69 : decode cX0_digestOn 69 = .ok (.ldc2_w 68, 3) := by decide +kernel
theorem dX0_digestOn_72 : decode cX0_digestOn 72 = .ok (.lload_n 3, 1) := by decide +kernel
theorem dX0_digestOn_73 : decode cX0_digestOn 73 = .ok (.lmul, 1) := by decide +kernel
theorem dX0_digestOn_74 : decode cX0_digestOn 74 = .ok (.aload_n 0, 1) := by decide +kernel
theorem dX0_digestOn_75 : decode cX0_digestOn 75 = .ok (.getfield 39, 3) := by decide +kernel
theorem dX0_digestOn_78 : decode cX0_digestOn 78 = .ok (.iload 5, 2) := by decide +kernel
theorem dX0_digestOn_80 : decode cX0_digestOn 80 = .ok (.iaload, 1) := by decide +kernel
theorem dX0_digestOn_81 : decode cX0_digestOn 81 = .ok (.i2l, 1) := by decide +kernel
theorem dX0_digestOn_82 : decode cX0_digestOn 82 = .ok (.ladd, 1) := by decide +kernel
theorem dX0_digestOn_83 : decode cX0_digestOn 83 = .ok (.lstore_n 3, 1) := by decide +kernel
theorem dX0_digestOn_84 : decode cX0_digestOn 84 = .ok (.iconst 0, 1) := by decide +kernel
theorem dX0_digestOn_85 : decode cX0_digestOn 85 = .ok (.istore 6, 2) := by decide +kernel
theorem dX0_digestOn_87 : decode cX0_digestOn 87 = .ok (.iload 6, 2) := by decide +kernel
theorem dX0_digestOn_89 : decode cX0_digestOn 89 = .ok (.aload_n 0, 1) := by decide +kernel
theorem dX0_digestOn_90 : decode cX0_digestOn 90 = .ok (.getfield 14, 3) := by decide +kernel
theorem dX0_digestOn_93 : decode cX0_digestOn 93 = .ok (.invokevirtual 70, 3) := by decide +kernel
theorem dX0_digestOn_96 : decode cX0_digestOn 96 = .ok (.if_icmp .ge 25, 3) := by decide +kernel
theorem dX0_digestOn_99 : decode cX0_digestOn 99 = .ok (.ldc2_w 68, 3) := by decide +kernel
theorem dX0_digestOn_102 : decode cX0_digestOn 102 = .ok (.lload_n 3, 1) := by decide +kernel
theorem dX0_digestOn_103 : decode cX0_digestOn 103 = .ok (.lmul, 1) := by decide +kernel
theorem dX0_digestOn_104 : decode cX0_digestOn 104 = .ok (.aload_n 0, 1) := by decide +kernel
theorem dX0_digestOn_105 : decode cX0_digestOn 105 = .ok (.iload 5, 2) := by decide +kernel
theorem dX0_digestOn_107 : decode cX0_digestOn 107 = .ok (.iload 6, 2) := by decide +kernel
theorem dX0_digestOn_109 : decode cX0_digestOn 109 = .ok (.invokevirtual 74, 3) := by decide +kernel
theorem dX0_digestOn_112 : decode cX0_digestOn 112 = .ok (.i2l, 1) := by decide +kernel
theorem dX0_digestOn_113 : decode cX0_digestOn 113 = .ok (.ladd, 1) := by decide +kernel
theorem dX0_digestOn_114 : decode cX0_digestOn 114 = .ok (.lstore_n 3, 1) := by decide +kernel
theorem dX0_digestOn_115 : decode cX0_digestOn 115 = .ok (.iinc 6 1, 3) := by decide +kernel
theorem dX0_digestOn_118 : decode cX0_digestOn 118 = .ok (.goto (-31), 3) := by decide +kernel
theorem dX0_digestOn_121 : decode cX0_digestOn 121 = .ok (.iinc 5 1, 3) := by decide +kernel
theorem dX0_digestOn_124 : decode cX0_digestOn 124 = .ok (.goto (-76), 3) := by decide +kernel
theorem dX0_digestOn_127 : decode cX0_digestOn 127 = .ok (.aload_n 0, 1) := by decide +kernel
theorem dX0_digestOn_128 : decode cX0_digestOn 128 = .ok (.getfield 32, 3) := by decide +kernel
theorem dX0_digestOn_131 : decode cX0_digestOn 131 = .ok (.lload_n 3, 1) := by decide +kernel
theorem dX0_digestOn_132 : decode cX0_digestOn 132 = .ok (.invokevirtual 64, 3) := by decide +kernel
theorem dX0_digestOn_135 : decode cX0_digestOn 135 = .ok (.lreturn, 1) := by decide +kernel
set_option maxRecDepth 20000 in
theorem ggX0_allTerms_X4_size : GoodIn wsX0_allTerms wsX4_size := goodIn_r _ [6, 7, 17, 18, 19, 20] (by decide +kernel) (by decide +kernel)
set_option maxRecDepth 20000 in
theorem gX0_allTerms_X4_size : GoodIn wsX0_allTerms (wsV RX0 70 RX4 yX4_size wsX4_size) := goodIn_app (goodIn_of _ (by decide +kernel)) ggX0_allTerms_X4_size
theorem dX0_allTerms_0 : decode cX0_allTerms 0 = .ok (.iconst 1, 1) := by decide +kernel
theorem dX0_allTerms_1 : decode cX0_allTerms 1 = .ok (.aload_n 0, 1) := by decide +kernel
theorem dX0_allTerms_2 : decode cX0_allTerms 2 = .ok (.getfield 14, 3) := by decide +kernel
theorem dX0_allTerms_5 : decode cX0_allTerms 5 = .ok (.invokevirtual 70, 3) := by decide +kernel
theorem dX0_allTerms_8 : decode cX0_allTerms 8 = .ok (.ishl, 1) := by decide +kernel
theorem dX0_allTerms_9 : decode cX0_allTerms 9 = .ok (.iconst 1, 1) := by decide +kernel
theorem dX0_allTerms_10 : decode cX0_allTerms 10 = .ok (.isub, 1) := by decide +kernel
theorem dX0_allTerms_11 : decode cX0_allTerms 11 = .ok (.ireturn, 1) := by decide +kernel
set_option maxRecDepth 20000 in
theorem ggX0_isSet_X0_allTerms : GoodIn wsX0_isSet wsX0_allTerms := goodIn_r _ [5, 6, 7, 8, 9, 10, 11, 12, 13, 14, 15, 16, 17, 18, 19, 20, 21, 22, 23, 24, 25] (by decide +kernel) (by decide +kernel)
set_option maxRecDepth 20000 in
theorem gX0_isSet_X0_allTerms : GoodIn wsX0_isSet (wsV RX0 78 RX0 yX0_allTerms wsX0_allTerms) := goodIn_app (goodIn_of _ (by decide +kernel)) ggX0_isSet_X0_allTerms
theorem dX0_isSet_0 : decode cX0_isSet 0 = .ok (.iload_n 1, 1) := by decide +kernel
theorem dX0_isSet_1 : decode cX0_isSet 1 = .ok (.aload_n 0, 1) := by decide +kernel
theorem dX0_isSet_2 : decode cX0_isSet 2 = .ok (.invokevirtual 78, 3) := by decide +kernel
theorem dX0_isSet_5 : decode cX0_isSet 5 = .ok (.iconst (-1), 1) := by decide +kernel
theorem dX0_isSet_6 : decode cX0_isSet 6 = .ok (.ixor, 1) := by decide +kernel
theorem dX0_isSet_7 : decode cX0_isSet 7 = .ok (.iand, 1) := by decide +kernel
theorem dX0_isSet_8 : decode cX0_isSet 8 = .ok (.ifCond .ne 7, 3) := by decide +kernel
theorem dX0_isSet_11 : decode cX0_isSet 11 = .ok (.iconst 1, 1) := by decide +kernel
theorem dX0_isSet_12 : decode cX0_isSet 12 = .ok (.goto 4, 3) := by decide +kernel
theorem dX0_isSet_15 : decode cX0_isSet 15 = .ok (.iconst 0, 1) := by decide +kernel
theorem dX0_isSet_16 : decode cX0_isSet 16 = .ok (.ireturn, 1) := by decide +kernel
set_option maxRecDepth 20000 in
theorem ggX0_isMatter_X4_size : GoodIn wsX0_isMatter wsX4_size := goodIn_r _ [6, 7, 17, 18, 19, 20] (by decide +kernel) (by decide +kernel)
set_option maxRecDepth 20000 in
theorem gX0_isMatter_X4_size : GoodIn wsX0_isMatter (wsV RX0 70 RX4 yX4_size wsX4_size) := goodIn_app (goodIn_of _ (by decide +kernel)) ggX0_isMatter_X4_size
theorem dX0_isMatter_0 : decode cX0_isMatter 0 = .ok (.iload_n 1, 1) := by decide +kernel
theorem dX0_isMatter_1 : decode cX0_isMatter 1 = .ok (.iconst 1, 1) := by decide +kernel
theorem dX0_isMatter_2 : decode cX0_isMatter 2 = .ok (.aload_n 0, 1) := by decide +kernel
theorem dX0_isMatter_3 : decode cX0_isMatter 3 = .ok (.getfield 32, 3) := by decide +kernel
theorem dX0_isMatter_6 : decode cX0_isMatter 6 = .ok (.invokevirtual 70, 3) := by decide +kernel
theorem dX0_isMatter_9 : decode cX0_isMatter 9 = .ok (.ishl, 1) := by decide +kernel
theorem dX0_isMatter_10 : decode cX0_isMatter 10 = .ok (.iconst 1, 1) := by decide +kernel
theorem dX0_isMatter_11 : decode cX0_isMatter 11 = .ok (.isub, 1) := by decide +kernel
theorem dX0_isMatter_12 : decode cX0_isMatter 12 = .ok (.iconst (-1), 1) := by decide +kernel
theorem dX0_isMatter_13 : decode cX0_isMatter 13 = .ok (.ixor, 1) := by decide +kernel
theorem dX0_isMatter_14 : decode cX0_isMatter 14 = .ok (.iand, 1) := by decide +kernel
theorem dX0_isMatter_15 : decode cX0_isMatter 15 = .ok (.ifCond .ne 7, 3) := by decide +kernel
theorem dX0_isMatter_18 : decode cX0_isMatter 18 = .ok (.iconst 1, 1) := by decide +kernel
theorem dX0_isMatter_19 : decode cX0_isMatter 19 = .ok (.goto 4, 3) := by decide +kernel
theorem dX0_isMatter_22 : decode cX0_isMatter 22 = .ok (.iconst 0, 1) := by decide +kernel
theorem dX0_isMatter_23 : decode cX0_isMatter 23 = .ok (.ireturn, 1) := by decide +kernel
set_option maxRecDepth 20000 in
theorem ggX0_addTerm_X4_add : GoodIn wsX0_addTerm wsX4_add := goodIn_r _ [6, 7, 8, 9, 19, 20, 21, 22] (by decide +kernel) (by decide +kernel)
set_option maxRecDepth 20000 in
theorem gX0_addTerm_X4_add : GoodIn wsX0_addTerm (wsV RX0 81 RX4 yX4_add wsX4_add) := goodIn_app (goodIn_of _ (by decide +kernel)) ggX0_addTerm_X4_add
theorem dX0_addTerm_0 : decode cX0_addTerm 0 = .ok (.iload_n 1, 1) := by decide +kernel
theorem dX0_addTerm_1 : decode cX0_addTerm 1 = .ok (.ifCond .lt 33, 3) := by decide +kernel
theorem dX0_addTerm_4 : decode cX0_addTerm 4 = .ok (.iload_n 1, 1) := by decide +kernel
theorem dX0_addTerm_5 : decode cX0_addTerm 5 = .ok (.bipush 6, 2) := by decide +kernel
theorem dX0_addTerm_7 : decode cX0_addTerm 7 = .ok (.if_icmp .ge 27, 3) := by decide +kernel
theorem dX0_addTerm_10 : decode cX0_addTerm 10 = .ok (.iload_n 2, 1) := by decide +kernel
theorem dX0_addTerm_11 : decode cX0_addTerm 11 = .ok (.iconst 1, 1) := by decide +kernel
theorem dX0_addTerm_12 : decode cX0_addTerm 12 = .ok (.if_icmp .lt 22, 3) := by decide +kernel
theorem dX0_addTerm_15 : decode cX0_addTerm 15 = .ok (.iload_n 2, 1) := by decide +kernel
theorem dX0_addTerm_16 : decode cX0_addTerm 16 = .ok (.iconst 3, 1) := by decide +kernel
theorem dX0_addTerm_17 : decode cX0_addTerm 17 = .ok (.if_icmp .gt 17, 3) := by decide +kernel
theorem dX0_addTerm_20 : decode cX0_addTerm 20 = .ok (.iload_n 3, 1) := by decide +kernel
theorem dX0_addTerm_21 : decode cX0_addTerm 21 = .ok (.ifCond .lt 13, 3) := by decide +kernel
theorem dX0_addTerm_24 : decode cX0_addTerm 24 = .ok (.iload_n 3, 1) := by decide +kernel
theorem dX0_addTerm_25 : decode cX0_addTerm 25 = .ok (.bipush 9, 2) := by decide +kernel
theorem dX0_addTerm_27 : decode cX0_addTerm 27 = .ok (.if_icmp .gt 7, 3) := by decide +kernel
theorem dX0_addTerm_30 : decode cX0_addTerm 30 = .ok (.iconst 1, 1) := by decide +kernel
theorem dX0_addTerm_31 : decode cX0_addTerm 31 = .ok (.goto 4, 3) := by decide +kernel
theorem dX0_addTerm_34 : decode cX0_addTerm 34 = .ok (.iconst 0, 1) := by decide +kernel
theorem dX0_addTerm_35 : decode cX0_addTerm 35 = .ok (.istore 4, 2) := by decide +kernel
theorem dX0_addTerm_37 : decode cX0_addTerm 37 = .ok (.iload 4, 2) := by decide +kernel
theorem dX0_addTerm_39 : decode cX0_addTerm 39 = .ok (.ifCond .eq 17, 3) := by decide +kernel
theorem dX0_addTerm_42 : decode cX0_addTerm 42 = .ok (.aload_n 0, 1) := by decide +kernel
theorem dX0_addTerm_43 : decode cX0_addTerm 43 = .ok (.getfield 14, 3) := by decide +kernel
theorem dX0_addTerm_46 : decode cX0_addTerm 46 = .ok (.iload_n 1, 1) := by decide +kernel
theorem dX0_addTerm_47 : decode cX0_addTerm 47 = .ok (.iload_n 2, 1) := by decide +kernel
theorem dX0_addTerm_48 : decode cX0_addTerm 48 = .ok (.iload_n 3, 1) := by decide +kernel
theorem dX0_addTerm_49 : decode cX0_addTerm 49 = .ok (.iconst 0, 1) := by decide +kernel
theorem dX0_addTerm_50 : decode cX0_addTerm 50 = .ok (.invokevirtual 81, 3) := by decide +kernel
theorem dX0_addTerm_53 : decode cX0_addTerm 53 = .ok (.goto 5, 3) := by decide +kernel
theorem dX0_addTerm_56 : decode cX0_addTerm 56 = .ok (.bipush (-2), 2) := by decide +kernel
theorem dX0_addTerm_58 : decode cX0_addTerm 58 = .ok (.ireturn, 1) := by decide +kernel
set_option maxRecDepth 20000 in
theorem ggX0_addLoan_X8_isPerson : GoodIn wsX0_addLoan wsX8_isPerson := goodIn_r _ [5] (by decide +kernel) (by decide +kernel)
set_option maxRecDepth 20000 in
theorem gX0_addLoan_X8_isPerson_n85 : GoodIn wsX0_addLoan (wsX8_isPerson) := ggX0_addLoan_X8_isPerson
set_option maxRecDepth 20000 in
theorem ggX0_addLoan_X4_holds : GoodIn wsX0_addLoan wsX4_holds := goodIn_r _ [10, 11, 29, 30, 31, 32] (by decide +kernel) (by decide +kernel)
set_option maxRecDepth 20000 in
theorem gX0_addLoan_X4_holds : GoodIn wsX0_addLoan (wsV RX0 89 RX4 yX4_holds wsX4_holds) := goodIn_app (goodIn_of _ (by decide +kernel)) ggX0_addLoan_X4_holds
set_option maxRecDepth 20000 in
theorem ggX0_addLoan_X8_isHour : GoodIn wsX0_addLoan wsX8_isHour := goodIn_r _ [13] (by decide +kernel) (by decide +kernel)
set_option maxRecDepth 20000 in
theorem gX0_addLoan_X8_isHour_n92 : GoodIn wsX0_addLoan (wsX8_isHour) := ggX0_addLoan_X8_isHour
set_option maxRecDepth 20000 in
theorem ggX0_addLoan_X4_add : GoodIn wsX0_addLoan wsX4_add := goodIn_r _ [17, 11, 18, 19, 29, 30, 31, 32] (by decide +kernel) (by decide +kernel)
set_option maxRecDepth 20000 in
theorem gX0_addLoan_X4_add : GoodIn wsX0_addLoan (wsV RX0 81 RX4 yX4_add wsX4_add) := goodIn_app (goodIn_of _ (by decide +kernel)) ggX0_addLoan_X4_add
theorem dX0_addLoan_0 : decode cX0_addLoan 0 = .ok (.iload_n 1, 1) := by decide +kernel
theorem dX0_addLoan_1 : decode cX0_addLoan 1 = .ok (.invokestatic 85, 3) := by decide +kernel
theorem dX0_addLoan_4 : decode cX0_addLoan 4 = .ok (.ifCond .eq 39, 3) := by decide +kernel
theorem dX0_addLoan_7 : decode cX0_addLoan 7 = .ok (.aload_n 0, 1) := by decide +kernel
theorem dX0_addLoan_8 : decode cX0_addLoan 8 = .ok (.getfield 14, 3) := by decide +kernel
theorem dX0_addLoan_11 : decode cX0_addLoan 11 = .ok (.iload_n 2, 1) := by decide +kernel
theorem dX0_addLoan_12 : decode cX0_addLoan 12 = .ok (.invokevirtual 89, 3) := by decide +kernel
theorem dX0_addLoan_15 : decode cX0_addLoan 15 = .ok (.ifCond .eq 28, 3) := by decide +kernel
theorem dX0_addLoan_18 : decode cX0_addLoan 18 = .ok (.iload_n 3, 1) := by decide +kernel
theorem dX0_addLoan_19 : decode cX0_addLoan 19 = .ok (.invokestatic 92, 3) := by decide +kernel
theorem dX0_addLoan_22 : decode cX0_addLoan 22 = .ok (.ifCond .eq 21, 3) := by decide +kernel
theorem dX0_addLoan_25 : decode cX0_addLoan 25 = .ok (.iload 4, 2) := by decide +kernel
theorem dX0_addLoan_27 : decode cX0_addLoan 27 = .ok (.invokestatic 92, 3) := by decide +kernel
theorem dX0_addLoan_30 : decode cX0_addLoan 30 = .ok (.ifCond .eq 13, 3) := by decide +kernel
theorem dX0_addLoan_33 : decode cX0_addLoan 33 = .ok (.iload_n 3, 1) := by decide +kernel
theorem dX0_addLoan_34 : decode cX0_addLoan 34 = .ok (.iload 4, 2) := by decide +kernel
theorem dX0_addLoan_36 : decode cX0_addLoan 36 = .ok (.if_icmp .gt 7, 3) := by decide +kernel
theorem dX0_addLoan_39 : decode cX0_addLoan 39 = .ok (.iconst 1, 1) := by decide +kernel
theorem dX0_addLoan_40 : decode cX0_addLoan 40 = .ok (.goto 4, 3) := by decide +kernel
theorem dX0_addLoan_43 : decode cX0_addLoan 43 = .ok (.iconst 0, 1) := by decide +kernel
theorem dX0_addLoan_44 : decode cX0_addLoan 44 = .ok (.istore 5, 2) := by decide +kernel
theorem dX0_addLoan_46 : decode cX0_addLoan 46 = .ok (.iload 5, 2) := by decide +kernel
theorem dX0_addLoan_48 : decode cX0_addLoan 48 = .ok (.ifCond .eq 18, 3) := by decide +kernel
theorem dX0_addLoan_51 : decode cX0_addLoan 51 = .ok (.aload_n 0, 1) := by decide +kernel
theorem dX0_addLoan_52 : decode cX0_addLoan 52 = .ok (.getfield 20, 3) := by decide +kernel
theorem dX0_addLoan_55 : decode cX0_addLoan 55 = .ok (.iload_n 1, 1) := by decide +kernel
theorem dX0_addLoan_56 : decode cX0_addLoan 56 = .ok (.iload_n 2, 1) := by decide +kernel
theorem dX0_addLoan_57 : decode cX0_addLoan 57 = .ok (.iload_n 3, 1) := by decide +kernel
theorem dX0_addLoan_58 : decode cX0_addLoan 58 = .ok (.iload 4, 2) := by decide +kernel
theorem dX0_addLoan_60 : decode cX0_addLoan 60 = .ok (.invokevirtual 81, 3) := by decide +kernel
theorem dX0_addLoan_63 : decode cX0_addLoan 63 = .ok (.goto 5, 3) := by decide +kernel
theorem dX0_addLoan_66 : decode cX0_addLoan 66 = .ok (.bipush (-2), 2) := by decide +kernel
theorem dX0_addLoan_68 : decode cX0_addLoan 68 = .ok (.ireturn, 1) := by decide +kernel
set_option maxRecDepth 20000 in
theorem ggX0_addSaid_X8_isPerson : GoodIn wsX0_addSaid wsX8_isPerson := goodIn_r _ [5] (by decide +kernel) (by decide +kernel)
set_option maxRecDepth 20000 in
theorem gX0_addSaid_X8_isPerson_n85 : GoodIn wsX0_addSaid (wsX8_isPerson) := ggX0_addSaid_X8_isPerson
set_option maxRecDepth 20000 in
theorem ggX0_addSaid_X4_holds : GoodIn wsX0_addSaid wsX4_holds := goodIn_r _ [10, 11, 29, 30, 31, 32] (by decide +kernel) (by decide +kernel)
set_option maxRecDepth 20000 in
theorem gX0_addSaid_X4_holds : GoodIn wsX0_addSaid (wsV RX0 89 RX4 yX4_holds wsX4_holds) := goodIn_app (goodIn_of _ (by decide +kernel)) ggX0_addSaid_X4_holds
set_option maxRecDepth 20000 in
theorem ggX0_addSaid_X8_isHour : GoodIn wsX0_addSaid wsX8_isHour := goodIn_r _ [13] (by decide +kernel) (by decide +kernel)
set_option maxRecDepth 20000 in
theorem gX0_addSaid_X8_isHour_n92 : GoodIn wsX0_addSaid (wsX8_isHour) := ggX0_addSaid_X8_isHour
set_option maxRecDepth 20000 in
theorem ggX0_addSaid_X4_add : GoodIn wsX0_addSaid wsX4_add := goodIn_r _ [17, 11, 18, 19, 29, 30, 31, 32] (by decide +kernel) (by decide +kernel)
set_option maxRecDepth 20000 in
theorem gX0_addSaid_X4_add : GoodIn wsX0_addSaid (wsV RX0 81 RX4 yX4_add wsX4_add) := goodIn_app (goodIn_of _ (by decide +kernel)) ggX0_addSaid_X4_add
theorem dX0_addSaid_0 : decode cX0_addSaid 0 = .ok (.iload_n 1, 1) := by decide +kernel
theorem dX0_addSaid_1 : decode cX0_addSaid 1 = .ok (.invokestatic 85, 3) := by decide +kernel
theorem dX0_addSaid_4 : decode cX0_addSaid 4 = .ok (.ifCond .eq 25, 3) := by decide +kernel
theorem dX0_addSaid_7 : decode cX0_addSaid 7 = .ok (.aload_n 0, 1) := by decide +kernel
theorem dX0_addSaid_8 : decode cX0_addSaid 8 = .ok (.getfield 14, 3) := by decide +kernel
theorem dX0_addSaid_11 : decode cX0_addSaid 11 = .ok (.iload_n 2, 1) := by decide +kernel
theorem dX0_addSaid_12 : decode cX0_addSaid 12 = .ok (.invokevirtual 89, 3) := by decide +kernel
theorem dX0_addSaid_15 : decode cX0_addSaid 15 = .ok (.ifCond .eq 14, 3) := by decide +kernel
theorem dX0_addSaid_18 : decode cX0_addSaid 18 = .ok (.iload_n 3, 1) := by decide +kernel
theorem dX0_addSaid_19 : decode cX0_addSaid 19 = .ok (.invokestatic 92, 3) := by decide +kernel
theorem dX0_addSaid_22 : decode cX0_addSaid 22 = .ok (.ifCond .eq 7, 3) := by decide +kernel
theorem dX0_addSaid_25 : decode cX0_addSaid 25 = .ok (.iconst 1, 1) := by decide +kernel
theorem dX0_addSaid_26 : decode cX0_addSaid 26 = .ok (.goto 4, 3) := by decide +kernel
theorem dX0_addSaid_29 : decode cX0_addSaid 29 = .ok (.iconst 0, 1) := by decide +kernel
theorem dX0_addSaid_30 : decode cX0_addSaid 30 = .ok (.istore 4, 2) := by decide +kernel
theorem dX0_addSaid_32 : decode cX0_addSaid 32 = .ok (.iload 4, 2) := by decide +kernel
theorem dX0_addSaid_34 : decode cX0_addSaid 34 = .ok (.ifCond .eq 17, 3) := by decide +kernel
theorem dX0_addSaid_37 : decode cX0_addSaid 37 = .ok (.aload_n 0, 1) := by decide +kernel
theorem dX0_addSaid_38 : decode cX0_addSaid 38 = .ok (.getfield 23, 3) := by decide +kernel
theorem dX0_addSaid_41 : decode cX0_addSaid 41 = .ok (.iload_n 1, 1) := by decide +kernel
theorem dX0_addSaid_42 : decode cX0_addSaid 42 = .ok (.iload_n 2, 1) := by decide +kernel
theorem dX0_addSaid_43 : decode cX0_addSaid 43 = .ok (.iload_n 3, 1) := by decide +kernel
theorem dX0_addSaid_44 : decode cX0_addSaid 44 = .ok (.iconst 0, 1) := by decide +kernel
theorem dX0_addSaid_45 : decode cX0_addSaid 45 = .ok (.invokevirtual 81, 3) := by decide +kernel
theorem dX0_addSaid_48 : decode cX0_addSaid 48 = .ok (.goto 5, 3) := by decide +kernel
theorem dX0_addSaid_51 : decode cX0_addSaid 51 = .ok (.bipush (-2), 2) := by decide +kernel
theorem dX0_addSaid_53 : decode cX0_addSaid 53 = .ok (.ireturn, 1) := by decide +kernel
set_option maxRecDepth 20000 in
theorem ggX0_addRule_X4_holds : GoodIn wsX0_addRule wsX4_holds := goodIn_r _ [7, 8, 24, 25, 26, 27] (by decide +kernel) (by decide +kernel)
set_option maxRecDepth 20000 in
theorem gX0_addRule_X4_holds : GoodIn wsX0_addRule (wsV RX0 89 RX4 yX4_holds wsX4_holds) := goodIn_app (goodIn_of _ (by decide +kernel)) ggX0_addRule_X4_holds
set_option maxRecDepth 20000 in
theorem ggX0_addRule_X4_add : GoodIn wsX0_addRule wsX4_add := goodIn_r _ [12, 8, 13, 14, 24, 25, 26, 27] (by decide +kernel) (by decide +kernel)
set_option maxRecDepth 20000 in
theorem gX0_addRule_X4_add : GoodIn wsX0_addRule (wsV RX0 81 RX4 yX4_add wsX4_add) := goodIn_app (goodIn_of _ (by decide +kernel)) ggX0_addRule_X4_add
theorem dX0_addRule_0 : decode cX0_addRule 0 = .ok (.aload_n 0, 1) := by decide +kernel
theorem dX0_addRule_1 : decode cX0_addRule 1 = .ok (.getfield 14, 3) := by decide +kernel
theorem dX0_addRule_4 : decode cX0_addRule 4 = .ok (.iload_n 1, 1) := by decide +kernel
theorem dX0_addRule_5 : decode cX0_addRule 5 = .ok (.invokevirtual 89, 3) := by decide +kernel
theorem dX0_addRule_8 : decode cX0_addRule 8 = .ok (.ifCond .eq 39, 3) := by decide +kernel
theorem dX0_addRule_11 : decode cX0_addRule 11 = .ok (.aload_n 0, 1) := by decide +kernel
theorem dX0_addRule_12 : decode cX0_addRule 12 = .ok (.getfield 14, 3) := by decide +kernel
theorem dX0_addRule_15 : decode cX0_addRule 15 = .ok (.iload_n 2, 1) := by decide +kernel
theorem dX0_addRule_16 : decode cX0_addRule 16 = .ok (.invokevirtual 89, 3) := by decide +kernel
theorem dX0_addRule_19 : decode cX0_addRule 19 = .ok (.ifCond .eq 28, 3) := by decide +kernel
theorem dX0_addRule_22 : decode cX0_addRule 22 = .ok (.aload_n 0, 1) := by decide +kernel
theorem dX0_addRule_23 : decode cX0_addRule 23 = .ok (.getfield 14, 3) := by decide +kernel
theorem dX0_addRule_26 : decode cX0_addRule 26 = .ok (.iload_n 3, 1) := by decide +kernel
theorem dX0_addRule_27 : decode cX0_addRule 27 = .ok (.invokevirtual 89, 3) := by decide +kernel
theorem dX0_addRule_30 : decode cX0_addRule 30 = .ok (.ifCond .eq 17, 3) := by decide +kernel
theorem dX0_addRule_33 : decode cX0_addRule 33 = .ok (.iload_n 1, 1) := by decide +kernel
theorem dX0_addRule_34 : decode cX0_addRule 34 = .ok (.iload_n 2, 1) := by decide +kernel
theorem dX0_addRule_35 : decode cX0_addRule 35 = .ok (.if_icmp .eq 12, 3) := by decide +kernel
theorem dX0_addRule_38 : decode cX0_addRule 38 = .ok (.iload_n 1, 1) := by decide +kernel
theorem dX0_addRule_39 : decode cX0_addRule 39 = .ok (.iload_n 3, 1) := by decide +kernel
theorem dX0_addRule_40 : decode cX0_addRule 40 = .ok (.if_icmp .eq 7, 3) := by decide +kernel
theorem dX0_addRule_43 : decode cX0_addRule 43 = .ok (.iconst 1, 1) := by decide +kernel
theorem dX0_addRule_44 : decode cX0_addRule 44 = .ok (.goto 4, 3) := by decide +kernel
theorem dX0_addRule_47 : decode cX0_addRule 47 = .ok (.iconst 0, 1) := by decide +kernel
theorem dX0_addRule_48 : decode cX0_addRule 48 = .ok (.istore 4, 2) := by decide +kernel
theorem dX0_addRule_50 : decode cX0_addRule 50 = .ok (.iload 4, 2) := by decide +kernel
theorem dX0_addRule_52 : decode cX0_addRule 52 = .ok (.ifCond .eq 17, 3) := by decide +kernel
theorem dX0_addRule_55 : decode cX0_addRule 55 = .ok (.aload_n 0, 1) := by decide +kernel
theorem dX0_addRule_56 : decode cX0_addRule 56 = .ok (.getfield 26, 3) := by decide +kernel
theorem dX0_addRule_59 : decode cX0_addRule 59 = .ok (.iload_n 1, 1) := by decide +kernel
theorem dX0_addRule_60 : decode cX0_addRule 60 = .ok (.iload_n 2, 1) := by decide +kernel
theorem dX0_addRule_61 : decode cX0_addRule 61 = .ok (.iload_n 3, 1) := by decide +kernel
theorem dX0_addRule_62 : decode cX0_addRule 62 = .ok (.iconst 0, 1) := by decide +kernel
theorem dX0_addRule_63 : decode cX0_addRule 63 = .ok (.invokevirtual 81, 3) := by decide +kernel
theorem dX0_addRule_66 : decode cX0_addRule 66 = .ok (.goto 5, 3) := by decide +kernel
theorem dX0_addRule_69 : decode cX0_addRule 69 = .ok (.bipush (-2), 2) := by decide +kernel
theorem dX0_addRule_71 : decode cX0_addRule 71 = .ok (.ireturn, 1) := by decide +kernel
set_option maxRecDepth 20000 in
theorem ggX0_addWant_J6_bitCount_0f7a4 : GoodIn wsX0_addWant wsJ6_bitCount_0f7a4 := goodIn_r _ [5, 6, 7, 8] (by decide +kernel) (by decide +kernel)
set_option maxRecDepth 20000 in
theorem gX0_addWant_J6_bitCount_0f7a4 : GoodIn wsX0_addWant (va_wsS RX0 95 yJ6_bitCount_0f7a4 wsJ6_bitCount_0f7a4) := goodIn_app (goodIn_of _ (by decide +kernel)) ggX0_addWant_J6_bitCount_0f7a4
set_option maxRecDepth 20000 in
theorem ggX0_addWant_X8_isPerson : GoodIn wsX0_addWant wsX8_isPerson := goodIn_r _ [11] (by decide +kernel) (by decide +kernel)
set_option maxRecDepth 20000 in
theorem gX0_addWant_X8_isPerson_n85 : GoodIn wsX0_addWant (wsX8_isPerson) := ggX0_addWant_X8_isPerson
set_option maxRecDepth 20000 in
theorem ggX0_addWant_X0_isSet : GoodIn wsX0_addWant wsX0_isSet := goodIn_r _ [16, 17, 18, 19, 15, 20, 21, 22, 23, 24, 25, 26, 27, 36, 37, 38, 39, 40, 41, 42, 43, 44, 45, 46, 47, 48] (by decide +kernel) (by decide +kernel)
set_option maxRecDepth 20000 in
theorem gX0_addWant_X0_isSet : GoodIn wsX0_addWant (wsV RX0 101 RX0 yX0_isSet wsX0_isSet) := goodIn_app (goodIn_of _ (by decide +kernel)) ggX0_addWant_X0_isSet
set_option maxRecDepth 20000 in
theorem ggX0_addWant_X8_isHour : GoodIn wsX0_addWant wsX8_isHour := goodIn_r _ [29] (by decide +kernel) (by decide +kernel)
set_option maxRecDepth 20000 in
theorem gX0_addWant_X8_isHour_n92 : GoodIn wsX0_addWant (wsX8_isHour) := ggX0_addWant_X8_isHour
set_option maxRecDepth 20000 in
theorem ggX0_addWant_X4_add : GoodIn wsX0_addWant wsX4_add := goodIn_r _ [33, 27, 34, 35, 45, 46, 47, 48] (by decide +kernel) (by decide +kernel)
set_option maxRecDepth 20000 in
theorem gX0_addWant_X4_add : GoodIn wsX0_addWant (wsV RX0 81 RX4 yX4_add wsX4_add) := goodIn_app (goodIn_of _ (by decide +kernel)) ggX0_addWant_X4_add
theorem dX0_addWant_0 : decode cX0_addWant 0 = .ok (.iload_n 2, 1) := by decide +kernel
theorem dX0_addWant_1 : decode cX0_addWant 1 = .ok (.invokestatic 95, 3) := by decide +kernel
theorem dX0_addWant_4 : decode cX0_addWant 4 = .ok (.istore 5, 2) := by decide +kernel
theorem dX0_addWant_6 : decode cX0_addWant 6 = .ok (.iload_n 1, 1) := by decide +kernel
theorem dX0_addWant_7 : decode cX0_addWant 7 = .ok (.invokestatic 85, 3) := by decide +kernel
theorem dX0_addWant_10 : decode cX0_addWant 10 = .ok (.ifCond .eq 56, 3) := by decide +kernel
theorem dX0_addWant_13 : decode cX0_addWant 13 = .ok (.aload_n 0, 1) := by decide +kernel
theorem dX0_addWant_14 : decode cX0_addWant 14 = .ok (.iload_n 2, 1) := by decide +kernel
theorem dX0_addWant_15 : decode cX0_addWant 15 = .ok (.invokevirtual 101, 3) := by decide +kernel
theorem dX0_addWant_18 : decode cX0_addWant 18 = .ok (.ifCond .eq 48, 3) := by decide +kernel
theorem dX0_addWant_21 : decode cX0_addWant 21 = .ok (.iload 5, 2) := by decide +kernel
theorem dX0_addWant_23 : decode cX0_addWant 23 = .ok (.iconst 1, 1) := by decide +kernel
theorem dX0_addWant_24 : decode cX0_addWant 24 = .ok (.if_icmp .lt 42, 3) := by decide +kernel
theorem dX0_addWant_27 : decode cX0_addWant 27 = .ok (.iload 5, 2) := by decide +kernel
theorem dX0_addWant_29 : decode cX0_addWant 29 = .ok (.iconst 3, 1) := by decide +kernel
theorem dX0_addWant_30 : decode cX0_addWant 30 = .ok (.if_icmp .gt 36, 3) := by decide +kernel
theorem dX0_addWant_33 : decode cX0_addWant 33 = .ok (.iload_n 3, 1) := by decide +kernel
theorem dX0_addWant_34 : decode cX0_addWant 34 = .ok (.invokestatic 92, 3) := by decide +kernel
theorem dX0_addWant_37 : decode cX0_addWant 37 = .ok (.ifCond .eq 29, 3) := by decide +kernel
theorem dX0_addWant_40 : decode cX0_addWant 40 = .ok (.iload 4, 2) := by decide +kernel
theorem dX0_addWant_42 : decode cX0_addWant 42 = .ok (.invokestatic 92, 3) := by decide +kernel
theorem dX0_addWant_45 : decode cX0_addWant 45 = .ok (.ifCond .eq 21, 3) := by decide +kernel
theorem dX0_addWant_48 : decode cX0_addWant 48 = .ok (.iload_n 3, 1) := by decide +kernel
theorem dX0_addWant_49 : decode cX0_addWant 49 = .ok (.iload 4, 2) := by decide +kernel
theorem dX0_addWant_51 : decode cX0_addWant 51 = .ok (.if_icmp .gt 15, 3) := by decide +kernel
theorem dX0_addWant_54 : decode cX0_addWant 54 = .ok (.iload 4, 2) := by decide +kernel
theorem dX0_addWant_56 : decode cX0_addWant 56 = .ok (.iload_n 3, 1) := by decide +kernel
theorem dX0_addWant_57 : decode cX0_addWant 57 = .ok (.isub, 1) := by decide +kernel
theorem dX0_addWant_58 : decode cX0_addWant 58 = .ok (.iconst 5, 1) := by decide +kernel
theorem dX0_addWant_59 : decode cX0_addWant 59 = .ok (.if_icmp .gt 7, 3) := by decide +kernel
theorem dX0_addWant_62 : decode cX0_addWant 62 = .ok (.iconst 1, 1) := by decide +kernel
theorem dX0_addWant_63 : decode cX0_addWant 63 = .ok (.goto 4, 3) := by decide +kernel
theorem dX0_addWant_66 : decode cX0_addWant 66 = .ok (.iconst 0, 1) := by decide +kernel
theorem dX0_addWant_67 : decode cX0_addWant 67 = .ok (.istore 6, 2) := by decide +kernel
theorem dX0_addWant_69 : decode cX0_addWant 69 = .ok (.iload 6, 2) := by decide +kernel
theorem dX0_addWant_71 : decode cX0_addWant 71 = .ok (.ifCond .eq 18, 3) := by decide +kernel
theorem dX0_addWant_74 : decode cX0_addWant 74 = .ok (.aload_n 0, 1) := by decide +kernel
theorem dX0_addWant_75 : decode cX0_addWant 75 = .ok (.getfield 29, 3) := by decide +kernel
theorem dX0_addWant_78 : decode cX0_addWant 78 = .ok (.iload_n 1, 1) := by decide +kernel
theorem dX0_addWant_79 : decode cX0_addWant 79 = .ok (.iload_n 2, 1) := by decide +kernel
theorem dX0_addWant_80 : decode cX0_addWant 80 = .ok (.iload_n 3, 1) := by decide +kernel
theorem dX0_addWant_81 : decode cX0_addWant 81 = .ok (.iload 4, 2) := by decide +kernel
theorem dX0_addWant_83 : decode cX0_addWant 83 = .ok (.invokevirtual 81, 3) := by decide +kernel
theorem dX0_addWant_86 : decode cX0_addWant 86 = .ok (.goto 5, 3) := by decide +kernel
theorem dX0_addWant_89 : decode cX0_addWant 89 = .ok (.bipush (-2), 2) := by decide +kernel
theorem dX0_addWant_91 : decode cX0_addWant 91 = .ok (.ireturn, 1) := by decide +kernel
set_option maxRecDepth 20000 in
theorem ggX0_addSaying_X0_isSet : GoodIn wsX0_addSaying wsX0_isSet := goodIn_r _ [6, 7, 8, 9, 5, 10, 11, 12, 13, 14, 15, 16, 17, 24, 25, 26, 27, 28, 29, 30, 31, 32, 33, 34, 35, 36] (by decide +kernel) (by decide +kernel)
set_option maxRecDepth 20000 in
theorem gX0_addSaying_X0_isSet : GoodIn wsX0_addSaying (wsV RX0 101 RX0 yX0_isSet wsX0_isSet) := goodIn_app (goodIn_of _ (by decide +kernel)) ggX0_addSaying_X0_isSet
set_option maxRecDepth 20000 in
theorem ggX0_addSaying_X4_add : GoodIn wsX0_addSaying wsX4_add := goodIn_r _ [21, 17, 22, 23, 33, 34, 35, 36] (by decide +kernel) (by decide +kernel)
set_option maxRecDepth 20000 in
theorem gX0_addSaying_X4_add : GoodIn wsX0_addSaying (wsV RX0 81 RX4 yX4_add wsX4_add) := goodIn_app (goodIn_of _ (by decide +kernel)) ggX0_addSaying_X4_add
theorem dX0_addSaying_0 : decode cX0_addSaying 0 = .ok (.aload_n 0, 1) := by decide +kernel
theorem dX0_addSaying_1 : decode cX0_addSaying 1 = .ok (.iload_n 1, 1) := by decide +kernel
theorem dX0_addSaying_2 : decode cX0_addSaying 2 = .ok (.invokevirtual 101, 3) := by decide +kernel
theorem dX0_addSaying_5 : decode cX0_addSaying 5 = .ok (.ifCond .eq 22, 3) := by decide +kernel
theorem dX0_addSaying_8 : decode cX0_addSaying 8 = .ok (.iload_n 1, 1) := by decide +kernel
theorem dX0_addSaying_9 : decode cX0_addSaying 9 = .ok (.ifCond .eq 18, 3) := by decide +kernel
theorem dX0_addSaying_12 : decode cX0_addSaying 12 = .ok (.iload_n 2, 1) := by decide +kernel
theorem dX0_addSaying_13 : decode cX0_addSaying 13 = .ok (.iconst 1, 1) := by decide +kernel
theorem dX0_addSaying_14 : decode cX0_addSaying 14 = .ok (.if_icmp .lt 13, 3) := by decide +kernel
theorem dX0_addSaying_17 : decode cX0_addSaying 17 = .ok (.iload_n 2, 1) := by decide +kernel
theorem dX0_addSaying_18 : decode cX0_addSaying 18 = .ok (.bipush 9, 2) := by decide +kernel
theorem dX0_addSaying_20 : decode cX0_addSaying 20 = .ok (.if_icmp .gt 7, 3) := by decide +kernel
theorem dX0_addSaying_23 : decode cX0_addSaying 23 = .ok (.iconst 1, 1) := by decide +kernel
theorem dX0_addSaying_24 : decode cX0_addSaying 24 = .ok (.goto 4, 3) := by decide +kernel
theorem dX0_addSaying_27 : decode cX0_addSaying 27 = .ok (.iconst 0, 1) := by decide +kernel
theorem dX0_addSaying_28 : decode cX0_addSaying 28 = .ok (.istore_n 3, 1) := by decide +kernel
theorem dX0_addSaying_29 : decode cX0_addSaying 29 = .ok (.iload_n 3, 1) := by decide +kernel
theorem dX0_addSaying_30 : decode cX0_addSaying 30 = .ok (.ifCond .eq 17, 3) := by decide +kernel
theorem dX0_addSaying_33 : decode cX0_addSaying 33 = .ok (.aload_n 0, 1) := by decide +kernel
theorem dX0_addSaying_34 : decode cX0_addSaying 34 = .ok (.getfield 32, 3) := by decide +kernel
theorem dX0_addSaying_37 : decode cX0_addSaying 37 = .ok (.iload_n 1, 1) := by decide +kernel
theorem dX0_addSaying_38 : decode cX0_addSaying 38 = .ok (.iload_n 2, 1) := by decide +kernel
theorem dX0_addSaying_39 : decode cX0_addSaying 39 = .ok (.iconst 0, 1) := by decide +kernel
theorem dX0_addSaying_40 : decode cX0_addSaying 40 = .ok (.iconst 0, 1) := by decide +kernel
theorem dX0_addSaying_41 : decode cX0_addSaying 41 = .ok (.invokevirtual 81, 3) := by decide +kernel
theorem dX0_addSaying_44 : decode cX0_addSaying 44 = .ok (.goto 5, 3) := by decide +kernel
theorem dX0_addSaying_47 : decode cX0_addSaying 47 = .ok (.bipush (-2), 2) := by decide +kernel
theorem dX0_addSaying_49 : decode cX0_addSaying 49 = .ok (.ireturn, 1) := by decide +kernel
set_option maxRecDepth 20000 in
theorem ggX0_setWaits_X8_isPerson : GoodIn wsX0_setWaits wsX8_isPerson := goodIn_r _ [5] (by decide +kernel) (by decide +kernel)
set_option maxRecDepth 20000 in
theorem gX0_setWaits_X8_isPerson_n85 : GoodIn wsX0_setWaits (wsX8_isPerson) := ggX0_setWaits_X8_isPerson
set_option maxRecDepth 20000 in
theorem ggX0_setWaits_X0_isSet : GoodIn wsX0_setWaits wsX0_isSet := goodIn_r _ [10, 11, 12, 13, 9, 14, 15, 16, 17, 18, 19, 20, 21, 22, 23, 24, 25, 26, 27, 28, 29, 30, 31, 32, 33, 34] (by decide +kernel) (by decide +kernel)
set_option maxRecDepth 20000 in
theorem gX0_setWaits_X0_isSet : GoodIn wsX0_setWaits (wsV RX0 101 RX0 yX0_isSet wsX0_isSet) := goodIn_app (goodIn_of _ (by decide +kernel)) ggX0_setWaits_X0_isSet
theorem dX0_setWaits_0 : decode cX0_setWaits 0 = .ok (.iload_n 1, 1) := by decide +kernel
theorem dX0_setWaits_1 : decode cX0_setWaits 1 = .ok (.invokestatic 85, 3) := by decide +kernel
theorem dX0_setWaits_4 : decode cX0_setWaits 4 = .ok (.ifCond .eq 25, 3) := by decide +kernel
theorem dX0_setWaits_7 : decode cX0_setWaits 7 = .ok (.aload_n 0, 1) := by decide +kernel
theorem dX0_setWaits_8 : decode cX0_setWaits 8 = .ok (.iload_n 2, 1) := by decide +kernel
theorem dX0_setWaits_9 : decode cX0_setWaits 9 = .ok (.invokevirtual 101, 3) := by decide +kernel
theorem dX0_setWaits_12 : decode cX0_setWaits 12 = .ok (.ifCond .eq 17, 3) := by decide +kernel
theorem dX0_setWaits_15 : decode cX0_setWaits 15 = .ok (.aload_n 0, 1) := by decide +kernel
theorem dX0_setWaits_16 : decode cX0_setWaits 16 = .ok (.iload_n 3, 1) := by decide +kernel
theorem dX0_setWaits_17 : decode cX0_setWaits 17 = .ok (.invokevirtual 101, 3) := by decide +kernel
theorem dX0_setWaits_20 : decode cX0_setWaits 20 = .ok (.ifCond .eq 9, 3) := by decide +kernel
theorem dX0_setWaits_23 : decode cX0_setWaits 23 = .ok (.iload_n 2, 1) := by decide +kernel
theorem dX0_setWaits_24 : decode cX0_setWaits 24 = .ok (.iload_n 3, 1) := by decide +kernel
theorem dX0_setWaits_25 : decode cX0_setWaits 25 = .ok (.iand, 1) := by decide +kernel
theorem dX0_setWaits_26 : decode cX0_setWaits 26 = .ok (.ifCond .eq 6, 3) := by decide +kernel
theorem dX0_setWaits_29 : decode cX0_setWaits 29 = .ok (.bipush (-2), 2) := by decide +kernel
theorem dX0_setWaits_31 : decode cX0_setWaits 31 = .ok (.ireturn, 1) := by decide +kernel
theorem dX0_setWaits_32 : decode cX0_setWaits 32 = .ok (.aload_n 0, 1) := by decide +kernel
theorem dX0_setWaits_33 : decode cX0_setWaits 33 = .ok (.getfield 35, 3) := by decide +kernel
theorem dX0_setWaits_36 : decode cX0_setWaits 36 = .ok (.iload_n 1, 1) := by decide +kernel
theorem dX0_setWaits_37 : decode cX0_setWaits 37 = .ok (.iload_n 2, 1) := by decide +kernel
theorem dX0_setWaits_38 : decode cX0_setWaits 38 = .ok (.iastore, 1) := by decide +kernel
theorem dX0_setWaits_39 : decode cX0_setWaits 39 = .ok (.aload_n 0, 1) := by decide +kernel
theorem dX0_setWaits_40 : decode cX0_setWaits 40 = .ok (.getfield 39, 3) := by decide +kernel
theorem dX0_setWaits_43 : decode cX0_setWaits 43 = .ok (.iload_n 1, 1) := by decide +kernel
theorem dX0_setWaits_44 : decode cX0_setWaits 44 = .ok (.iload_n 3, 1) := by decide +kernel
theorem dX0_setWaits_45 : decode cX0_setWaits 45 = .ok (.iastore, 1) := by decide +kernel
theorem dX0_setWaits_46 : decode cX0_setWaits 46 = .ok (.iconst 1, 1) := by decide +kernel
theorem dX0_setWaits_47 : decode cX0_setWaits 47 = .ok (.ireturn, 1) := by decide +kernel
set_option maxRecDepth 20000 in
theorem ggX0_setWorth_X8_isPerson : GoodIn wsX0_setWorth wsX8_isPerson := goodIn_r _ [5] (by decide +kernel) (by decide +kernel)
set_option maxRecDepth 20000 in
theorem gX0_setWorth_X8_isPerson_n85 : GoodIn wsX0_setWorth (wsX8_isPerson) := ggX0_setWorth_X8_isPerson
set_option maxRecDepth 20000 in
theorem ggX0_setWorth_X4_holds : GoodIn wsX0_setWorth wsX4_holds := goodIn_r _ [10, 11, 26, 27, 28, 29] (by decide +kernel) (by decide +kernel)
set_option maxRecDepth 20000 in
theorem gX0_setWorth_X4_holds : GoodIn wsX0_setWorth (wsV RX0 89 RX4 yX4_holds wsX4_holds) := goodIn_app (goodIn_of _ (by decide +kernel)) ggX0_setWorth_X4_holds
set_option maxRecDepth 20000 in
theorem ggX0_setWorth_X0_worthOf : GoodIn wsX0_setWorth wsX0_worthOf := goodIn_r _ [16, 1, 2, 3, 4, 5, 6, 7, 8, 9, 10, 11, 17, 18, 19, 20, 21, 22, 23, 24, 25, 26, 27, 28, 29] (by decide +kernel) (by decide +kernel)
set_option maxRecDepth 20000 in
theorem gX0_setWorth_X0_worthOf : GoodIn wsX0_setWorth (wsV RX0 74 RX0 yX0_worthOf wsX0_worthOf) := goodIn_app (goodIn_of _ (by decide +kernel)) ggX0_setWorth_X0_worthOf
theorem dX0_setWorth_0 : decode cX0_setWorth 0 = .ok (.iload_n 1, 1) := by decide +kernel
theorem dX0_setWorth_1 : decode cX0_setWorth 1 = .ok (.invokestatic 85, 3) := by decide +kernel
theorem dX0_setWorth_4 : decode cX0_setWorth 4 = .ok (.ifCond .eq 24, 3) := by decide +kernel
theorem dX0_setWorth_7 : decode cX0_setWorth 7 = .ok (.aload_n 0, 1) := by decide +kernel
theorem dX0_setWorth_8 : decode cX0_setWorth 8 = .ok (.getfield 14, 3) := by decide +kernel
theorem dX0_setWorth_11 : decode cX0_setWorth 11 = .ok (.iload_n 2, 1) := by decide +kernel
theorem dX0_setWorth_12 : decode cX0_setWorth 12 = .ok (.invokevirtual 89, 3) := by decide +kernel
theorem dX0_setWorth_15 : decode cX0_setWorth 15 = .ok (.ifCond .eq 13, 3) := by decide +kernel
theorem dX0_setWorth_18 : decode cX0_setWorth 18 = .ok (.iload_n 3, 1) := by decide +kernel
theorem dX0_setWorth_19 : decode cX0_setWorth 19 = .ok (.ifCond .lt 9, 3) := by decide +kernel
theorem dX0_setWorth_22 : decode cX0_setWorth 22 = .ok (.iload_n 3, 1) := by decide +kernel
theorem dX0_setWorth_23 : decode cX0_setWorth 23 = .ok (.bipush 99, 2) := by decide +kernel
theorem dX0_setWorth_25 : decode cX0_setWorth 25 = .ok (.if_icmp .le 6, 3) := by decide +kernel
theorem dX0_setWorth_28 : decode cX0_setWorth 28 = .ok (.bipush (-2), 2) := by decide +kernel
theorem dX0_setWorth_30 : decode cX0_setWorth 30 = .ok (.ireturn, 1) := by decide +kernel
theorem dX0_setWorth_31 : decode cX0_setWorth 31 = .ok (.aload_n 0, 1) := by decide +kernel
theorem dX0_setWorth_32 : decode cX0_setWorth 32 = .ok (.iload_n 1, 1) := by decide +kernel
theorem dX0_setWorth_33 : decode cX0_setWorth 33 = .ok (.iload_n 2, 1) := by decide +kernel
theorem dX0_setWorth_34 : decode cX0_setWorth 34 = .ok (.invokevirtual 74, 3) := by decide +kernel
theorem dX0_setWorth_37 : decode cX0_setWorth 37 = .ok (.istore 4, 2) := by decide +kernel
theorem dX0_setWorth_39 : decode cX0_setWorth 39 = .ok (.aload_n 0, 1) := by decide +kernel
theorem dX0_setWorth_40 : decode cX0_setWorth 40 = .ok (.getfield 42, 3) := by decide +kernel
theorem dX0_setWorth_43 : decode cX0_setWorth 43 = .ok (.iload_n 1, 1) := by decide +kernel
theorem dX0_setWorth_44 : decode cX0_setWorth 44 = .ok (.bipush 8, 2) := by decide +kernel
theorem dX0_setWorth_46 : decode cX0_setWorth 46 = .ok (.imul, 1) := by decide +kernel
theorem dX0_setWorth_47 : decode cX0_setWorth 47 = .ok (.iload_n 2, 1) := by decide +kernel
theorem dX0_setWorth_48 : decode cX0_setWorth 48 = .ok (.iadd, 1) := by decide +kernel
theorem dX0_setWorth_49 : decode cX0_setWorth 49 = .ok (.iload_n 3, 1) := by decide +kernel
theorem dX0_setWorth_50 : decode cX0_setWorth 50 = .ok (.iastore, 1) := by decide +kernel
theorem dX0_setWorth_51 : decode cX0_setWorth 51 = .ok (.iload 4, 2) := by decide +kernel
theorem dX0_setWorth_53 : decode cX0_setWorth 53 = .ok (.ireturn, 1) := by decide +kernel
set_option maxRecDepth 20000 in
theorem ggX0_worthOf_X8_isPerson : GoodIn wsX0_worthOf wsX8_isPerson := goodIn_r _ [5] (by decide +kernel) (by decide +kernel)
set_option maxRecDepth 20000 in
theorem gX0_worthOf_X8_isPerson_n85 : GoodIn wsX0_worthOf (wsX8_isPerson) := ggX0_worthOf_X8_isPerson
set_option maxRecDepth 20000 in
theorem ggX0_worthOf_X4_holds : GoodIn wsX0_worthOf wsX4_holds := goodIn_r _ [10, 11, 21, 22, 23, 24] (by decide +kernel) (by decide +kernel)
set_option maxRecDepth 20000 in
theorem gX0_worthOf_X4_holds : GoodIn wsX0_worthOf (wsV RX0 89 RX4 yX4_holds wsX4_holds) := goodIn_app (goodIn_of _ (by decide +kernel)) ggX0_worthOf_X4_holds
theorem dX0_worthOf_0 : decode cX0_worthOf 0 = .ok (.iload_n 1, 1) := by decide +kernel
theorem dX0_worthOf_1 : decode cX0_worthOf 1 = .ok (.invokestatic 85, 3) := by decide +kernel
theorem dX0_worthOf_4 : decode cX0_worthOf 4 = .ok (.ifCond .eq 28, 3) := by decide +kernel
theorem dX0_worthOf_7 : decode cX0_worthOf 7 = .ok (.aload_n 0, 1) := by decide +kernel
theorem dX0_worthOf_8 : decode cX0_worthOf 8 = .ok (.getfield 14, 3) := by decide +kernel
theorem dX0_worthOf_11 : decode cX0_worthOf 11 = .ok (.iload_n 2, 1) := by decide +kernel
theorem dX0_worthOf_12 : decode cX0_worthOf 12 = .ok (.invokevirtual 89, 3) := by decide +kernel
theorem dX0_worthOf_15 : decode cX0_worthOf 15 = .ok (.ifCond .eq 17, 3) := by decide +kernel
theorem dX0_worthOf_18 : decode cX0_worthOf 18 = .ok (.aload_n 0, 1) := by decide +kernel
theorem dX0_worthOf_19 : decode cX0_worthOf 19 = .ok (.getfield 42, 3) := by decide +kernel
theorem dX0_worthOf_22 : decode cX0_worthOf 22 = .ok (.iload_n 1, 1) := by decide +kernel
theorem dX0_worthOf_23 : decode cX0_worthOf 23 = .ok (.bipush 8, 2) := by decide +kernel
theorem dX0_worthOf_25 : decode cX0_worthOf 25 = .ok (.imul, 1) := by decide +kernel
theorem dX0_worthOf_26 : decode cX0_worthOf 26 = .ok (.iload_n 2, 1) := by decide +kernel
theorem dX0_worthOf_27 : decode cX0_worthOf 27 = .ok (.iadd, 1) := by decide +kernel
theorem dX0_worthOf_28 : decode cX0_worthOf 28 = .ok (.iaload, 1) := by decide +kernel
theorem dX0_worthOf_29 : decode cX0_worthOf 29 = .ok (.goto 4, 3) := by decide +kernel
theorem dX0_worthOf_32 : decode cX0_worthOf 32 = .ok (.iconst 0, 1) := by decide +kernel
theorem dX0_worthOf_33 : decode cX0_worthOf 33 = .ok (.ireturn, 1) := by decide +kernel
set_option maxRecDepth 20000 in
theorem ggX0_hasNow_X8_isPerson : GoodIn wsX0_hasNow wsX8_isPerson := goodIn_r _ [4] (by decide +kernel) (by decide +kernel)
set_option maxRecDepth 20000 in
theorem gX0_hasNow_X8_isPerson_n85 : GoodIn wsX0_hasNow (wsX8_isPerson) := ggX0_hasNow_X8_isPerson
theorem dX0_hasNow_0 : decode cX0_hasNow 0 = .ok (.iload_n 1, 1) := by decide +kernel
theorem dX0_hasNow_1 : decode cX0_hasNow 1 = .ok (.invokestatic 85, 3) := by decide +kernel
theorem dX0_hasNow_4 : decode cX0_hasNow 4 = .ok (.ifCond .eq 12, 3) := by decide +kernel
theorem dX0_hasNow_7 : decode cX0_hasNow 7 = .ok (.aload_n 0, 1) := by decide +kernel
theorem dX0_hasNow_8 : decode cX0_hasNow 8 = .ok (.getfield 35, 3) := by decide +kernel
theorem dX0_hasNow_11 : decode cX0_hasNow 11 = .ok (.iload_n 1, 1) := by decide +kernel
theorem dX0_hasNow_12 : decode cX0_hasNow 12 = .ok (.iaload, 1) := by decide +kernel
theorem dX0_hasNow_13 : decode cX0_hasNow 13 = .ok (.goto 4, 3) := by decide +kernel
theorem dX0_hasNow_16 : decode cX0_hasNow 16 = .ok (.iconst 0, 1) := by decide +kernel
theorem dX0_hasNow_17 : decode cX0_hasNow 17 = .ok (.ireturn, 1) := by decide +kernel
set_option maxRecDepth 20000 in
theorem ggX0_waitsNow_X8_isPerson : GoodIn wsX0_waitsNow wsX8_isPerson := goodIn_r _ [4] (by decide +kernel) (by decide +kernel)
set_option maxRecDepth 20000 in
theorem gX0_waitsNow_X8_isPerson_n85 : GoodIn wsX0_waitsNow (wsX8_isPerson) := ggX0_waitsNow_X8_isPerson
theorem dX0_waitsNow_0 : decode cX0_waitsNow 0 = .ok (.iload_n 1, 1) := by decide +kernel
theorem dX0_waitsNow_1 : decode cX0_waitsNow 1 = .ok (.invokestatic 85, 3) := by decide +kernel
theorem dX0_waitsNow_4 : decode cX0_waitsNow 4 = .ok (.ifCond .eq 12, 3) := by decide +kernel
theorem dX0_waitsNow_7 : decode cX0_waitsNow 7 = .ok (.aload_n 0, 1) := by decide +kernel
theorem dX0_waitsNow_8 : decode cX0_waitsNow 8 = .ok (.getfield 39, 3) := by decide +kernel
theorem dX0_waitsNow_11 : decode cX0_waitsNow 11 = .ok (.iload_n 1, 1) := by decide +kernel
theorem dX0_waitsNow_12 : decode cX0_waitsNow 12 = .ok (.iaload, 1) := by decide +kernel
theorem dX0_waitsNow_13 : decode cX0_waitsNow 13 = .ok (.goto 4, 3) := by decide +kernel
theorem dX0_waitsNow_16 : decode cX0_waitsNow 16 = .ok (.iconst 0, 1) := by decide +kernel
theorem dX0_waitsNow_17 : decode cX0_waitsNow 17 = .ok (.ireturn, 1) := by decide +kernel
set_option maxRecDepth 20000 in
theorem ggX0_isOneAtATime_X4_at : GoodIn wsX0_isOneAtATime wsX4_at := goodIn_r _ [6, 7, 8, 9, 23, 24, 25, 26] (by decide +kernel) (by decide +kernel)
set_option maxRecDepth 20000 in
theorem gX0_isOneAtATime_X4_at : GoodIn wsX0_isOneAtATime (wsV RX0 104 RX4 yX4_at wsX4_at) := goodIn_app (goodIn_of _ (by decide +kernel)) ggX0_isOneAtATime_X4_at
set_option maxRecDepth 20000 in
theorem ggX0_isOneAtATime_X2_isOneAtATime : GoodIn wsX0_isOneAtATime wsX2_isOneAtATime := goodIn_r _ [13] (by decide +kernel) (by decide +kernel)
set_option maxRecDepth 20000 in
theorem gX0_isOneAtATime_X2_isOneAtATime : GoodIn wsX0_isOneAtATime (va_wsS RX0 107 yX2_isOneAtATime wsX2_isOneAtATime) := goodIn_app (goodIn_of _ (by decide +kernel)) ggX0_isOneAtATime_X2_isOneAtATime
theorem dX0_isOneAtATime_0 : decode cX0_isOneAtATime 0 = .ok (.aload_n 0, 1) := by decide +kernel
theorem dX0_isOneAtATime_1 : decode cX0_isOneAtATime 1 = .ok (.getfield 14, 3) := by decide +kernel
theorem dX0_isOneAtATime_4 : decode cX0_isOneAtATime 4 = .ok (.iload_n 1, 1) := by decide +kernel
theorem dX0_isOneAtATime_5 : decode cX0_isOneAtATime 5 = .ok (.iconst 0, 1) := by decide +kernel
theorem dX0_isOneAtATime_6 : decode cX0_isOneAtATime 6 = .ok (.invokevirtual 104, 3) := by decide +kernel
theorem dX0_isOneAtATime_9 : decode cX0_isOneAtATime 9 = .ok (.invokestatic 107, 3) := by decide +kernel
theorem dX0_isOneAtATime_12 : decode cX0_isOneAtATime 12 = .ok (.ireturn, 1) := by decide +kernel
set_option maxRecDepth 20000 in
theorem ggX0_mayHave_X4_holds : GoodIn wsX0_mayHave wsX4_holds := goodIn_r _ [6, 7, 32, 33, 34, 35] (by decide +kernel) (by decide +kernel)
set_option maxRecDepth 20000 in
theorem gX0_mayHave_X4_holds : GoodIn wsX0_mayHave (wsV RX0 89 RX4 yX4_holds wsX4_holds) := goodIn_app (goodIn_of _ (by decide +kernel)) ggX0_mayHave_X4_holds
set_option maxRecDepth 20000 in
theorem ggX0_mayHave_X0_isOneAtATime : GoodIn wsX0_mayHave wsX0_isOneAtATime := goodIn_r _ [12, 1, 13, 14, 15, 5, 16, 7, 17, 18, 19, 20, 21, 22, 23, 24, 25, 26, 27, 28, 29, 30, 31, 32, 33, 34, 35] (by decide +kernel) (by decide +kernel)
set_option maxRecDepth 20000 in
theorem gX0_mayHave_X0_isOneAtATime : GoodIn wsX0_mayHave (wsV RX0 112 RX0 yX0_isOneAtATime wsX0_isOneAtATime) := goodIn_app (goodIn_of _ (by decide +kernel)) ggX0_mayHave_X0_isOneAtATime
set_option maxRecDepth 20000 in
theorem ggX0_mayHave_X4_at : GoodIn wsX0_mayHave wsX4_at := goodIn_r _ [16, 7, 17, 18, 32, 33, 34, 35] (by decide +kernel) (by decide +kernel)
set_option maxRecDepth 20000 in
theorem gX0_mayHave_X4_at : GoodIn wsX0_mayHave (wsV RX0 104 RX4 yX4_at wsX4_at) := goodIn_app (goodIn_of _ (by decide +kernel)) ggX0_mayHave_X4_at
theorem dX0_mayHave_0 : decode cX0_mayHave 0 = .ok (.aload_n 0, 1) := by decide +kernel
theorem dX0_mayHave_1 : decode cX0_mayHave 1 = .ok (.getfield 14, 3) := by decide +kernel
theorem dX0_mayHave_4 : decode cX0_mayHave 4 = .ok (.iload_n 1, 1) := by decide +kernel
theorem dX0_mayHave_5 : decode cX0_mayHave 5 = .ok (.invokevirtual 89, 3) := by decide +kernel
theorem dX0_mayHave_8 : decode cX0_mayHave 8 = .ok (.ifCond .eq 15, 3) := by decide +kernel
theorem dX0_mayHave_11 : decode cX0_mayHave 11 = .ok (.aload_n 0, 1) := by decide +kernel
theorem dX0_mayHave_12 : decode cX0_mayHave 12 = .ok (.iload_n 1, 1) := by decide +kernel
theorem dX0_mayHave_13 : decode cX0_mayHave 13 = .ok (.invokevirtual 112, 3) := by decide +kernel
theorem dX0_mayHave_16 : decode cX0_mayHave 16 = .ok (.ifCond .eq 7, 3) := by decide +kernel
theorem dX0_mayHave_19 : decode cX0_mayHave 19 = .ok (.iconst 1, 1) := by decide +kernel
theorem dX0_mayHave_20 : decode cX0_mayHave 20 = .ok (.goto 12, 3) := by decide +kernel
theorem dX0_mayHave_23 : decode cX0_mayHave 23 = .ok (.aload_n 0, 1) := by decide +kernel
theorem dX0_mayHave_24 : decode cX0_mayHave 24 = .ok (.getfield 14, 3) := by decide +kernel
theorem dX0_mayHave_27 : decode cX0_mayHave 27 = .ok (.iload_n 1, 1) := by decide +kernel
theorem dX0_mayHave_28 : decode cX0_mayHave 28 = .ok (.iconst 1, 1) := by decide +kernel
theorem dX0_mayHave_29 : decode cX0_mayHave 29 = .ok (.invokevirtual 104, 3) := by decide +kernel
theorem dX0_mayHave_32 : decode cX0_mayHave 32 = .ok (.ireturn, 1) := by decide +kernel
set_option maxRecDepth 20000 in
theorem ggX0_longest_X4_at : GoodIn wsX0_longest wsX4_at := goodIn_r _ [6, 7, 8, 9, 23, 24, 25, 26] (by decide +kernel) (by decide +kernel)
set_option maxRecDepth 20000 in
theorem gX0_longest_X4_at : GoodIn wsX0_longest (wsV RX0 104 RX4 yX4_at wsX4_at) := goodIn_app (goodIn_of _ (by decide +kernel)) ggX0_longest_X4_at
set_option maxRecDepth 20000 in
theorem ggX0_longest_X2_longest : GoodIn wsX0_longest wsX2_longest := goodIn_r _ [13] (by decide +kernel) (by decide +kernel)
set_option maxRecDepth 20000 in
theorem gX0_longest_X2_longest : GoodIn wsX0_longest (va_wsS RX0 113 yX2_longest wsX2_longest) := goodIn_app (goodIn_of _ (by decide +kernel)) ggX0_longest_X2_longest
theorem dX0_longest_0 : decode cX0_longest 0 = .ok (.aload_n 0, 1) := by decide +kernel
theorem dX0_longest_1 : decode cX0_longest 1 = .ok (.getfield 14, 3) := by decide +kernel
theorem dX0_longest_4 : decode cX0_longest 4 = .ok (.iload_n 1, 1) := by decide +kernel
theorem dX0_longest_5 : decode cX0_longest 5 = .ok (.iconst 0, 1) := by decide +kernel
theorem dX0_longest_6 : decode cX0_longest 6 = .ok (.invokevirtual 104, 3) := by decide +kernel
theorem dX0_longest_9 : decode cX0_longest 9 = .ok (.invokestatic 113, 3) := by decide +kernel
theorem dX0_longest_12 : decode cX0_longest 12 = .ok (.ireturn, 1) := by decide +kernel
set_option maxRecDepth 20000 in
theorem ggX0_price_X4_at : GoodIn wsX0_price wsX4_at := goodIn_r _ [6, 7, 8, 9, 26, 27, 28, 29] (by decide +kernel) (by decide +kernel)
set_option maxRecDepth 20000 in
theorem gX0_price_X4_at : GoodIn wsX0_price (wsV RX0 104 RX4 yX4_at wsX4_at) := goodIn_app (goodIn_of _ (by decide +kernel)) ggX0_price_X4_at
set_option maxRecDepth 20000 in
theorem ggX0_price_X2_price : GoodIn wsX0_price wsX2_price := goodIn_r _ [13, 14, 15, 12, 16] (by decide +kernel) (by decide +kernel)
set_option maxRecDepth 20000 in
theorem gX0_price_X2_price : GoodIn wsX0_price (va_wsS RX0 116 yX2_price wsX2_price) := goodIn_app (goodIn_of _ (by decide +kernel)) ggX0_price_X2_price
theorem dX0_price_0 : decode cX0_price 0 = .ok (.aload_n 0, 1) := by decide +kernel
theorem dX0_price_1 : decode cX0_price 1 = .ok (.getfield 14, 3) := by decide +kernel
theorem dX0_price_4 : decode cX0_price 4 = .ok (.iload_n 1, 1) := by decide +kernel
theorem dX0_price_5 : decode cX0_price 5 = .ok (.iconst 0, 1) := by decide +kernel
theorem dX0_price_6 : decode cX0_price 6 = .ok (.invokevirtual 104, 3) := by decide +kernel
theorem dX0_price_9 : decode cX0_price 9 = .ok (.aload_n 0, 1) := by decide +kernel
theorem dX0_price_10 : decode cX0_price 10 = .ok (.getfield 14, 3) := by decide +kernel
theorem dX0_price_13 : decode cX0_price 13 = .ok (.iload_n 1, 1) := by decide +kernel
theorem dX0_price_14 : decode cX0_price 14 = .ok (.iconst 2, 1) := by decide +kernel
theorem dX0_price_15 : decode cX0_price 15 = .ok (.invokevirtual 104, 3) := by decide +kernel
theorem dX0_price_18 : decode cX0_price 18 = .ok (.iload_n 2, 1) := by decide +kernel
theorem dX0_price_19 : decode cX0_price 19 = .ok (.invokestatic 116, 3) := by decide +kernel
theorem dX0_price_22 : decode cX0_price 22 = .ok (.ireturn, 1) := by decide +kernel
set_option maxRecDepth 20000 in
theorem ggX0_hoursOf_X4_at : GoodIn wsX0_hoursOf wsX4_at := goodIn_r _ [6, 7, 8, 9, 19, 20, 21, 22] (by decide +kernel) (by decide +kernel)
set_option maxRecDepth 20000 in
theorem gX0_hoursOf_X4_at : GoodIn wsX0_hoursOf (wsV RX0 104 RX4 yX4_at wsX4_at) := goodIn_app (goodIn_of _ (by decide +kernel)) ggX0_hoursOf_X4_at
theorem dX0_hoursOf_0 : decode cX0_hoursOf 0 = .ok (.aload_n 0, 1) := by decide +kernel
theorem dX0_hoursOf_1 : decode cX0_hoursOf 1 = .ok (.getfield 20, 3) := by decide +kernel
theorem dX0_hoursOf_4 : decode cX0_hoursOf 4 = .ok (.iload_n 1, 1) := by decide +kernel
theorem dX0_hoursOf_5 : decode cX0_hoursOf 5 = .ok (.iconst 3, 1) := by decide +kernel
theorem dX0_hoursOf_6 : decode cX0_hoursOf 6 = .ok (.invokevirtual 104, 3) := by decide +kernel
theorem dX0_hoursOf_9 : decode cX0_hoursOf 9 = .ok (.aload_n 0, 1) := by decide +kernel
theorem dX0_hoursOf_10 : decode cX0_hoursOf 10 = .ok (.getfield 20, 3) := by decide +kernel
theorem dX0_hoursOf_13 : decode cX0_hoursOf 13 = .ok (.iload_n 1, 1) := by decide +kernel
theorem dX0_hoursOf_14 : decode cX0_hoursOf 14 = .ok (.iconst 2, 1) := by decide +kernel
theorem dX0_hoursOf_15 : decode cX0_hoursOf 15 = .ok (.invokevirtual 104, 3) := by decide +kernel
theorem dX0_hoursOf_18 : decode cX0_hoursOf 18 = .ok (.isub, 1) := by decide +kernel
theorem dX0_hoursOf_19 : decode cX0_hoursOf 19 = .ok (.iconst 1, 1) := by decide +kernel
theorem dX0_hoursOf_20 : decode cX0_hoursOf 20 = .ok (.iadd, 1) := by decide +kernel
theorem dX0_hoursOf_21 : decode cX0_hoursOf 21 = .ok (.ireturn, 1) := by decide +kernel
set_option maxRecDepth 20000 in
theorem ggX0_isLentIn_X4_holds : GoodIn wsX0_isLentIn wsX4_holds := goodIn_r _ [6, 7, 23, 24, 25, 26] (by decide +kernel) (by decide +kernel)
set_option maxRecDepth 20000 in
theorem gX0_isLentIn_X4_holds : GoodIn wsX0_isLentIn (wsV RX0 89 RX4 yX4_holds wsX4_holds) := goodIn_app (goodIn_of _ (by decide +kernel)) ggX0_isLentIn_X4_holds
set_option maxRecDepth 20000 in
theorem ggX0_isLentIn_X4_at : GoodIn wsX0_isLentIn wsX4_at := goodIn_r _ [11, 7, 12, 13, 23, 24, 25, 26] (by decide +kernel) (by decide +kernel)
set_option maxRecDepth 20000 in
theorem gX0_isLentIn_X4_at : GoodIn wsX0_isLentIn (wsV RX0 104 RX4 yX4_at wsX4_at) := goodIn_app (goodIn_of _ (by decide +kernel)) ggX0_isLentIn_X4_at
theorem dX0_isLentIn_0 : decode cX0_isLentIn 0 = .ok (.aload_n 0, 1) := by decide +kernel
theorem dX0_isLentIn_1 : decode cX0_isLentIn 1 = .ok (.getfield 20, 3) := by decide +kernel
theorem dX0_isLentIn_4 : decode cX0_isLentIn 4 = .ok (.iload_n 1, 1) := by decide +kernel
theorem dX0_isLentIn_5 : decode cX0_isLentIn 5 = .ok (.invokevirtual 89, 3) := by decide +kernel
theorem dX0_isLentIn_8 : decode cX0_isLentIn 8 = .ok (.ifCond .eq 46, 3) := by decide +kernel
theorem dX0_isLentIn_11 : decode cX0_isLentIn 11 = .ok (.aload_n 0, 1) := by decide +kernel
theorem dX0_isLentIn_12 : decode cX0_isLentIn 12 = .ok (.getfield 20, 3) := by decide +kernel
theorem dX0_isLentIn_15 : decode cX0_isLentIn 15 = .ok (.iload_n 1, 1) := by decide +kernel
theorem dX0_isLentIn_16 : decode cX0_isLentIn 16 = .ok (.iconst 1, 1) := by decide +kernel
theorem dX0_isLentIn_17 : decode cX0_isLentIn 17 = .ok (.invokevirtual 104, 3) := by decide +kernel
theorem dX0_isLentIn_20 : decode cX0_isLentIn 20 = .ok (.iload_n 2, 1) := by decide +kernel
theorem dX0_isLentIn_21 : decode cX0_isLentIn 21 = .ok (.if_icmp .ne 33, 3) := by decide +kernel
theorem dX0_isLentIn_24 : decode cX0_isLentIn 24 = .ok (.aload_n 0, 1) := by decide +kernel
theorem dX0_isLentIn_25 : decode cX0_isLentIn 25 = .ok (.getfield 20, 3) := by decide +kernel
theorem dX0_isLentIn_28 : decode cX0_isLentIn 28 = .ok (.iload_n 1, 1) := by decide +kernel
theorem dX0_isLentIn_29 : decode cX0_isLentIn 29 = .ok (.iconst 2, 1) := by decide +kernel
theorem dX0_isLentIn_30 : decode cX0_isLentIn 30 = .ok (.invokevirtual 104, 3) := by decide +kernel
theorem dX0_isLentIn_33 : decode cX0_isLentIn 33 = .ok (.iload_n 3, 1) := by decide +kernel
theorem dX0_isLentIn_34 : decode cX0_isLentIn 34 = .ok (.if_icmp .gt 20, 3) := by decide +kernel
theorem dX0_isLentIn_37 : decode cX0_isLentIn 37 = .ok (.iload_n 3, 1) := by decide +kernel
theorem dX0_isLentIn_38 : decode cX0_isLentIn 38 = .ok (.aload_n 0, 1) := by decide +kernel
theorem dX0_isLentIn_39 : decode cX0_isLentIn 39 = .ok (.getfield 20, 3) := by decide +kernel
theorem dX0_isLentIn_42 : decode cX0_isLentIn 42 = .ok (.iload_n 1, 1) := by decide +kernel
theorem dX0_isLentIn_43 : decode cX0_isLentIn 43 = .ok (.iconst 3, 1) := by decide +kernel
theorem dX0_isLentIn_44 : decode cX0_isLentIn 44 = .ok (.invokevirtual 104, 3) := by decide +kernel
theorem dX0_isLentIn_47 : decode cX0_isLentIn 47 = .ok (.if_icmp .gt 7, 3) := by decide +kernel
theorem dX0_isLentIn_50 : decode cX0_isLentIn 50 = .ok (.iconst 1, 1) := by decide +kernel
theorem dX0_isLentIn_51 : decode cX0_isLentIn 51 = .ok (.goto 4, 3) := by decide +kernel
theorem dX0_isLentIn_54 : decode cX0_isLentIn 54 = .ok (.iconst 0, 1) := by decide +kernel
theorem dX0_isLentIn_55 : decode cX0_isLentIn 55 = .ok (.ireturn, 1) := by decide +kernel
set_option maxRecDepth 20000 in
theorem ggX0_lentIn_X0_isLentIn : GoodIn wsX0_lentIn wsX0_isLentIn := goodIn_r _ [5, 6, 7, 8, 9, 10, 11, 12, 13, 14, 15, 16, 17, 18, 19, 20, 21, 22, 23, 24, 25, 26, 27, 28, 29, 30, 31] (by decide +kernel) (by decide +kernel)
set_option maxRecDepth 20000 in
theorem gX0_lentIn_X0_isLentIn : GoodIn wsX0_lentIn (wsV RX0 120 RX0 yX0_isLentIn wsX0_isLentIn) := goodIn_app (goodIn_of _ (by decide +kernel)) ggX0_lentIn_X0_isLentIn
theorem dX0_lentIn_0 : decode cX0_lentIn 0 = .ok (.iconst 0, 1) := by decide +kernel
theorem dX0_lentIn_1 : decode cX0_lentIn 1 = .ok (.istore 4, 2) := by decide +kernel
theorem dX0_lentIn_3 : decode cX0_lentIn 3 = .ok (.iconst 0, 1) := by decide +kernel
theorem dX0_lentIn_4 : decode cX0_lentIn 4 = .ok (.istore 5, 2) := by decide +kernel
theorem dX0_lentIn_6 : decode cX0_lentIn 6 = .ok (.iload 5, 2) := by decide +kernel
theorem dX0_lentIn_8 : decode cX0_lentIn 8 = .ok (.iload_n 1, 1) := by decide +kernel
theorem dX0_lentIn_9 : decode cX0_lentIn 9 = .ok (.if_icmp .ge 23, 3) := by decide +kernel
theorem dX0_lentIn_12 : decode cX0_lentIn 12 = .ok (.aload_n 0, 1) := by decide +kernel
theorem dX0_lentIn_13 : decode cX0_lentIn 13 = .ok (.iload 5, 2) := by decide +kernel
theorem dX0_lentIn_15 : decode cX0_lentIn 15 = .ok (.iload_n 2, 1) := by decide +kernel
theorem dX0_lentIn_16 : decode cX0_lentIn 16 = .ok (.iload_n 3, 1) := by decide +kernel
theorem dX0_lentIn_17 : decode cX0_lentIn 17 = .ok (.invokevirtual 120, 3) := by decide +kernel
theorem dX0_lentIn_20 : decode cX0_lentIn 20 = .ok (.ifCond .eq 6, 3) := by decide +kernel
theorem dX0_lentIn_23 : decode cX0_lentIn 23 = .ok (.iinc 4 1, 3) := by decide +kernel
theorem dX0_lentIn_26 : decode cX0_lentIn 26 = .ok (.iinc 5 1, 3) := by decide +kernel
theorem dX0_lentIn_29 : decode cX0_lentIn 29 = .ok (.goto (-23), 3) := by decide +kernel
theorem dX0_lentIn_32 : decode cX0_lentIn 32 = .ok (.iload 4, 2) := by decide +kernel
theorem dX0_lentIn_34 : decode cX0_lentIn 34 = .ok (.ireturn, 1) := by decide +kernel
set_option maxRecDepth 20000 in
theorem ggX0_firstWrongLoan_X4_size : GoodIn wsX0_firstWrongLoan wsX4_size := goodIn_r _ [6, 7, 64, 65, 66, 67] (by decide +kernel) (by decide +kernel)
set_option maxRecDepth 20000 in
theorem gX0_firstWrongLoan_X4_size : GoodIn wsX0_firstWrongLoan (wsV RX0 70 RX4 yX4_size wsX4_size) := goodIn_app (goodIn_of _ (by decide +kernel)) ggX0_firstWrongLoan_X4_size
set_option maxRecDepth 20000 in
theorem ggX0_firstWrongLoan_X0_isWrong : GoodIn wsX0_firstWrongLoan wsX0_isWrong := goodIn_r _ [12, 1, 13, 14, 15, 5, 16, 7, 17, 18, 19, 20, 21, 11, 22, 23, 24, 25, 26, 27, 28, 29, 30, 31, 32, 33, 34, 35, 36, 37, 38, 39, 40, 41, 42, 43, 44, 45, 46, 47, 48, 49, 50, 51, 52, 53, 54, 55, 56, 57, 58, 59, 60, 61, 62, 63, 64, 65, 66, 67] (by decide +kernel) (by decide +kernel)
set_option maxRecDepth 20000 in
theorem gX0_firstWrongLoan_X0_isWrong : GoodIn wsX0_firstWrongLoan (wsV RX0 124 RX0 yX0_isWrong wsX0_isWrong) := goodIn_app (goodIn_of _ (by decide +kernel)) ggX0_firstWrongLoan_X0_isWrong
theorem dX0_firstWrongLoan_0 : decode cX0_firstWrongLoan 0 = .ok (.iconst 0, 1) := by decide +kernel
theorem dX0_firstWrongLoan_1 : decode cX0_firstWrongLoan 1 = .ok (.istore_n 1, 1) := by decide +kernel
theorem dX0_firstWrongLoan_2 : decode cX0_firstWrongLoan 2 = .ok (.iload_n 1, 1) := by decide +kernel
theorem dX0_firstWrongLoan_3 : decode cX0_firstWrongLoan 3 = .ok (.aload_n 0, 1) := by decide +kernel
theorem dX0_firstWrongLoan_4 : decode cX0_firstWrongLoan 4 = .ok (.getfield 20, 3) := by decide +kernel
theorem dX0_firstWrongLoan_7 : decode cX0_firstWrongLoan 7 = .ok (.invokevirtual 70, 3) := by decide +kernel
theorem dX0_firstWrongLoan_10 : decode cX0_firstWrongLoan 10 = .ok (.if_icmp .ge 19, 3) := by decide +kernel
theorem dX0_firstWrongLoan_13 : decode cX0_firstWrongLoan 13 = .ok (.aload_n 0, 1) := by decide +kernel
theorem dX0_firstWrongLoan_14 : decode cX0_firstWrongLoan 14 = .ok (.iload_n 1, 1) := by decide +kernel
theorem dX0_firstWrongLoan_15 : decode cX0_firstWrongLoan 15 = .ok (.invokevirtual 124, 3) := by decide +kernel
theorem dX0_firstWrongLoan_18 : decode cX0_firstWrongLoan 18 = .ok (.ifCond .eq 5, 3) := by decide +kernel
theorem dX0_firstWrongLoan_21 : decode cX0_firstWrongLoan 21 = .ok (.iload_n 1, 1) := by decide +kernel
theorem dX0_firstWrongLoan_22 : decode cX0_firstWrongLoan 22 = .ok (.ireturn, 1) := by decide +kernel
theorem dX0_firstWrongLoan_23 : decode cX0_firstWrongLoan 23 = .ok (.iinc 1 1, 3) := by decide +kernel
theorem dX0_firstWrongLoan_26 : decode cX0_firstWrongLoan 26 = .ok (.goto (-24), 3) := by decide +kernel
theorem dX0_firstWrongLoan_29 : decode cX0_firstWrongLoan 29 = .ok (.iconst (-1), 1) := by decide +kernel
theorem dX0_firstWrongLoan_30 : decode cX0_firstWrongLoan 30 = .ok (.ireturn, 1) := by decide +kernel
set_option maxRecDepth 20000 in
theorem ggX0_isWrong_X4_at : GoodIn wsX0_isWrong wsX4_at := goodIn_r _ [6, 7, 8, 9, 56, 57, 58, 59] (by decide +kernel) (by decide +kernel)
set_option maxRecDepth 20000 in
theorem gX0_isWrong_X4_at : GoodIn wsX0_isWrong (wsV RX0 104 RX4 yX4_at wsX4_at) := goodIn_app (goodIn_of _ (by decide +kernel)) ggX0_isWrong_X4_at
set_option maxRecDepth 20000 in
theorem ggX0_isWrong_X0_hoursOf : GoodIn wsX0_isWrong wsX0_hoursOf := goodIn_r _ [14, 1, 2, 3, 4, 5, 6, 7, 8, 9, 47, 48, 49, 50, 51, 52, 53, 54, 55, 56, 57, 58, 59] (by decide +kernel) (by decide +kernel)
set_option maxRecDepth 20000 in
theorem gX0_isWrong_X0_hoursOf : GoodIn wsX0_isWrong (wsV RX0 127 RX0 yX0_hoursOf wsX0_hoursOf) := goodIn_app (goodIn_of _ (by decide +kernel)) ggX0_isWrong_X0_hoursOf
set_option maxRecDepth 20000 in
theorem ggX0_isWrong_X0_longest : GoodIn wsX0_isWrong wsX0_longest := goodIn_r _ [18, 19, 2, 3, 4, 5, 6, 7, 8, 9, 20, 21, 22, 23, 47, 48, 49, 50, 51, 52, 53, 54, 55, 56, 57, 58, 59] (by decide +kernel) (by decide +kernel)
set_option maxRecDepth 20000 in
theorem gX0_isWrong_X0_longest : GoodIn wsX0_isWrong (wsV RX0 130 RX0 yX0_longest wsX0_longest) := goodIn_app (goodIn_of _ (by decide +kernel)) ggX0_isWrong_X0_longest
set_option maxRecDepth 20000 in
theorem ggX0_isWrong_X0_lentIn : GoodIn wsX0_isWrong wsX0_lentIn := goodIn_r _ [27, 28, 29, 30, 13, 31, 1, 32, 33, 34, 5, 35, 7, 2, 3, 4, 6, 8, 9, 47, 48, 49, 50, 51, 52, 53, 54, 55, 56, 57, 58, 59] (by decide +kernel) (by decide +kernel)
set_option maxRecDepth 20000 in
theorem gX0_isWrong_X0_lentIn : GoodIn wsX0_isWrong (wsV RX0 131 RX0 yX0_lentIn wsX0_lentIn) := goodIn_app (goodIn_of _ (by decide +kernel)) ggX0_isWrong_X0_lentIn
set_option maxRecDepth 20000 in
theorem ggX0_isWrong_X0_mayHave : GoodIn wsX0_isWrong wsX0_mayHave := goodIn_r _ [39, 19, 32, 33, 34, 5, 35, 7, 40, 41, 42, 13, 43, 2, 3, 4, 6, 8, 9, 44, 45, 22, 46, 47, 48, 49, 50, 51, 52, 53, 54, 55, 56, 57, 58, 59] (by decide +kernel) (by decide +kernel)
set_option maxRecDepth 20000 in
theorem gX0_isWrong_X0_mayHave : GoodIn wsX0_isWrong (wsV RX0 134 RX0 yX0_mayHave wsX0_mayHave) := goodIn_app (goodIn_of _ (by decide +kernel)) ggX0_isWrong_X0_mayHave
theorem dX0_isWrong_0 : decode cX0_isWrong 0 = .ok (.aload_n 0, 1) := by decide +kernel
theorem dX0_isWrong_1 : decode cX0_isWrong 1 = .ok (.getfield 20, 3) := by decide +kernel
theorem dX0_isWrong_4 : decode cX0_isWrong 4 = .ok (.iload_n 1, 1) := by decide +kernel
theorem dX0_isWrong_5 : decode cX0_isWrong 5 = .ok (.iconst 1, 1) := by decide +kernel
theorem dX0_isWrong_6 : decode cX0_isWrong 6 = .ok (.invokevirtual 104, 3) := by decide +kernel
theorem dX0_isWrong_9 : decode cX0_isWrong 9 = .ok (.istore_n 2, 1) := by decide +kernel
theorem dX0_isWrong_10 : decode cX0_isWrong 10 = .ok (.aload_n 0, 1) := by decide +kernel
theorem dX0_isWrong_11 : decode cX0_isWrong 11 = .ok (.iload_n 1, 1) := by decide +kernel
theorem dX0_isWrong_12 : decode cX0_isWrong 12 = .ok (.invokevirtual 127, 3) := by decide +kernel
theorem dX0_isWrong_15 : decode cX0_isWrong 15 = .ok (.aload_n 0, 1) := by decide +kernel
theorem dX0_isWrong_16 : decode cX0_isWrong 16 = .ok (.iload_n 2, 1) := by decide +kernel
theorem dX0_isWrong_17 : decode cX0_isWrong 17 = .ok (.invokevirtual 130, 3) := by decide +kernel
theorem dX0_isWrong_20 : decode cX0_isWrong 20 = .ok (.if_icmp .le 5, 3) := by decide +kernel
theorem dX0_isWrong_23 : decode cX0_isWrong 23 = .ok (.iconst 1, 1) := by decide +kernel
theorem dX0_isWrong_24 : decode cX0_isWrong 24 = .ok (.ireturn, 1) := by decide +kernel
theorem dX0_isWrong_25 : decode cX0_isWrong 25 = .ok (.aload_n 0, 1) := by decide +kernel
theorem dX0_isWrong_26 : decode cX0_isWrong 26 = .ok (.getfield 20, 3) := by decide +kernel
theorem dX0_isWrong_29 : decode cX0_isWrong 29 = .ok (.iload_n 1, 1) := by decide +kernel
theorem dX0_isWrong_30 : decode cX0_isWrong 30 = .ok (.iconst 2, 1) := by decide +kernel
theorem dX0_isWrong_31 : decode cX0_isWrong 31 = .ok (.invokevirtual 104, 3) := by decide +kernel
theorem dX0_isWrong_34 : decode cX0_isWrong 34 = .ok (.istore_n 3, 1) := by decide +kernel
theorem dX0_isWrong_35 : decode cX0_isWrong 35 = .ok (.iload_n 3, 1) := by decide +kernel
theorem dX0_isWrong_36 : decode cX0_isWrong 36 = .ok (.aload_n 0, 1) := by decide +kernel
theorem dX0_isWrong_37 : decode cX0_isWrong 37 = .ok (.getfield 20, 3) := by decide +kernel
theorem dX0_isWrong_40 : decode cX0_isWrong 40 = .ok (.iload_n 1, 1) := by decide +kernel
theorem dX0_isWrong_41 : decode cX0_isWrong 41 = .ok (.iconst 3, 1) := by decide +kernel
theorem dX0_isWrong_42 : decode cX0_isWrong 42 = .ok (.invokevirtual 104, 3) := by decide +kernel
theorem dX0_isWrong_45 : decode cX0_isWrong 45 = .ok (.if_icmp .gt 28, 3) := by decide +kernel
theorem dX0_isWrong_48 : decode cX0_isWrong 48 = .ok (.aload_n 0, 1) := by decide +kernel
theorem dX0_isWrong_49 : decode cX0_isWrong 49 = .ok (.iload_n 1, 1) := by decide +kernel
theorem dX0_isWrong_50 : decode cX0_isWrong 50 = .ok (.iconst 1, 1) := by decide +kernel
theorem dX0_isWrong_51 : decode cX0_isWrong 51 = .ok (.iadd, 1) := by decide +kernel
theorem dX0_isWrong_52 : decode cX0_isWrong 52 = .ok (.iload_n 2, 1) := by decide +kernel
theorem dX0_isWrong_53 : decode cX0_isWrong 53 = .ok (.iload_n 3, 1) := by decide +kernel
theorem dX0_isWrong_54 : decode cX0_isWrong 54 = .ok (.invokevirtual 131, 3) := by decide +kernel
theorem dX0_isWrong_57 : decode cX0_isWrong 57 = .ok (.aload_n 0, 1) := by decide +kernel
theorem dX0_isWrong_58 : decode cX0_isWrong 58 = .ok (.iload_n 2, 1) := by decide +kernel
theorem dX0_isWrong_59 : decode cX0_isWrong 59 = .ok (.invokevirtual 134, 3) := by decide +kernel
theorem dX0_isWrong_62 : decode cX0_isWrong 62 = .ok (.if_icmp .le 5, 3) := by decide +kernel
theorem dX0_isWrong_65 : decode cX0_isWrong 65 = .ok (.iconst 1, 1) := by decide +kernel
theorem dX0_isWrong_66 : decode cX0_isWrong 66 = .ok (.ireturn, 1) := by decide +kernel
theorem dX0_isWrong_67 : decode cX0_isWrong 67 = .ok (.iinc 3 1, 3) := by decide +kernel
theorem dX0_isWrong_70 : decode cX0_isWrong 70 = .ok (.goto (-35), 3) := by decide +kernel
theorem dX0_isWrong_73 : decode cX0_isWrong 73 = .ok (.iconst 0, 1) := by decide +kernel
theorem dX0_isWrong_74 : decode cX0_isWrong 74 = .ok (.ireturn, 1) := by decide +kernel
set_option maxRecDepth 20000 in
theorem ggX0_termsIn_X4_size : GoodIn wsX0_termsIn wsX4_size := goodIn_r _ [7, 8, 49, 50, 51, 52] (by decide +kernel) (by decide +kernel)
set_option maxRecDepth 20000 in
theorem gX0_termsIn_X4_size : GoodIn wsX0_termsIn (wsV RX0 70 RX4 yX4_size wsX4_size) := goodIn_app (goodIn_of _ (by decide +kernel)) ggX0_termsIn_X4_size
set_option maxRecDepth 20000 in
theorem ggX0_termsIn_X0_lentIn : GoodIn wsX0_termsIn wsX0_lentIn := goodIn_r _ [13, 14, 15, 16, 12, 17, 2, 18, 19, 20, 6, 21, 8, 22, 23, 24, 25, 26, 27, 40, 41, 42, 43, 44, 45, 46, 47, 48, 49, 50, 51, 52] (by decide +kernel) (by decide +kernel)
set_option maxRecDepth 20000 in
theorem gX0_termsIn_X0_lentIn : GoodIn wsX0_termsIn (wsV RX0 131 RX0 yX0_lentIn wsX0_lentIn) := goodIn_app (goodIn_of _ (by decide +kernel)) ggX0_termsIn_X0_lentIn
set_option maxRecDepth 20000 in
theorem ggX0_termsIn_X0_mayHave : GoodIn wsX0_termsIn wsX0_mayHave := goodIn_r _ [31, 1, 18, 19, 20, 6, 21, 8, 32, 33, 34, 12, 35, 22, 23, 24, 25, 26, 27, 36, 37, 38, 39, 40, 41, 42, 43, 44, 45, 46, 47, 48, 49, 50, 51, 52] (by decide +kernel) (by decide +kernel)
set_option maxRecDepth 20000 in
theorem gX0_termsIn_X0_mayHave : GoodIn wsX0_termsIn (wsV RX0 134 RX0 yX0_mayHave wsX0_mayHave) := goodIn_app (goodIn_of _ (by decide +kernel)) ggX0_termsIn_X0_mayHave
theorem dX0_termsIn_0 : decode cX0_termsIn 0 = .ok (.iconst 0, 1) := by decide +kernel
theorem dX0_termsIn_1 : decode cX0_termsIn 1 = .ok (.istore_n 2, 1) := by decide +kernel
theorem dX0_termsIn_2 : decode cX0_termsIn 2 = .ok (.iconst 0, 1) := by decide +kernel
theorem dX0_termsIn_3 : decode cX0_termsIn 3 = .ok (.istore_n 3, 1) := by decide +kernel
theorem dX0_termsIn_4 : decode cX0_termsIn 4 = .ok (.iload_n 3, 1) := by decide +kernel
theorem dX0_termsIn_5 : decode cX0_termsIn 5 = .ok (.aload_n 0, 1) := by decide +kernel
theorem dX0_termsIn_6 : decode cX0_termsIn 6 = .ok (.getfield 14, 3) := by decide +kernel
theorem dX0_termsIn_9 : decode cX0_termsIn 9 = .ok (.invokevirtual 70, 3) := by decide +kernel
theorem dX0_termsIn_12 : decode cX0_termsIn 12 = .ok (.if_icmp .ge 36, 3) := by decide +kernel
theorem dX0_termsIn_15 : decode cX0_termsIn 15 = .ok (.aload_n 0, 1) := by decide +kernel
theorem dX0_termsIn_16 : decode cX0_termsIn 16 = .ok (.aload_n 0, 1) := by decide +kernel
theorem dX0_termsIn_17 : decode cX0_termsIn 17 = .ok (.getfield 20, 3) := by decide +kernel
theorem dX0_termsIn_20 : decode cX0_termsIn 20 = .ok (.invokevirtual 70, 3) := by decide +kernel
theorem dX0_termsIn_23 : decode cX0_termsIn 23 = .ok (.iload_n 3, 1) := by decide +kernel
theorem dX0_termsIn_24 : decode cX0_termsIn 24 = .ok (.iload_n 1, 1) := by decide +kernel
theorem dX0_termsIn_25 : decode cX0_termsIn 25 = .ok (.invokevirtual 131, 3) := by decide +kernel
theorem dX0_termsIn_28 : decode cX0_termsIn 28 = .ok (.aload_n 0, 1) := by decide +kernel
theorem dX0_termsIn_29 : decode cX0_termsIn 29 = .ok (.iload_n 3, 1) := by decide +kernel
theorem dX0_termsIn_30 : decode cX0_termsIn 30 = .ok (.invokevirtual 134, 3) := by decide +kernel
theorem dX0_termsIn_33 : decode cX0_termsIn 33 = .ok (.if_icmp .ge 9, 3) := by decide +kernel
theorem dX0_termsIn_36 : decode cX0_termsIn 36 = .ok (.iload_n 2, 1) := by decide +kernel
theorem dX0_termsIn_37 : decode cX0_termsIn 37 = .ok (.iconst 1, 1) := by decide +kernel
theorem dX0_termsIn_38 : decode cX0_termsIn 38 = .ok (.iload_n 3, 1) := by decide +kernel
theorem dX0_termsIn_39 : decode cX0_termsIn 39 = .ok (.ishl, 1) := by decide +kernel
theorem dX0_termsIn_40 : decode cX0_termsIn 40 = .ok (.ior, 1) := by decide +kernel
theorem dX0_termsIn_41 : decode cX0_termsIn 41 = .ok (.istore_n 2, 1) := by decide +kernel
theorem dX0_termsIn_42 : decode cX0_termsIn 42 = .ok (.iinc 3 1, 3) := by decide +kernel
theorem dX0_termsIn_45 : decode cX0_termsIn 45 = .ok (.goto (-41), 3) := by decide +kernel
theorem dX0_termsIn_48 : decode cX0_termsIn 48 = .ok (.iload_n 2, 1) := by decide +kernel
theorem dX0_termsIn_49 : decode cX0_termsIn 49 = .ok (.ireturn, 1) := by decide +kernel
set_option maxRecDepth 20000 in
theorem ggX0_billOf_X4_size : GoodIn wsX0_billOf wsX4_size := goodIn_r _ [6, 7, 40, 41, 42, 43] (by decide +kernel) (by decide +kernel)
set_option maxRecDepth 20000 in
theorem gX0_billOf_X4_size : GoodIn wsX0_billOf (wsV RX0 70 RX4 yX4_size wsX4_size) := goodIn_app (goodIn_of _ (by decide +kernel)) ggX0_billOf_X4_size
set_option maxRecDepth 20000 in
theorem ggX0_billOf_X4_at : GoodIn wsX0_billOf wsX4_at := goodIn_r _ [11, 7, 12, 13, 40, 41, 42, 43] (by decide +kernel) (by decide +kernel)
set_option maxRecDepth 20000 in
theorem gX0_billOf_X4_at : GoodIn wsX0_billOf (wsV RX0 104 RX4 yX4_at wsX4_at) := goodIn_app (goodIn_of _ (by decide +kernel)) ggX0_billOf_X4_at
set_option maxRecDepth 20000 in
theorem ggX0_billOf_X0_hoursOf : GoodIn wsX0_billOf wsX0_hoursOf := goodIn_r _ [18, 1, 8, 9, 10, 5, 11, 7, 12, 13, 31, 32, 33, 34, 35, 36, 37, 38, 39, 40, 41, 42, 43] (by decide +kernel) (by decide +kernel)
set_option maxRecDepth 20000 in
theorem gX0_billOf_X0_hoursOf : GoodIn wsX0_billOf (wsV RX0 127 RX0 yX0_hoursOf wsX0_hoursOf) := goodIn_app (goodIn_of _ (by decide +kernel)) ggX0_billOf_X0_hoursOf
set_option maxRecDepth 20000 in
theorem ggX0_billOf_X0_price : GoodIn wsX0_billOf wsX0_price := goodIn_r _ [22, 23, 8, 9, 10, 5, 11, 7, 12, 13, 24, 25, 26, 27, 28, 29, 30, 31, 32, 33, 34, 35, 36, 37, 38, 39, 40, 41, 42, 43] (by decide +kernel) (by decide +kernel)
set_option maxRecDepth 20000 in
theorem gX0_billOf_X0_price : GoodIn wsX0_billOf (wsV RX0 137 RX0 yX0_price wsX0_price) := goodIn_app (goodIn_of _ (by decide +kernel)) ggX0_billOf_X0_price
theorem dX0_billOf_0 : decode cX0_billOf 0 = .ok (.iconst 0, 1) := by decide +kernel
theorem dX0_billOf_1 : decode cX0_billOf 1 = .ok (.istore_n 2, 1) := by decide +kernel
theorem dX0_billOf_2 : decode cX0_billOf 2 = .ok (.iconst 0, 1) := by decide +kernel
theorem dX0_billOf_3 : decode cX0_billOf 3 = .ok (.istore_n 3, 1) := by decide +kernel
theorem dX0_billOf_4 : decode cX0_billOf 4 = .ok (.iload_n 3, 1) := by decide +kernel
theorem dX0_billOf_5 : decode cX0_billOf 5 = .ok (.aload_n 0, 1) := by decide +kernel
theorem dX0_billOf_6 : decode cX0_billOf 6 = .ok (.getfield 20, 3) := by decide +kernel
theorem dX0_billOf_9 : decode cX0_billOf 9 = .ok (.invokevirtual 70, 3) := by decide +kernel
theorem dX0_billOf_12 : decode cX0_billOf 12 = .ok (.if_icmp .ge 43, 3) := by decide +kernel
theorem dX0_billOf_15 : decode cX0_billOf 15 = .ok (.aload_n 0, 1) := by decide +kernel
theorem dX0_billOf_16 : decode cX0_billOf 16 = .ok (.getfield 20, 3) := by decide +kernel
theorem dX0_billOf_19 : decode cX0_billOf 19 = .ok (.iload_n 3, 1) := by decide +kernel
theorem dX0_billOf_20 : decode cX0_billOf 20 = .ok (.iconst 0, 1) := by decide +kernel
theorem dX0_billOf_21 : decode cX0_billOf 21 = .ok (.invokevirtual 104, 3) := by decide +kernel
theorem dX0_billOf_24 : decode cX0_billOf 24 = .ok (.iload_n 1, 1) := by decide +kernel
theorem dX0_billOf_25 : decode cX0_billOf 25 = .ok (.if_icmp .ne 24, 3) := by decide +kernel
theorem dX0_billOf_28 : decode cX0_billOf 28 = .ok (.iload_n 2, 1) := by decide +kernel
theorem dX0_billOf_29 : decode cX0_billOf 29 = .ok (.aload_n 0, 1) := by decide +kernel
theorem dX0_billOf_30 : decode cX0_billOf 30 = .ok (.aload_n 0, 1) := by decide +kernel
theorem dX0_billOf_31 : decode cX0_billOf 31 = .ok (.getfield 20, 3) := by decide +kernel
theorem dX0_billOf_34 : decode cX0_billOf 34 = .ok (.iload_n 3, 1) := by decide +kernel
theorem dX0_billOf_35 : decode cX0_billOf 35 = .ok (.iconst 1, 1) := by decide +kernel
theorem dX0_billOf_36 : decode cX0_billOf 36 = .ok (.invokevirtual 104, 3) := by decide +kernel
theorem dX0_billOf_39 : decode cX0_billOf 39 = .ok (.aload_n 0, 1) := by decide +kernel
theorem dX0_billOf_40 : decode cX0_billOf 40 = .ok (.iload_n 3, 1) := by decide +kernel
theorem dX0_billOf_41 : decode cX0_billOf 41 = .ok (.invokevirtual 127, 3) := by decide +kernel
theorem dX0_billOf_44 : decode cX0_billOf 44 = .ok (.invokevirtual 137, 3) := by decide +kernel
theorem dX0_billOf_47 : decode cX0_billOf 47 = .ok (.iadd, 1) := by decide +kernel
theorem dX0_billOf_48 : decode cX0_billOf 48 = .ok (.istore_n 2, 1) := by decide +kernel
theorem dX0_billOf_49 : decode cX0_billOf 49 = .ok (.iinc 3 1, 3) := by decide +kernel
theorem dX0_billOf_52 : decode cX0_billOf 52 = .ok (.goto (-48), 3) := by decide +kernel
theorem dX0_billOf_55 : decode cX0_billOf 55 = .ok (.iload_n 2, 1) := by decide +kernel
theorem dX0_billOf_56 : decode cX0_billOf 56 = .ok (.ireturn, 1) := by decide +kernel
set_option maxRecDepth 20000 in
theorem ggX0_firstWithoutLoan_X4_size : GoodIn wsX0_firstWithoutLoan wsX4_size := goodIn_r _ [6, 7, 37, 38, 39, 40] (by decide +kernel) (by decide +kernel)
set_option maxRecDepth 20000 in
theorem gX0_firstWithoutLoan_X4_size : GoodIn wsX0_firstWithoutLoan (wsV RX0 70 RX4 yX4_size wsX4_size) := goodIn_app (goodIn_of _ (by decide +kernel)) ggX0_firstWithoutLoan_X4_size
set_option maxRecDepth 20000 in
theorem ggX0_firstWithoutLoan_X4_at : GoodIn wsX0_firstWithoutLoan wsX4_at := goodIn_r _ [11, 7, 12, 13, 37, 38, 39, 40] (by decide +kernel) (by decide +kernel)
set_option maxRecDepth 20000 in
theorem gX0_firstWithoutLoan_X4_at : GoodIn wsX0_firstWithoutLoan (wsV RX0 104 RX4 yX4_at wsX4_at) := goodIn_app (goodIn_of _ (by decide +kernel)) ggX0_firstWithoutLoan_X4_at
set_option maxRecDepth 20000 in
theorem ggX0_firstWithoutLoan_X0_hadLoan : GoodIn wsX0_firstWithoutLoan wsX0_hadLoan := goodIn_r _ [18, 19, 2, 3, 4, 5, 6, 7, 8, 9, 10, 11, 12, 13, 20, 21, 22, 17, 23, 24, 25, 26, 27, 28, 29, 30, 31, 32, 33, 34, 35, 36, 37, 38, 39, 40] (by decide +kernel) (by decide +kernel)
set_option maxRecDepth 20000 in
theorem gX0_firstWithoutLoan_X0_hadLoan : GoodIn wsX0_firstWithoutLoan (wsV RX0 139 RX0 yX0_hadLoan wsX0_hadLoan) := goodIn_app (goodIn_of _ (by decide +kernel)) ggX0_firstWithoutLoan_X0_hadLoan
theorem dX0_firstWithoutLoan_0 : decode cX0_firstWithoutLoan 0 = .ok (.iconst 0, 1) := by decide +kernel
theorem dX0_firstWithoutLoan_1 : decode cX0_firstWithoutLoan 1 = .ok (.istore_n 1, 1) := by decide +kernel
theorem dX0_firstWithoutLoan_2 : decode cX0_firstWithoutLoan 2 = .ok (.iload_n 1, 1) := by decide +kernel
theorem dX0_firstWithoutLoan_3 : decode cX0_firstWithoutLoan 3 = .ok (.aload_n 0, 1) := by decide +kernel
theorem dX0_firstWithoutLoan_4 : decode cX0_firstWithoutLoan 4 = .ok (.getfield 23, 3) := by decide +kernel
theorem dX0_firstWithoutLoan_7 : decode cX0_firstWithoutLoan 7 = .ok (.invokevirtual 70, 3) := by decide +kernel
theorem dX0_firstWithoutLoan_10 : decode cX0_firstWithoutLoan 10 = .ok (.if_icmp .ge 45, 3) := by decide +kernel
theorem dX0_firstWithoutLoan_13 : decode cX0_firstWithoutLoan 13 = .ok (.aload_n 0, 1) := by decide +kernel
theorem dX0_firstWithoutLoan_14 : decode cX0_firstWithoutLoan 14 = .ok (.aload_n 0, 1) := by decide +kernel
theorem dX0_firstWithoutLoan_15 : decode cX0_firstWithoutLoan 15 = .ok (.getfield 23, 3) := by decide +kernel
theorem dX0_firstWithoutLoan_18 : decode cX0_firstWithoutLoan 18 = .ok (.iload_n 1, 1) := by decide +kernel
theorem dX0_firstWithoutLoan_19 : decode cX0_firstWithoutLoan 19 = .ok (.iconst 0, 1) := by decide +kernel
theorem dX0_firstWithoutLoan_20 : decode cX0_firstWithoutLoan 20 = .ok (.invokevirtual 104, 3) := by decide +kernel
theorem dX0_firstWithoutLoan_23 : decode cX0_firstWithoutLoan 23 = .ok (.aload_n 0, 1) := by decide +kernel
theorem dX0_firstWithoutLoan_24 : decode cX0_firstWithoutLoan 24 = .ok (.getfield 23, 3) := by decide +kernel
theorem dX0_firstWithoutLoan_27 : decode cX0_firstWithoutLoan 27 = .ok (.iload_n 1, 1) := by decide +kernel
theorem dX0_firstWithoutLoan_28 : decode cX0_firstWithoutLoan 28 = .ok (.iconst 1, 1) := by decide +kernel
theorem dX0_firstWithoutLoan_29 : decode cX0_firstWithoutLoan 29 = .ok (.invokevirtual 104, 3) := by decide +kernel
theorem dX0_firstWithoutLoan_32 : decode cX0_firstWithoutLoan 32 = .ok (.aload_n 0, 1) := by decide +kernel
theorem dX0_firstWithoutLoan_33 : decode cX0_firstWithoutLoan 33 = .ok (.getfield 23, 3) := by decide +kernel
theorem dX0_firstWithoutLoan_36 : decode cX0_firstWithoutLoan 36 = .ok (.iload_n 1, 1) := by decide +kernel
theorem dX0_firstWithoutLoan_37 : decode cX0_firstWithoutLoan 37 = .ok (.iconst 2, 1) := by decide +kernel
theorem dX0_firstWithoutLoan_38 : decode cX0_firstWithoutLoan 38 = .ok (.invokevirtual 104, 3) := by decide +kernel
theorem dX0_firstWithoutLoan_41 : decode cX0_firstWithoutLoan 41 = .ok (.invokevirtual 139, 3) := by decide +kernel
theorem dX0_firstWithoutLoan_44 : decode cX0_firstWithoutLoan 44 = .ok (.ifCond .ne 5, 3) := by decide +kernel
theorem dX0_firstWithoutLoan_47 : decode cX0_firstWithoutLoan 47 = .ok (.iload_n 1, 1) := by decide +kernel
theorem dX0_firstWithoutLoan_48 : decode cX0_firstWithoutLoan 48 = .ok (.ireturn, 1) := by decide +kernel
theorem dX0_firstWithoutLoan_49 : decode cX0_firstWithoutLoan 49 = .ok (.iinc 1 1, 3) := by decide +kernel
theorem dX0_firstWithoutLoan_52 : decode cX0_firstWithoutLoan 52 = .ok (.goto (-50), 3) := by decide +kernel
theorem dX0_firstWithoutLoan_55 : decode cX0_firstWithoutLoan 55 = .ok (.iconst (-1), 1) := by decide +kernel
theorem dX0_firstWithoutLoan_56 : decode cX0_firstWithoutLoan 56 = .ok (.ireturn, 1) := by decide +kernel
set_option maxRecDepth 20000 in
theorem ggX0_hadLoan_X4_size : GoodIn wsX0_hadLoan wsX4_size := goodIn_r _ [6, 7, 32, 33, 34, 35] (by decide +kernel) (by decide +kernel)
set_option maxRecDepth 20000 in
theorem gX0_hadLoan_X4_size : GoodIn wsX0_hadLoan (wsV RX0 70 RX4 yX4_size wsX4_size) := goodIn_app (goodIn_of _ (by decide +kernel)) ggX0_hadLoan_X4_size
set_option maxRecDepth 20000 in
theorem ggX0_hadLoan_X4_at : GoodIn wsX0_hadLoan wsX4_at := goodIn_r _ [11, 7, 12, 13, 32, 33, 34, 35] (by decide +kernel) (by decide +kernel)
set_option maxRecDepth 20000 in
theorem gX0_hadLoan_X4_at : GoodIn wsX0_hadLoan (wsV RX0 104 RX4 yX4_at wsX4_at) := goodIn_app (goodIn_of _ (by decide +kernel)) ggX0_hadLoan_X4_at
set_option maxRecDepth 20000 in
theorem ggX0_hadLoan_X0_isLentIn : GoodIn wsX0_hadLoan wsX0_isLentIn := goodIn_r _ [18, 1, 19, 20, 21, 5, 22, 7, 8, 9, 10, 11, 12, 13, 23, 24, 25, 26, 27, 28, 29, 30, 31, 32, 33, 34, 35] (by decide +kernel) (by decide +kernel)
set_option maxRecDepth 20000 in
theorem gX0_hadLoan_X0_isLentIn : GoodIn wsX0_hadLoan (wsV RX0 120 RX0 yX0_isLentIn wsX0_isLentIn) := goodIn_app (goodIn_of _ (by decide +kernel)) ggX0_hadLoan_X0_isLentIn
theorem dX0_hadLoan_0 : decode cX0_hadLoan 0 = .ok (.iconst 0, 1) := by decide +kernel
theorem dX0_hadLoan_1 : decode cX0_hadLoan 1 = .ok (.istore 4, 2) := by decide +kernel
theorem dX0_hadLoan_3 : decode cX0_hadLoan 3 = .ok (.iload 4, 2) := by decide +kernel
theorem dX0_hadLoan_5 : decode cX0_hadLoan 5 = .ok (.aload_n 0, 1) := by decide +kernel
theorem dX0_hadLoan_6 : decode cX0_hadLoan 6 = .ok (.getfield 20, 3) := by decide +kernel
theorem dX0_hadLoan_9 : decode cX0_hadLoan 9 = .ok (.invokevirtual 70, 3) := by decide +kernel
theorem dX0_hadLoan_12 : decode cX0_hadLoan 12 = .ok (.if_icmp .ge 36, 3) := by decide +kernel
theorem dX0_hadLoan_15 : decode cX0_hadLoan 15 = .ok (.aload_n 0, 1) := by decide +kernel
theorem dX0_hadLoan_16 : decode cX0_hadLoan 16 = .ok (.getfield 20, 3) := by decide +kernel
theorem dX0_hadLoan_19 : decode cX0_hadLoan 19 = .ok (.iload 4, 2) := by decide +kernel
theorem dX0_hadLoan_21 : decode cX0_hadLoan 21 = .ok (.iconst 0, 1) := by decide +kernel
theorem dX0_hadLoan_22 : decode cX0_hadLoan 22 = .ok (.invokevirtual 104, 3) := by decide +kernel
theorem dX0_hadLoan_25 : decode cX0_hadLoan 25 = .ok (.iload_n 1, 1) := by decide +kernel
theorem dX0_hadLoan_26 : decode cX0_hadLoan 26 = .ok (.if_icmp .ne 16, 3) := by decide +kernel
theorem dX0_hadLoan_29 : decode cX0_hadLoan 29 = .ok (.aload_n 0, 1) := by decide +kernel
theorem dX0_hadLoan_30 : decode cX0_hadLoan 30 = .ok (.iload 4, 2) := by decide +kernel
theorem dX0_hadLoan_32 : decode cX0_hadLoan 32 = .ok (.iload_n 2, 1) := by decide +kernel
theorem dX0_hadLoan_33 : decode cX0_hadLoan 33 = .ok (.iload_n 3, 1) := by decide +kernel
theorem dX0_hadLoan_34 : decode cX0_hadLoan 34 = .ok (.invokevirtual 120, 3) := by decide +kernel
theorem dX0_hadLoan_37 : decode cX0_hadLoan 37 = .ok (.ifCond .eq 5, 3) := by decide +kernel
theorem dX0_hadLoan_40 : decode cX0_hadLoan 40 = .ok (.iconst 1, 1) := by decide +kernel
theorem dX0_hadLoan_41 : decode cX0_hadLoan 41 = .ok (.ireturn, 1) := by decide +kernel
theorem dX0_hadLoan_42 : decode cX0_hadLoan 42 = .ok (.iinc 4 1, 3) := by decide +kernel
theorem dX0_hadLoan_45 : decode cX0_hadLoan 45 = .ok (.goto (-42), 3) := by decide +kernel
theorem dX0_hadLoan_48 : decode cX0_hadLoan 48 = .ok (.iconst 0, 1) := by decide +kernel
theorem dX0_hadLoan_49 : decode cX0_hadLoan 49 = .ok (.ireturn, 1) := by decide +kernel
set_option maxRecDepth 20000 in
theorem ggX0_sayingsWith_X4_size : GoodIn wsX0_sayingsWith wsX4_size := goodIn_r _ [6, 7, 23, 24, 25, 26] (by decide +kernel) (by decide +kernel)
set_option maxRecDepth 20000 in
theorem gX0_sayingsWith_X4_size : GoodIn wsX0_sayingsWith (wsV RX0 70 RX4 yX4_size wsX4_size) := goodIn_app (goodIn_of _ (by decide +kernel)) ggX0_sayingsWith_X4_size
set_option maxRecDepth 20000 in
theorem ggX0_sayingsWith_X4_at : GoodIn wsX0_sayingsWith wsX4_at := goodIn_r _ [11, 7, 12, 13, 23, 24, 25, 26] (by decide +kernel) (by decide +kernel)
set_option maxRecDepth 20000 in
theorem gX0_sayingsWith_X4_at : GoodIn wsX0_sayingsWith (wsV RX0 104 RX4 yX4_at wsX4_at) := goodIn_app (goodIn_of _ (by decide +kernel)) ggX0_sayingsWith_X4_at
theorem dX0_sayingsWith_0 : decode cX0_sayingsWith 0 = .ok (.iconst 0, 1) := by decide +kernel
theorem dX0_sayingsWith_1 : decode cX0_sayingsWith 1 = .ok (.istore_n 2, 1) := by decide +kernel
theorem dX0_sayingsWith_2 : decode cX0_sayingsWith 2 = .ok (.iconst 0, 1) := by decide +kernel
theorem dX0_sayingsWith_3 : decode cX0_sayingsWith 3 = .ok (.istore_n 3, 1) := by decide +kernel
theorem dX0_sayingsWith_4 : decode cX0_sayingsWith 4 = .ok (.iload_n 3, 1) := by decide +kernel
theorem dX0_sayingsWith_5 : decode cX0_sayingsWith 5 = .ok (.aload_n 0, 1) := by decide +kernel
theorem dX0_sayingsWith_6 : decode cX0_sayingsWith 6 = .ok (.getfield 32, 3) := by decide +kernel
theorem dX0_sayingsWith_9 : decode cX0_sayingsWith 9 = .ok (.invokevirtual 70, 3) := by decide +kernel
theorem dX0_sayingsWith_12 : decode cX0_sayingsWith 12 = .ok (.if_icmp .ge 31, 3) := by decide +kernel
theorem dX0_sayingsWith_15 : decode cX0_sayingsWith 15 = .ok (.iload_n 1, 1) := by decide +kernel
theorem dX0_sayingsWith_16 : decode cX0_sayingsWith 16 = .ok (.aload_n 0, 1) := by decide +kernel
theorem dX0_sayingsWith_17 : decode cX0_sayingsWith 17 = .ok (.getfield 32, 3) := by decide +kernel
theorem dX0_sayingsWith_20 : decode cX0_sayingsWith 20 = .ok (.iload_n 3, 1) := by decide +kernel
theorem dX0_sayingsWith_21 : decode cX0_sayingsWith 21 = .ok (.iconst 0, 1) := by decide +kernel
theorem dX0_sayingsWith_22 : decode cX0_sayingsWith 22 = .ok (.invokevirtual 104, 3) := by decide +kernel
theorem dX0_sayingsWith_25 : decode cX0_sayingsWith 25 = .ok (.iconst (-1), 1) := by decide +kernel
theorem dX0_sayingsWith_26 : decode cX0_sayingsWith 26 = .ok (.ixor, 1) := by decide +kernel
theorem dX0_sayingsWith_27 : decode cX0_sayingsWith 27 = .ok (.iand, 1) := by decide +kernel
theorem dX0_sayingsWith_28 : decode cX0_sayingsWith 28 = .ok (.ifCond .ne 9, 3) := by decide +kernel
theorem dX0_sayingsWith_31 : decode cX0_sayingsWith 31 = .ok (.iload_n 2, 1) := by decide +kernel
theorem dX0_sayingsWith_32 : decode cX0_sayingsWith 32 = .ok (.iconst 1, 1) := by decide +kernel
theorem dX0_sayingsWith_33 : decode cX0_sayingsWith 33 = .ok (.iload_n 3, 1) := by decide +kernel
theorem dX0_sayingsWith_34 : decode cX0_sayingsWith 34 = .ok (.ishl, 1) := by decide +kernel
theorem dX0_sayingsWith_35 : decode cX0_sayingsWith 35 = .ok (.ior, 1) := by decide +kernel
theorem dX0_sayingsWith_36 : decode cX0_sayingsWith 36 = .ok (.istore_n 2, 1) := by decide +kernel
theorem dX0_sayingsWith_37 : decode cX0_sayingsWith 37 = .ok (.iinc 3 1, 3) := by decide +kernel
theorem dX0_sayingsWith_40 : decode cX0_sayingsWith 40 = .ok (.goto (-36), 3) := by decide +kernel
theorem dX0_sayingsWith_43 : decode cX0_sayingsWith 43 = .ok (.iload_n 2, 1) := by decide +kernel
theorem dX0_sayingsWith_44 : decode cX0_sayingsWith 44 = .ok (.ireturn, 1) := by decide +kernel
set_option maxRecDepth 20000 in
theorem ggX0_usedOf_X4_size : GoodIn wsX0_usedOf wsX4_size := goodIn_r _ [6, 7, 26, 27, 28, 29] (by decide +kernel) (by decide +kernel)
set_option maxRecDepth 20000 in
theorem gX0_usedOf_X4_size : GoodIn wsX0_usedOf (wsV RX0 70 RX4 yX4_size wsX4_size) := goodIn_app (goodIn_of _ (by decide +kernel)) ggX0_usedOf_X4_size
set_option maxRecDepth 20000 in
theorem ggX0_usedOf_X8_hasBit : GoodIn wsX0_usedOf wsX8_hasBit := goodIn_r _ [10] (by decide +kernel) (by decide +kernel)
set_option maxRecDepth 20000 in
theorem gX0_usedOf_X8_hasBit_n142 : GoodIn wsX0_usedOf (wsX8_hasBit) := ggX0_usedOf_X8_hasBit
set_option maxRecDepth 20000 in
theorem ggX0_usedOf_X4_at : GoodIn wsX0_usedOf wsX4_at := goodIn_r _ [14, 7, 15, 16, 26, 27, 28, 29] (by decide +kernel) (by decide +kernel)
set_option maxRecDepth 20000 in
theorem gX0_usedOf_X4_at : GoodIn wsX0_usedOf (wsV RX0 104 RX4 yX4_at wsX4_at) := goodIn_app (goodIn_of _ (by decide +kernel)) ggX0_usedOf_X4_at
theorem dX0_usedOf_0 : decode cX0_usedOf 0 = .ok (.iconst 0, 1) := by decide +kernel
theorem dX0_usedOf_1 : decode cX0_usedOf 1 = .ok (.istore_n 2, 1) := by decide +kernel
theorem dX0_usedOf_2 : decode cX0_usedOf 2 = .ok (.iconst 0, 1) := by decide +kernel
theorem dX0_usedOf_3 : decode cX0_usedOf 3 = .ok (.istore_n 3, 1) := by decide +kernel
theorem dX0_usedOf_4 : decode cX0_usedOf 4 = .ok (.iload_n 3, 1) := by decide +kernel
theorem dX0_usedOf_5 : decode cX0_usedOf 5 = .ok (.aload_n 0, 1) := by decide +kernel
theorem dX0_usedOf_6 : decode cX0_usedOf 6 = .ok (.getfield 32, 3) := by decide +kernel
theorem dX0_usedOf_9 : decode cX0_usedOf 9 = .ok (.invokevirtual 70, 3) := by decide +kernel
theorem dX0_usedOf_12 : decode cX0_usedOf 12 = .ok (.if_icmp .ge 29, 3) := by decide +kernel
theorem dX0_usedOf_15 : decode cX0_usedOf 15 = .ok (.iload_n 1, 1) := by decide +kernel
theorem dX0_usedOf_16 : decode cX0_usedOf 16 = .ok (.iload_n 3, 1) := by decide +kernel
theorem dX0_usedOf_17 : decode cX0_usedOf 17 = .ok (.invokestatic 142, 3) := by decide +kernel
theorem dX0_usedOf_20 : decode cX0_usedOf 20 = .ok (.ifCond .eq 15, 3) := by decide +kernel
theorem dX0_usedOf_23 : decode cX0_usedOf 23 = .ok (.iload_n 2, 1) := by decide +kernel
theorem dX0_usedOf_24 : decode cX0_usedOf 24 = .ok (.aload_n 0, 1) := by decide +kernel
theorem dX0_usedOf_25 : decode cX0_usedOf 25 = .ok (.getfield 32, 3) := by decide +kernel
theorem dX0_usedOf_28 : decode cX0_usedOf 28 = .ok (.iload_n 3, 1) := by decide +kernel
theorem dX0_usedOf_29 : decode cX0_usedOf 29 = .ok (.iconst 1, 1) := by decide +kernel
theorem dX0_usedOf_30 : decode cX0_usedOf 30 = .ok (.invokevirtual 104, 3) := by decide +kernel
theorem dX0_usedOf_33 : decode cX0_usedOf 33 = .ok (.iadd, 1) := by decide +kernel
theorem dX0_usedOf_34 : decode cX0_usedOf 34 = .ok (.istore_n 2, 1) := by decide +kernel
theorem dX0_usedOf_35 : decode cX0_usedOf 35 = .ok (.iinc 3 1, 3) := by decide +kernel
theorem dX0_usedOf_38 : decode cX0_usedOf 38 = .ok (.goto (-34), 3) := by decide +kernel
theorem dX0_usedOf_41 : decode cX0_usedOf 41 = .ok (.iload_n 2, 1) := by decide +kernel
theorem dX0_usedOf_42 : decode cX0_usedOf 42 = .ok (.ireturn, 1) := by decide +kernel
theorem dX1_init_0 : decode cX1_init 0 = .ok (.aload_n 0, 1) := by decide +kernel
theorem dX1_init_1 : decode cX1_init 1 = .ok (.invokespecial 3, 3) := by decide +kernel
theorem dX1_init_4 : decode cX1_init 4 = .ok (.aload_n 0, 1) := by decide +kernel
theorem dX1_init_5 : decode cX1_init 5 = .ok (.bipush 8, 2) := by decide +kernel
theorem dX1_init_7 : decode cX1_init 7 = .ok (.newarray .int, 2) := by decide +kernel
theorem dX1_init_9 : decode cX1_init 9 = .ok (.putfield 9, 3) := by decide +kernel
theorem dX1_init_12 : decode cX1_init 12 = .ok (.aload_n 0, 1) := by decide +kernel
theorem dX1_init_13 : decode cX1_init 13 = .ok (.iconst 5, 1) := by decide +kernel
theorem dX1_init_14 : decode cX1_init 14 = .ok (.newarray .int, 2) := by decide +kernel
theorem dX1_init_16 : decode cX1_init 16 = .ok (.putfield 15, 3) := by decide +kernel
theorem dX1_init_19 : decode cX1_init 19 = .ok (.aload_n 0, 1) := by decide +kernel
theorem dX1_init_20 : decode cX1_init 20 = .ok (.bipush 6, 2) := by decide +kernel
theorem dX1_init_22 : decode cX1_init 22 = .ok (.newarray .int, 2) := by decide +kernel
theorem dX1_init_24 : decode cX1_init 24 = .ok (.putfield 18, 3) := by decide +kernel
theorem dX1_init_27 : decode cX1_init 27 = .ok (.aload_n 0, 1) := by decide +kernel
theorem dX1_init_28 : decode cX1_init 28 = .ok (.iconst 0, 1) := by decide +kernel
theorem dX1_init_29 : decode cX1_init 29 = .ok (.putfield 21, 3) := by decide +kernel
theorem dX1_init_32 : decode cX1_init 32 = .ok (.return_, 1) := by decide +kernel
set_option maxRecDepth 20000 in
theorem ggX1_mostWorth_X0_mayHave : GoodIn wsX1_mostWorth wsX0_mayHave := goodIn_r _ [8, 9, 10, 11, 12, 13, 14, 15, 16, 17, 18, 7, 19, 20, 21, 22, 23, 24, 25, 26, 27, 28, 29, 61, 62, 63, 64, 65, 66, 67, 68, 69, 70, 71, 72, 73] (by decide +kernel) (by decide +kernel)
set_option maxRecDepth 20000 in
theorem gX1_mostWorth_X0_mayHave : GoodIn wsX1_mostWorth (wsV RX1 25 RX0 yX0_mayHave wsX0_mayHave) := goodIn_app (goodIn_of _ (by decide +kernel)) ggX1_mostWorth_X0_mayHave
set_option maxRecDepth 20000 in
theorem ggX1_mostWorth_X1_dearest : GoodIn wsX1_mostWorth wsX1_dearest := goodIn_r _ [33, 34, 35, 36, 37, 38, 39, 40, 7, 41, 9, 42, 43, 44, 45, 10, 11, 12, 13, 14, 15, 61, 62, 63, 64, 65, 66, 67, 68, 69, 70, 71, 72, 73] (by decide +kernel) (by decide +kernel)
set_option maxRecDepth 20000 in
theorem gX1_mostWorth_X1_dearest : GoodIn wsX1_mostWorth (va_wsS RX1 31 yX1_dearest wsX1_dearest) := goodIn_app (goodIn_of _ (by decide +kernel)) ggX1_mostWorth_X1_dearest
set_option maxRecDepth 20000 in
theorem ggX1_mostWorth_X1_raise : GoodIn wsX1_mostWorth wsX1_raise := goodIn_r _ [48, 3, 34, 35, 36, 37, 2, 1, 49, 50, 51, 32, 52, 38, 39, 40, 7, 41, 9, 42, 43, 44, 45, 10, 11, 12, 13, 14, 15, 46, 47, 57, 58, 59, 60, 61, 62, 63, 64, 65, 66, 67, 68, 69, 70, 71, 72, 73] (by decide +kernel) (by decide +kernel)
set_option maxRecDepth 20000 in
theorem gX1_mostWorth_X1_raise : GoodIn wsX1_mostWorth (va_wsS RX1 35 yX1_raise wsX1_raise) := goodIn_app (goodIn_of _ (by decide +kernel)) ggX1_mostWorth_X1_raise
set_option maxRecDepth 20000 in
theorem ggX1_mostWorth_X1_settle : GoodIn wsX1_mostWorth wsX1_settle := goodIn_r _ [55, 3, 2, 56, 1, 53, 54, 32, 49, 50, 51, 52, 38, 39, 40, 7, 41, 9, 42, 43, 44, 45, 10, 11, 12, 13, 14, 15, 57, 58, 59, 60, 61, 62, 63, 64, 65, 66, 67, 68, 69, 70, 71, 72, 73] (by decide +kernel) (by decide +kernel)
set_option maxRecDepth 20000 in
theorem gX1_mostWorth_X1_settle : GoodIn wsX1_mostWorth (va_wsS RX1 39 yX1_settle wsX1_settle) := goodIn_app (goodIn_of _ (by decide +kernel)) ggX1_mostWorth_X1_settle
theorem dX1_mostWorth_0 : decode cX1_mostWorth 0 = .ok (.iconst 0, 1) := by decide +kernel
theorem dX1_mostWorth_1 : decode cX1_mostWorth 1 = .ok (.istore_n 2, 1) := by decide +kernel
theorem dX1_mostWorth_2 : decode cX1_mostWorth 2 = .ok (.iload_n 2, 1) := by decide +kernel
theorem dX1_mostWorth_3 : decode cX1_mostWorth 3 = .ok (.bipush 8, 2) := by decide +kernel
theorem dX1_mostWorth_5 : decode cX1_mostWorth 5 = .ok (.if_icmp .ge 20, 3) := by decide +kernel
theorem dX1_mostWorth_8 : decode cX1_mostWorth 8 = .ok (.aload_n 0, 1) := by decide +kernel
theorem dX1_mostWorth_9 : decode cX1_mostWorth 9 = .ok (.getfield 9, 3) := by decide +kernel
theorem dX1_mostWorth_12 : decode cX1_mostWorth 12 = .ok (.iload_n 2, 1) := by decide +kernel
theorem dX1_mostWorth_13 : decode cX1_mostWorth 13 = .ok (.aload_n 1, 1) := by decide +kernel
theorem dX1_mostWorth_14 : decode cX1_mostWorth 14 = .ok (.iload_n 2, 1) := by decide +kernel
theorem dX1_mostWorth_15 : decode cX1_mostWorth 15 = .ok (.invokevirtual 25, 3) := by decide +kernel
theorem dX1_mostWorth_18 : decode cX1_mostWorth 18 = .ok (.iastore, 1) := by decide +kernel
theorem dX1_mostWorth_19 : decode cX1_mostWorth 19 = .ok (.iinc 2 1, 3) := by decide +kernel
theorem dX1_mostWorth_22 : decode cX1_mostWorth 22 = .ok (.goto (-20), 3) := by decide +kernel
theorem dX1_mostWorth_25 : decode cX1_mostWorth 25 = .ok (.aload_n 0, 1) := by decide +kernel
theorem dX1_mostWorth_26 : decode cX1_mostWorth 26 = .ok (.getfield 18, 3) := by decide +kernel
theorem dX1_mostWorth_29 : decode cX1_mostWorth 29 = .ok (.iconst 5, 1) := by decide +kernel
theorem dX1_mostWorth_30 : decode cX1_mostWorth 30 = .ok (.iconst 0, 1) := by decide +kernel
theorem dX1_mostWorth_31 : decode cX1_mostWorth 31 = .ok (.iastore, 1) := by decide +kernel
theorem dX1_mostWorth_32 : decode cX1_mostWorth 32 = .ok (.iconst 4, 1) := by decide +kernel
theorem dX1_mostWorth_33 : decode cX1_mostWorth 33 = .ok (.istore_n 2, 1) := by decide +kernel
theorem dX1_mostWorth_34 : decode cX1_mostWorth 34 = .ok (.iload_n 2, 1) := by decide +kernel
theorem dX1_mostWorth_35 : decode cX1_mostWorth 35 = .ok (.ifCond .lt 29, 3) := by decide +kernel
theorem dX1_mostWorth_38 : decode cX1_mostWorth 38 = .ok (.aload_n 0, 1) := by decide +kernel
theorem dX1_mostWorth_39 : decode cX1_mostWorth 39 = .ok (.getfield 18, 3) := by decide +kernel
theorem dX1_mostWorth_42 : decode cX1_mostWorth 42 = .ok (.iload_n 2, 1) := by decide +kernel
theorem dX1_mostWorth_43 : decode cX1_mostWorth 43 = .ok (.aload_n 0, 1) := by decide +kernel
theorem dX1_mostWorth_44 : decode cX1_mostWorth 44 = .ok (.getfield 18, 3) := by decide +kernel
theorem dX1_mostWorth_47 : decode cX1_mostWorth 47 = .ok (.iload_n 2, 1) := by decide +kernel
theorem dX1_mostWorth_48 : decode cX1_mostWorth 48 = .ok (.iconst 1, 1) := by decide +kernel
theorem dX1_mostWorth_49 : decode cX1_mostWorth 49 = .ok (.iadd, 1) := by decide +kernel
theorem dX1_mostWorth_50 : decode cX1_mostWorth 50 = .ok (.iaload, 1) := by decide +kernel
theorem dX1_mostWorth_51 : decode cX1_mostWorth 51 = .ok (.aload_n 1, 1) := by decide +kernel
theorem dX1_mostWorth_52 : decode cX1_mostWorth 52 = .ok (.iload_n 2, 1) := by decide +kernel
theorem dX1_mostWorth_53 : decode cX1_mostWorth 53 = .ok (.invokestatic 31, 3) := by decide +kernel
theorem dX1_mostWorth_56 : decode cX1_mostWorth 56 = .ok (.iadd, 1) := by decide +kernel
theorem dX1_mostWorth_57 : decode cX1_mostWorth 57 = .ok (.iastore, 1) := by decide +kernel
theorem dX1_mostWorth_58 : decode cX1_mostWorth 58 = .ok (.iinc 2 (-1), 3) := by decide +kernel
theorem dX1_mostWorth_61 : decode cX1_mostWorth 61 = .ok (.goto (-27), 3) := by decide +kernel
theorem dX1_mostWorth_64 : decode cX1_mostWorth 64 = .ok (.aload_n 0, 1) := by decide +kernel
theorem dX1_mostWorth_65 : decode cX1_mostWorth 65 = .ok (.iconst 0, 1) := by decide +kernel
theorem dX1_mostWorth_66 : decode cX1_mostWorth 66 = .ok (.putfield 21, 3) := by decide +kernel
theorem dX1_mostWorth_69 : decode cX1_mostWorth 69 = .ok (.aload_n 0, 1) := by decide +kernel
theorem dX1_mostWorth_70 : decode cX1_mostWorth 70 = .ok (.aload_n 1, 1) := by decide +kernel
theorem dX1_mostWorth_71 : decode cX1_mostWorth 71 = .ok (.iconst 0, 1) := by decide +kernel
theorem dX1_mostWorth_72 : decode cX1_mostWorth 72 = .ok (.iconst 0, 1) := by decide +kernel
theorem dX1_mostWorth_73 : decode cX1_mostWorth 73 = .ok (.invokestatic 35, 3) := by decide +kernel
theorem dX1_mostWorth_76 : decode cX1_mostWorth 76 = .ok (.aload_n 0, 1) := by decide +kernel
theorem dX1_mostWorth_77 : decode cX1_mostWorth 77 = .ok (.aload_n 1, 1) := by decide +kernel
theorem dX1_mostWorth_78 : decode cX1_mostWorth 78 = .ok (.iconst 0, 1) := by decide +kernel
theorem dX1_mostWorth_79 : decode cX1_mostWorth 79 = .ok (.iconst 0, 1) := by decide +kernel
theorem dX1_mostWorth_80 : decode cX1_mostWorth 80 = .ok (.invokestatic 39, 3) := by decide +kernel
theorem dX1_mostWorth_83 : decode cX1_mostWorth 83 = .ok (.pop, 1) := by decide +kernel
theorem dX1_mostWorth_84 : decode cX1_mostWorth 84 = .ok (.aload_n 0, 1) := by decide +kernel
theorem dX1_mostWorth_85 : decode cX1_mostWorth 85 = .ok (.getfield 21, 3) := by decide +kernel
theorem dX1_mostWorth_88 : decode cX1_mostWorth 88 = .ok (.ireturn, 1) := by decide +kernel
set_option maxRecDepth 20000 in
theorem ggX1_termOf_X8_isPerson : GoodIn wsX1_termOf wsX8_isPerson := goodIn_r _ [4] (by decide +kernel) (by decide +kernel)
set_option maxRecDepth 20000 in
theorem gX1_termOf_X8_isPerson_n43 : GoodIn wsX1_termOf (wsX8_isPerson) := ggX1_termOf_X8_isPerson
theorem dX1_termOf_0 : decode cX1_termOf 0 = .ok (.iload_n 1, 1) := by decide +kernel
theorem dX1_termOf_1 : decode cX1_termOf 1 = .ok (.invokestatic 43, 3) := by decide +kernel
theorem dX1_termOf_4 : decode cX1_termOf 4 = .ok (.ifCond .eq 12, 3) := by decide +kernel
theorem dX1_termOf_7 : decode cX1_termOf 7 = .ok (.aload_n 0, 1) := by decide +kernel
theorem dX1_termOf_8 : decode cX1_termOf 8 = .ok (.getfield 15, 3) := by decide +kernel
theorem dX1_termOf_11 : decode cX1_termOf 11 = .ok (.iload_n 1, 1) := by decide +kernel
theorem dX1_termOf_12 : decode cX1_termOf 12 = .ok (.iaload, 1) := by decide +kernel
theorem dX1_termOf_13 : decode cX1_termOf 13 = .ok (.goto 5, 3) := by decide +kernel
theorem dX1_termOf_16 : decode cX1_termOf 16 = .ok (.bipush 8, 2) := by decide +kernel
theorem dX1_termOf_18 : decode cX1_termOf 18 = .ok (.ireturn, 1) := by decide +kernel
set_option maxRecDepth 20000 in
theorem ggX1_dearest_X0_worthOf : GoodIn wsX1_dearest wsX0_worthOf := goodIn_r _ [9, 10, 11, 12, 13, 14, 15, 16, 17, 18, 19, 20, 21, 22, 23, 24, 25, 26, 27, 28, 29, 30, 31, 32, 33] (by decide +kernel) (by decide +kernel)
set_option maxRecDepth 20000 in
theorem gX1_dearest_X0_worthOf : GoodIn wsX1_dearest (wsV RX1 47 RX0 yX0_worthOf wsX0_worthOf) := goodIn_app (goodIn_of _ (by decide +kernel)) ggX1_dearest_X0_worthOf
theorem dX1_dearest_0 : decode cX1_dearest 0 = .ok (.iconst 0, 1) := by decide +kernel
theorem dX1_dearest_1 : decode cX1_dearest 1 = .ok (.istore_n 2, 1) := by decide +kernel
theorem dX1_dearest_2 : decode cX1_dearest 2 = .ok (.iconst 0, 1) := by decide +kernel
theorem dX1_dearest_3 : decode cX1_dearest 3 = .ok (.istore_n 3, 1) := by decide +kernel
theorem dX1_dearest_4 : decode cX1_dearest 4 = .ok (.iload_n 3, 1) := by decide +kernel
theorem dX1_dearest_5 : decode cX1_dearest 5 = .ok (.bipush 8, 2) := by decide +kernel
theorem dX1_dearest_7 : decode cX1_dearest 7 = .ok (.if_icmp .ge 20, 3) := by decide +kernel
theorem dX1_dearest_10 : decode cX1_dearest 10 = .ok (.iload_n 2, 1) := by decide +kernel
theorem dX1_dearest_11 : decode cX1_dearest 11 = .ok (.aload_n 0, 1) := by decide +kernel
theorem dX1_dearest_12 : decode cX1_dearest 12 = .ok (.iload_n 1, 1) := by decide +kernel
theorem dX1_dearest_13 : decode cX1_dearest 13 = .ok (.iload_n 3, 1) := by decide +kernel
theorem dX1_dearest_14 : decode cX1_dearest 14 = .ok (.invokevirtual 47, 3) := by decide +kernel
theorem dX1_dearest_17 : decode cX1_dearest 17 = .ok (.invokestatic 51, 3) := by decide +kernel
theorem dX1_dearest_20 : decode cX1_dearest 20 = .ok (.istore_n 2, 1) := by decide +kernel
theorem dX1_dearest_21 : decode cX1_dearest 21 = .ok (.iinc 3 1, 3) := by decide +kernel
theorem dX1_dearest_24 : decode cX1_dearest 24 = .ok (.goto (-20), 3) := by decide +kernel
theorem dX1_dearest_27 : decode cX1_dearest 27 = .ok (.iload_n 2, 1) := by decide +kernel
theorem dX1_dearest_28 : decode cX1_dearest 28 = .ok (.ireturn, 1) := by decide +kernel
set_option maxRecDepth 20000 in
theorem ggX1_isLeft_X0_worthOf : GoodIn wsX1_isLeft wsX0_worthOf := goodIn_r _ [6, 7, 8, 9, 10, 11, 12, 13, 14, 15, 16, 17, 22, 23, 24, 25, 26, 27, 28, 29, 30, 31, 32, 33, 34] (by decide +kernel) (by decide +kernel)
set_option maxRecDepth 20000 in
theorem gX1_isLeft_X0_worthOf : GoodIn wsX1_isLeft (wsV RX1 47 RX0 yX0_worthOf wsX0_worthOf) := goodIn_app (goodIn_of _ (by decide +kernel)) ggX1_isLeft_X0_worthOf
theorem dX1_isLeft_0 : decode cX1_isLeft 0 = .ok (.aload_n 0, 1) := by decide +kernel
theorem dX1_isLeft_1 : decode cX1_isLeft 1 = .ok (.getfield 9, 3) := by decide +kernel
theorem dX1_isLeft_4 : decode cX1_isLeft 4 = .ok (.iload_n 3, 1) := by decide +kernel
theorem dX1_isLeft_5 : decode cX1_isLeft 5 = .ok (.iaload, 1) := by decide +kernel
theorem dX1_isLeft_6 : decode cX1_isLeft 6 = .ok (.ifCond .le 16, 3) := by decide +kernel
theorem dX1_isLeft_9 : decode cX1_isLeft 9 = .ok (.aload_n 1, 1) := by decide +kernel
theorem dX1_isLeft_10 : decode cX1_isLeft 10 = .ok (.iload_n 2, 1) := by decide +kernel
theorem dX1_isLeft_11 : decode cX1_isLeft 11 = .ok (.iload_n 3, 1) := by decide +kernel
theorem dX1_isLeft_12 : decode cX1_isLeft 12 = .ok (.invokevirtual 47, 3) := by decide +kernel
theorem dX1_isLeft_15 : decode cX1_isLeft 15 = .ok (.ifCond .le 7, 3) := by decide +kernel
theorem dX1_isLeft_18 : decode cX1_isLeft 18 = .ok (.iconst 1, 1) := by decide +kernel
theorem dX1_isLeft_19 : decode cX1_isLeft 19 = .ok (.goto 4, 3) := by decide +kernel
theorem dX1_isLeft_22 : decode cX1_isLeft 22 = .ok (.iconst 0, 1) := by decide +kernel
theorem dX1_isLeft_23 : decode cX1_isLeft 23 = .ok (.ireturn, 1) := by decide +kernel
set_option maxRecDepth 20000 in
theorem ggX1_raise_X1_isLeft : GoodIn wsX1_raise wsX1_isLeft := goodIn_r _ [12, 7, 13, 14, 15, 16, 17, 18, 19, 20, 21, 22, 23, 24, 25, 26, 27, 28, 31, 32, 33, 34, 35, 36, 37, 38, 39, 40, 41, 42, 43, 44, 45, 46, 47] (by decide +kernel) (by decide +kernel)
set_option maxRecDepth 20000 in
theorem gX1_raise_X1_isLeft : GoodIn wsX1_raise (wsV RX1 56 RX1 yX1_isLeft wsX1_isLeft) := goodIn_app (goodIn_of _ (by decide +kernel)) ggX1_raise_X1_isLeft
set_option maxRecDepth 20000 in
theorem ggX1_raise_X0_worthOf : GoodIn wsX1_raise wsX0_worthOf := goodIn_r _ [17, 18, 19, 20, 21, 22, 23, 24, 25, 26, 27, 28, 35, 36, 37, 38, 39, 40, 41, 42, 43, 44, 45, 46, 47] (by decide +kernel) (by decide +kernel)
set_option maxRecDepth 20000 in
theorem gX1_raise_X0_worthOf : GoodIn wsX1_raise (wsV RX1 47 RX0 yX0_worthOf wsX0_worthOf) := goodIn_app (goodIn_of _ (by decide +kernel)) ggX1_raise_X0_worthOf
set_option maxRecDepth 20000 in
theorem ggX1_raise_X1_raise : GoodIn wsX1_raise wsX1_raise := goodIn_r _ [0, 1, 2, 3, 4, 5, 6, 7, 8, 9, 10, 11, 12, 13, 14, 15, 16, 17, 18, 19, 20, 21, 22, 23, 24, 25, 26, 27, 28, 29, 30, 31, 32, 33, 34, 35, 36, 37, 38, 39, 40, 41, 42, 43, 44, 45, 46, 47] (by decide +kernel) (by decide +kernel)
set_option maxRecDepth 20000 in
theorem gX1_raise_X1_raise : GoodIn wsX1_raise (va_wsS RX1 35 yX1_raise wsX1_raise) := goodIn_app (goodIn_of _ (by decide +kernel)) ggX1_raise_X1_raise
theorem dX1_raise_0 : decode cX1_raise 0 = .ok (.aload_n 0, 1) := by decide +kernel
theorem dX1_raise_1 : decode cX1_raise 1 = .ok (.aload_n 0, 1) := by decide +kernel
theorem dX1_raise_2 : decode cX1_raise 2 = .ok (.getfield 21, 3) := by decide +kernel
theorem dX1_raise_5 : decode cX1_raise 5 = .ok (.iload_n 3, 1) := by decide +kernel
theorem dX1_raise_6 : decode cX1_raise 6 = .ok (.invokestatic 51, 3) := by decide +kernel
theorem dX1_raise_9 : decode cX1_raise 9 = .ok (.putfield 21, 3) := by decide +kernel
theorem dX1_raise_12 : decode cX1_raise 12 = .ok (.iload_n 2, 1) := by decide +kernel
theorem dX1_raise_13 : decode cX1_raise 13 = .ok (.ifCond .lt 23, 3) := by decide +kernel
theorem dX1_raise_16 : decode cX1_raise 16 = .ok (.iload_n 2, 1) := by decide +kernel
theorem dX1_raise_17 : decode cX1_raise 17 = .ok (.iconst 5, 1) := by decide +kernel
theorem dX1_raise_18 : decode cX1_raise 18 = .ok (.if_icmp .ge 18, 3) := by decide +kernel
theorem dX1_raise_21 : decode cX1_raise 21 = .ok (.iload_n 3, 1) := by decide +kernel
theorem dX1_raise_22 : decode cX1_raise 22 = .ok (.aload_n 0, 1) := by decide +kernel
theorem dX1_raise_23 : decode cX1_raise 23 = .ok (.getfield 18, 3) := by decide +kernel
theorem dX1_raise_26 : decode cX1_raise 26 = .ok (.iload_n 2, 1) := by decide +kernel
theorem dX1_raise_27 : decode cX1_raise 27 = .ok (.iaload, 1) := by decide +kernel
theorem dX1_raise_28 : decode cX1_raise 28 = .ok (.iadd, 1) := by decide +kernel
theorem dX1_raise_29 : decode cX1_raise 29 = .ok (.aload_n 0, 1) := by decide +kernel
theorem dX1_raise_30 : decode cX1_raise 30 = .ok (.getfield 21, 3) := by decide +kernel
theorem dX1_raise_33 : decode cX1_raise 33 = .ok (.if_icmp .gt 4, 3) := by decide +kernel
theorem dX1_raise_36 : decode cX1_raise 36 = .ok (.return_, 1) := by decide +kernel
theorem dX1_raise_37 : decode cX1_raise 37 = .ok (.iconst 0, 1) := by decide +kernel
theorem dX1_raise_38 : decode cX1_raise 38 = .ok (.istore 4, 2) := by decide +kernel
theorem dX1_raise_40 : decode cX1_raise 40 = .ok (.iload 4, 2) := by decide +kernel
theorem dX1_raise_42 : decode cX1_raise 42 = .ok (.bipush 8, 2) := by decide +kernel
theorem dX1_raise_44 : decode cX1_raise 44 = .ok (.if_icmp .ge 59, 3) := by decide +kernel
theorem dX1_raise_47 : decode cX1_raise 47 = .ok (.aload_n 0, 1) := by decide +kernel
theorem dX1_raise_48 : decode cX1_raise 48 = .ok (.aload_n 1, 1) := by decide +kernel
theorem dX1_raise_49 : decode cX1_raise 49 = .ok (.iload_n 2, 1) := by decide +kernel
theorem dX1_raise_50 : decode cX1_raise 50 = .ok (.iload 4, 2) := by decide +kernel
theorem dX1_raise_52 : decode cX1_raise 52 = .ok (.invokevirtual 56, 3) := by decide +kernel
theorem dX1_raise_55 : decode cX1_raise 55 = .ok (.ifCond .eq 42, 3) := by decide +kernel
theorem dX1_raise_58 : decode cX1_raise 58 = .ok (.aload_n 0, 1) := by decide +kernel
theorem dX1_raise_59 : decode cX1_raise 59 = .ok (.getfield 9, 3) := by decide +kernel
theorem dX1_raise_62 : decode cX1_raise 62 = .ok (.iload 4, 2) := by decide +kernel
theorem dX1_raise_64 : decode cX1_raise 64 = .ok (.dup2, 1) := by decide +kernel
theorem dX1_raise_65 : decode cX1_raise 65 = .ok (.iaload, 1) := by decide +kernel
theorem dX1_raise_66 : decode cX1_raise 66 = .ok (.iconst 1, 1) := by decide +kernel
theorem dX1_raise_67 : decode cX1_raise 67 = .ok (.isub, 1) := by decide +kernel
theorem dX1_raise_68 : decode cX1_raise 68 = .ok (.iastore, 1) := by decide +kernel
theorem dX1_raise_69 : decode cX1_raise 69 = .ok (.aload_n 0, 1) := by decide +kernel
theorem dX1_raise_70 : decode cX1_raise 70 = .ok (.aload_n 1, 1) := by decide +kernel
theorem dX1_raise_71 : decode cX1_raise 71 = .ok (.iload_n 2, 1) := by decide +kernel
theorem dX1_raise_72 : decode cX1_raise 72 = .ok (.iconst 1, 1) := by decide +kernel
theorem dX1_raise_73 : decode cX1_raise 73 = .ok (.iadd, 1) := by decide +kernel
theorem dX1_raise_74 : decode cX1_raise 74 = .ok (.iload_n 3, 1) := by decide +kernel
theorem dX1_raise_75 : decode cX1_raise 75 = .ok (.aload_n 1, 1) := by decide +kernel
theorem dX1_raise_76 : decode cX1_raise 76 = .ok (.iload_n 2, 1) := by decide +kernel
theorem dX1_raise_77 : decode cX1_raise 77 = .ok (.iload 4, 2) := by decide +kernel
theorem dX1_raise_79 : decode cX1_raise 79 = .ok (.invokevirtual 47, 3) := by decide +kernel
theorem dX1_raise_82 : decode cX1_raise 82 = .ok (.iadd, 1) := by decide +kernel
theorem dX1_raise_83 : decode cX1_raise 83 = .ok (.invokestatic 35, 3) := by decide +kernel
theorem dX1_raise_86 : decode cX1_raise 86 = .ok (.aload_n 0, 1) := by decide +kernel
theorem dX1_raise_87 : decode cX1_raise 87 = .ok (.getfield 9, 3) := by decide +kernel
theorem dX1_raise_90 : decode cX1_raise 90 = .ok (.iload 4, 2) := by decide +kernel
theorem dX1_raise_92 : decode cX1_raise 92 = .ok (.dup2, 1) := by decide +kernel
theorem dX1_raise_93 : decode cX1_raise 93 = .ok (.iaload, 1) := by decide +kernel
theorem dX1_raise_94 : decode cX1_raise 94 = .ok (.iconst 1, 1) := by decide +kernel
theorem dX1_raise_95 : decode cX1_raise 95 = .ok (.iadd, 1) := by decide +kernel
theorem dX1_raise_96 : decode cX1_raise 96 = .ok (.iastore, 1) := by decide +kernel
theorem dX1_raise_97 : decode cX1_raise 97 = .ok (.iinc 4 1, 3) := by decide +kernel
theorem dX1_raise_100 : decode cX1_raise 100 = .ok (.goto (-60), 3) := by decide +kernel
theorem dX1_raise_103 : decode cX1_raise 103 = .ok (.aload_n 0, 1) := by decide +kernel
theorem dX1_raise_104 : decode cX1_raise 104 = .ok (.aload_n 1, 1) := by decide +kernel
theorem dX1_raise_105 : decode cX1_raise 105 = .ok (.iload_n 2, 1) := by decide +kernel
theorem dX1_raise_106 : decode cX1_raise 106 = .ok (.iconst 1, 1) := by decide +kernel
theorem dX1_raise_107 : decode cX1_raise 107 = .ok (.iadd, 1) := by decide +kernel
theorem dX1_raise_108 : decode cX1_raise 108 = .ok (.iload_n 3, 1) := by decide +kernel
theorem dX1_raise_109 : decode cX1_raise 109 = .ok (.invokestatic 35, 3) := by decide +kernel
theorem dX1_raise_112 : decode cX1_raise 112 = .ok (.return_, 1) := by decide +kernel
set_option maxRecDepth 20000 in
theorem ggX1_settle_X1_settle : GoodIn wsX1_settle wsX1_settle := goodIn_r _ [0, 1, 2, 3, 4, 5, 6, 7, 8, 9, 10, 11, 12, 13, 14, 15, 16, 17, 18, 19, 20, 21, 22, 23, 24, 25, 26, 27, 28, 29, 30, 31, 32, 33, 34, 35, 36, 37, 38, 39, 40, 41, 42, 43, 44] (by decide +kernel) (by decide +kernel)
set_option maxRecDepth 20000 in
theorem gX1_settle_X1_settle : GoodIn wsX1_settle (va_wsS RX1 39 yX1_settle wsX1_settle) := goodIn_app (goodIn_of _ (by decide +kernel)) ggX1_settle_X1_settle
set_option maxRecDepth 20000 in
theorem ggX1_settle_X1_isLeft : GoodIn wsX1_settle wsX1_isLeft := goodIn_r _ [11, 4, 12, 13, 14, 15, 16, 17, 18, 19, 20, 21, 22, 23, 24, 25, 26, 27, 28, 29, 30, 31, 32, 33, 34, 35, 36, 37, 38, 39, 40, 41, 42, 43, 44] (by decide +kernel) (by decide +kernel)
set_option maxRecDepth 20000 in
theorem gX1_settle_X1_isLeft : GoodIn wsX1_settle (wsV RX1 56 RX1 yX1_isLeft wsX1_isLeft) := goodIn_app (goodIn_of _ (by decide +kernel)) ggX1_settle_X1_isLeft
set_option maxRecDepth 20000 in
theorem ggX1_settle_X0_worthOf : GoodIn wsX1_settle wsX0_worthOf := goodIn_r _ [16, 17, 18, 19, 20, 21, 22, 23, 24, 25, 26, 27, 32, 33, 34, 35, 36, 37, 38, 39, 40, 41, 42, 43, 44] (by decide +kernel) (by decide +kernel)
set_option maxRecDepth 20000 in
theorem gX1_settle_X0_worthOf : GoodIn wsX1_settle (wsV RX1 47 RX0 yX0_worthOf wsX0_worthOf) := goodIn_app (goodIn_of _ (by decide +kernel)) ggX1_settle_X0_worthOf
theorem dX1_settle_0 : decode cX1_settle 0 = .ok (.iload_n 2, 1) := by decide +kernel
theorem dX1_settle_1 : decode cX1_settle 1 = .ok (.ifCond .lt 8, 3) := by decide +kernel
theorem dX1_settle_4 : decode cX1_settle 4 = .ok (.iload_n 2, 1) := by decide +kernel
theorem dX1_settle_5 : decode cX1_settle 5 = .ok (.iconst 5, 1) := by decide +kernel
theorem dX1_settle_6 : decode cX1_settle 6 = .ok (.if_icmp .lt 17, 3) := by decide +kernel
theorem dX1_settle_9 : decode cX1_settle 9 = .ok (.iload_n 3, 1) := by decide +kernel
theorem dX1_settle_10 : decode cX1_settle 10 = .ok (.aload_n 0, 1) := by decide +kernel
theorem dX1_settle_11 : decode cX1_settle 11 = .ok (.getfield 21, 3) := by decide +kernel
theorem dX1_settle_14 : decode cX1_settle 14 = .ok (.if_icmp .ne 7, 3) := by decide +kernel
theorem dX1_settle_17 : decode cX1_settle 17 = .ok (.iconst 1, 1) := by decide +kernel
theorem dX1_settle_18 : decode cX1_settle 18 = .ok (.goto 4, 3) := by decide +kernel
theorem dX1_settle_21 : decode cX1_settle 21 = .ok (.iconst 0, 1) := by decide +kernel
theorem dX1_settle_22 : decode cX1_settle 22 = .ok (.ireturn, 1) := by decide +kernel
theorem dX1_settle_23 : decode cX1_settle 23 = .ok (.iload_n 3, 1) := by decide +kernel
theorem dX1_settle_24 : decode cX1_settle 24 = .ok (.aload_n 0, 1) := by decide +kernel
theorem dX1_settle_25 : decode cX1_settle 25 = .ok (.getfield 18, 3) := by decide +kernel
theorem dX1_settle_28 : decode cX1_settle 28 = .ok (.iload_n 2, 1) := by decide +kernel
theorem dX1_settle_29 : decode cX1_settle 29 = .ok (.iaload, 1) := by decide +kernel
theorem dX1_settle_30 : decode cX1_settle 30 = .ok (.iadd, 1) := by decide +kernel
theorem dX1_settle_31 : decode cX1_settle 31 = .ok (.aload_n 0, 1) := by decide +kernel
theorem dX1_settle_32 : decode cX1_settle 32 = .ok (.getfield 21, 3) := by decide +kernel
theorem dX1_settle_35 : decode cX1_settle 35 = .ok (.if_icmp .ge 5, 3) := by decide +kernel
theorem dX1_settle_38 : decode cX1_settle 38 = .ok (.iconst 0, 1) := by decide +kernel
theorem dX1_settle_39 : decode cX1_settle 39 = .ok (.ireturn, 1) := by decide +kernel
theorem dX1_settle_40 : decode cX1_settle 40 = .ok (.aload_n 0, 1) := by decide +kernel
theorem dX1_settle_41 : decode cX1_settle 41 = .ok (.getfield 15, 3) := by decide +kernel
theorem dX1_settle_44 : decode cX1_settle 44 = .ok (.iload_n 2, 1) := by decide +kernel
theorem dX1_settle_45 : decode cX1_settle 45 = .ok (.bipush 8, 2) := by decide +kernel
theorem dX1_settle_47 : decode cX1_settle 47 = .ok (.iastore, 1) := by decide +kernel
theorem dX1_settle_48 : decode cX1_settle 48 = .ok (.aload_n 0, 1) := by decide +kernel
theorem dX1_settle_49 : decode cX1_settle 49 = .ok (.aload_n 1, 1) := by decide +kernel
theorem dX1_settle_50 : decode cX1_settle 50 = .ok (.iload_n 2, 1) := by decide +kernel
theorem dX1_settle_51 : decode cX1_settle 51 = .ok (.iconst 1, 1) := by decide +kernel
theorem dX1_settle_52 : decode cX1_settle 52 = .ok (.iadd, 1) := by decide +kernel
theorem dX1_settle_53 : decode cX1_settle 53 = .ok (.iload_n 3, 1) := by decide +kernel
theorem dX1_settle_54 : decode cX1_settle 54 = .ok (.invokestatic 39, 3) := by decide +kernel
theorem dX1_settle_57 : decode cX1_settle 57 = .ok (.ifCond .eq 5, 3) := by decide +kernel
theorem dX1_settle_60 : decode cX1_settle 60 = .ok (.iconst 1, 1) := by decide +kernel
theorem dX1_settle_61 : decode cX1_settle 61 = .ok (.ireturn, 1) := by decide +kernel
theorem dX1_settle_62 : decode cX1_settle 62 = .ok (.iconst 0, 1) := by decide +kernel
theorem dX1_settle_63 : decode cX1_settle 63 = .ok (.istore 4, 2) := by decide +kernel
theorem dX1_settle_65 : decode cX1_settle 65 = .ok (.iload 4, 2) := by decide +kernel
theorem dX1_settle_67 : decode cX1_settle 67 = .ok (.bipush 8, 2) := by decide +kernel
theorem dX1_settle_69 : decode cX1_settle 69 = .ok (.if_icmp .ge 76, 3) := by decide +kernel
theorem dX1_settle_72 : decode cX1_settle 72 = .ok (.aload_n 0, 1) := by decide +kernel
theorem dX1_settle_73 : decode cX1_settle 73 = .ok (.aload_n 1, 1) := by decide +kernel
theorem dX1_settle_74 : decode cX1_settle 74 = .ok (.iload_n 2, 1) := by decide +kernel
theorem dX1_settle_75 : decode cX1_settle 75 = .ok (.iload 4, 2) := by decide +kernel
theorem dX1_settle_77 : decode cX1_settle 77 = .ok (.invokevirtual 56, 3) := by decide +kernel
theorem dX1_settle_80 : decode cX1_settle 80 = .ok (.ifCond .eq 59, 3) := by decide +kernel
theorem dX1_settle_83 : decode cX1_settle 83 = .ok (.aload_n 0, 1) := by decide +kernel
theorem dX1_settle_84 : decode cX1_settle 84 = .ok (.getfield 15, 3) := by decide +kernel
theorem dX1_settle_87 : decode cX1_settle 87 = .ok (.iload_n 2, 1) := by decide +kernel
theorem dX1_settle_88 : decode cX1_settle 88 = .ok (.iload 4, 2) := by decide +kernel
theorem dX1_settle_90 : decode cX1_settle 90 = .ok (.iastore, 1) := by decide +kernel
theorem dX1_settle_91 : decode cX1_settle 91 = .ok (.aload_n 0, 1) := by decide +kernel
theorem dX1_settle_92 : decode cX1_settle 92 = .ok (.getfield 9, 3) := by decide +kernel
theorem dX1_settle_95 : decode cX1_settle 95 = .ok (.iload 4, 2) := by decide +kernel
theorem dX1_settle_97 : decode cX1_settle 97 = .ok (.dup2, 1) := by decide +kernel
theorem dX1_settle_98 : decode cX1_settle 98 = .ok (.iaload, 1) := by decide +kernel
theorem dX1_settle_99 : decode cX1_settle 99 = .ok (.iconst 1, 1) := by decide +kernel
theorem dX1_settle_100 : decode cX1_settle 100 = .ok (.isub, 1) := by decide +kernel
theorem dX1_settle_101 : decode cX1_settle 101 = .ok (.iastore, 1) := by decide +kernel
theorem dX1_settle_102 : decode cX1_settle 102 = .ok (.aload_n 0, 1) := by decide +kernel
theorem dX1_settle_103 : decode cX1_settle 103 = .ok (.aload_n 1, 1) := by decide +kernel
theorem dX1_settle_104 : decode cX1_settle 104 = .ok (.iload_n 2, 1) := by decide +kernel
theorem dX1_settle_105 : decode cX1_settle 105 = .ok (.iconst 1, 1) := by decide +kernel
theorem dX1_settle_106 : decode cX1_settle 106 = .ok (.iadd, 1) := by decide +kernel
theorem dX1_settle_107 : decode cX1_settle 107 = .ok (.iload_n 3, 1) := by decide +kernel
theorem dX1_settle_108 : decode cX1_settle 108 = .ok (.aload_n 1, 1) := by decide +kernel
theorem dX1_settle_109 : decode cX1_settle 109 = .ok (.iload_n 2, 1) := by decide +kernel
theorem dX1_settle_110 : decode cX1_settle 110 = .ok (.iload 4, 2) := by decide +kernel
theorem dX1_settle_112 : decode cX1_settle 112 = .ok (.invokevirtual 47, 3) := by decide +kernel
theorem dX1_settle_115 : decode cX1_settle 115 = .ok (.iadd, 1) := by decide +kernel
theorem dX1_settle_116 : decode cX1_settle 116 = .ok (.invokestatic 39, 3) := by decide +kernel
theorem dX1_settle_119 : decode cX1_settle 119 = .ok (.istore 5, 2) := by decide +kernel
theorem dX1_settle_121 : decode cX1_settle 121 = .ok (.aload_n 0, 1) := by decide +kernel
theorem dX1_settle_122 : decode cX1_settle 122 = .ok (.getfield 9, 3) := by decide +kernel
theorem dX1_settle_125 : decode cX1_settle 125 = .ok (.iload 4, 2) := by decide +kernel
theorem dX1_settle_127 : decode cX1_settle 127 = .ok (.dup2, 1) := by decide +kernel
theorem dX1_settle_128 : decode cX1_settle 128 = .ok (.iaload, 1) := by decide +kernel
theorem dX1_settle_129 : decode cX1_settle 129 = .ok (.iconst 1, 1) := by decide +kernel
theorem dX1_settle_130 : decode cX1_settle 130 = .ok (.iadd, 1) := by decide +kernel
theorem dX1_settle_131 : decode cX1_settle 131 = .ok (.iastore, 1) := by decide +kernel
theorem dX1_settle_132 : decode cX1_settle 132 = .ok (.iload 5, 2) := by decide +kernel
theorem dX1_settle_134 : decode cX1_settle 134 = .ok (.ifCond .eq 5, 3) := by decide +kernel
theorem dX1_settle_137 : decode cX1_settle 137 = .ok (.iconst 1, 1) := by decide +kernel
theorem dX1_settle_138 : decode cX1_settle 138 = .ok (.ireturn, 1) := by decide +kernel
theorem dX1_settle_139 : decode cX1_settle 139 = .ok (.iinc 4 1, 3) := by decide +kernel
theorem dX1_settle_142 : decode cX1_settle 142 = .ok (.goto (-77), 3) := by decide +kernel
theorem dX1_settle_145 : decode cX1_settle 145 = .ok (.iconst 0, 1) := by decide +kernel
theorem dX1_settle_146 : decode cX1_settle 146 = .ok (.ireturn, 1) := by decide +kernel
theorem dX2_isOneAtATime_0 : decode cX2_isOneAtATime 0 = .ok (.iload_n 0, 1) := by decide +kernel
theorem dX2_isOneAtATime_1 : decode cX2_isOneAtATime 1 = .ok (.iconst 2, 1) := by decide +kernel
theorem dX2_isOneAtATime_2 : decode cX2_isOneAtATime 2 = .ok (.if_icmp .eq 13, 3) := by decide +kernel
theorem dX2_isOneAtATime_5 : decode cX2_isOneAtATime 5 = .ok (.iload_n 0, 1) := by decide +kernel
theorem dX2_isOneAtATime_6 : decode cX2_isOneAtATime 6 = .ok (.iconst 4, 1) := by decide +kernel
theorem dX2_isOneAtATime_7 : decode cX2_isOneAtATime 7 = .ok (.if_icmp .eq 8, 3) := by decide +kernel
theorem dX2_isOneAtATime_10 : decode cX2_isOneAtATime 10 = .ok (.iload_n 0, 1) := by decide +kernel
theorem dX2_isOneAtATime_11 : decode cX2_isOneAtATime 11 = .ok (.iconst 5, 1) := by decide +kernel
theorem dX2_isOneAtATime_12 : decode cX2_isOneAtATime 12 = .ok (.if_icmp .ne 7, 3) := by decide +kernel
theorem dX2_isOneAtATime_15 : decode cX2_isOneAtATime 15 = .ok (.iconst 1, 1) := by decide +kernel
theorem dX2_isOneAtATime_16 : decode cX2_isOneAtATime 16 = .ok (.goto 4, 3) := by decide +kernel
theorem dX2_isOneAtATime_19 : decode cX2_isOneAtATime 19 = .ok (.iconst 0, 1) := by decide +kernel
theorem dX2_isOneAtATime_20 : decode cX2_isOneAtATime 20 = .ok (.ireturn, 1) := by decide +kernel
theorem dX2_longest_0 : decode cX2_longest 0 = .ok (.iload_n 0, 1) := by decide +kernel
theorem dX2_longest_1 : decode cX2_longest 1 = .ok (.iconst 1, 1) := by decide +kernel
theorem dX2_longest_2 : decode cX2_longest 2 = .ok (.if_icmp .eq 13, 3) := by decide +kernel
theorem dX2_longest_5 : decode cX2_longest 5 = .ok (.iload_n 0, 1) := by decide +kernel
theorem dX2_longest_6 : decode cX2_longest 6 = .ok (.iconst 3, 1) := by decide +kernel
theorem dX2_longest_7 : decode cX2_longest 7 = .ok (.if_icmp .eq 8, 3) := by decide +kernel
theorem dX2_longest_10 : decode cX2_longest 10 = .ok (.iload_n 0, 1) := by decide +kernel
theorem dX2_longest_11 : decode cX2_longest 11 = .ok (.iconst 5, 1) := by decide +kernel
theorem dX2_longest_12 : decode cX2_longest 12 = .ok (.if_icmp .ne 7, 3) := by decide +kernel
theorem dX2_longest_15 : decode cX2_longest 15 = .ok (.iconst 2, 1) := by decide +kernel
theorem dX2_longest_16 : decode cX2_longest 16 = .ok (.goto 5, 3) := by decide +kernel
theorem dX2_longest_19 : decode cX2_longest 19 = .ok (.bipush 24, 2) := by decide +kernel
theorem dX2_longest_21 : decode cX2_longest 21 = .ok (.ireturn, 1) := by decide +kernel
set_option maxRecDepth 20000 in
theorem ggX2_price_X2_doubling : GoodIn wsX2_price wsX2_doubling := goodIn_r _ [4] (by decide +kernel) (by decide +kernel)
set_option maxRecDepth 20000 in
theorem gX2_price_X2_doubling : GoodIn wsX2_price (va_wsS RX2 11 yX2_doubling wsX2_doubling) := goodIn_app (goodIn_of _ (by decide +kernel)) ggX2_price_X2_doubling
theorem dX2_price_0 : decode cX2_price 0 = .ok (.iload_n 0, 1) := by decide +kernel
theorem dX2_price_1 : decode cX2_price 1 = .ok (.tableswitch 47 3 5 #[27, 41, 33], 27) := by decide +kernel
theorem dX2_price_28 : decode cX2_price 28 = .ok (.iload_n 1, 1) := by decide +kernel
theorem dX2_price_29 : decode cX2_price 29 = .ok (.iload_n 2, 1) := by decide +kernel
theorem dX2_price_30 : decode cX2_price 30 = .ok (.invokestatic 11, 3) := by decide +kernel
theorem dX2_price_33 : decode cX2_price 33 = .ok (.ireturn, 1) := by decide +kernel
theorem dX2_price_34 : decode cX2_price 34 = .ok (.iload_n 1, 1) := by decide +kernel
theorem dX2_price_35 : decode cX2_price 35 = .ok (.iload_n 2, 1) := by decide +kernel
theorem dX2_price_36 : decode cX2_price 36 = .ok (.invokestatic 11, 3) := by decide +kernel
theorem dX2_price_39 : decode cX2_price 39 = .ok (.iconst 2, 1) := by decide +kernel
theorem dX2_price_40 : decode cX2_price 40 = .ok (.idiv, 1) := by decide +kernel
theorem dX2_price_41 : decode cX2_price 41 = .ok (.ireturn, 1) := by decide +kernel
theorem dX2_price_42 : decode cX2_price 42 = .ok (.iload_n 2, 1) := by decide +kernel
theorem dX2_price_43 : decode cX2_price 43 = .ok (.iload_n 1, 1) := by decide +kernel
theorem dX2_price_44 : decode cX2_price 44 = .ok (.imul, 1) := by decide +kernel
theorem dX2_price_45 : decode cX2_price 45 = .ok (.iconst 5, 1) := by decide +kernel
theorem dX2_price_46 : decode cX2_price 46 = .ok (.iadd, 1) := by decide +kernel
theorem dX2_price_47 : decode cX2_price 47 = .ok (.ireturn, 1) := by decide +kernel
theorem dX2_price_48 : decode cX2_price 48 = .ok (.iload_n 2, 1) := by decide +kernel
theorem dX2_price_49 : decode cX2_price 49 = .ok (.iload_n 1, 1) := by decide +kernel
theorem dX2_price_50 : decode cX2_price 50 = .ok (.imul, 1) := by decide +kernel
theorem dX2_price_51 : decode cX2_price 51 = .ok (.ireturn, 1) := by decide +kernel
theorem dX2_doubling_0 : decode cX2_doubling 0 = .ok (.iload_n 0, 1) := by decide +kernel
theorem dX2_doubling_1 : decode cX2_doubling 1 = .ok (.iconst 1, 1) := by decide +kernel
theorem dX2_doubling_2 : decode cX2_doubling 2 = .ok (.iload_n 1, 1) := by decide +kernel
theorem dX2_doubling_3 : decode cX2_doubling 3 = .ok (.ishl, 1) := by decide +kernel
theorem dX2_doubling_4 : decode cX2_doubling 4 = .ok (.iconst 1, 1) := by decide +kernel
theorem dX2_doubling_5 : decode cX2_doubling 5 = .ok (.isub, 1) := by decide +kernel
theorem dX2_doubling_6 : decode cX2_doubling 6 = .ok (.imul, 1) := by decide +kernel
theorem dX2_doubling_7 : decode cX2_doubling 7 = .ok (.ireturn, 1) := by decide +kernel
set_option maxRecDepth 20000 in
theorem ggX3_stuckAfter_X3_freeTerms : GoodIn wsX3_stuckAfter wsX3_freeTerms := goodIn_r _ [4, 5, 6, 7, 8, 9, 10, 11, 12, 13, 14, 15, 16, 17, 18, 19, 20, 21, 22, 23, 24, 25, 26, 27, 28, 29, 30, 31, 32, 33, 34, 35, 36, 37, 38, 39, 40, 41, 42, 43, 44, 50, 51, 52, 53, 54, 55, 56, 57, 58, 59, 60, 61, 62] (by decide +kernel) (by decide +kernel)
set_option maxRecDepth 20000 in
theorem gX3_stuckAfter_X3_freeTerms : GoodIn wsX3_stuckAfter (va_wsS RX3 9 yX3_freeTerms wsX3_freeTerms) := goodIn_app (goodIn_of _ (by decide +kernel)) ggX3_stuckAfter_X3_freeTerms
set_option maxRecDepth 20000 in
theorem ggX3_stuckAfter_X0_waitsNow : GoodIn wsX3_stuckAfter wsX0_waitsNow := goodIn_r _ [48, 49, 20, 12, 21, 50, 51, 52, 53, 54, 55, 56, 57, 58] (by decide +kernel) (by decide +kernel)
set_option maxRecDepth 20000 in
theorem gX3_stuckAfter_X0_waitsNow : GoodIn wsX3_stuckAfter (wsV RX3 15 RX0 yX0_waitsNow wsX0_waitsNow) := goodIn_app (goodIn_of _ (by decide +kernel)) ggX3_stuckAfter_X0_waitsNow
theorem dX3_stuckAfter_0 : decode cX3_stuckAfter 0 = .ok (.iload_n 1, 1) := by decide +kernel
theorem dX3_stuckAfter_1 : decode cX3_stuckAfter 1 = .ok (.istore_n 2, 1) := by decide +kernel
theorem dX3_stuckAfter_2 : decode cX3_stuckAfter 2 = .ok (.iconst (-1), 1) := by decide +kernel
theorem dX3_stuckAfter_3 : decode cX3_stuckAfter 3 = .ok (.istore_n 3, 1) := by decide +kernel
theorem dX3_stuckAfter_4 : decode cX3_stuckAfter 4 = .ok (.iconst 0, 1) := by decide +kernel
