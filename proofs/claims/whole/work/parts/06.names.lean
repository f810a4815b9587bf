theorem dX9_want_83 : decode cX9_want 83 = .ok (.bipush 126, 2) := by decide +kernel
theorem dX9_want_85 : decode cX9_want 85 = .ok (.iconst 4, 1) := by decide +kernel
theorem dX9_want_86 : decode cX9_want 86 = .ok (.aload_n 0, 1) := by decide +kernel
theorem dX9_want_87 : decode cX9_want 87 = .ok (.getfield 7, 3) := by decide +kernel
theorem dX9_want_90 : decode cX9_want 90 = .ok (.iconst 4, 1) := by decide +kernel
theorem dX9_want_91 : decode cX9_want 91 = .ok (.iaload, 1) := by decide +kernel
theorem dX9_want_92 : decode cX9_want 92 = .ok (.imul, 1) := by decide +kernel
theorem dX9_want_93 : decode cX9_want 93 = .ok (.iadd, 1) := by decide +kernel
theorem dX9_want_94 : decode cX9_want 94 = .ok (.istore 5, 2) := by decide +kernel
theorem dX9_want_96 : decode cX9_want 96 = .ok (.aload_n 0, 1) := by decide +kernel
theorem dX9_want_97 : decode cX9_want 97 = .ok (.getfield 7, 3) := by decide +kernel
theorem dX9_want_100 : decode cX9_want 100 = .ok (.iload 5, 2) := by decide +kernel
theorem dX9_want_102 : decode cX9_want 102 = .ok (.iload_n 1, 1) := by decide +kernel
theorem dX9_want_103 : decode cX9_want 103 = .ok (.iastore, 1) := by decide +kernel
theorem dX9_want_104 : decode cX9_want 104 = .ok (.aload_n 0, 1) := by decide +kernel
theorem dX9_want_105 : decode cX9_want 105 = .ok (.getfield 7, 3) := by decide +kernel
theorem dX9_want_108 : decode cX9_want 108 = .ok (.iload 5, 2) := by decide +kernel
theorem dX9_want_110 : decode cX9_want 110 = .ok (.iconst 1, 1) := by decide +kernel
theorem dX9_want_111 : decode cX9_want 111 = .ok (.iadd, 1) := by decide +kernel
theorem dX9_want_112 : decode cX9_want 112 = .ok (.iload_n 2, 1) := by decide +kernel
theorem dX9_want_113 : decode cX9_want 113 = .ok (.iastore, 1) := by decide +kernel
theorem dX9_want_114 : decode cX9_want 114 = .ok (.aload_n 0, 1) := by decide +kernel
theorem dX9_want_115 : decode cX9_want 115 = .ok (.getfield 7, 3) := by decide +kernel
theorem dX9_want_118 : decode cX9_want 118 = .ok (.iload 5, 2) := by decide +kernel
theorem dX9_want_120 : decode cX9_want 120 = .ok (.iconst 2, 1) := by decide +kernel
theorem dX9_want_121 : decode cX9_want 121 = .ok (.iadd, 1) := by decide +kernel
theorem dX9_want_122 : decode cX9_want 122 = .ok (.iload_n 3, 1) := by decide +kernel
theorem dX9_want_123 : decode cX9_want 123 = .ok (.iastore, 1) := by decide +kernel
theorem dX9_want_124 : decode cX9_want 124 = .ok (.aload_n 0, 1) := by decide +kernel
theorem dX9_want_125 : decode cX9_want 125 = .ok (.getfield 7, 3) := by decide +kernel
theorem dX9_want_128 : decode cX9_want 128 = .ok (.iload 5, 2) := by decide +kernel
theorem dX9_want_130 : decode cX9_want 130 = .ok (.iconst 3, 1) := by decide +kernel
theorem dX9_want_131 : decode cX9_want 131 = .ok (.iadd, 1) := by decide +kernel
theorem dX9_want_132 : decode cX9_want 132 = .ok (.iload 4, 2) := by decide +kernel
theorem dX9_want_134 : decode cX9_want 134 = .ok (.iastore, 1) := by decide +kernel
theorem dX9_want_135 : decode cX9_want 135 = .ok (.aload_n 0, 1) := by decide +kernel
theorem dX9_want_136 : decode cX9_want 136 = .ok (.getfield 7, 3) := by decide +kernel
theorem dX9_want_139 : decode cX9_want 139 = .ok (.iconst 4, 1) := by decide +kernel
theorem dX9_want_140 : decode cX9_want 140 = .ok (.dup2, 1) := by decide +kernel
theorem dX9_want_141 : decode cX9_want 141 = .ok (.iaload, 1) := by decide +kernel
theorem dX9_want_142 : decode cX9_want 142 = .ok (.iconst 1, 1) := by decide +kernel
theorem dX9_want_143 : decode cX9_want 143 = .ok (.iadd, 1) := by decide +kernel
theorem dX9_want_144 : decode cX9_want 144 = .ok (.iastore, 1) := by decide +kernel
theorem dX9_want_145 : decode cX9_want 145 = .ok (.aload_n 0, 1) := by decide +kernel
theorem dX9_want_146 : decode cX9_want 146 = .ok (.getfield 7, 3) := by decide +kernel
theorem dX9_want_149 : decode cX9_want 149 = .ok (.iconst 4, 1) := by decide +kernel
theorem dX9_want_150 : decode cX9_want 150 = .ok (.iaload, 1) := by decide +kernel
theorem dX9_want_151 : decode cX9_want 151 = .ok (.iconst 1, 1) := by decide +kernel
theorem dX9_want_152 : decode cX9_want 152 = .ok (.isub, 1) := by decide +kernel
theorem dX9_want_153 : decode cX9_want 153 = .ok (.ireturn, 1) := by decide +kernel
set_option maxRecDepth 20000 in
theorem ggX9_canBe_X9_mayOf : GoodIn wsX9_canBe wsX9_mayOf := goodIn_r _ [7, 1, 8, 9, 10, 11, 12, 13, 14, 15, 16, 17, 18, 19, 20, 21, 22, 23, 24, 25, 26, 27, 28, 29, 30] (by decide +kernel) (by decide +kernel)
set_option maxRecDepth 20000 in
theorem gX9_canBe_X9_mayOf : GoodIn wsX9_canBe (wsV RX9 88 RX9 yX9_mayOf wsX9_mayOf) := goodIn_app (goodIn_of _ (by decide +kernel)) ggX9_canBe_X9_mayOf
theorem dX9_canBe_0 : decode cX9_canBe 0 = .ok (.iconst 1, 1) := by decide +kernel
theorem dX9_canBe_1 : decode cX9_canBe 1 = .ok (.istore_n 1, 1) := by decide +kernel
theorem dX9_canBe_2 : decode cX9_canBe 2 = .ok (.iconst 0, 1) := by decide +kernel
theorem dX9_canBe_3 : decode cX9_canBe 3 = .ok (.istore_n 2, 1) := by decide +kernel
theorem dX9_canBe_4 : decode cX9_canBe 4 = .ok (.iload_n 2, 1) := by decide +kernel
theorem dX9_canBe_5 : decode cX9_canBe 5 = .ok (.aload_n 0, 1) := by decide +kernel
theorem dX9_canBe_6 : decode cX9_canBe 6 = .ok (.getfield 7, 3) := by decide +kernel
theorem dX9_canBe_9 : decode cX9_canBe 9 = .ok (.iconst 4, 1) := by decide +kernel
theorem dX9_canBe_10 : decode cX9_canBe 10 = .ok (.iaload, 1) := by decide +kernel
theorem dX9_canBe_11 : decode cX9_canBe 11 = .ok (.if_icmp .ge 188, 3) := by decide +kernel
theorem dX9_canBe_14 : decode cX9_canBe 14 = .ok (.iconst 0, 1) := by decide +kernel
theorem dX9_canBe_15 : decode cX9_canBe 15 = .ok (.istore_n 3, 1) := by decide +kernel
theorem dX9_canBe_16 : decode cX9_canBe 16 = .ok (.iload_n 3, 1) := by decide +kernel
theorem dX9_canBe_17 : decode cX9_canBe 17 = .ok (.aload_n 0, 1) := by decide +kernel
theorem dX9_canBe_18 : decode cX9_canBe 18 = .ok (.getfield 7, 3) := by decide +kernel
theorem dX9_canBe_21 : decode cX9_canBe 21 = .ok (.iconst 0, 1) := by decide +kernel
theorem dX9_canBe_22 : decode cX9_canBe 22 = .ok (.iaload, 1) := by decide +kernel
theorem dX9_canBe_23 : decode cX9_canBe 23 = .ok (.if_icmp .ge 170, 3) := by decide +kernel
theorem dX9_canBe_26 : decode cX9_canBe 26 = .ok (.iconst 0, 1) := by decide +kernel
theorem dX9_canBe_27 : decode cX9_canBe 27 = .ok (.istore 4, 2) := by decide +kernel
theorem dX9_canBe_29 : decode cX9_canBe 29 = .ok (.iconst 0, 1) := by decide +kernel
theorem dX9_canBe_30 : decode cX9_canBe 30 = .ok (.istore 5, 2) := by decide +kernel
theorem dX9_canBe_32 : decode cX9_canBe 32 = .ok (.iload 5, 2) := by decide +kernel
theorem dX9_canBe_34 : decode cX9_canBe 34 = .ok (.aload_n 0, 1) := by decide +kernel
theorem dX9_canBe_35 : decode cX9_canBe 35 = .ok (.getfield 7, 3) := by decide +kernel
theorem dX9_canBe_38 : decode cX9_canBe 38 = .ok (.iconst 4, 1) := by decide +kernel
theorem dX9_canBe_39 : decode cX9_canBe 39 = .ok (.iaload, 1) := by decide +kernel
theorem dX9_canBe_40 : decode cX9_canBe 40 = .ok (.if_icmp .ge 127, 3) := by decide +kernel
theorem dX9_canBe_43 : decode cX9_canBe 43 = .ok (.aload_n 0, 1) := by decide +kernel
theorem dX9_canBe_44 : decode cX9_canBe 44 = .ok (.getfield 41, 3) := by decide +kernel
theorem dX9_canBe_47 : decode cX9_canBe 47 = .ok (.iload 5, 2) := by decide +kernel
theorem dX9_canBe_49 : decode cX9_canBe 49 = .ok (.iaload, 1) := by decide +kernel
theorem dX9_canBe_50 : decode cX9_canBe 50 = .ok (.aload_n 0, 1) := by decide +kernel
theorem dX9_canBe_51 : decode cX9_canBe 51 = .ok (.getfield 41, 3) := by decide +kernel
theorem dX9_canBe_54 : decode cX9_canBe 54 = .ok (.iload_n 2, 1) := by decide +kernel
theorem dX9_canBe_55 : decode cX9_canBe 55 = .ok (.iaload, 1) := by decide +kernel
theorem dX9_canBe_56 : decode cX9_canBe 56 = .ok (.if_icmp .ne 18, 3) := by decide +kernel
theorem dX9_canBe_59 : decode cX9_canBe 59 = .ok (.aload_n 0, 1) := by decide +kernel
theorem dX9_canBe_60 : decode cX9_canBe 60 = .ok (.getfield 41, 3) := by decide +kernel
theorem dX9_canBe_63 : decode cX9_canBe 63 = .ok (.iload_n 2, 1) := by decide +kernel
theorem dX9_canBe_64 : decode cX9_canBe 64 = .ok (.iaload, 1) := by decide +kernel
theorem dX9_canBe_65 : decode cX9_canBe 65 = .ok (.bipush 24, 2) := by decide +kernel
theorem dX9_canBe_67 : decode cX9_canBe 67 = .ok (.if_icmp .ge 7, 3) := by decide +kernel
theorem dX9_canBe_70 : decode cX9_canBe 70 = .ok (.iconst 1, 1) := by decide +kernel
theorem dX9_canBe_71 : decode cX9_canBe 71 = .ok (.goto 4, 3) := by decide +kernel
theorem dX9_canBe_74 : decode cX9_canBe 74 = .ok (.iconst 0, 1) := by decide +kernel
theorem dX9_canBe_75 : decode cX9_canBe 75 = .ok (.istore 6, 2) := by decide +kernel
theorem dX9_canBe_77 : decode cX9_canBe 77 = .ok (.iload 4, 2) := by decide +kernel
theorem dX9_canBe_79 : decode cX9_canBe 79 = .ok (.iload 6, 2) := by decide +kernel
theorem dX9_canBe_81 : decode cX9_canBe 81 = .ok (.ifCond .eq 29, 3) := by decide +kernel
theorem dX9_canBe_84 : decode cX9_canBe 84 = .ok (.aload_n 0, 1) := by decide +kernel
theorem dX9_canBe_85 : decode cX9_canBe 85 = .ok (.getfield 7, 3) := by decide +kernel
theorem dX9_canBe_88 : decode cX9_canBe 88 = .ok (.bipush 126, 2) := by decide +kernel
theorem dX9_canBe_90 : decode cX9_canBe 90 = .ok (.iconst 4, 1) := by decide +kernel
theorem dX9_canBe_91 : decode cX9_canBe 91 = .ok (.iload 5, 2) := by decide +kernel
theorem dX9_canBe_93 : decode cX9_canBe 93 = .ok (.imul, 1) := by decide +kernel
theorem dX9_canBe_94 : decode cX9_canBe 94 = .ok (.iadd, 1) := by decide +kernel
theorem dX9_canBe_95 : decode cX9_canBe 95 = .ok (.iconst 1, 1) := by decide +kernel
theorem dX9_canBe_96 : decode cX9_canBe 96 = .ok (.iadd, 1) := by decide +kernel
theorem dX9_canBe_97 : decode cX9_canBe 97 = .ok (.iaload, 1) := by decide +kernel
theorem dX9_canBe_98 : decode cX9_canBe 98 = .ok (.iload_n 3, 1) := by decide +kernel
theorem dX9_canBe_99 : decode cX9_canBe 99 = .ok (.ishr, 1) := by decide +kernel
theorem dX9_canBe_100 : decode cX9_canBe 100 = .ok (.iconst 1, 1) := by decide +kernel
theorem dX9_canBe_101 : decode cX9_canBe 101 = .ok (.iand, 1) := by decide +kernel
theorem dX9_canBe_102 : decode cX9_canBe 102 = .ok (.iconst 1, 1) := by decide +kernel
theorem dX9_canBe_103 : decode cX9_canBe 103 = .ok (.if_icmp .ne 7, 3) := by decide +kernel
theorem dX9_canBe_106 : decode cX9_canBe 106 = .ok (.iconst 1, 1) := by decide +kernel
theorem dX9_canBe_107 : decode cX9_canBe 107 = .ok (.goto 4, 3) := by decide +kernel
theorem dX9_canBe_110 : decode cX9_canBe 110 = .ok (.iconst 0, 1) := by decide +kernel
theorem dX9_canBe_111 : decode cX9_canBe 111 = .ok (.iadd, 1) := by decide +kernel
theorem dX9_canBe_112 : decode cX9_canBe 112 = .ok (.istore 4, 2) := by decide +kernel
theorem dX9_canBe_114 : decode cX9_canBe 114 = .ok (.iload_n 1, 1) := by decide +kernel
theorem dX9_canBe_115 : decode cX9_canBe 115 = .ok (.ifCond .eq 44, 3) := by decide +kernel
theorem dX9_canBe_118 : decode cX9_canBe 118 = .ok (.iload 6, 2) := by decide +kernel
theorem dX9_canBe_120 : decode cX9_canBe 120 = .ok (.ifCond .eq 35, 3) := by decide +kernel
theorem dX9_canBe_123 : decode cX9_canBe 123 = .ok (.iload 5, 2) := by decide +kernel
theorem dX9_canBe_125 : decode cX9_canBe 125 = .ok (.iload_n 2, 1) := by decide +kernel
theorem dX9_canBe_126 : decode cX9_canBe 126 = .ok (.if_icmp .eq 29, 3) := by decide +kernel
theorem dX9_canBe_129 : decode cX9_canBe 129 = .ok (.aload_n 0, 1) := by decide +kernel
theorem dX9_canBe_130 : decode cX9_canBe 130 = .ok (.getfield 7, 3) := by decide +kernel
theorem dX9_canBe_133 : decode cX9_canBe 133 = .ok (.bipush 126, 2) := by decide +kernel
theorem dX9_canBe_135 : decode cX9_canBe 135 = .ok (.iconst 4, 1) := by decide +kernel
theorem dX9_canBe_136 : decode cX9_canBe 136 = .ok (.iload 5, 2) := by decide +kernel
theorem dX9_canBe_138 : decode cX9_canBe 138 = .ok (.imul, 1) := by decide +kernel
theorem dX9_canBe_139 : decode cX9_canBe 139 = .ok (.iadd, 1) := by decide +kernel
theorem dX9_canBe_140 : decode cX9_canBe 140 = .ok (.iaload, 1) := by decide +kernel
theorem dX9_canBe_141 : decode cX9_canBe 141 = .ok (.aload_n 0, 1) := by decide +kernel
theorem dX9_canBe_142 : decode cX9_canBe 142 = .ok (.getfield 7, 3) := by decide +kernel
theorem dX9_canBe_145 : decode cX9_canBe 145 = .ok (.bipush 126, 2) := by decide +kernel
theorem dX9_canBe_147 : decode cX9_canBe 147 = .ok (.iconst 4, 1) := by decide +kernel
theorem dX9_canBe_148 : decode cX9_canBe 148 = .ok (.iload_n 2, 1) := by decide +kernel
theorem dX9_canBe_149 : decode cX9_canBe 149 = .ok (.imul, 1) := by decide +kernel
theorem dX9_canBe_150 : decode cX9_canBe 150 = .ok (.iadd, 1) := by decide +kernel
theorem dX9_canBe_151 : decode cX9_canBe 151 = .ok (.iaload, 1) := by decide +kernel
theorem dX9_canBe_152 : decode cX9_canBe 152 = .ok (.if_icmp .eq 7, 3) := by decide +kernel
theorem dX9_canBe_155 : decode cX9_canBe 155 = .ok (.iconst 1, 1) := by decide +kernel
theorem dX9_canBe_156 : decode cX9_canBe 156 = .ok (.goto 4, 3) := by decide +kernel
theorem dX9_canBe_159 : decode cX9_canBe 159 = .ok (.iconst 0, 1) := by decide +kernel
theorem dX9_canBe_160 : decode cX9_canBe 160 = .ok (.istore_n 1, 1) := by decide +kernel
theorem dX9_canBe_161 : decode cX9_canBe 161 = .ok (.iinc 5 1, 3) := by decide +kernel
theorem dX9_canBe_164 : decode cX9_canBe 164 = .ok (.goto (-132), 3) := by decide +kernel
theorem dX9_canBe_167 : decode cX9_canBe 167 = .ok (.iload_n 1, 1) := by decide +kernel
theorem dX9_canBe_168 : decode cX9_canBe 168 = .ok (.ifCond .eq 17, 3) := by decide +kernel
theorem dX9_canBe_171 : decode cX9_canBe 171 = .ok (.iload 4, 2) := by decide +kernel
theorem dX9_canBe_173 : decode cX9_canBe 173 = .ok (.aload_n 0, 1) := by decide +kernel
theorem dX9_canBe_174 : decode cX9_canBe 174 = .ok (.iload_n 3, 1) := by decide +kernel
theorem dX9_canBe_175 : decode cX9_canBe 175 = .ok (.invokevirtual 88, 3) := by decide +kernel
theorem dX9_canBe_178 : decode cX9_canBe 178 = .ok (.if_icmp .gt 7, 3) := by decide +kernel
theorem dX9_canBe_181 : decode cX9_canBe 181 = .ok (.iconst 1, 1) := by decide +kernel
theorem dX9_canBe_182 : decode cX9_canBe 182 = .ok (.goto 4, 3) := by decide +kernel
theorem dX9_canBe_185 : decode cX9_canBe 185 = .ok (.iconst 0, 1) := by decide +kernel
theorem dX9_canBe_186 : decode cX9_canBe 186 = .ok (.istore_n 1, 1) := by decide +kernel
theorem dX9_canBe_187 : decode cX9_canBe 187 = .ok (.iinc 3 1, 3) := by decide +kernel
theorem dX9_canBe_190 : decode cX9_canBe 190 = .ok (.goto (-174), 3) := by decide +kernel
theorem dX9_canBe_193 : decode cX9_canBe 193 = .ok (.iinc 2 1, 3) := by decide +kernel
theorem dX9_canBe_196 : decode cX9_canBe 196 = .ok (.goto (-192), 3) := by decide +kernel
theorem dX9_canBe_199 : decode cX9_canBe 199 = .ok (.iload_n 1, 1) := by decide +kernel
theorem dX9_canBe_200 : decode cX9_canBe 200 = .ok (.ireturn, 1) := by decide +kernel
set_option maxRecDepth 20000 in
theorem ggX9_plans_X9_canBe : GoodIn wsX9_plans wsX9_canBe := goodIn_r _ [8, 1, 2, 9, 10, 11, 7, 12, 13, 14, 15, 16, 17, 18, 19, 20, 21, 22, 23, 24, 25, 26, 27, 28, 29, 30, 31, 32, 33, 34, 35] (by decide +kernel) (by decide +kernel)
set_option maxRecDepth 20000 in
theorem gX9_plans_X9_canBe : GoodIn wsX9_plans (wsV RX9 197 RX9 yX9_canBe wsX9_canBe) := goodIn_app (goodIn_of _ (by decide +kernel)) ggX9_plans_X9_canBe
theorem dX9_plans_0 : decode cX9_plans 0 = .ok (.iconst 1, 1) := by decide +kernel
theorem dX9_plans_1 : decode cX9_plans 1 = .ok (.istore_n 1, 1) := by decide +kernel
theorem dX9_plans_2 : decode cX9_plans 2 = .ok (.aload_n 0, 1) := by decide +kernel
theorem dX9_plans_3 : decode cX9_plans 3 = .ok (.getfield 7, 3) := by decide +kernel
theorem dX9_plans_6 : decode cX9_plans 6 = .ok (.iconst 4, 1) := by decide +kernel
theorem dX9_plans_7 : decode cX9_plans 7 = .ok (.iaload, 1) := by decide +kernel
theorem dX9_plans_8 : decode cX9_plans 8 = .ok (.istore_n 2, 1) := by decide +kernel
theorem dX9_plans_9 : decode cX9_plans 9 = .ok (.iconst 0, 1) := by decide +kernel
theorem dX9_plans_10 : decode cX9_plans 10 = .ok (.istore_n 3, 1) := by decide +kernel
theorem dX9_plans_11 : decode cX9_plans 11 = .ok (.iload_n 3, 1) := by decide +kernel
theorem dX9_plans_12 : decode cX9_plans 12 = .ok (.iload_n 2, 1) := by decide +kernel
theorem dX9_plans_13 : decode cX9_plans 13 = .ok (.if_icmp .ge 41, 3) := by decide +kernel
theorem dX9_plans_16 : decode cX9_plans 16 = .ok (.iload_n 1, 1) := by decide +kernel
theorem dX9_plans_17 : decode cX9_plans 17 = .ok (.aload_n 0, 1) := by decide +kernel
theorem dX9_plans_18 : decode cX9_plans 18 = .ok (.getfield 7, 3) := by decide +kernel
theorem dX9_plans_21 : decode cX9_plans 21 = .ok (.bipush 126, 2) := by decide +kernel
theorem dX9_plans_23 : decode cX9_plans 23 = .ok (.iconst 4, 1) := by decide +kernel
theorem dX9_plans_24 : decode cX9_plans 24 = .ok (.iload_n 3, 1) := by decide +kernel
theorem dX9_plans_25 : decode cX9_plans 25 = .ok (.imul, 1) := by decide +kernel
theorem dX9_plans_26 : decode cX9_plans 26 = .ok (.iadd, 1) := by decide +kernel
theorem dX9_plans_27 : decode cX9_plans 27 = .ok (.iconst 3, 1) := by decide +kernel
theorem dX9_plans_28 : decode cX9_plans 28 = .ok (.iadd, 1) := by decide +kernel
theorem dX9_plans_29 : decode cX9_plans 29 = .ok (.iaload, 1) := by decide +kernel
theorem dX9_plans_30 : decode cX9_plans 30 = .ok (.aload_n 0, 1) := by decide +kernel
theorem dX9_plans_31 : decode cX9_plans 31 = .ok (.getfield 7, 3) := by decide +kernel
theorem dX9_plans_34 : decode cX9_plans 34 = .ok (.bipush 126, 2) := by decide +kernel
theorem dX9_plans_36 : decode cX9_plans 36 = .ok (.iconst 4, 1) := by decide +kernel
theorem dX9_plans_37 : decode cX9_plans 37 = .ok (.iload_n 3, 1) := by decide +kernel
theorem dX9_plans_38 : decode cX9_plans 38 = .ok (.imul, 1) := by decide +kernel
theorem dX9_plans_39 : decode cX9_plans 39 = .ok (.iadd, 1) := by decide +kernel
theorem dX9_plans_40 : decode cX9_plans 40 = .ok (.iconst 2, 1) := by decide +kernel
theorem dX9_plans_41 : decode cX9_plans 41 = .ok (.iadd, 1) := by decide +kernel
theorem dX9_plans_42 : decode cX9_plans 42 = .ok (.iaload, 1) := by decide +kernel
theorem dX9_plans_43 : decode cX9_plans 43 = .ok (.isub, 1) := by decide +kernel
theorem dX9_plans_44 : decode cX9_plans 44 = .ok (.iconst 2, 1) := by decide +kernel
theorem dX9_plans_45 : decode cX9_plans 45 = .ok (.iadd, 1) := by decide +kernel
theorem dX9_plans_46 : decode cX9_plans 46 = .ok (.imul, 1) := by decide +kernel
theorem dX9_plans_47 : decode cX9_plans 47 = .ok (.istore_n 1, 1) := by decide +kernel
theorem dX9_plans_48 : decode cX9_plans 48 = .ok (.iinc 3 1, 3) := by decide +kernel
theorem dX9_plans_51 : decode cX9_plans 51 = .ok (.goto (-40), 3) := by decide +kernel
theorem dX9_plans_54 : decode cX9_plans 54 = .ok (.iconst (-1), 1) := by decide +kernel
theorem dX9_plans_55 : decode cX9_plans 55 = .ok (.istore_n 3, 1) := by decide +kernel
theorem dX9_plans_56 : decode cX9_plans 56 = .ok (.iconst 0, 1) := by decide +kernel
theorem dX9_plans_57 : decode cX9_plans 57 = .ok (.istore 4, 2) := by decide +kernel
theorem dX9_plans_59 : decode cX9_plans 59 = .ok (.iload 4, 2) := by decide +kernel
theorem dX9_plans_61 : decode cX9_plans 61 = .ok (.iload_n 1, 1) := by decide +kernel
theorem dX9_plans_62 : decode cX9_plans 62 = .ok (.if_icmp .ge 175, 3) := by decide +kernel
theorem dX9_plans_65 : decode cX9_plans 65 = .ok (.iload 4, 2) := by decide +kernel
theorem dX9_plans_67 : decode cX9_plans 67 = .ok (.istore 5, 2) := by decide +kernel
theorem dX9_plans_69 : decode cX9_plans 69 = .ok (.iconst 0, 1) := by decide +kernel
theorem dX9_plans_70 : decode cX9_plans 70 = .ok (.istore 6, 2) := by decide +kernel
theorem dX9_plans_72 : decode cX9_plans 72 = .ok (.iload_n 2, 1) := by decide +kernel
theorem dX9_plans_73 : decode cX9_plans 73 = .ok (.iconst 1, 1) := by decide +kernel
theorem dX9_plans_74 : decode cX9_plans 74 = .ok (.isub, 1) := by decide +kernel
theorem dX9_plans_75 : decode cX9_plans 75 = .ok (.istore 7, 2) := by decide +kernel
theorem dX9_plans_77 : decode cX9_plans 77 = .ok (.iload 7, 2) := by decide +kernel
theorem dX9_plans_79 : decode cX9_plans 79 = .ok (.ifCond .lt 107, 3) := by decide +kernel
theorem dX9_plans_82 : decode cX9_plans 82 = .ok (.aload_n 0, 1) := by decide +kernel
theorem dX9_plans_83 : decode cX9_plans 83 = .ok (.getfield 7, 3) := by decide +kernel
theorem dX9_plans_86 : decode cX9_plans 86 = .ok (.bipush 126, 2) := by decide +kernel
theorem dX9_plans_88 : decode cX9_plans 88 = .ok (.iconst 4, 1) := by decide +kernel
theorem dX9_plans_89 : decode cX9_plans 89 = .ok (.iload 7, 2) := by decide +kernel
theorem dX9_plans_91 : decode cX9_plans 91 = .ok (.imul, 1) := by decide +kernel
theorem dX9_plans_92 : decode cX9_plans 92 = .ok (.iadd, 1) := by decide +kernel
theorem dX9_plans_93 : decode cX9_plans 93 = .ok (.iconst 2, 1) := by decide +kernel
theorem dX9_plans_94 : decode cX9_plans 94 = .ok (.iadd, 1) := by decide +kernel
theorem dX9_plans_95 : decode cX9_plans 95 = .ok (.iaload, 1) := by decide +kernel
theorem dX9_plans_96 : decode cX9_plans 96 = .ok (.istore 8, 2) := by decide +kernel
theorem dX9_plans_98 : decode cX9_plans 98 = .ok (.aload_n 0, 1) := by decide +kernel
theorem dX9_plans_99 : decode cX9_plans 99 = .ok (.getfield 7, 3) := by decide +kernel
theorem dX9_plans_102 : decode cX9_plans 102 = .ok (.bipush 126, 2) := by decide +kernel
theorem dX9_plans_104 : decode cX9_plans 104 = .ok (.iconst 4, 1) := by decide +kernel
theorem dX9_plans_105 : decode cX9_plans 105 = .ok (.iload 7, 2) := by decide +kernel
theorem dX9_plans_107 : decode cX9_plans 107 = .ok (.imul, 1) := by decide +kernel
theorem dX9_plans_108 : decode cX9_plans 108 = .ok (.iadd, 1) := by decide +kernel
theorem dX9_plans_109 : decode cX9_plans 109 = .ok (.iconst 3, 1) := by decide +kernel
theorem dX9_plans_110 : decode cX9_plans 110 = .ok (.iadd, 1) := by decide +kernel
theorem dX9_plans_111 : decode cX9_plans 111 = .ok (.iaload, 1) := by decide +kernel
theorem dX9_plans_112 : decode cX9_plans 112 = .ok (.iload 8, 2) := by decide +kernel
theorem dX9_plans_114 : decode cX9_plans 114 = .ok (.isub, 1) := by decide +kernel
theorem dX9_plans_115 : decode cX9_plans 115 = .ok (.iconst 2, 1) := by decide +kernel
theorem dX9_plans_116 : decode cX9_plans 116 = .ok (.iadd, 1) := by decide +kernel
theorem dX9_plans_117 : decode cX9_plans 117 = .ok (.istore 9, 2) := by decide +kernel
theorem dX9_plans_119 : decode cX9_plans 119 = .ok (.aload_n 0, 1) := by decide +kernel
theorem dX9_plans_120 : decode cX9_plans 120 = .ok (.getfield 41, 3) := by decide +kernel
theorem dX9_plans_123 : decode cX9_plans 123 = .ok (.iload 7, 2) := by decide +kernel
theorem dX9_plans_125 : decode cX9_plans 125 = .ok (.iload 5, 2) := by decide +kernel
theorem dX9_plans_127 : decode cX9_plans 127 = .ok (.iload 9, 2) := by decide +kernel
theorem dX9_plans_129 : decode cX9_plans 129 = .ok (.irem, 1) := by decide +kernel
theorem dX9_plans_130 : decode cX9_plans 130 = .ok (.iload 9, 2) := by decide +kernel
theorem dX9_plans_132 : decode cX9_plans 132 = .ok (.iconst 1, 1) := by decide +kernel
theorem dX9_plans_133 : decode cX9_plans 133 = .ok (.isub, 1) := by decide +kernel
theorem dX9_plans_134 : decode cX9_plans 134 = .ok (.if_icmp .ne 8, 3) := by decide +kernel
theorem dX9_plans_137 : decode cX9_plans 137 = .ok (.bipush 24, 2) := by decide +kernel
theorem dX9_plans_139 : decode cX9_plans 139 = .ok (.goto 11, 3) := by decide +kernel
theorem dX9_plans_142 : decode cX9_plans 142 = .ok (.iload 8, 2) := by decide +kernel
theorem dX9_plans_144 : decode cX9_plans 144 = .ok (.iload 5, 2) := by decide +kernel
theorem dX9_plans_146 : decode cX9_plans 146 = .ok (.iload 9, 2) := by decide +kernel
theorem dX9_plans_148 : decode cX9_plans 148 = .ok (.irem, 1) := by decide +kernel
theorem dX9_plans_149 : decode cX9_plans 149 = .ok (.iadd, 1) := by decide +kernel
theorem dX9_plans_150 : decode cX9_plans 150 = .ok (.iastore, 1) := by decide +kernel
theorem dX9_plans_151 : decode cX9_plans 151 = .ok (.iload 6, 2) := by decide +kernel
theorem dX9_plans_153 : decode cX9_plans 153 = .ok (.aload_n 0, 1) := by decide +kernel
theorem dX9_plans_154 : decode cX9_plans 154 = .ok (.getfield 41, 3) := by decide +kernel
theorem dX9_plans_157 : decode cX9_plans 157 = .ok (.iload 7, 2) := by decide +kernel
theorem dX9_plans_159 : decode cX9_plans 159 = .ok (.iaload, 1) := by decide +kernel
theorem dX9_plans_160 : decode cX9_plans 160 = .ok (.bipush 24, 2) := by decide +kernel
theorem dX9_plans_162 : decode cX9_plans 162 = .ok (.if_icmp .ge 7, 3) := by decide +kernel
theorem dX9_plans_165 : decode cX9_plans 165 = .ok (.iconst 1, 1) := by decide +kernel
theorem dX9_plans_166 : decode cX9_plans 166 = .ok (.goto 4, 3) := by decide +kernel
theorem dX9_plans_169 : decode cX9_plans 169 = .ok (.iconst 0, 1) := by decide +kernel
theorem dX9_plans_170 : decode cX9_plans 170 = .ok (.iadd, 1) := by decide +kernel
theorem dX9_plans_171 : decode cX9_plans 171 = .ok (.istore 6, 2) := by decide +kernel
theorem dX9_plans_173 : decode cX9_plans 173 = .ok (.iload 5, 2) := by decide +kernel
theorem dX9_plans_175 : decode cX9_plans 175 = .ok (.iload 9, 2) := by decide +kernel
theorem dX9_plans_177 : decode cX9_plans 177 = .ok (.idiv, 1) := by decide +kernel
theorem dX9_plans_178 : decode cX9_plans 178 = .ok (.istore 5, 2) := by decide +kernel
theorem dX9_plans_180 : decode cX9_plans 180 = .ok (.iinc 7 (-1), 3) := by decide +kernel
theorem dX9_plans_183 : decode cX9_plans 183 = .ok (.goto (-106), 3) := by decide +kernel
theorem dX9_plans_186 : decode cX9_plans 186 = .ok (.iload 6, 2) := by decide +kernel
theorem dX9_plans_188 : decode cX9_plans 188 = .ok (.iload_n 3, 1) := by decide +kernel
theorem dX9_plans_189 : decode cX9_plans 189 = .ok (.if_icmp .le 42, 3) := by decide +kernel
theorem dX9_plans_192 : decode cX9_plans 192 = .ok (.aload_n 0, 1) := by decide +kernel
theorem dX9_plans_193 : decode cX9_plans 193 = .ok (.invokevirtual 197, 3) := by decide +kernel
theorem dX9_plans_196 : decode cX9_plans 196 = .ok (.ifCond .eq 35, 3) := by decide +kernel
theorem dX9_plans_199 : decode cX9_plans 199 = .ok (.iload 6, 2) := by decide +kernel
theorem dX9_plans_201 : decode cX9_plans 201 = .ok (.istore_n 3, 1) := by decide +kernel
theorem dX9_plans_202 : decode cX9_plans 202 = .ok (.iconst 0, 1) := by decide +kernel
theorem dX9_plans_203 : decode cX9_plans 203 = .ok (.istore 7, 2) := by decide +kernel
theorem dX9_plans_205 : decode cX9_plans 205 = .ok (.iload 7, 2) := by decide +kernel
theorem dX9_plans_207 : decode cX9_plans 207 = .ok (.iload_n 2, 1) := by decide +kernel
theorem dX9_plans_208 : decode cX9_plans 208 = .ok (.if_icmp .ge 23, 3) := by decide +kernel
theorem dX9_plans_211 : decode cX9_plans 211 = .ok (.aload_n 0, 1) := by decide +kernel
theorem dX9_plans_212 : decode cX9_plans 212 = .ok (.getfield 44, 3) := by decide +kernel
theorem dX9_plans_215 : decode cX9_plans 215 = .ok (.iload 7, 2) := by decide +kernel
theorem dX9_plans_217 : decode cX9_plans 217 = .ok (.aload_n 0, 1) := by decide +kernel
theorem dX9_plans_218 : decode cX9_plans 218 = .ok (.getfield 41, 3) := by decide +kernel
theorem dX9_plans_221 : decode cX9_plans 221 = .ok (.iload 7, 2) := by decide +kernel
theorem dX9_plans_223 : decode cX9_plans 223 = .ok (.iaload, 1) := by decide +kernel
theorem dX9_plans_224 : decode cX9_plans 224 = .ok (.iastore, 1) := by decide +kernel
theorem dX9_plans_225 : decode cX9_plans 225 = .ok (.iinc 7 1, 3) := by decide +kernel
theorem dX9_plans_228 : decode cX9_plans 228 = .ok (.goto (-23), 3) := by decide +kernel
theorem dX9_plans_231 : decode cX9_plans 231 = .ok (.iinc 4 1, 3) := by decide +kernel
theorem dX9_plans_234 : decode cX9_plans 234 = .ok (.goto (-175), 3) := by decide +kernel
theorem dX9_plans_237 : decode cX9_plans 237 = .ok (.iload_n 3, 1) := by decide +kernel
theorem dX9_plans_238 : decode cX9_plans 238 = .ok (.ireturn, 1) := by decide +kernel
set_option maxRecDepth 20000 in
theorem ggX9_plan_X9_is : GoodIn wsX9_plan wsX9_is := goodIn_r _ [7] (by decide +kernel) (by decide +kernel)
set_option maxRecDepth 20000 in
theorem gX9_plan_X9_is : GoodIn wsX9_plan (va_wsS RX9 65 yX9_is wsX9_is) := goodIn_app (goodIn_of _ (by decide +kernel)) ggX9_plan_X9_is
set_option maxRecDepth 20000 in
theorem ggX9_plan_X9_refuses : GoodIn wsX9_plan wsX9_refuses := goodIn_r _ [11, 12, 13, 27, 28, 29, 30, 31, 32, 33, 34, 35, 36, 37, 38, 39, 40, 41, 42, 43, 44, 45, 46, 47, 48, 49] (by decide +kernel) (by decide +kernel)
set_option maxRecDepth 20000 in
theorem gX9_plan_X9_refuses : GoodIn wsX9_plan (wsV RX9 61 RX9 yX9_refuses wsX9_refuses) := goodIn_app (goodIn_of _ (by decide +kernel)) ggX9_plan_X9_refuses
set_option maxRecDepth 20000 in
theorem ggX9_plan_X9_plans : GoodIn wsX9_plan wsX9_plans := goodIn_r _ [17, 2, 18, 3, 19, 20, 21, 6, 22, 23, 24, 25, 26, 27, 28, 29, 30, 31, 32, 33, 34, 35, 36, 37, 38, 39, 40, 41, 42, 43, 44, 45, 46, 47, 48, 49] (by decide +kernel) (by decide +kernel)
set_option maxRecDepth 20000 in
theorem gX9_plan_X9_plans : GoodIn wsX9_plan (wsV RX9 202 RX9 yX9_plans wsX9_plans) := goodIn_app (goodIn_of _ (by decide +kernel)) ggX9_plan_X9_plans
theorem dX9_plan_0 : decode cX9_plan 0 = .ok (.iload_n 1, 1) := by decide +kernel
theorem dX9_plan_1 : decode cX9_plan 1 = .ok (.i2l, 1) := by decide +kernel
theorem dX9_plan_2 : decode cX9_plan 2 = .ok (.ldc2_w 200, 3) := by decide +kernel
theorem dX9_plan_5 : decode cX9_plan 5 = .ok (.aload_n 0, 1) := by decide +kernel
theorem dX9_plan_6 : decode cX9_plan 6 = .ok (.getfield 7, 3) := by decide +kernel
theorem dX9_plan_9 : decode cX9_plan 9 = .ok (.iconst 4, 1) := by decide +kernel
theorem dX9_plan_10 : decode cX9_plan 10 = .ok (.iaload, 1) := by decide +kernel
theorem dX9_plan_11 : decode cX9_plan 11 = .ok (.iconst 1, 1) := by decide +kernel
theorem dX9_plan_12 : decode cX9_plan 12 = .ok (.isub, 1) := by decide +kernel
theorem dX9_plan_13 : decode cX9_plan 13 = .ok (.i2l, 1) := by decide +kernel
theorem dX9_plan_14 : decode cX9_plan 14 = .ok (.invokestatic 65, 3) := by decide +kernel
theorem dX9_plan_17 : decode cX9_plan 17 = .ok (.ifCond .ne 11, 3) := by decide +kernel
theorem dX9_plan_20 : decode cX9_plan 20 = .ok (.aload_n 0, 1) := by decide +kernel
theorem dX9_plan_21 : decode cX9_plan 21 = .ok (.iconst 0, 1) := by decide +kernel
theorem dX9_plan_22 : decode cX9_plan 22 = .ok (.bipush (-10), 2) := by decide +kernel
theorem dX9_plan_24 : decode cX9_plan 24 = .ok (.invokevirtual 61, 3) := by decide +kernel
theorem dX9_plan_27 : decode cX9_plan 27 = .ok (.ireturn, 1) := by decide +kernel
theorem dX9_plan_28 : decode cX9_plan 28 = .ok (.aload_n 0, 1) := by decide +kernel
theorem dX9_plan_29 : decode cX9_plan 29 = .ok (.invokevirtual 202, 3) := by decide +kernel
theorem dX9_plan_32 : decode cX9_plan 32 = .ok (.istore_n 2, 1) := by decide +kernel
theorem dX9_plan_33 : decode cX9_plan 33 = .ok (.iload_n 1, 1) := by decide +kernel
theorem dX9_plan_34 : decode cX9_plan 34 = .ok (.iconst (-1), 1) := by decide +kernel
theorem dX9_plan_35 : decode cX9_plan 35 = .ok (.if_icmp .ne 7, 3) := by decide +kernel
theorem dX9_plan_38 : decode cX9_plan 38 = .ok (.iload_n 2, 1) := by decide +kernel
theorem dX9_plan_39 : decode cX9_plan 39 = .ok (.goto 9, 3) := by decide +kernel
theorem dX9_plan_42 : decode cX9_plan 42 = .ok (.aload_n 0, 1) := by decide +kernel
theorem dX9_plan_43 : decode cX9_plan 43 = .ok (.getfield 44, 3) := by decide +kernel
theorem dX9_plan_46 : decode cX9_plan 46 = .ok (.iload_n 1, 1) := by decide +kernel
theorem dX9_plan_47 : decode cX9_plan 47 = .ok (.iaload, 1) := by decide +kernel
theorem dX9_plan_48 : decode cX9_plan 48 = .ok (.ireturn, 1) := by decide +kernel
set_option maxRecDepth 20000 in
theorem ggX9_buy_X9_plans : GoodIn wsX9_buy wsX9_plans := goodIn_r _ [6, 1, 7, 8, 9, 10, 11, 5, 12, 13, 14, 15, 16, 17, 18, 19, 20, 21, 22, 23, 24, 25, 26, 27, 28, 29, 30, 31, 32, 33, 34, 35, 36, 37, 38, 39] (by decide +kernel) (by decide +kernel)
set_option maxRecDepth 20000 in
theorem gX9_buy_X9_plans : GoodIn wsX9_buy (wsV RX9 202 RX9 yX9_plans wsX9_plans) := goodIn_app (goodIn_of _ (by decide +kernel)) ggX9_buy_X9_plans
theorem dX9_buy_0 : decode cX9_buy 0 = .ok (.aload_n 0, 1) := by decide +kernel
theorem dX9_buy_1 : decode cX9_buy 1 = .ok (.invokevirtual 202, 3) := by decide +kernel
theorem dX9_buy_4 : decode cX9_buy 4 = .ok (.istore_n 1, 1) := by decide +kernel
theorem dX9_buy_5 : decode cX9_buy 5 = .ok (.iconst (-1), 1) := by decide +kernel
theorem dX9_buy_6 : decode cX9_buy 6 = .ok (.istore_n 2, 1) := by decide +kernel
theorem dX9_buy_7 : decode cX9_buy 7 = .ok (.iconst 0, 1) := by decide +kernel
theorem dX9_buy_8 : decode cX9_buy 8 = .ok (.istore_n 3, 1) := by decide +kernel
theorem dX9_buy_9 : decode cX9_buy 9 = .ok (.iload_n 3, 1) := by decide +kernel
theorem dX9_buy_10 : decode cX9_buy 10 = .ok (.aload_n 0, 1) := by decide +kernel
theorem dX9_buy_11 : decode cX9_buy 11 = .ok (.getfield 7, 3) := by decide +kernel
theorem dX9_buy_14 : decode cX9_buy 14 = .ok (.iconst 0, 1) := by decide +kernel
theorem dX9_buy_15 : decode cX9_buy 15 = .ok (.iaload, 1) := by decide +kernel
theorem dX9_buy_16 : decode cX9_buy 16 = .ok (.if_icmp .ge 134, 3) := by decide +kernel
theorem dX9_buy_19 : decode cX9_buy 19 = .ok (.aload_n 0, 1) := by decide +kernel
theorem dX9_buy_20 : decode cX9_buy 20 = .ok (.getfield 7, 3) := by decide +kernel
theorem dX9_buy_23 : decode cX9_buy 23 = .ok (.bipush 8, 2) := by decide +kernel
theorem dX9_buy_25 : decode cX9_buy 25 = .ok (.iconst 3, 1) := by decide +kernel
theorem dX9_buy_26 : decode cX9_buy 26 = .ok (.iload_n 3, 1) := by decide +kernel
theorem dX9_buy_27 : decode cX9_buy 27 = .ok (.imul, 1) := by decide +kernel
theorem dX9_buy_28 : decode cX9_buy 28 = .ok (.iadd, 1) := by decide +kernel
theorem dX9_buy_29 : decode cX9_buy 29 = .ok (.iaload, 1) := by decide +kernel
theorem dX9_buy_30 : decode cX9_buy 30 = .ok (.istore 4, 2) := by decide +kernel
theorem dX9_buy_32 : decode cX9_buy 32 = .ok (.iload 4, 2) := by decide +kernel
theorem dX9_buy_34 : decode cX9_buy 34 = .ok (.iconst 2, 1) := by decide +kernel
theorem dX9_buy_35 : decode cX9_buy 35 = .ok (.if_icmp .eq 36, 3) := by decide +kernel
theorem dX9_buy_38 : decode cX9_buy 38 = .ok (.iload 4, 2) := by decide +kernel
theorem dX9_buy_40 : decode cX9_buy 40 = .ok (.iconst 4, 1) := by decide +kernel
theorem dX9_buy_41 : decode cX9_buy 41 = .ok (.if_icmp .eq 30, 3) := by decide +kernel
theorem dX9_buy_44 : decode cX9_buy 44 = .ok (.iload 4, 2) := by decide +kernel
theorem dX9_buy_46 : decode cX9_buy 46 = .ok (.iconst 5, 1) := by decide +kernel
theorem dX9_buy_47 : decode cX9_buy 47 = .ok (.if_icmp .eq 24, 3) := by decide +kernel
theorem dX9_buy_50 : decode cX9_buy 50 = .ok (.aload_n 0, 1) := by decide +kernel
theorem dX9_buy_51 : decode cX9_buy 51 = .ok (.getfield 7, 3) := by decide +kernel
theorem dX9_buy_54 : decode cX9_buy 54 = .ok (.bipush 8, 2) := by decide +kernel
theorem dX9_buy_56 : decode cX9_buy 56 = .ok (.iconst 3, 1) := by decide +kernel
theorem dX9_buy_57 : decode cX9_buy 57 = .ok (.iload_n 3, 1) := by decide +kernel
theorem dX9_buy_58 : decode cX9_buy 58 = .ok (.imul, 1) := by decide +kernel
theorem dX9_buy_59 : decode cX9_buy 59 = .ok (.iadd, 1) := by decide +kernel
theorem dX9_buy_60 : decode cX9_buy 60 = .ok (.iconst 1, 1) := by decide +kernel
theorem dX9_buy_61 : decode cX9_buy 61 = .ok (.iadd, 1) := by decide +kernel
theorem dX9_buy_62 : decode cX9_buy 62 = .ok (.iaload, 1) := by decide +kernel
theorem dX9_buy_63 : decode cX9_buy 63 = .ok (.iconst 3, 1) := by decide +kernel
theorem dX9_buy_64 : decode cX9_buy 64 = .ok (.if_icmp .ge 7, 3) := by decide +kernel
theorem dX9_buy_67 : decode cX9_buy 67 = .ok (.iconst 1, 1) := by decide +kernel
theorem dX9_buy_68 : decode cX9_buy 68 = .ok (.goto 4, 3) := by decide +kernel
theorem dX9_buy_71 : decode cX9_buy 71 = .ok (.iconst 0, 1) := by decide +kernel
theorem dX9_buy_72 : decode cX9_buy 72 = .ok (.istore 5, 2) := by decide +kernel
theorem dX9_buy_74 : decode cX9_buy 74 = .ok (.iload 5, 2) := by decide +kernel
theorem dX9_buy_76 : decode cX9_buy 76 = .ok (.ifCond .eq 68, 3) := by decide +kernel
theorem dX9_buy_79 : decode cX9_buy 79 = .ok (.aload_n 0, 1) := by decide +kernel
theorem dX9_buy_80 : decode cX9_buy 80 = .ok (.getfield 7, 3) := by decide +kernel
theorem dX9_buy_83 : decode cX9_buy 83 = .ok (.bipush 8, 2) := by decide +kernel
theorem dX9_buy_85 : decode cX9_buy 85 = .ok (.iconst 3, 1) := by decide +kernel
theorem dX9_buy_86 : decode cX9_buy 86 = .ok (.iload_n 3, 1) := by decide +kernel
theorem dX9_buy_87 : decode cX9_buy 87 = .ok (.imul, 1) := by decide +kernel
theorem dX9_buy_88 : decode cX9_buy 88 = .ok (.iadd, 1) := by decide +kernel
theorem dX9_buy_89 : decode cX9_buy 89 = .ok (.iconst 1, 1) := by decide +kernel
theorem dX9_buy_90 : decode cX9_buy 90 = .ok (.iadd, 1) := by decide +kernel
theorem dX9_buy_91 : decode cX9_buy 91 = .ok (.dup2, 1) := by decide +kernel
theorem dX9_buy_92 : decode cX9_buy 92 = .ok (.iaload, 1) := by decide +kernel
theorem dX9_buy_93 : decode cX9_buy 93 = .ok (.iconst 1, 1) := by decide +kernel
theorem dX9_buy_94 : decode cX9_buy 94 = .ok (.iadd, 1) := by decide +kernel
theorem dX9_buy_95 : decode cX9_buy 95 = .ok (.iastore, 1) := by decide +kernel
theorem dX9_buy_96 : decode cX9_buy 96 = .ok (.aload_n 0, 1) := by decide +kernel
theorem dX9_buy_97 : decode cX9_buy 97 = .ok (.invokevirtual 202, 3) := by decide +kernel
theorem dX9_buy_100 : decode cX9_buy 100 = .ok (.istore 6, 2) := by decide +kernel
theorem dX9_buy_102 : decode cX9_buy 102 = .ok (.aload_n 0, 1) := by decide +kernel
theorem dX9_buy_103 : decode cX9_buy 103 = .ok (.getfield 7, 3) := by decide +kernel
theorem dX9_buy_106 : decode cX9_buy 106 = .ok (.bipush 8, 2) := by decide +kernel
theorem dX9_buy_108 : decode cX9_buy 108 = .ok (.iconst 3, 1) := by decide +kernel
theorem dX9_buy_109 : decode cX9_buy 109 = .ok (.iload_n 3, 1) := by decide +kernel
theorem dX9_buy_110 : decode cX9_buy 110 = .ok (.imul, 1) := by decide +kernel
theorem dX9_buy_111 : decode cX9_buy 111 = .ok (.iadd, 1) := by decide +kernel
theorem dX9_buy_112 : decode cX9_buy 112 = .ok (.iconst 1, 1) := by decide +kernel
theorem dX9_buy_113 : decode cX9_buy 113 = .ok (.iadd, 1) := by decide +kernel
theorem dX9_buy_114 : decode cX9_buy 114 = .ok (.dup2, 1) := by decide +kernel
theorem dX9_buy_115 : decode cX9_buy 115 = .ok (.iaload, 1) := by decide +kernel
theorem dX9_buy_116 : decode cX9_buy 116 = .ok (.iconst 1, 1) := by decide +kernel
theorem dX9_buy_117 : decode cX9_buy 117 = .ok (.isub, 1) := by decide +kernel
theorem dX9_buy_118 : decode cX9_buy 118 = .ok (.iastore, 1) := by decide +kernel
theorem dX9_buy_119 : decode cX9_buy 119 = .ok (.iload 6, 2) := by decide +kernel
theorem dX9_buy_121 : decode cX9_buy 121 = .ok (.iload_n 1, 1) := by decide +kernel
theorem dX9_buy_122 : decode cX9_buy 122 = .ok (.if_icmp .le 7, 3) := by decide +kernel
theorem dX9_buy_125 : decode cX9_buy 125 = .ok (.iload_n 3, 1) := by decide +kernel
theorem dX9_buy_126 : decode cX9_buy 126 = .ok (.goto 4, 3) := by decide +kernel
theorem dX9_buy_129 : decode cX9_buy 129 = .ok (.iload_n 2, 1) := by decide +kernel
theorem dX9_buy_130 : decode cX9_buy 130 = .ok (.istore_n 2, 1) := by decide +kernel
theorem dX9_buy_131 : decode cX9_buy 131 = .ok (.iload 6, 2) := by decide +kernel
theorem dX9_buy_133 : decode cX9_buy 133 = .ok (.iload_n 1, 1) := by decide +kernel
theorem dX9_buy_134 : decode cX9_buy 134 = .ok (.if_icmp .le 8, 3) := by decide +kernel
theorem dX9_buy_137 : decode cX9_buy 137 = .ok (.iload 6, 2) := by decide +kernel
theorem dX9_buy_139 : decode cX9_buy 139 = .ok (.goto 4, 3) := by decide +kernel
theorem dX9_buy_142 : decode cX9_buy 142 = .ok (.iload_n 1, 1) := by decide +kernel
theorem dX9_buy_143 : decode cX9_buy 143 = .ok (.istore_n 1, 1) := by decide +kernel
theorem dX9_buy_144 : decode cX9_buy 144 = .ok (.iinc 3 1, 3) := by decide +kernel
theorem dX9_buy_147 : decode cX9_buy 147 = .ok (.goto (-138), 3) := by decide +kernel
theorem dX9_buy_150 : decode cX9_buy 150 = .ok (.iload_n 2, 1) := by decide +kernel
theorem dX9_buy_151 : decode cX9_buy 151 = .ok (.ireturn, 1) := by decide +kernel
set_option maxRecDepth 20000 in
theorem ggX9_waits_X9_isOne : GoodIn wsX9_waits wsX9_isOne := goodIn_r _ [5, 6, 7, 8, 4, 9] (by decide +kernel) (by decide +kernel)
set_option maxRecDepth 20000 in
theorem gX9_waits_X9_isOne : GoodIn wsX9_waits (va_wsS RX9 100 yX9_isOne wsX9_isOne) := goodIn_app (goodIn_of _ (by decide +kernel)) ggX9_waits_X9_isOne
set_option maxRecDepth 20000 in
theorem ggX9_waits_X9_isSet : GoodIn wsX9_waits wsX9_isSet := goodIn_r _ [13, 1, 7, 8, 4, 9, 24, 25, 26, 27, 28, 29, 30, 31, 32, 33, 34, 35, 36, 37, 38, 39, 40, 41, 42, 43, 44, 45, 46] (by decide +kernel) (by decide +kernel)
set_option maxRecDepth 20000 in
theorem gX9_waits_X9_isSet : GoodIn wsX9_waits (wsV RX9 184 RX9 yX9_isSet wsX9_isSet) := goodIn_app (goodIn_of _ (by decide +kernel)) ggX9_waits_X9_isSet
set_option maxRecDepth 20000 in
theorem ggX9_waits_X9_bad : GoodIn wsX9_waits wsX9_bad := goodIn_r _ [17, 18, 19, 20, 4, 21, 22, 23, 24, 25, 26, 27, 28, 29, 30, 31, 32, 33, 34, 35, 36, 37, 38, 39, 40, 41, 42, 43, 44, 45, 46] (by decide +kernel) (by decide +kernel)
set_option maxRecDepth 20000 in
theorem gX9_waits_X9_bad : GoodIn wsX9_waits (wsV RX9 77 RX9 yX9_bad wsX9_bad) := goodIn_app (goodIn_of _ (by decide +kernel)) ggX9_waits_X9_bad
theorem dX9_waits_0 : decode cX9_waits 0 = .ok (.iload_n 1, 1) := by decide +kernel
theorem dX9_waits_1 : decode cX9_waits 1 = .ok (.invokestatic 100, 3) := by decide +kernel
theorem dX9_waits_4 : decode cX9_waits 4 = .ok (.ifCond .eq 25, 3) := by decide +kernel
theorem dX9_waits_7 : decode cX9_waits 7 = .ok (.aload_n 0, 1) := by decide +kernel
theorem dX9_waits_8 : decode cX9_waits 8 = .ok (.iload_n 2, 1) := by decide +kernel
theorem dX9_waits_9 : decode cX9_waits 9 = .ok (.invokevirtual 184, 3) := by decide +kernel
theorem dX9_waits_12 : decode cX9_waits 12 = .ok (.ifCond .eq 17, 3) := by decide +kernel
theorem dX9_waits_15 : decode cX9_waits 15 = .ok (.aload_n 0, 1) := by decide +kernel
theorem dX9_waits_16 : decode cX9_waits 16 = .ok (.iload_n 3, 1) := by decide +kernel
theorem dX9_waits_17 : decode cX9_waits 17 = .ok (.invokevirtual 184, 3) := by decide +kernel
theorem dX9_waits_20 : decode cX9_waits 20 = .ok (.ifCond .eq 9, 3) := by decide +kernel
theorem dX9_waits_23 : decode cX9_waits 23 = .ok (.iload_n 2, 1) := by decide +kernel
theorem dX9_waits_24 : decode cX9_waits 24 = .ok (.iload_n 3, 1) := by decide +kernel
theorem dX9_waits_25 : decode cX9_waits 25 = .ok (.iand, 1) := by decide +kernel
theorem dX9_waits_26 : decode cX9_waits 26 = .ok (.ifCond .eq 8, 3) := by decide +kernel
theorem dX9_waits_29 : decode cX9_waits 29 = .ok (.aload_n 0, 1) := by decide +kernel
theorem dX9_waits_30 : decode cX9_waits 30 = .ok (.invokevirtual 77, 3) := by decide +kernel
theorem dX9_waits_33 : decode cX9_waits 33 = .ok (.ireturn, 1) := by decide +kernel
theorem dX9_waits_34 : decode cX9_waits 34 = .ok (.aload_n 0, 1) := by decide +kernel
theorem dX9_waits_35 : decode cX9_waits 35 = .ok (.getfield 7, 3) := by decide +kernel
theorem dX9_waits_38 : decode cX9_waits 38 = .ok (.sipush 146, 3) := by decide +kernel
theorem dX9_waits_41 : decode cX9_waits 41 = .ok (.iload_n 1, 1) := by decide +kernel
theorem dX9_waits_42 : decode cX9_waits 42 = .ok (.iadd, 1) := by decide +kernel
theorem dX9_waits_43 : decode cX9_waits 43 = .ok (.iload_n 2, 1) := by decide +kernel
theorem dX9_waits_44 : decode cX9_waits 44 = .ok (.iastore, 1) := by decide +kernel
theorem dX9_waits_45 : decode cX9_waits 45 = .ok (.aload_n 0, 1) := by decide +kernel
theorem dX9_waits_46 : decode cX9_waits 46 = .ok (.getfield 7, 3) := by decide +kernel
theorem dX9_waits_49 : decode cX9_waits 49 = .ok (.sipush 151, 3) := by decide +kernel
theorem dX9_waits_52 : decode cX9_waits 52 = .ok (.iload_n 1, 1) := by decide +kernel
theorem dX9_waits_53 : decode cX9_waits 53 = .ok (.iadd, 1) := by decide +kernel
theorem dX9_waits_54 : decode cX9_waits 54 = .ok (.iload_n 3, 1) := by decide +kernel
theorem dX9_waits_55 : decode cX9_waits 55 = .ok (.iastore, 1) := by decide +kernel
theorem dX9_waits_56 : decode cX9_waits 56 = .ok (.iconst 1, 1) := by decide +kernel
theorem dX9_waits_57 : decode cX9_waits 57 = .ok (.ireturn, 1) := by decide +kernel
set_option maxRecDepth 20000 in
theorem ggX9_stuckBy_X9_mayOf : GoodIn wsX9_stuckBy wsX9_mayOf := goodIn_r _ [6, 1, 7, 8, 9, 10, 11, 12, 13, 14, 15, 16, 17, 18, 19, 20, 21, 22, 23, 24, 25, 26, 27, 28, 29] (by decide +kernel) (by decide +kernel)
set_option maxRecDepth 20000 in
theorem gX9_stuckBy_X9_mayOf : GoodIn wsX9_stuckBy (wsV RX9 88 RX9 yX9_mayOf wsX9_mayOf) := goodIn_app (goodIn_of _ (by decide +kernel)) ggX9_stuckBy_X9_mayOf
theorem dX9_stuckBy_0 : decode cX9_stuckBy 0 = .ok (.bipush 31, 2) := by decide +kernel
theorem dX9_stuckBy_2 : decode cX9_stuckBy 2 = .ok (.iload_n 1, 1) := by decide +kernel
theorem dX9_stuckBy_3 : decode cX9_stuckBy 3 = .ok (.iconst (-1), 1) := by decide +kernel
theorem dX9_stuckBy_4 : decode cX9_stuckBy 4 = .ok (.ixor, 1) := by decide +kernel
theorem dX9_stuckBy_5 : decode cX9_stuckBy 5 = .ok (.iand, 1) := by decide +kernel
theorem dX9_stuckBy_6 : decode cX9_stuckBy 6 = .ok (.istore_n 2, 1) := by decide +kernel
theorem dX9_stuckBy_7 : decode cX9_stuckBy 7 = .ok (.iconst 0, 1) := by decide +kernel
theorem dX9_stuckBy_8 : decode cX9_stuckBy 8 = .ok (.istore_n 3, 1) := by decide +kernel
theorem dX9_stuckBy_9 : decode cX9_stuckBy 9 = .ok (.iload_n 3, 1) := by decide +kernel
theorem dX9_stuckBy_10 : decode cX9_stuckBy 10 = .ok (.iconst 5, 1) := by decide +kernel
theorem dX9_stuckBy_11 : decode cX9_stuckBy 11 = .ok (.if_icmp .ge 168, 3) := by decide +kernel
theorem dX9_stuckBy_14 : decode cX9_stuckBy 14 = .ok (.iload_n 2, 1) := by decide +kernel
theorem dX9_stuckBy_15 : decode cX9_stuckBy 15 = .ok (.istore 4, 2) := by decide +kernel
theorem dX9_stuckBy_17 : decode cX9_stuckBy 17 = .ok (.iconst 0, 1) := by decide +kernel
theorem dX9_stuckBy_18 : decode cX9_stuckBy 18 = .ok (.istore 5, 2) := by decide +kernel
theorem dX9_stuckBy_20 : decode cX9_stuckBy 20 = .ok (.iload 5, 2) := by decide +kernel
theorem dX9_stuckBy_22 : decode cX9_stuckBy 22 = .ok (.iconst 5, 1) := by decide +kernel
theorem dX9_stuckBy_23 : decode cX9_stuckBy 23 = .ok (.if_icmp .ge 147, 3) := by decide +kernel
theorem dX9_stuckBy_26 : decode cX9_stuckBy 26 = .ok (.iconst 1, 1) := by decide +kernel
theorem dX9_stuckBy_27 : decode cX9_stuckBy 27 = .ok (.istore 6, 2) := by decide +kernel
theorem dX9_stuckBy_29 : decode cX9_stuckBy 29 = .ok (.iconst 0, 1) := by decide +kernel
theorem dX9_stuckBy_30 : decode cX9_stuckBy 30 = .ok (.istore 7, 2) := by decide +kernel
theorem dX9_stuckBy_32 : decode cX9_stuckBy 32 = .ok (.iload 7, 2) := by decide +kernel
theorem dX9_stuckBy_34 : decode cX9_stuckBy 34 = .ok (.aload_n 0, 1) := by decide +kernel
theorem dX9_stuckBy_35 : decode cX9_stuckBy 35 = .ok (.getfield 7, 3) := by decide +kernel
theorem dX9_stuckBy_38 : decode cX9_stuckBy 38 = .ok (.iconst 0, 1) := by decide +kernel
theorem dX9_stuckBy_39 : decode cX9_stuckBy 39 = .ok (.iaload, 1) := by decide +kernel
theorem dX9_stuckBy_40 : decode cX9_stuckBy 40 = .ok (.if_icmp .ge 104, 3) := by decide +kernel
theorem dX9_stuckBy_43 : decode cX9_stuckBy 43 = .ok (.iconst 0, 1) := by decide +kernel
theorem dX9_stuckBy_44 : decode cX9_stuckBy 44 = .ok (.istore 8, 2) := by decide +kernel
theorem dX9_stuckBy_46 : decode cX9_stuckBy 46 = .ok (.iconst 0, 1) := by decide +kernel
theorem dX9_stuckBy_47 : decode cX9_stuckBy 47 = .ok (.istore 9, 2) := by decide +kernel
theorem dX9_stuckBy_49 : decode cX9_stuckBy 49 = .ok (.iload 9, 2) := by decide +kernel
theorem dX9_stuckBy_51 : decode cX9_stuckBy 51 = .ok (.iconst 5, 1) := by decide +kernel
theorem dX9_stuckBy_52 : decode cX9_stuckBy 52 = .ok (.if_icmp .ge 44, 3) := by decide +kernel
theorem dX9_stuckBy_55 : decode cX9_stuckBy 55 = .ok (.iload 8, 2) := by decide +kernel
theorem dX9_stuckBy_57 : decode cX9_stuckBy 57 = .ok (.iload_n 2, 1) := by decide +kernel
theorem dX9_stuckBy_58 : decode cX9_stuckBy 58 = .ok (.iload 9, 2) := by decide +kernel
theorem dX9_stuckBy_60 : decode cX9_stuckBy 60 = .ok (.ishr, 1) := by decide +kernel
theorem dX9_stuckBy_61 : decode cX9_stuckBy 61 = .ok (.iconst 1, 1) := by decide +kernel
theorem dX9_stuckBy_62 : decode cX9_stuckBy 62 = .ok (.iand, 1) := by decide +kernel
theorem dX9_stuckBy_63 : decode cX9_stuckBy 63 = .ok (.iconst 1, 1) := by decide +kernel
theorem dX9_stuckBy_64 : decode cX9_stuckBy 64 = .ok (.if_icmp .ne 22, 3) := by decide +kernel
theorem dX9_stuckBy_67 : decode cX9_stuckBy 67 = .ok (.aload_n 0, 1) := by decide +kernel
theorem dX9_stuckBy_68 : decode cX9_stuckBy 68 = .ok (.getfield 7, 3) := by decide +kernel
theorem dX9_stuckBy_71 : decode cX9_stuckBy 71 = .ok (.sipush 146, 3) := by decide +kernel
theorem dX9_stuckBy_74 : decode cX9_stuckBy 74 = .ok (.iload 9, 2) := by decide +kernel
theorem dX9_stuckBy_76 : decode cX9_stuckBy 76 = .ok (.iadd, 1) := by decide +kernel
theorem dX9_stuckBy_77 : decode cX9_stuckBy 77 = .ok (.iaload, 1) := by decide +kernel
theorem dX9_stuckBy_78 : decode cX9_stuckBy 78 = .ok (.iload 7, 2) := by decide +kernel
theorem dX9_stuckBy_80 : decode cX9_stuckBy 80 = .ok (.ishr, 1) := by decide +kernel
theorem dX9_stuckBy_81 : decode cX9_stuckBy 81 = .ok (.iconst 1, 1) := by decide +kernel
theorem dX9_stuckBy_82 : decode cX9_stuckBy 82 = .ok (.iand, 1) := by decide +kernel
theorem dX9_stuckBy_83 : decode cX9_stuckBy 83 = .ok (.goto 4, 3) := by decide +kernel
theorem dX9_stuckBy_86 : decode cX9_stuckBy 86 = .ok (.iconst 0, 1) := by decide +kernel
theorem dX9_stuckBy_87 : decode cX9_stuckBy 87 = .ok (.iadd, 1) := by decide +kernel
theorem dX9_stuckBy_88 : decode cX9_stuckBy 88 = .ok (.istore 8, 2) := by decide +kernel
theorem dX9_stuckBy_90 : decode cX9_stuckBy 90 = .ok (.iinc 9 1, 3) := by decide +kernel
theorem dX9_stuckBy_93 : decode cX9_stuckBy 93 = .ok (.goto (-44), 3) := by decide +kernel
theorem dX9_stuckBy_96 : decode cX9_stuckBy 96 = .ok (.iload 6, 2) := by decide +kernel
theorem dX9_stuckBy_98 : decode cX9_stuckBy 98 = .ok (.ifCond .eq 37, 3) := by decide +kernel
theorem dX9_stuckBy_101 : decode cX9_stuckBy 101 = .ok (.aload_n 0, 1) := by decide +kernel
theorem dX9_stuckBy_102 : decode cX9_stuckBy 102 = .ok (.getfield 7, 3) := by decide +kernel
theorem dX9_stuckBy_105 : decode cX9_stuckBy 105 = .ok (.sipush 151, 3) := by decide +kernel
theorem dX9_stuckBy_108 : decode cX9_stuckBy 108 = .ok (.iload 5, 2) := by decide +kernel
theorem dX9_stuckBy_110 : decode cX9_stuckBy 110 = .ok (.iadd, 1) := by decide +kernel
theorem dX9_stuckBy_111 : decode cX9_stuckBy 111 = .ok (.iaload, 1) := by decide +kernel
theorem dX9_stuckBy_112 : decode cX9_stuckBy 112 = .ok (.iload 7, 2) := by decide +kernel
theorem dX9_stuckBy_114 : decode cX9_stuckBy 114 = .ok (.ishr, 1) := by decide +kernel
theorem dX9_stuckBy_115 : decode cX9_stuckBy 115 = .ok (.iconst 1, 1) := by decide +kernel
theorem dX9_stuckBy_116 : decode cX9_stuckBy 116 = .ok (.iand, 1) := by decide +kernel
theorem dX9_stuckBy_117 : decode cX9_stuckBy 117 = .ok (.ifCond .eq 14, 3) := by decide +kernel
theorem dX9_stuckBy_120 : decode cX9_stuckBy 120 = .ok (.iload 8, 2) := by decide +kernel
theorem dX9_stuckBy_122 : decode cX9_stuckBy 122 = .ok (.aload_n 0, 1) := by decide +kernel
theorem dX9_stuckBy_123 : decode cX9_stuckBy 123 = .ok (.iload 7, 2) := by decide +kernel
theorem dX9_stuckBy_125 : decode cX9_stuckBy 125 = .ok (.invokevirtual 88, 3) := by decide +kernel
theorem dX9_stuckBy_128 : decode cX9_stuckBy 128 = .ok (.if_icmp .ge 7, 3) := by decide +kernel
theorem dX9_stuckBy_131 : decode cX9_stuckBy 131 = .ok (.iconst 1, 1) := by decide +kernel
theorem dX9_stuckBy_132 : decode cX9_stuckBy 132 = .ok (.goto 4, 3) := by decide +kernel
theorem dX9_stuckBy_135 : decode cX9_stuckBy 135 = .ok (.iconst 0, 1) := by decide +kernel
theorem dX9_stuckBy_136 : decode cX9_stuckBy 136 = .ok (.istore 6, 2) := by decide +kernel
theorem dX9_stuckBy_138 : decode cX9_stuckBy 138 = .ok (.iinc 7 1, 3) := by decide +kernel
theorem dX9_stuckBy_141 : decode cX9_stuckBy 141 = .ok (.goto (-109), 3) := by decide +kernel
theorem dX9_stuckBy_144 : decode cX9_stuckBy 144 = .ok (.iload 4, 2) := by decide +kernel
theorem dX9_stuckBy_146 : decode cX9_stuckBy 146 = .ok (.iload 6, 2) := by decide +kernel
theorem dX9_stuckBy_148 : decode cX9_stuckBy 148 = .ok (.ifCond .eq 12, 3) := by decide +kernel
theorem dX9_stuckBy_151 : decode cX9_stuckBy 151 = .ok (.iconst 1, 1) := by decide +kernel
theorem dX9_stuckBy_152 : decode cX9_stuckBy 152 = .ok (.iload 5, 2) := by decide +kernel
theorem dX9_stuckBy_154 : decode cX9_stuckBy 154 = .ok (.ishl, 1) := by decide +kernel
theorem dX9_stuckBy_155 : decode cX9_stuckBy 155 = .ok (.iconst (-1), 1) := by decide +kernel
theorem dX9_stuckBy_156 : decode cX9_stuckBy 156 = .ok (.ixor, 1) := by decide +kernel
theorem dX9_stuckBy_157 : decode cX9_stuckBy 157 = .ok (.goto 4, 3) := by decide +kernel
theorem dX9_stuckBy_160 : decode cX9_stuckBy 160 = .ok (.iconst (-1), 1) := by decide +kernel
theorem dX9_stuckBy_161 : decode cX9_stuckBy 161 = .ok (.iand, 1) := by decide +kernel
theorem dX9_stuckBy_162 : decode cX9_stuckBy 162 = .ok (.istore 4, 2) := by decide +kernel
theorem dX9_stuckBy_164 : decode cX9_stuckBy 164 = .ok (.iinc 5 1, 3) := by decide +kernel
theorem dX9_stuckBy_167 : decode cX9_stuckBy 167 = .ok (.goto (-147), 3) := by decide +kernel
theorem dX9_stuckBy_170 : decode cX9_stuckBy 170 = .ok (.iload 4, 2) := by decide +kernel
theorem dX9_stuckBy_172 : decode cX9_stuckBy 172 = .ok (.istore_n 2, 1) := by decide +kernel
theorem dX9_stuckBy_173 : decode cX9_stuckBy 173 = .ok (.iinc 3 1, 3) := by decide +kernel
theorem dX9_stuckBy_176 : decode cX9_stuckBy 176 = .ok (.goto (-167), 3) := by decide +kernel
theorem dX9_stuckBy_179 : decode cX9_stuckBy 179 = .ok (.iload_n 2, 1) := by decide +kernel
theorem dX9_stuckBy_180 : decode cX9_stuckBy 180 = .ok (.ireturn, 1) := by decide +kernel
set_option maxRecDepth 20000 in
theorem ggX9_stuck_X9_is : GoodIn wsX9_stuck wsX9_is := goodIn_r _ [4] (by decide +kernel) (by decide +kernel)
set_option maxRecDepth 20000 in
theorem gX9_stuck_X9_is : GoodIn wsX9_stuck (va_wsS RX9 65 yX9_is wsX9_is) := goodIn_app (goodIn_of _ (by decide +kernel)) ggX9_stuck_X9_is
set_option maxRecDepth 20000 in
theorem ggX9_stuck_X9_bad : GoodIn wsX9_stuck wsX9_bad := goodIn_r _ [8, 9, 10, 11, 3, 12, 13, 14, 27, 28, 29, 30, 31, 32, 33, 34, 35, 36, 37, 38, 39, 40, 41, 42, 43, 44, 45, 46, 47, 48, 49] (by decide +kernel) (by decide +kernel)
set_option maxRecDepth 20000 in
theorem gX9_stuck_X9_bad : GoodIn wsX9_stuck (wsV RX9 77 RX9 yX9_bad wsX9_bad) := goodIn_app (goodIn_of _ (by decide +kernel)) ggX9_stuck_X9_bad
set_option maxRecDepth 20000 in
theorem ggX9_stuck_X9_stuckBy : GoodIn wsX9_stuck wsX9_stuckBy := goodIn_r _ [18, 19, 20, 21, 22, 3, 23, 27, 28, 29, 30, 31, 32, 33, 34, 35, 36, 37, 38, 39, 40, 41, 42, 43, 44, 45, 46, 47, 48, 49] (by decide +kernel) (by decide +kernel)
set_option maxRecDepth 20000 in
theorem gX9_stuck_X9_stuckBy : GoodIn wsX9_stuck (wsV RX9 205 RX9 yX9_stuckBy wsX9_stuckBy) := goodIn_app (goodIn_of _ (by decide +kernel)) ggX9_stuck_X9_stuckBy
set_option maxRecDepth 20000 in
theorem ggX9_stuck_X9_bits : GoodIn wsX9_stuck wsX9_bits := goodIn_r _ [26] (by decide +kernel) (by decide +kernel)
set_option maxRecDepth 20000 in
theorem gX9_stuck_X9_bits : GoodIn wsX9_stuck (va_wsS RX9 194 yX9_bits wsX9_bits) := goodIn_app (goodIn_of _ (by decide +kernel)) ggX9_stuck_X9_bits
theorem dX9_stuck_0 : decode cX9_stuck 0 = .ok (.iload_n 1, 1) := by decide +kernel
theorem dX9_stuck_1 : decode cX9_stuck 1 = .ok (.i2l, 1) := by decide +kernel
theorem dX9_stuck_2 : decode cX9_stuck 2 = .ok (.lconst 0, 1) := by decide +kernel
theorem dX9_stuck_3 : decode cX9_stuck 3 = .ok (.lconst 1, 1) := by decide +kernel
theorem dX9_stuck_4 : decode cX9_stuck 4 = .ok (.invokestatic 65, 3) := by decide +kernel
theorem dX9_stuck_7 : decode cX9_stuck 7 = .ok (.ifCond .ne 8, 3) := by decide +kernel
theorem dX9_stuck_10 : decode cX9_stuck 10 = .ok (.aload_n 0, 1) := by decide +kernel
theorem dX9_stuck_11 : decode cX9_stuck 11 = .ok (.invokevirtual 77, 3) := by decide +kernel
theorem dX9_stuck_14 : decode cX9_stuck 14 = .ok (.ireturn, 1) := by decide +kernel
theorem dX9_stuck_15 : decode cX9_stuck 15 = .ok (.aload_n 0, 1) := by decide +kernel
theorem dX9_stuck_16 : decode cX9_stuck 16 = .ok (.iconst 0, 1) := by decide +kernel
theorem dX9_stuck_17 : decode cX9_stuck 17 = .ok (.invokevirtual 205, 3) := by decide +kernel
theorem dX9_stuck_20 : decode cX9_stuck 20 = .ok (.istore_n 2, 1) := by decide +kernel
theorem dX9_stuck_21 : decode cX9_stuck 21 = .ok (.iload_n 1, 1) := by decide +kernel
theorem dX9_stuck_22 : decode cX9_stuck 22 = .ok (.ifCond .ne 5, 3) := by decide +kernel
theorem dX9_stuck_25 : decode cX9_stuck 25 = .ok (.iload_n 2, 1) := by decide +kernel
theorem dX9_stuck_26 : decode cX9_stuck 26 = .ok (.ireturn, 1) := by decide +kernel
theorem dX9_stuck_27 : decode cX9_stuck 27 = .ok (.iconst (-1), 1) := by decide +kernel
theorem dX9_stuck_28 : decode cX9_stuck 28 = .ok (.istore_n 3, 1) := by decide +kernel
theorem dX9_stuck_29 : decode cX9_stuck 29 = .ok (.iconst 0, 1) := by decide +kernel
theorem dX9_stuck_30 : decode cX9_stuck 30 = .ok (.istore 4, 2) := by decide +kernel
theorem dX9_stuck_32 : decode cX9_stuck 32 = .ok (.iload 4, 2) := by decide +kernel
theorem dX9_stuck_34 : decode cX9_stuck 34 = .ok (.iload_n 2, 1) := by decide +kernel
theorem dX9_stuck_35 : decode cX9_stuck 35 = .ok (.if_icmp .gt 63, 3) := by decide +kernel
theorem dX9_stuck_38 : decode cX9_stuck 38 = .ok (.iload 4, 2) := by decide +kernel
theorem dX9_stuck_40 : decode cX9_stuck 40 = .ok (.iload_n 2, 1) := by decide +kernel
theorem dX9_stuck_41 : decode cX9_stuck 41 = .ok (.iconst (-1), 1) := by decide +kernel
theorem dX9_stuck_42 : decode cX9_stuck 42 = .ok (.ixor, 1) := by decide +kernel
theorem dX9_stuck_43 : decode cX9_stuck 43 = .ok (.iand, 1) := by decide +kernel
theorem dX9_stuck_44 : decode cX9_stuck 44 = .ok (.ifCond .ne 24, 3) := by decide +kernel
theorem dX9_stuck_47 : decode cX9_stuck 47 = .ok (.iload_n 3, 1) := by decide +kernel
theorem dX9_stuck_48 : decode cX9_stuck 48 = .ok (.iconst (-1), 1) := by decide +kernel
theorem dX9_stuck_49 : decode cX9_stuck 49 = .ok (.if_icmp .eq 15, 3) := by decide +kernel
theorem dX9_stuck_52 : decode cX9_stuck 52 = .ok (.iload 4, 2) := by decide +kernel
theorem dX9_stuck_54 : decode cX9_stuck 54 = .ok (.invokestatic 194, 3) := by decide +kernel
theorem dX9_stuck_57 : decode cX9_stuck 57 = .ok (.iload_n 3, 1) := by decide +kernel
theorem dX9_stuck_58 : decode cX9_stuck 58 = .ok (.invokestatic 194, 3) := by decide +kernel
theorem dX9_stuck_61 : decode cX9_stuck 61 = .ok (.if_icmp .ge 7, 3) := by decide +kernel
theorem dX9_stuck_64 : decode cX9_stuck 64 = .ok (.iconst 1, 1) := by decide +kernel
theorem dX9_stuck_65 : decode cX9_stuck 65 = .ok (.goto 4, 3) := by decide +kernel
theorem dX9_stuck_68 : decode cX9_stuck 68 = .ok (.iconst 0, 1) := by decide +kernel
theorem dX9_stuck_69 : decode cX9_stuck 69 = .ok (.istore 5, 2) := by decide +kernel
theorem dX9_stuck_71 : decode cX9_stuck 71 = .ok (.iload 5, 2) := by decide +kernel
theorem dX9_stuck_73 : decode cX9_stuck 73 = .ok (.ifCond .eq 17, 3) := by decide +kernel
theorem dX9_stuck_76 : decode cX9_stuck 76 = .ok (.aload_n 0, 1) := by decide +kernel
theorem dX9_stuck_77 : decode cX9_stuck 77 = .ok (.iload 4, 2) := by decide +kernel
theorem dX9_stuck_79 : decode cX9_stuck 79 = .ok (.invokevirtual 205, 3) := by decide +kernel
theorem dX9_stuck_82 : decode cX9_stuck 82 = .ok (.ifCond .ne 8, 3) := by decide +kernel
theorem dX9_stuck_85 : decode cX9_stuck 85 = .ok (.iload 4, 2) := by decide +kernel
theorem dX9_stuck_87 : decode cX9_stuck 87 = .ok (.goto 4, 3) := by decide +kernel
theorem dX9_stuck_90 : decode cX9_stuck 90 = .ok (.iload_n 3, 1) := by decide +kernel
theorem dX9_stuck_91 : decode cX9_stuck 91 = .ok (.istore_n 3, 1) := by decide +kernel
theorem dX9_stuck_92 : decode cX9_stuck 92 = .ok (.iinc 4 1, 3) := by decide +kernel
theorem dX9_stuck_95 : decode cX9_stuck 95 = .ok (.goto (-63), 3) := by decide +kernel
theorem dX9_stuck_98 : decode cX9_stuck 98 = .ok (.iload_n 3, 1) := by decide +kernel
theorem dX9_stuck_99 : decode cX9_stuck 99 = .ok (.ireturn, 1) := by decide +kernel
set_option maxRecDepth 20000 in
theorem ggX9_worth_X9_isOne : GoodIn wsX9_worth wsX9_isOne := goodIn_r _ [6, 7, 8, 9, 5, 10] (by decide +kernel) (by decide +kernel)
set_option maxRecDepth 20000 in
theorem gX9_worth_X9_isOne : GoodIn wsX9_worth (va_wsS RX9 100 yX9_isOne wsX9_isOne) := goodIn_app (goodIn_of _ (by decide +kernel)) ggX9_worth_X9_isOne
set_option maxRecDepth 20000 in
theorem ggX9_worth_X9_isTerm : GoodIn wsX9_worth wsX9_isTerm := goodIn_r _ [14, 2, 8, 9, 5, 10, 25, 26, 27, 28, 29, 30, 31, 32, 33, 34, 35, 36, 37, 38, 39, 40, 41, 42, 43, 44, 45, 46, 47] (by decide +kernel) (by decide +kernel)
set_option maxRecDepth 20000 in
theorem gX9_worth_X9_isTerm : GoodIn wsX9_worth (wsV RX9 84 RX9 yX9_isTerm wsX9_isTerm) := goodIn_app (goodIn_of _ (by decide +kernel)) ggX9_worth_X9_isTerm
set_option maxRecDepth 20000 in
theorem ggX9_worth_X9_is : GoodIn wsX9_worth wsX9_is := goodIn_r _ [10] (by decide +kernel) (by decide +kernel)
set_option maxRecDepth 20000 in
theorem gX9_worth_X9_is : GoodIn wsX9_worth (va_wsS RX9 65 yX9_is wsX9_is) := goodIn_app (goodIn_of _ (by decide +kernel)) ggX9_worth_X9_is
set_option maxRecDepth 20000 in
theorem ggX9_worth_X9_bad : GoodIn wsX9_worth wsX9_bad := goodIn_r _ [18, 19, 20, 21, 5, 22, 23, 24, 25, 26, 27, 28, 29, 30, 31, 32, 33, 34, 35, 36, 37, 38, 39, 40, 41, 42, 43, 44, 45, 46, 47] (by decide +kernel) (by decide +kernel)
set_option maxRecDepth 20000 in
theorem gX9_worth_X9_bad : GoodIn wsX9_worth (wsV RX9 77 RX9 yX9_bad wsX9_bad) := goodIn_app (goodIn_of _ (by decide +kernel)) ggX9_worth_X9_bad
theorem dX9_worth_0 : decode cX9_worth 0 = .ok (.iload_n 1, 1) := by decide +kernel
theorem dX9_worth_1 : decode cX9_worth 1 = .ok (.invokestatic 100, 3) := by decide +kernel
theorem dX9_worth_4 : decode cX9_worth 4 = .ok (.ifCond .eq 23, 3) := by decide +kernel
theorem dX9_worth_7 : decode cX9_worth 7 = .ok (.aload_n 0, 1) := by decide +kernel
theorem dX9_worth_8 : decode cX9_worth 8 = .ok (.iload_n 2, 1) := by decide +kernel
theorem dX9_worth_9 : decode cX9_worth 9 = .ok (.invokevirtual 84, 3) := by decide +kernel
theorem dX9_worth_12 : decode cX9_worth 12 = .ok (.ifCond .eq 15, 3) := by decide +kernel
theorem dX9_worth_15 : decode cX9_worth 15 = .ok (.iload_n 3, 1) := by decide +kernel
theorem dX9_worth_16 : decode cX9_worth 16 = .ok (.i2l, 1) := by decide +kernel
theorem dX9_worth_17 : decode cX9_worth 17 = .ok (.lconst 0, 1) := by decide +kernel
theorem dX9_worth_18 : decode cX9_worth 18 = .ok (.ldc2_w 208, 3) := by decide +kernel
theorem dX9_worth_21 : decode cX9_worth 21 = .ok (.invokestatic 65, 3) := by decide +kernel
theorem dX9_worth_24 : decode cX9_worth 24 = .ok (.ifCond .ne 8, 3) := by decide +kernel
theorem dX9_worth_27 : decode cX9_worth 27 = .ok (.aload_n 0, 1) := by decide +kernel
theorem dX9_worth_28 : decode cX9_worth 28 = .ok (.invokevirtual 77, 3) := by decide +kernel
theorem dX9_worth_31 : decode cX9_worth 31 = .ok (.ireturn, 1) := by decide +kernel
theorem dX9_worth_32 : decode cX9_worth 32 = .ok (.aload_n 0, 1) := by decide +kernel
theorem dX9_worth_33 : decode cX9_worth 33 = .ok (.getfield 7, 3) := by decide +kernel
theorem dX9_worth_36 : decode cX9_worth 36 = .ok (.sipush 156, 3) := by decide +kernel
theorem dX9_worth_39 : decode cX9_worth 39 = .ok (.bipush 8, 2) := by decide +kernel
theorem dX9_worth_41 : decode cX9_worth 41 = .ok (.iload_n 1, 1) := by decide +kernel
theorem dX9_worth_42 : decode cX9_worth 42 = .ok (.imul, 1) := by decide +kernel
theorem dX9_worth_43 : decode cX9_worth 43 = .ok (.iadd, 1) := by decide +kernel
theorem dX9_worth_44 : decode cX9_worth 44 = .ok (.iload_n 2, 1) := by decide +kernel
theorem dX9_worth_45 : decode cX9_worth 45 = .ok (.iadd, 1) := by decide +kernel
theorem dX9_worth_46 : decode cX9_worth 46 = .ok (.iaload, 1) := by decide +kernel
theorem dX9_worth_47 : decode cX9_worth 47 = .ok (.istore 4, 2) := by decide +kernel
theorem dX9_worth_49 : decode cX9_worth 49 = .ok (.aload_n 0, 1) := by decide +kernel
theorem dX9_worth_50 : decode cX9_worth 50 = .ok (.getfield 7, 3) := by decide +kernel
theorem dX9_worth_53 : decode cX9_worth 53 = .ok (.sipush 156, 3) := by decide +kernel
theorem dX9_worth_56 : decode cX9_worth 56 = .ok (.bipush 8, 2) := by decide +kernel
theorem dX9_worth_58 : decode cX9_worth 58 = .ok (.iload_n 1, 1) := by decide +kernel
theorem dX9_worth_59 : decode cX9_worth 59 = .ok (.imul, 1) := by decide +kernel
theorem dX9_worth_60 : decode cX9_worth 60 = .ok (.iadd, 1) := by decide +kernel
theorem dX9_worth_61 : decode cX9_worth 61 = .ok (.iload_n 2, 1) := by decide +kernel
theorem dX9_worth_62 : decode cX9_worth 62 = .ok (.iadd, 1) := by decide +kernel
theorem dX9_worth_63 : decode cX9_worth 63 = .ok (.iload_n 3, 1) := by decide +kernel
theorem dX9_worth_64 : decode cX9_worth 64 = .ok (.iastore, 1) := by decide +kernel
theorem dX9_worth_65 : decode cX9_worth 65 = .ok (.iload 4, 2) := by decide +kernel
theorem dX9_worth_67 : decode cX9_worth 67 = .ok (.ireturn, 1) := by decide +kernel
set_option maxRecDepth 20000 in
theorem ggX9_deals_X9_mayOf : GoodIn wsX9_deals wsX9_mayOf := goodIn_r _ [8, 1, 9, 10, 11, 12, 13, 14, 15, 16, 17, 18, 19, 20, 21, 22, 23, 24, 25, 26, 27, 28, 29, 30, 31] (by decide +kernel) (by decide +kernel)
set_option maxRecDepth 20000 in
theorem gX9_deals_X9_mayOf : GoodIn wsX9_deals (wsV RX9 88 RX9 yX9_mayOf wsX9_mayOf) := goodIn_app (goodIn_of _ (by decide +kernel)) ggX9_deals_X9_mayOf
theorem dX9_deals_0 : decode cX9_deals 0 = .ok (.aload_n 0, 1) := by decide +kernel
theorem dX9_deals_1 : decode cX9_deals 1 = .ok (.getfield 7, 3) := by decide +kernel
theorem dX9_deals_4 : decode cX9_deals 4 = .ok (.iconst 0, 1) := by decide +kernel
theorem dX9_deals_5 : decode cX9_deals 5 = .ok (.iaload, 1) := by decide +kernel
theorem dX9_deals_6 : decode cX9_deals 6 = .ok (.iconst 1, 1) := by decide +kernel
theorem dX9_deals_7 : decode cX9_deals 7 = .ok (.iadd, 1) := by decide +kernel
theorem dX9_deals_8 : decode cX9_deals 8 = .ok (.istore_n 1, 1) := by decide +kernel
theorem dX9_deals_9 : decode cX9_deals 9 = .ok (.iconst 1, 1) := by decide +kernel
theorem dX9_deals_10 : decode cX9_deals 10 = .ok (.istore_n 2, 1) := by decide +kernel
theorem dX9_deals_11 : decode cX9_deals 11 = .ok (.iconst 0, 1) := by decide +kernel
theorem dX9_deals_12 : decode cX9_deals 12 = .ok (.istore_n 3, 1) := by decide +kernel
theorem dX9_deals_13 : decode cX9_deals 13 = .ok (.iload_n 3, 1) := by decide +kernel
theorem dX9_deals_14 : decode cX9_deals 14 = .ok (.iconst 5, 1) := by decide +kernel
theorem dX9_deals_15 : decode cX9_deals 15 = .ok (.if_icmp .ge 13, 3) := by decide +kernel
theorem dX9_deals_18 : decode cX9_deals 18 = .ok (.iload_n 2, 1) := by decide +kernel
theorem dX9_deals_19 : decode cX9_deals 19 = .ok (.iload_n 1, 1) := by decide +kernel
theorem dX9_deals_20 : decode cX9_deals 20 = .ok (.imul, 1) := by decide +kernel
theorem dX9_deals_21 : decode cX9_deals 21 = .ok (.istore_n 2, 1) := by decide +kernel
theorem dX9_deals_22 : decode cX9_deals 22 = .ok (.iinc 3 1, 3) := by decide +kernel
theorem dX9_deals_25 : decode cX9_deals 25 = .ok (.goto (-12), 3) := by decide +kernel
theorem dX9_deals_28 : decode cX9_deals 28 = .ok (.iconst (-1), 1) := by decide +kernel
theorem dX9_deals_29 : decode cX9_deals 29 = .ok (.istore_n 3, 1) := by decide +kernel
theorem dX9_deals_30 : decode cX9_deals 30 = .ok (.iconst 0, 1) := by decide +kernel
theorem dX9_deals_31 : decode cX9_deals 31 = .ok (.istore 4, 2) := by decide +kernel
theorem dX9_deals_33 : decode cX9_deals 33 = .ok (.iload 4, 2) := by decide +kernel
theorem dX9_deals_35 : decode cX9_deals 35 = .ok (.iload_n 2, 1) := by decide +kernel
theorem dX9_deals_36 : decode cX9_deals 36 = .ok (.if_icmp .ge 225, 3) := by decide +kernel
theorem dX9_deals_39 : decode cX9_deals 39 = .ok (.iload 4, 2) := by decide +kernel
theorem dX9_deals_41 : decode cX9_deals 41 = .ok (.istore 5, 2) := by decide +kernel
theorem dX9_deals_43 : decode cX9_deals 43 = .ok (.iconst 0, 1) := by decide +kernel
theorem dX9_deals_44 : decode cX9_deals 44 = .ok (.istore 6, 2) := by decide +kernel
theorem dX9_deals_46 : decode cX9_deals 46 = .ok (.iconst 4, 1) := by decide +kernel
theorem dX9_deals_47 : decode cX9_deals 47 = .ok (.istore 7, 2) := by decide +kernel
theorem dX9_deals_49 : decode cX9_deals 49 = .ok (.iload 7, 2) := by decide +kernel
theorem dX9_deals_51 : decode cX9_deals 51 = .ok (.ifCond .lt 69, 3) := by decide +kernel
theorem dX9_deals_54 : decode cX9_deals 54 = .ok (.aload_n 0, 1) := by decide +kernel
theorem dX9_deals_55 : decode cX9_deals 55 = .ok (.getfield 47, 3) := by decide +kernel
theorem dX9_deals_58 : decode cX9_deals 58 = .ok (.iload 7, 2) := by decide +kernel
theorem dX9_deals_60 : decode cX9_deals 60 = .ok (.iload 5, 2) := by decide +kernel
theorem dX9_deals_62 : decode cX9_deals 62 = .ok (.iload_n 1, 1) := by decide +kernel
theorem dX9_deals_63 : decode cX9_deals 63 = .ok (.irem, 1) := by decide +kernel
theorem dX9_deals_64 : decode cX9_deals 64 = .ok (.iastore, 1) := by decide +kernel
theorem dX9_deals_65 : decode cX9_deals 65 = .ok (.iload 5, 2) := by decide +kernel
theorem dX9_deals_67 : decode cX9_deals 67 = .ok (.iload_n 1, 1) := by decide +kernel
theorem dX9_deals_68 : decode cX9_deals 68 = .ok (.idiv, 1) := by decide +kernel
theorem dX9_deals_69 : decode cX9_deals 69 = .ok (.istore 5, 2) := by decide +kernel
theorem dX9_deals_71 : decode cX9_deals 71 = .ok (.iload 6, 2) := by decide +kernel
theorem dX9_deals_73 : decode cX9_deals 73 = .ok (.aload_n 0, 1) := by decide +kernel
theorem dX9_deals_74 : decode cX9_deals 74 = .ok (.getfield 47, 3) := by decide +kernel
theorem dX9_deals_77 : decode cX9_deals 77 = .ok (.iload 7, 2) := by decide +kernel
theorem dX9_deals_79 : decode cX9_deals 79 = .ok (.iaload, 1) := by decide +kernel
theorem dX9_deals_80 : decode cX9_deals 80 = .ok (.ifCond .le 30, 3) := by decide +kernel
theorem dX9_deals_83 : decode cX9_deals 83 = .ok (.aload_n 0, 1) := by decide +kernel
theorem dX9_deals_84 : decode cX9_deals 84 = .ok (.getfield 7, 3) := by decide +kernel
theorem dX9_deals_87 : decode cX9_deals 87 = .ok (.sipush 156, 3) := by decide +kernel
theorem dX9_deals_90 : decode cX9_deals 90 = .ok (.bipush 8, 2) := by decide +kernel
theorem dX9_deals_92 : decode cX9_deals 92 = .ok (.iload 7, 2) := by decide +kernel
theorem dX9_deals_94 : decode cX9_deals 94 = .ok (.imul, 1) := by decide +kernel
theorem dX9_deals_95 : decode cX9_deals 95 = .ok (.iadd, 1) := by decide +kernel
theorem dX9_deals_96 : decode cX9_deals 96 = .ok (.aload_n 0, 1) := by decide +kernel
theorem dX9_deals_97 : decode cX9_deals 97 = .ok (.getfield 47, 3) := by decide +kernel
theorem dX9_deals_100 : decode cX9_deals 100 = .ok (.iload 7, 2) := by decide +kernel
theorem dX9_deals_102 : decode cX9_deals 102 = .ok (.iaload, 1) := by decide +kernel
theorem dX9_deals_103 : decode cX9_deals 103 = .ok (.iadd, 1) := by decide +kernel
theorem dX9_deals_104 : decode cX9_deals 104 = .ok (.iconst 1, 1) := by decide +kernel
theorem dX9_deals_105 : decode cX9_deals 105 = .ok (.isub, 1) := by decide +kernel
theorem dX9_deals_106 : decode cX9_deals 106 = .ok (.iaload, 1) := by decide +kernel
theorem dX9_deals_107 : decode cX9_deals 107 = .ok (.goto 4, 3) := by decide +kernel
theorem dX9_deals_110 : decode cX9_deals 110 = .ok (.iconst 0, 1) := by decide +kernel
theorem dX9_deals_111 : decode cX9_deals 111 = .ok (.iadd, 1) := by decide +kernel
theorem dX9_deals_112 : decode cX9_deals 112 = .ok (.istore 6, 2) := by decide +kernel
theorem dX9_deals_114 : decode cX9_deals 114 = .ok (.iinc 7 (-1), 3) := by decide +kernel
theorem dX9_deals_117 : decode cX9_deals 117 = .ok (.goto (-68), 3) := by decide +kernel
theorem dX9_deals_120 : decode cX9_deals 120 = .ok (.iload 6, 2) := by decide +kernel
theorem dX9_deals_122 : decode cX9_deals 122 = .ok (.iload_n 3, 1) := by decide +kernel
theorem dX9_deals_123 : decode cX9_deals 123 = .ok (.if_icmp .le 7, 3) := by decide +kernel
theorem dX9_deals_126 : decode cX9_deals 126 = .ok (.iconst 1, 1) := by decide +kernel
theorem dX9_deals_127 : decode cX9_deals 127 = .ok (.goto 4, 3) := by decide +kernel
theorem dX9_deals_130 : decode cX9_deals 130 = .ok (.iconst 0, 1) := by decide +kernel
theorem dX9_deals_131 : decode cX9_deals 131 = .ok (.istore 7, 2) := by decide +kernel
theorem dX9_deals_133 : decode cX9_deals 133 = .ok (.iconst 0, 1) := by decide +kernel
theorem dX9_deals_134 : decode cX9_deals 134 = .ok (.istore 8, 2) := by decide +kernel
theorem dX9_deals_136 : decode cX9_deals 136 = .ok (.iload 8, 2) := by decide +kernel
theorem dX9_deals_138 : decode cX9_deals 138 = .ok (.aload_n 0, 1) := by decide +kernel
theorem dX9_deals_139 : decode cX9_deals 139 = .ok (.getfield 7, 3) := by decide +kernel
theorem dX9_deals_142 : decode cX9_deals 142 = .ok (.iconst 0, 1) := by decide +kernel
theorem dX9_deals_143 : decode cX9_deals 143 = .ok (.iaload, 1) := by decide +kernel
theorem dX9_deals_144 : decode cX9_deals 144 = .ok (.if_icmp .ge 74, 3) := by decide +kernel
theorem dX9_deals_147 : decode cX9_deals 147 = .ok (.iload 7, 2) := by decide +kernel
theorem dX9_deals_149 : decode cX9_deals 149 = .ok (.ifCond .eq 69, 3) := by decide +kernel
theorem dX9_deals_152 : decode cX9_deals 152 = .ok (.iconst 0, 1) := by decide +kernel
theorem dX9_deals_153 : decode cX9_deals 153 = .ok (.istore 9, 2) := by decide +kernel
theorem dX9_deals_155 : decode cX9_deals 155 = .ok (.iconst 0, 1) := by decide +kernel
theorem dX9_deals_156 : decode cX9_deals 156 = .ok (.istore 10, 2) := by decide +kernel
theorem dX9_deals_158 : decode cX9_deals 158 = .ok (.iload 10, 2) := by decide +kernel
theorem dX9_deals_160 : decode cX9_deals 160 = .ok (.iconst 5, 1) := by decide +kernel
theorem dX9_deals_161 : decode cX9_deals 161 = .ok (.if_icmp .ge 33, 3) := by decide +kernel
theorem dX9_deals_164 : decode cX9_deals 164 = .ok (.iload 9, 2) := by decide +kernel
theorem dX9_deals_166 : decode cX9_deals 166 = .ok (.aload_n 0, 1) := by decide +kernel
theorem dX9_deals_167 : decode cX9_deals 167 = .ok (.getfield 47, 3) := by decide +kernel
theorem dX9_deals_170 : decode cX9_deals 170 = .ok (.iload 10, 2) := by decide +kernel
theorem dX9_deals_172 : decode cX9_deals 172 = .ok (.iaload, 1) := by decide +kernel
theorem dX9_deals_173 : decode cX9_deals 173 = .ok (.iload 8, 2) := by decide +kernel
theorem dX9_deals_175 : decode cX9_deals 175 = .ok (.iconst 1, 1) := by decide +kernel
theorem dX9_deals_176 : decode cX9_deals 176 = .ok (.iadd, 1) := by decide +kernel
theorem dX9_deals_177 : decode cX9_deals 177 = .ok (.if_icmp .ne 7, 3) := by decide +kernel
theorem dX9_deals_180 : decode cX9_deals 180 = .ok (.iconst 1, 1) := by decide +kernel
theorem dX9_deals_181 : decode cX9_deals 181 = .ok (.goto 4, 3) := by decide +kernel
theorem dX9_deals_184 : decode cX9_deals 184 = .ok (.iconst 0, 1) := by decide +kernel
theorem dX9_deals_185 : decode cX9_deals 185 = .ok (.iadd, 1) := by decide +kernel
theorem dX9_deals_186 : decode cX9_deals 186 = .ok (.istore 9, 2) := by decide +kernel
theorem dX9_deals_188 : decode cX9_deals 188 = .ok (.iinc 10 1, 3) := by decide +kernel
theorem dX9_deals_191 : decode cX9_deals 191 = .ok (.goto (-33), 3) := by decide +kernel
theorem dX9_deals_194 : decode cX9_deals 194 = .ok (.iload 9, 2) := by decide +kernel
theorem dX9_deals_196 : decode cX9_deals 196 = .ok (.aload_n 0, 1) := by decide +kernel
theorem dX9_deals_197 : decode cX9_deals 197 = .ok (.iload 8, 2) := by decide +kernel
theorem dX9_deals_199 : decode cX9_deals 199 = .ok (.invokevirtual 88, 3) := by decide +kernel
theorem dX9_deals_202 : decode cX9_deals 202 = .ok (.if_icmp .gt 7, 3) := by decide +kernel
theorem dX9_deals_205 : decode cX9_deals 205 = .ok (.iconst 1, 1) := by decide +kernel
theorem dX9_deals_206 : decode cX9_deals 206 = .ok (.goto 4, 3) := by decide +kernel
theorem dX9_deals_209 : decode cX9_deals 209 = .ok (.iconst 0, 1) := by decide +kernel
theorem dX9_deals_210 : decode cX9_deals 210 = .ok (.istore 7, 2) := by decide +kernel
theorem dX9_deals_212 : decode cX9_deals 212 = .ok (.iinc 8 1, 3) := by decide +kernel
theorem dX9_deals_215 : decode cX9_deals 215 = .ok (.goto (-79), 3) := by decide +kernel
theorem dX9_deals_218 : decode cX9_deals 218 = .ok (.iload 7, 2) := by decide +kernel
theorem dX9_deals_220 : decode cX9_deals 220 = .ok (.ifCond .eq 35, 3) := by decide +kernel
theorem dX9_deals_223 : decode cX9_deals 223 = .ok (.iload 6, 2) := by decide +kernel
theorem dX9_deals_225 : decode cX9_deals 225 = .ok (.istore_n 3, 1) := by decide +kernel
theorem dX9_deals_226 : decode cX9_deals 226 = .ok (.iconst 0, 1) := by decide +kernel
theorem dX9_deals_227 : decode cX9_deals 227 = .ok (.istore 8, 2) := by decide +kernel
theorem dX9_deals_229 : decode cX9_deals 229 = .ok (.iload 8, 2) := by decide +kernel
theorem dX9_deals_231 : decode cX9_deals 231 = .ok (.iconst 5, 1) := by decide +kernel
theorem dX9_deals_232 : decode cX9_deals 232 = .ok (.if_icmp .ge 23, 3) := by decide +kernel
theorem dX9_deals_235 : decode cX9_deals 235 = .ok (.aload_n 0, 1) := by decide +kernel
theorem dX9_deals_236 : decode cX9_deals 236 = .ok (.getfield 50, 3) := by decide +kernel
theorem dX9_deals_239 : decode cX9_deals 239 = .ok (.iload 8, 2) := by decide +kernel
theorem dX9_deals_241 : decode cX9_deals 241 = .ok (.aload_n 0, 1) := by decide +kernel
theorem dX9_deals_242 : decode cX9_deals 242 = .ok (.getfield 47, 3) := by decide +kernel
theorem dX9_deals_245 : decode cX9_deals 245 = .ok (.iload 8, 2) := by decide +kernel
theorem dX9_deals_247 : decode cX9_deals 247 = .ok (.iaload, 1) := by decide +kernel
theorem dX9_deals_248 : decode cX9_deals 248 = .ok (.iastore, 1) := by decide +kernel
theorem dX9_deals_249 : decode cX9_deals 249 = .ok (.iinc 8 1, 3) := by decide +kernel
theorem dX9_deals_252 : decode cX9_deals 252 = .ok (.goto (-23), 3) := by decide +kernel
theorem dX9_deals_255 : decode cX9_deals 255 = .ok (.iinc 4 1, 3) := by decide +kernel
theorem dX9_deals_258 : decode cX9_deals 258 = .ok (.goto (-225), 3) := by decide +kernel
theorem dX9_deals_261 : decode cX9_deals 261 = .ok (.iload_n 3, 1) := by decide +kernel
theorem dX9_deals_262 : decode cX9_deals 262 = .ok (.ireturn, 1) := by decide +kernel
set_option maxRecDepth 20000 in
theorem ggX9_deal_X9_is : GoodIn wsX9_deal wsX9_is := goodIn_r _ [7] (by decide +kernel) (by decide +kernel)
set_option maxRecDepth 20000 in
theorem gX9_deal_X9_is : GoodIn wsX9_deal (va_wsS RX9 65 yX9_is wsX9_is) := goodIn_app (goodIn_of _ (by decide +kernel)) ggX9_deal_X9_is
set_option maxRecDepth 20000 in
theorem ggX9_deal_X9_refuses : GoodIn wsX9_deal wsX9_refuses := goodIn_r _ [11, 12, 13, 24, 25, 26, 27, 28, 29, 30, 31, 32, 33, 34, 35, 36, 37, 38, 39, 40, 41, 42, 43, 44, 45, 46] (by decide +kernel) (by decide +kernel)
set_option maxRecDepth 20000 in
theorem gX9_deal_X9_refuses : GoodIn wsX9_deal (wsV RX9 61 RX9 yX9_refuses wsX9_refuses) := goodIn_app (goodIn_of _ (by decide +kernel)) ggX9_deal_X9_refuses
set_option maxRecDepth 20000 in
theorem ggX9_deal_X9_deals : GoodIn wsX9_deal wsX9_deals := goodIn_r _ [17, 18, 19, 3, 20, 21, 22, 6, 23, 24, 25, 26, 27, 28, 29, 30, 31, 32, 33, 34, 35, 36, 37, 38, 39, 40, 41, 42, 43, 44, 45, 46] (by decide +kernel) (by decide +kernel)
set_option maxRecDepth 20000 in
theorem gX9_deal_X9_deals : GoodIn wsX9_deal (wsV RX9 210 RX9 yX9_deals wsX9_deals) := goodIn_app (goodIn_of _ (by decide +kernel)) ggX9_deal_X9_deals
theorem dX9_deal_0 : decode cX9_deal 0 = .ok (.iload_n 1, 1) := by decide +kernel
theorem dX9_deal_1 : decode cX9_deal 1 = .ok (.i2l, 1) := by decide +kernel
theorem dX9_deal_2 : decode cX9_deal 2 = .ok (.ldc2_w 200, 3) := by decide +kernel
theorem dX9_deal_5 : decode cX9_deal 5 = .ok (.ldc2_w 69, 3) := by decide +kernel
theorem dX9_deal_8 : decode cX9_deal 8 = .ok (.invokestatic 65, 3) := by decide +kernel
theorem dX9_deal_11 : decode cX9_deal 11 = .ok (.ifCond .ne 11, 3) := by decide +kernel
theorem dX9_deal_14 : decode cX9_deal 14 = .ok (.aload_n 0, 1) := by decide +kernel
theorem dX9_deal_15 : decode cX9_deal 15 = .ok (.iconst 0, 1) := by decide +kernel
theorem dX9_deal_16 : decode cX9_deal 16 = .ok (.bipush (-10), 2) := by decide +kernel
theorem dX9_deal_18 : decode cX9_deal 18 = .ok (.invokevirtual 61, 3) := by decide +kernel
theorem dX9_deal_21 : decode cX9_deal 21 = .ok (.ireturn, 1) := by decide +kernel
theorem dX9_deal_22 : decode cX9_deal 22 = .ok (.aload_n 0, 1) := by decide +kernel
theorem dX9_deal_23 : decode cX9_deal 23 = .ok (.invokevirtual 210, 3) := by decide +kernel
theorem dX9_deal_26 : decode cX9_deal 26 = .ok (.istore_n 2, 1) := by decide +kernel
theorem dX9_deal_27 : decode cX9_deal 27 = .ok (.iload_n 1, 1) := by decide +kernel
theorem dX9_deal_28 : decode cX9_deal 28 = .ok (.iconst (-1), 1) := by decide +kernel
theorem dX9_deal_29 : decode cX9_deal 29 = .ok (.if_icmp .ne 7, 3) := by decide +kernel
theorem dX9_deal_32 : decode cX9_deal 32 = .ok (.iload_n 2, 1) := by decide +kernel
theorem dX9_deal_33 : decode cX9_deal 33 = .ok (.goto 25, 3) := by decide +kernel
theorem dX9_deal_36 : decode cX9_deal 36 = .ok (.aload_n 0, 1) := by decide +kernel
theorem dX9_deal_37 : decode cX9_deal 37 = .ok (.getfield 50, 3) := by decide +kernel
theorem dX9_deal_40 : decode cX9_deal 40 = .ok (.iload_n 1, 1) := by decide +kernel
theorem dX9_deal_41 : decode cX9_deal 41 = .ok (.iaload, 1) := by decide +kernel
theorem dX9_deal_42 : decode cX9_deal 42 = .ok (.ifCond .ne 8, 3) := by decide +kernel
theorem dX9_deal_45 : decode cX9_deal 45 = .ok (.bipush 8, 2) := by decide +kernel
theorem dX9_deal_47 : decode cX9_deal 47 = .ok (.goto 11, 3) := by decide +kernel
theorem dX9_deal_50 : decode cX9_deal 50 = .ok (.aload_n 0, 1) := by decide +kernel
theorem dX9_deal_51 : decode cX9_deal 51 = .ok (.getfield 50, 3) := by decide +kernel
theorem dX9_deal_54 : decode cX9_deal 54 = .ok (.iload_n 1, 1) := by decide +kernel
theorem dX9_deal_55 : decode cX9_deal 55 = .ok (.iaload, 1) := by decide +kernel
theorem dX9_deal_56 : decode cX9_deal 56 = .ok (.iconst 1, 1) := by decide +kernel
theorem dX9_deal_57 : decode cX9_deal 57 = .ok (.isub, 1) := by decide +kernel
theorem dX9_deal_58 : decode cX9_deal 58 = .ok (.ireturn, 1) := by decide +kernel
set_option maxRecDepth 20000 in
theorem ggX9_saying_X9_isSet : GoodIn wsX9_saying wsX9_isSet := goodIn_r _ [7, 2, 8, 9, 6, 10, 25, 26, 27, 28, 29, 30, 31, 32, 33, 34, 35, 36, 37, 38, 39, 40, 41, 42, 43, 44, 45, 46, 47] (by decide +kernel) (by decide +kernel)
set_option maxRecDepth 20000 in
theorem gX9_saying_X9_isSet : GoodIn wsX9_saying (wsV RX9 184 RX9 yX9_isSet wsX9_isSet) := goodIn_app (goodIn_of _ (by decide +kernel)) ggX9_saying_X9_isSet
set_option maxRecDepth 20000 in
theorem ggX9_saying_X9_is : GoodIn wsX9_saying wsX9_is := goodIn_r _ [10] (by decide +kernel) (by decide +kernel)
set_option maxRecDepth 20000 in
theorem gX9_saying_X9_is : GoodIn wsX9_saying (va_wsS RX9 65 yX9_is wsX9_is) := goodIn_app (goodIn_of _ (by decide +kernel)) ggX9_saying_X9_is
set_option maxRecDepth 20000 in
theorem ggX9_saying_X9_bad : GoodIn wsX9_saying wsX9_bad := goodIn_r _ [14, 15, 16, 17, 6, 18, 19, 20, 25, 26, 27, 28, 29, 30, 31, 32, 33, 34, 35, 36, 37, 38, 39, 40, 41, 42, 43, 44, 45, 46, 47] (by decide +kernel) (by decide +kernel)
set_option maxRecDepth 20000 in
theorem gX9_saying_X9_bad : GoodIn wsX9_saying (wsV RX9 77 RX9 yX9_bad wsX9_bad) := goodIn_app (goodIn_of _ (by decide +kernel)) ggX9_saying_X9_bad
set_option maxRecDepth 20000 in
theorem ggX9_saying_X9_full : GoodIn wsX9_saying wsX9_full := goodIn_r _ [24, 15, 16, 17, 6, 18, 19, 20, 25, 26, 27, 28, 29, 30, 31, 32, 33, 34, 35, 36, 37, 38, 39, 40, 41, 42, 43, 44, 45, 46, 47] (by decide +kernel) (by decide +kernel)
set_option maxRecDepth 20000 in
theorem gX9_saying_X9_full : GoodIn wsX9_saying (wsV RX9 81 RX9 yX9_full wsX9_full) := goodIn_app (goodIn_of _ (by decide +kernel)) ggX9_saying_X9_full
theorem dX9_saying_0 : decode cX9_saying 0 = .ok (.aload_n 0, 1) := by decide +kernel
theorem dX9_saying_1 : decode cX9_saying 1 = .ok (.iload_n 1, 1) := by decide +kernel
theorem dX9_saying_2 : decode cX9_saying 2 = .ok (.invokevirtual 184, 3) := by decide +kernel
theorem dX9_saying_5 : decode cX9_saying 5 = .ok (.ifCond .eq 19, 3) := by decide +kernel
theorem dX9_saying_8 : decode cX9_saying 8 = .ok (.iload_n 1, 1) := by decide +kernel
theorem dX9_saying_9 : decode cX9_saying 9 = .ok (.ifCond .eq 15, 3) := by decide +kernel
theorem dX9_saying_12 : decode cX9_saying 12 = .ok (.iload_n 2, 1) := by decide +kernel
theorem dX9_saying_13 : decode cX9_saying 13 = .ok (.i2l, 1) := by decide +kernel
theorem dX9_saying_14 : decode cX9_saying 14 = .ok (.lconst 1, 1) := by decide +kernel
theorem dX9_saying_15 : decode cX9_saying 15 = .ok (.ldc2_w 75, 3) := by decide +kernel
theorem dX9_saying_18 : decode cX9_saying 18 = .ok (.invokestatic 65, 3) := by decide +kernel
theorem dX9_saying_21 : decode cX9_saying 21 = .ok (.ifCond .ne 8, 3) := by decide +kernel
theorem dX9_saying_24 : decode cX9_saying 24 = .ok (.aload_n 0, 1) := by decide +kernel
theorem dX9_saying_25 : decode cX9_saying 25 = .ok (.invokevirtual 77, 3) := by decide +kernel
theorem dX9_saying_28 : decode cX9_saying 28 = .ok (.ireturn, 1) := by decide +kernel
theorem dX9_saying_29 : decode cX9_saying 29 = .ok (.aload_n 0, 1) := by decide +kernel
theorem dX9_saying_30 : decode cX9_saying 30 = .ok (.getfield 7, 3) := by decide +kernel
theorem dX9_saying_33 : decode cX9_saying 33 = .ok (.iconst 5, 1) := by decide +kernel
theorem dX9_saying_34 : decode cX9_saying 34 = .ok (.iaload, 1) := by decide +kernel
theorem dX9_saying_35 : decode cX9_saying 35 = .ok (.bipush 8, 2) := by decide +kernel
theorem dX9_saying_37 : decode cX9_saying 37 = .ok (.if_icmp .ne 8, 3) := by decide +kernel
theorem dX9_saying_40 : decode cX9_saying 40 = .ok (.aload_n 0, 1) := by decide +kernel
theorem dX9_saying_41 : decode cX9_saying 41 = .ok (.invokevirtual 81, 3) := by decide +kernel
theorem dX9_saying_44 : decode cX9_saying 44 = .ok (.ireturn, 1) := by decide +kernel
theorem dX9_saying_45 : decode cX9_saying 45 = .ok (.aload_n 0, 1) := by decide +kernel
theorem dX9_saying_46 : decode cX9_saying 46 = .ok (.getfield 7, 3) := by decide +kernel
theorem dX9_saying_49 : decode cX9_saying 49 = .ok (.sipush 196, 3) := by decide +kernel
theorem dX9_saying_52 : decode cX9_saying 52 = .ok (.iconst 2, 1) := by decide +kernel
theorem dX9_saying_53 : decode cX9_saying 53 = .ok (.aload_n 0, 1) := by decide +kernel
theorem dX9_saying_54 : decode cX9_saying 54 = .ok (.getfield 7, 3) := by decide +kernel
theorem dX9_saying_57 : decode cX9_saying 57 = .ok (.iconst 5, 1) := by decide +kernel
theorem dX9_saying_58 : decode cX9_saying 58 = .ok (.iaload, 1) := by decide +kernel
theorem dX9_saying_59 : decode cX9_saying 59 = .ok (.imul, 1) := by decide +kernel
theorem dX9_saying_60 : decode cX9_saying 60 = .ok (.iadd, 1) := by decide +kernel
theorem dX9_saying_61 : decode cX9_saying 61 = .ok (.iload_n 1, 1) := by decide +kernel
theorem dX9_saying_62 : decode cX9_saying 62 = .ok (.iastore, 1) := by decide +kernel
theorem dX9_saying_63 : decode cX9_saying 63 = .ok (.aload_n 0, 1) := by decide +kernel
theorem dX9_saying_64 : decode cX9_saying 64 = .ok (.getfield 7, 3) := by decide +kernel
theorem dX9_saying_67 : decode cX9_saying 67 = .ok (.sipush 196, 3) := by decide +kernel
theorem dX9_saying_70 : decode cX9_saying 70 = .ok (.iconst 2, 1) := by decide +kernel
theorem dX9_saying_71 : decode cX9_saying 71 = .ok (.aload_n 0, 1) := by decide +kernel
theorem dX9_saying_72 : decode cX9_saying 72 = .ok (.getfield 7, 3) := by decide +kernel
theorem dX9_saying_75 : decode cX9_saying 75 = .ok (.iconst 5, 1) := by decide +kernel
theorem dX9_saying_76 : decode cX9_saying 76 = .ok (.iaload, 1) := by decide +kernel
theorem dX9_saying_77 : decode cX9_saying 77 = .ok (.imul, 1) := by decide +kernel
theorem dX9_saying_78 : decode cX9_saying 78 = .ok (.iadd, 1) := by decide +kernel
theorem dX9_saying_79 : decode cX9_saying 79 = .ok (.iconst 1, 1) := by decide +kernel
theorem dX9_saying_80 : decode cX9_saying 80 = .ok (.iadd, 1) := by decide +kernel
theorem dX9_saying_81 : decode cX9_saying 81 = .ok (.iload_n 2, 1) := by decide +kernel
theorem dX9_saying_82 : decode cX9_saying 82 = .ok (.iastore, 1) := by decide +kernel
theorem dX9_saying_83 : decode cX9_saying 83 = .ok (.aload_n 0, 1) := by decide +kernel
theorem dX9_saying_84 : decode cX9_saying 84 = .ok (.getfield 7, 3) := by decide +kernel
theorem dX9_saying_87 : decode cX9_saying 87 = .ok (.iconst 5, 1) := by decide +kernel
theorem dX9_saying_88 : decode cX9_saying 88 = .ok (.dup2, 1) := by decide +kernel
theorem dX9_saying_89 : decode cX9_saying 89 = .ok (.iaload, 1) := by decide +kernel
theorem dX9_saying_90 : decode cX9_saying 90 = .ok (.iconst 1, 1) := by decide +kernel
theorem dX9_saying_91 : decode cX9_saying 91 = .ok (.iadd, 1) := by decide +kernel
theorem dX9_saying_92 : decode cX9_saying 92 = .ok (.iastore, 1) := by decide +kernel
theorem dX9_saying_93 : decode cX9_saying 93 = .ok (.aload_n 0, 1) := by decide +kernel
theorem dX9_saying_94 : decode cX9_saying 94 = .ok (.getfield 7, 3) := by decide +kernel
theorem dX9_saying_97 : decode cX9_saying 97 = .ok (.iconst 5, 1) := by decide +kernel
theorem dX9_saying_98 : decode cX9_saying 98 = .ok (.iaload, 1) := by decide +kernel
theorem dX9_saying_99 : decode cX9_saying 99 = .ok (.iconst 1, 1) := by decide +kernel
theorem dX9_saying_100 : decode cX9_saying 100 = .ok (.isub, 1) := by decide +kernel
theorem dX9_saying_101 : decode cX9_saying 101 = .ok (.ireturn, 1) := by decide +kernel
theorem dX9_aboutOf_0 : decode cX9_aboutOf 0 = .ok (.iconst 0, 1) := by decide +kernel
theorem dX9_aboutOf_1 : decode cX9_aboutOf 1 = .ok (.istore_n 2, 1) := by decide +kernel
theorem dX9_aboutOf_2 : decode cX9_aboutOf 2 = .ok (.iconst 0, 1) := by decide +kernel
theorem dX9_aboutOf_3 : decode cX9_aboutOf 3 = .ok (.istore_n 3, 1) := by decide +kernel
theorem dX9_aboutOf_4 : decode cX9_aboutOf 4 = .ok (.iload_n 3, 1) := by decide +kernel
theorem dX9_aboutOf_5 : decode cX9_aboutOf 5 = .ok (.aload_n 0, 1) := by decide +kernel
theorem dX9_aboutOf_6 : decode cX9_aboutOf 6 = .ok (.getfield 7, 3) := by decide +kernel
theorem dX9_aboutOf_9 : decode cX9_aboutOf 9 = .ok (.iconst 5, 1) := by decide +kernel
theorem dX9_aboutOf_10 : decode cX9_aboutOf 10 = .ok (.iaload, 1) := by decide +kernel
theorem dX9_aboutOf_11 : decode cX9_aboutOf 11 = .ok (.if_icmp .ge 38, 3) := by decide +kernel
theorem dX9_aboutOf_14 : decode cX9_aboutOf 14 = .ok (.iload_n 2, 1) := by decide +kernel
theorem dX9_aboutOf_15 : decode cX9_aboutOf 15 = .ok (.iload_n 1, 1) := by decide +kernel
theorem dX9_aboutOf_16 : decode cX9_aboutOf 16 = .ok (.aload_n 0, 1) := by decide +kernel
theorem dX9_aboutOf_17 : decode cX9_aboutOf 17 = .ok (.getfield 7, 3) := by decide +kernel
theorem dX9_aboutOf_20 : decode cX9_aboutOf 20 = .ok (.sipush 196, 3) := by decide +kernel
theorem dX9_aboutOf_23 : decode cX9_aboutOf 23 = .ok (.iconst 2, 1) := by decide +kernel
theorem dX9_aboutOf_24 : decode cX9_aboutOf 24 = .ok (.iload_n 3, 1) := by decide +kernel
theorem dX9_aboutOf_25 : decode cX9_aboutOf 25 = .ok (.imul, 1) := by decide +kernel
theorem dX9_aboutOf_26 : decode cX9_aboutOf 26 = .ok (.iadd, 1) := by decide +kernel
theorem dX9_aboutOf_27 : decode cX9_aboutOf 27 = .ok (.iaload, 1) := by decide +kernel
theorem dX9_aboutOf_28 : decode cX9_aboutOf 28 = .ok (.iconst (-1), 1) := by decide +kernel
theorem dX9_aboutOf_29 : decode cX9_aboutOf 29 = .ok (.ixor, 1) := by decide +kernel
theorem dX9_aboutOf_30 : decode cX9_aboutOf 30 = .ok (.iand, 1) := by decide +kernel
theorem dX9_aboutOf_31 : decode cX9_aboutOf 31 = .ok (.ifCond .ne 9, 3) := by decide +kernel
theorem dX9_aboutOf_34 : decode cX9_aboutOf 34 = .ok (.iconst 1, 1) := by decide +kernel
theorem dX9_aboutOf_35 : decode cX9_aboutOf 35 = .ok (.iload_n 3, 1) := by decide +kernel
theorem dX9_aboutOf_36 : decode cX9_aboutOf 36 = .ok (.ishl, 1) := by decide +kernel
theorem dX9_aboutOf_37 : decode cX9_aboutOf 37 = .ok (.goto 4, 3) := by decide +kernel
theorem dX9_aboutOf_40 : decode cX9_aboutOf 40 = .ok (.iconst 0, 1) := by decide +kernel
theorem dX9_aboutOf_41 : decode cX9_aboutOf 41 = .ok (.ior, 1) := by decide +kernel
theorem dX9_aboutOf_42 : decode cX9_aboutOf 42 = .ok (.istore_n 2, 1) := by decide +kernel
theorem dX9_aboutOf_43 : decode cX9_aboutOf 43 = .ok (.iinc 3 1, 3) := by decide +kernel
theorem dX9_aboutOf_46 : decode cX9_aboutOf 46 = .ok (.goto (-42), 3) := by decide +kernel
theorem dX9_aboutOf_49 : decode cX9_aboutOf 49 = .ok (.iload_n 2, 1) := by decide +kernel
theorem dX9_aboutOf_50 : decode cX9_aboutOf 50 = .ok (.ireturn, 1) := by decide +kernel
set_option maxRecDepth 20000 in
theorem ggX9_about_X9_isSet : GoodIn wsX9_about wsX9_isSet := goodIn_r _ [5, 6, 7, 8, 4, 9, 24, 25, 26, 27, 28, 29, 30, 31, 32, 33, 34, 35, 36, 37, 38, 39, 40, 41, 42, 43, 44, 45, 46] (by decide +kernel) (by decide +kernel)
set_option maxRecDepth 20000 in
theorem gX9_about_X9_isSet : GoodIn wsX9_about (wsV RX9 184 RX9 yX9_isSet wsX9_isSet) := goodIn_app (goodIn_of _ (by decide +kernel)) ggX9_about_X9_isSet
set_option maxRecDepth 20000 in
theorem ggX9_about_X9_aboutOf : GoodIn wsX9_about wsX9_aboutOf := goodIn_r _ [13, 6, 24, 25, 26, 27, 28, 29, 30, 31, 32, 33, 34, 35, 36, 37, 38, 39, 40, 41, 42, 43, 44, 45, 46] (by decide +kernel) (by decide +kernel)
set_option maxRecDepth 20000 in
theorem gX9_about_X9_aboutOf : GoodIn wsX9_about (wsV RX9 213 RX9 yX9_aboutOf wsX9_aboutOf) := goodIn_app (goodIn_of _ (by decide +kernel)) ggX9_about_X9_aboutOf
set_option maxRecDepth 20000 in
theorem ggX9_about_X9_bad : GoodIn wsX9_about wsX9_bad := goodIn_r _ [17, 18, 19, 20, 4, 21, 22, 23, 24, 25, 26, 27, 28, 29, 30, 31, 32, 33, 34, 35, 36, 37, 38, 39, 40, 41, 42, 43, 44, 45, 46] (by decide +kernel) (by decide +kernel)
set_option maxRecDepth 20000 in
theorem gX9_about_X9_bad : GoodIn wsX9_about (wsV RX9 77 RX9 yX9_bad wsX9_bad) := goodIn_app (goodIn_of _ (by decide +kernel)) ggX9_about_X9_bad
theorem dX9_about_0 : decode cX9_about 0 = .ok (.aload_n 0, 1) := by decide +kernel
theorem dX9_about_1 : decode cX9_about 1 = .ok (.iload_n 1, 1) := by decide +kernel
theorem dX9_about_2 : decode cX9_about 2 = .ok (.invokevirtual 184, 3) := by decide +kernel
theorem dX9_about_5 : decode cX9_about 5 = .ok (.ifCond .eq 11, 3) := by decide +kernel
theorem dX9_about_8 : decode cX9_about 8 = .ok (.aload_n 0, 1) := by decide +kernel
theorem dX9_about_9 : decode cX9_about 9 = .ok (.iload_n 1, 1) := by decide +kernel
theorem dX9_about_10 : decode cX9_about 10 = .ok (.invokevirtual 213, 3) := by decide +kernel
theorem dX9_about_13 : decode cX9_about 13 = .ok (.goto 7, 3) := by decide +kernel
theorem dX9_about_16 : decode cX9_about 16 = .ok (.aload_n 0, 1) := by decide +kernel
theorem dX9_about_17 : decode cX9_about 17 = .ok (.invokevirtual 77, 3) := by decide +kernel
theorem dX9_about_20 : decode cX9_about 20 = .ok (.ireturn, 1) := by decide +kernel
theorem dX9_divisor_0 : decode cX9_divisor 0 = .ok (.lload_n 0, 1) := by decide +kernel
theorem dX9_divisor_1 : decode cX9_divisor 1 = .ok (.lstore 4, 2) := by decide +kernel
theorem dX9_divisor_3 : decode cX9_divisor 3 = .ok (.lload_n 2, 1) := by decide +kernel
theorem dX9_divisor_4 : decode cX9_divisor 4 = .ok (.lstore 6, 2) := by decide +kernel
theorem dX9_divisor_6 : decode cX9_divisor 6 = .ok (.lload 6, 2) := by decide +kernel
theorem dX9_divisor_8 : decode cX9_divisor 8 = .ok (.lconst 0, 1) := by decide +kernel
theorem dX9_divisor_9 : decode cX9_divisor 9 = .ok (.lcmp, 1) := by decide +kernel
theorem dX9_divisor_10 : decode cX9_divisor 10 = .ok (.ifCond .eq 21, 3) := by decide +kernel
theorem dX9_divisor_13 : decode cX9_divisor 13 = .ok (.lload 4, 2) := by decide +kernel
theorem dX9_divisor_15 : decode cX9_divisor 15 = .ok (.lload 6, 2) := by decide +kernel
theorem dX9_divisor_17 : decode cX9_divisor 17 = .ok (.lrem, 1) := by decide +kernel
theorem dX9_divisor_18 : decode cX9_divisor 18 = .ok (.lstore 8, 2) := by decide +kernel
theorem dX9_divisor_20 : decode cX9_divisor 20 = .ok (.lload 6, 2) := by decide +kernel
theorem dX9_divisor_22 : decode cX9_divisor 22 = .ok (.lstore 4, 2) := by decide +kernel
theorem dX9_divisor_24 : decode cX9_divisor 24 = .ok (.lload 8, 2) := by decide +kernel
theorem dX9_divisor_26 : decode cX9_divisor 26 = .ok (.lstore 6, 2) := by decide +kernel
theorem dX9_divisor_28 : decode cX9_divisor 28 = .ok (.goto (-22), 3) := by decide +kernel
theorem dX9_divisor_31 : decode cX9_divisor 31 = .ok (.lload 4, 2) := by decide +kernel
theorem dX9_divisor_33 : decode cX9_divisor 33 = .ok (.lreturn, 1) := by decide +kernel
set_option maxRecDepth 20000 in
theorem ggX9_odds_X9_isSet : GoodIn wsX9_odds wsX9_isSet := goodIn_r _ [8, 1, 9, 10, 7, 11, 33, 34, 35, 36, 37, 38, 39, 40, 41, 42, 43, 44, 45, 46, 47, 48, 49, 50, 51, 52, 53, 54, 55] (by decide +kernel) (by decide +kernel)
set_option maxRecDepth 20000 in
theorem gX9_odds_X9_isSet : GoodIn wsX9_odds (wsV RX9 184 RX9 yX9_isSet wsX9_isSet) := goodIn_app (goodIn_of _ (by decide +kernel)) ggX9_odds_X9_isSet
set_option maxRecDepth 20000 in
theorem ggX9_odds_X9_is : GoodIn wsX9_odds wsX9_is := goodIn_r _ [11] (by decide +kernel) (by decide +kernel)
set_option maxRecDepth 20000 in
theorem gX9_odds_X9_is : GoodIn wsX9_odds (va_wsS RX9 65 yX9_is wsX9_is) := goodIn_app (goodIn_of _ (by decide +kernel)) ggX9_odds_X9_is
set_option maxRecDepth 20000 in
theorem ggX9_odds_X9_bad : GoodIn wsX9_odds wsX9_bad := goodIn_r _ [15, 16, 17, 18, 7, 19, 20, 21, 33, 34, 35, 36, 37, 38, 39, 40, 41, 42, 43, 44, 45, 46, 47, 48, 49, 50, 51, 52, 53, 54, 55] (by decide +kernel) (by decide +kernel)
set_option maxRecDepth 20000 in
theorem gX9_odds_X9_bad : GoodIn wsX9_odds (wsV RX9 77 RX9 yX9_bad wsX9_bad) := goodIn_app (goodIn_of _ (by decide +kernel)) ggX9_odds_X9_bad
set_option maxRecDepth 20000 in
theorem ggX9_odds_X9_aboutOf : GoodIn wsX9_odds wsX9_aboutOf := goodIn_r _ [25, 1, 33, 34, 35, 36, 37, 38, 39, 40, 41, 42, 43, 44, 45, 46, 47, 48, 49, 50, 51, 52, 53, 54, 55] (by decide +kernel) (by decide +kernel)
set_option maxRecDepth 20000 in
theorem gX9_odds_X9_aboutOf : GoodIn wsX9_odds (wsV RX9 213 RX9 yX9_aboutOf wsX9_aboutOf) := goodIn_app (goodIn_of _ (by decide +kernel)) ggX9_odds_X9_aboutOf
set_option maxRecDepth 20000 in
theorem ggX9_odds_X9_no : GoodIn wsX9_odds wsX9_no := goodIn_r _ [29, 16, 17, 18, 7, 19, 20, 21, 33, 34, 35, 36, 37, 38, 39, 40, 41, 42, 43, 44, 45, 46, 47, 48, 49, 50, 51, 52, 53, 54, 55] (by decide +kernel) (by decide +kernel)
set_option maxRecDepth 20000 in
theorem gX9_odds_X9_no : GoodIn wsX9_odds (wsV RX9 216 RX9 yX9_no wsX9_no) := goodIn_app (goodIn_of _ (by decide +kernel)) ggX9_odds_X9_no
set_option maxRecDepth 20000 in
theorem ggX9_odds_X9_divisor : GoodIn wsX9_odds wsX9_divisor := goodIn_r _ [32] (by decide +kernel) (by decide +kernel)
set_option maxRecDepth 20000 in
theorem gX9_odds_X9_divisor : GoodIn wsX9_odds (va_wsS RX9 219 yX9_divisor wsX9_divisor) := goodIn_app (goodIn_of _ (by decide +kernel)) ggX9_odds_X9_divisor
theorem dX9_odds_0 : decode cX9_odds 0 = .ok (.aload_n 0, 1) := by decide +kernel
theorem dX9_odds_1 : decode cX9_odds 1 = .ok (.iload_n 1, 1) := by decide +kernel
theorem dX9_odds_2 : decode cX9_odds 2 = .ok (.invokevirtual 184, 3) := by decide +kernel
theorem dX9_odds_5 : decode cX9_odds 5 = .ok (.ifCond .eq 21, 3) := by decide +kernel
theorem dX9_odds_8 : decode cX9_odds 8 = .ok (.iload_n 2, 1) := by decide +kernel
theorem dX9_odds_9 : decode cX9_odds 9 = .ok (.i2l, 1) := by decide +kernel
theorem dX9_odds_10 : decode cX9_odds 10 = .ok (.lconst 0, 1) := by decide +kernel
theorem dX9_odds_11 : decode cX9_odds 11 = .ok (.aload_n 0, 1) := by decide +kernel
theorem dX9_odds_12 : decode cX9_odds 12 = .ok (.getfield 7, 3) := by decide +kernel
theorem dX9_odds_15 : decode cX9_odds 15 = .ok (.iconst 5, 1) := by decide +kernel
theorem dX9_odds_16 : decode cX9_odds 16 = .ok (.iaload, 1) := by decide +kernel
theorem dX9_odds_17 : decode cX9_odds 17 = .ok (.iconst 1, 1) := by decide +kernel
theorem dX9_odds_18 : decode cX9_odds 18 = .ok (.isub, 1) := by decide +kernel
theorem dX9_odds_19 : decode cX9_odds 19 = .ok (.i2l, 1) := by decide +kernel
theorem dX9_odds_20 : decode cX9_odds 20 = .ok (.invokestatic 65, 3) := by decide +kernel
theorem dX9_odds_23 : decode cX9_odds 23 = .ok (.ifCond .ne 8, 3) := by decide +kernel
theorem dX9_odds_26 : decode cX9_odds 26 = .ok (.aload_n 0, 1) := by decide +kernel
theorem dX9_odds_27 : decode cX9_odds 27 = .ok (.invokevirtual 77, 3) := by decide +kernel
theorem dX9_odds_30 : decode cX9_odds 30 = .ok (.ireturn, 1) := by decide +kernel
theorem dX9_odds_31 : decode cX9_odds 31 = .ok (.aload_n 0, 1) := by decide +kernel
theorem dX9_odds_32 : decode cX9_odds 32 = .ok (.iload_n 1, 1) := by decide +kernel
theorem dX9_odds_33 : decode cX9_odds 33 = .ok (.invokevirtual 213, 3) := by decide +kernel
theorem dX9_odds_36 : decode cX9_odds 36 = .ok (.istore_n 3, 1) := by decide +kernel
theorem dX9_odds_37 : decode cX9_odds 37 = .ok (.iload_n 3, 1) := by decide +kernel
theorem dX9_odds_38 : decode cX9_odds 38 = .ok (.iload_n 2, 1) := by decide +kernel
theorem dX9_odds_39 : decode cX9_odds 39 = .ok (.ishr, 1) := by decide +kernel
theorem dX9_odds_40 : decode cX9_odds 40 = .ok (.iconst 1, 1) := by decide +kernel
theorem dX9_odds_41 : decode cX9_odds 41 = .ok (.iand, 1) := by decide +kernel
theorem dX9_odds_42 : decode cX9_odds 42 = .ok (.ifCond .ne 8, 3) := by decide +kernel
theorem dX9_odds_45 : decode cX9_odds 45 = .ok (.aload_n 0, 1) := by decide +kernel
theorem dX9_odds_46 : decode cX9_odds 46 = .ok (.invokevirtual 216, 3) := by decide +kernel
theorem dX9_odds_49 : decode cX9_odds 49 = .ok (.ireturn, 1) := by decide +kernel
theorem dX9_odds_50 : decode cX9_odds 50 = .ok (.lconst 0, 1) := by decide +kernel
theorem dX9_odds_51 : decode cX9_odds 51 = .ok (.lstore 4, 2) := by decide +kernel
theorem dX9_odds_53 : decode cX9_odds 53 = .ok (.iconst 0, 1) := by decide +kernel
theorem dX9_odds_54 : decode cX9_odds 54 = .ok (.istore 6, 2) := by decide +kernel
theorem dX9_odds_56 : decode cX9_odds 56 = .ok (.iload 6, 2) := by decide +kernel
theorem dX9_odds_58 : decode cX9_odds 58 = .ok (.aload_n 0, 1) := by decide +kernel
theorem dX9_odds_59 : decode cX9_odds 59 = .ok (.getfield 7, 3) := by decide +kernel
theorem dX9_odds_62 : decode cX9_odds 62 = .ok (.iconst 5, 1) := by decide +kernel
theorem dX9_odds_63 : decode cX9_odds 63 = .ok (.iaload, 1) := by decide +kernel
theorem dX9_odds_64 : decode cX9_odds 64 = .ok (.if_icmp .ge 44, 3) := by decide +kernel
theorem dX9_odds_67 : decode cX9_odds 67 = .ok (.lload 4, 2) := by decide +kernel
theorem dX9_odds_69 : decode cX9_odds 69 = .ok (.iload_n 3, 1) := by decide +kernel
theorem dX9_odds_70 : decode cX9_odds 70 = .ok (.iload 6, 2) := by decide +kernel
theorem dX9_odds_72 : decode cX9_odds 72 = .ok (.ishr, 1) := by decide +kernel
theorem dX9_odds_73 : decode cX9_odds 73 = .ok (.iconst 1, 1) := by decide +kernel
theorem dX9_odds_74 : decode cX9_odds 74 = .ok (.iand, 1) := by decide +kernel
theorem dX9_odds_75 : decode cX9_odds 75 = .ok (.iconst 1, 1) := by decide +kernel
theorem dX9_odds_76 : decode cX9_odds 76 = .ok (.if_icmp .ne 22, 3) := by decide +kernel
theorem dX9_odds_79 : decode cX9_odds 79 = .ok (.aload_n 0, 1) := by decide +kernel
theorem dX9_odds_80 : decode cX9_odds 80 = .ok (.getfield 7, 3) := by decide +kernel
theorem dX9_odds_83 : decode cX9_odds 83 = .ok (.sipush 196, 3) := by decide +kernel
theorem dX9_odds_86 : decode cX9_odds 86 = .ok (.iconst 2, 1) := by decide +kernel
theorem dX9_odds_87 : decode cX9_odds 87 = .ok (.iload 6, 2) := by decide +kernel
theorem dX9_odds_89 : decode cX9_odds 89 = .ok (.imul, 1) := by decide +kernel
theorem dX9_odds_90 : decode cX9_odds 90 = .ok (.iadd, 1) := by decide +kernel
theorem dX9_odds_91 : decode cX9_odds 91 = .ok (.iconst 1, 1) := by decide +kernel
theorem dX9_odds_92 : decode cX9_odds 92 = .ok (.iadd, 1) := by decide +kernel
theorem dX9_odds_93 : decode cX9_odds 93 = .ok (.iaload, 1) := by decide +kernel
theorem dX9_odds_94 : decode cX9_odds 94 = .ok (.i2l, 1) := by decide +kernel
theorem dX9_odds_95 : decode cX9_odds 95 = .ok (.goto 4, 3) := by decide +kernel
theorem dX9_odds_98 : decode cX9_odds 98 = .ok (.lconst 0, 1) := by decide +kernel
theorem dX9_odds_99 : decode cX9_odds 99 = .ok (.ladd, 1) := by decide +kernel
theorem dX9_odds_100 : decode cX9_odds 100 = .ok (.lstore 4, 2) := by decide +kernel
theorem dX9_odds_102 : decode cX9_odds 102 = .ok (.iinc 6 1, 3) := by decide +kernel
theorem dX9_odds_105 : decode cX9_odds 105 = .ok (.goto (-49), 3) := by decide +kernel
theorem dX9_odds_108 : decode cX9_odds 108 = .ok (.aload_n 0, 1) := by decide +kernel
theorem dX9_odds_109 : decode cX9_odds 109 = .ok (.getfield 7, 3) := by decide +kernel
theorem dX9_odds_112 : decode cX9_odds 112 = .ok (.sipush 196, 3) := by decide +kernel
theorem dX9_odds_115 : decode cX9_odds 115 = .ok (.iconst 2, 1) := by decide +kernel
theorem dX9_odds_116 : decode cX9_odds 116 = .ok (.iload_n 2, 1) := by decide +kernel
theorem dX9_odds_117 : decode cX9_odds 117 = .ok (.imul, 1) := by decide +kernel
theorem dX9_odds_118 : decode cX9_odds 118 = .ok (.iadd, 1) := by decide +kernel
theorem dX9_odds_119 : decode cX9_odds 119 = .ok (.iconst 1, 1) := by decide +kernel
theorem dX9_odds_120 : decode cX9_odds 120 = .ok (.iadd, 1) := by decide +kernel
theorem dX9_odds_121 : decode cX9_odds 121 = .ok (.iaload, 1) := by decide +kernel
theorem dX9_odds_122 : decode cX9_odds 122 = .ok (.i2l, 1) := by decide +kernel
theorem dX9_odds_123 : decode cX9_odds 123 = .ok (.lstore 6, 2) := by decide +kernel
theorem dX9_odds_125 : decode cX9_odds 125 = .ok (.lload 6, 2) := by decide +kernel
theorem dX9_odds_127 : decode cX9_odds 127 = .ok (.lload 4, 2) := by decide +kernel
theorem dX9_odds_129 : decode cX9_odds 129 = .ok (.invokestatic 219, 3) := by decide +kernel
theorem dX9_odds_132 : decode cX9_odds 132 = .ok (.lstore 8, 2) := by decide +kernel
theorem dX9_odds_134 : decode cX9_odds 134 = .ok (.aload_n 0, 1) := by decide +kernel
theorem dX9_odds_135 : decode cX9_odds 135 = .ok (.lload 6, 2) := by decide +kernel
theorem dX9_odds_137 : decode cX9_odds 137 = .ok (.lload 8, 2) := by decide +kernel
theorem dX9_odds_139 : decode cX9_odds 139 = .ok (.ldiv, 1) := by decide +kernel
theorem dX9_odds_140 : decode cX9_odds 140 = .ok (.putfield 223, 3) := by decide +kernel
theorem dX9_odds_143 : decode cX9_odds 143 = .ok (.aload_n 0, 1) := by decide +kernel
theorem dX9_odds_144 : decode cX9_odds 144 = .ok (.lload 4, 2) := by decide +kernel
theorem dX9_odds_146 : decode cX9_odds 146 = .ok (.lload 8, 2) := by decide +kernel
theorem dX9_odds_148 : decode cX9_odds 148 = .ok (.ldiv, 1) := by decide +kernel
theorem dX9_odds_149 : decode cX9_odds 149 = .ok (.putfield 53, 3) := by decide +kernel
theorem dX9_odds_152 : decode cX9_odds 152 = .ok (.iconst 1, 1) := by decide +kernel
theorem dX9_odds_153 : decode cX9_odds 153 = .ok (.ireturn, 1) := by decide +kernel
set_option maxRecDepth 20000 in
theorem ggX9_isDumb_X9_fewest : GoodIn wsX9_isDumb wsX9_fewest := goodIn_r _ [8, 1, 2, 3, 9, 10, 11, 12, 13, 14, 15, 16, 17, 18, 19, 20, 21, 22, 23, 24, 25, 26, 27, 28, 29, 30, 31] (by decide +kernel) (by decide +kernel)
set_option maxRecDepth 20000 in
theorem gX9_isDumb_X9_fewest : GoodIn wsX9_isDumb (wsV RX9 187 RX9 yX9_fewest wsX9_fewest) := goodIn_app (goodIn_of _ (by decide +kernel)) ggX9_isDumb_X9_fewest
theorem dX9_isDumb_0 : decode cX9_isDumb 0 = .ok (.aload_n 0, 1) := by decide +kernel
theorem dX9_isDumb_1 : decode cX9_isDumb 1 = .ok (.iconst 1, 1) := by decide +kernel
theorem dX9_isDumb_2 : decode cX9_isDumb 2 = .ok (.aload_n 0, 1) := by decide +kernel
theorem dX9_isDumb_3 : decode cX9_isDumb 3 = .ok (.getfield 7, 3) := by decide +kernel
theorem dX9_isDumb_6 : decode cX9_isDumb 6 = .ok (.iconst 0, 1) := by decide +kernel
theorem dX9_isDumb_7 : decode cX9_isDumb 7 = .ok (.iaload, 1) := by decide +kernel
theorem dX9_isDumb_8 : decode cX9_isDumb 8 = .ok (.ishl, 1) := by decide +kernel
theorem dX9_isDumb_9 : decode cX9_isDumb 9 = .ok (.iconst 1, 1) := by decide +kernel
theorem dX9_isDumb_10 : decode cX9_isDumb 10 = .ok (.isub, 1) := by decide +kernel
theorem dX9_isDumb_11 : decode cX9_isDumb 11 = .ok (.iload_n 2, 1) := by decide +kernel
theorem dX9_isDumb_12 : decode cX9_isDumb 12 = .ok (.iconst (-1), 1) := by decide +kernel
theorem dX9_isDumb_13 : decode cX9_isDumb 13 = .ok (.ixor, 1) := by decide +kernel
theorem dX9_isDumb_14 : decode cX9_isDumb 14 = .ok (.iand, 1) := by decide +kernel
theorem dX9_isDumb_15 : decode cX9_isDumb 15 = .ok (.invokevirtual 187, 3) := by decide +kernel
theorem dX9_isDumb_18 : decode cX9_isDumb 18 = .ok (.iconst 1, 1) := by decide +kernel
theorem dX9_isDumb_19 : decode cX9_isDumb 19 = .ok (.istore_n 3, 1) := by decide +kernel
theorem dX9_isDumb_20 : decode cX9_isDumb 20 = .ok (.iconst 0, 1) := by decide +kernel
theorem dX9_isDumb_21 : decode cX9_isDumb 21 = .ok (.istore 4, 2) := by decide +kernel
theorem dX9_isDumb_23 : decode cX9_isDumb 23 = .ok (.iload 4, 2) := by decide +kernel
theorem dX9_isDumb_25 : decode cX9_isDumb 25 = .ok (.aload_n 0, 1) := by decide +kernel
theorem dX9_isDumb_26 : decode cX9_isDumb 26 = .ok (.getfield 7, 3) := by decide +kernel
theorem dX9_isDumb_29 : decode cX9_isDumb 29 = .ok (.iconst 5, 1) := by decide +kernel
theorem dX9_isDumb_30 : decode cX9_isDumb 30 = .ok (.iaload, 1) := by decide +kernel
theorem dX9_isDumb_31 : decode cX9_isDumb 31 = .ok (.if_icmp .ge 106, 3) := by decide +kernel
theorem dX9_isDumb_34 : decode cX9_isDumb 34 = .ok (.iload_n 1, 1) := by decide +kernel
theorem dX9_isDumb_35 : decode cX9_isDumb 35 = .ok (.iload 4, 2) := by decide +kernel
theorem dX9_isDumb_37 : decode cX9_isDumb 37 = .ok (.ishr, 1) := by decide +kernel
theorem dX9_isDumb_38 : decode cX9_isDumb 38 = .ok (.iconst 1, 1) := by decide +kernel
theorem dX9_isDumb_39 : decode cX9_isDumb 39 = .ok (.iand, 1) := by decide +kernel
theorem dX9_isDumb_40 : decode cX9_isDumb 40 = .ok (.iconst 1, 1) := by decide +kernel
theorem dX9_isDumb_41 : decode cX9_isDumb 41 = .ok (.if_icmp .ne 7, 3) := by decide +kernel
theorem dX9_isDumb_44 : decode cX9_isDumb 44 = .ok (.iconst 1, 1) := by decide +kernel
theorem dX9_isDumb_45 : decode cX9_isDumb 45 = .ok (.goto 4, 3) := by decide +kernel
theorem dX9_isDumb_48 : decode cX9_isDumb 48 = .ok (.iconst 0, 1) := by decide +kernel
theorem dX9_isDumb_49 : decode cX9_isDumb 49 = .ok (.istore 5, 2) := by decide +kernel
theorem dX9_isDumb_51 : decode cX9_isDumb 51 = .ok (.iconst 0, 1) := by decide +kernel
theorem dX9_isDumb_52 : decode cX9_isDumb 52 = .ok (.istore 6, 2) := by decide +kernel
theorem dX9_isDumb_54 : decode cX9_isDumb 54 = .ok (.iload 6, 2) := by decide +kernel
theorem dX9_isDumb_56 : decode cX9_isDumb 56 = .ok (.aload_n 0, 1) := by decide +kernel
theorem dX9_isDumb_57 : decode cX9_isDumb 57 = .ok (.getfield 7, 3) := by decide +kernel
theorem dX9_isDumb_60 : decode cX9_isDumb 60 = .ok (.iconst 0, 1) := by decide +kernel
theorem dX9_isDumb_61 : decode cX9_isDumb 61 = .ok (.iaload, 1) := by decide +kernel
theorem dX9_isDumb_62 : decode cX9_isDumb 62 = .ok (.if_icmp .ge 54, 3) := by decide +kernel
theorem dX9_isDumb_65 : decode cX9_isDumb 65 = .ok (.iload 5, 2) := by decide +kernel
theorem dX9_isDumb_67 : decode cX9_isDumb 67 = .ok (.ifCond .eq 40, 3) := by decide +kernel
theorem dX9_isDumb_70 : decode cX9_isDumb 70 = .ok (.aload_n 0, 1) := by decide +kernel
theorem dX9_isDumb_71 : decode cX9_isDumb 71 = .ok (.getfield 7, 3) := by decide +kernel
theorem dX9_isDumb_74 : decode cX9_isDumb 74 = .ok (.sipush 196, 3) := by decide +kernel
theorem dX9_isDumb_77 : decode cX9_isDumb 77 = .ok (.iconst 2, 1) := by decide +kernel
theorem dX9_isDumb_78 : decode cX9_isDumb 78 = .ok (.iload 4, 2) := by decide +kernel
theorem dX9_isDumb_80 : decode cX9_isDumb 80 = .ok (.imul, 1) := by decide +kernel
theorem dX9_isDumb_81 : decode cX9_isDumb 81 = .ok (.iadd, 1) := by decide +kernel
theorem dX9_isDumb_82 : decode cX9_isDumb 82 = .ok (.iaload, 1) := by decide +kernel
theorem dX9_isDumb_83 : decode cX9_isDumb 83 = .ok (.iload 6, 2) := by decide +kernel
theorem dX9_isDumb_85 : decode cX9_isDumb 85 = .ok (.ishr, 1) := by decide +kernel
theorem dX9_isDumb_86 : decode cX9_isDumb 86 = .ok (.iconst 1, 1) := by decide +kernel
theorem dX9_isDumb_87 : decode cX9_isDumb 87 = .ok (.iand, 1) := by decide +kernel
theorem dX9_isDumb_88 : decode cX9_isDumb 88 = .ok (.ifCond .eq 15, 3) := by decide +kernel
theorem dX9_isDumb_91 : decode cX9_isDumb 91 = .ok (.aload_n 0, 1) := by decide +kernel
theorem dX9_isDumb_92 : decode cX9_isDumb 92 = .ok (.getfield 32, 3) := by decide +kernel
theorem dX9_isDumb_95 : decode cX9_isDumb 95 = .ok (.iload 6, 2) := by decide +kernel
theorem dX9_isDumb_97 : decode cX9_isDumb 97 = .ok (.iaload, 1) := by decide +kernel
theorem dX9_isDumb_98 : decode cX9_isDumb 98 = .ok (.ldc 183, 2) := by decide +kernel
theorem dX9_isDumb_100 : decode cX9_isDumb 100 = .ok (.if_icmp .ge 7, 3) := by decide +kernel
theorem dX9_isDumb_103 : decode cX9_isDumb 103 = .ok (.iconst 1, 1) := by decide +kernel
theorem dX9_isDumb_104 : decode cX9_isDumb 104 = .ok (.goto 4, 3) := by decide +kernel
theorem dX9_isDumb_107 : decode cX9_isDumb 107 = .ok (.iconst 0, 1) := by decide +kernel
theorem dX9_isDumb_108 : decode cX9_isDumb 108 = .ok (.istore 5, 2) := by decide +kernel
theorem dX9_isDumb_110 : decode cX9_isDumb 110 = .ok (.iinc 6 1, 3) := by decide +kernel
theorem dX9_isDumb_113 : decode cX9_isDumb 113 = .ok (.goto (-59), 3) := by decide +kernel
theorem dX9_isDumb_116 : decode cX9_isDumb 116 = .ok (.iload_n 3, 1) := by decide +kernel
theorem dX9_isDumb_117 : decode cX9_isDumb 117 = .ok (.ifCond .eq 12, 3) := by decide +kernel
theorem dX9_isDumb_120 : decode cX9_isDumb 120 = .ok (.iload 5, 2) := by decide +kernel
theorem dX9_isDumb_122 : decode cX9_isDumb 122 = .ok (.ifCond .ne 7, 3) := by decide +kernel
theorem dX9_isDumb_125 : decode cX9_isDumb 125 = .ok (.iconst 1, 1) := by decide +kernel
theorem dX9_isDumb_126 : decode cX9_isDumb 126 = .ok (.goto 4, 3) := by decide +kernel
theorem dX9_isDumb_129 : decode cX9_isDumb 129 = .ok (.iconst 0, 1) := by decide +kernel
theorem dX9_isDumb_130 : decode cX9_isDumb 130 = .ok (.istore_n 3, 1) := by decide +kernel
theorem dX9_isDumb_131 : decode cX9_isDumb 131 = .ok (.iinc 4 1, 3) := by decide +kernel
theorem dX9_isDumb_134 : decode cX9_isDumb 134 = .ok (.goto (-111), 3) := by decide +kernel
theorem dX9_isDumb_137 : decode cX9_isDumb 137 = .ok (.iload_n 3, 1) := by decide +kernel
theorem dX9_isDumb_138 : decode cX9_isDumb 138 = .ok (.ireturn, 1) := by decide +kernel
set_option maxRecDepth 20000 in
theorem ggX9_dumb_X9_is : GoodIn wsX9_dumb wsX9_is := goodIn_r _ [5] (by decide +kernel) (by decide +kernel)
set_option maxRecDepth 20000 in
theorem gX9_dumb_X9_is : GoodIn wsX9_dumb (va_wsS RX9 65 yX9_is wsX9_is) := goodIn_app (goodIn_of _ (by decide +kernel)) ggX9_dumb_X9_is
set_option maxRecDepth 20000 in
theorem ggX9_dumb_X9_bad : GoodIn wsX9_dumb wsX9_bad := goodIn_r _ [9, 10, 11, 12, 4, 13, 14, 15, 29, 30, 31, 32, 33, 34, 35, 36, 37, 38, 39, 40, 41, 42, 43, 44, 45, 46, 47, 48, 49, 50, 51] (by decide +kernel) (by decide +kernel)
set_option maxRecDepth 20000 in
theorem gX9_dumb_X9_bad : GoodIn wsX9_dumb (wsV RX9 77 RX9 yX9_bad wsX9_bad) := goodIn_app (goodIn_of _ (by decide +kernel)) ggX9_dumb_X9_bad
set_option maxRecDepth 20000 in
theorem ggX9_dumb_X9_bits : GoodIn wsX9_dumb wsX9_bits := goodIn_r _ [18] (by decide +kernel) (by decide +kernel)
set_option maxRecDepth 20000 in
theorem gX9_dumb_X9_bits : GoodIn wsX9_dumb (va_wsS RX9 194 yX9_bits wsX9_bits) := goodIn_app (goodIn_of _ (by decide +kernel)) ggX9_dumb_X9_bits
set_option maxRecDepth 20000 in
theorem ggX9_dumb_X9_isDumb : GoodIn wsX9_dumb wsX9_isDumb := goodIn_r _ [22, 1, 23, 24, 25, 26, 27, 4, 28, 29, 30, 31, 32, 33, 34, 35, 36, 37, 38, 39, 40, 41, 42, 43, 44, 45, 46, 47, 48, 49, 50, 51] (by decide +kernel) (by decide +kernel)
set_option maxRecDepth 20000 in
theorem gX9_dumb_X9_isDumb : GoodIn wsX9_dumb (wsV RX9 226 RX9 yX9_isDumb wsX9_isDumb) := goodIn_app (goodIn_of _ (by decide +kernel)) ggX9_dumb_X9_isDumb
theorem dX9_dumb_0 : decode cX9_dumb 0 = .ok (.iload_n 1, 1) := by decide +kernel
theorem dX9_dumb_1 : decode cX9_dumb 1 = .ok (.i2l, 1) := by decide +kernel
theorem dX9_dumb_2 : decode cX9_dumb 2 = .ok (.lconst 0, 1) := by decide +kernel
theorem dX9_dumb_3 : decode cX9_dumb 3 = .ok (.iconst 1, 1) := by decide +kernel
theorem dX9_dumb_4 : decode cX9_dumb 4 = .ok (.aload_n 0, 1) := by decide +kernel
theorem dX9_dumb_5 : decode cX9_dumb 5 = .ok (.getfield 7, 3) := by decide +kernel
theorem dX9_dumb_8 : decode cX9_dumb 8 = .ok (.iconst 5, 1) := by decide +kernel
theorem dX9_dumb_9 : decode cX9_dumb 9 = .ok (.iaload, 1) := by decide +kernel
theorem dX9_dumb_10 : decode cX9_dumb 10 = .ok (.ishl, 1) := by decide +kernel
theorem dX9_dumb_11 : decode cX9_dumb 11 = .ok (.iconst 1, 1) := by decide +kernel
theorem dX9_dumb_12 : decode cX9_dumb 12 = .ok (.isub, 1) := by decide +kernel
theorem dX9_dumb_13 : decode cX9_dumb 13 = .ok (.i2l, 1) := by decide +kernel
theorem dX9_dumb_14 : decode cX9_dumb 14 = .ok (.invokestatic 65, 3) := by decide +kernel
theorem dX9_dumb_17 : decode cX9_dumb 17 = .ok (.ifCond .ne 8, 3) := by decide +kernel
theorem dX9_dumb_20 : decode cX9_dumb 20 = .ok (.aload_n 0, 1) := by decide +kernel
theorem dX9_dumb_21 : decode cX9_dumb 21 = .ok (.invokevirtual 77, 3) := by decide +kernel
theorem dX9_dumb_24 : decode cX9_dumb 24 = .ok (.ireturn, 1) := by decide +kernel
theorem dX9_dumb_25 : decode cX9_dumb 25 = .ok (.iconst (-1), 1) := by decide +kernel
theorem dX9_dumb_26 : decode cX9_dumb 26 = .ok (.istore_n 2, 1) := by decide +kernel
theorem dX9_dumb_27 : decode cX9_dumb 27 = .ok (.iconst 0, 1) := by decide +kernel
theorem dX9_dumb_28 : decode cX9_dumb 28 = .ok (.istore_n 3, 1) := by decide +kernel
theorem dX9_dumb_29 : decode cX9_dumb 29 = .ok (.iload_n 3, 1) := by decide +kernel
theorem dX9_dumb_30 : decode cX9_dumb 30 = .ok (.iconst 1, 1) := by decide +kernel
theorem dX9_dumb_31 : decode cX9_dumb 31 = .ok (.aload_n 0, 1) := by decide +kernel
theorem dX9_dumb_32 : decode cX9_dumb 32 = .ok (.getfield 7, 3) := by decide +kernel
theorem dX9_dumb_35 : decode cX9_dumb 35 = .ok (.iconst 0, 1) := by decide +kernel
theorem dX9_dumb_36 : decode cX9_dumb 36 = .ok (.iaload, 1) := by decide +kernel
theorem dX9_dumb_37 : decode cX9_dumb 37 = .ok (.ishl, 1) := by decide +kernel
theorem dX9_dumb_38 : decode cX9_dumb 38 = .ok (.if_icmp .ge 52, 3) := by decide +kernel
theorem dX9_dumb_41 : decode cX9_dumb 41 = .ok (.iload_n 2, 1) := by decide +kernel
theorem dX9_dumb_42 : decode cX9_dumb 42 = .ok (.iconst (-1), 1) := by decide +kernel
theorem dX9_dumb_43 : decode cX9_dumb 43 = .ok (.if_icmp .eq 14, 3) := by decide +kernel
theorem dX9_dumb_46 : decode cX9_dumb 46 = .ok (.iload_n 3, 1) := by decide +kernel
theorem dX9_dumb_47 : decode cX9_dumb 47 = .ok (.invokestatic 194, 3) := by decide +kernel
theorem dX9_dumb_50 : decode cX9_dumb 50 = .ok (.iload_n 2, 1) := by decide +kernel
theorem dX9_dumb_51 : decode cX9_dumb 51 = .ok (.invokestatic 194, 3) := by decide +kernel
theorem dX9_dumb_54 : decode cX9_dumb 54 = .ok (.if_icmp .ge 7, 3) := by decide +kernel
theorem dX9_dumb_57 : decode cX9_dumb 57 = .ok (.iconst 1, 1) := by decide +kernel
theorem dX9_dumb_58 : decode cX9_dumb 58 = .ok (.goto 4, 3) := by decide +kernel
theorem dX9_dumb_61 : decode cX9_dumb 61 = .ok (.iconst 0, 1) := by decide +kernel
theorem dX9_dumb_62 : decode cX9_dumb 62 = .ok (.istore 4, 2) := by decide +kernel
theorem dX9_dumb_64 : decode cX9_dumb 64 = .ok (.iload 4, 2) := by decide +kernel
theorem dX9_dumb_66 : decode cX9_dumb 66 = .ok (.ifCond .eq 16, 3) := by decide +kernel
theorem dX9_dumb_69 : decode cX9_dumb 69 = .ok (.aload_n 0, 1) := by decide +kernel
theorem dX9_dumb_70 : decode cX9_dumb 70 = .ok (.iload_n 1, 1) := by decide +kernel
theorem dX9_dumb_71 : decode cX9_dumb 71 = .ok (.iload_n 3, 1) := by decide +kernel
theorem dX9_dumb_72 : decode cX9_dumb 72 = .ok (.invokevirtual 226, 3) := by decide +kernel
theorem dX9_dumb_75 : decode cX9_dumb 75 = .ok (.ifCond .eq 7, 3) := by decide +kernel
theorem dX9_dumb_78 : decode cX9_dumb 78 = .ok (.iload_n 3, 1) := by decide +kernel
theorem dX9_dumb_79 : decode cX9_dumb 79 = .ok (.goto 4, 3) := by decide +kernel
theorem dX9_dumb_82 : decode cX9_dumb 82 = .ok (.iload_n 2, 1) := by decide +kernel
theorem dX9_dumb_83 : decode cX9_dumb 83 = .ok (.istore_n 2, 1) := by decide +kernel
theorem dX9_dumb_84 : decode cX9_dumb 84 = .ok (.iinc 3 1, 3) := by decide +kernel
theorem dX9_dumb_87 : decode cX9_dumb 87 = .ok (.goto (-58), 3) := by decide +kernel
theorem dX9_dumb_90 : decode cX9_dumb 90 = .ok (.iload_n 2, 1) := by decide +kernel
theorem dX9_dumb_91 : decode cX9_dumb 91 = .ok (.ireturn, 1) := by decide +kernel
set_option maxRecDepth 20000 in
theorem ggX9_part_X9_bad : GoodIn wsX9_part wsX9_bad := goodIn_r _ [7, 8, 9, 10, 6, 11, 12, 13, 14, 15, 16, 17, 18, 19, 20, 21, 22, 23, 24, 25, 26, 27, 28, 29, 30, 31, 32, 33, 34, 35, 36] (by decide +kernel) (by decide +kernel)
set_option maxRecDepth 20000 in
theorem gX9_part_X9_bad : GoodIn wsX9_part (wsV RX9 77 RX9 yX9_bad wsX9_bad) := goodIn_app (goodIn_of _ (by decide +kernel)) ggX9_part_X9_bad
theorem dX9_part_0 : decode cX9_part 0 = .ok (.iload_n 1, 1) := by decide +kernel
theorem dX9_part_1 : decode cX9_part 1 = .ok (.ifCond .ne 10, 3) := by decide +kernel
theorem dX9_part_4 : decode cX9_part 4 = .ok (.aload_n 0, 1) := by decide +kernel
theorem dX9_part_5 : decode cX9_part 5 = .ok (.getfield 223, 3) := by decide +kernel
theorem dX9_part_8 : decode cX9_part 8 = .ok (.goto 20, 3) := by decide +kernel
theorem dX9_part_11 : decode cX9_part 11 = .ok (.iload_n 1, 1) := by decide +kernel
theorem dX9_part_12 : decode cX9_part 12 = .ok (.iconst 1, 1) := by decide +kernel
theorem dX9_part_13 : decode cX9_part 13 = .ok (.if_icmp .ne 10, 3) := by decide +kernel
theorem dX9_part_16 : decode cX9_part 16 = .ok (.aload_n 0, 1) := by decide +kernel
theorem dX9_part_17 : decode cX9_part 17 = .ok (.getfield 53, 3) := by decide +kernel
theorem dX9_part_20 : decode cX9_part 20 = .ok (.goto 8, 3) := by decide +kernel
theorem dX9_part_23 : decode cX9_part 23 = .ok (.aload_n 0, 1) := by decide +kernel
theorem dX9_part_24 : decode cX9_part 24 = .ok (.invokevirtual 77, 3) := by decide +kernel
theorem dX9_part_27 : decode cX9_part 27 = .ok (.i2l, 1) := by decide +kernel
theorem dX9_part_28 : decode cX9_part 28 = .ok (.lreturn, 1) := by decide +kernel
set_option maxRecDepth 20000 in
theorem ggX9_image_X9_is : GoodIn wsX9_image wsX9_is := goodIn_r _ [7] (by decide +kernel) (by decide +kernel)
set_option maxRecDepth 20000 in
theorem gX9_image_X9_is : GoodIn wsX9_image (va_wsS RX9 65 yX9_is wsX9_is) := goodIn_app (goodIn_of _ (by decide +kernel)) ggX9_image_X9_is
set_option maxRecDepth 20000 in
theorem ggX9_image_X9_bad : GoodIn wsX9_image wsX9_bad := goodIn_r _ [11, 12, 13, 14, 6, 15, 16, 17, 18, 19, 20, 21, 22, 23, 24, 25, 26, 27, 28, 29, 30, 31, 32, 33, 34, 35, 36, 37, 38, 39, 40] (by decide +kernel) (by decide +kernel)
set_option maxRecDepth 20000 in
theorem gX9_image_X9_bad : GoodIn wsX9_image (wsV RX9 77 RX9 yX9_bad wsX9_bad) := goodIn_app (goodIn_of _ (by decide +kernel)) ggX9_image_X9_bad
theorem dX9_image_0 : decode cX9_image 0 = .ok (.iload_n 1, 1) := by decide +kernel
theorem dX9_image_1 : decode cX9_image 1 = .ok (.i2l, 1) := by decide +kernel
theorem dX9_image_2 : decode cX9_image 2 = .ok (.lconst 0, 1) := by decide +kernel
theorem dX9_image_3 : decode cX9_image 3 = .ok (.lconst 1, 1) := by decide +kernel
theorem dX9_image_4 : decode cX9_image 4 = .ok (.invokestatic 65, 3) := by decide +kernel
theorem dX9_image_7 : decode cX9_image 7 = .ok (.ifCond .ne 8, 3) := by decide +kernel
theorem dX9_image_10 : decode cX9_image 10 = .ok (.aload_n 0, 1) := by decide +kernel
theorem dX9_image_11 : decode cX9_image 11 = .ok (.invokevirtual 77, 3) := by decide +kernel
theorem dX9_image_14 : decode cX9_image 14 = .ok (.ireturn, 1) := by decide +kernel
theorem dX9_image_15 : decode cX9_image 15 = .ok (.iconst 0, 1) := by decide +kernel
theorem dX9_image_16 : decode cX9_image 16 = .ok (.istore_n 2, 1) := by decide +kernel
theorem dX9_image_17 : decode cX9_image 17 = .ok (.iload_n 2, 1) := by decide +kernel
theorem dX9_image_18 : decode cX9_image 18 = .ok (.sipush 212, 3) := by decide +kernel
theorem dX9_image_21 : decode cX9_image 21 = .ok (.if_icmp .ge 27, 3) := by decide +kernel
theorem dX9_image_24 : decode cX9_image 24 = .ok (.aload_n 0, 1) := by decide +kernel
theorem dX9_image_25 : decode cX9_image 25 = .ok (.getfield 13, 3) := by decide +kernel
theorem dX9_image_28 : decode cX9_image 28 = .ok (.sipush 212, 3) := by decide +kernel
theorem dX9_image_31 : decode cX9_image 31 = .ok (.iload_n 1, 1) := by decide +kernel
theorem dX9_image_32 : decode cX9_image 32 = .ok (.imul, 1) := by decide +kernel
theorem dX9_image_33 : decode cX9_image 33 = .ok (.iload_n 2, 1) := by decide +kernel
theorem dX9_image_34 : decode cX9_image 34 = .ok (.iadd, 1) := by decide +kernel
theorem dX9_image_35 : decode cX9_image 35 = .ok (.aload_n 0, 1) := by decide +kernel
theorem dX9_image_36 : decode cX9_image 36 = .ok (.getfield 7, 3) := by decide +kernel
theorem dX9_image_39 : decode cX9_image 39 = .ok (.iload_n 2, 1) := by decide +kernel
theorem dX9_image_40 : decode cX9_image 40 = .ok (.iaload, 1) := by decide +kernel
theorem dX9_image_41 : decode cX9_image 41 = .ok (.iastore, 1) := by decide +kernel
theorem dX9_image_42 : decode cX9_image 42 = .ok (.iinc 2 1, 3) := by decide +kernel
theorem dX9_image_45 : decode cX9_image 45 = .ok (.goto (-28), 3) := by decide +kernel
theorem dX9_image_48 : decode cX9_image 48 = .ok (.aload_n 0, 1) := by decide +kernel
theorem dX9_image_49 : decode cX9_image 49 = .ok (.getfield 16, 3) := by decide +kernel
theorem dX9_image_52 : decode cX9_image 52 = .ok (.iload_n 1, 1) := by decide +kernel
theorem dX9_image_53 : decode cX9_image 53 = .ok (.iconst 1, 1) := by decide +kernel
theorem dX9_image_54 : decode cX9_image 54 = .ok (.bastore, 1) := by decide +kernel
theorem dX9_image_55 : decode cX9_image 55 = .ok (.iconst 1, 1) := by decide +kernel
theorem dX9_image_56 : decode cX9_image 56 = .ok (.ireturn, 1) := by decide +kernel
set_option maxRecDepth 20000 in
theorem ggX9_from_X9_is : GoodIn wsX9_from wsX9_is := goodIn_r _ [7] (by decide +kernel) (by decide +kernel)
set_option maxRecDepth 20000 in
theorem gX9_from_X9_is : GoodIn wsX9_from (va_wsS RX9 65 yX9_is wsX9_is) := goodIn_app (goodIn_of _ (by decide +kernel)) ggX9_from_X9_is
set_option maxRecDepth 20000 in
theorem ggX9_from_X9_bad : GoodIn wsX9_from wsX9_bad := goodIn_r _ [11, 12, 13, 14, 6, 15, 16, 17, 22, 23, 24, 25, 26, 27, 28, 29, 30, 31, 32, 33, 34, 35, 36, 37, 38, 39, 40, 41, 42, 43, 44] (by decide +kernel) (by decide +kernel)
set_option maxRecDepth 20000 in
theorem gX9_from_X9_bad : GoodIn wsX9_from (wsV RX9 77 RX9 yX9_bad wsX9_bad) := goodIn_app (goodIn_of _ (by decide +kernel)) ggX9_from_X9_bad
set_option maxRecDepth 20000 in
theorem ggX9_from_X9_no : GoodIn wsX9_from wsX9_no := goodIn_r _ [21, 12, 13, 14, 6, 15, 16, 17, 22, 23, 24, 25, 26, 27, 28, 29, 30, 31, 32, 33, 34, 35, 36, 37, 38, 39, 40, 41, 42, 43, 44] (by decide +kernel) (by decide +kernel)
set_option maxRecDepth 20000 in
theorem gX9_from_X9_no : GoodIn wsX9_from (wsV RX9 216 RX9 yX9_no wsX9_no) := goodIn_app (goodIn_of _ (by decide +kernel)) ggX9_from_X9_no
theorem dX9_from_0 : decode cX9_from 0 = .ok (.iload_n 1, 1) := by decide +kernel
theorem dX9_from_1 : decode cX9_from 1 = .ok (.i2l, 1) := by decide +kernel
theorem dX9_from_2 : decode cX9_from 2 = .ok (.lconst 0, 1) := by decide +kernel
theorem dX9_from_3 : decode cX9_from 3 = .ok (.lconst 1, 1) := by decide +kernel
theorem dX9_from_4 : decode cX9_from 4 = .ok (.invokestatic 65, 3) := by decide +kernel
theorem dX9_from_7 : decode cX9_from 7 = .ok (.ifCond .ne 8, 3) := by decide +kernel
theorem dX9_from_10 : decode cX9_from 10 = .ok (.aload_n 0, 1) := by decide +kernel
theorem dX9_from_11 : decode cX9_from 11 = .ok (.invokevirtual 77, 3) := by decide +kernel
theorem dX9_from_14 : decode cX9_from 14 = .ok (.ireturn, 1) := by decide +kernel
theorem dX9_from_15 : decode cX9_from 15 = .ok (.aload_n 0, 1) := by decide +kernel
theorem dX9_from_16 : decode cX9_from 16 = .ok (.getfield 16, 3) := by decide +kernel
theorem dX9_from_19 : decode cX9_from 19 = .ok (.iload_n 1, 1) := by decide +kernel
theorem dX9_from_20 : decode cX9_from 20 = .ok (.baload, 1) := by decide +kernel
theorem dX9_from_21 : decode cX9_from 21 = .ok (.ifCond .ne 8, 3) := by decide +kernel
theorem dX9_from_24 : decode cX9_from 24 = .ok (.aload_n 0, 1) := by decide +kernel
theorem dX9_from_25 : decode cX9_from 25 = .ok (.invokevirtual 216, 3) := by decide +kernel
theorem dX9_from_28 : decode cX9_from 28 = .ok (.ireturn, 1) := by decide +kernel
theorem dX9_from_29 : decode cX9_from 29 = .ok (.iconst 0, 1) := by decide +kernel
theorem dX9_from_30 : decode cX9_from 30 = .ok (.istore_n 2, 1) := by decide +kernel
theorem dX9_from_31 : decode cX9_from 31 = .ok (.iload_n 2, 1) := by decide +kernel
theorem dX9_from_32 : decode cX9_from 32 = .ok (.sipush 212, 3) := by decide +kernel
theorem dX9_from_35 : decode cX9_from 35 = .ok (.if_icmp .ge 27, 3) := by decide +kernel
theorem dX9_from_38 : decode cX9_from 38 = .ok (.aload_n 0, 1) := by decide +kernel
theorem dX9_from_39 : decode cX9_from 39 = .ok (.getfield 7, 3) := by decide +kernel
theorem dX9_from_42 : decode cX9_from 42 = .ok (.iload_n 2, 1) := by decide +kernel
theorem dX9_from_43 : decode cX9_from 43 = .ok (.aload_n 0, 1) := by decide +kernel
theorem dX9_from_44 : decode cX9_from 44 = .ok (.getfield 13, 3) := by decide +kernel
theorem dX9_from_47 : decode cX9_from 47 = .ok (.sipush 212, 3) := by decide +kernel
theorem dX9_from_50 : decode cX9_from 50 = .ok (.iload_n 1, 1) := by decide +kernel
theorem dX9_from_51 : decode cX9_from 51 = .ok (.imul, 1) := by decide +kernel
theorem dX9_from_52 : decode cX9_from 52 = .ok (.iload_n 2, 1) := by decide +kernel
theorem dX9_from_53 : decode cX9_from 53 = .ok (.iadd, 1) := by decide +kernel
theorem dX9_from_54 : decode cX9_from 54 = .ok (.iaload, 1) := by decide +kernel
theorem dX9_from_55 : decode cX9_from 55 = .ok (.iastore, 1) := by decide +kernel
theorem dX9_from_56 : decode cX9_from 56 = .ok (.iinc 2 1, 3) := by decide +kernel
theorem dX9_from_59 : decode cX9_from 59 = .ok (.goto (-28), 3) := by decide +kernel
theorem dX9_from_62 : decode cX9_from 62 = .ok (.iconst 1, 1) := by decide +kernel
theorem dX9_from_63 : decode cX9_from 63 = .ok (.ireturn, 1) := by decide +kernel
set_option maxRecDepth 20000 in
theorem ggX9_status_X9_is : GoodIn wsX9_status wsX9_is := goodIn_r _ [6] (by decide +kernel) (by decide +kernel)
set_option maxRecDepth 20000 in
theorem gX9_status_X9_is : GoodIn wsX9_status (va_wsS RX9 65 yX9_is wsX9_is) := goodIn_app (goodIn_of _ (by decide +kernel)) ggX9_status_X9_is
set_option maxRecDepth 20000 in
theorem ggX9_status_X9_refuses : GoodIn wsX9_status wsX9_refuses := goodIn_r _ [10, 2, 11, 12, 13, 14, 15, 16, 17, 18, 19, 20, 21, 22, 23, 24, 25, 26, 27, 28, 29, 30, 31, 32, 33, 34] (by decide +kernel) (by decide +kernel)
set_option maxRecDepth 20000 in
theorem gX9_status_X9_refuses : GoodIn wsX9_status (wsV RX9 61 RX9 yX9_refuses wsX9_refuses) := goodIn_app (goodIn_of _ (by decide +kernel)) ggX9_status_X9_refuses
theorem dX9_status_0 : decode cX9_status 0 = .ok (.iload_n 1, 1) := by decide +kernel
theorem dX9_status_1 : decode cX9_status 1 = .ok (.i2l, 1) := by decide +kernel
theorem dX9_status_2 : decode cX9_status 2 = .ok (.lconst 0, 1) := by decide +kernel
theorem dX9_status_3 : decode cX9_status 3 = .ok (.ldc2_w 229, 3) := by decide +kernel
theorem dX9_status_6 : decode cX9_status 6 = .ok (.invokestatic 65, 3) := by decide +kernel
theorem dX9_status_9 : decode cX9_status 9 = .ok (.ifCond .eq 12, 3) := by decide +kernel
theorem dX9_status_12 : decode cX9_status 12 = .ok (.aload_n 0, 1) := by decide +kernel
theorem dX9_status_13 : decode cX9_status 13 = .ok (.getfield 23, 3) := by decide +kernel
theorem dX9_status_16 : decode cX9_status 16 = .ok (.iload_n 1, 1) := by decide +kernel
theorem dX9_status_17 : decode cX9_status 17 = .ok (.iaload, 1) := by decide +kernel
theorem dX9_status_18 : decode cX9_status 18 = .ok (.goto 9, 3) := by decide +kernel
theorem dX9_status_21 : decode cX9_status 21 = .ok (.aload_n 0, 1) := by decide +kernel
theorem dX9_status_22 : decode cX9_status 22 = .ok (.iconst 0, 1) := by decide +kernel
theorem dX9_status_23 : decode cX9_status 23 = .ok (.iconst (-1), 1) := by decide +kernel
theorem dX9_status_24 : decode cX9_status 24 = .ok (.invokevirtual 61, 3) := by decide +kernel
theorem dX9_status_27 : decode cX9_status 27 = .ok (.ireturn, 1) := by decide +kernel
theorem dX9_countOf_0 : decode cX9_countOf 0 = .ok (.iload_n 1, 1) := by decide +kernel
theorem dX9_countOf_1 : decode cX9_countOf 1 = .ok (.bipush 6, 2) := by decide +kernel
theorem dX9_countOf_3 : decode cX9_countOf 3 = .ok (.if_icmp .ge 12, 3) := by decide +kernel
theorem dX9_countOf_6 : decode cX9_countOf 6 = .ok (.aload_n 0, 1) := by decide +kernel
theorem dX9_countOf_7 : decode cX9_countOf 7 = .ok (.getfield 7, 3) := by decide +kernel
theorem dX9_countOf_10 : decode cX9_countOf 10 = .ok (.iload_n 1, 1) := by decide +kernel
theorem dX9_countOf_11 : decode cX9_countOf 11 = .ok (.iaload, 1) := by decide +kernel
theorem dX9_countOf_12 : decode cX9_countOf 12 = .ok (.goto 7, 3) := by decide +kernel
theorem dX9_countOf_15 : decode cX9_countOf 15 = .ok (.aload_n 0, 1) := by decide +kernel
theorem dX9_countOf_16 : decode cX9_countOf 16 = .ok (.getfield 111, 3) := by decide +kernel
theorem dX9_countOf_19 : decode cX9_countOf 19 = .ok (.ireturn, 1) := by decide +kernel
set_option maxRecDepth 20000 in
theorem ggX9_count_X9_is : GoodIn wsX9_count wsX9_is := goodIn_r _ [5] (by decide +kernel) (by decide +kernel)
set_option maxRecDepth 20000 in
theorem gX9_count_X9_is : GoodIn wsX9_count (va_wsS RX9 65 yX9_is wsX9_is) := goodIn_app (goodIn_of _ (by decide +kernel)) ggX9_count_X9_is
set_option maxRecDepth 20000 in
theorem ggX9_count_X9_countOf : GoodIn wsX9_count wsX9_countOf := goodIn_r _ [9, 10, 11, 22, 23, 24, 25, 26, 27, 28, 29, 30, 31, 32, 33, 34, 35, 36, 37, 38, 39, 40, 41, 42, 43, 44] (by decide +kernel) (by decide +kernel)
set_option maxRecDepth 20000 in
theorem gX9_count_X9_countOf : GoodIn wsX9_count (wsV RX9 233 RX9 yX9_countOf wsX9_countOf) := goodIn_app (goodIn_of _ (by decide +kernel)) ggX9_count_X9_countOf
set_option maxRecDepth 20000 in
theorem ggX9_count_X9_bad : GoodIn wsX9_count wsX9_bad := goodIn_r _ [15, 16, 17, 18, 4, 19, 20, 21, 22, 23, 24, 25, 26, 27, 28, 29, 30, 31, 32, 33, 34, 35, 36, 37, 38, 39, 40, 41, 42, 43, 44] (by decide +kernel) (by decide +kernel)
set_option maxRecDepth 20000 in
theorem gX9_count_X9_bad : GoodIn wsX9_count (wsV RX9 77 RX9 yX9_bad wsX9_bad) := goodIn_app (goodIn_of _ (by decide +kernel)) ggX9_count_X9_bad
theorem dX9_count_0 : decode cX9_count 0 = .ok (.iload_n 1, 1) := by decide +kernel
theorem dX9_count_1 : decode cX9_count 1 = .ok (.i2l, 1) := by decide +kernel
theorem dX9_count_2 : decode cX9_count 2 = .ok (.lconst 0, 1) := by decide +kernel
theorem dX9_count_3 : decode cX9_count 3 = .ok (.ldc2_w 231, 3) := by decide +kernel
theorem dX9_count_6 : decode cX9_count 6 = .ok (.invokestatic 65, 3) := by decide +kernel
theorem dX9_count_9 : decode cX9_count 9 = .ok (.ifCond .eq 11, 3) := by decide +kernel
theorem dX9_count_12 : decode cX9_count 12 = .ok (.aload_n 0, 1) := by decide +kernel
theorem dX9_count_13 : decode cX9_count 13 = .ok (.iload_n 1, 1) := by decide +kernel
theorem dX9_count_14 : decode cX9_count 14 = .ok (.invokevirtual 233, 3) := by decide +kernel
theorem dX9_count_17 : decode cX9_count 17 = .ok (.goto 7, 3) := by decide +kernel
theorem dX9_count_20 : decode cX9_count 20 = .ok (.aload_n 0, 1) := by decide +kernel
theorem dX9_count_21 : decode cX9_count 21 = .ok (.invokevirtual 77, 3) := by decide +kernel
theorem dX9_count_24 : decode cX9_count 24 = .ok (.ireturn, 1) := by decide +kernel
theorem dX9_mixed_0 : decode cX9_mixed 0 = .ok (.lload_n 1, 1) := by decide +kernel
theorem dX9_mixed_1 : decode cX9_mixed 1 = .ok (.lstore 5, 2) := by decide +kernel
theorem dX9_mixed_3 : decode cX9_mixed 3 = .ok (.iconst 0, 1) := by decide +kernel
theorem dX9_mixed_4 : decode cX9_mixed 4 = .ok (.istore 7, 2) := by decide +kernel
theorem dX9_mixed_6 : decode cX9_mixed 6 = .ok (.iload 7, 2) := by decide +kernel
theorem dX9_mixed_8 : decode cX9_mixed 8 = .ok (.iload 4, 2) := by decide +kernel
theorem dX9_mixed_10 : decode cX9_mixed 10 = .ok (.if_icmp .ge 28, 3) := by decide +kernel
theorem dX9_mixed_13 : decode cX9_mixed 13 = .ok (.ldc2_w 236, 3) := by decide +kernel
theorem dX9_mixed_16 : decode cX9_mixed 16 = .ok (.lload 5, 2) := by decide +kernel
theorem dX9_mixed_18 : decode cX9_mixed 18 = .ok (.lmul, 1) := by decide +kernel
theorem dX9_mixed_19 : decode cX9_mixed 19 = .ok (.aload_n 0, 1) := by decide +kernel
theorem dX9_mixed_20 : decode cX9_mixed 20 = .ok (.getfield 7, 3) := by decide +kernel
theorem dX9_mixed_23 : decode cX9_mixed 23 = .ok (.iload_n 3, 1) := by decide +kernel
theorem dX9_mixed_24 : decode cX9_mixed 24 = .ok (.iload 7, 2) := by decide +kernel
theorem dX9_mixed_26 : decode cX9_mixed 26 = .ok (.iadd, 1) := by decide +kernel
theorem dX9_mixed_27 : decode cX9_mixed 27 = .ok (.iaload, 1) := by decide +kernel
theorem dX9_mixed_28 : decode cX9_mixed 28 = .ok (.i2l, 1) := by decide +kernel
theorem dX9_mixed_29 : decode cX9_mixed 29 = .ok (.ladd, 1) := by decide +kernel
theorem dX9_mixed_30 : decode cX9_mixed 30 = .ok (.lstore 5, 2) := by decide +kernel
theorem dX9_mixed_32 : decode cX9_mixed 32 = .ok (.iinc 7 1, 3) := by decide +kernel
theorem dX9_mixed_35 : decode cX9_mixed 35 = .ok (.goto (-29), 3) := by decide +kernel
theorem dX9_mixed_38 : decode cX9_mixed 38 = .ok (.lload 5, 2) := by decide +kernel
theorem dX9_mixed_40 : decode cX9_mixed 40 = .ok (.lreturn, 1) := by decide +kernel
set_option maxRecDepth 20000 in
theorem ggX9_digest_X9_countOf : GoodIn wsX9_digest wsX9_countOf := goodIn_r _ [10, 3, 11, 16, 17, 18, 19, 20, 21, 22, 23, 24, 25, 26, 27, 28, 29, 30, 31, 32, 33, 34, 35, 36, 37, 38] (by decide +kernel) (by decide +kernel)
set_option maxRecDepth 20000 in
theorem gX9_digest_X9_countOf : GoodIn wsX9_digest (wsV RX9 233 RX9 yX9_countOf wsX9_countOf) := goodIn_app (goodIn_of _ (by decide +kernel)) ggX9_digest_X9_countOf
set_option maxRecDepth 20000 in
theorem ggX9_digest_X9_mixed : GoodIn wsX9_digest wsX9_mixed := goodIn_r _ [15, 2, 3, 16, 17, 18, 19, 20, 21, 22, 23, 24, 25, 26, 27, 28, 29, 30, 31, 32, 33, 34, 35, 36, 37, 38] (by decide +kernel) (by decide +kernel)
set_option maxRecDepth 20000 in
theorem gX9_digest_X9_mixed : GoodIn wsX9_digest (wsV RX9 240 RX9 yX9_mixed wsX9_mixed) := goodIn_app (goodIn_of _ (by decide +kernel)) ggX9_digest_X9_mixed
theorem dX9_digest_0 : decode cX9_digest 0 = .ok (.ldc2_w 238, 3) := by decide +kernel
theorem dX9_digest_3 : decode cX9_digest 3 = .ok (.lstore_n 1, 1) := by decide +kernel
theorem dX9_digest_4 : decode cX9_digest 4 = .ok (.iconst 0, 1) := by decide +kernel
theorem dX9_digest_5 : decode cX9_digest 5 = .ok (.istore_n 3, 1) := by decide +kernel
theorem dX9_digest_6 : decode cX9_digest 6 = .ok (.iload_n 3, 1) := by decide +kernel
theorem dX9_digest_7 : decode cX9_digest 7 = .ok (.bipush 7, 2) := by decide +kernel
theorem dX9_digest_9 : decode cX9_digest 9 = .ok (.if_icmp .ge 22, 3) := by decide +kernel
theorem dX9_digest_12 : decode cX9_digest 12 = .ok (.ldc2_w 236, 3) := by decide +kernel
theorem dX9_digest_15 : decode cX9_digest 15 = .ok (.lload_n 1, 1) := by decide +kernel
theorem dX9_digest_16 : decode cX9_digest 16 = .ok (.lmul, 1) := by decide +kernel
theorem dX9_digest_17 : decode cX9_digest 17 = .ok (.aload_n 0, 1) := by decide +kernel
theorem dX9_digest_18 : decode cX9_digest 18 = .ok (.iload_n 3, 1) := by decide +kernel
theorem dX9_digest_19 : decode cX9_digest 19 = .ok (.invokevirtual 233, 3) := by decide +kernel
theorem dX9_digest_22 : decode cX9_digest 22 = .ok (.i2l, 1) := by decide +kernel
theorem dX9_digest_23 : decode cX9_digest 23 = .ok (.ladd, 1) := by decide +kernel
theorem dX9_digest_24 : decode cX9_digest 24 = .ok (.lstore_n 1, 1) := by decide +kernel
theorem dX9_digest_25 : decode cX9_digest 25 = .ok (.iinc 3 1, 3) := by decide +kernel
theorem dX9_digest_28 : decode cX9_digest 28 = .ok (.goto (-22), 3) := by decide +kernel
theorem dX9_digest_31 : decode cX9_digest 31 = .ok (.aload_n 0, 1) := by decide +kernel
