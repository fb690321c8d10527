theorem dX6_init_0 : decode cX6_init 0 = .ok (.aload_n 0, 1) := by decide +kernel
theorem dX6_init_1 : decode cX6_init 1 = .ok (.invokespecial 3, 3) := by decide +kernel
theorem dX6_init_4 : decode cX6_init 4 = .ok (.aload_n 0, 1) := by decide +kernel
theorem dX6_init_5 : decode cX6_init 5 = .ok (.bipush 61, 2) := by decide +kernel
theorem dX6_init_7 : decode cX6_init 7 = .ok (.newarray .boolean, 2) := by decide +kernel
theorem dX6_init_9 : decode cX6_init 9 = .ok (.putfield 9, 3) := by decide +kernel
theorem dX6_init_12 : decode cX6_init 12 = .ok (.aload_n 0, 1) := by decide +kernel
theorem dX6_init_13 : decode cX6_init 13 = .ok (.iconst 4, 1) := by decide +kernel
theorem dX6_init_14 : decode cX6_init 14 = .ok (.newarray .int, 2) := by decide +kernel
theorem dX6_init_16 : decode cX6_init 16 = .ok (.putfield 15, 3) := by decide +kernel
theorem dX6_init_19 : decode cX6_init 19 = .ok (.aload_n 0, 1) := by decide +kernel
theorem dX6_init_20 : decode cX6_init 20 = .ok (.sipush 10296, 3) := by decide +kernel
theorem dX6_init_23 : decode cX6_init 23 = .ok (.newarray .int, 2) := by decide +kernel
theorem dX6_init_25 : decode cX6_init 25 = .ok (.putfield 19, 3) := by decide +kernel
theorem dX6_init_28 : decode cX6_init 28 = .ok (.aload_n 0, 1) := by decide +kernel
theorem dX6_init_29 : decode cX6_init 29 = .ok (.sipush 1820, 3) := by decide +kernel
theorem dX6_init_32 : decode cX6_init 32 = .ok (.newarray .int, 2) := by decide +kernel
theorem dX6_init_34 : decode cX6_init 34 = .ok (.putfield 22, 3) := by decide +kernel
theorem dX6_init_37 : decode cX6_init 37 = .ok (.aload_n 0, 1) := by decide +kernel
theorem dX6_init_38 : decode cX6_init 38 = .ok (.sipush 1820, 3) := by decide +kernel
theorem dX6_init_41 : decode cX6_init 41 = .ok (.newarray .int, 2) := by decide +kernel
theorem dX6_init_43 : decode cX6_init 43 = .ok (.putfield 25, 3) := by decide +kernel
theorem dX6_init_46 : decode cX6_init 46 = .ok (.aload_n 0, 1) := by decide +kernel
theorem dX6_init_47 : decode cX6_init 47 = .ok (.sipush 1820, 3) := by decide +kernel
theorem dX6_init_50 : decode cX6_init 50 = .ok (.newarray .int, 2) := by decide +kernel
theorem dX6_init_52 : decode cX6_init 52 = .ok (.putfield 28, 3) := by decide +kernel
theorem dX6_init_55 : decode cX6_init 55 = .ok (.aload_n 0, 1) := by decide +kernel
theorem dX6_init_56 : decode cX6_init 56 = .ok (.sipush 1820, 3) := by decide +kernel
theorem dX6_init_59 : decode cX6_init 59 = .ok (.newarray .int, 2) := by decide +kernel
theorem dX6_init_61 : decode cX6_init 61 = .ok (.putfield 31, 3) := by decide +kernel
theorem dX6_init_64 : decode cX6_init 64 = .ok (.aload_n 0, 1) := by decide +kernel
theorem dX6_init_65 : decode cX6_init 65 = .ok (.iconst 0, 1) := by decide +kernel
theorem dX6_init_66 : decode cX6_init 66 = .ok (.putfield 34, 3) := by decide +kernel
theorem dX6_init_69 : decode cX6_init 69 = .ok (.aload_n 0, 1) := by decide +kernel
theorem dX6_init_70 : decode cX6_init 70 = .ok (.iconst 0, 1) := by decide +kernel
theorem dX6_init_71 : decode cX6_init 71 = .ok (.putfield 38, 3) := by decide +kernel
theorem dX6_init_74 : decode cX6_init 74 = .ok (.aload_n 0, 1) := by decide +kernel
theorem dX6_init_75 : decode cX6_init 75 = .ok (.iconst 0, 1) := by decide +kernel
theorem dX6_init_76 : decode cX6_init 76 = .ok (.putfield 41, 3) := by decide +kernel
theorem dX6_init_79 : decode cX6_init 79 = .ok (.aload_n 0, 1) := by decide +kernel
theorem dX6_init_80 : decode cX6_init 80 = .ok (.iconst (-1), 1) := by decide +kernel
theorem dX6_init_81 : decode cX6_init 81 = .ok (.putfield 44, 3) := by decide +kernel
theorem dX6_init_84 : decode cX6_init 84 = .ok (.aload_n 0, 1) := by decide +kernel
theorem dX6_init_85 : decode cX6_init 85 = .ok (.bipush 12, 2) := by decide +kernel
theorem dX6_init_87 : decode cX6_init 87 = .ok (.newarray .int, 2) := by decide +kernel
theorem dX6_init_89 : decode cX6_init 89 = .ok (.putfield 47, 3) := by decide +kernel
theorem dX6_init_92 : decode cX6_init 92 = .ok (.aload_n 0, 1) := by decide +kernel
theorem dX6_init_93 : decode cX6_init 93 = .ok (.iconst 0, 1) := by decide +kernel
theorem dX6_init_94 : decode cX6_init 94 = .ok (.putfield 50, 3) := by decide +kernel
theorem dX6_init_97 : decode cX6_init 97 = .ok (.aload_n 0, 1) := by decide +kernel
theorem dX6_init_98 : decode cX6_init 98 = .ok (.aload_n 1, 1) := by decide +kernel
theorem dX6_init_99 : decode cX6_init 99 = .ok (.putfield 53, 3) := by decide +kernel
theorem dX6_init_102 : decode cX6_init 102 = .ok (.return_, 1) := by decide +kernel
set_option maxRecDepth 20000 in
theorem ggX6_spread_X3_allowsJoint : GoodIn wsX6_spread wsX3_allowsJoint := goodIn_r _ [19, 20, 21, 22, 23, 4, 24, 25, 26, 27, 28, 18, 29, 30, 71, 72, 73, 74, 75, 76, 77, 78, 79] (by decide +kernel) (by decide +kernel)
set_option maxRecDepth 20000 in
theorem gX6_spread_X3_allowsJoint : GoodIn wsX6_spread (wsV RX6 63 RX3 yX3_allowsJoint wsX3_allowsJoint) := goodIn_app (goodIn_of _ (by decide +kernel)) ggX6_spread_X3_allowsJoint
set_option maxRecDepth 20000 in
theorem ggX6_spread_X6_setSteps : GoodIn wsX6_spread wsX6_setSteps := goodIn_r _ [35, 13, 1, 9, 11, 36, 2, 3, 4, 5, 57, 58, 59, 60, 61, 62, 63, 64, 65, 66, 67, 68, 69, 70, 71, 72, 73, 74, 75, 76, 77, 78, 79] (by decide +kernel) (by decide +kernel)
set_option maxRecDepth 20000 in
theorem gX6_spread_X6_setSteps : GoodIn wsX6_spread (wsV RX6 69 RX6 yX6_setSteps wsX6_setSteps) := goodIn_app (goodIn_of _ (by decide +kernel)) ggX6_spread_X6_setSteps
set_option maxRecDepth 20000 in
theorem ggX6_spread_X6_reach : GoodIn wsX6_spread wsX6_reach := goodIn_r _ [40, 8, 41, 12, 14, 10, 42, 43, 44, 34, 45, 57, 58, 59, 60, 61, 62, 63, 64, 65, 66, 67, 68, 69, 70] (by decide +kernel) (by decide +kernel)
set_option maxRecDepth 20000 in
theorem gX6_spread_X6_reach : GoodIn wsX6_spread (wsV RX6 72 RX6 yX6_reach wsX6_reach) := goodIn_app (goodIn_of _ (by decide +kernel)) ggX6_spread_X6_reach
set_option maxRecDepth 20000 in
theorem ggX6_spread_X6_hasLeft : GoodIn wsX6_spread wsX6_hasLeft := goodIn_r _ [49, 14, 1, 36, 50, 51, 52, 53, 57, 58, 59, 60, 61, 62, 63, 64, 65, 66, 67, 68, 69, 70, 71, 72, 73, 74, 75, 76, 77, 78, 79] (by decide +kernel) (by decide +kernel)
set_option maxRecDepth 20000 in
theorem gX6_spread_X6_hasLeft : GoodIn wsX6_spread (wsV RX6 82 RX6 yX6_hasLeft wsX6_hasLeft) := goodIn_app (goodIn_of _ (by decide +kernel)) ggX6_spread_X6_hasLeft
set_option maxRecDepth 20000 in
theorem ggX6_spread_X5_withOneMore : GoodIn wsX6_spread wsX5_withOneMore := goodIn_r _ [56] (by decide +kernel) (by decide +kernel)
set_option maxRecDepth 20000 in
theorem gX6_spread_X5_withOneMore : GoodIn wsX6_spread (va_wsS RX6 85 yX5_withOneMore wsX5_withOneMore) := goodIn_app (goodIn_of _ (by decide +kernel)) ggX6_spread_X5_withOneMore
theorem dX6_spread_0 : decode cX6_spread 0 = .ok (.aload_n 0, 1) := by decide +kernel
theorem dX6_spread_1 : decode cX6_spread 1 = .ok (.aload_n 1, 1) := by decide +kernel
theorem dX6_spread_2 : decode cX6_spread 2 = .ok (.putfield 53, 3) := by decide +kernel
theorem dX6_spread_5 : decode cX6_spread 5 = .ok (.aload_n 0, 1) := by decide +kernel
theorem dX6_spread_6 : decode cX6_spread 6 = .ok (.iload 4, 2) := by decide +kernel
theorem dX6_spread_8 : decode cX6_spread 8 = .ok (.bipush 60, 2) := by decide +kernel
theorem dX6_spread_10 : decode cX6_spread 10 = .ok (.invokestatic 57, 3) := by decide +kernel
theorem dX6_spread_13 : decode cX6_spread 13 = .ok (.putfield 38, 3) := by decide +kernel
theorem dX6_spread_16 : decode cX6_spread 16 = .ok (.iconst 0, 1) := by decide +kernel
theorem dX6_spread_17 : decode cX6_spread 17 = .ok (.istore 5, 2) := by decide +kernel
theorem dX6_spread_19 : decode cX6_spread 19 = .ok (.iload 5, 2) := by decide +kernel
theorem dX6_spread_21 : decode cX6_spread 21 = .ok (.aload_n 0, 1) := by decide +kernel
theorem dX6_spread_22 : decode cX6_spread 22 = .ok (.getfield 38, 3) := by decide +kernel
theorem dX6_spread_25 : decode cX6_spread 25 = .ok (.if_icmp .gt 46, 3) := by decide +kernel
theorem dX6_spread_28 : decode cX6_spread 28 = .ok (.aload_n 0, 1) := by decide +kernel
theorem dX6_spread_29 : decode cX6_spread 29 = .ok (.getfield 9, 3) := by decide +kernel
theorem dX6_spread_32 : decode cX6_spread 32 = .ok (.iload 5, 2) := by decide +kernel
theorem dX6_spread_34 : decode cX6_spread 34 = .ok (.iload 5, 2) := by decide +kernel
theorem dX6_spread_36 : decode cX6_spread 36 = .ok (.aload_n 0, 1) := by decide +kernel
theorem dX6_spread_37 : decode cX6_spread 37 = .ok (.getfield 38, 3) := by decide +kernel
theorem dX6_spread_40 : decode cX6_spread 40 = .ok (.if_icmp .eq 19, 3) := by decide +kernel
theorem dX6_spread_43 : decode cX6_spread 43 = .ok (.iload 5, 2) := by decide +kernel
theorem dX6_spread_45 : decode cX6_spread 45 = .ok (.iload_n 3, 1) := by decide +kernel
theorem dX6_spread_46 : decode cX6_spread 46 = .ok (.if_icmp .le 17, 3) := by decide +kernel
theorem dX6_spread_49 : decode cX6_spread 49 = .ok (.aload_n 1, 1) := by decide +kernel
theorem dX6_spread_50 : decode cX6_spread 50 = .ok (.iload_n 2, 1) := by decide +kernel
theorem dX6_spread_51 : decode cX6_spread 51 = .ok (.iload 5, 2) := by decide +kernel
theorem dX6_spread_53 : decode cX6_spread 53 = .ok (.invokevirtual 63, 3) := by decide +kernel
theorem dX6_spread_56 : decode cX6_spread 56 = .ok (.ifCond .eq 7, 3) := by decide +kernel
theorem dX6_spread_59 : decode cX6_spread 59 = .ok (.iconst 1, 1) := by decide +kernel
theorem dX6_spread_60 : decode cX6_spread 60 = .ok (.goto 4, 3) := by decide +kernel
theorem dX6_spread_63 : decode cX6_spread 63 = .ok (.iconst 0, 1) := by decide +kernel
theorem dX6_spread_64 : decode cX6_spread 64 = .ok (.bastore, 1) := by decide +kernel
theorem dX6_spread_65 : decode cX6_spread 65 = .ok (.iinc 5 1, 3) := by decide +kernel
theorem dX6_spread_68 : decode cX6_spread 68 = .ok (.goto (-49), 3) := by decide +kernel
theorem dX6_spread_71 : decode cX6_spread 71 = .ok (.aload_n 0, 1) := by decide +kernel
theorem dX6_spread_72 : decode cX6_spread 72 = .ok (.invokevirtual 69, 3) := by decide +kernel
theorem dX6_spread_75 : decode cX6_spread 75 = .ok (.aload_n 0, 1) := by decide +kernel
theorem dX6_spread_76 : decode cX6_spread 76 = .ok (.iconst 0, 1) := by decide +kernel
theorem dX6_spread_77 : decode cX6_spread 77 = .ok (.putfield 34, 3) := by decide +kernel
theorem dX6_spread_80 : decode cX6_spread 80 = .ok (.aload_n 0, 1) := by decide +kernel
theorem dX6_spread_81 : decode cX6_spread 81 = .ok (.iconst 0, 1) := by decide +kernel
theorem dX6_spread_82 : decode cX6_spread 82 = .ok (.iconst 0, 1) := by decide +kernel
theorem dX6_spread_83 : decode cX6_spread 83 = .ok (.iload_n 3, 1) := by decide +kernel
theorem dX6_spread_84 : decode cX6_spread 84 = .ok (.invokevirtual 72, 3) := by decide +kernel
theorem dX6_spread_87 : decode cX6_spread 87 = .ok (.iconst 0, 1) := by decide +kernel
theorem dX6_spread_88 : decode cX6_spread 88 = .ok (.istore 5, 2) := by decide +kernel
theorem dX6_spread_90 : decode cX6_spread 90 = .ok (.iload 5, 2) := by decide +kernel
theorem dX6_spread_92 : decode cX6_spread 92 = .ok (.aload_n 0, 1) := by decide +kernel
theorem dX6_spread_93 : decode cX6_spread 93 = .ok (.getfield 34, 3) := by decide +kernel
theorem dX6_spread_96 : decode cX6_spread 96 = .ok (.if_icmp .ge 121, 3) := by decide +kernel
theorem dX6_spread_99 : decode cX6_spread 99 = .ok (.iload 5, 2) := by decide +kernel
theorem dX6_spread_101 : decode cX6_spread 101 = .ok (.sipush 1820, 3) := by decide +kernel
theorem dX6_spread_104 : decode cX6_spread 104 = .ok (.if_icmp .ge 113, 3) := by decide +kernel
theorem dX6_spread_107 : decode cX6_spread 107 = .ok (.iconst 0, 1) := by decide +kernel
theorem dX6_spread_108 : decode cX6_spread 108 = .ok (.istore 6, 2) := by decide +kernel
theorem dX6_spread_110 : decode cX6_spread 110 = .ok (.iload 6, 2) := by decide +kernel
theorem dX6_spread_112 : decode cX6_spread 112 = .ok (.aload_n 0, 1) := by decide +kernel
theorem dX6_spread_113 : decode cX6_spread 113 = .ok (.getfield 53, 3) := by decide +kernel
theorem dX6_spread_116 : decode cX6_spread 116 = .ok (.getfield 76, 3) := by decide +kernel
theorem dX6_spread_119 : decode cX6_spread 119 = .ok (.if_icmp .ge 92, 3) := by decide +kernel
theorem dX6_spread_122 : decode cX6_spread 122 = .ok (.aload_n 0, 1) := by decide +kernel
theorem dX6_spread_123 : decode cX6_spread 123 = .ok (.getfield 28, 3) := by decide +kernel
theorem dX6_spread_126 : decode cX6_spread 126 = .ok (.iload 5, 2) := by decide +kernel
theorem dX6_spread_128 : decode cX6_spread 128 = .ok (.iaload, 1) := by decide +kernel
theorem dX6_spread_129 : decode cX6_spread 129 = .ok (.aload_n 0, 1) := by decide +kernel
theorem dX6_spread_130 : decode cX6_spread 130 = .ok (.getfield 53, 3) := by decide +kernel
theorem dX6_spread_133 : decode cX6_spread 133 = .ok (.getfield 79, 3) := by decide +kernel
theorem dX6_spread_136 : decode cX6_spread 136 = .ok (.iload 6, 2) := by decide +kernel
theorem dX6_spread_138 : decode cX6_spread 138 = .ok (.iaload, 1) := by decide +kernel
theorem dX6_spread_139 : decode cX6_spread 139 = .ok (.iadd, 1) := by decide +kernel
theorem dX6_spread_140 : decode cX6_spread 140 = .ok (.istore 7, 2) := by decide +kernel
theorem dX6_spread_142 : decode cX6_spread 142 = .ok (.aload_n 0, 1) := by decide +kernel
theorem dX6_spread_143 : decode cX6_spread 143 = .ok (.iload 5, 2) := by decide +kernel
theorem dX6_spread_145 : decode cX6_spread 145 = .ok (.iload 6, 2) := by decide +kernel
theorem dX6_spread_147 : decode cX6_spread 147 = .ok (.invokevirtual 82, 3) := by decide +kernel
theorem dX6_spread_150 : decode cX6_spread 150 = .ok (.ifCond .eq 55, 3) := by decide +kernel
theorem dX6_spread_153 : decode cX6_spread 153 = .ok (.iload 7, 2) := by decide +kernel
theorem dX6_spread_155 : decode cX6_spread 155 = .ok (.aload_n 0, 1) := by decide +kernel
theorem dX6_spread_156 : decode cX6_spread 156 = .ok (.getfield 38, 3) := by decide +kernel
theorem dX6_spread_159 : decode cX6_spread 159 = .ok (.if_icmp .gt 46, 3) := by decide +kernel
theorem dX6_spread_162 : decode cX6_spread 162 = .ok (.aload_n 0, 1) := by decide +kernel
theorem dX6_spread_163 : decode cX6_spread 163 = .ok (.getfield 9, 3) := by decide +kernel
theorem dX6_spread_166 : decode cX6_spread 166 = .ok (.iload 7, 2) := by decide +kernel
theorem dX6_spread_168 : decode cX6_spread 168 = .ok (.baload, 1) := by decide +kernel
theorem dX6_spread_169 : decode cX6_spread 169 = .ok (.ifCond .eq 36, 3) := by decide +kernel
theorem dX6_spread_172 : decode cX6_spread 172 = .ok (.aload_n 0, 1) := by decide +kernel
theorem dX6_spread_173 : decode cX6_spread 173 = .ok (.aload_n 0, 1) := by decide +kernel
theorem dX6_spread_174 : decode cX6_spread 174 = .ok (.getfield 22, 3) := by decide +kernel
theorem dX6_spread_177 : decode cX6_spread 177 = .ok (.iload 5, 2) := by decide +kernel
theorem dX6_spread_179 : decode cX6_spread 179 = .ok (.iaload, 1) := by decide +kernel
theorem dX6_spread_180 : decode cX6_spread 180 = .ok (.aload_n 0, 1) := by decide +kernel
theorem dX6_spread_181 : decode cX6_spread 181 = .ok (.getfield 15, 3) := by decide +kernel
theorem dX6_spread_184 : decode cX6_spread 184 = .ok (.iload 6, 2) := by decide +kernel
theorem dX6_spread_186 : decode cX6_spread 186 = .ok (.iaload, 1) := by decide +kernel
theorem dX6_spread_187 : decode cX6_spread 187 = .ok (.iadd, 1) := by decide +kernel
theorem dX6_spread_188 : decode cX6_spread 188 = .ok (.aload_n 0, 1) := by decide +kernel
theorem dX6_spread_189 : decode cX6_spread 189 = .ok (.getfield 25, 3) := by decide +kernel
theorem dX6_spread_192 : decode cX6_spread 192 = .ok (.iload 5, 2) := by decide +kernel
theorem dX6_spread_194 : decode cX6_spread 194 = .ok (.iaload, 1) := by decide +kernel
theorem dX6_spread_195 : decode cX6_spread 195 = .ok (.iload 6, 2) := by decide +kernel
theorem dX6_spread_197 : decode cX6_spread 197 = .ok (.invokestatic 85, 3) := by decide +kernel
theorem dX6_spread_200 : decode cX6_spread 200 = .ok (.iload 7, 2) := by decide +kernel
theorem dX6_spread_202 : decode cX6_spread 202 = .ok (.invokevirtual 72, 3) := by decide +kernel
theorem dX6_spread_205 : decode cX6_spread 205 = .ok (.iinc 6 1, 3) := by decide +kernel
theorem dX6_spread_208 : decode cX6_spread 208 = .ok (.goto (-98), 3) := by decide +kernel
theorem dX6_spread_211 : decode cX6_spread 211 = .ok (.iinc 5 1, 3) := by decide +kernel
theorem dX6_spread_214 : decode cX6_spread 214 = .ok (.goto (-124), 3) := by decide +kernel
theorem dX6_spread_217 : decode cX6_spread 217 = .ok (.return_, 1) := by decide +kernel
theorem dX6_setSteps_0 : decode cX6_setSteps 0 = .ok (.iconst 1, 1) := by decide +kernel
theorem dX6_setSteps_1 : decode cX6_setSteps 1 = .ok (.istore_n 1, 1) := by decide +kernel
theorem dX6_setSteps_2 : decode cX6_setSteps 2 = .ok (.iconst 0, 1) := by decide +kernel
theorem dX6_setSteps_3 : decode cX6_setSteps 3 = .ok (.istore_n 2, 1) := by decide +kernel
theorem dX6_setSteps_4 : decode cX6_setSteps 4 = .ok (.iload_n 2, 1) := by decide +kernel
theorem dX6_setSteps_5 : decode cX6_setSteps 5 = .ok (.iconst 4, 1) := by decide +kernel
theorem dX6_setSteps_6 : decode cX6_setSteps 6 = .ok (.if_icmp .ge 68, 3) := by decide +kernel
theorem dX6_setSteps_9 : decode cX6_setSteps 9 = .ok (.aload_n 0, 1) := by decide +kernel
theorem dX6_setSteps_10 : decode cX6_setSteps 10 = .ok (.getfield 15, 3) := by decide +kernel
theorem dX6_setSteps_13 : decode cX6_setSteps 13 = .ok (.iload_n 2, 1) := by decide +kernel
theorem dX6_setSteps_14 : decode cX6_setSteps 14 = .ok (.iload_n 1, 1) := by decide +kernel
theorem dX6_setSteps_15 : decode cX6_setSteps 15 = .ok (.iastore, 1) := by decide +kernel
theorem dX6_setSteps_16 : decode cX6_setSteps 16 = .ok (.iload_n 2, 1) := by decide +kernel
theorem dX6_setSteps_17 : decode cX6_setSteps 17 = .ok (.aload_n 0, 1) := by decide +kernel
theorem dX6_setSteps_18 : decode cX6_setSteps 18 = .ok (.getfield 53, 3) := by decide +kernel
theorem dX6_setSteps_21 : decode cX6_setSteps 21 = .ok (.getfield 76, 3) := by decide +kernel
theorem dX6_setSteps_24 : decode cX6_setSteps 24 = .ok (.if_icmp .ge 44, 3) := by decide +kernel
theorem dX6_setSteps_27 : decode cX6_setSteps 27 = .ok (.aload_n 0, 1) := by decide +kernel
theorem dX6_setSteps_28 : decode cX6_setSteps 28 = .ok (.getfield 53, 3) := by decide +kernel
theorem dX6_setSteps_31 : decode cX6_setSteps 31 = .ok (.getfield 79, 3) := by decide +kernel
theorem dX6_setSteps_34 : decode cX6_setSteps 34 = .ok (.iload_n 2, 1) := by decide +kernel
theorem dX6_setSteps_35 : decode cX6_setSteps 35 = .ok (.iaload, 1) := by decide +kernel
theorem dX6_setSteps_36 : decode cX6_setSteps 36 = .ok (.ifCond .le 32, 3) := by decide +kernel
theorem dX6_setSteps_39 : decode cX6_setSteps 39 = .ok (.iload_n 1, 1) := by decide +kernel
theorem dX6_setSteps_40 : decode cX6_setSteps 40 = .ok (.aload_n 0, 1) := by decide +kernel
theorem dX6_setSteps_41 : decode cX6_setSteps 41 = .ok (.getfield 53, 3) := by decide +kernel
theorem dX6_setSteps_44 : decode cX6_setSteps 44 = .ok (.getfield 90, 3) := by decide +kernel
theorem dX6_setSteps_47 : decode cX6_setSteps 47 = .ok (.iload_n 2, 1) := by decide +kernel
theorem dX6_setSteps_48 : decode cX6_setSteps 48 = .ok (.iaload, 1) := by decide +kernel
theorem dX6_setSteps_49 : decode cX6_setSteps 49 = .ok (.bipush 60, 2) := by decide +kernel
theorem dX6_setSteps_51 : decode cX6_setSteps 51 = .ok (.aload_n 0, 1) := by decide +kernel
theorem dX6_setSteps_52 : decode cX6_setSteps 52 = .ok (.getfield 53, 3) := by decide +kernel
theorem dX6_setSteps_55 : decode cX6_setSteps 55 = .ok (.getfield 79, 3) := by decide +kernel
theorem dX6_setSteps_58 : decode cX6_setSteps 58 = .ok (.iload_n 2, 1) := by decide +kernel
theorem dX6_setSteps_59 : decode cX6_setSteps 59 = .ok (.iaload, 1) := by decide +kernel
theorem dX6_setSteps_60 : decode cX6_setSteps 60 = .ok (.idiv, 1) := by decide +kernel
theorem dX6_setSteps_61 : decode cX6_setSteps 61 = .ok (.invokestatic 57, 3) := by decide +kernel
theorem dX6_setSteps_64 : decode cX6_setSteps 64 = .ok (.iconst 1, 1) := by decide +kernel
theorem dX6_setSteps_65 : decode cX6_setSteps 65 = .ok (.iadd, 1) := by decide +kernel
theorem dX6_setSteps_66 : decode cX6_setSteps 66 = .ok (.imul, 1) := by decide +kernel
theorem dX6_setSteps_67 : decode cX6_setSteps 67 = .ok (.istore_n 1, 1) := by decide +kernel
theorem dX6_setSteps_68 : decode cX6_setSteps 68 = .ok (.iinc 2 1, 3) := by decide +kernel
theorem dX6_setSteps_71 : decode cX6_setSteps 71 = .ok (.goto (-67), 3) := by decide +kernel
theorem dX6_setSteps_74 : decode cX6_setSteps 74 = .ok (.return_, 1) := by decide +kernel
set_option maxRecDepth 20000 in
theorem ggX6_reach_X6_stateAt : GoodIn wsX6_reach wsX6_stateAt := goodIn_r _ [10, 2, 1, 3, 11, 12, 13, 14, 15, 16, 17, 18, 19, 20, 21, 22, 23, 24] (by decide +kernel) (by decide +kernel)
set_option maxRecDepth 20000 in
theorem gX6_reach_X6_stateAt : GoodIn wsX6_reach (wsV RX6 93 RX6 yX6_stateAt wsX6_stateAt) := goodIn_app (goodIn_of _ (by decide +kernel)) ggX6_reach_X6_stateAt
theorem dX6_reach_0 : decode cX6_reach 0 = .ok (.iload_n 1, 1) := by decide +kernel
theorem dX6_reach_1 : decode cX6_reach 1 = .ok (.ifCond .lt 78, 3) := by decide +kernel
theorem dX6_reach_4 : decode cX6_reach 4 = .ok (.iload_n 1, 1) := by decide +kernel
theorem dX6_reach_5 : decode cX6_reach 5 = .ok (.sipush 10296, 3) := by decide +kernel
theorem dX6_reach_8 : decode cX6_reach 8 = .ok (.if_icmp .ge 71, 3) := by decide +kernel
theorem dX6_reach_11 : decode cX6_reach 11 = .ok (.aload_n 0, 1) := by decide +kernel
theorem dX6_reach_12 : decode cX6_reach 12 = .ok (.iload_n 1, 1) := by decide +kernel
theorem dX6_reach_13 : decode cX6_reach 13 = .ok (.invokevirtual 93, 3) := by decide +kernel
theorem dX6_reach_16 : decode cX6_reach 16 = .ok (.ifCond .ge 63, 3) := by decide +kernel
theorem dX6_reach_19 : decode cX6_reach 19 = .ok (.aload_n 0, 1) := by decide +kernel
theorem dX6_reach_20 : decode cX6_reach 20 = .ok (.getfield 34, 3) := by decide +kernel
theorem dX6_reach_23 : decode cX6_reach 23 = .ok (.sipush 1820, 3) := by decide +kernel
theorem dX6_reach_26 : decode cX6_reach 26 = .ok (.if_icmp .ge 53, 3) := by decide +kernel
theorem dX6_reach_29 : decode cX6_reach 29 = .ok (.aload_n 0, 1) := by decide +kernel
theorem dX6_reach_30 : decode cX6_reach 30 = .ok (.getfield 19, 3) := by decide +kernel
theorem dX6_reach_33 : decode cX6_reach 33 = .ok (.iload_n 1, 1) := by decide +kernel
theorem dX6_reach_34 : decode cX6_reach 34 = .ok (.aload_n 0, 1) := by decide +kernel
theorem dX6_reach_35 : decode cX6_reach 35 = .ok (.getfield 34, 3) := by decide +kernel
theorem dX6_reach_38 : decode cX6_reach 38 = .ok (.iastore, 1) := by decide +kernel
theorem dX6_reach_39 : decode cX6_reach 39 = .ok (.aload_n 0, 1) := by decide +kernel
theorem dX6_reach_40 : decode cX6_reach 40 = .ok (.getfield 22, 3) := by decide +kernel
theorem dX6_reach_43 : decode cX6_reach 43 = .ok (.aload_n 0, 1) := by decide +kernel
theorem dX6_reach_44 : decode cX6_reach 44 = .ok (.getfield 34, 3) := by decide +kernel
theorem dX6_reach_47 : decode cX6_reach 47 = .ok (.iload_n 1, 1) := by decide +kernel
theorem dX6_reach_48 : decode cX6_reach 48 = .ok (.iastore, 1) := by decide +kernel
theorem dX6_reach_49 : decode cX6_reach 49 = .ok (.aload_n 0, 1) := by decide +kernel
theorem dX6_reach_50 : decode cX6_reach 50 = .ok (.getfield 25, 3) := by decide +kernel
theorem dX6_reach_53 : decode cX6_reach 53 = .ok (.aload_n 0, 1) := by decide +kernel
theorem dX6_reach_54 : decode cX6_reach 54 = .ok (.getfield 34, 3) := by decide +kernel
theorem dX6_reach_57 : decode cX6_reach 57 = .ok (.iload_n 2, 1) := by decide +kernel
theorem dX6_reach_58 : decode cX6_reach 58 = .ok (.iastore, 1) := by decide +kernel
theorem dX6_reach_59 : decode cX6_reach 59 = .ok (.aload_n 0, 1) := by decide +kernel
theorem dX6_reach_60 : decode cX6_reach 60 = .ok (.getfield 28, 3) := by decide +kernel
theorem dX6_reach_63 : decode cX6_reach 63 = .ok (.aload_n 0, 1) := by decide +kernel
theorem dX6_reach_64 : decode cX6_reach 64 = .ok (.getfield 34, 3) := by decide +kernel
theorem dX6_reach_67 : decode cX6_reach 67 = .ok (.iload_n 3, 1) := by decide +kernel
theorem dX6_reach_68 : decode cX6_reach 68 = .ok (.iastore, 1) := by decide +kernel
theorem dX6_reach_69 : decode cX6_reach 69 = .ok (.aload_n 0, 1) := by decide +kernel
theorem dX6_reach_70 : decode cX6_reach 70 = .ok (.dup, 1) := by decide +kernel
theorem dX6_reach_71 : decode cX6_reach 71 = .ok (.getfield 34, 3) := by decide +kernel
theorem dX6_reach_74 : decode cX6_reach 74 = .ok (.iconst 1, 1) := by decide +kernel
theorem dX6_reach_75 : decode cX6_reach 75 = .ok (.iadd, 1) := by decide +kernel
theorem dX6_reach_76 : decode cX6_reach 76 = .ok (.putfield 34, 3) := by decide +kernel
theorem dX6_reach_79 : decode cX6_reach 79 = .ok (.return_, 1) := by decide +kernel
theorem dX6_stateAt_0 : decode cX6_stateAt 0 = .ok (.iload_n 1, 1) := by decide +kernel
theorem dX6_stateAt_1 : decode cX6_stateAt 1 = .ok (.ifCond .lt 10, 3) := by decide +kernel
theorem dX6_stateAt_4 : decode cX6_stateAt 4 = .ok (.iload_n 1, 1) := by decide +kernel
theorem dX6_stateAt_5 : decode cX6_stateAt 5 = .ok (.sipush 10296, 3) := by decide +kernel
theorem dX6_stateAt_8 : decode cX6_stateAt 8 = .ok (.if_icmp .lt 5, 3) := by decide +kernel
theorem dX6_stateAt_11 : decode cX6_stateAt 11 = .ok (.iconst (-1), 1) := by decide +kernel
theorem dX6_stateAt_12 : decode cX6_stateAt 12 = .ok (.ireturn, 1) := by decide +kernel
theorem dX6_stateAt_13 : decode cX6_stateAt 13 = .ok (.aload_n 0, 1) := by decide +kernel
theorem dX6_stateAt_14 : decode cX6_stateAt 14 = .ok (.getfield 19, 3) := by decide +kernel
theorem dX6_stateAt_17 : decode cX6_stateAt 17 = .ok (.iload_n 1, 1) := by decide +kernel
theorem dX6_stateAt_18 : decode cX6_stateAt 18 = .ok (.iaload, 1) := by decide +kernel
theorem dX6_stateAt_19 : decode cX6_stateAt 19 = .ok (.istore_n 2, 1) := by decide +kernel
theorem dX6_stateAt_20 : decode cX6_stateAt 20 = .ok (.iload_n 2, 1) := by decide +kernel
theorem dX6_stateAt_21 : decode cX6_stateAt 21 = .ok (.aload_n 0, 1) := by decide +kernel
theorem dX6_stateAt_22 : decode cX6_stateAt 22 = .ok (.getfield 34, 3) := by decide +kernel
theorem dX6_stateAt_25 : decode cX6_stateAt 25 = .ok (.if_icmp .ge 17, 3) := by decide +kernel
theorem dX6_stateAt_28 : decode cX6_stateAt 28 = .ok (.aload_n 0, 1) := by decide +kernel
theorem dX6_stateAt_29 : decode cX6_stateAt 29 = .ok (.getfield 22, 3) := by decide +kernel
theorem dX6_stateAt_32 : decode cX6_stateAt 32 = .ok (.iload_n 2, 1) := by decide +kernel
theorem dX6_stateAt_33 : decode cX6_stateAt 33 = .ok (.iaload, 1) := by decide +kernel
theorem dX6_stateAt_34 : decode cX6_stateAt 34 = .ok (.iload_n 1, 1) := by decide +kernel
theorem dX6_stateAt_35 : decode cX6_stateAt 35 = .ok (.if_icmp .ne 7, 3) := by decide +kernel
theorem dX6_stateAt_38 : decode cX6_stateAt 38 = .ok (.iload_n 2, 1) := by decide +kernel
theorem dX6_stateAt_39 : decode cX6_stateAt 39 = .ok (.goto 4, 3) := by decide +kernel
theorem dX6_stateAt_42 : decode cX6_stateAt 42 = .ok (.iconst (-1), 1) := by decide +kernel
theorem dX6_stateAt_43 : decode cX6_stateAt 43 = .ok (.ireturn, 1) := by decide +kernel
set_option maxRecDepth 20000 in
theorem ggX6_hasLeft_X5_of : GoodIn wsX6_hasLeft wsX5_of := goodIn_r _ [7] (by decide +kernel) (by decide +kernel)
set_option maxRecDepth 20000 in
theorem gX6_hasLeft_X5_of : GoodIn wsX6_hasLeft (va_wsS RX6 97 yX5_of wsX5_of) := goodIn_app (goodIn_of _ (by decide +kernel)) ggX6_hasLeft_X5_of
theorem dX6_hasLeft_0 : decode cX6_hasLeft 0 = .ok (.aload_n 0, 1) := by decide +kernel
theorem dX6_hasLeft_1 : decode cX6_hasLeft 1 = .ok (.getfield 25, 3) := by decide +kernel
theorem dX6_hasLeft_4 : decode cX6_hasLeft 4 = .ok (.iload_n 1, 1) := by decide +kernel
theorem dX6_hasLeft_5 : decode cX6_hasLeft 5 = .ok (.iaload, 1) := by decide +kernel
theorem dX6_hasLeft_6 : decode cX6_hasLeft 6 = .ok (.iload_n 2, 1) := by decide +kernel
theorem dX6_hasLeft_7 : decode cX6_hasLeft 7 = .ok (.invokestatic 97, 3) := by decide +kernel
theorem dX6_hasLeft_10 : decode cX6_hasLeft 10 = .ok (.aload_n 0, 1) := by decide +kernel
theorem dX6_hasLeft_11 : decode cX6_hasLeft 11 = .ok (.getfield 53, 3) := by decide +kernel
theorem dX6_hasLeft_14 : decode cX6_hasLeft 14 = .ok (.getfield 90, 3) := by decide +kernel
theorem dX6_hasLeft_17 : decode cX6_hasLeft 17 = .ok (.iload_n 2, 1) := by decide +kernel
theorem dX6_hasLeft_18 : decode cX6_hasLeft 18 = .ok (.iaload, 1) := by decide +kernel
theorem dX6_hasLeft_19 : decode cX6_hasLeft 19 = .ok (.if_icmp .ge 7, 3) := by decide +kernel
theorem dX6_hasLeft_22 : decode cX6_hasLeft 22 = .ok (.iconst 1, 1) := by decide +kernel
theorem dX6_hasLeft_23 : decode cX6_hasLeft 23 = .ok (.goto 4, 3) := by decide +kernel
theorem dX6_hasLeft_26 : decode cX6_hasLeft 26 = .ok (.iconst 0, 1) := by decide +kernel
theorem dX6_hasLeft_27 : decode cX6_hasLeft 27 = .ok (.ireturn, 1) := by decide +kernel
theorem dX6_hasFill_0 : decode cX6_hasFill 0 = .ok (.iconst 0, 1) := by decide +kernel
theorem dX6_hasFill_1 : decode cX6_hasFill 1 = .ok (.istore_n 1, 1) := by decide +kernel
theorem dX6_hasFill_2 : decode cX6_hasFill 2 = .ok (.iload_n 1, 1) := by decide +kernel
theorem dX6_hasFill_3 : decode cX6_hasFill 3 = .ok (.aload_n 0, 1) := by decide +kernel
theorem dX6_hasFill_4 : decode cX6_hasFill 4 = .ok (.getfield 34, 3) := by decide +kernel
theorem dX6_hasFill_7 : decode cX6_hasFill 7 = .ok (.if_icmp .ge 24, 3) := by decide +kernel
theorem dX6_hasFill_10 : decode cX6_hasFill 10 = .ok (.aload_n 0, 1) := by decide +kernel
theorem dX6_hasFill_11 : decode cX6_hasFill 11 = .ok (.getfield 28, 3) := by decide +kernel
theorem dX6_hasFill_14 : decode cX6_hasFill 14 = .ok (.iload_n 1, 1) := by decide +kernel
theorem dX6_hasFill_15 : decode cX6_hasFill 15 = .ok (.iaload, 1) := by decide +kernel
theorem dX6_hasFill_16 : decode cX6_hasFill 16 = .ok (.aload_n 0, 1) := by decide +kernel
theorem dX6_hasFill_17 : decode cX6_hasFill 17 = .ok (.getfield 38, 3) := by decide +kernel
theorem dX6_hasFill_20 : decode cX6_hasFill 20 = .ok (.if_icmp .ne 5, 3) := by decide +kernel
theorem dX6_hasFill_23 : decode cX6_hasFill 23 = .ok (.iconst 1, 1) := by decide +kernel
theorem dX6_hasFill_24 : decode cX6_hasFill 24 = .ok (.ireturn, 1) := by decide +kernel
theorem dX6_hasFill_25 : decode cX6_hasFill 25 = .ok (.iinc 1 1, 3) := by decide +kernel
theorem dX6_hasFill_28 : decode cX6_hasFill 28 = .ok (.goto (-26), 3) := by decide +kernel
theorem dX6_hasFill_31 : decode cX6_hasFill 31 = .ok (.iconst 0, 1) := by decide +kernel
theorem dX6_hasFill_32 : decode cX6_hasFill 32 = .ok (.ireturn, 1) := by decide +kernel
set_option maxRecDepth 20000 in
theorem ggX6_number_X6_settle : GoodIn wsX6_number wsX6_settle := goodIn_r _ [5, 6, 7, 8, 9, 10, 11, 12, 13, 14, 15, 16, 17, 18, 4, 19, 20, 21, 22, 23, 24, 25, 26, 27, 28, 29, 30, 31, 32, 33, 34, 35, 36, 37, 38, 39, 40, 41, 42, 43, 44, 45, 46, 47, 48, 49, 50, 51, 52, 53, 54, 55, 56, 57, 58, 59, 60, 61, 62, 63, 64, 65, 66, 67, 68, 69, 70, 71, 72] (by decide +kernel) (by decide +kernel)
set_option maxRecDepth 20000 in
theorem gX6_number_X6_settle : GoodIn wsX6_number (wsV RX6 100 RX6 yX6_settle wsX6_settle) := goodIn_app (goodIn_of _ (by decide +kernel)) ggX6_number_X6_settle
theorem dX6_number_0 : decode cX6_number 0 = .ok (.aload_n 0, 1) := by decide +kernel
theorem dX6_number_1 : decode cX6_number 1 = .ok (.iconst 0, 1) := by decide +kernel
theorem dX6_number_2 : decode cX6_number 2 = .ok (.iconst (-1), 1) := by decide +kernel
theorem dX6_number_3 : decode cX6_number 3 = .ok (.invokevirtual 100, 3) := by decide +kernel
theorem dX6_number_6 : decode cX6_number 6 = .ok (.ireturn, 1) := by decide +kernel
set_option maxRecDepth 20000 in
theorem ggX6_numberEndingWith_X6_settle : GoodIn wsX6_numberEndingWith wsX6_settle := goodIn_r _ [5, 6, 7, 8, 9, 10, 11, 12, 13, 14, 15, 16, 17, 18, 4, 19, 20, 21, 22, 23, 24, 25, 26, 27, 28, 29, 30, 31, 32, 33, 34, 35, 36, 37, 38, 39, 40, 41, 42, 43, 44, 45, 46, 47, 48, 49, 50, 51, 52, 53, 54, 55, 56, 57, 58, 59, 60, 61, 62, 63, 64, 65, 66, 67, 68, 69, 70, 71, 72] (by decide +kernel) (by decide +kernel)
set_option maxRecDepth 20000 in
theorem gX6_numberEndingWith_X6_settle : GoodIn wsX6_numberEndingWith (wsV RX6 100 RX6 yX6_settle wsX6_settle) := goodIn_app (goodIn_of _ (by decide +kernel)) ggX6_numberEndingWith_X6_settle
theorem dX6_numberEndingWith_0 : decode cX6_numberEndingWith 0 = .ok (.aload_n 0, 1) := by decide +kernel
theorem dX6_numberEndingWith_1 : decode cX6_numberEndingWith 1 = .ok (.iconst 0, 1) := by decide +kernel
theorem dX6_numberEndingWith_2 : decode cX6_numberEndingWith 2 = .ok (.iload_n 1, 1) := by decide +kernel
theorem dX6_numberEndingWith_3 : decode cX6_numberEndingWith 3 = .ok (.invokevirtual 100, 3) := by decide +kernel
theorem dX6_numberEndingWith_6 : decode cX6_numberEndingWith 6 = .ok (.ireturn, 1) := by decide +kernel
set_option maxRecDepth 20000 in
theorem ggX6_findFirst_X6_settle : GoodIn wsX6_findFirst wsX6_settle := goodIn_r _ [5, 6, 7, 8, 9, 10, 11, 12, 13, 14, 15, 16, 17, 18, 4, 19, 20, 21, 22, 23, 24, 25, 26, 27, 28, 29, 30, 31, 32, 33, 34, 35, 36, 37, 38, 39, 40, 41, 42, 43, 44, 45, 46, 47, 48, 49, 60, 61, 62, 63, 64, 65, 66, 67, 68, 69, 70, 71, 72, 73, 74, 75, 76, 77, 78, 79, 80, 81, 82] (by decide +kernel) (by decide +kernel)
set_option maxRecDepth 20000 in
theorem gX6_findFirst_X6_settle : GoodIn wsX6_findFirst (wsV RX6 100 RX6 yX6_settle wsX6_settle) := goodIn_app (goodIn_of _ (by decide +kernel)) ggX6_findFirst_X6_settle
set_option maxRecDepth 20000 in
theorem ggX6_findFirst_X6_follow : GoodIn wsX6_findFirst wsX6_follow := goodIn_r _ [53, 54, 55, 25, 9, 26, 27, 28, 29, 56, 57, 58, 4, 59, 10, 6, 20, 15, 21, 22, 23, 24, 30, 31, 32, 33, 34, 35, 36, 37, 38, 39, 40, 16, 17, 18, 19, 41, 42, 43, 44, 7, 45, 46, 47, 48, 49, 8, 60, 61, 62, 63, 64, 65, 66, 67, 68, 69, 70, 71, 72, 73, 74, 75, 76, 77, 78, 79, 80, 81, 82] (by decide +kernel) (by decide +kernel)
set_option maxRecDepth 20000 in
theorem gX6_findFirst_X6_follow : GoodIn wsX6_findFirst (wsV RX6 103 RX6 yX6_follow wsX6_follow) := goodIn_app (goodIn_of _ (by decide +kernel)) ggX6_findFirst_X6_follow
theorem dX6_findFirst_0 : decode cX6_findFirst 0 = .ok (.aload_n 0, 1) := by decide +kernel
theorem dX6_findFirst_1 : decode cX6_findFirst 1 = .ok (.iconst 0, 1) := by decide +kernel
theorem dX6_findFirst_2 : decode cX6_findFirst 2 = .ok (.iconst (-1), 1) := by decide +kernel
theorem dX6_findFirst_3 : decode cX6_findFirst 3 = .ok (.invokevirtual 100, 3) := by decide +kernel
theorem dX6_findFirst_6 : decode cX6_findFirst 6 = .ok (.ifCond .le 14, 3) := by decide +kernel
theorem dX6_findFirst_9 : decode cX6_findFirst 9 = .ok (.aload_n 0, 1) := by decide +kernel
theorem dX6_findFirst_10 : decode cX6_findFirst 10 = .ok (.invokevirtual 103, 3) := by decide +kernel
theorem dX6_findFirst_13 : decode cX6_findFirst 13 = .ok (.ifCond .eq 7, 3) := by decide +kernel
theorem dX6_findFirst_16 : decode cX6_findFirst 16 = .ok (.iconst 1, 1) := by decide +kernel
theorem dX6_findFirst_17 : decode cX6_findFirst 17 = .ok (.goto 4, 3) := by decide +kernel
theorem dX6_findFirst_20 : decode cX6_findFirst 20 = .ok (.iconst 0, 1) := by decide +kernel
theorem dX6_findFirst_21 : decode cX6_findFirst 21 = .ok (.ireturn, 1) := by decide +kernel
set_option maxRecDepth 20000 in
theorem ggX6_findCheapest_X6_settle : GoodIn wsX6_findCheapest wsX6_settle := goodIn_r _ [6, 7, 8, 9, 10, 11, 12, 13, 14, 15, 16, 17, 18, 19, 5, 20, 1, 21, 22, 23, 24, 25, 26, 27, 28, 29, 30, 31, 32, 33, 34, 35, 36, 37, 38, 39, 40, 41, 42, 43, 44, 45, 46, 47, 48, 49, 60, 61, 62, 63, 64, 65, 66, 67, 68, 69, 70, 71, 72, 73, 74, 75, 76, 77, 78, 79, 80, 81, 82] (by decide +kernel) (by decide +kernel)
set_option maxRecDepth 20000 in
theorem gX6_findCheapest_X6_settle : GoodIn wsX6_findCheapest (wsV RX6 100 RX6 yX6_settle wsX6_settle) := goodIn_app (goodIn_of _ (by decide +kernel)) ggX6_findCheapest_X6_settle
set_option maxRecDepth 20000 in
theorem ggX6_findCheapest_X6_follow : GoodIn wsX6_findCheapest wsX6_follow := goodIn_r _ [53, 54, 55, 25, 10, 26, 27, 28, 29, 56, 57, 58, 5, 59, 11, 7, 1, 16, 21, 22, 23, 24, 30, 31, 32, 33, 34, 35, 36, 37, 38, 39, 40, 17, 18, 19, 20, 41, 42, 43, 44, 8, 45, 46, 47, 48, 49, 9, 60, 61, 62, 63, 64, 65, 66, 67, 68, 69, 70, 71, 72, 73, 74, 75, 76, 77, 78, 79, 80, 81, 82] (by decide +kernel) (by decide +kernel)
set_option maxRecDepth 20000 in
theorem gX6_findCheapest_X6_follow : GoodIn wsX6_findCheapest (wsV RX6 103 RX6 yX6_follow wsX6_follow) := goodIn_app (goodIn_of _ (by decide +kernel)) ggX6_findCheapest_X6_follow
theorem dX6_findCheapest_0 : decode cX6_findCheapest 0 = .ok (.aload_n 0, 1) := by decide +kernel
theorem dX6_findCheapest_1 : decode cX6_findCheapest 1 = .ok (.iconst 1, 1) := by decide +kernel
theorem dX6_findCheapest_2 : decode cX6_findCheapest 2 = .ok (.iconst (-1), 1) := by decide +kernel
theorem dX6_findCheapest_3 : decode cX6_findCheapest 3 = .ok (.invokevirtual 100, 3) := by decide +kernel
theorem dX6_findCheapest_6 : decode cX6_findCheapest 6 = .ok (.ldc 107, 2) := by decide +kernel
theorem dX6_findCheapest_8 : decode cX6_findCheapest 8 = .ok (.if_icmp .ge 14, 3) := by decide +kernel
theorem dX6_findCheapest_11 : decode cX6_findCheapest 11 = .ok (.aload_n 0, 1) := by decide +kernel
theorem dX6_findCheapest_12 : decode cX6_findCheapest 12 = .ok (.invokevirtual 103, 3) := by decide +kernel
theorem dX6_findCheapest_15 : decode cX6_findCheapest 15 = .ok (.ifCond .eq 7, 3) := by decide +kernel
theorem dX6_findCheapest_18 : decode cX6_findCheapest 18 = .ok (.iconst 1, 1) := by decide +kernel
theorem dX6_findCheapest_19 : decode cX6_findCheapest 19 = .ok (.goto 4, 3) := by decide +kernel
theorem dX6_findCheapest_22 : decode cX6_findCheapest 22 = .ok (.iconst 0, 1) := by decide +kernel
theorem dX6_findCheapest_23 : decode cX6_findCheapest 23 = .ok (.ireturn, 1) := by decide +kernel
set_option maxRecDepth 20000 in
theorem ggX6_findLeastCut_X6_settle : GoodIn wsX6_findLeastCut wsX6_settle := goodIn_r _ [6, 7, 8, 9, 10, 11, 12, 13, 14, 15, 16, 17, 18, 19, 5, 20, 1, 21, 22, 23, 24, 25, 26, 27, 28, 29, 30, 31, 32, 33, 34, 35, 36, 37, 38, 39, 40, 41, 42, 43, 44, 45, 46, 47, 48, 49, 60, 61, 62, 63, 64, 65, 66, 67, 68, 69, 70, 71, 72, 73, 74, 75, 76, 77, 78, 79, 80, 81, 82] (by decide +kernel) (by decide +kernel)
set_option maxRecDepth 20000 in
theorem gX6_findLeastCut_X6_settle : GoodIn wsX6_findLeastCut (wsV RX6 100 RX6 yX6_settle wsX6_settle) := goodIn_app (goodIn_of _ (by decide +kernel)) ggX6_findLeastCut_X6_settle
set_option maxRecDepth 20000 in
theorem ggX6_findLeastCut_X6_follow : GoodIn wsX6_findLeastCut wsX6_follow := goodIn_r _ [53, 54, 55, 25, 10, 26, 27, 28, 29, 56, 57, 58, 5, 59, 11, 7, 1, 16, 21, 22, 23, 24, 30, 31, 32, 33, 34, 35, 36, 37, 38, 39, 40, 17, 18, 19, 20, 41, 42, 43, 44, 8, 45, 46, 47, 48, 49, 9, 60, 61, 62, 63, 64, 65, 66, 67, 68, 69, 70, 71, 72, 73, 74, 75, 76, 77, 78, 79, 80, 81, 82] (by decide +kernel) (by decide +kernel)
set_option maxRecDepth 20000 in
theorem gX6_findLeastCut_X6_follow : GoodIn wsX6_findLeastCut (wsV RX6 103 RX6 yX6_follow wsX6_follow) := goodIn_app (goodIn_of _ (by decide +kernel)) ggX6_findLeastCut_X6_follow
theorem dX6_findLeastCut_0 : decode cX6_findLeastCut 0 = .ok (.aload_n 0, 1) := by decide +kernel
theorem dX6_findLeastCut_1 : decode cX6_findLeastCut 1 = .ok (.iconst 2, 1) := by decide +kernel
theorem dX6_findLeastCut_2 : decode cX6_findLeastCut 2 = .ok (.iconst (-1), 1) := by decide +kernel
theorem dX6_findLeastCut_3 : decode cX6_findLeastCut 3 = .ok (.invokevirtual 100, 3) := by decide +kernel
theorem dX6_findLeastCut_6 : decode cX6_findLeastCut 6 = .ok (.ldc 107, 2) := by decide +kernel
theorem dX6_findLeastCut_8 : decode cX6_findLeastCut 8 = .ok (.if_icmp .ge 14, 3) := by decide +kernel
theorem dX6_findLeastCut_11 : decode cX6_findLeastCut 11 = .ok (.aload_n 0, 1) := by decide +kernel
theorem dX6_findLeastCut_12 : decode cX6_findLeastCut 12 = .ok (.invokevirtual 103, 3) := by decide +kernel
theorem dX6_findLeastCut_15 : decode cX6_findLeastCut 15 = .ok (.ifCond .eq 7, 3) := by decide +kernel
theorem dX6_findLeastCut_18 : decode cX6_findLeastCut 18 = .ok (.iconst 1, 1) := by decide +kernel
theorem dX6_findLeastCut_19 : decode cX6_findLeastCut 19 = .ok (.goto 4, 3) := by decide +kernel
theorem dX6_findLeastCut_22 : decode cX6_findLeastCut 22 = .ok (.iconst 0, 1) := by decide +kernel
theorem dX6_findLeastCut_23 : decode cX6_findLeastCut 23 = .ok (.ireturn, 1) := by decide +kernel
theorem dX6_told_0 : decode cX6_told 0 = .ok (.iload_n 1, 1) := by decide +kernel
theorem dX6_told_1 : decode cX6_told 1 = .ok (.ifCond .ge 10, 3) := by decide +kernel
theorem dX6_told_4 : decode cX6_told 4 = .ok (.aload_n 0, 1) := by decide +kernel
theorem dX6_told_5 : decode cX6_told 5 = .ok (.getfield 31, 3) := by decide +kernel
theorem dX6_told_8 : decode cX6_told 8 = .ok (.iconst 0, 1) := by decide +kernel
theorem dX6_told_9 : decode cX6_told 9 = .ok (.iaload, 1) := by decide +kernel
theorem dX6_told_10 : decode cX6_told 10 = .ok (.ireturn, 1) := by decide +kernel
theorem dX6_told_11 : decode cX6_told 11 = .ok (.iload_n 1, 1) := by decide +kernel
theorem dX6_told_12 : decode cX6_told 12 = .ok (.aload_n 0, 1) := by decide +kernel
theorem dX6_told_13 : decode cX6_told 13 = .ok (.getfield 50, 3) := by decide +kernel
theorem dX6_told_16 : decode cX6_told 16 = .ok (.if_icmp .ge 18, 3) := by decide +kernel
theorem dX6_told_19 : decode cX6_told 19 = .ok (.iload_n 1, 1) := by decide +kernel
theorem dX6_told_20 : decode cX6_told 20 = .ok (.bipush 12, 2) := by decide +kernel
theorem dX6_told_22 : decode cX6_told 22 = .ok (.if_icmp .ge 12, 3) := by decide +kernel
theorem dX6_told_25 : decode cX6_told 25 = .ok (.aload_n 0, 1) := by decide +kernel
theorem dX6_told_26 : decode cX6_told 26 = .ok (.getfield 47, 3) := by decide +kernel
theorem dX6_told_29 : decode cX6_told 29 = .ok (.iload_n 1, 1) := by decide +kernel
theorem dX6_told_30 : decode cX6_told 30 = .ok (.iaload, 1) := by decide +kernel
theorem dX6_told_31 : decode cX6_told 31 = .ok (.goto 5, 3) := by decide +kernel
theorem dX6_told_34 : decode cX6_told 34 = .ok (.bipush (-4), 2) := by decide +kernel
theorem dX6_told_36 : decode cX6_told 36 = .ok (.ireturn, 1) := by decide +kernel
theorem dX6_takenByFills_0 : decode cX6_takenByFills 0 = .ok (.iconst 0, 1) := by decide +kernel
theorem dX6_takenByFills_1 : decode cX6_takenByFills 1 = .ok (.istore_n 1, 1) := by decide +kernel
theorem dX6_takenByFills_2 : decode cX6_takenByFills 2 = .ok (.iconst 0, 1) := by decide +kernel
theorem dX6_takenByFills_3 : decode cX6_takenByFills 3 = .ok (.istore_n 2, 1) := by decide +kernel
theorem dX6_takenByFills_4 : decode cX6_takenByFills 4 = .ok (.iload_n 2, 1) := by decide +kernel
theorem dX6_takenByFills_5 : decode cX6_takenByFills 5 = .ok (.aload_n 0, 1) := by decide +kernel
theorem dX6_takenByFills_6 : decode cX6_takenByFills 6 = .ok (.getfield 34, 3) := by decide +kernel
theorem dX6_takenByFills_9 : decode cX6_takenByFills 9 = .ok (.if_icmp .ge 37, 3) := by decide +kernel
theorem dX6_takenByFills_12 : decode cX6_takenByFills 12 = .ok (.aload_n 0, 1) := by decide +kernel
theorem dX6_takenByFills_13 : decode cX6_takenByFills 13 = .ok (.getfield 28, 3) := by decide +kernel
theorem dX6_takenByFills_16 : decode cX6_takenByFills 16 = .ok (.iload_n 2, 1) := by decide +kernel
theorem dX6_takenByFills_17 : decode cX6_takenByFills 17 = .ok (.iaload, 1) := by decide +kernel
theorem dX6_takenByFills_18 : decode cX6_takenByFills 18 = .ok (.aload_n 0, 1) := by decide +kernel
theorem dX6_takenByFills_19 : decode cX6_takenByFills 19 = .ok (.getfield 38, 3) := by decide +kernel
theorem dX6_takenByFills_22 : decode cX6_takenByFills 22 = .ok (.if_icmp .ne 18, 3) := by decide +kernel
theorem dX6_takenByFills_25 : decode cX6_takenByFills 25 = .ok (.aload_n 0, 1) := by decide +kernel
theorem dX6_takenByFills_26 : decode cX6_takenByFills 26 = .ok (.getfield 31, 3) := by decide +kernel
theorem dX6_takenByFills_29 : decode cX6_takenByFills 29 = .ok (.iload_n 1, 1) := by decide +kernel
theorem dX6_takenByFills_30 : decode cX6_takenByFills 30 = .ok (.aload_n 0, 1) := by decide +kernel
theorem dX6_takenByFills_31 : decode cX6_takenByFills 31 = .ok (.getfield 25, 3) := by decide +kernel
theorem dX6_takenByFills_34 : decode cX6_takenByFills 34 = .ok (.iload_n 2, 1) := by decide +kernel
theorem dX6_takenByFills_35 : decode cX6_takenByFills 35 = .ok (.iaload, 1) := by decide +kernel
theorem dX6_takenByFills_36 : decode cX6_takenByFills 36 = .ok (.iastore, 1) := by decide +kernel
theorem dX6_takenByFills_37 : decode cX6_takenByFills 37 = .ok (.iinc 1 1, 3) := by decide +kernel
theorem dX6_takenByFills_40 : decode cX6_takenByFills 40 = .ok (.iinc 2 1, 3) := by decide +kernel
theorem dX6_takenByFills_43 : decode cX6_takenByFills 43 = .ok (.goto (-39), 3) := by decide +kernel
theorem dX6_takenByFills_46 : decode cX6_takenByFills 46 = .ok (.iload_n 1, 1) := by decide +kernel
theorem dX6_takenByFills_47 : decode cX6_takenByFills 47 = .ok (.newarray .int, 2) := by decide +kernel
theorem dX6_takenByFills_49 : decode cX6_takenByFills 49 = .ok (.astore_n 2, 1) := by decide +kernel
theorem dX6_takenByFills_50 : decode cX6_takenByFills 50 = .ok (.aload_n 0, 1) := by decide +kernel
theorem dX6_takenByFills_51 : decode cX6_takenByFills 51 = .ok (.getfield 31, 3) := by decide +kernel
theorem dX6_takenByFills_54 : decode cX6_takenByFills 54 = .ok (.iconst 0, 1) := by decide +kernel
theorem dX6_takenByFills_55 : decode cX6_takenByFills 55 = .ok (.aload_n 2, 1) := by decide +kernel
theorem dX6_takenByFills_56 : decode cX6_takenByFills 56 = .ok (.iconst 0, 1) := by decide +kernel
theorem dX6_takenByFills_57 : decode cX6_takenByFills 57 = .ok (.iload_n 1, 1) := by decide +kernel
theorem dX6_takenByFills_58 : decode cX6_takenByFills 58 = .ok (.invokestatic 108, 3) := by decide +kernel
theorem dX6_takenByFills_61 : decode cX6_takenByFills 61 = .ok (.aload_n 2, 1) := by decide +kernel
theorem dX6_takenByFills_62 : decode cX6_takenByFills 62 = .ok (.areturn, 1) := by decide +kernel
set_option maxRecDepth 20000 in
theorem ggX6_settle_X6_nothing : GoodIn wsX6_settle wsX6_nothing := goodIn_r _ [15, 1, 16, 46, 47, 48, 49, 50, 51, 52, 53, 54, 55, 56, 57, 58, 59] (by decide +kernel) (by decide +kernel)
set_option maxRecDepth 20000 in
theorem gX6_settle_X6_nothing : GoodIn wsX6_settle (wsV RX6 114 RX6 yX6_nothing wsX6_nothing) := goodIn_app (goodIn_of _ (by decide +kernel)) ggX6_settle_X6_nothing
set_option maxRecDepth 20000 in
theorem ggX6_settle_X6_valueThrough : GoodIn wsX6_settle wsX6_valueThrough := goodIn_r _ [20, 21, 4, 22, 23, 1, 24, 25, 10, 26, 27, 28, 29, 14, 30, 31, 32, 33, 34, 35, 36, 11, 12, 13, 15, 16, 37, 38, 39, 40, 2, 41, 42, 43, 44, 45, 3, 46, 47, 48, 49, 50, 51, 52, 53, 54, 55, 56, 57, 58, 59, 60, 61, 62, 63, 64, 65, 66, 67, 68] (by decide +kernel) (by decide +kernel)
set_option maxRecDepth 20000 in
theorem gX6_settle_X6_valueThrough : GoodIn wsX6_settle (wsV RX6 118 RX6 yX6_valueThrough wsX6_valueThrough) := goodIn_app (goodIn_of _ (by decide +kernel)) ggX6_settle_X6_valueThrough
theorem dX6_settle_0 : decode cX6_settle 0 = .ok (.aload_n 0, 1) := by decide +kernel
theorem dX6_settle_1 : decode cX6_settle 1 = .ok (.iload_n 1, 1) := by decide +kernel
theorem dX6_settle_2 : decode cX6_settle 2 = .ok (.putfield 41, 3) := by decide +kernel
theorem dX6_settle_5 : decode cX6_settle 5 = .ok (.aload_n 0, 1) := by decide +kernel
theorem dX6_settle_6 : decode cX6_settle 6 = .ok (.iload_n 2, 1) := by decide +kernel
theorem dX6_settle_7 : decode cX6_settle 7 = .ok (.putfield 44, 3) := by decide +kernel
theorem dX6_settle_10 : decode cX6_settle 10 = .ok (.aload_n 0, 1) := by decide +kernel
theorem dX6_settle_11 : decode cX6_settle 11 = .ok (.getfield 34, 3) := by decide +kernel
theorem dX6_settle_14 : decode cX6_settle 14 = .ok (.iconst 1, 1) := by decide +kernel
theorem dX6_settle_15 : decode cX6_settle 15 = .ok (.isub, 1) := by decide +kernel
theorem dX6_settle_16 : decode cX6_settle 16 = .ok (.istore_n 3, 1) := by decide +kernel
theorem dX6_settle_17 : decode cX6_settle 17 = .ok (.iload_n 3, 1) := by decide +kernel
theorem dX6_settle_18 : decode cX6_settle 18 = .ok (.ifCond .lt 77, 3) := by decide +kernel
theorem dX6_settle_21 : decode cX6_settle 21 = .ok (.aload_n 0, 1) := by decide +kernel
theorem dX6_settle_22 : decode cX6_settle 22 = .ok (.invokevirtual 114, 3) := by decide +kernel
theorem dX6_settle_25 : decode cX6_settle 25 = .ok (.istore 4, 2) := by decide +kernel
theorem dX6_settle_27 : decode cX6_settle 27 = .ok (.iconst 0, 1) := by decide +kernel
theorem dX6_settle_28 : decode cX6_settle 28 = .ok (.istore 5, 2) := by decide +kernel
theorem dX6_settle_30 : decode cX6_settle 30 = .ok (.iload 5, 2) := by decide +kernel
theorem dX6_settle_32 : decode cX6_settle 32 = .ok (.aload_n 0, 1) := by decide +kernel
theorem dX6_settle_33 : decode cX6_settle 33 = .ok (.getfield 53, 3) := by decide +kernel
theorem dX6_settle_36 : decode cX6_settle 36 = .ok (.getfield 76, 3) := by decide +kernel
theorem dX6_settle_39 : decode cX6_settle 39 = .ok (.if_icmp .ge 42, 3) := by decide +kernel
theorem dX6_settle_42 : decode cX6_settle 42 = .ok (.aload_n 0, 1) := by decide +kernel
theorem dX6_settle_43 : decode cX6_settle 43 = .ok (.iload_n 3, 1) := by decide +kernel
theorem dX6_settle_44 : decode cX6_settle 44 = .ok (.iload 5, 2) := by decide +kernel
theorem dX6_settle_46 : decode cX6_settle 46 = .ok (.invokevirtual 118, 3) := by decide +kernel
theorem dX6_settle_49 : decode cX6_settle 49 = .ok (.istore 6, 2) := by decide +kernel
theorem dX6_settle_51 : decode cX6_settle 51 = .ok (.aload_n 0, 1) := by decide +kernel
theorem dX6_settle_52 : decode cX6_settle 52 = .ok (.getfield 41, 3) := by decide +kernel
theorem dX6_settle_55 : decode cX6_settle 55 = .ok (.ifCond .ne 11, 3) := by decide +kernel
theorem dX6_settle_58 : decode cX6_settle 58 = .ok (.iload 4, 2) := by decide +kernel
theorem dX6_settle_60 : decode cX6_settle 60 = .ok (.iload 6, 2) := by decide +kernel
theorem dX6_settle_62 : decode cX6_settle 62 = .ok (.iadd, 1) := by decide +kernel
theorem dX6_settle_63 : decode cX6_settle 63 = .ok (.goto 10, 3) := by decide +kernel
theorem dX6_settle_66 : decode cX6_settle 66 = .ok (.iload 4, 2) := by decide +kernel
theorem dX6_settle_68 : decode cX6_settle 68 = .ok (.iload 6, 2) := by decide +kernel
theorem dX6_settle_70 : decode cX6_settle 70 = .ok (.invokestatic 57, 3) := by decide +kernel
theorem dX6_settle_73 : decode cX6_settle 73 = .ok (.istore 4, 2) := by decide +kernel
theorem dX6_settle_75 : decode cX6_settle 75 = .ok (.iinc 5 1, 3) := by decide +kernel
theorem dX6_settle_78 : decode cX6_settle 78 = .ok (.goto (-48), 3) := by decide +kernel
theorem dX6_settle_81 : decode cX6_settle 81 = .ok (.aload_n 0, 1) := by decide +kernel
theorem dX6_settle_82 : decode cX6_settle 82 = .ok (.getfield 31, 3) := by decide +kernel
theorem dX6_settle_85 : decode cX6_settle 85 = .ok (.iload_n 3, 1) := by decide +kernel
theorem dX6_settle_86 : decode cX6_settle 86 = .ok (.iload 4, 2) := by decide +kernel
theorem dX6_settle_88 : decode cX6_settle 88 = .ok (.iastore, 1) := by decide +kernel
theorem dX6_settle_89 : decode cX6_settle 89 = .ok (.iinc 3 (-1), 3) := by decide +kernel
theorem dX6_settle_92 : decode cX6_settle 92 = .ok (.goto (-75), 3) := by decide +kernel
theorem dX6_settle_95 : decode cX6_settle 95 = .ok (.aload_n 0, 1) := by decide +kernel
theorem dX6_settle_96 : decode cX6_settle 96 = .ok (.getfield 31, 3) := by decide +kernel
theorem dX6_settle_99 : decode cX6_settle 99 = .ok (.iconst 0, 1) := by decide +kernel
theorem dX6_settle_100 : decode cX6_settle 100 = .ok (.iaload, 1) := by decide +kernel
theorem dX6_settle_101 : decode cX6_settle 101 = .ok (.ireturn, 1) := by decide +kernel
theorem dX6_nothing_0 : decode cX6_nothing 0 = .ok (.aload_n 0, 1) := by decide +kernel
theorem dX6_nothing_1 : decode cX6_nothing 1 = .ok (.getfield 41, 3) := by decide +kernel
theorem dX6_nothing_4 : decode cX6_nothing 4 = .ok (.ifCond .ne 7, 3) := by decide +kernel
theorem dX6_nothing_7 : decode cX6_nothing 7 = .ok (.iconst 0, 1) := by decide +kernel
theorem dX6_nothing_8 : decode cX6_nothing 8 = .ok (.goto 5, 3) := by decide +kernel
theorem dX6_nothing_11 : decode cX6_nothing 11 = .ok (.ldc 107, 2) := by decide +kernel
theorem dX6_nothing_13 : decode cX6_nothing 13 = .ok (.ireturn, 1) := by decide +kernel
set_option maxRecDepth 20000 in
theorem ggX6_valueThrough_X6_hasLeft : GoodIn wsX6_valueThrough wsX6_hasLeft := goodIn_r _ [14, 15, 2, 16, 17, 18, 19, 20, 37, 38, 39, 40, 41, 42, 43, 44, 45, 46, 47, 48, 49, 50, 51, 52, 53, 54, 55, 56, 57, 58, 59] (by decide +kernel) (by decide +kernel)
set_option maxRecDepth 20000 in
theorem gX6_valueThrough_X6_hasLeft : GoodIn wsX6_valueThrough (wsV RX6 82 RX6 yX6_hasLeft wsX6_hasLeft) := goodIn_app (goodIn_of _ (by decide +kernel)) ggX6_valueThrough_X6_hasLeft
set_option maxRecDepth 20000 in
theorem ggX6_valueThrough_X6_nothing : GoodIn wsX6_valueThrough wsX6_nothing := goodIn_r _ [24, 5, 25, 37, 38, 39, 40, 41, 42, 43, 44, 45, 46, 47, 48, 49, 50] (by decide +kernel) (by decide +kernel)
set_option maxRecDepth 20000 in
theorem gX6_valueThrough_X6_nothing : GoodIn wsX6_valueThrough (wsV RX6 114 RX6 yX6_nothing wsX6_nothing) := goodIn_app (goodIn_of _ (by decide +kernel)) ggX6_valueThrough_X6_nothing
set_option maxRecDepth 20000 in
theorem ggX6_valueThrough_X6_valueAtEnd : GoodIn wsX6_valueThrough wsX6_valueAtEnd := goodIn_r _ [29, 5, 30, 2, 9, 25, 37, 38, 39, 40, 41, 42, 43, 44, 45, 46, 47, 48, 49, 50, 51, 52, 53, 54, 55, 56, 57, 58, 59] (by decide +kernel) (by decide +kernel)
set_option maxRecDepth 20000 in
theorem gX6_valueThrough_X6_valueAtEnd : GoodIn wsX6_valueThrough (wsV RX6 121 RX6 yX6_valueAtEnd wsX6_valueAtEnd) := goodIn_app (goodIn_of _ (by decide +kernel)) ggX6_valueThrough_X6_valueAtEnd
set_option maxRecDepth 20000 in
theorem ggX6_valueThrough_X6_stateAt : GoodIn wsX6_valueThrough wsX6_stateAt := goodIn_r _ [34, 35, 36, 6, 37, 38, 39, 40, 41, 42, 43, 44, 45, 46, 47, 48, 49, 50] (by decide +kernel) (by decide +kernel)
set_option maxRecDepth 20000 in
theorem gX6_valueThrough_X6_stateAt : GoodIn wsX6_valueThrough (wsV RX6 93 RX6 yX6_stateAt wsX6_stateAt) := goodIn_app (goodIn_of _ (by decide +kernel)) ggX6_valueThrough_X6_stateAt
theorem dX6_valueThrough_0 : decode cX6_valueThrough 0 = .ok (.aload_n 0, 1) := by decide +kernel
theorem dX6_valueThrough_1 : decode cX6_valueThrough 1 = .ok (.getfield 28, 3) := by decide +kernel
theorem dX6_valueThrough_4 : decode cX6_valueThrough 4 = .ok (.iload_n 1, 1) := by decide +kernel
theorem dX6_valueThrough_5 : decode cX6_valueThrough 5 = .ok (.iaload, 1) := by decide +kernel
theorem dX6_valueThrough_6 : decode cX6_valueThrough 6 = .ok (.aload_n 0, 1) := by decide +kernel
theorem dX6_valueThrough_7 : decode cX6_valueThrough 7 = .ok (.getfield 53, 3) := by decide +kernel
theorem dX6_valueThrough_10 : decode cX6_valueThrough 10 = .ok (.getfield 79, 3) := by decide +kernel
theorem dX6_valueThrough_13 : decode cX6_valueThrough 13 = .ok (.iload_n 2, 1) := by decide +kernel
theorem dX6_valueThrough_14 : decode cX6_valueThrough 14 = .ok (.iaload, 1) := by decide +kernel
theorem dX6_valueThrough_15 : decode cX6_valueThrough 15 = .ok (.iadd, 1) := by decide +kernel
theorem dX6_valueThrough_16 : decode cX6_valueThrough 16 = .ok (.istore_n 3, 1) := by decide +kernel
theorem dX6_valueThrough_17 : decode cX6_valueThrough 17 = .ok (.aload_n 0, 1) := by decide +kernel
theorem dX6_valueThrough_18 : decode cX6_valueThrough 18 = .ok (.iload_n 1, 1) := by decide +kernel
theorem dX6_valueThrough_19 : decode cX6_valueThrough 19 = .ok (.iload_n 2, 1) := by decide +kernel
theorem dX6_valueThrough_20 : decode cX6_valueThrough 20 = .ok (.invokevirtual 82, 3) := by decide +kernel
theorem dX6_valueThrough_23 : decode cX6_valueThrough 23 = .ok (.ifCond .ne 8, 3) := by decide +kernel
theorem dX6_valueThrough_26 : decode cX6_valueThrough 26 = .ok (.aload_n 0, 1) := by decide +kernel
theorem dX6_valueThrough_27 : decode cX6_valueThrough 27 = .ok (.invokevirtual 114, 3) := by decide +kernel
theorem dX6_valueThrough_30 : decode cX6_valueThrough 30 = .ok (.ireturn, 1) := by decide +kernel
theorem dX6_valueThrough_31 : decode cX6_valueThrough 31 = .ok (.iload_n 3, 1) := by decide +kernel
theorem dX6_valueThrough_32 : decode cX6_valueThrough 32 = .ok (.aload_n 0, 1) := by decide +kernel
theorem dX6_valueThrough_33 : decode cX6_valueThrough 33 = .ok (.getfield 38, 3) := by decide +kernel
theorem dX6_valueThrough_36 : decode cX6_valueThrough 36 = .ok (.if_icmp .le 25, 3) := by decide +kernel
theorem dX6_valueThrough_39 : decode cX6_valueThrough 39 = .ok (.aload_n 0, 1) := by decide +kernel
theorem dX6_valueThrough_40 : decode cX6_valueThrough 40 = .ok (.getfield 41, 3) := by decide +kernel
theorem dX6_valueThrough_43 : decode cX6_valueThrough 43 = .ok (.iconst 2, 1) := by decide +kernel
theorem dX6_valueThrough_44 : decode cX6_valueThrough 44 = .ok (.if_icmp .ne 12, 3) := by decide +kernel
theorem dX6_valueThrough_47 : decode cX6_valueThrough 47 = .ok (.iload_n 3, 1) := by decide +kernel
theorem dX6_valueThrough_48 : decode cX6_valueThrough 48 = .ok (.aload_n 0, 1) := by decide +kernel
theorem dX6_valueThrough_49 : decode cX6_valueThrough 49 = .ok (.getfield 38, 3) := by decide +kernel
theorem dX6_valueThrough_52 : decode cX6_valueThrough 52 = .ok (.isub, 1) := by decide +kernel
theorem dX6_valueThrough_53 : decode cX6_valueThrough 53 = .ok (.goto 7, 3) := by decide +kernel
theorem dX6_valueThrough_56 : decode cX6_valueThrough 56 = .ok (.aload_n 0, 1) := by decide +kernel
theorem dX6_valueThrough_57 : decode cX6_valueThrough 57 = .ok (.invokevirtual 114, 3) := by decide +kernel
theorem dX6_valueThrough_60 : decode cX6_valueThrough 60 = .ok (.ireturn, 1) := by decide +kernel
theorem dX6_valueThrough_61 : decode cX6_valueThrough 61 = .ok (.iload_n 3, 1) := by decide +kernel
theorem dX6_valueThrough_62 : decode cX6_valueThrough 62 = .ok (.aload_n 0, 1) := by decide +kernel
theorem dX6_valueThrough_63 : decode cX6_valueThrough 63 = .ok (.getfield 38, 3) := by decide +kernel
theorem dX6_valueThrough_66 : decode cX6_valueThrough 66 = .ok (.if_icmp .ne 9, 3) := by decide +kernel
theorem dX6_valueThrough_69 : decode cX6_valueThrough 69 = .ok (.aload_n 0, 1) := by decide +kernel
theorem dX6_valueThrough_70 : decode cX6_valueThrough 70 = .ok (.iload_n 2, 1) := by decide +kernel
theorem dX6_valueThrough_71 : decode cX6_valueThrough 71 = .ok (.invokevirtual 121, 3) := by decide +kernel
theorem dX6_valueThrough_74 : decode cX6_valueThrough 74 = .ok (.ireturn, 1) := by decide +kernel
theorem dX6_valueThrough_75 : decode cX6_valueThrough 75 = .ok (.aload_n 0, 1) := by decide +kernel
theorem dX6_valueThrough_76 : decode cX6_valueThrough 76 = .ok (.aload_n 0, 1) := by decide +kernel
theorem dX6_valueThrough_77 : decode cX6_valueThrough 77 = .ok (.getfield 22, 3) := by decide +kernel
theorem dX6_valueThrough_80 : decode cX6_valueThrough 80 = .ok (.iload_n 1, 1) := by decide +kernel
theorem dX6_valueThrough_81 : decode cX6_valueThrough 81 = .ok (.iaload, 1) := by decide +kernel
theorem dX6_valueThrough_82 : decode cX6_valueThrough 82 = .ok (.aload_n 0, 1) := by decide +kernel
theorem dX6_valueThrough_83 : decode cX6_valueThrough 83 = .ok (.getfield 15, 3) := by decide +kernel
theorem dX6_valueThrough_86 : decode cX6_valueThrough 86 = .ok (.iload_n 2, 1) := by decide +kernel
theorem dX6_valueThrough_87 : decode cX6_valueThrough 87 = .ok (.iaload, 1) := by decide +kernel
theorem dX6_valueThrough_88 : decode cX6_valueThrough 88 = .ok (.iadd, 1) := by decide +kernel
theorem dX6_valueThrough_89 : decode cX6_valueThrough 89 = .ok (.invokevirtual 93, 3) := by decide +kernel
theorem dX6_valueThrough_92 : decode cX6_valueThrough 92 = .ok (.istore 4, 2) := by decide +kernel
theorem dX6_valueThrough_94 : decode cX6_valueThrough 94 = .ok (.iload 4, 2) := by decide +kernel
theorem dX6_valueThrough_96 : decode cX6_valueThrough 96 = .ok (.ifCond .ge 8, 3) := by decide +kernel
theorem dX6_valueThrough_99 : decode cX6_valueThrough 99 = .ok (.aload_n 0, 1) := by decide +kernel
theorem dX6_valueThrough_100 : decode cX6_valueThrough 100 = .ok (.invokevirtual 114, 3) := by decide +kernel
theorem dX6_valueThrough_103 : decode cX6_valueThrough 103 = .ok (.ireturn, 1) := by decide +kernel
theorem dX6_valueThrough_104 : decode cX6_valueThrough 104 = .ok (.aload_n 0, 1) := by decide +kernel
theorem dX6_valueThrough_105 : decode cX6_valueThrough 105 = .ok (.getfield 41, 3) := by decide +kernel
theorem dX6_valueThrough_108 : decode cX6_valueThrough 108 = .ok (.iconst 1, 1) := by decide +kernel
theorem dX6_valueThrough_109 : decode cX6_valueThrough 109 = .ok (.if_icmp .ne 23, 3) := by decide +kernel
theorem dX6_valueThrough_112 : decode cX6_valueThrough 112 = .ok (.aload_n 0, 1) := by decide +kernel
theorem dX6_valueThrough_113 : decode cX6_valueThrough 113 = .ok (.getfield 31, 3) := by decide +kernel
theorem dX6_valueThrough_116 : decode cX6_valueThrough 116 = .ok (.iload 4, 2) := by decide +kernel
theorem dX6_valueThrough_118 : decode cX6_valueThrough 118 = .ok (.iaload, 1) := by decide +kernel
theorem dX6_valueThrough_119 : decode cX6_valueThrough 119 = .ok (.aload_n 0, 1) := by decide +kernel
theorem dX6_valueThrough_120 : decode cX6_valueThrough 120 = .ok (.getfield 53, 3) := by decide +kernel
theorem dX6_valueThrough_123 : decode cX6_valueThrough 123 = .ok (.getfield 124, 3) := by decide +kernel
theorem dX6_valueThrough_126 : decode cX6_valueThrough 126 = .ok (.iload_n 2, 1) := by decide +kernel
theorem dX6_valueThrough_127 : decode cX6_valueThrough 127 = .ok (.iaload, 1) := by decide +kernel
theorem dX6_valueThrough_128 : decode cX6_valueThrough 128 = .ok (.iadd, 1) := by decide +kernel
theorem dX6_valueThrough_129 : decode cX6_valueThrough 129 = .ok (.goto 10, 3) := by decide +kernel
theorem dX6_valueThrough_132 : decode cX6_valueThrough 132 = .ok (.aload_n 0, 1) := by decide +kernel
theorem dX6_valueThrough_133 : decode cX6_valueThrough 133 = .ok (.getfield 31, 3) := by decide +kernel
theorem dX6_valueThrough_136 : decode cX6_valueThrough 136 = .ok (.iload 4, 2) := by decide +kernel
theorem dX6_valueThrough_138 : decode cX6_valueThrough 138 = .ok (.iaload, 1) := by decide +kernel
theorem dX6_valueThrough_139 : decode cX6_valueThrough 139 = .ok (.ireturn, 1) := by decide +kernel
theorem dX6_valueAtEnd_0 : decode cX6_valueAtEnd 0 = .ok (.aload_n 0, 1) := by decide +kernel
theorem dX6_valueAtEnd_1 : decode cX6_valueAtEnd 1 = .ok (.getfield 41, 3) := by decide +kernel
theorem dX6_valueAtEnd_4 : decode cX6_valueAtEnd 4 = .ok (.lookupswitch 60 #[(0, 28), (1, 50)], 28) := by decide +kernel
theorem dX6_valueAtEnd_32 : decode cX6_valueAtEnd 32 = .ok (.aload_n 0, 1) := by decide +kernel
theorem dX6_valueAtEnd_33 : decode cX6_valueAtEnd 33 = .ok (.getfield 44, 3) := by decide +kernel
theorem dX6_valueAtEnd_36 : decode cX6_valueAtEnd 36 = .ok (.iconst (-1), 1) := by decide +kernel
theorem dX6_valueAtEnd_37 : decode cX6_valueAtEnd 37 = .ok (.if_icmp .eq 11, 3) := by decide +kernel
theorem dX6_valueAtEnd_40 : decode cX6_valueAtEnd 40 = .ok (.aload_n 0, 1) := by decide +kernel
theorem dX6_valueAtEnd_41 : decode cX6_valueAtEnd 41 = .ok (.getfield 44, 3) := by decide +kernel
theorem dX6_valueAtEnd_44 : decode cX6_valueAtEnd 44 = .ok (.iload_n 1, 1) := by decide +kernel
theorem dX6_valueAtEnd_45 : decode cX6_valueAtEnd 45 = .ok (.if_icmp .ne 7, 3) := by decide +kernel
theorem dX6_valueAtEnd_48 : decode cX6_valueAtEnd 48 = .ok (.iconst 1, 1) := by decide +kernel
theorem dX6_valueAtEnd_49 : decode cX6_valueAtEnd 49 = .ok (.goto 4, 3) := by decide +kernel
theorem dX6_valueAtEnd_52 : decode cX6_valueAtEnd 52 = .ok (.iconst 0, 1) := by decide +kernel
theorem dX6_valueAtEnd_53 : decode cX6_valueAtEnd 53 = .ok (.ireturn, 1) := by decide +kernel
theorem dX6_valueAtEnd_54 : decode cX6_valueAtEnd 54 = .ok (.aload_n 0, 1) := by decide +kernel
theorem dX6_valueAtEnd_55 : decode cX6_valueAtEnd 55 = .ok (.getfield 53, 3) := by decide +kernel
theorem dX6_valueAtEnd_58 : decode cX6_valueAtEnd 58 = .ok (.getfield 124, 3) := by decide +kernel
theorem dX6_valueAtEnd_61 : decode cX6_valueAtEnd 61 = .ok (.iload_n 1, 1) := by decide +kernel
theorem dX6_valueAtEnd_62 : decode cX6_valueAtEnd 62 = .ok (.iaload, 1) := by decide +kernel
theorem dX6_valueAtEnd_63 : decode cX6_valueAtEnd 63 = .ok (.ireturn, 1) := by decide +kernel
theorem dX6_valueAtEnd_64 : decode cX6_valueAtEnd 64 = .ok (.ldc 107, 2) := by decide +kernel
theorem dX6_valueAtEnd_66 : decode cX6_valueAtEnd 66 = .ok (.ireturn, 1) := by decide +kernel
set_option maxRecDepth 20000 in
theorem ggX6_follow_X6_firstWidthFrom : GoodIn wsX6_follow wsX6_firstWidthFrom := goodIn_r _ [13, 4, 14, 15, 16, 17, 18, 19, 20, 12, 21, 3, 5, 6, 7, 8, 22, 23, 24, 25, 26, 27, 28, 29, 30, 31, 32, 33, 34, 35, 36, 37, 38, 39, 40, 41, 42, 43, 44, 45, 46, 47, 48, 49, 50, 51, 52, 53, 54, 55, 56, 57, 58, 59, 60, 61, 62, 63, 64, 65, 66, 67, 68, 69, 70] (by decide +kernel) (by decide +kernel)
set_option maxRecDepth 20000 in
theorem gX6_follow_X6_firstWidthFrom : GoodIn wsX6_follow (wsV RX6 127 RX6 yX6_firstWidthFrom wsX6_firstWidthFrom) := goodIn_app (goodIn_of _ (by decide +kernel)) ggX6_follow_X6_firstWidthFrom
set_option maxRecDepth 20000 in
theorem ggX6_follow_X6_stateAt : GoodIn wsX6_follow wsX6_stateAt := goodIn_r _ [45, 46, 47, 7, 48, 49, 50, 51, 52, 53, 54, 55, 56, 57, 58, 59, 60, 61] (by decide +kernel) (by decide +kernel)
set_option maxRecDepth 20000 in
theorem gX6_follow_X6_stateAt : GoodIn wsX6_follow (wsV RX6 93 RX6 yX6_stateAt wsX6_stateAt) := goodIn_app (goodIn_of _ (by decide +kernel)) ggX6_follow_X6_stateAt
theorem dX6_follow_0 : decode cX6_follow 0 = .ok (.iconst 0, 1) := by decide +kernel
theorem dX6_follow_1 : decode cX6_follow 1 = .ok (.istore_n 1, 1) := by decide +kernel
theorem dX6_follow_2 : decode cX6_follow 2 = .ok (.aload_n 0, 1) := by decide +kernel
theorem dX6_follow_3 : decode cX6_follow 3 = .ok (.iconst 0, 1) := by decide +kernel
theorem dX6_follow_4 : decode cX6_follow 4 = .ok (.putfield 50, 3) := by decide +kernel
theorem dX6_follow_7 : decode cX6_follow 7 = .ok (.aload_n 0, 1) := by decide +kernel
theorem dX6_follow_8 : decode cX6_follow 8 = .ok (.getfield 50, 3) := by decide +kernel
theorem dX6_follow_11 : decode cX6_follow 11 = .ok (.bipush 12, 2) := by decide +kernel
theorem dX6_follow_13 : decode cX6_follow 13 = .ok (.if_icmp .ge 87, 3) := by decide +kernel
theorem dX6_follow_16 : decode cX6_follow 16 = .ok (.iload_n 1, 1) := by decide +kernel
theorem dX6_follow_17 : decode cX6_follow 17 = .ok (.ifCond .lt 83, 3) := by decide +kernel
theorem dX6_follow_20 : decode cX6_follow 20 = .ok (.aload_n 0, 1) := by decide +kernel
theorem dX6_follow_21 : decode cX6_follow 21 = .ok (.iload_n 1, 1) := by decide +kernel
theorem dX6_follow_22 : decode cX6_follow 22 = .ok (.invokevirtual 127, 3) := by decide +kernel
theorem dX6_follow_25 : decode cX6_follow 25 = .ok (.istore_n 2, 1) := by decide +kernel
theorem dX6_follow_26 : decode cX6_follow 26 = .ok (.iload_n 2, 1) := by decide +kernel
theorem dX6_follow_27 : decode cX6_follow 27 = .ok (.ifCond .ge 5, 3) := by decide +kernel
theorem dX6_follow_30 : decode cX6_follow 30 = .ok (.iconst 0, 1) := by decide +kernel
theorem dX6_follow_31 : decode cX6_follow 31 = .ok (.ireturn, 1) := by decide +kernel
theorem dX6_follow_32 : decode cX6_follow 32 = .ok (.aload_n 0, 1) := by decide +kernel
theorem dX6_follow_33 : decode cX6_follow 33 = .ok (.getfield 47, 3) := by decide +kernel
theorem dX6_follow_36 : decode cX6_follow 36 = .ok (.aload_n 0, 1) := by decide +kernel
theorem dX6_follow_37 : decode cX6_follow 37 = .ok (.getfield 50, 3) := by decide +kernel
theorem dX6_follow_40 : decode cX6_follow 40 = .ok (.iload_n 2, 1) := by decide +kernel
theorem dX6_follow_41 : decode cX6_follow 41 = .ok (.iastore, 1) := by decide +kernel
theorem dX6_follow_42 : decode cX6_follow 42 = .ok (.aload_n 0, 1) := by decide +kernel
theorem dX6_follow_43 : decode cX6_follow 43 = .ok (.getfield 28, 3) := by decide +kernel
theorem dX6_follow_46 : decode cX6_follow 46 = .ok (.iload_n 1, 1) := by decide +kernel
theorem dX6_follow_47 : decode cX6_follow 47 = .ok (.iaload, 1) := by decide +kernel
theorem dX6_follow_48 : decode cX6_follow 48 = .ok (.aload_n 0, 1) := by decide +kernel
theorem dX6_follow_49 : decode cX6_follow 49 = .ok (.getfield 53, 3) := by decide +kernel
theorem dX6_follow_52 : decode cX6_follow 52 = .ok (.getfield 79, 3) := by decide +kernel
theorem dX6_follow_55 : decode cX6_follow 55 = .ok (.iload_n 2, 1) := by decide +kernel
theorem dX6_follow_56 : decode cX6_follow 56 = .ok (.iaload, 1) := by decide +kernel
theorem dX6_follow_57 : decode cX6_follow 57 = .ok (.iadd, 1) := by decide +kernel
theorem dX6_follow_58 : decode cX6_follow 58 = .ok (.aload_n 0, 1) := by decide +kernel
theorem dX6_follow_59 : decode cX6_follow 59 = .ok (.getfield 38, 3) := by decide +kernel
theorem dX6_follow_62 : decode cX6_follow 62 = .ok (.if_icmp .ge 23, 3) := by decide +kernel
theorem dX6_follow_65 : decode cX6_follow 65 = .ok (.aload_n 0, 1) := by decide +kernel
theorem dX6_follow_66 : decode cX6_follow 66 = .ok (.aload_n 0, 1) := by decide +kernel
theorem dX6_follow_67 : decode cX6_follow 67 = .ok (.getfield 22, 3) := by decide +kernel
theorem dX6_follow_70 : decode cX6_follow 70 = .ok (.iload_n 1, 1) := by decide +kernel
theorem dX6_follow_71 : decode cX6_follow 71 = .ok (.iaload, 1) := by decide +kernel
theorem dX6_follow_72 : decode cX6_follow 72 = .ok (.aload_n 0, 1) := by decide +kernel
theorem dX6_follow_73 : decode cX6_follow 73 = .ok (.getfield 15, 3) := by decide +kernel
theorem dX6_follow_76 : decode cX6_follow 76 = .ok (.iload_n 2, 1) := by decide +kernel
theorem dX6_follow_77 : decode cX6_follow 77 = .ok (.iaload, 1) := by decide +kernel
theorem dX6_follow_78 : decode cX6_follow 78 = .ok (.iadd, 1) := by decide +kernel
theorem dX6_follow_79 : decode cX6_follow 79 = .ok (.invokevirtual 93, 3) := by decide +kernel
theorem dX6_follow_82 : decode cX6_follow 82 = .ok (.goto 4, 3) := by decide +kernel
theorem dX6_follow_85 : decode cX6_follow 85 = .ok (.iconst (-1), 1) := by decide +kernel
theorem dX6_follow_86 : decode cX6_follow 86 = .ok (.istore_n 1, 1) := by decide +kernel
theorem dX6_follow_87 : decode cX6_follow 87 = .ok (.aload_n 0, 1) := by decide +kernel
theorem dX6_follow_88 : decode cX6_follow 88 = .ok (.dup, 1) := by decide +kernel
theorem dX6_follow_89 : decode cX6_follow 89 = .ok (.getfield 50, 3) := by decide +kernel
theorem dX6_follow_92 : decode cX6_follow 92 = .ok (.iconst 1, 1) := by decide +kernel
theorem dX6_follow_93 : decode cX6_follow 93 = .ok (.iadd, 1) := by decide +kernel
theorem dX6_follow_94 : decode cX6_follow 94 = .ok (.putfield 50, 3) := by decide +kernel
theorem dX6_follow_97 : decode cX6_follow 97 = .ok (.goto (-90), 3) := by decide +kernel
theorem dX6_follow_100 : decode cX6_follow 100 = .ok (.iload_n 1, 1) := by decide +kernel
theorem dX6_follow_101 : decode cX6_follow 101 = .ok (.ifCond .ge 7, 3) := by decide +kernel
theorem dX6_follow_104 : decode cX6_follow 104 = .ok (.iconst 1, 1) := by decide +kernel
theorem dX6_follow_105 : decode cX6_follow 105 = .ok (.goto 4, 3) := by decide +kernel
theorem dX6_follow_108 : decode cX6_follow 108 = .ok (.iconst 0, 1) := by decide +kernel
theorem dX6_follow_109 : decode cX6_follow 109 = .ok (.ireturn, 1) := by decide +kernel
set_option maxRecDepth 20000 in
theorem ggX6_firstWidthFrom_X6_valueThrough : GoodIn wsX6_firstWidthFrom wsX6_valueThrough := goodIn_r _ [10, 11, 1, 12, 13, 3, 14, 15, 5, 16, 17, 18, 19, 9, 20, 21, 22, 23, 24, 25, 26, 27, 28, 29, 30, 4, 31, 32, 33, 34, 35, 36, 37, 38, 39, 40, 41, 42, 43, 44, 45, 46, 47, 48, 49, 50, 51, 52, 53, 54, 55, 56, 57, 58, 59, 60, 61, 62, 63, 64] (by decide +kernel) (by decide +kernel)
set_option maxRecDepth 20000 in
theorem gX6_firstWidthFrom_X6_valueThrough : GoodIn wsX6_firstWidthFrom (wsV RX6 118 RX6 yX6_valueThrough wsX6_valueThrough) := goodIn_app (goodIn_of _ (by decide +kernel)) ggX6_firstWidthFrom_X6_valueThrough
theorem dX6_firstWidthFrom_0 : decode cX6_firstWidthFrom 0 = .ok (.iconst 0, 1) := by decide +kernel
theorem dX6_firstWidthFrom_1 : decode cX6_firstWidthFrom 1 = .ok (.istore_n 2, 1) := by decide +kernel
theorem dX6_firstWidthFrom_2 : decode cX6_firstWidthFrom 2 = .ok (.iload_n 2, 1) := by decide +kernel
theorem dX6_firstWidthFrom_3 : decode cX6_firstWidthFrom 3 = .ok (.aload_n 0, 1) := by decide +kernel
theorem dX6_firstWidthFrom_4 : decode cX6_firstWidthFrom 4 = .ok (.getfield 53, 3) := by decide +kernel
theorem dX6_firstWidthFrom_7 : decode cX6_firstWidthFrom 7 = .ok (.getfield 76, 3) := by decide +kernel
theorem dX6_firstWidthFrom_10 : decode cX6_firstWidthFrom 10 = .ok (.if_icmp .ge 48, 3) := by decide +kernel
theorem dX6_firstWidthFrom_13 : decode cX6_firstWidthFrom 13 = .ok (.aload_n 0, 1) := by decide +kernel
theorem dX6_firstWidthFrom_14 : decode cX6_firstWidthFrom 14 = .ok (.iload_n 1, 1) := by decide +kernel
theorem dX6_firstWidthFrom_15 : decode cX6_firstWidthFrom 15 = .ok (.iload_n 2, 1) := by decide +kernel
theorem dX6_firstWidthFrom_16 : decode cX6_firstWidthFrom 16 = .ok (.invokevirtual 118, 3) := by decide +kernel
theorem dX6_firstWidthFrom_19 : decode cX6_firstWidthFrom 19 = .ok (.istore_n 3, 1) := by decide +kernel
theorem dX6_firstWidthFrom_20 : decode cX6_firstWidthFrom 20 = .ok (.aload_n 0, 1) := by decide +kernel
theorem dX6_firstWidthFrom_21 : decode cX6_firstWidthFrom 21 = .ok (.getfield 41, 3) := by decide +kernel
theorem dX6_firstWidthFrom_24 : decode cX6_firstWidthFrom 24 = .ok (.ifCond .ne 10, 3) := by decide +kernel
theorem dX6_firstWidthFrom_27 : decode cX6_firstWidthFrom 27 = .ok (.iload_n 3, 1) := by decide +kernel
theorem dX6_firstWidthFrom_28 : decode cX6_firstWidthFrom 28 = .ok (.ifCond .le 24, 3) := by decide +kernel
theorem dX6_firstWidthFrom_31 : decode cX6_firstWidthFrom 31 = .ok (.goto 19, 3) := by decide +kernel
theorem dX6_firstWidthFrom_34 : decode cX6_firstWidthFrom 34 = .ok (.iload_n 3, 1) := by decide +kernel
theorem dX6_firstWidthFrom_35 : decode cX6_firstWidthFrom 35 = .ok (.ldc 107, 2) := by decide +kernel
theorem dX6_firstWidthFrom_37 : decode cX6_firstWidthFrom 37 = .ok (.if_icmp .ge 15, 3) := by decide +kernel
theorem dX6_firstWidthFrom_40 : decode cX6_firstWidthFrom 40 = .ok (.iload_n 3, 1) := by decide +kernel
theorem dX6_firstWidthFrom_41 : decode cX6_firstWidthFrom 41 = .ok (.aload_n 0, 1) := by decide +kernel
theorem dX6_firstWidthFrom_42 : decode cX6_firstWidthFrom 42 = .ok (.getfield 31, 3) := by decide +kernel
theorem dX6_firstWidthFrom_45 : decode cX6_firstWidthFrom 45 = .ok (.iload_n 1, 1) := by decide +kernel
theorem dX6_firstWidthFrom_46 : decode cX6_firstWidthFrom 46 = .ok (.iaload, 1) := by decide +kernel
theorem dX6_firstWidthFrom_47 : decode cX6_firstWidthFrom 47 = .ok (.if_icmp .ne 5, 3) := by decide +kernel
theorem dX6_firstWidthFrom_50 : decode cX6_firstWidthFrom 50 = .ok (.iload_n 2, 1) := by decide +kernel
theorem dX6_firstWidthFrom_51 : decode cX6_firstWidthFrom 51 = .ok (.ireturn, 1) := by decide +kernel
theorem dX6_firstWidthFrom_52 : decode cX6_firstWidthFrom 52 = .ok (.iinc 2 1, 3) := by decide +kernel
theorem dX6_firstWidthFrom_55 : decode cX6_firstWidthFrom 55 = .ok (.goto (-53), 3) := by decide +kernel
theorem dX6_firstWidthFrom_58 : decode cX6_firstWidthFrom 58 = .ok (.iconst (-1), 1) := by decide +kernel
theorem dX6_firstWidthFrom_59 : decode cX6_firstWidthFrom 59 = .ok (.ireturn, 1) := by decide +kernel
