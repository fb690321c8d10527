abbrev vwCl : List vw_C := [(RX0, TX0, 8), (RX1, TX1, 2), (RX2, TX2, 5), (RX3, TX3, 9), (RX4, TX4, 5), (RX6, TX6, 14), (RX7, TX7, 6), (RX8, TX8, 37)]
theorem dX0_init_0 : decode cX0_init 0 = .ok (.aload_n 0, 1) := by decide +kernel
theorem dX0_init_1 : decode cX0_init 1 = .ok (.invokespecial 1, 3) := by decide +kernel
theorem dX0_init_4 : decode cX0_init 4 = .ok (.aload_n 0, 1) := by decide +kernel
theorem dX0_init_5 : decode cX0_init 5 = .ok (.iconst 0, 1) := by decide +kernel
theorem dX0_init_6 : decode cX0_init 6 = .ok (.putfield 7, 3) := by decide +kernel
theorem dX0_init_9 : decode cX0_init 9 = .ok (.aload_n 0, 1) := by decide +kernel
theorem dX0_init_10 : decode cX0_init 10 = .ok (.iconst 0, 1) := by decide +kernel
theorem dX0_init_11 : decode cX0_init 11 = .ok (.putfield 13, 3) := by decide +kernel
theorem dX0_init_14 : decode cX0_init 14 = .ok (.aload_n 0, 1) := by decide +kernel
theorem dX0_init_15 : decode cX0_init 15 = .ok (.iconst 0, 1) := by decide +kernel
theorem dX0_init_16 : decode cX0_init 16 = .ok (.putfield 16, 3) := by decide +kernel
theorem dX0_init_19 : decode cX0_init 19 = .ok (.aload_n 0, 1) := by decide +kernel
theorem dX0_init_20 : decode cX0_init 20 = .ok (.aload_n 1, 1) := by decide +kernel
theorem dX0_init_21 : decode cX0_init 21 = .ok (.putfield 19, 3) := by decide +kernel
theorem dX0_init_24 : decode cX0_init 24 = .ok (.aload_n 0, 1) := by decide +kernel
theorem dX0_init_25 : decode cX0_init 25 = .ok (.iload_n 2, 1) := by decide +kernel
theorem dX0_init_26 : decode cX0_init 26 = .ok (.putfield 23, 3) := by decide +kernel
theorem dX0_init_29 : decode cX0_init 29 = .ok (.aload_n 0, 1) := by decide +kernel
theorem dX0_init_30 : decode cX0_init 30 = .ok (.aload_n 3, 1) := by decide +kernel
theorem dX0_init_31 : decode cX0_init 31 = .ok (.putfield 26, 3) := by decide +kernel
theorem dX0_init_34 : decode cX0_init 34 = .ok (.aload_n 0, 1) := by decide +kernel
theorem dX0_init_35 : decode cX0_init 35 = .ok (.iload 4, 2) := by decide +kernel
theorem dX0_init_37 : decode cX0_init 37 = .ok (.putfield 30, 3) := by decide +kernel
theorem dX0_init_40 : decode cX0_init 40 = .ok (.aload_n 0, 1) := by decide +kernel
theorem dX0_init_41 : decode cX0_init 41 = .ok (.aload_n 1, 1) := by decide +kernel
theorem dX0_init_42 : decode cX0_init 42 = .ok (.getfield 33, 3) := by decide +kernel
theorem dX0_init_45 : decode cX0_init 45 = .ok (.iload_n 2, 1) := by decide +kernel
theorem dX0_init_46 : decode cX0_init 46 = .ok (.iaload, 1) := by decide +kernel
theorem dX0_init_47 : decode cX0_init 47 = .ok (.putfield 39, 3) := by decide +kernel
theorem dX0_init_50 : decode cX0_init 50 = .ok (.return_, 1) := by decide +kernel
set_option maxRecDepth 20000 in
theorem ggX0_comesToEnd_X0_chosenWidth : GoodIn wsX0_comesToEnd wsX0_chosenWidth := goodIn_r _ [13, 4, 14, 5, 15, 16, 17, 12, 18, 1, 6, 2, 19, 3, 20, 21, 22, 23, 24, 25, 26, 27, 28, 29, 30, 31, 32, 33, 34, 35, 36, 37, 38, 39, 40, 41, 42, 43, 44, 45, 46, 47, 48, 49, 88, 89, 90, 91, 92, 93, 94, 95, 96, 97, 98, 99, 100, 101, 102, 103, 104, 105, 106] (by decide +kernel) (by decide +kernel)
set_option maxRecDepth 20000 in
theorem gX0_comesToEnd_X0_chosenWidth : GoodIn wsX0_comesToEnd (wsV RX0 42 RX0 yX0_chosenWidth wsX0_chosenWidth) := goodIn_app (goodIn_of _ (by decide +kernel)) ggX0_comesToEnd_X0_chosenWidth
set_option maxRecDepth 20000 in
theorem ggX0_comesToEnd_X1_isHanded : GoodIn wsX0_comesToEnd wsX1_isHanded := goodIn_r _ [53, 47, 105, 106] (by decide +kernel) (by decide +kernel)
set_option maxRecDepth 20000 in
theorem gX0_comesToEnd_X1_isHanded : GoodIn wsX0_comesToEnd (wsV RX0 46 RX1 yX1_isHanded wsX1_isHanded) := goodIn_app (goodIn_of _ (by decide +kernel)) ggX0_comesToEnd_X1_isHanded
set_option maxRecDepth 20000 in
theorem ggX0_comesToEnd_X1_isMany : GoodIn wsX0_comesToEnd wsX1_isMany := goodIn_r _ [57, 47, 105, 106] (by decide +kernel) (by decide +kernel)
set_option maxRecDepth 20000 in
theorem gX0_comesToEnd_X1_isMany : GoodIn wsX0_comesToEnd (wsV RX0 52 RX1 yX1_isMany wsX1_isMany) := goodIn_app (goodIn_of _ (by decide +kernel)) ggX0_comesToEnd_X1_isMany
set_option maxRecDepth 20000 in
theorem ggX0_comesToEnd_X0_betterOfTwo : GoodIn wsX0_comesToEnd wsX0_betterOfTwo := goodIn_r _ [61, 4, 6, 62, 63, 64, 12, 65, 66, 67, 68, 69, 14, 5, 70, 71, 72, 24, 73, 74, 75, 15, 16, 17, 18, 1, 2, 19, 3, 20, 21, 22, 23, 25, 26, 27, 28, 29, 30, 31, 32, 33, 34, 35, 36, 37, 76, 77, 78, 79, 88, 89, 90, 91, 92, 93, 94, 95, 96, 97, 98, 99, 100, 101, 102, 103, 104, 105, 106] (by decide +kernel) (by decide +kernel)
set_option maxRecDepth 20000 in
theorem gX0_comesToEnd_X0_betterOfTwo : GoodIn wsX0_comesToEnd (wsV RX0 55 RX0 yX0_betterOfTwo wsX0_betterOfTwo) := goodIn_app (goodIn_of _ (by decide +kernel)) ggX0_comesToEnd_X0_betterOfTwo
set_option maxRecDepth 20000 in
theorem ggX0_comesToEnd_X0_handed : GoodIn wsX0_comesToEnd wsX0_handed := goodIn_r _ [83, 62, 63, 64, 12, 65, 4, 66, 67, 68, 69, 14, 5, 70, 71, 72, 24, 73, 74, 75, 15, 16, 17, 18, 1, 6, 2, 19, 3, 20, 21, 22, 23, 25, 26, 27, 28, 29, 30, 31, 32, 33, 34, 35, 36, 37, 88, 89, 90, 91, 92, 93, 94, 95, 96, 97, 98, 99, 100, 101, 102, 103, 104, 105, 106] (by decide +kernel) (by decide +kernel)
set_option maxRecDepth 20000 in
theorem gX0_comesToEnd_X0_handed : GoodIn wsX0_comesToEnd (wsV RX0 58 RX0 yX0_handed wsX0_handed) := goodIn_app (goodIn_of _ (by decide +kernel)) ggX0_comesToEnd_X0_handed
set_option maxRecDepth 20000 in
theorem ggX0_comesToEnd_X1_mostAsides : GoodIn wsX0_comesToEnd wsX1_mostAsides := goodIn_r _ [87, 48, 105, 106] (by decide +kernel) (by decide +kernel)
set_option maxRecDepth 20000 in
theorem gX0_comesToEnd_X1_mostAsides : GoodIn wsX0_comesToEnd (wsV RX0 67 RX1 yX1_mostAsides wsX1_mostAsides) := goodIn_app (goodIn_of _ (by decide +kernel)) ggX0_comesToEnd_X1_mostAsides
theorem dX0_comesToEnd_0 : decode cX0_comesToEnd 0 = .ok (.iconst 0, 1) := by decide +kernel
theorem dX0_comesToEnd_1 : decode cX0_comesToEnd 1 = .ok (.istore_n 1, 1) := by decide +kernel
theorem dX0_comesToEnd_2 : decode cX0_comesToEnd 2 = .ok (.iload_n 1, 1) := by decide +kernel
theorem dX0_comesToEnd_3 : decode cX0_comesToEnd 3 = .ok (.bipush 100, 2) := by decide +kernel
theorem dX0_comesToEnd_5 : decode cX0_comesToEnd 5 = .ok (.if_icmp .ge 142, 3) := by decide +kernel
theorem dX0_comesToEnd_8 : decode cX0_comesToEnd 8 = .ok (.aload_n 0, 1) := by decide +kernel
theorem dX0_comesToEnd_9 : decode cX0_comesToEnd 9 = .ok (.getfield 7, 3) := by decide +kernel
theorem dX0_comesToEnd_12 : decode cX0_comesToEnd 12 = .ok (.aload_n 0, 1) := by decide +kernel
theorem dX0_comesToEnd_13 : decode cX0_comesToEnd 13 = .ok (.getfield 39, 3) := by decide +kernel
theorem dX0_comesToEnd_16 : decode cX0_comesToEnd 16 = .ok (.if_icmp .ge 131, 3) := by decide +kernel
theorem dX0_comesToEnd_19 : decode cX0_comesToEnd 19 = .ok (.aload_n 0, 1) := by decide +kernel
theorem dX0_comesToEnd_20 : decode cX0_comesToEnd 20 = .ok (.invokevirtual 42, 3) := by decide +kernel
theorem dX0_comesToEnd_23 : decode cX0_comesToEnd 23 = .ok (.istore_n 2, 1) := by decide +kernel
theorem dX0_comesToEnd_24 : decode cX0_comesToEnd 24 = .ok (.iload_n 2, 1) := by decide +kernel
theorem dX0_comesToEnd_25 : decode cX0_comesToEnd 25 = .ok (.iconst (-1), 1) := by decide +kernel
theorem dX0_comesToEnd_26 : decode cX0_comesToEnd 26 = .ok (.if_icmp .ne 5, 3) := by decide +kernel
theorem dX0_comesToEnd_29 : decode cX0_comesToEnd 29 = .ok (.iconst 0, 1) := by decide +kernel
theorem dX0_comesToEnd_30 : decode cX0_comesToEnd 30 = .ok (.ireturn, 1) := by decide +kernel
theorem dX0_comesToEnd_31 : decode cX0_comesToEnd 31 = .ok (.aload_n 0, 1) := by decide +kernel
theorem dX0_comesToEnd_32 : decode cX0_comesToEnd 32 = .ok (.getfield 26, 3) := by decide +kernel
theorem dX0_comesToEnd_35 : decode cX0_comesToEnd 35 = .ok (.invokevirtual 46, 3) := by decide +kernel
theorem dX0_comesToEnd_38 : decode cX0_comesToEnd 38 = .ok (.ifCond .eq 28, 3) := by decide +kernel
theorem dX0_comesToEnd_41 : decode cX0_comesToEnd 41 = .ok (.aload_n 0, 1) := by decide +kernel
theorem dX0_comesToEnd_42 : decode cX0_comesToEnd 42 = .ok (.getfield 26, 3) := by decide +kernel
theorem dX0_comesToEnd_45 : decode cX0_comesToEnd 45 = .ok (.invokevirtual 52, 3) := by decide +kernel
theorem dX0_comesToEnd_48 : decode cX0_comesToEnd 48 = .ok (.ifCond .eq 10, 3) := by decide +kernel
theorem dX0_comesToEnd_51 : decode cX0_comesToEnd 51 = .ok (.aload_n 0, 1) := by decide +kernel
theorem dX0_comesToEnd_52 : decode cX0_comesToEnd 52 = .ok (.invokevirtual 55, 3) := by decide +kernel
theorem dX0_comesToEnd_55 : decode cX0_comesToEnd 55 = .ok (.goto 7, 3) := by decide +kernel
theorem dX0_comesToEnd_58 : decode cX0_comesToEnd 58 = .ok (.aload_n 0, 1) := by decide +kernel
theorem dX0_comesToEnd_59 : decode cX0_comesToEnd 59 = .ok (.invokevirtual 58, 3) := by decide +kernel
theorem dX0_comesToEnd_62 : decode cX0_comesToEnd 62 = .ok (.istore_n 2, 1) := by decide +kernel
theorem dX0_comesToEnd_63 : decode cX0_comesToEnd 63 = .ok (.goto 16, 3) := by decide +kernel
theorem dX0_comesToEnd_66 : decode cX0_comesToEnd 66 = .ok (.aload_n 0, 1) := by decide +kernel
theorem dX0_comesToEnd_67 : decode cX0_comesToEnd 67 = .ok (.getfield 19, 3) := by decide +kernel
theorem dX0_comesToEnd_70 : decode cX0_comesToEnd 70 = .ok (.getfield 61, 3) := by decide +kernel
theorem dX0_comesToEnd_73 : decode cX0_comesToEnd 73 = .ok (.iload_n 2, 1) := by decide +kernel
theorem dX0_comesToEnd_74 : decode cX0_comesToEnd 74 = .ok (.dup2, 1) := by decide +kernel
theorem dX0_comesToEnd_75 : decode cX0_comesToEnd 75 = .ok (.iaload, 1) := by decide +kernel
theorem dX0_comesToEnd_76 : decode cX0_comesToEnd 76 = .ok (.iconst 1, 1) := by decide +kernel
theorem dX0_comesToEnd_77 : decode cX0_comesToEnd 77 = .ok (.isub, 1) := by decide +kernel
theorem dX0_comesToEnd_78 : decode cX0_comesToEnd 78 = .ok (.iastore, 1) := by decide +kernel
theorem dX0_comesToEnd_79 : decode cX0_comesToEnd 79 = .ok (.iload_n 2, 1) := by decide +kernel
theorem dX0_comesToEnd_80 : decode cX0_comesToEnd 80 = .ok (.iconst (-1), 1) := by decide +kernel
theorem dX0_comesToEnd_81 : decode cX0_comesToEnd 81 = .ok (.if_icmp .eq 34, 3) := by decide +kernel
theorem dX0_comesToEnd_84 : decode cX0_comesToEnd 84 = .ok (.aload_n 0, 1) := by decide +kernel
theorem dX0_comesToEnd_85 : decode cX0_comesToEnd 85 = .ok (.dup, 1) := by decide +kernel
theorem dX0_comesToEnd_86 : decode cX0_comesToEnd 86 = .ok (.getfield 7, 3) := by decide +kernel
theorem dX0_comesToEnd_89 : decode cX0_comesToEnd 89 = .ok (.aload_n 0, 1) := by decide +kernel
theorem dX0_comesToEnd_90 : decode cX0_comesToEnd 90 = .ok (.getfield 19, 3) := by decide +kernel
theorem dX0_comesToEnd_93 : decode cX0_comesToEnd 93 = .ok (.getfield 64, 3) := by decide +kernel
theorem dX0_comesToEnd_96 : decode cX0_comesToEnd 96 = .ok (.iload_n 2, 1) := by decide +kernel
theorem dX0_comesToEnd_97 : decode cX0_comesToEnd 97 = .ok (.iaload, 1) := by decide +kernel
theorem dX0_comesToEnd_98 : decode cX0_comesToEnd 98 = .ok (.iadd, 1) := by decide +kernel
theorem dX0_comesToEnd_99 : decode cX0_comesToEnd 99 = .ok (.putfield 7, 3) := by decide +kernel
theorem dX0_comesToEnd_102 : decode cX0_comesToEnd 102 = .ok (.aload_n 0, 1) := by decide +kernel
theorem dX0_comesToEnd_103 : decode cX0_comesToEnd 103 = .ok (.dup, 1) := by decide +kernel
theorem dX0_comesToEnd_104 : decode cX0_comesToEnd 104 = .ok (.getfield 13, 3) := by decide +kernel
theorem dX0_comesToEnd_107 : decode cX0_comesToEnd 107 = .ok (.iconst 1, 1) := by decide +kernel
theorem dX0_comesToEnd_108 : decode cX0_comesToEnd 108 = .ok (.iadd, 1) := by decide +kernel
theorem dX0_comesToEnd_109 : decode cX0_comesToEnd 109 = .ok (.putfield 13, 3) := by decide +kernel
theorem dX0_comesToEnd_112 : decode cX0_comesToEnd 112 = .ok (.goto 29, 3) := by decide +kernel
theorem dX0_comesToEnd_115 : decode cX0_comesToEnd 115 = .ok (.aload_n 0, 1) := by decide +kernel
theorem dX0_comesToEnd_116 : decode cX0_comesToEnd 116 = .ok (.getfield 16, 3) := by decide +kernel
theorem dX0_comesToEnd_119 : decode cX0_comesToEnd 119 = .ok (.aload_n 0, 1) := by decide +kernel
theorem dX0_comesToEnd_120 : decode cX0_comesToEnd 120 = .ok (.getfield 26, 3) := by decide +kernel
theorem dX0_comesToEnd_123 : decode cX0_comesToEnd 123 = .ok (.invokevirtual 67, 3) := by decide +kernel
theorem dX0_comesToEnd_126 : decode cX0_comesToEnd 126 = .ok (.if_icmp .lt 5, 3) := by decide +kernel
theorem dX0_comesToEnd_129 : decode cX0_comesToEnd 129 = .ok (.iconst 0, 1) := by decide +kernel
theorem dX0_comesToEnd_130 : decode cX0_comesToEnd 130 = .ok (.ireturn, 1) := by decide +kernel
theorem dX0_comesToEnd_131 : decode cX0_comesToEnd 131 = .ok (.aload_n 0, 1) := by decide +kernel
theorem dX0_comesToEnd_132 : decode cX0_comesToEnd 132 = .ok (.dup, 1) := by decide +kernel
theorem dX0_comesToEnd_133 : decode cX0_comesToEnd 133 = .ok (.getfield 16, 3) := by decide +kernel
theorem dX0_comesToEnd_136 : decode cX0_comesToEnd 136 = .ok (.iconst 1, 1) := by decide +kernel
theorem dX0_comesToEnd_137 : decode cX0_comesToEnd 137 = .ok (.iadd, 1) := by decide +kernel
theorem dX0_comesToEnd_138 : decode cX0_comesToEnd 138 = .ok (.putfield 16, 3) := by decide +kernel
theorem dX0_comesToEnd_141 : decode cX0_comesToEnd 141 = .ok (.iinc 1 1, 3) := by decide +kernel
theorem dX0_comesToEnd_144 : decode cX0_comesToEnd 144 = .ok (.goto (-142), 3) := by decide +kernel
theorem dX0_comesToEnd_147 : decode cX0_comesToEnd 147 = .ok (.aload_n 0, 1) := by decide +kernel
theorem dX0_comesToEnd_148 : decode cX0_comesToEnd 148 = .ok (.getfield 7, 3) := by decide +kernel
theorem dX0_comesToEnd_151 : decode cX0_comesToEnd 151 = .ok (.aload_n 0, 1) := by decide +kernel
theorem dX0_comesToEnd_152 : decode cX0_comesToEnd 152 = .ok (.getfield 39, 3) := by decide +kernel
theorem dX0_comesToEnd_155 : decode cX0_comesToEnd 155 = .ok (.if_icmp .lt 7, 3) := by decide +kernel
theorem dX0_comesToEnd_158 : decode cX0_comesToEnd 158 = .ok (.iconst 1, 1) := by decide +kernel
theorem dX0_comesToEnd_159 : decode cX0_comesToEnd 159 = .ok (.goto 4, 3) := by decide +kernel
theorem dX0_comesToEnd_162 : decode cX0_comesToEnd 162 = .ok (.iconst 0, 1) := by decide +kernel
theorem dX0_comesToEnd_163 : decode cX0_comesToEnd 163 = .ok (.ireturn, 1) := by decide +kernel
set_option maxRecDepth 20000 in
theorem ggX0_chosenWidth_X0_fits : GoodIn wsX0_chosenWidth wsX0_fits := goodIn_r _ [8, 9, 1, 10, 11, 12, 13, 14, 15, 16, 17, 18, 19, 20, 21, 22, 23, 24, 25, 26, 27, 28, 29, 30, 31, 44, 45, 46, 47, 48, 49, 50, 51, 52, 53, 54, 55, 56, 57, 58, 59, 60, 61, 62] (by decide +kernel) (by decide +kernel)
set_option maxRecDepth 20000 in
theorem gX0_chosenWidth_X0_fits : GoodIn wsX0_chosenWidth (wsV RX0 73 RX0 yX0_fits wsX0_fits) := goodIn_app (goodIn_of _ (by decide +kernel)) ggX0_chosenWidth_X0_fits
set_option maxRecDepth 20000 in
theorem ggX0_chosenWidth_X0_rank : GoodIn wsX0_chosenWidth wsX0_rank := goodIn_r _ [35, 13, 1, 10, 36, 37, 38, 39, 40, 41, 42, 43, 23, 24, 25, 44, 45, 46, 47, 48, 49, 50, 51, 52, 53, 54, 55, 56, 57, 58, 59, 60, 61, 62] (by decide +kernel) (by decide +kernel)
set_option maxRecDepth 20000 in
theorem gX0_chosenWidth_X0_rank : GoodIn wsX0_chosenWidth (wsV RX0 77 RX0 yX0_rank wsX0_rank) := goodIn_app (goodIn_of _ (by decide +kernel)) ggX0_chosenWidth_X0_rank
theorem dX0_chosenWidth_0 : decode cX0_chosenWidth 0 = .ok (.iconst (-1), 1) := by decide +kernel
theorem dX0_chosenWidth_1 : decode cX0_chosenWidth 1 = .ok (.istore_n 1, 1) := by decide +kernel
theorem dX0_chosenWidth_2 : decode cX0_chosenWidth 2 = .ok (.iconst 0, 1) := by decide +kernel
theorem dX0_chosenWidth_3 : decode cX0_chosenWidth 3 = .ok (.istore_n 2, 1) := by decide +kernel
theorem dX0_chosenWidth_4 : decode cX0_chosenWidth 4 = .ok (.iload_n 2, 1) := by decide +kernel
theorem dX0_chosenWidth_5 : decode cX0_chosenWidth 5 = .ok (.aload_n 0, 1) := by decide +kernel
theorem dX0_chosenWidth_6 : decode cX0_chosenWidth 6 = .ok (.getfield 19, 3) := by decide +kernel
theorem dX0_chosenWidth_9 : decode cX0_chosenWidth 9 = .ok (.getfield 70, 3) := by decide +kernel
theorem dX0_chosenWidth_12 : decode cX0_chosenWidth 12 = .ok (.if_icmp .ge 59, 3) := by decide +kernel
theorem dX0_chosenWidth_15 : decode cX0_chosenWidth 15 = .ok (.aload_n 0, 1) := by decide +kernel
theorem dX0_chosenWidth_16 : decode cX0_chosenWidth 16 = .ok (.getfield 19, 3) := by decide +kernel
theorem dX0_chosenWidth_19 : decode cX0_chosenWidth 19 = .ok (.getfield 61, 3) := by decide +kernel
theorem dX0_chosenWidth_22 : decode cX0_chosenWidth 22 = .ok (.iload_n 2, 1) := by decide +kernel
theorem dX0_chosenWidth_23 : decode cX0_chosenWidth 23 = .ok (.iaload, 1) := by decide +kernel
theorem dX0_chosenWidth_24 : decode cX0_chosenWidth 24 = .ok (.ifCond .le 15, 3) := by decide +kernel
theorem dX0_chosenWidth_27 : decode cX0_chosenWidth 27 = .ok (.aload_n 0, 1) := by decide +kernel
theorem dX0_chosenWidth_28 : decode cX0_chosenWidth 28 = .ok (.iload_n 2, 1) := by decide +kernel
theorem dX0_chosenWidth_29 : decode cX0_chosenWidth 29 = .ok (.invokevirtual 73, 3) := by decide +kernel
theorem dX0_chosenWidth_32 : decode cX0_chosenWidth 32 = .ok (.ifCond .eq 7, 3) := by decide +kernel
theorem dX0_chosenWidth_35 : decode cX0_chosenWidth 35 = .ok (.iconst 1, 1) := by decide +kernel
theorem dX0_chosenWidth_36 : decode cX0_chosenWidth 36 = .ok (.goto 4, 3) := by decide +kernel
theorem dX0_chosenWidth_39 : decode cX0_chosenWidth 39 = .ok (.iconst 0, 1) := by decide +kernel
theorem dX0_chosenWidth_40 : decode cX0_chosenWidth 40 = .ok (.istore_n 3, 1) := by decide +kernel
theorem dX0_chosenWidth_41 : decode cX0_chosenWidth 41 = .ok (.iload_n 3, 1) := by decide +kernel
theorem dX0_chosenWidth_42 : decode cX0_chosenWidth 42 = .ok (.ifCond .eq 23, 3) := by decide +kernel
theorem dX0_chosenWidth_45 : decode cX0_chosenWidth 45 = .ok (.iload_n 1, 1) := by decide +kernel
theorem dX0_chosenWidth_46 : decode cX0_chosenWidth 46 = .ok (.iconst (-1), 1) := by decide +kernel
theorem dX0_chosenWidth_47 : decode cX0_chosenWidth 47 = .ok (.if_icmp .eq 16, 3) := by decide +kernel
theorem dX0_chosenWidth_50 : decode cX0_chosenWidth 50 = .ok (.aload_n 0, 1) := by decide +kernel
theorem dX0_chosenWidth_51 : decode cX0_chosenWidth 51 = .ok (.iload_n 2, 1) := by decide +kernel
theorem dX0_chosenWidth_52 : decode cX0_chosenWidth 52 = .ok (.invokevirtual 77, 3) := by decide +kernel
theorem dX0_chosenWidth_55 : decode cX0_chosenWidth 55 = .ok (.aload_n 0, 1) := by decide +kernel
theorem dX0_chosenWidth_56 : decode cX0_chosenWidth 56 = .ok (.iload_n 1, 1) := by decide +kernel
theorem dX0_chosenWidth_57 : decode cX0_chosenWidth 57 = .ok (.invokevirtual 77, 3) := by decide +kernel
theorem dX0_chosenWidth_60 : decode cX0_chosenWidth 60 = .ok (.if_icmp .ge 5, 3) := by decide +kernel
theorem dX0_chosenWidth_63 : decode cX0_chosenWidth 63 = .ok (.iload_n 2, 1) := by decide +kernel
theorem dX0_chosenWidth_64 : decode cX0_chosenWidth 64 = .ok (.istore_n 1, 1) := by decide +kernel
theorem dX0_chosenWidth_65 : decode cX0_chosenWidth 65 = .ok (.iinc 2 1, 3) := by decide +kernel
theorem dX0_chosenWidth_68 : decode cX0_chosenWidth 68 = .ok (.goto (-64), 3) := by decide +kernel
theorem dX0_chosenWidth_71 : decode cX0_chosenWidth 71 = .ok (.iload_n 1, 1) := by decide +kernel
theorem dX0_chosenWidth_72 : decode cX0_chosenWidth 72 = .ok (.ireturn, 1) := by decide +kernel
set_option maxRecDepth 20000 in
theorem ggX0_rank_X1_rank : GoodIn wsX0_rank wsX1_rank := goodIn_r _ [8, 9, 10, 11, 12, 13, 14, 32, 33] (by decide +kernel) (by decide +kernel)
set_option maxRecDepth 20000 in
theorem gX0_rank_X1_rank : GoodIn wsX0_rank (wsV RX0 81 RX1 yX1_rank wsX1_rank) := goodIn_app (goodIn_of _ (by decide +kernel)) ggX0_rank_X1_rank
theorem dX0_rank_0 : decode cX0_rank 0 = .ok (.aload_n 0, 1) := by decide +kernel
theorem dX0_rank_1 : decode cX0_rank 1 = .ok (.getfield 26, 3) := by decide +kernel
theorem dX0_rank_4 : decode cX0_rank 4 = .ok (.iload_n 1, 1) := by decide +kernel
theorem dX0_rank_5 : decode cX0_rank 5 = .ok (.aload_n 0, 1) := by decide +kernel
theorem dX0_rank_6 : decode cX0_rank 6 = .ok (.getfield 19, 3) := by decide +kernel
theorem dX0_rank_9 : decode cX0_rank 9 = .ok (.getfield 64, 3) := by decide +kernel
theorem dX0_rank_12 : decode cX0_rank 12 = .ok (.iload_n 1, 1) := by decide +kernel
theorem dX0_rank_13 : decode cX0_rank 13 = .ok (.iaload, 1) := by decide +kernel
theorem dX0_rank_14 : decode cX0_rank 14 = .ok (.invokevirtual 81, 3) := by decide +kernel
theorem dX0_rank_17 : decode cX0_rank 17 = .ok (.ireturn, 1) := by decide +kernel
set_option maxRecDepth 20000 in
theorem ggX0_fits_X3_allowsJoint : GoodIn wsX0_fits wsX3_allowsJoint := goodIn_r _ [12, 13, 14, 15, 16, 17, 18, 19, 20, 21, 22, 11, 23, 24, 33, 34, 35, 36, 37, 38, 39, 40, 41] (by decide +kernel) (by decide +kernel)
set_option maxRecDepth 20000 in
theorem gX0_fits_X3_allowsJoint : GoodIn wsX0_fits (wsV RX0 84 RX3 yX3_allowsJoint wsX3_allowsJoint) := goodIn_app (goodIn_of _ (by decide +kernel)) ggX0_fits_X3_allowsJoint
theorem dX0_fits_0 : decode cX0_fits 0 = .ok (.aload_n 0, 1) := by decide +kernel
theorem dX0_fits_1 : decode cX0_fits 1 = .ok (.getfield 7, 3) := by decide +kernel
theorem dX0_fits_4 : decode cX0_fits 4 = .ok (.aload_n 0, 1) := by decide +kernel
theorem dX0_fits_5 : decode cX0_fits 5 = .ok (.getfield 19, 3) := by decide +kernel
theorem dX0_fits_8 : decode cX0_fits 8 = .ok (.getfield 64, 3) := by decide +kernel
theorem dX0_fits_11 : decode cX0_fits 11 = .ok (.iload_n 1, 1) := by decide +kernel
theorem dX0_fits_12 : decode cX0_fits 12 = .ok (.iaload, 1) := by decide +kernel
theorem dX0_fits_13 : decode cX0_fits 13 = .ok (.iadd, 1) := by decide +kernel
theorem dX0_fits_14 : decode cX0_fits 14 = .ok (.istore_n 2, 1) := by decide +kernel
theorem dX0_fits_15 : decode cX0_fits 15 = .ok (.iload_n 2, 1) := by decide +kernel
theorem dX0_fits_16 : decode cX0_fits 16 = .ok (.aload_n 0, 1) := by decide +kernel
theorem dX0_fits_17 : decode cX0_fits 17 = .ok (.getfield 39, 3) := by decide +kernel
theorem dX0_fits_20 : decode cX0_fits 20 = .ok (.if_icmp .ge 16, 3) := by decide +kernel
theorem dX0_fits_23 : decode cX0_fits 23 = .ok (.aload_n 0, 1) := by decide +kernel
theorem dX0_fits_24 : decode cX0_fits 24 = .ok (.getfield 19, 3) := by decide +kernel
theorem dX0_fits_27 : decode cX0_fits 27 = .ok (.aload_n 0, 1) := by decide +kernel
theorem dX0_fits_28 : decode cX0_fits 28 = .ok (.getfield 23, 3) := by decide +kernel
theorem dX0_fits_31 : decode cX0_fits 31 = .ok (.iload_n 2, 1) := by decide +kernel
theorem dX0_fits_32 : decode cX0_fits 32 = .ok (.invokevirtual 84, 3) := by decide +kernel
theorem dX0_fits_35 : decode cX0_fits 35 = .ok (.ireturn, 1) := by decide +kernel
theorem dX0_fits_36 : decode cX0_fits 36 = .ok (.iload_n 2, 1) := by decide +kernel
theorem dX0_fits_37 : decode cX0_fits 37 = .ok (.aload_n 0, 1) := by decide +kernel
theorem dX0_fits_38 : decode cX0_fits 38 = .ok (.getfield 39, 3) := by decide +kernel
theorem dX0_fits_41 : decode cX0_fits 41 = .ok (.if_icmp .eq 14, 3) := by decide +kernel
theorem dX0_fits_44 : decode cX0_fits 44 = .ok (.aload_n 0, 1) := by decide +kernel
theorem dX0_fits_45 : decode cX0_fits 45 = .ok (.getfield 26, 3) := by decide +kernel
theorem dX0_fits_48 : decode cX0_fits 48 = .ok (.getfield 88, 3) := by decide +kernel
theorem dX0_fits_51 : decode cX0_fits 51 = .ok (.iconst 4, 1) := by decide +kernel
theorem dX0_fits_52 : decode cX0_fits 52 = .ok (.if_icmp .ne 7, 3) := by decide +kernel
theorem dX0_fits_55 : decode cX0_fits 55 = .ok (.iconst 1, 1) := by decide +kernel
theorem dX0_fits_56 : decode cX0_fits 56 = .ok (.goto 4, 3) := by decide +kernel
theorem dX0_fits_59 : decode cX0_fits 59 = .ok (.iconst 0, 1) := by decide +kernel
theorem dX0_fits_60 : decode cX0_fits 60 = .ok (.ireturn, 1) := by decide +kernel
set_option maxRecDepth 20000 in
theorem ggX0_handed_X0_drawn : GoodIn wsX0_handed wsX0_drawn := goodIn_r _ [5, 6, 7, 8, 9, 10, 11, 12, 13, 14, 15, 16, 17, 18, 19, 46, 47, 48, 49, 50, 51, 52, 53, 54, 55, 56, 57, 58, 59, 60, 61, 62] (by decide +kernel) (by decide +kernel)
set_option maxRecDepth 20000 in
theorem gX0_handed_X0_drawn : GoodIn wsX0_handed (wsV RX0 91 RX0 yX0_drawn wsX0_drawn) := goodIn_app (goodIn_of _ (by decide +kernel)) ggX0_handed_X0_drawn
set_option maxRecDepth 20000 in
theorem ggX0_handed_X0_fits : GoodIn wsX0_handed wsX0_fits := goodIn_r _ [23, 24, 6, 25, 26, 27, 28, 29, 30, 31, 32, 16, 33, 34, 35, 36, 37, 38, 39, 40, 41, 42, 43, 44, 45, 46, 47, 48, 49, 50, 51, 52, 53, 54, 55, 56, 57, 58, 59, 60, 61, 62, 63, 64] (by decide +kernel) (by decide +kernel)
set_option maxRecDepth 20000 in
theorem gX0_handed_X0_fits : GoodIn wsX0_handed (wsV RX0 73 RX0 yX0_fits wsX0_fits) := goodIn_app (goodIn_of _ (by decide +kernel)) ggX0_handed_X0_fits
theorem dX0_handed_0 : decode cX0_handed 0 = .ok (.aload_n 0, 1) := by decide +kernel
theorem dX0_handed_1 : decode cX0_handed 1 = .ok (.invokevirtual 91, 3) := by decide +kernel
theorem dX0_handed_4 : decode cX0_handed 4 = .ok (.istore_n 1, 1) := by decide +kernel
theorem dX0_handed_5 : decode cX0_handed 5 = .ok (.iload_n 1, 1) := by decide +kernel
theorem dX0_handed_6 : decode cX0_handed 6 = .ok (.iconst (-1), 1) := by decide +kernel
theorem dX0_handed_7 : decode cX0_handed 7 = .ok (.if_icmp .eq 15, 3) := by decide +kernel
theorem dX0_handed_10 : decode cX0_handed 10 = .ok (.aload_n 0, 1) := by decide +kernel
theorem dX0_handed_11 : decode cX0_handed 11 = .ok (.iload_n 1, 1) := by decide +kernel
theorem dX0_handed_12 : decode cX0_handed 12 = .ok (.invokevirtual 73, 3) := by decide +kernel
theorem dX0_handed_15 : decode cX0_handed 15 = .ok (.ifCond .eq 7, 3) := by decide +kernel
theorem dX0_handed_18 : decode cX0_handed 18 = .ok (.iload_n 1, 1) := by decide +kernel
theorem dX0_handed_19 : decode cX0_handed 19 = .ok (.goto 4, 3) := by decide +kernel
theorem dX0_handed_22 : decode cX0_handed 22 = .ok (.iconst (-1), 1) := by decide +kernel
theorem dX0_handed_23 : decode cX0_handed 23 = .ok (.ireturn, 1) := by decide +kernel
set_option maxRecDepth 20000 in
theorem ggX0_betterOfTwo_X0_drawn : GoodIn wsX0_betterOfTwo wsX0_drawn := goodIn_r _ [7, 1, 8, 9, 10, 11, 12, 13, 14, 15, 16, 17, 18, 19, 20, 50, 51, 52, 53, 54, 55, 56, 57, 58, 59, 60, 61, 62, 63, 64, 65, 66] (by decide +kernel) (by decide +kernel)
set_option maxRecDepth 20000 in
theorem gX0_betterOfTwo_X0_drawn : GoodIn wsX0_betterOfTwo (wsV RX0 91 RX0 yX0_drawn wsX0_drawn) := goodIn_app (goodIn_of _ (by decide +kernel)) ggX0_betterOfTwo_X0_drawn
set_option maxRecDepth 20000 in
theorem ggX0_betterOfTwo_X0_fits : GoodIn wsX0_betterOfTwo wsX0_fits := goodIn_r _ [24, 25, 1, 2, 26, 27, 28, 29, 30, 31, 32, 17, 33, 34, 35, 36, 37, 38, 39, 40, 41, 42, 43, 44, 45, 50, 51, 52, 53, 54, 55, 56, 57, 58, 59, 60, 61, 62, 63, 64, 65, 66, 67, 68] (by decide +kernel) (by decide +kernel)
set_option maxRecDepth 20000 in
theorem gX0_betterOfTwo_X0_fits : GoodIn wsX0_betterOfTwo (wsV RX0 73 RX0 yX0_fits wsX0_fits) := goodIn_app (goodIn_of _ (by decide +kernel)) ggX0_betterOfTwo_X0_fits
set_option maxRecDepth 20000 in
theorem ggX0_betterOfTwo_X0_giveBack : GoodIn wsX0_betterOfTwo wsX0_giveBack := goodIn_r _ [49, 1, 13, 50, 51, 52, 53, 54, 55, 56, 57, 58, 59, 60, 61, 62, 63, 64, 65, 66] (by decide +kernel) (by decide +kernel)
set_option maxRecDepth 20000 in
theorem gX0_betterOfTwo_X0_giveBack : GoodIn wsX0_betterOfTwo (wsV RX0 94 RX0 yX0_giveBack wsX0_giveBack) := goodIn_app (goodIn_of _ (by decide +kernel)) ggX0_betterOfTwo_X0_giveBack
theorem dX0_betterOfTwo_0 : decode cX0_betterOfTwo 0 = .ok (.aload_n 0, 1) := by decide +kernel
theorem dX0_betterOfTwo_1 : decode cX0_betterOfTwo 1 = .ok (.invokevirtual 91, 3) := by decide +kernel
theorem dX0_betterOfTwo_4 : decode cX0_betterOfTwo 4 = .ok (.istore_n 1, 1) := by decide +kernel
theorem dX0_betterOfTwo_5 : decode cX0_betterOfTwo 5 = .ok (.aload_n 0, 1) := by decide +kernel
theorem dX0_betterOfTwo_6 : decode cX0_betterOfTwo 6 = .ok (.invokevirtual 91, 3) := by decide +kernel
theorem dX0_betterOfTwo_9 : decode cX0_betterOfTwo 9 = .ok (.istore_n 2, 1) := by decide +kernel
theorem dX0_betterOfTwo_10 : decode cX0_betterOfTwo 10 = .ok (.iload_n 1, 1) := by decide +kernel
theorem dX0_betterOfTwo_11 : decode cX0_betterOfTwo 11 = .ok (.iconst (-1), 1) := by decide +kernel
theorem dX0_betterOfTwo_12 : decode cX0_betterOfTwo 12 = .ok (.if_icmp .eq 15, 3) := by decide +kernel
theorem dX0_betterOfTwo_15 : decode cX0_betterOfTwo 15 = .ok (.aload_n 0, 1) := by decide +kernel
theorem dX0_betterOfTwo_16 : decode cX0_betterOfTwo 16 = .ok (.iload_n 1, 1) := by decide +kernel
theorem dX0_betterOfTwo_17 : decode cX0_betterOfTwo 17 = .ok (.invokevirtual 73, 3) := by decide +kernel
theorem dX0_betterOfTwo_20 : decode cX0_betterOfTwo 20 = .ok (.ifCond .eq 7, 3) := by decide +kernel
theorem dX0_betterOfTwo_23 : decode cX0_betterOfTwo 23 = .ok (.iconst 1, 1) := by decide +kernel
theorem dX0_betterOfTwo_24 : decode cX0_betterOfTwo 24 = .ok (.goto 4, 3) := by decide +kernel
theorem dX0_betterOfTwo_27 : decode cX0_betterOfTwo 27 = .ok (.iconst 0, 1) := by decide +kernel
theorem dX0_betterOfTwo_28 : decode cX0_betterOfTwo 28 = .ok (.istore_n 3, 1) := by decide +kernel
theorem dX0_betterOfTwo_29 : decode cX0_betterOfTwo 29 = .ok (.iload_n 2, 1) := by decide +kernel
theorem dX0_betterOfTwo_30 : decode cX0_betterOfTwo 30 = .ok (.iconst (-1), 1) := by decide +kernel
theorem dX0_betterOfTwo_31 : decode cX0_betterOfTwo 31 = .ok (.if_icmp .eq 15, 3) := by decide +kernel
theorem dX0_betterOfTwo_34 : decode cX0_betterOfTwo 34 = .ok (.aload_n 0, 1) := by decide +kernel
theorem dX0_betterOfTwo_35 : decode cX0_betterOfTwo 35 = .ok (.iload_n 2, 1) := by decide +kernel
theorem dX0_betterOfTwo_36 : decode cX0_betterOfTwo 36 = .ok (.invokevirtual 73, 3) := by decide +kernel
theorem dX0_betterOfTwo_39 : decode cX0_betterOfTwo 39 = .ok (.ifCond .eq 7, 3) := by decide +kernel
theorem dX0_betterOfTwo_42 : decode cX0_betterOfTwo 42 = .ok (.iconst 1, 1) := by decide +kernel
theorem dX0_betterOfTwo_43 : decode cX0_betterOfTwo 43 = .ok (.goto 4, 3) := by decide +kernel
theorem dX0_betterOfTwo_46 : decode cX0_betterOfTwo 46 = .ok (.iconst 0, 1) := by decide +kernel
theorem dX0_betterOfTwo_47 : decode cX0_betterOfTwo 47 = .ok (.istore 4, 2) := by decide +kernel
theorem dX0_betterOfTwo_49 : decode cX0_betterOfTwo 49 = .ok (.iload_n 3, 1) := by decide +kernel
theorem dX0_betterOfTwo_50 : decode cX0_betterOfTwo 50 = .ok (.ifCond .eq 35, 3) := by decide +kernel
theorem dX0_betterOfTwo_53 : decode cX0_betterOfTwo 53 = .ok (.iload 4, 2) := by decide +kernel
theorem dX0_betterOfTwo_55 : decode cX0_betterOfTwo 55 = .ok (.ifCond .eq 30, 3) := by decide +kernel
theorem dX0_betterOfTwo_58 : decode cX0_betterOfTwo 58 = .ok (.aload_n 0, 1) := by decide +kernel
theorem dX0_betterOfTwo_59 : decode cX0_betterOfTwo 59 = .ok (.getfield 19, 3) := by decide +kernel
theorem dX0_betterOfTwo_62 : decode cX0_betterOfTwo 62 = .ok (.getfield 64, 3) := by decide +kernel
theorem dX0_betterOfTwo_65 : decode cX0_betterOfTwo 65 = .ok (.iload_n 1, 1) := by decide +kernel
theorem dX0_betterOfTwo_66 : decode cX0_betterOfTwo 66 = .ok (.iaload, 1) := by decide +kernel
theorem dX0_betterOfTwo_67 : decode cX0_betterOfTwo 67 = .ok (.aload_n 0, 1) := by decide +kernel
theorem dX0_betterOfTwo_68 : decode cX0_betterOfTwo 68 = .ok (.getfield 19, 3) := by decide +kernel
theorem dX0_betterOfTwo_71 : decode cX0_betterOfTwo 71 = .ok (.getfield 64, 3) := by decide +kernel
theorem dX0_betterOfTwo_74 : decode cX0_betterOfTwo 74 = .ok (.iload_n 2, 1) := by decide +kernel
theorem dX0_betterOfTwo_75 : decode cX0_betterOfTwo 75 = .ok (.iaload, 1) := by decide +kernel
theorem dX0_betterOfTwo_76 : decode cX0_betterOfTwo 76 = .ok (.if_icmp .lt 7, 3) := by decide +kernel
theorem dX0_betterOfTwo_79 : decode cX0_betterOfTwo 79 = .ok (.iconst 1, 1) := by decide +kernel
theorem dX0_betterOfTwo_80 : decode cX0_betterOfTwo 80 = .ok (.goto 4, 3) := by decide +kernel
theorem dX0_betterOfTwo_83 : decode cX0_betterOfTwo 83 = .ok (.iconst 0, 1) := by decide +kernel
theorem dX0_betterOfTwo_84 : decode cX0_betterOfTwo 84 = .ok (.istore_n 3, 1) := by decide +kernel
theorem dX0_betterOfTwo_85 : decode cX0_betterOfTwo 85 = .ok (.iload_n 3, 1) := by decide +kernel
theorem dX0_betterOfTwo_86 : decode cX0_betterOfTwo 86 = .ok (.ifCond .eq 10, 3) := by decide +kernel
theorem dX0_betterOfTwo_89 : decode cX0_betterOfTwo 89 = .ok (.aload_n 0, 1) := by decide +kernel
theorem dX0_betterOfTwo_90 : decode cX0_betterOfTwo 90 = .ok (.iload_n 2, 1) := by decide +kernel
theorem dX0_betterOfTwo_91 : decode cX0_betterOfTwo 91 = .ok (.invokevirtual 94, 3) := by decide +kernel
theorem dX0_betterOfTwo_94 : decode cX0_betterOfTwo 94 = .ok (.iload_n 1, 1) := by decide +kernel
theorem dX0_betterOfTwo_95 : decode cX0_betterOfTwo 95 = .ok (.ireturn, 1) := by decide +kernel
theorem dX0_betterOfTwo_96 : decode cX0_betterOfTwo 96 = .ok (.iload 4, 2) := by decide +kernel
theorem dX0_betterOfTwo_98 : decode cX0_betterOfTwo 98 = .ok (.ifCond .eq 10, 3) := by decide +kernel
theorem dX0_betterOfTwo_101 : decode cX0_betterOfTwo 101 = .ok (.aload_n 0, 1) := by decide +kernel
theorem dX0_betterOfTwo_102 : decode cX0_betterOfTwo 102 = .ok (.iload_n 1, 1) := by decide +kernel
theorem dX0_betterOfTwo_103 : decode cX0_betterOfTwo 103 = .ok (.invokevirtual 94, 3) := by decide +kernel
theorem dX0_betterOfTwo_106 : decode cX0_betterOfTwo 106 = .ok (.iload_n 2, 1) := by decide +kernel
theorem dX0_betterOfTwo_107 : decode cX0_betterOfTwo 107 = .ok (.ireturn, 1) := by decide +kernel
theorem dX0_betterOfTwo_108 : decode cX0_betterOfTwo 108 = .ok (.iconst (-1), 1) := by decide +kernel
theorem dX0_betterOfTwo_109 : decode cX0_betterOfTwo 109 = .ok (.ireturn, 1) := by decide +kernel
theorem dX0_giveBack_0 : decode cX0_giveBack 0 = .ok (.iload_n 1, 1) := by decide +kernel
theorem dX0_giveBack_1 : decode cX0_giveBack 1 = .ok (.iconst (-1), 1) := by decide +kernel
theorem dX0_giveBack_2 : decode cX0_giveBack 2 = .ok (.if_icmp .eq 16, 3) := by decide +kernel
theorem dX0_giveBack_5 : decode cX0_giveBack 5 = .ok (.aload_n 0, 1) := by decide +kernel
theorem dX0_giveBack_6 : decode cX0_giveBack 6 = .ok (.getfield 19, 3) := by decide +kernel
theorem dX0_giveBack_9 : decode cX0_giveBack 9 = .ok (.getfield 61, 3) := by decide +kernel
theorem dX0_giveBack_12 : decode cX0_giveBack 12 = .ok (.iload_n 1, 1) := by decide +kernel
theorem dX0_giveBack_13 : decode cX0_giveBack 13 = .ok (.dup2, 1) := by decide +kernel
theorem dX0_giveBack_14 : decode cX0_giveBack 14 = .ok (.iaload, 1) := by decide +kernel
theorem dX0_giveBack_15 : decode cX0_giveBack 15 = .ok (.iconst 1, 1) := by decide +kernel
theorem dX0_giveBack_16 : decode cX0_giveBack 16 = .ok (.iadd, 1) := by decide +kernel
theorem dX0_giveBack_17 : decode cX0_giveBack 17 = .ok (.iastore, 1) := by decide +kernel
theorem dX0_giveBack_18 : decode cX0_giveBack 18 = .ok (.return_, 1) := by decide +kernel
set_option maxRecDepth 20000 in
theorem ggX0_drawn_X3_slatesInHeap : GoodIn wsX0_drawn wsX3_slatesInHeap := goodIn_r _ [12, 13, 14, 23, 24, 25, 26, 27, 28, 29, 30, 31] (by decide +kernel) (by decide +kernel)
set_option maxRecDepth 20000 in
theorem gX0_drawn_X3_slatesInHeap : GoodIn wsX0_drawn (wsV RX0 98 RX3 yX3_slatesInHeap wsX3_slatesInHeap) := goodIn_app (goodIn_of _ (by decide +kernel)) ggX0_drawn_X3_slatesInHeap
theorem dX0_drawn_0 : decode cX0_drawn 0 = .ok (.aload_n 0, 1) := by decide +kernel
theorem dX0_drawn_1 : decode cX0_drawn 1 = .ok (.getfield 19, 3) := by decide +kernel
theorem dX0_drawn_4 : decode cX0_drawn 4 = .ok (.invokevirtual 98, 3) := by decide +kernel
theorem dX0_drawn_7 : decode cX0_drawn 7 = .ok (.istore_n 1, 1) := by decide +kernel
theorem dX0_drawn_8 : decode cX0_drawn 8 = .ok (.iload_n 1, 1) := by decide +kernel
theorem dX0_drawn_9 : decode cX0_drawn 9 = .ok (.ifCond .gt 5, 3) := by decide +kernel
theorem dX0_drawn_12 : decode cX0_drawn 12 = .ok (.iconst (-1), 1) := by decide +kernel
theorem dX0_drawn_13 : decode cX0_drawn 13 = .ok (.ireturn, 1) := by decide +kernel
theorem dX0_drawn_14 : decode cX0_drawn 14 = .ok (.aload_n 0, 1) := by decide +kernel
theorem dX0_drawn_15 : decode cX0_drawn 15 = .ok (.aload_n 0, 1) := by decide +kernel
theorem dX0_drawn_16 : decode cX0_drawn 16 = .ok (.getfield 30, 3) := by decide +kernel
theorem dX0_drawn_19 : decode cX0_drawn 19 = .ok (.ldc 101, 2) := by decide +kernel
theorem dX0_drawn_21 : decode cX0_drawn 21 = .ok (.imul, 1) := by decide +kernel
theorem dX0_drawn_22 : decode cX0_drawn 22 = .ok (.sipush 12345, 3) := by decide +kernel
theorem dX0_drawn_25 : decode cX0_drawn 25 = .ok (.iadd, 1) := by decide +kernel
theorem dX0_drawn_26 : decode cX0_drawn 26 = .ok (.putfield 30, 3) := by decide +kernel
theorem dX0_drawn_29 : decode cX0_drawn 29 = .ok (.aload_n 0, 1) := by decide +kernel
theorem dX0_drawn_30 : decode cX0_drawn 30 = .ok (.getfield 30, 3) := by decide +kernel
theorem dX0_drawn_33 : decode cX0_drawn 33 = .ok (.ldc 102, 2) := by decide +kernel
theorem dX0_drawn_35 : decode cX0_drawn 35 = .ok (.iand, 1) := by decide +kernel
theorem dX0_drawn_36 : decode cX0_drawn 36 = .ok (.ldc 103, 2) := by decide +kernel
theorem dX0_drawn_38 : decode cX0_drawn 38 = .ok (.idiv, 1) := by decide +kernel
theorem dX0_drawn_39 : decode cX0_drawn 39 = .ok (.iload_n 1, 1) := by decide +kernel
theorem dX0_drawn_40 : decode cX0_drawn 40 = .ok (.irem, 1) := by decide +kernel
theorem dX0_drawn_41 : decode cX0_drawn 41 = .ok (.istore_n 2, 1) := by decide +kernel
theorem dX0_drawn_42 : decode cX0_drawn 42 = .ok (.iconst 0, 1) := by decide +kernel
theorem dX0_drawn_43 : decode cX0_drawn 43 = .ok (.istore_n 3, 1) := by decide +kernel
theorem dX0_drawn_44 : decode cX0_drawn 44 = .ok (.iload_n 3, 1) := by decide +kernel
theorem dX0_drawn_45 : decode cX0_drawn 45 = .ok (.aload_n 0, 1) := by decide +kernel
theorem dX0_drawn_46 : decode cX0_drawn 46 = .ok (.getfield 19, 3) := by decide +kernel
theorem dX0_drawn_49 : decode cX0_drawn 49 = .ok (.getfield 70, 3) := by decide +kernel
theorem dX0_drawn_52 : decode cX0_drawn 52 = .ok (.if_icmp .ge 49, 3) := by decide +kernel
theorem dX0_drawn_55 : decode cX0_drawn 55 = .ok (.iload_n 2, 1) := by decide +kernel
theorem dX0_drawn_56 : decode cX0_drawn 56 = .ok (.aload_n 0, 1) := by decide +kernel
theorem dX0_drawn_57 : decode cX0_drawn 57 = .ok (.getfield 19, 3) := by decide +kernel
theorem dX0_drawn_60 : decode cX0_drawn 60 = .ok (.getfield 61, 3) := by decide +kernel
theorem dX0_drawn_63 : decode cX0_drawn 63 = .ok (.iload_n 3, 1) := by decide +kernel
theorem dX0_drawn_64 : decode cX0_drawn 64 = .ok (.iaload, 1) := by decide +kernel
theorem dX0_drawn_65 : decode cX0_drawn 65 = .ok (.if_icmp .ge 18, 3) := by decide +kernel
theorem dX0_drawn_68 : decode cX0_drawn 68 = .ok (.aload_n 0, 1) := by decide +kernel
theorem dX0_drawn_69 : decode cX0_drawn 69 = .ok (.getfield 19, 3) := by decide +kernel
theorem dX0_drawn_72 : decode cX0_drawn 72 = .ok (.getfield 61, 3) := by decide +kernel
theorem dX0_drawn_75 : decode cX0_drawn 75 = .ok (.iload_n 3, 1) := by decide +kernel
theorem dX0_drawn_76 : decode cX0_drawn 76 = .ok (.dup2, 1) := by decide +kernel
theorem dX0_drawn_77 : decode cX0_drawn 77 = .ok (.iaload, 1) := by decide +kernel
theorem dX0_drawn_78 : decode cX0_drawn 78 = .ok (.iconst 1, 1) := by decide +kernel
theorem dX0_drawn_79 : decode cX0_drawn 79 = .ok (.isub, 1) := by decide +kernel
theorem dX0_drawn_80 : decode cX0_drawn 80 = .ok (.iastore, 1) := by decide +kernel
theorem dX0_drawn_81 : decode cX0_drawn 81 = .ok (.iload_n 3, 1) := by decide +kernel
theorem dX0_drawn_82 : decode cX0_drawn 82 = .ok (.ireturn, 1) := by decide +kernel
theorem dX0_drawn_83 : decode cX0_drawn 83 = .ok (.iload_n 2, 1) := by decide +kernel
theorem dX0_drawn_84 : decode cX0_drawn 84 = .ok (.aload_n 0, 1) := by decide +kernel
theorem dX0_drawn_85 : decode cX0_drawn 85 = .ok (.getfield 19, 3) := by decide +kernel
theorem dX0_drawn_88 : decode cX0_drawn 88 = .ok (.getfield 61, 3) := by decide +kernel
theorem dX0_drawn_91 : decode cX0_drawn 91 = .ok (.iload_n 3, 1) := by decide +kernel
theorem dX0_drawn_92 : decode cX0_drawn 92 = .ok (.iaload, 1) := by decide +kernel
theorem dX0_drawn_93 : decode cX0_drawn 93 = .ok (.isub, 1) := by decide +kernel
theorem dX0_drawn_94 : decode cX0_drawn 94 = .ok (.istore_n 2, 1) := by decide +kernel
theorem dX0_drawn_95 : decode cX0_drawn 95 = .ok (.iinc 3 1, 3) := by decide +kernel
theorem dX0_drawn_98 : decode cX0_drawn 98 = .ok (.goto (-54), 3) := by decide +kernel
theorem dX0_drawn_101 : decode cX0_drawn 101 = .ok (.iconst (-1), 1) := by decide +kernel
theorem dX0_drawn_102 : decode cX0_drawn 102 = .ok (.ireturn, 1) := by decide +kernel
theorem dX1_init_0 : decode cX1_init 0 = .ok (.aload_n 0, 1) := by decide +kernel
theorem dX1_init_1 : decode cX1_init 1 = .ok (.invokespecial 3, 3) := by decide +kernel
theorem dX1_init_4 : decode cX1_init 4 = .ok (.aload_n 0, 1) := by decide +kernel
theorem dX1_init_5 : decode cX1_init 5 = .ok (.iload_n 1, 1) := by decide +kernel
theorem dX1_init_6 : decode cX1_init 6 = .ok (.putfield 9, 3) := by decide +kernel
theorem dX1_init_9 : decode cX1_init 9 = .ok (.aload_n 0, 1) := by decide +kernel
theorem dX1_init_10 : decode cX1_init 10 = .ok (.iload_n 2, 1) := by decide +kernel
theorem dX1_init_11 : decode cX1_init 11 = .ok (.putfield 15, 3) := by decide +kernel
theorem dX1_init_14 : decode cX1_init 14 = .ok (.return_, 1) := by decide +kernel
theorem dX1_effort_0 : decode cX1_effort 0 = .ok (.aload_n 0, 1) := by decide +kernel
theorem dX1_effort_1 : decode cX1_effort 1 = .ok (.getfield 9, 3) := by decide +kernel
theorem dX1_effort_4 : decode cX1_effort 4 = .ok (.tableswitch 85 1 6 #[40, 47, 50, 59, 66, 74], 40) := by decide +kernel
theorem dX1_effort_44 : decode cX1_effort 44 = .ok (.iconst 2, 1) := by decide +kernel
theorem dX1_effort_45 : decode cX1_effort 45 = .ok (.aload_n 0, 1) := by decide +kernel
theorem dX1_effort_46 : decode cX1_effort 46 = .ok (.getfield 15, 3) := by decide +kernel
theorem dX1_effort_49 : decode cX1_effort 49 = .ok (.iadd, 1) := by decide +kernel
theorem dX1_effort_50 : decode cX1_effort 50 = .ok (.ireturn, 1) := by decide +kernel
theorem dX1_effort_51 : decode cX1_effort 51 = .ok (.bipush 6, 2) := by decide +kernel
theorem dX1_effort_53 : decode cX1_effort 53 = .ok (.ireturn, 1) := by decide +kernel
theorem dX1_effort_54 : decode cX1_effort 54 = .ok (.iconst 2, 1) := by decide +kernel
theorem dX1_effort_55 : decode cX1_effort 55 = .ok (.aload_n 0, 1) := by decide +kernel
theorem dX1_effort_56 : decode cX1_effort 56 = .ok (.getfield 15, 3) := by decide +kernel
theorem dX1_effort_59 : decode cX1_effort 59 = .ok (.iadd, 1) := by decide +kernel
theorem dX1_effort_60 : decode cX1_effort 60 = .ok (.iconst 4, 1) := by decide +kernel
theorem dX1_effort_61 : decode cX1_effort 61 = .ok (.iadd, 1) := by decide +kernel
theorem dX1_effort_62 : decode cX1_effort 62 = .ok (.ireturn, 1) := by decide +kernel
theorem dX1_effort_63 : decode cX1_effort 63 = .ok (.iconst 2, 1) := by decide +kernel
theorem dX1_effort_64 : decode cX1_effort 64 = .ok (.aload_n 0, 1) := by decide +kernel
theorem dX1_effort_65 : decode cX1_effort 65 = .ok (.getfield 15, 3) := by decide +kernel
theorem dX1_effort_68 : decode cX1_effort 68 = .ok (.isub, 1) := by decide +kernel
theorem dX1_effort_69 : decode cX1_effort 69 = .ok (.ireturn, 1) := by decide +kernel
theorem dX1_effort_70 : decode cX1_effort 70 = .ok (.bipush 6, 2) := by decide +kernel
theorem dX1_effort_72 : decode cX1_effort 72 = .ok (.aload_n 0, 1) := by decide +kernel
theorem dX1_effort_73 : decode cX1_effort 73 = .ok (.getfield 15, 3) := by decide +kernel
theorem dX1_effort_76 : decode cX1_effort 76 = .ok (.iadd, 1) := by decide +kernel
theorem dX1_effort_77 : decode cX1_effort 77 = .ok (.ireturn, 1) := by decide +kernel
theorem dX1_effort_78 : decode cX1_effort 78 = .ok (.iconst 2, 1) := by decide +kernel
theorem dX1_effort_79 : decode cX1_effort 79 = .ok (.aload_n 0, 1) := by decide +kernel
theorem dX1_effort_80 : decode cX1_effort 80 = .ok (.getfield 15, 3) := by decide +kernel
theorem dX1_effort_83 : decode cX1_effort 83 = .ok (.iadd, 1) := by decide +kernel
theorem dX1_effort_84 : decode cX1_effort 84 = .ok (.iconst 4, 1) := by decide +kernel
theorem dX1_effort_85 : decode cX1_effort 85 = .ok (.iadd, 1) := by decide +kernel
theorem dX1_effort_86 : decode cX1_effort 86 = .ok (.iconst 2, 1) := by decide +kernel
theorem dX1_effort_87 : decode cX1_effort 87 = .ok (.idiv, 1) := by decide +kernel
theorem dX1_effort_88 : decode cX1_effort 88 = .ok (.ireturn, 1) := by decide +kernel
theorem dX1_effort_89 : decode cX1_effort 89 = .ok (.iconst 2, 1) := by decide +kernel
theorem dX1_effort_90 : decode cX1_effort 90 = .ok (.ireturn, 1) := by decide +kernel
theorem dX1_rank_0 : decode cX1_rank 0 = .ok (.aload_n 0, 1) := by decide +kernel
theorem dX1_rank_1 : decode cX1_rank 1 = .ok (.getfield 9, 3) := by decide +kernel
theorem dX1_rank_4 : decode cX1_rank 4 = .ok (.tableswitch 57 1 6 #[40, 57, 43, 40, 57, 45], 40) := by decide +kernel
theorem dX1_rank_44 : decode cX1_rank 44 = .ok (.iload_n 2, 1) := by decide +kernel
theorem dX1_rank_45 : decode cX1_rank 45 = .ok (.ineg, 1) := by decide +kernel
theorem dX1_rank_46 : decode cX1_rank 46 = .ok (.ireturn, 1) := by decide +kernel
theorem dX1_rank_47 : decode cX1_rank 47 = .ok (.iload_n 2, 1) := by decide +kernel
theorem dX1_rank_48 : decode cX1_rank 48 = .ok (.ireturn, 1) := by decide +kernel
theorem dX1_rank_49 : decode cX1_rank 49 = .ok (.iload_n 1, 1) := by decide +kernel
theorem dX1_rank_50 : decode cX1_rank 50 = .ok (.aload_n 0, 1) := by decide +kernel
theorem dX1_rank_51 : decode cX1_rank 51 = .ok (.getfield 15, 3) := by decide +kernel
theorem dX1_rank_54 : decode cX1_rank 54 = .ok (.iconst 4, 1) := by decide +kernel
theorem dX1_rank_55 : decode cX1_rank 55 = .ok (.irem, 1) := by decide +kernel
theorem dX1_rank_56 : decode cX1_rank 56 = .ok (.isub, 1) := by decide +kernel
theorem dX1_rank_57 : decode cX1_rank 57 = .ok (.invokestatic 18, 3) := by decide +kernel
theorem dX1_rank_60 : decode cX1_rank 60 = .ok (.ireturn, 1) := by decide +kernel
theorem dX1_rank_61 : decode cX1_rank 61 = .ok (.iload_n 1, 1) := by decide +kernel
theorem dX1_rank_62 : decode cX1_rank 62 = .ok (.ireturn, 1) := by decide +kernel
theorem dX1_isHanded_0 : decode cX1_isHanded 0 = .ok (.aload_n 0, 1) := by decide +kernel
theorem dX1_isHanded_1 : decode cX1_isHanded 1 = .ok (.getfield 9, 3) := by decide +kernel
theorem dX1_isHanded_4 : decode cX1_isHanded 4 = .ok (.iconst 2, 1) := by decide +kernel
theorem dX1_isHanded_5 : decode cX1_isHanded 5 = .ok (.if_icmp .eq 11, 3) := by decide +kernel
theorem dX1_isHanded_8 : decode cX1_isHanded 8 = .ok (.aload_n 0, 1) := by decide +kernel
theorem dX1_isHanded_9 : decode cX1_isHanded 9 = .ok (.getfield 9, 3) := by decide +kernel
theorem dX1_isHanded_12 : decode cX1_isHanded 12 = .ok (.iconst 5, 1) := by decide +kernel
theorem dX1_isHanded_13 : decode cX1_isHanded 13 = .ok (.if_icmp .ne 7, 3) := by decide +kernel
theorem dX1_isHanded_16 : decode cX1_isHanded 16 = .ok (.iconst 1, 1) := by decide +kernel
theorem dX1_isHanded_17 : decode cX1_isHanded 17 = .ok (.goto 4, 3) := by decide +kernel
theorem dX1_isHanded_20 : decode cX1_isHanded 20 = .ok (.iconst 0, 1) := by decide +kernel
theorem dX1_isHanded_21 : decode cX1_isHanded 21 = .ok (.ireturn, 1) := by decide +kernel
theorem dX1_isMany_0 : decode cX1_isMany 0 = .ok (.aload_n 0, 1) := by decide +kernel
theorem dX1_isMany_1 : decode cX1_isMany 1 = .ok (.getfield 9, 3) := by decide +kernel
theorem dX1_isMany_4 : decode cX1_isMany 4 = .ok (.iconst 5, 1) := by decide +kernel
theorem dX1_isMany_5 : decode cX1_isMany 5 = .ok (.if_icmp .ne 7, 3) := by decide +kernel
theorem dX1_isMany_8 : decode cX1_isMany 8 = .ok (.iconst 1, 1) := by decide +kernel
theorem dX1_isMany_9 : decode cX1_isMany 9 = .ok (.goto 4, 3) := by decide +kernel
theorem dX1_isMany_12 : decode cX1_isMany 12 = .ok (.iconst 0, 1) := by decide +kernel
theorem dX1_isMany_13 : decode cX1_isMany 13 = .ok (.ireturn, 1) := by decide +kernel
theorem dX1_mostAsides_0 : decode cX1_mostAsides 0 = .ok (.aload_n 0, 1) := by decide +kernel
theorem dX1_mostAsides_1 : decode cX1_mostAsides 1 = .ok (.getfield 15, 3) := by decide +kernel
theorem dX1_mostAsides_4 : decode cX1_mostAsides 4 = .ok (.iconst 2, 1) := by decide +kernel
theorem dX1_mostAsides_5 : decode cX1_mostAsides 5 = .ok (.iadd, 1) := by decide +kernel
theorem dX1_mostAsides_6 : decode cX1_mostAsides 6 = .ok (.ireturn, 1) := by decide +kernel
set_option maxRecDepth 20000 in
theorem ggX1_fail_X1_isHanded : GoodIn wsX1_fail wsX1_isHanded := goodIn_r _ [13, 8, 14, 15] (by decide +kernel) (by decide +kernel)
set_option maxRecDepth 20000 in
theorem gX1_fail_X1_isHanded : GoodIn wsX1_fail (wsV RX1 31 RX1 yX1_isHanded wsX1_isHanded) := goodIn_app (goodIn_of _ (by decide +kernel)) ggX1_fail_X1_isHanded
theorem dX1_fail_0 : decode cX1_fail 0 = .ok (.aload_n 0, 1) := by decide +kernel
theorem dX1_fail_1 : decode cX1_fail 1 = .ok (.getfield 15, 3) := by decide +kernel
theorem dX1_fail_4 : decode cX1_fail 4 = .ok (.ifCond .eq 11, 3) := by decide +kernel
theorem dX1_fail_7 : decode cX1_fail 7 = .ok (.aload_n 0, 1) := by decide +kernel
theorem dX1_fail_8 : decode cX1_fail 8 = .ok (.getfield 9, 3) := by decide +kernel
theorem dX1_fail_11 : decode cX1_fail 11 = .ok (.iconst 4, 1) := by decide +kernel
theorem dX1_fail_12 : decode cX1_fail 12 = .ok (.if_icmp .ne 4, 3) := by decide +kernel
theorem dX1_fail_15 : decode cX1_fail 15 = .ok (.return_, 1) := by decide +kernel
theorem dX1_fail_16 : decode cX1_fail 16 = .ok (.aload_n 0, 1) := by decide +kernel
theorem dX1_fail_17 : decode cX1_fail 17 = .ok (.getfield 9, 3) := by decide +kernel
theorem dX1_fail_20 : decode cX1_fail 20 = .ok (.bipush 6, 2) := by decide +kernel
theorem dX1_fail_22 : decode cX1_fail 22 = .ok (.if_icmp .ne 13, 3) := by decide +kernel
theorem dX1_fail_25 : decode cX1_fail 25 = .ok (.new 24, 3) := by decide +kernel
theorem dX1_fail_28 : decode cX1_fail 28 = .ok (.dup, 1) := by decide +kernel
theorem dX1_fail_29 : decode cX1_fail 29 = .ok (.ldc 26, 2) := by decide +kernel
theorem dX1_fail_31 : decode cX1_fail 31 = .ok (.invokespecial 28, 3) := by decide +kernel
theorem dX1_fail_34 : decode cX1_fail 34 = .ok (.athrow, 1) := by decide +kernel
theorem dX1_fail_35 : decode cX1_fail 35 = .ok (.aload_n 0, 1) := by decide +kernel
theorem dX1_fail_36 : decode cX1_fail 36 = .ok (.invokevirtual 31, 3) := by decide +kernel
theorem dX1_fail_39 : decode cX1_fail 39 = .ok (.ifCond .eq 13, 3) := by decide +kernel
theorem dX1_fail_42 : decode cX1_fail 42 = .ok (.new 35, 3) := by decide +kernel
theorem dX1_fail_45 : decode cX1_fail 45 = .ok (.dup, 1) := by decide +kernel
theorem dX1_fail_46 : decode cX1_fail 46 = .ok (.ldc 37, 2) := by decide +kernel
theorem dX1_fail_48 : decode cX1_fail 48 = .ok (.invokespecial 39, 3) := by decide +kernel
theorem dX1_fail_51 : decode cX1_fail 51 = .ok (.athrow, 1) := by decide +kernel
theorem dX1_fail_52 : decode cX1_fail 52 = .ok (.new 40, 3) := by decide +kernel
theorem dX1_fail_55 : decode cX1_fail 55 = .ok (.dup, 1) := by decide +kernel
theorem dX1_fail_56 : decode cX1_fail 56 = .ok (.ldc 42, 2) := by decide +kernel
theorem dX1_fail_58 : decode cX1_fail 58 = .ok (.invokespecial 44, 3) := by decide +kernel
theorem dX1_fail_61 : decode cX1_fail 61 = .ok (.athrow, 1) := by decide +kernel
theorem dX2_init_0 : decode cX2_init 0 = .ok (.aload_n 0, 1) := by decide +kernel
theorem dX2_init_1 : decode cX2_init 1 = .ok (.invokespecial 3, 3) := by decide +kernel
theorem dX2_init_4 : decode cX2_init 4 = .ok (.aload_n 0, 1) := by decide +kernel
theorem dX2_init_5 : decode cX2_init 5 = .ok (.iconst 3, 1) := by decide +kernel
theorem dX2_init_6 : decode cX2_init 6 = .ok (.newarray .int, 2) := by decide +kernel
theorem dX2_init_8 : decode cX2_init 8 = .ok (.putfield 9, 3) := by decide +kernel
theorem dX2_init_11 : decode cX2_init 11 = .ok (.aload_n 0, 1) := by decide +kernel
theorem dX2_init_12 : decode cX2_init 12 = .ok (.iconst 0, 1) := by decide +kernel
theorem dX2_init_13 : decode cX2_init 13 = .ok (.putfield 15, 3) := by decide +kernel
theorem dX2_init_16 : decode cX2_init 16 = .ok (.aload_n 0, 1) := by decide +kernel
theorem dX2_init_17 : decode cX2_init 17 = .ok (.iconst 0, 1) := by decide +kernel
theorem dX2_init_18 : decode cX2_init 18 = .ok (.putfield 19, 3) := by decide +kernel
theorem dX2_init_21 : decode cX2_init 21 = .ok (.aload_n 0, 1) := by decide +kernel
theorem dX2_init_22 : decode cX2_init 22 = .ok (.aload_n 1, 1) := by decide +kernel
theorem dX2_init_23 : decode cX2_init 23 = .ok (.putfield 22, 3) := by decide +kernel
theorem dX2_init_26 : decode cX2_init 26 = .ok (.aload_n 0, 1) := by decide +kernel
theorem dX2_init_27 : decode cX2_init 27 = .ok (.aload_n 2, 1) := by decide +kernel
theorem dX2_init_28 : decode cX2_init 28 = .ok (.putfield 26, 3) := by decide +kernel
theorem dX2_init_31 : decode cX2_init 31 = .ok (.return_, 1) := by decide +kernel
set_option maxRecDepth 20000 in
theorem ggX2_read_X2_readStatement : GoodIn wsX2_read wsX2_readStatement := goodIn_r _ [8, 9, 1, 10, 11, 12, 7, 13, 2, 14, 15, 16, 17, 18, 19, 20, 21, 22, 23, 24, 25, 26, 27, 28, 29, 30, 31, 32, 33, 64, 65, 66, 67, 68, 69, 70, 71, 72, 73] (by decide +kernel) (by decide +kernel)
set_option maxRecDepth 20000 in
theorem gX2_read_X2_readStatement : GoodIn wsX2_read (wsV RX2 35 RX2 yX2_readStatement wsX2_readStatement) := goodIn_app (goodIn_of _ (by decide +kernel)) ggX2_read_X2_readStatement
set_option maxRecDepth 20000 in
theorem ggX2_read_X2_carryOut : GoodIn wsX2_read wsX2_carryOut := goodIn_r _ [37, 9, 38, 25, 39, 40, 41, 42, 43, 44, 45, 46, 47, 48, 49, 50, 51, 52, 53, 54, 55, 56, 57, 58, 59, 60, 61, 62, 63, 64, 65, 66, 67, 68, 74, 75, 76, 77, 78, 79, 80, 81, 82] (by decide +kernel) (by decide +kernel)
set_option maxRecDepth 20000 in
theorem gX2_read_X2_carryOut : GoodIn wsX2_read (wsV RX2 39 RX2 yX2_carryOut wsX2_carryOut) := goodIn_app (goodIn_of _ (by decide +kernel)) ggX2_read_X2_carryOut
theorem dX2_read_0 : decode cX2_read 0 = .ok (.iconst 0, 1) := by decide +kernel
theorem dX2_read_1 : decode cX2_read 1 = .ok (.istore_n 1, 1) := by decide +kernel
theorem dX2_read_2 : decode cX2_read 2 = .ok (.iconst (-1), 1) := by decide +kernel
theorem dX2_read_3 : decode cX2_read 3 = .ok (.istore_n 2, 1) := by decide +kernel
theorem dX2_read_4 : decode cX2_read 4 = .ok (.iload_n 1, 1) := by decide +kernel
theorem dX2_read_5 : decode cX2_read 5 = .ok (.ifCond .eq 23, 3) := by decide +kernel
theorem dX2_read_8 : decode cX2_read 8 = .ok (.aload_n 0, 1) := by decide +kernel
theorem dX2_read_9 : decode cX2_read 9 = .ok (.getfield 19, 3) := by decide +kernel
theorem dX2_read_12 : decode cX2_read 12 = .ok (.aload_n 0, 1) := by decide +kernel
theorem dX2_read_13 : decode cX2_read 13 = .ok (.getfield 22, 3) := by decide +kernel
theorem dX2_read_16 : decode cX2_read 16 = .ok (.getfield 30, 3) := by decide +kernel
theorem dX2_read_19 : decode cX2_read 19 = .ok (.if_icmp .ge 50, 3) := by decide +kernel
theorem dX2_read_22 : decode cX2_read 22 = .ok (.iload_n 1, 1) := by decide +kernel
theorem dX2_read_23 : decode cX2_read 23 = .ok (.bipush 100, 2) := by decide +kernel
theorem dX2_read_25 : decode cX2_read 25 = .ok (.if_icmp .ge 44, 3) := by decide +kernel
theorem dX2_read_28 : decode cX2_read 28 = .ok (.aload_n 0, 1) := by decide +kernel
theorem dX2_read_29 : decode cX2_read 29 = .ok (.getfield 19, 3) := by decide +kernel
theorem dX2_read_32 : decode cX2_read 32 = .ok (.istore_n 3, 1) := by decide +kernel
theorem dX2_read_33 : decode cX2_read 33 = .ok (.aload_n 0, 1) := by decide +kernel
theorem dX2_read_34 : decode cX2_read 34 = .ok (.invokevirtual 35, 3) := by decide +kernel
theorem dX2_read_37 : decode cX2_read 37 = .ok (.ifCond .ne 12, 3) := by decide +kernel
theorem dX2_read_40 : decode cX2_read 40 = .ok (.sipush (-1000), 3) := by decide +kernel
theorem dX2_read_43 : decode cX2_read 43 = .ok (.aload_n 0, 1) := by decide +kernel
theorem dX2_read_44 : decode cX2_read 44 = .ok (.getfield 19, 3) := by decide +kernel
theorem dX2_read_47 : decode cX2_read 47 = .ok (.isub, 1) := by decide +kernel
theorem dX2_read_48 : decode cX2_read 48 = .ok (.ireturn, 1) := by decide +kernel
theorem dX2_read_49 : decode cX2_read 49 = .ok (.iload_n 2, 1) := by decide +kernel
theorem dX2_read_50 : decode cX2_read 50 = .ok (.iconst (-1), 1) := by decide +kernel
theorem dX2_read_51 : decode cX2_read 51 = .ok (.if_icmp .ne 12, 3) := by decide +kernel
theorem dX2_read_54 : decode cX2_read 54 = .ok (.aload_n 0, 1) := by decide +kernel
theorem dX2_read_55 : decode cX2_read 55 = .ok (.invokevirtual 39, 3) := by decide +kernel
theorem dX2_read_58 : decode cX2_read 58 = .ok (.ifCond .ne 5, 3) := by decide +kernel
theorem dX2_read_61 : decode cX2_read 61 = .ok (.iload_n 3, 1) := by decide +kernel
theorem dX2_read_62 : decode cX2_read 62 = .ok (.istore_n 2, 1) := by decide +kernel
theorem dX2_read_63 : decode cX2_read 63 = .ok (.iinc 1 1, 3) := by decide +kernel
theorem dX2_read_66 : decode cX2_read 66 = .ok (.goto (-62), 3) := by decide +kernel
theorem dX2_read_69 : decode cX2_read 69 = .ok (.iload_n 2, 1) := by decide +kernel
theorem dX2_read_70 : decode cX2_read 70 = .ok (.iconst (-1), 1) := by decide +kernel
theorem dX2_read_71 : decode cX2_read 71 = .ok (.if_icmp .ne 7, 3) := by decide +kernel
theorem dX2_read_74 : decode cX2_read 74 = .ok (.iload_n 1, 1) := by decide +kernel
theorem dX2_read_75 : decode cX2_read 75 = .ok (.goto 8, 3) := by decide +kernel
theorem dX2_read_78 : decode cX2_read 78 = .ok (.sipush (-2000), 3) := by decide +kernel
theorem dX2_read_81 : decode cX2_read 81 = .ok (.iload_n 2, 1) := by decide +kernel
theorem dX2_read_82 : decode cX2_read 82 = .ok (.isub, 1) := by decide +kernel
theorem dX2_read_83 : decode cX2_read 83 = .ok (.ireturn, 1) := by decide +kernel
set_option maxRecDepth 20000 in
theorem ggX2_readStatement_X2_signHere : GoodIn wsX2_readStatement wsX2_signHere := goodIn_r _ [7, 8, 2, 9, 10, 11, 12, 13, 14, 15, 29, 30, 31, 32, 33, 34, 35, 36, 37, 38] (by decide +kernel) (by decide +kernel)
set_option maxRecDepth 20000 in
theorem gX2_readStatement_X2_signHere : GoodIn wsX2_readStatement (wsV RX2 42 RX2 yX2_signHere wsX2_signHere) := goodIn_app (goodIn_of _ (by decide +kernel)) ggX2_readStatement_X2_signHere
set_option maxRecDepth 20000 in
theorem ggX2_readStatement_X2_readNumber : GoodIn wsX2_readStatement wsX2_readNumber := goodIn_r _ [19, 20, 2, 21, 22, 23, 6, 24, 3, 4, 5, 7, 8, 9, 10, 11, 12, 13, 14, 15, 29, 30, 31, 32, 33, 34, 35, 36, 37, 38] (by decide +kernel) (by decide +kernel)
set_option maxRecDepth 20000 in
theorem gX2_readStatement_X2_readNumber : GoodIn wsX2_readStatement (wsV RX2 46 RX2 yX2_readNumber wsX2_readNumber) := goodIn_app (goodIn_of _ (by decide +kernel)) ggX2_readStatement_X2_readNumber
set_option maxRecDepth 20000 in
theorem ggX2_readStatement_X2_readSign : GoodIn wsX2_readStatement wsX2_readSign := goodIn_r _ [28, 2, 3, 4, 5, 6, 7, 8, 9, 10, 11, 12, 13, 14, 15, 29, 30, 31, 32, 33, 34, 35, 36, 37, 38] (by decide +kernel) (by decide +kernel)
set_option maxRecDepth 20000 in
theorem gX2_readStatement_X2_readSign : GoodIn wsX2_readStatement (wsV RX2 50 RX2 yX2_readSign wsX2_readSign) := goodIn_app (goodIn_of _ (by decide +kernel)) ggX2_readStatement_X2_readSign
theorem dX2_readStatement_0 : decode cX2_readStatement 0 = .ok (.aload_n 0, 1) := by decide +kernel
theorem dX2_readStatement_1 : decode cX2_readStatement 1 = .ok (.aload_n 0, 1) := by decide +kernel
theorem dX2_readStatement_2 : decode cX2_readStatement 2 = .ok (.invokevirtual 42, 3) := by decide +kernel
theorem dX2_readStatement_5 : decode cX2_readStatement 5 = .ok (.putfield 15, 3) := by decide +kernel
theorem dX2_readStatement_8 : decode cX2_readStatement 8 = .ok (.aload_n 0, 1) := by decide +kernel
theorem dX2_readStatement_9 : decode cX2_readStatement 9 = .ok (.getfield 15, 3) := by decide +kernel
theorem dX2_readStatement_12 : decode cX2_readStatement 12 = .ok (.bipush 119, 2) := by decide +kernel
theorem dX2_readStatement_14 : decode cX2_readStatement 14 = .ok (.if_icmp .eq 23, 3) := by decide +kernel
theorem dX2_readStatement_17 : decode cX2_readStatement 17 = .ok (.aload_n 0, 1) := by decide +kernel
theorem dX2_readStatement_18 : decode cX2_readStatement 18 = .ok (.getfield 15, 3) := by decide +kernel
theorem dX2_readStatement_21 : decode cX2_readStatement 21 = .ok (.bipush 114, 2) := by decide +kernel
theorem dX2_readStatement_23 : decode cX2_readStatement 23 = .ok (.if_icmp .eq 14, 3) := by decide +kernel
theorem dX2_readStatement_26 : decode cX2_readStatement 26 = .ok (.aload_n 0, 1) := by decide +kernel
theorem dX2_readStatement_27 : decode cX2_readStatement 27 = .ok (.getfield 15, 3) := by decide +kernel
theorem dX2_readStatement_30 : decode cX2_readStatement 30 = .ok (.bipush 108, 2) := by decide +kernel
theorem dX2_readStatement_32 : decode cX2_readStatement 32 = .ok (.if_icmp .eq 5, 3) := by decide +kernel
theorem dX2_readStatement_35 : decode cX2_readStatement 35 = .ok (.iconst 0, 1) := by decide +kernel
theorem dX2_readStatement_36 : decode cX2_readStatement 36 = .ok (.ireturn, 1) := by decide +kernel
theorem dX2_readStatement_37 : decode cX2_readStatement 37 = .ok (.aload_n 0, 1) := by decide +kernel
theorem dX2_readStatement_38 : decode cX2_readStatement 38 = .ok (.dup, 1) := by decide +kernel
theorem dX2_readStatement_39 : decode cX2_readStatement 39 = .ok (.getfield 19, 3) := by decide +kernel
theorem dX2_readStatement_42 : decode cX2_readStatement 42 = .ok (.iconst 1, 1) := by decide +kernel
theorem dX2_readStatement_43 : decode cX2_readStatement 43 = .ok (.iadd, 1) := by decide +kernel
theorem dX2_readStatement_44 : decode cX2_readStatement 44 = .ok (.putfield 19, 3) := by decide +kernel
theorem dX2_readStatement_47 : decode cX2_readStatement 47 = .ok (.aload_n 0, 1) := by decide +kernel
theorem dX2_readStatement_48 : decode cX2_readStatement 48 = .ok (.getfield 15, 3) := by decide +kernel
theorem dX2_readStatement_51 : decode cX2_readStatement 51 = .ok (.bipush 119, 2) := by decide +kernel
theorem dX2_readStatement_53 : decode cX2_readStatement 53 = .ok (.if_icmp .ne 7, 3) := by decide +kernel
theorem dX2_readStatement_56 : decode cX2_readStatement 56 = .ok (.iconst 2, 1) := by decide +kernel
theorem dX2_readStatement_57 : decode cX2_readStatement 57 = .ok (.goto 4, 3) := by decide +kernel
theorem dX2_readStatement_60 : decode cX2_readStatement 60 = .ok (.iconst 0, 1) := by decide +kernel
theorem dX2_readStatement_61 : decode cX2_readStatement 61 = .ok (.istore_n 1, 1) := by decide +kernel
theorem dX2_readStatement_62 : decode cX2_readStatement 62 = .ok (.iconst 0, 1) := by decide +kernel
theorem dX2_readStatement_63 : decode cX2_readStatement 63 = .ok (.istore_n 2, 1) := by decide +kernel
theorem dX2_readStatement_64 : decode cX2_readStatement 64 = .ok (.iload_n 2, 1) := by decide +kernel
theorem dX2_readStatement_65 : decode cX2_readStatement 65 = .ok (.iload_n 1, 1) := by decide +kernel
theorem dX2_readStatement_66 : decode cX2_readStatement 66 = .ok (.if_icmp .gt 38, 3) := by decide +kernel
theorem dX2_readStatement_69 : decode cX2_readStatement 69 = .ok (.aload_n 0, 1) := by decide +kernel
theorem dX2_readStatement_70 : decode cX2_readStatement 70 = .ok (.iload_n 2, 1) := by decide +kernel
theorem dX2_readStatement_71 : decode cX2_readStatement 71 = .ok (.invokevirtual 46, 3) := by decide +kernel
theorem dX2_readStatement_74 : decode cX2_readStatement 74 = .ok (.ifCond .eq 22, 3) := by decide +kernel
theorem dX2_readStatement_77 : decode cX2_readStatement 77 = .ok (.aload_n 0, 1) := by decide +kernel
theorem dX2_readStatement_78 : decode cX2_readStatement 78 = .ok (.iload_n 2, 1) := by decide +kernel
theorem dX2_readStatement_79 : decode cX2_readStatement 79 = .ok (.iload_n 1, 1) := by decide +kernel
theorem dX2_readStatement_80 : decode cX2_readStatement 80 = .ok (.if_icmp .ne 8, 3) := by decide +kernel
theorem dX2_readStatement_83 : decode cX2_readStatement 83 = .ok (.bipush 59, 2) := by decide +kernel
theorem dX2_readStatement_85 : decode cX2_readStatement 85 = .ok (.goto 5, 3) := by decide +kernel
theorem dX2_readStatement_88 : decode cX2_readStatement 88 = .ok (.bipush 32, 2) := by decide +kernel
theorem dX2_readStatement_90 : decode cX2_readStatement 90 = .ok (.invokevirtual 50, 3) := by decide +kernel
theorem dX2_readStatement_93 : decode cX2_readStatement 93 = .ok (.ifCond .ne 5, 3) := by decide +kernel
theorem dX2_readStatement_96 : decode cX2_readStatement 96 = .ok (.iconst 0, 1) := by decide +kernel
theorem dX2_readStatement_97 : decode cX2_readStatement 97 = .ok (.ireturn, 1) := by decide +kernel
theorem dX2_readStatement_98 : decode cX2_readStatement 98 = .ok (.iinc 2 1, 3) := by decide +kernel
theorem dX2_readStatement_101 : decode cX2_readStatement 101 = .ok (.goto (-37), 3) := by decide +kernel
theorem dX2_readStatement_104 : decode cX2_readStatement 104 = .ok (.iconst 1, 1) := by decide +kernel
theorem dX2_readStatement_105 : decode cX2_readStatement 105 = .ok (.ireturn, 1) := by decide +kernel
set_option maxRecDepth 20000 in
theorem ggX2_readNumber_X2_isDigitHere : GoodIn wsX2_readNumber wsX2_isDigitHere := goodIn_r _ [7, 8, 9, 10, 6, 11, 12, 2, 13, 14, 15, 16, 17, 18, 19, 20, 21, 22, 23, 24, 25, 26, 27, 28, 29] (by decide +kernel) (by decide +kernel)
set_option maxRecDepth 20000 in
theorem gX2_readNumber_X2_isDigitHere : GoodIn wsX2_readNumber (wsV RX2 53 RX2 yX2_isDigitHere wsX2_isDigitHere) := goodIn_app (goodIn_of _ (by decide +kernel)) ggX2_readNumber_X2_isDigitHere
set_option maxRecDepth 20000 in
theorem ggX2_readNumber_X2_signHere : GoodIn wsX2_readNumber wsX2_signHere := goodIn_r _ [11, 12, 2, 13, 14, 15, 16, 17, 18, 19, 20, 21, 22, 23, 24, 25, 26, 27, 28, 29] (by decide +kernel) (by decide +kernel)
set_option maxRecDepth 20000 in
theorem gX2_readNumber_X2_signHere : GoodIn wsX2_readNumber (wsV RX2 42 RX2 yX2_signHere wsX2_signHere) := goodIn_app (goodIn_of _ (by decide +kernel)) ggX2_readNumber_X2_signHere
theorem dX2_readNumber_0 : decode cX2_readNumber 0 = .ok (.aload_n 0, 1) := by decide +kernel
theorem dX2_readNumber_1 : decode cX2_readNumber 1 = .ok (.invokevirtual 53, 3) := by decide +kernel
theorem dX2_readNumber_4 : decode cX2_readNumber 4 = .ok (.ifCond .ne 5, 3) := by decide +kernel
theorem dX2_readNumber_7 : decode cX2_readNumber 7 = .ok (.iconst 0, 1) := by decide +kernel
theorem dX2_readNumber_8 : decode cX2_readNumber 8 = .ok (.ireturn, 1) := by decide +kernel
theorem dX2_readNumber_9 : decode cX2_readNumber 9 = .ok (.aload_n 0, 1) := by decide +kernel
theorem dX2_readNumber_10 : decode cX2_readNumber 10 = .ok (.getfield 9, 3) := by decide +kernel
theorem dX2_readNumber_13 : decode cX2_readNumber 13 = .ok (.iload_n 1, 1) := by decide +kernel
theorem dX2_readNumber_14 : decode cX2_readNumber 14 = .ok (.aload_n 0, 1) := by decide +kernel
theorem dX2_readNumber_15 : decode cX2_readNumber 15 = .ok (.invokevirtual 42, 3) := by decide +kernel
theorem dX2_readNumber_18 : decode cX2_readNumber 18 = .ok (.bipush 48, 2) := by decide +kernel
theorem dX2_readNumber_20 : decode cX2_readNumber 20 = .ok (.isub, 1) := by decide +kernel
theorem dX2_readNumber_21 : decode cX2_readNumber 21 = .ok (.iastore, 1) := by decide +kernel
theorem dX2_readNumber_22 : decode cX2_readNumber 22 = .ok (.aload_n 0, 1) := by decide +kernel
theorem dX2_readNumber_23 : decode cX2_readNumber 23 = .ok (.dup, 1) := by decide +kernel
theorem dX2_readNumber_24 : decode cX2_readNumber 24 = .ok (.getfield 19, 3) := by decide +kernel
theorem dX2_readNumber_27 : decode cX2_readNumber 27 = .ok (.iconst 1, 1) := by decide +kernel
theorem dX2_readNumber_28 : decode cX2_readNumber 28 = .ok (.iadd, 1) := by decide +kernel
theorem dX2_readNumber_29 : decode cX2_readNumber 29 = .ok (.putfield 19, 3) := by decide +kernel
theorem dX2_readNumber_32 : decode cX2_readNumber 32 = .ok (.aload_n 0, 1) := by decide +kernel
theorem dX2_readNumber_33 : decode cX2_readNumber 33 = .ok (.getfield 9, 3) := by decide +kernel
theorem dX2_readNumber_36 : decode cX2_readNumber 36 = .ok (.iload_n 1, 1) := by decide +kernel
theorem dX2_readNumber_37 : decode cX2_readNumber 37 = .ok (.iaload, 1) := by decide +kernel
theorem dX2_readNumber_38 : decode cX2_readNumber 38 = .ok (.ifCond .le 43, 3) := by decide +kernel
theorem dX2_readNumber_41 : decode cX2_readNumber 41 = .ok (.aload_n 0, 1) := by decide +kernel
theorem dX2_readNumber_42 : decode cX2_readNumber 42 = .ok (.invokevirtual 53, 3) := by decide +kernel
theorem dX2_readNumber_45 : decode cX2_readNumber 45 = .ok (.ifCond .eq 36, 3) := by decide +kernel
theorem dX2_readNumber_48 : decode cX2_readNumber 48 = .ok (.aload_n 0, 1) := by decide +kernel
theorem dX2_readNumber_49 : decode cX2_readNumber 49 = .ok (.getfield 9, 3) := by decide +kernel
theorem dX2_readNumber_52 : decode cX2_readNumber 52 = .ok (.iload_n 1, 1) := by decide +kernel
theorem dX2_readNumber_53 : decode cX2_readNumber 53 = .ok (.aload_n 0, 1) := by decide +kernel
theorem dX2_readNumber_54 : decode cX2_readNumber 54 = .ok (.getfield 9, 3) := by decide +kernel
theorem dX2_readNumber_57 : decode cX2_readNumber 57 = .ok (.iload_n 1, 1) := by decide +kernel
theorem dX2_readNumber_58 : decode cX2_readNumber 58 = .ok (.iaload, 1) := by decide +kernel
theorem dX2_readNumber_59 : decode cX2_readNumber 59 = .ok (.bipush 10, 2) := by decide +kernel
theorem dX2_readNumber_61 : decode cX2_readNumber 61 = .ok (.imul, 1) := by decide +kernel
theorem dX2_readNumber_62 : decode cX2_readNumber 62 = .ok (.aload_n 0, 1) := by decide +kernel
theorem dX2_readNumber_63 : decode cX2_readNumber 63 = .ok (.invokevirtual 42, 3) := by decide +kernel
theorem dX2_readNumber_66 : decode cX2_readNumber 66 = .ok (.iadd, 1) := by decide +kernel
theorem dX2_readNumber_67 : decode cX2_readNumber 67 = .ok (.bipush 48, 2) := by decide +kernel
theorem dX2_readNumber_69 : decode cX2_readNumber 69 = .ok (.isub, 1) := by decide +kernel
theorem dX2_readNumber_70 : decode cX2_readNumber 70 = .ok (.iastore, 1) := by decide +kernel
theorem dX2_readNumber_71 : decode cX2_readNumber 71 = .ok (.aload_n 0, 1) := by decide +kernel
theorem dX2_readNumber_72 : decode cX2_readNumber 72 = .ok (.dup, 1) := by decide +kernel
theorem dX2_readNumber_73 : decode cX2_readNumber 73 = .ok (.getfield 19, 3) := by decide +kernel
theorem dX2_readNumber_76 : decode cX2_readNumber 76 = .ok (.iconst 1, 1) := by decide +kernel
theorem dX2_readNumber_77 : decode cX2_readNumber 77 = .ok (.iadd, 1) := by decide +kernel
theorem dX2_readNumber_78 : decode cX2_readNumber 78 = .ok (.putfield 19, 3) := by decide +kernel
theorem dX2_readNumber_81 : decode cX2_readNumber 81 = .ok (.iconst 1, 1) := by decide +kernel
theorem dX2_readNumber_82 : decode cX2_readNumber 82 = .ok (.ireturn, 1) := by decide +kernel
set_option maxRecDepth 20000 in
theorem ggX2_readSign_X2_signHere : GoodIn wsX2_readSign wsX2_signHere := goodIn_r _ [6, 7, 1, 8, 9, 10, 11, 12, 13, 14, 15, 16, 17, 18, 19, 20, 21, 22, 23, 24] (by decide +kernel) (by decide +kernel)
set_option maxRecDepth 20000 in
theorem gX2_readSign_X2_signHere : GoodIn wsX2_readSign (wsV RX2 42 RX2 yX2_signHere wsX2_signHere) := goodIn_app (goodIn_of _ (by decide +kernel)) ggX2_readSign_X2_signHere
theorem dX2_readSign_0 : decode cX2_readSign 0 = .ok (.aload_n 0, 1) := by decide +kernel
theorem dX2_readSign_1 : decode cX2_readSign 1 = .ok (.invokevirtual 42, 3) := by decide +kernel
theorem dX2_readSign_4 : decode cX2_readSign 4 = .ok (.iload_n 1, 1) := by decide +kernel
theorem dX2_readSign_5 : decode cX2_readSign 5 = .ok (.if_icmp .eq 5, 3) := by decide +kernel
theorem dX2_readSign_8 : decode cX2_readSign 8 = .ok (.iconst 0, 1) := by decide +kernel
theorem dX2_readSign_9 : decode cX2_readSign 9 = .ok (.ireturn, 1) := by decide +kernel
theorem dX2_readSign_10 : decode cX2_readSign 10 = .ok (.aload_n 0, 1) := by decide +kernel
theorem dX2_readSign_11 : decode cX2_readSign 11 = .ok (.dup, 1) := by decide +kernel
theorem dX2_readSign_12 : decode cX2_readSign 12 = .ok (.getfield 19, 3) := by decide +kernel
theorem dX2_readSign_15 : decode cX2_readSign 15 = .ok (.iconst 1, 1) := by decide +kernel
theorem dX2_readSign_16 : decode cX2_readSign 16 = .ok (.iadd, 1) := by decide +kernel
theorem dX2_readSign_17 : decode cX2_readSign 17 = .ok (.putfield 19, 3) := by decide +kernel
theorem dX2_readSign_20 : decode cX2_readSign 20 = .ok (.iconst 1, 1) := by decide +kernel
theorem dX2_readSign_21 : decode cX2_readSign 21 = .ok (.ireturn, 1) := by decide +kernel
set_option maxRecDepth 20000 in
theorem ggX2_isDigitHere_X2_signHere : GoodIn wsX2_isDigitHere wsX2_signHere := goodIn_r _ [5, 6, 7, 8, 9, 10, 11, 12, 13, 14, 15, 16, 17, 18, 19, 20, 21, 22, 23, 24] (by decide +kernel) (by decide +kernel)
set_option maxRecDepth 20000 in
theorem gX2_isDigitHere_X2_signHere : GoodIn wsX2_isDigitHere (wsV RX2 42 RX2 yX2_signHere wsX2_signHere) := goodIn_app (goodIn_of _ (by decide +kernel)) ggX2_isDigitHere_X2_signHere
theorem dX2_isDigitHere_0 : decode cX2_isDigitHere 0 = .ok (.aload_n 0, 1) := by decide +kernel
theorem dX2_isDigitHere_1 : decode cX2_isDigitHere 1 = .ok (.invokevirtual 42, 3) := by decide +kernel
theorem dX2_isDigitHere_4 : decode cX2_isDigitHere 4 = .ok (.bipush 48, 2) := by decide +kernel
theorem dX2_isDigitHere_6 : decode cX2_isDigitHere 6 = .ok (.if_icmp .lt 16, 3) := by decide +kernel
theorem dX2_isDigitHere_9 : decode cX2_isDigitHere 9 = .ok (.aload_n 0, 1) := by decide +kernel
theorem dX2_isDigitHere_10 : decode cX2_isDigitHere 10 = .ok (.invokevirtual 42, 3) := by decide +kernel
theorem dX2_isDigitHere_13 : decode cX2_isDigitHere 13 = .ok (.bipush 57, 2) := by decide +kernel
theorem dX2_isDigitHere_15 : decode cX2_isDigitHere 15 = .ok (.if_icmp .gt 7, 3) := by decide +kernel
theorem dX2_isDigitHere_18 : decode cX2_isDigitHere 18 = .ok (.iconst 1, 1) := by decide +kernel
theorem dX2_isDigitHere_19 : decode cX2_isDigitHere 19 = .ok (.goto 4, 3) := by decide +kernel
theorem dX2_isDigitHere_22 : decode cX2_isDigitHere 22 = .ok (.iconst 0, 1) := by decide +kernel
theorem dX2_isDigitHere_23 : decode cX2_isDigitHere 23 = .ok (.ireturn, 1) := by decide +kernel
set_option maxRecDepth 20000 in
theorem ggX2_signHere_X4_hasPlace : GoodIn wsX2_signHere wsX4_hasPlace := goodIn_r _ [8, 9, 15, 16, 17, 18, 19] (by decide +kernel) (by decide +kernel)
set_option maxRecDepth 20000 in
theorem gX2_signHere_X4_hasPlace : GoodIn wsX2_signHere (wsV RX2 56 RX4 yX4_hasPlace wsX4_hasPlace) := goodIn_app (goodIn_of _ (by decide +kernel)) ggX2_signHere_X4_hasPlace
theorem dX2_signHere_0 : decode cX2_signHere 0 = .ok (.aload_n 0, 1) := by decide +kernel
theorem dX2_signHere_1 : decode cX2_signHere 1 = .ok (.getfield 22, 3) := by decide +kernel
theorem dX2_signHere_4 : decode cX2_signHere 4 = .ok (.aload_n 0, 1) := by decide +kernel
theorem dX2_signHere_5 : decode cX2_signHere 5 = .ok (.getfield 19, 3) := by decide +kernel
theorem dX2_signHere_8 : decode cX2_signHere 8 = .ok (.invokevirtual 56, 3) := by decide +kernel
theorem dX2_signHere_11 : decode cX2_signHere 11 = .ok (.ifCond .eq 18, 3) := by decide +kernel
theorem dX2_signHere_14 : decode cX2_signHere 14 = .ok (.aload_n 0, 1) := by decide +kernel
theorem dX2_signHere_15 : decode cX2_signHere 15 = .ok (.getfield 22, 3) := by decide +kernel
theorem dX2_signHere_18 : decode cX2_signHere 18 = .ok (.getfield 59, 3) := by decide +kernel
theorem dX2_signHere_21 : decode cX2_signHere 21 = .ok (.aload_n 0, 1) := by decide +kernel
theorem dX2_signHere_22 : decode cX2_signHere 22 = .ok (.getfield 19, 3) := by decide +kernel
theorem dX2_signHere_25 : decode cX2_signHere 25 = .ok (.iaload, 1) := by decide +kernel
theorem dX2_signHere_26 : decode cX2_signHere 26 = .ok (.goto 4, 3) := by decide +kernel
theorem dX2_signHere_29 : decode cX2_signHere 29 = .ok (.iconst 0, 1) := by decide +kernel
theorem dX2_signHere_30 : decode cX2_signHere 30 = .ok (.ireturn, 1) := by decide +kernel
set_option maxRecDepth 20000 in
theorem ggX2_carryOut_X3_addWidth : GoodIn wsX2_carryOut wsX3_addWidth := goodIn_r _ [8, 9, 10, 11, 12, 13, 14, 15, 7, 16, 34, 35, 36, 37, 38, 39, 40, 41, 42] (by decide +kernel) (by decide +kernel)
set_option maxRecDepth 20000 in
theorem gX2_carryOut_X3_addWidth : GoodIn wsX2_carryOut (wsV RX2 60 RX3 yX3_addWidth wsX3_addWidth) := goodIn_app (goodIn_of _ (by decide +kernel)) ggX2_carryOut_X3_addWidth
set_option maxRecDepth 20000 in
theorem ggX2_carryOut_X3_addRow : GoodIn wsX2_carryOut wsX3_addRow := goodIn_r _ [20, 21, 22, 23, 34, 35, 36, 37, 38, 39, 40, 41, 42] (by decide +kernel) (by decide +kernel)
set_option maxRecDepth 20000 in
theorem gX2_carryOut_X3_addRow : GoodIn wsX2_carryOut (wsV RX2 66 RX3 yX3_addRow wsX3_addRow) := goodIn_app (goodIn_of _ (by decide +kernel)) ggX2_carryOut_X3_addRow
set_option maxRecDepth 20000 in
theorem ggX2_carryOut_X3_changeLap : GoodIn wsX2_carryOut wsX3_changeLap := goodIn_r _ [27, 28, 34, 35, 36, 37, 38, 39, 40, 41, 42] (by decide +kernel) (by decide +kernel)
set_option maxRecDepth 20000 in
theorem gX2_carryOut_X3_changeLap : GoodIn wsX2_carryOut (wsV RX2 69 RX3 yX3_changeLap wsX3_changeLap) := goodIn_app (goodIn_of _ (by decide +kernel)) ggX2_carryOut_X3_changeLap
theorem dX2_carryOut_0 : decode cX2_carryOut 0 = .ok (.aload_n 0, 1) := by decide +kernel
theorem dX2_carryOut_1 : decode cX2_carryOut 1 = .ok (.getfield 15, 3) := by decide +kernel
theorem dX2_carryOut_4 : decode cX2_carryOut 4 = .ok (.lookupswitch 68 #[(114, 54), (119, 28)], 28) := by decide +kernel
theorem dX2_carryOut_32 : decode cX2_carryOut 32 = .ok (.aload_n 0, 1) := by decide +kernel
theorem dX2_carryOut_33 : decode cX2_carryOut 33 = .ok (.getfield 26, 3) := by decide +kernel
theorem dX2_carryOut_36 : decode cX2_carryOut 36 = .ok (.aload_n 0, 1) := by decide +kernel
theorem dX2_carryOut_37 : decode cX2_carryOut 37 = .ok (.getfield 9, 3) := by decide +kernel
theorem dX2_carryOut_40 : decode cX2_carryOut 40 = .ok (.iconst 0, 1) := by decide +kernel
theorem dX2_carryOut_41 : decode cX2_carryOut 41 = .ok (.iaload, 1) := by decide +kernel
theorem dX2_carryOut_42 : decode cX2_carryOut 42 = .ok (.aload_n 0, 1) := by decide +kernel
theorem dX2_carryOut_43 : decode cX2_carryOut 43 = .ok (.getfield 9, 3) := by decide +kernel
theorem dX2_carryOut_46 : decode cX2_carryOut 46 = .ok (.iconst 1, 1) := by decide +kernel
theorem dX2_carryOut_47 : decode cX2_carryOut 47 = .ok (.iaload, 1) := by decide +kernel
theorem dX2_carryOut_48 : decode cX2_carryOut 48 = .ok (.aload_n 0, 1) := by decide +kernel
theorem dX2_carryOut_49 : decode cX2_carryOut 49 = .ok (.getfield 9, 3) := by decide +kernel
theorem dX2_carryOut_52 : decode cX2_carryOut 52 = .ok (.iconst 2, 1) := by decide +kernel
theorem dX2_carryOut_53 : decode cX2_carryOut 53 = .ok (.iaload, 1) := by decide +kernel
theorem dX2_carryOut_54 : decode cX2_carryOut 54 = .ok (.invokevirtual 60, 3) := by decide +kernel
theorem dX2_carryOut_57 : decode cX2_carryOut 57 = .ok (.ireturn, 1) := by decide +kernel
theorem dX2_carryOut_58 : decode cX2_carryOut 58 = .ok (.aload_n 0, 1) := by decide +kernel
theorem dX2_carryOut_59 : decode cX2_carryOut 59 = .ok (.getfield 26, 3) := by decide +kernel
theorem dX2_carryOut_62 : decode cX2_carryOut 62 = .ok (.aload_n 0, 1) := by decide +kernel
theorem dX2_carryOut_63 : decode cX2_carryOut 63 = .ok (.getfield 9, 3) := by decide +kernel
theorem dX2_carryOut_66 : decode cX2_carryOut 66 = .ok (.iconst 0, 1) := by decide +kernel
theorem dX2_carryOut_67 : decode cX2_carryOut 67 = .ok (.iaload, 1) := by decide +kernel
theorem dX2_carryOut_68 : decode cX2_carryOut 68 = .ok (.invokevirtual 66, 3) := by decide +kernel
theorem dX2_carryOut_71 : decode cX2_carryOut 71 = .ok (.ireturn, 1) := by decide +kernel
theorem dX2_carryOut_72 : decode cX2_carryOut 72 = .ok (.aload_n 0, 1) := by decide +kernel
theorem dX2_carryOut_73 : decode cX2_carryOut 73 = .ok (.getfield 26, 3) := by decide +kernel
theorem dX2_carryOut_76 : decode cX2_carryOut 76 = .ok (.aload_n 0, 1) := by decide +kernel
theorem dX2_carryOut_77 : decode cX2_carryOut 77 = .ok (.getfield 9, 3) := by decide +kernel
theorem dX2_carryOut_80 : decode cX2_carryOut 80 = .ok (.iconst 0, 1) := by decide +kernel
theorem dX2_carryOut_81 : decode cX2_carryOut 81 = .ok (.iaload, 1) := by decide +kernel
theorem dX2_carryOut_82 : decode cX2_carryOut 82 = .ok (.invokevirtual 69, 3) := by decide +kernel
theorem dX2_carryOut_85 : decode cX2_carryOut 85 = .ok (.ireturn, 1) := by decide +kernel
theorem dX3_init_0 : decode cX3_init 0 = .ok (.aload_n 0, 1) := by decide +kernel
theorem dX3_init_1 : decode cX3_init 1 = .ok (.invokespecial 3, 3) := by decide +kernel
theorem dX3_init_4 : decode cX3_init 4 = .ok (.aload_n 0, 1) := by decide +kernel
theorem dX3_init_5 : decode cX3_init 5 = .ok (.iconst 4, 1) := by decide +kernel
theorem dX3_init_6 : decode cX3_init 6 = .ok (.newarray .int, 2) := by decide +kernel
theorem dX3_init_8 : decode cX3_init 8 = .ok (.putfield 9, 3) := by decide +kernel
theorem dX3_init_11 : decode cX3_init 11 = .ok (.aload_n 0, 1) := by decide +kernel
theorem dX3_init_12 : decode cX3_init 12 = .ok (.iconst 4, 1) := by decide +kernel
theorem dX3_init_13 : decode cX3_init 13 = .ok (.newarray .int, 2) := by decide +kernel
theorem dX3_init_15 : decode cX3_init 15 = .ok (.putfield 15, 3) := by decide +kernel
theorem dX3_init_18 : decode cX3_init 18 = .ok (.aload_n 0, 1) := by decide +kernel
theorem dX3_init_19 : decode cX3_init 19 = .ok (.iconst 4, 1) := by decide +kernel
theorem dX3_init_20 : decode cX3_init 20 = .ok (.newarray .int, 2) := by decide +kernel
theorem dX3_init_22 : decode cX3_init 22 = .ok (.putfield 18, 3) := by decide +kernel
theorem dX3_init_25 : decode cX3_init 25 = .ok (.aload_n 0, 1) := by decide +kernel
theorem dX3_init_26 : decode cX3_init 26 = .ok (.bipush 6, 2) := by decide +kernel
theorem dX3_init_28 : decode cX3_init 28 = .ok (.newarray .int, 2) := by decide +kernel
theorem dX3_init_30 : decode cX3_init 30 = .ok (.putfield 21, 3) := by decide +kernel
theorem dX3_init_33 : decode cX3_init 33 = .ok (.aload_n 0, 1) := by decide +kernel
theorem dX3_init_34 : decode cX3_init 34 = .ok (.bipush 6, 2) := by decide +kernel
theorem dX3_init_36 : decode cX3_init 36 = .ok (.newarray .int, 2) := by decide +kernel
theorem dX3_init_38 : decode cX3_init 38 = .ok (.putfield 24, 3) := by decide +kernel
theorem dX3_init_41 : decode cX3_init 41 = .ok (.aload_n 0, 1) := by decide +kernel
theorem dX3_init_42 : decode cX3_init 42 = .ok (.bipush 72, 2) := by decide +kernel
theorem dX3_init_44 : decode cX3_init 44 = .ok (.newarray .int, 2) := by decide +kernel
theorem dX3_init_46 : decode cX3_init 46 = .ok (.putfield 27, 3) := by decide +kernel
theorem dX3_init_49 : decode cX3_init 49 = .ok (.aload_n 0, 1) := by decide +kernel
theorem dX3_init_50 : decode cX3_init 50 = .ok (.iconst 0, 1) := by decide +kernel
theorem dX3_init_51 : decode cX3_init 51 = .ok (.putfield 30, 3) := by decide +kernel
theorem dX3_init_54 : decode cX3_init 54 = .ok (.aload_n 0, 1) := by decide +kernel
theorem dX3_init_55 : decode cX3_init 55 = .ok (.iconst 0, 1) := by decide +kernel
theorem dX3_init_56 : decode cX3_init 56 = .ok (.putfield 34, 3) := by decide +kernel
theorem dX3_init_59 : decode cX3_init 59 = .ok (.aload_n 0, 1) := by decide +kernel
theorem dX3_init_60 : decode cX3_init 60 = .ok (.iconst 3, 1) := by decide +kernel
theorem dX3_init_61 : decode cX3_init 61 = .ok (.putfield 37, 3) := by decide +kernel
theorem dX3_init_64 : decode cX3_init 64 = .ok (.return_, 1) := by decide +kernel
theorem dX3_takeOver_0 : decode cX3_takeOver 0 = .ok (.aload_n 1, 1) := by decide +kernel
theorem dX3_takeOver_1 : decode cX3_takeOver 1 = .ok (.getfield 9, 3) := by decide +kernel
theorem dX3_takeOver_4 : decode cX3_takeOver 4 = .ok (.iconst 0, 1) := by decide +kernel
theorem dX3_takeOver_5 : decode cX3_takeOver 5 = .ok (.aload_n 0, 1) := by decide +kernel
theorem dX3_takeOver_6 : decode cX3_takeOver 6 = .ok (.getfield 9, 3) := by decide +kernel
theorem dX3_takeOver_9 : decode cX3_takeOver 9 = .ok (.iconst 0, 1) := by decide +kernel
theorem dX3_takeOver_10 : decode cX3_takeOver 10 = .ok (.iconst 4, 1) := by decide +kernel
theorem dX3_takeOver_11 : decode cX3_takeOver 11 = .ok (.invokestatic 40, 3) := by decide +kernel
theorem dX3_takeOver_14 : decode cX3_takeOver 14 = .ok (.aload_n 1, 1) := by decide +kernel
theorem dX3_takeOver_15 : decode cX3_takeOver 15 = .ok (.getfield 15, 3) := by decide +kernel
theorem dX3_takeOver_18 : decode cX3_takeOver 18 = .ok (.iconst 0, 1) := by decide +kernel
theorem dX3_takeOver_19 : decode cX3_takeOver 19 = .ok (.aload_n 0, 1) := by decide +kernel
theorem dX3_takeOver_20 : decode cX3_takeOver 20 = .ok (.getfield 15, 3) := by decide +kernel
theorem dX3_takeOver_23 : decode cX3_takeOver 23 = .ok (.iconst 0, 1) := by decide +kernel
theorem dX3_takeOver_24 : decode cX3_takeOver 24 = .ok (.iconst 4, 1) := by decide +kernel
theorem dX3_takeOver_25 : decode cX3_takeOver 25 = .ok (.invokestatic 40, 3) := by decide +kernel
theorem dX3_takeOver_28 : decode cX3_takeOver 28 = .ok (.aload_n 1, 1) := by decide +kernel
theorem dX3_takeOver_29 : decode cX3_takeOver 29 = .ok (.getfield 18, 3) := by decide +kernel
theorem dX3_takeOver_32 : decode cX3_takeOver 32 = .ok (.iconst 0, 1) := by decide +kernel
theorem dX3_takeOver_33 : decode cX3_takeOver 33 = .ok (.aload_n 0, 1) := by decide +kernel
theorem dX3_takeOver_34 : decode cX3_takeOver 34 = .ok (.getfield 18, 3) := by decide +kernel
theorem dX3_takeOver_37 : decode cX3_takeOver 37 = .ok (.iconst 0, 1) := by decide +kernel
theorem dX3_takeOver_38 : decode cX3_takeOver 38 = .ok (.iconst 4, 1) := by decide +kernel
theorem dX3_takeOver_39 : decode cX3_takeOver 39 = .ok (.invokestatic 40, 3) := by decide +kernel
theorem dX3_takeOver_42 : decode cX3_takeOver 42 = .ok (.aload_n 1, 1) := by decide +kernel
theorem dX3_takeOver_43 : decode cX3_takeOver 43 = .ok (.getfield 21, 3) := by decide +kernel
theorem dX3_takeOver_46 : decode cX3_takeOver 46 = .ok (.iconst 0, 1) := by decide +kernel
theorem dX3_takeOver_47 : decode cX3_takeOver 47 = .ok (.aload_n 0, 1) := by decide +kernel
theorem dX3_takeOver_48 : decode cX3_takeOver 48 = .ok (.getfield 21, 3) := by decide +kernel
theorem dX3_takeOver_51 : decode cX3_takeOver 51 = .ok (.iconst 0, 1) := by decide +kernel
theorem dX3_takeOver_52 : decode cX3_takeOver 52 = .ok (.bipush 6, 2) := by decide +kernel
theorem dX3_takeOver_54 : decode cX3_takeOver 54 = .ok (.invokestatic 40, 3) := by decide +kernel
theorem dX3_takeOver_57 : decode cX3_takeOver 57 = .ok (.aload_n 1, 1) := by decide +kernel
theorem dX3_takeOver_58 : decode cX3_takeOver 58 = .ok (.getfield 24, 3) := by decide +kernel
theorem dX3_takeOver_61 : decode cX3_takeOver 61 = .ok (.iconst 0, 1) := by decide +kernel
theorem dX3_takeOver_62 : decode cX3_takeOver 62 = .ok (.aload_n 0, 1) := by decide +kernel
theorem dX3_takeOver_63 : decode cX3_takeOver 63 = .ok (.getfield 24, 3) := by decide +kernel
theorem dX3_takeOver_66 : decode cX3_takeOver 66 = .ok (.iconst 0, 1) := by decide +kernel
theorem dX3_takeOver_67 : decode cX3_takeOver 67 = .ok (.bipush 6, 2) := by decide +kernel
theorem dX3_takeOver_69 : decode cX3_takeOver 69 = .ok (.invokestatic 40, 3) := by decide +kernel
theorem dX3_takeOver_72 : decode cX3_takeOver 72 = .ok (.aload_n 1, 1) := by decide +kernel
theorem dX3_takeOver_73 : decode cX3_takeOver 73 = .ok (.getfield 27, 3) := by decide +kernel
theorem dX3_takeOver_76 : decode cX3_takeOver 76 = .ok (.iconst 0, 1) := by decide +kernel
theorem dX3_takeOver_77 : decode cX3_takeOver 77 = .ok (.aload_n 0, 1) := by decide +kernel
theorem dX3_takeOver_78 : decode cX3_takeOver 78 = .ok (.getfield 27, 3) := by decide +kernel
theorem dX3_takeOver_81 : decode cX3_takeOver 81 = .ok (.iconst 0, 1) := by decide +kernel
theorem dX3_takeOver_82 : decode cX3_takeOver 82 = .ok (.bipush 72, 2) := by decide +kernel
theorem dX3_takeOver_84 : decode cX3_takeOver 84 = .ok (.invokestatic 40, 3) := by decide +kernel
theorem dX3_takeOver_87 : decode cX3_takeOver 87 = .ok (.aload_n 0, 1) := by decide +kernel
theorem dX3_takeOver_88 : decode cX3_takeOver 88 = .ok (.aload_n 1, 1) := by decide +kernel
theorem dX3_takeOver_89 : decode cX3_takeOver 89 = .ok (.getfield 30, 3) := by decide +kernel
theorem dX3_takeOver_92 : decode cX3_takeOver 92 = .ok (.putfield 30, 3) := by decide +kernel
theorem dX3_takeOver_95 : decode cX3_takeOver 95 = .ok (.aload_n 0, 1) := by decide +kernel
theorem dX3_takeOver_96 : decode cX3_takeOver 96 = .ok (.aload_n 1, 1) := by decide +kernel
theorem dX3_takeOver_97 : decode cX3_takeOver 97 = .ok (.getfield 34, 3) := by decide +kernel
theorem dX3_takeOver_100 : decode cX3_takeOver 100 = .ok (.putfield 34, 3) := by decide +kernel
theorem dX3_takeOver_103 : decode cX3_takeOver 103 = .ok (.aload_n 0, 1) := by decide +kernel
theorem dX3_takeOver_104 : decode cX3_takeOver 104 = .ok (.aload_n 1, 1) := by decide +kernel
theorem dX3_takeOver_105 : decode cX3_takeOver 105 = .ok (.getfield 37, 3) := by decide +kernel
theorem dX3_takeOver_108 : decode cX3_takeOver 108 = .ok (.putfield 37, 3) := by decide +kernel
theorem dX3_takeOver_111 : decode cX3_takeOver 111 = .ok (.return_, 1) := by decide +kernel
set_option maxRecDepth 20000 in
theorem ggX3_addWidth_X3_hasInches : GoodIn wsX3_addWidth wsX3_hasInches := goodIn_r _ [9, 1, 2, 10, 11, 12, 13, 14, 15, 16, 17, 18] (by decide +kernel) (by decide +kernel)
set_option maxRecDepth 20000 in
theorem gX3_addWidth_X3_hasInches : GoodIn wsX3_addWidth (wsV RX3 46 RX3 yX3_hasInches wsX3_hasInches) := goodIn_app (goodIn_of _ (by decide +kernel)) ggX3_addWidth_X3_hasInches
theorem dX3_addWidth_0 : decode cX3_addWidth 0 = .ok (.iload_n 1, 1) := by decide +kernel
theorem dX3_addWidth_1 : decode cX3_addWidth 1 = .ok (.iconst 5, 1) := by decide +kernel
theorem dX3_addWidth_2 : decode cX3_addWidth 2 = .ok (.if_icmp .lt 21, 3) := by decide +kernel
theorem dX3_addWidth_5 : decode cX3_addWidth 5 = .ok (.iload_n 1, 1) := by decide +kernel
theorem dX3_addWidth_6 : decode cX3_addWidth 6 = .ok (.bipush 30, 2) := by decide +kernel
theorem dX3_addWidth_8 : decode cX3_addWidth 8 = .ok (.if_icmp .gt 15, 3) := by decide +kernel
theorem dX3_addWidth_11 : decode cX3_addWidth 11 = .ok (.iload_n 2, 1) := by decide +kernel
theorem dX3_addWidth_12 : decode cX3_addWidth 12 = .ok (.bipush 12, 2) := by decide +kernel
theorem dX3_addWidth_14 : decode cX3_addWidth 14 = .ok (.if_icmp .gt 9, 3) := by decide +kernel
theorem dX3_addWidth_17 : decode cX3_addWidth 17 = .ok (.iload_n 3, 1) := by decide +kernel
theorem dX3_addWidth_18 : decode cX3_addWidth 18 = .ok (.bipush 99, 2) := by decide +kernel
theorem dX3_addWidth_20 : decode cX3_addWidth 20 = .ok (.if_icmp .le 5, 3) := by decide +kernel
theorem dX3_addWidth_23 : decode cX3_addWidth 23 = .ok (.iconst 0, 1) := by decide +kernel
theorem dX3_addWidth_24 : decode cX3_addWidth 24 = .ok (.ireturn, 1) := by decide +kernel
theorem dX3_addWidth_25 : decode cX3_addWidth 25 = .ok (.aload_n 0, 1) := by decide +kernel
theorem dX3_addWidth_26 : decode cX3_addWidth 26 = .ok (.getfield 30, 3) := by decide +kernel
theorem dX3_addWidth_29 : decode cX3_addWidth 29 = .ok (.iconst 4, 1) := by decide +kernel
theorem dX3_addWidth_30 : decode cX3_addWidth 30 = .ok (.if_icmp .ge 11, 3) := by decide +kernel
theorem dX3_addWidth_33 : decode cX3_addWidth 33 = .ok (.aload_n 0, 1) := by decide +kernel
theorem dX3_addWidth_34 : decode cX3_addWidth 34 = .ok (.iload_n 1, 1) := by decide +kernel
theorem dX3_addWidth_35 : decode cX3_addWidth 35 = .ok (.invokevirtual 46, 3) := by decide +kernel
theorem dX3_addWidth_38 : decode cX3_addWidth 38 = .ok (.ifCond .eq 5, 3) := by decide +kernel
theorem dX3_addWidth_41 : decode cX3_addWidth 41 = .ok (.iconst 0, 1) := by decide +kernel
theorem dX3_addWidth_42 : decode cX3_addWidth 42 = .ok (.ireturn, 1) := by decide +kernel
theorem dX3_addWidth_43 : decode cX3_addWidth 43 = .ok (.aload_n 0, 1) := by decide +kernel
theorem dX3_addWidth_44 : decode cX3_addWidth 44 = .ok (.getfield 9, 3) := by decide +kernel
theorem dX3_addWidth_47 : decode cX3_addWidth 47 = .ok (.aload_n 0, 1) := by decide +kernel
theorem dX3_addWidth_48 : decode cX3_addWidth 48 = .ok (.getfield 30, 3) := by decide +kernel
theorem dX3_addWidth_51 : decode cX3_addWidth 51 = .ok (.iload_n 1, 1) := by decide +kernel
theorem dX3_addWidth_52 : decode cX3_addWidth 52 = .ok (.iastore, 1) := by decide +kernel
theorem dX3_addWidth_53 : decode cX3_addWidth 53 = .ok (.aload_n 0, 1) := by decide +kernel
theorem dX3_addWidth_54 : decode cX3_addWidth 54 = .ok (.getfield 15, 3) := by decide +kernel
theorem dX3_addWidth_57 : decode cX3_addWidth 57 = .ok (.aload_n 0, 1) := by decide +kernel
theorem dX3_addWidth_58 : decode cX3_addWidth 58 = .ok (.getfield 30, 3) := by decide +kernel
theorem dX3_addWidth_61 : decode cX3_addWidth 61 = .ok (.iload_n 2, 1) := by decide +kernel
theorem dX3_addWidth_62 : decode cX3_addWidth 62 = .ok (.iastore, 1) := by decide +kernel
theorem dX3_addWidth_63 : decode cX3_addWidth 63 = .ok (.aload_n 0, 1) := by decide +kernel
theorem dX3_addWidth_64 : decode cX3_addWidth 64 = .ok (.getfield 18, 3) := by decide +kernel
theorem dX3_addWidth_67 : decode cX3_addWidth 67 = .ok (.aload_n 0, 1) := by decide +kernel
theorem dX3_addWidth_68 : decode cX3_addWidth 68 = .ok (.getfield 30, 3) := by decide +kernel
theorem dX3_addWidth_71 : decode cX3_addWidth 71 = .ok (.iload_n 3, 1) := by decide +kernel
theorem dX3_addWidth_72 : decode cX3_addWidth 72 = .ok (.iastore, 1) := by decide +kernel
theorem dX3_addWidth_73 : decode cX3_addWidth 73 = .ok (.aload_n 0, 1) := by decide +kernel
theorem dX3_addWidth_74 : decode cX3_addWidth 74 = .ok (.dup, 1) := by decide +kernel
theorem dX3_addWidth_75 : decode cX3_addWidth 75 = .ok (.getfield 30, 3) := by decide +kernel
theorem dX3_addWidth_78 : decode cX3_addWidth 78 = .ok (.iconst 1, 1) := by decide +kernel
theorem dX3_addWidth_79 : decode cX3_addWidth 79 = .ok (.iadd, 1) := by decide +kernel
theorem dX3_addWidth_80 : decode cX3_addWidth 80 = .ok (.putfield 30, 3) := by decide +kernel
theorem dX3_addWidth_83 : decode cX3_addWidth 83 = .ok (.iconst 1, 1) := by decide +kernel
theorem dX3_addWidth_84 : decode cX3_addWidth 84 = .ok (.ireturn, 1) := by decide +kernel
theorem dX3_hasInches_0 : decode cX3_hasInches 0 = .ok (.iconst 0, 1) := by decide +kernel
theorem dX3_hasInches_1 : decode cX3_hasInches 1 = .ok (.istore_n 2, 1) := by decide +kernel
theorem dX3_hasInches_2 : decode cX3_hasInches 2 = .ok (.iload_n 2, 1) := by decide +kernel
theorem dX3_hasInches_3 : decode cX3_hasInches 3 = .ok (.aload_n 0, 1) := by decide +kernel
theorem dX3_hasInches_4 : decode cX3_hasInches 4 = .ok (.getfield 30, 3) := by decide +kernel
theorem dX3_hasInches_7 : decode cX3_hasInches 7 = .ok (.if_icmp .ge 21, 3) := by decide +kernel
theorem dX3_hasInches_10 : decode cX3_hasInches 10 = .ok (.aload_n 0, 1) := by decide +kernel
theorem dX3_hasInches_11 : decode cX3_hasInches 11 = .ok (.getfield 9, 3) := by decide +kernel
theorem dX3_hasInches_14 : decode cX3_hasInches 14 = .ok (.iload_n 2, 1) := by decide +kernel
theorem dX3_hasInches_15 : decode cX3_hasInches 15 = .ok (.iaload, 1) := by decide +kernel
theorem dX3_hasInches_16 : decode cX3_hasInches 16 = .ok (.iload_n 1, 1) := by decide +kernel
theorem dX3_hasInches_17 : decode cX3_hasInches 17 = .ok (.if_icmp .ne 5, 3) := by decide +kernel
theorem dX3_hasInches_20 : decode cX3_hasInches 20 = .ok (.iconst 1, 1) := by decide +kernel
theorem dX3_hasInches_21 : decode cX3_hasInches 21 = .ok (.ireturn, 1) := by decide +kernel
theorem dX3_hasInches_22 : decode cX3_hasInches 22 = .ok (.iinc 2 1, 3) := by decide +kernel
theorem dX3_hasInches_25 : decode cX3_hasInches 25 = .ok (.goto (-23), 3) := by decide +kernel
theorem dX3_hasInches_28 : decode cX3_hasInches 28 = .ok (.iconst 0, 1) := by decide +kernel
theorem dX3_hasInches_29 : decode cX3_hasInches 29 = .ok (.ireturn, 1) := by decide +kernel
theorem dX3_addRow_0 : decode cX3_addRow 0 = .ok (.iload_n 1, 1) := by decide +kernel
theorem dX3_addRow_1 : decode cX3_addRow 1 = .ok (.bipush 10, 2) := by decide +kernel
theorem dX3_addRow_3 : decode cX3_addRow 3 = .ok (.if_icmp .lt 18, 3) := by decide +kernel
theorem dX3_addRow_6 : decode cX3_addRow 6 = .ok (.iload_n 1, 1) := by decide +kernel
theorem dX3_addRow_7 : decode cX3_addRow 7 = .ok (.bipush 60, 2) := by decide +kernel
theorem dX3_addRow_9 : decode cX3_addRow 9 = .ok (.if_icmp .gt 12, 3) := by decide +kernel
theorem dX3_addRow_12 : decode cX3_addRow 12 = .ok (.aload_n 0, 1) := by decide +kernel
theorem dX3_addRow_13 : decode cX3_addRow 13 = .ok (.getfield 34, 3) := by decide +kernel
theorem dX3_addRow_16 : decode cX3_addRow 16 = .ok (.bipush 6, 2) := by decide +kernel
theorem dX3_addRow_18 : decode cX3_addRow 18 = .ok (.if_icmp .lt 5, 3) := by decide +kernel
theorem dX3_addRow_21 : decode cX3_addRow 21 = .ok (.iconst 0, 1) := by decide +kernel
theorem dX3_addRow_22 : decode cX3_addRow 22 = .ok (.ireturn, 1) := by decide +kernel
theorem dX3_addRow_23 : decode cX3_addRow 23 = .ok (.aload_n 0, 1) := by decide +kernel
theorem dX3_addRow_24 : decode cX3_addRow 24 = .ok (.getfield 21, 3) := by decide +kernel
theorem dX3_addRow_27 : decode cX3_addRow 27 = .ok (.aload_n 0, 1) := by decide +kernel
theorem dX3_addRow_28 : decode cX3_addRow 28 = .ok (.getfield 34, 3) := by decide +kernel
theorem dX3_addRow_31 : decode cX3_addRow 31 = .ok (.iload_n 1, 1) := by decide +kernel
theorem dX3_addRow_32 : decode cX3_addRow 32 = .ok (.iastore, 1) := by decide +kernel
theorem dX3_addRow_33 : decode cX3_addRow 33 = .ok (.aload_n 0, 1) := by decide +kernel
theorem dX3_addRow_34 : decode cX3_addRow 34 = .ok (.getfield 24, 3) := by decide +kernel
theorem dX3_addRow_37 : decode cX3_addRow 37 = .ok (.aload_n 0, 1) := by decide +kernel
theorem dX3_addRow_38 : decode cX3_addRow 38 = .ok (.getfield 34, 3) := by decide +kernel
theorem dX3_addRow_41 : decode cX3_addRow 41 = .ok (.iconst 0, 1) := by decide +kernel
theorem dX3_addRow_42 : decode cX3_addRow 42 = .ok (.iastore, 1) := by decide +kernel
theorem dX3_addRow_43 : decode cX3_addRow 43 = .ok (.aload_n 0, 1) := by decide +kernel
theorem dX3_addRow_44 : decode cX3_addRow 44 = .ok (.dup, 1) := by decide +kernel
theorem dX3_addRow_45 : decode cX3_addRow 45 = .ok (.getfield 34, 3) := by decide +kernel
theorem dX3_addRow_48 : decode cX3_addRow 48 = .ok (.iconst 1, 1) := by decide +kernel
theorem dX3_addRow_49 : decode cX3_addRow 49 = .ok (.iadd, 1) := by decide +kernel
theorem dX3_addRow_50 : decode cX3_addRow 50 = .ok (.putfield 34, 3) := by decide +kernel
theorem dX3_addRow_53 : decode cX3_addRow 53 = .ok (.iconst 1, 1) := by decide +kernel
theorem dX3_addRow_54 : decode cX3_addRow 54 = .ok (.ireturn, 1) := by decide +kernel
theorem dX3_changeLap_0 : decode cX3_changeLap 0 = .ok (.iload_n 1, 1) := by decide +kernel
theorem dX3_changeLap_1 : decode cX3_changeLap 1 = .ok (.bipush 20, 2) := by decide +kernel
theorem dX3_changeLap_3 : decode cX3_changeLap 3 = .ok (.if_icmp .le 5, 3) := by decide +kernel
theorem dX3_changeLap_6 : decode cX3_changeLap 6 = .ok (.iconst 0, 1) := by decide +kernel
theorem dX3_changeLap_7 : decode cX3_changeLap 7 = .ok (.ireturn, 1) := by decide +kernel
theorem dX3_changeLap_8 : decode cX3_changeLap 8 = .ok (.aload_n 0, 1) := by decide +kernel
theorem dX3_changeLap_9 : decode cX3_changeLap 9 = .ok (.iload_n 1, 1) := by decide +kernel
theorem dX3_changeLap_10 : decode cX3_changeLap 10 = .ok (.putfield 37, 3) := by decide +kernel
theorem dX3_changeLap_13 : decode cX3_changeLap 13 = .ok (.iconst 1, 1) := by decide +kernel
theorem dX3_changeLap_14 : decode cX3_changeLap 14 = .ok (.ireturn, 1) := by decide +kernel
theorem dX3_slatesInHeap_0 : decode cX3_slatesInHeap 0 = .ok (.iconst 0, 1) := by decide +kernel
theorem dX3_slatesInHeap_1 : decode cX3_slatesInHeap 1 = .ok (.istore_n 1, 1) := by decide +kernel
theorem dX3_slatesInHeap_2 : decode cX3_slatesInHeap 2 = .ok (.iconst 0, 1) := by decide +kernel
theorem dX3_slatesInHeap_3 : decode cX3_slatesInHeap 3 = .ok (.istore_n 2, 1) := by decide +kernel
theorem dX3_slatesInHeap_4 : decode cX3_slatesInHeap 4 = .ok (.iload_n 2, 1) := by decide +kernel
theorem dX3_slatesInHeap_5 : decode cX3_slatesInHeap 5 = .ok (.aload_n 0, 1) := by decide +kernel
theorem dX3_slatesInHeap_6 : decode cX3_slatesInHeap 6 = .ok (.getfield 30, 3) := by decide +kernel
theorem dX3_slatesInHeap_9 : decode cX3_slatesInHeap 9 = .ok (.if_icmp .ge 18, 3) := by decide +kernel
theorem dX3_slatesInHeap_12 : decode cX3_slatesInHeap 12 = .ok (.iload_n 1, 1) := by decide +kernel
theorem dX3_slatesInHeap_13 : decode cX3_slatesInHeap 13 = .ok (.aload_n 0, 1) := by decide +kernel
theorem dX3_slatesInHeap_14 : decode cX3_slatesInHeap 14 = .ok (.getfield 15, 3) := by decide +kernel
theorem dX3_slatesInHeap_17 : decode cX3_slatesInHeap 17 = .ok (.iload_n 2, 1) := by decide +kernel
theorem dX3_slatesInHeap_18 : decode cX3_slatesInHeap 18 = .ok (.iaload, 1) := by decide +kernel
theorem dX3_slatesInHeap_19 : decode cX3_slatesInHeap 19 = .ok (.iadd, 1) := by decide +kernel
theorem dX3_slatesInHeap_20 : decode cX3_slatesInHeap 20 = .ok (.istore_n 1, 1) := by decide +kernel
theorem dX3_slatesInHeap_21 : decode cX3_slatesInHeap 21 = .ok (.iinc 2 1, 3) := by decide +kernel
theorem dX3_slatesInHeap_24 : decode cX3_slatesInHeap 24 = .ok (.goto (-20), 3) := by decide +kernel
theorem dX3_slatesInHeap_27 : decode cX3_slatesInHeap 27 = .ok (.iload_n 1, 1) := by decide +kernel
theorem dX3_slatesInHeap_28 : decode cX3_slatesInHeap 28 = .ok (.ireturn, 1) := by decide +kernel
theorem dX3_worthOfHeap_0 : decode cX3_worthOfHeap 0 = .ok (.iconst 0, 1) := by decide +kernel
theorem dX3_worthOfHeap_1 : decode cX3_worthOfHeap 1 = .ok (.istore_n 1, 1) := by decide +kernel
theorem dX3_worthOfHeap_2 : decode cX3_worthOfHeap 2 = .ok (.iconst 0, 1) := by decide +kernel
theorem dX3_worthOfHeap_3 : decode cX3_worthOfHeap 3 = .ok (.istore_n 2, 1) := by decide +kernel
theorem dX3_worthOfHeap_4 : decode cX3_worthOfHeap 4 = .ok (.iload_n 2, 1) := by decide +kernel
theorem dX3_worthOfHeap_5 : decode cX3_worthOfHeap 5 = .ok (.aload_n 0, 1) := by decide +kernel
theorem dX3_worthOfHeap_6 : decode cX3_worthOfHeap 6 = .ok (.getfield 30, 3) := by decide +kernel
theorem dX3_worthOfHeap_9 : decode cX3_worthOfHeap 9 = .ok (.if_icmp .ge 25, 3) := by decide +kernel
theorem dX3_worthOfHeap_12 : decode cX3_worthOfHeap 12 = .ok (.iload_n 1, 1) := by decide +kernel
theorem dX3_worthOfHeap_13 : decode cX3_worthOfHeap 13 = .ok (.aload_n 0, 1) := by decide +kernel
theorem dX3_worthOfHeap_14 : decode cX3_worthOfHeap 14 = .ok (.getfield 15, 3) := by decide +kernel
theorem dX3_worthOfHeap_17 : decode cX3_worthOfHeap 17 = .ok (.iload_n 2, 1) := by decide +kernel
theorem dX3_worthOfHeap_18 : decode cX3_worthOfHeap 18 = .ok (.iaload, 1) := by decide +kernel
theorem dX3_worthOfHeap_19 : decode cX3_worthOfHeap 19 = .ok (.aload_n 0, 1) := by decide +kernel
theorem dX3_worthOfHeap_20 : decode cX3_worthOfHeap 20 = .ok (.getfield 18, 3) := by decide +kernel
theorem dX3_worthOfHeap_23 : decode cX3_worthOfHeap 23 = .ok (.iload_n 2, 1) := by decide +kernel
theorem dX3_worthOfHeap_24 : decode cX3_worthOfHeap 24 = .ok (.iaload, 1) := by decide +kernel
theorem dX3_worthOfHeap_25 : decode cX3_worthOfHeap 25 = .ok (.imul, 1) := by decide +kernel
theorem dX3_worthOfHeap_26 : decode cX3_worthOfHeap 26 = .ok (.iadd, 1) := by decide +kernel
theorem dX3_worthOfHeap_27 : decode cX3_worthOfHeap 27 = .ok (.istore_n 1, 1) := by decide +kernel
theorem dX3_worthOfHeap_28 : decode cX3_worthOfHeap 28 = .ok (.iinc 2 1, 3) := by decide +kernel
theorem dX3_worthOfHeap_31 : decode cX3_worthOfHeap 31 = .ok (.goto (-27), 3) := by decide +kernel
theorem dX3_worthOfHeap_34 : decode cX3_worthOfHeap 34 = .ok (.iload_n 1, 1) := by decide +kernel
theorem dX3_worthOfHeap_35 : decode cX3_worthOfHeap 35 = .ok (.ireturn, 1) := by decide +kernel
theorem dX3_rowsLaid_0 : decode cX3_rowsLaid 0 = .ok (.iconst 0, 1) := by decide +kernel
theorem dX3_rowsLaid_1 : decode cX3_rowsLaid 1 = .ok (.istore_n 1, 1) := by decide +kernel
theorem dX3_rowsLaid_2 : decode cX3_rowsLaid 2 = .ok (.iconst 0, 1) := by decide +kernel
theorem dX3_rowsLaid_3 : decode cX3_rowsLaid 3 = .ok (.istore_n 2, 1) := by decide +kernel
theorem dX3_rowsLaid_4 : decode cX3_rowsLaid 4 = .ok (.iload_n 2, 1) := by decide +kernel
theorem dX3_rowsLaid_5 : decode cX3_rowsLaid 5 = .ok (.aload_n 0, 1) := by decide +kernel
theorem dX3_rowsLaid_6 : decode cX3_rowsLaid 6 = .ok (.getfield 34, 3) := by decide +kernel
theorem dX3_rowsLaid_9 : decode cX3_rowsLaid 9 = .ok (.if_icmp .ge 21, 3) := by decide +kernel
theorem dX3_rowsLaid_12 : decode cX3_rowsLaid 12 = .ok (.aload_n 0, 1) := by decide +kernel
theorem dX3_rowsLaid_13 : decode cX3_rowsLaid 13 = .ok (.getfield 24, 3) := by decide +kernel
theorem dX3_rowsLaid_16 : decode cX3_rowsLaid 16 = .ok (.iload_n 2, 1) := by decide +kernel
theorem dX3_rowsLaid_17 : decode cX3_rowsLaid 17 = .ok (.iaload, 1) := by decide +kernel
theorem dX3_rowsLaid_18 : decode cX3_rowsLaid 18 = .ok (.ifCond .le 6, 3) := by decide +kernel
theorem dX3_rowsLaid_21 : decode cX3_rowsLaid 21 = .ok (.iinc 1 1, 3) := by decide +kernel
theorem dX3_rowsLaid_24 : decode cX3_rowsLaid 24 = .ok (.iinc 2 1, 3) := by decide +kernel
theorem dX3_rowsLaid_27 : decode cX3_rowsLaid 27 = .ok (.goto (-23), 3) := by decide +kernel
theorem dX3_rowsLaid_30 : decode cX3_rowsLaid 30 = .ok (.iload_n 1, 1) := by decide +kernel
theorem dX3_rowsLaid_31 : decode cX3_rowsLaid 31 = .ok (.ireturn, 1) := by decide +kernel
theorem dX3_slateAt_0 : decode cX3_slateAt 0 = .ok (.aload_n 0, 1) := by decide +kernel
theorem dX3_slateAt_1 : decode cX3_slateAt 1 = .ok (.getfield 27, 3) := by decide +kernel
theorem dX3_slateAt_4 : decode cX3_slateAt 4 = .ok (.iload_n 1, 1) := by decide +kernel
theorem dX3_slateAt_5 : decode cX3_slateAt 5 = .ok (.bipush 12, 2) := by decide +kernel
theorem dX3_slateAt_7 : decode cX3_slateAt 7 = .ok (.imul, 1) := by decide +kernel
theorem dX3_slateAt_8 : decode cX3_slateAt 8 = .ok (.iload_n 2, 1) := by decide +kernel
theorem dX3_slateAt_9 : decode cX3_slateAt 9 = .ok (.iadd, 1) := by decide +kernel
theorem dX3_slateAt_10 : decode cX3_slateAt 10 = .ok (.iaload, 1) := by decide +kernel
theorem dX3_slateAt_11 : decode cX3_slateAt 11 = .ok (.ireturn, 1) := by decide +kernel
set_option maxRecDepth 20000 in
theorem ggX3_endOf_X3_slateAt : GoodIn wsX3_endOf wsX3_slateAt := goodIn_r _ [7, 8, 9, 10, 11, 12, 13, 14, 15, 16, 17] (by decide +kernel) (by decide +kernel)
set_option maxRecDepth 20000 in
theorem gX3_endOf_X3_slateAt : GoodIn wsX3_endOf (wsV RX3 50 RX3 yX3_slateAt wsX3_slateAt) := goodIn_app (goodIn_of _ (by decide +kernel)) ggX3_endOf_X3_slateAt
theorem dX3_endOf_0 : decode cX3_endOf 0 = .ok (.iconst 0, 1) := by decide +kernel
theorem dX3_endOf_1 : decode cX3_endOf 1 = .ok (.istore_n 3, 1) := by decide +kernel
theorem dX3_endOf_2 : decode cX3_endOf 2 = .ok (.iconst 0, 1) := by decide +kernel
theorem dX3_endOf_3 : decode cX3_endOf 3 = .ok (.istore 4, 2) := by decide +kernel
theorem dX3_endOf_5 : decode cX3_endOf 5 = .ok (.iload 4, 2) := by decide +kernel
theorem dX3_endOf_7 : decode cX3_endOf 7 = .ok (.iload_n 2, 1) := by decide +kernel
theorem dX3_endOf_8 : decode cX3_endOf 8 = .ok (.if_icmp .gt 35, 3) := by decide +kernel
theorem dX3_endOf_11 : decode cX3_endOf 11 = .ok (.iload 4, 2) := by decide +kernel
theorem dX3_endOf_13 : decode cX3_endOf 13 = .ok (.aload_n 0, 1) := by decide +kernel
theorem dX3_endOf_14 : decode cX3_endOf 14 = .ok (.getfield 24, 3) := by decide +kernel
theorem dX3_endOf_17 : decode cX3_endOf 17 = .ok (.iload_n 1, 1) := by decide +kernel
theorem dX3_endOf_18 : decode cX3_endOf 18 = .ok (.iaload, 1) := by decide +kernel
theorem dX3_endOf_19 : decode cX3_endOf 19 = .ok (.if_icmp .ge 24, 3) := by decide +kernel
theorem dX3_endOf_22 : decode cX3_endOf 22 = .ok (.iload_n 3, 1) := by decide +kernel
theorem dX3_endOf_23 : decode cX3_endOf 23 = .ok (.aload_n 0, 1) := by decide +kernel
theorem dX3_endOf_24 : decode cX3_endOf 24 = .ok (.getfield 9, 3) := by decide +kernel
theorem dX3_endOf_27 : decode cX3_endOf 27 = .ok (.aload_n 0, 1) := by decide +kernel
theorem dX3_endOf_28 : decode cX3_endOf 28 = .ok (.iload_n 1, 1) := by decide +kernel
theorem dX3_endOf_29 : decode cX3_endOf 29 = .ok (.iload 4, 2) := by decide +kernel
theorem dX3_endOf_31 : decode cX3_endOf 31 = .ok (.invokevirtual 50, 3) := by decide +kernel
theorem dX3_endOf_34 : decode cX3_endOf 34 = .ok (.iaload, 1) := by decide +kernel
theorem dX3_endOf_35 : decode cX3_endOf 35 = .ok (.iadd, 1) := by decide +kernel
theorem dX3_endOf_36 : decode cX3_endOf 36 = .ok (.istore_n 3, 1) := by decide +kernel
theorem dX3_endOf_37 : decode cX3_endOf 37 = .ok (.iinc 4 1, 3) := by decide +kernel
theorem dX3_endOf_40 : decode cX3_endOf 40 = .ok (.goto (-35), 3) := by decide +kernel
theorem dX3_endOf_43 : decode cX3_endOf 43 = .ok (.iload_n 3, 1) := by decide +kernel
theorem dX3_endOf_44 : decode cX3_endOf 44 = .ok (.ireturn, 1) := by decide +kernel
set_option maxRecDepth 20000 in
theorem ggX3_cutOf_X3_endOf : GoodIn wsX3_cutOf wsX3_endOf := goodIn_r _ [7, 1, 8, 9, 10, 11, 6, 12, 13, 14, 15, 16, 17, 18, 19, 20, 21, 22] (by decide +kernel) (by decide +kernel)
set_option maxRecDepth 20000 in
theorem gX3_cutOf_X3_endOf : GoodIn wsX3_cutOf (wsV RX3 54 RX3 yX3_endOf wsX3_endOf) := goodIn_app (goodIn_of _ (by decide +kernel)) ggX3_cutOf_X3_endOf
theorem dX3_cutOf_0 : decode cX3_cutOf 0 = .ok (.aload_n 0, 1) := by decide +kernel
theorem dX3_cutOf_1 : decode cX3_cutOf 1 = .ok (.getfield 24, 3) := by decide +kernel
theorem dX3_cutOf_4 : decode cX3_cutOf 4 = .ok (.iload_n 1, 1) := by decide +kernel
theorem dX3_cutOf_5 : decode cX3_cutOf 5 = .ok (.iaload, 1) := by decide +kernel
theorem dX3_cutOf_6 : decode cX3_cutOf 6 = .ok (.ifCond .ne 7, 3) := by decide +kernel
theorem dX3_cutOf_9 : decode cX3_cutOf 9 = .ok (.iconst 0, 1) := by decide +kernel
theorem dX3_cutOf_10 : decode cX3_cutOf 10 = .ok (.goto 23, 3) := by decide +kernel
theorem dX3_cutOf_13 : decode cX3_cutOf 13 = .ok (.aload_n 0, 1) := by decide +kernel
theorem dX3_cutOf_14 : decode cX3_cutOf 14 = .ok (.iload_n 1, 1) := by decide +kernel
theorem dX3_cutOf_15 : decode cX3_cutOf 15 = .ok (.aload_n 0, 1) := by decide +kernel
theorem dX3_cutOf_16 : decode cX3_cutOf 16 = .ok (.getfield 24, 3) := by decide +kernel
theorem dX3_cutOf_19 : decode cX3_cutOf 19 = .ok (.iload_n 1, 1) := by decide +kernel
theorem dX3_cutOf_20 : decode cX3_cutOf 20 = .ok (.iaload, 1) := by decide +kernel
theorem dX3_cutOf_21 : decode cX3_cutOf 21 = .ok (.iconst 1, 1) := by decide +kernel
theorem dX3_cutOf_22 : decode cX3_cutOf 22 = .ok (.isub, 1) := by decide +kernel
theorem dX3_cutOf_23 : decode cX3_cutOf 23 = .ok (.invokevirtual 54, 3) := by decide +kernel
theorem dX3_cutOf_26 : decode cX3_cutOf 26 = .ok (.aload_n 0, 1) := by decide +kernel
theorem dX3_cutOf_27 : decode cX3_cutOf 27 = .ok (.getfield 21, 3) := by decide +kernel
theorem dX3_cutOf_30 : decode cX3_cutOf 30 = .ok (.iload_n 1, 1) := by decide +kernel
theorem dX3_cutOf_31 : decode cX3_cutOf 31 = .ok (.iaload, 1) := by decide +kernel
theorem dX3_cutOf_32 : decode cX3_cutOf 32 = .ok (.isub, 1) := by decide +kernel
theorem dX3_cutOf_33 : decode cX3_cutOf 33 = .ok (.ireturn, 1) := by decide +kernel
set_option maxRecDepth 20000 in
theorem ggX3_wholeOnesOf_X3_cutOf : GoodIn wsX3_wholeOnesOf wsX3_cutOf := goodIn_r _ [6, 1, 7, 8, 9, 10, 5, 11, 12, 13, 14, 15, 16, 17, 18, 19, 20, 21, 22, 23, 24, 25, 26] (by decide +kernel) (by decide +kernel)
set_option maxRecDepth 20000 in
theorem gX3_wholeOnesOf_X3_cutOf : GoodIn wsX3_wholeOnesOf (wsV RX3 57 RX3 yX3_cutOf wsX3_cutOf) := goodIn_app (goodIn_of _ (by decide +kernel)) ggX3_wholeOnesOf_X3_cutOf
theorem dX3_wholeOnesOf_0 : decode cX3_wholeOnesOf 0 = .ok (.aload_n 0, 1) := by decide +kernel
theorem dX3_wholeOnesOf_1 : decode cX3_wholeOnesOf 1 = .ok (.iload_n 1, 1) := by decide +kernel
theorem dX3_wholeOnesOf_2 : decode cX3_wholeOnesOf 2 = .ok (.invokevirtual 57, 3) := by decide +kernel
theorem dX3_wholeOnesOf_5 : decode cX3_wholeOnesOf 5 = .ok (.ifCond .le 14, 3) := by decide +kernel
theorem dX3_wholeOnesOf_8 : decode cX3_wholeOnesOf 8 = .ok (.aload_n 0, 1) := by decide +kernel
theorem dX3_wholeOnesOf_9 : decode cX3_wholeOnesOf 9 = .ok (.getfield 24, 3) := by decide +kernel
theorem dX3_wholeOnesOf_12 : decode cX3_wholeOnesOf 12 = .ok (.iload_n 1, 1) := by decide +kernel
theorem dX3_wholeOnesOf_13 : decode cX3_wholeOnesOf 13 = .ok (.iaload, 1) := by decide +kernel
theorem dX3_wholeOnesOf_14 : decode cX3_wholeOnesOf 14 = .ok (.iconst 1, 1) := by decide +kernel
theorem dX3_wholeOnesOf_15 : decode cX3_wholeOnesOf 15 = .ok (.isub, 1) := by decide +kernel
theorem dX3_wholeOnesOf_16 : decode cX3_wholeOnesOf 16 = .ok (.goto 9, 3) := by decide +kernel
theorem dX3_wholeOnesOf_19 : decode cX3_wholeOnesOf 19 = .ok (.aload_n 0, 1) := by decide +kernel
theorem dX3_wholeOnesOf_20 : decode cX3_wholeOnesOf 20 = .ok (.getfield 24, 3) := by decide +kernel
theorem dX3_wholeOnesOf_23 : decode cX3_wholeOnesOf 23 = .ok (.iload_n 1, 1) := by decide +kernel
theorem dX3_wholeOnesOf_24 : decode cX3_wholeOnesOf 24 = .ok (.iaload, 1) := by decide +kernel
theorem dX3_wholeOnesOf_25 : decode cX3_wholeOnesOf 25 = .ok (.ireturn, 1) := by decide +kernel
set_option maxRecDepth 20000 in
theorem ggX3_allowsJoint_X3_slateAt : GoodIn wsX3_allowsJoint wsX3_slateAt := goodIn_r _ [12, 13, 14, 15, 16, 17, 18, 19, 20, 21, 22] (by decide +kernel) (by decide +kernel)
set_option maxRecDepth 20000 in
theorem gX3_allowsJoint_X3_slateAt : GoodIn wsX3_allowsJoint (wsV RX3 50 RX3 yX3_slateAt wsX3_slateAt) := goodIn_app (goodIn_of _ (by decide +kernel)) ggX3_allowsJoint_X3_slateAt
theorem dX3_allowsJoint_0 : decode cX3_allowsJoint 0 = .ok (.iload_n 1, 1) := by decide +kernel
theorem dX3_allowsJoint_1 : decode cX3_allowsJoint 1 = .ok (.iconst 1, 1) := by decide +kernel
theorem dX3_allowsJoint_2 : decode cX3_allowsJoint 2 = .ok (.if_icmp .ge 5, 3) := by decide +kernel
theorem dX3_allowsJoint_5 : decode cX3_allowsJoint 5 = .ok (.iconst 1, 1) := by decide +kernel
theorem dX3_allowsJoint_6 : decode cX3_allowsJoint 6 = .ok (.ireturn, 1) := by decide +kernel
theorem dX3_allowsJoint_7 : decode cX3_allowsJoint 7 = .ok (.iconst 0, 1) := by decide +kernel
theorem dX3_allowsJoint_8 : decode cX3_allowsJoint 8 = .ok (.istore_n 3, 1) := by decide +kernel
theorem dX3_allowsJoint_9 : decode cX3_allowsJoint 9 = .ok (.iconst 0, 1) := by decide +kernel
theorem dX3_allowsJoint_10 : decode cX3_allowsJoint 10 = .ok (.istore 4, 2) := by decide +kernel
theorem dX3_allowsJoint_12 : decode cX3_allowsJoint 12 = .ok (.iload 4, 2) := by decide +kernel
theorem dX3_allowsJoint_14 : decode cX3_allowsJoint 14 = .ok (.aload_n 0, 1) := by decide +kernel
theorem dX3_allowsJoint_15 : decode cX3_allowsJoint 15 = .ok (.getfield 24, 3) := by decide +kernel
theorem dX3_allowsJoint_18 : decode cX3_allowsJoint 18 = .ok (.iload_n 1, 1) := by decide +kernel
theorem dX3_allowsJoint_19 : decode cX3_allowsJoint 19 = .ok (.iconst 1, 1) := by decide +kernel
theorem dX3_allowsJoint_20 : decode cX3_allowsJoint 20 = .ok (.isub, 1) := by decide +kernel
theorem dX3_allowsJoint_21 : decode cX3_allowsJoint 21 = .ok (.iaload, 1) := by decide +kernel
theorem dX3_allowsJoint_22 : decode cX3_allowsJoint 22 = .ok (.iconst 1, 1) := by decide +kernel
theorem dX3_allowsJoint_23 : decode cX3_allowsJoint 23 = .ok (.isub, 1) := by decide +kernel
theorem dX3_allowsJoint_24 : decode cX3_allowsJoint 24 = .ok (.if_icmp .ge 41, 3) := by decide +kernel
theorem dX3_allowsJoint_27 : decode cX3_allowsJoint 27 = .ok (.iload_n 3, 1) := by decide +kernel
theorem dX3_allowsJoint_28 : decode cX3_allowsJoint 28 = .ok (.aload_n 0, 1) := by decide +kernel
theorem dX3_allowsJoint_29 : decode cX3_allowsJoint 29 = .ok (.getfield 9, 3) := by decide +kernel
theorem dX3_allowsJoint_32 : decode cX3_allowsJoint 32 = .ok (.aload_n 0, 1) := by decide +kernel
theorem dX3_allowsJoint_33 : decode cX3_allowsJoint 33 = .ok (.iload_n 1, 1) := by decide +kernel
theorem dX3_allowsJoint_34 : decode cX3_allowsJoint 34 = .ok (.iconst 1, 1) := by decide +kernel
theorem dX3_allowsJoint_35 : decode cX3_allowsJoint 35 = .ok (.isub, 1) := by decide +kernel
theorem dX3_allowsJoint_36 : decode cX3_allowsJoint 36 = .ok (.iload 4, 2) := by decide +kernel
theorem dX3_allowsJoint_38 : decode cX3_allowsJoint 38 = .ok (.invokevirtual 50, 3) := by decide +kernel
theorem dX3_allowsJoint_41 : decode cX3_allowsJoint 41 = .ok (.iaload, 1) := by decide +kernel
theorem dX3_allowsJoint_42 : decode cX3_allowsJoint 42 = .ok (.iadd, 1) := by decide +kernel
theorem dX3_allowsJoint_43 : decode cX3_allowsJoint 43 = .ok (.istore_n 3, 1) := by decide +kernel
theorem dX3_allowsJoint_44 : decode cX3_allowsJoint 44 = .ok (.iload_n 2, 1) := by decide +kernel
theorem dX3_allowsJoint_45 : decode cX3_allowsJoint 45 = .ok (.iload_n 3, 1) := by decide +kernel
theorem dX3_allowsJoint_46 : decode cX3_allowsJoint 46 = .ok (.isub, 1) := by decide +kernel
theorem dX3_allowsJoint_47 : decode cX3_allowsJoint 47 = .ok (.invokestatic 61, 3) := by decide +kernel
theorem dX3_allowsJoint_50 : decode cX3_allowsJoint 50 = .ok (.aload_n 0, 1) := by decide +kernel
theorem dX3_allowsJoint_51 : decode cX3_allowsJoint 51 = .ok (.getfield 37, 3) := by decide +kernel
theorem dX3_allowsJoint_54 : decode cX3_allowsJoint 54 = .ok (.if_icmp .ge 5, 3) := by decide +kernel
theorem dX3_allowsJoint_57 : decode cX3_allowsJoint 57 = .ok (.iconst 0, 1) := by decide +kernel
theorem dX3_allowsJoint_58 : decode cX3_allowsJoint 58 = .ok (.ireturn, 1) := by decide +kernel
theorem dX3_allowsJoint_59 : decode cX3_allowsJoint 59 = .ok (.iinc 4 1, 3) := by decide +kernel
theorem dX3_allowsJoint_62 : decode cX3_allowsJoint 62 = .ok (.goto (-50), 3) := by decide +kernel
theorem dX3_allowsJoint_65 : decode cX3_allowsJoint 65 = .ok (.iconst 1, 1) := by decide +kernel
theorem dX3_allowsJoint_66 : decode cX3_allowsJoint 66 = .ok (.ireturn, 1) := by decide +kernel
set_option maxRecDepth 20000 in
theorem ggX3_faultOf_X5_of : GoodIn wsX3_faultOf wsX5_of := goodIn_r _ [10] (by decide +kernel) (by decide +kernel)
set_option maxRecDepth 20000 in
theorem gX3_faultOf_X5_of : GoodIn wsX3_faultOf (va_wsS RX3 74 yX5_of wsX5_of) := goodIn_app (goodIn_of _ (by decide +kernel)) ggX3_faultOf_X5_of
set_option maxRecDepth 20000 in
theorem ggX3_faultOf_X5_withOneMore : GoodIn wsX3_faultOf wsX5_withOneMore := goodIn_r _ [13] (by decide +kernel) (by decide +kernel)
set_option maxRecDepth 20000 in
theorem gX3_faultOf_X5_withOneMore : GoodIn wsX3_faultOf (va_wsS RX3 79 yX5_withOneMore wsX5_withOneMore) := goodIn_app (goodIn_of _ (by decide +kernel)) ggX3_faultOf_X5_withOneMore
set_option maxRecDepth 20000 in
theorem ggX3_faultOf_X3_allowsJoint : GoodIn wsX3_faultOf wsX3_allowsJoint := goodIn_r _ [18, 19, 6, 20, 21, 22, 23, 24, 25, 26, 27, 17, 28, 29, 35, 36, 37, 38, 39, 40, 41, 42, 43] (by decide +kernel) (by decide +kernel)
set_option maxRecDepth 20000 in
theorem gX3_faultOf_X3_allowsJoint : GoodIn wsX3_faultOf (wsV RX3 82 RX3 yX3_allowsJoint wsX3_allowsJoint) := goodIn_app (goodIn_of _ (by decide +kernel)) ggX3_faultOf_X3_allowsJoint
theorem dX3_faultOf_0 : decode cX3_faultOf 0 = .ok (.iconst 0, 1) := by decide +kernel
theorem dX3_faultOf_1 : decode cX3_faultOf 1 = .ok (.istore_n 3, 1) := by decide +kernel
theorem dX3_faultOf_2 : decode cX3_faultOf 2 = .ok (.iconst 0, 1) := by decide +kernel
theorem dX3_faultOf_3 : decode cX3_faultOf 3 = .ok (.istore 4, 2) := by decide +kernel
theorem dX3_faultOf_5 : decode cX3_faultOf 5 = .ok (.iconst 0, 1) := by decide +kernel
theorem dX3_faultOf_6 : decode cX3_faultOf 6 = .ok (.istore 5, 2) := by decide +kernel
theorem dX3_faultOf_8 : decode cX3_faultOf 8 = .ok (.iload 5, 2) := by decide +kernel
theorem dX3_faultOf_10 : decode cX3_faultOf 10 = .ok (.aload_n 2, 1) := by decide +kernel
theorem dX3_faultOf_11 : decode cX3_faultOf 11 = .ok (.getfield 66, 3) := by decide +kernel
theorem dX3_faultOf_14 : decode cX3_faultOf 14 = .ok (.if_icmp .ge 103, 3) := by decide +kernel
theorem dX3_faultOf_17 : decode cX3_faultOf 17 = .ok (.aload_n 2, 1) := by decide +kernel
theorem dX3_faultOf_18 : decode cX3_faultOf 18 = .ok (.getfield 71, 3) := by decide +kernel
theorem dX3_faultOf_21 : decode cX3_faultOf 21 = .ok (.iload 5, 2) := by decide +kernel
theorem dX3_faultOf_23 : decode cX3_faultOf 23 = .ok (.iaload, 1) := by decide +kernel
theorem dX3_faultOf_24 : decode cX3_faultOf 24 = .ok (.istore 6, 2) := by decide +kernel
theorem dX3_faultOf_26 : decode cX3_faultOf 26 = .ok (.iload 6, 2) := by decide +kernel
theorem dX3_faultOf_28 : decode cX3_faultOf 28 = .ok (.ifCond .lt 39, 3) := by decide +kernel
theorem dX3_faultOf_31 : decode cX3_faultOf 31 = .ok (.iload 6, 2) := by decide +kernel
theorem dX3_faultOf_33 : decode cX3_faultOf 33 = .ok (.aload_n 0, 1) := by decide +kernel
theorem dX3_faultOf_34 : decode cX3_faultOf 34 = .ok (.getfield 30, 3) := by decide +kernel
theorem dX3_faultOf_37 : decode cX3_faultOf 37 = .ok (.if_icmp .ge 30, 3) := by decide +kernel
theorem dX3_faultOf_40 : decode cX3_faultOf 40 = .ok (.iload 4, 2) := by decide +kernel
theorem dX3_faultOf_42 : decode cX3_faultOf 42 = .ok (.iload 6, 2) := by decide +kernel
theorem dX3_faultOf_44 : decode cX3_faultOf 44 = .ok (.invokestatic 74, 3) := by decide +kernel
theorem dX3_faultOf_47 : decode cX3_faultOf 47 = .ok (.aload_n 0, 1) := by decide +kernel
theorem dX3_faultOf_48 : decode cX3_faultOf 48 = .ok (.getfield 15, 3) := by decide +kernel
theorem dX3_faultOf_51 : decode cX3_faultOf 51 = .ok (.iload 6, 2) := by decide +kernel
theorem dX3_faultOf_53 : decode cX3_faultOf 53 = .ok (.iaload, 1) := by decide +kernel
theorem dX3_faultOf_54 : decode cX3_faultOf 54 = .ok (.if_icmp .ge 13, 3) := by decide +kernel
theorem dX3_faultOf_57 : decode cX3_faultOf 57 = .ok (.iload_n 3, 1) := by decide +kernel
theorem dX3_faultOf_58 : decode cX3_faultOf 58 = .ok (.aload_n 0, 1) := by decide +kernel
theorem dX3_faultOf_59 : decode cX3_faultOf 59 = .ok (.getfield 21, 3) := by decide +kernel
theorem dX3_faultOf_62 : decode cX3_faultOf 62 = .ok (.iload_n 1, 1) := by decide +kernel
theorem dX3_faultOf_63 : decode cX3_faultOf 63 = .ok (.iaload, 1) := by decide +kernel
theorem dX3_faultOf_64 : decode cX3_faultOf 64 = .ok (.if_icmp .lt 6, 3) := by decide +kernel
theorem dX3_faultOf_67 : decode cX3_faultOf 67 = .ok (.iload 5, 2) := by decide +kernel
theorem dX3_faultOf_69 : decode cX3_faultOf 69 = .ok (.ireturn, 1) := by decide +kernel
theorem dX3_faultOf_70 : decode cX3_faultOf 70 = .ok (.iload 4, 2) := by decide +kernel
theorem dX3_faultOf_72 : decode cX3_faultOf 72 = .ok (.iload 6, 2) := by decide +kernel
theorem dX3_faultOf_74 : decode cX3_faultOf 74 = .ok (.invokestatic 79, 3) := by decide +kernel
theorem dX3_faultOf_77 : decode cX3_faultOf 77 = .ok (.istore 4, 2) := by decide +kernel
theorem dX3_faultOf_79 : decode cX3_faultOf 79 = .ok (.iload_n 3, 1) := by decide +kernel
theorem dX3_faultOf_80 : decode cX3_faultOf 80 = .ok (.aload_n 0, 1) := by decide +kernel
theorem dX3_faultOf_81 : decode cX3_faultOf 81 = .ok (.getfield 9, 3) := by decide +kernel
theorem dX3_faultOf_84 : decode cX3_faultOf 84 = .ok (.iload 6, 2) := by decide +kernel
theorem dX3_faultOf_86 : decode cX3_faultOf 86 = .ok (.iaload, 1) := by decide +kernel
theorem dX3_faultOf_87 : decode cX3_faultOf 87 = .ok (.iadd, 1) := by decide +kernel
theorem dX3_faultOf_88 : decode cX3_faultOf 88 = .ok (.istore_n 3, 1) := by decide +kernel
theorem dX3_faultOf_89 : decode cX3_faultOf 89 = .ok (.iload_n 3, 1) := by decide +kernel
theorem dX3_faultOf_90 : decode cX3_faultOf 90 = .ok (.aload_n 0, 1) := by decide +kernel
theorem dX3_faultOf_91 : decode cX3_faultOf 91 = .ok (.getfield 21, 3) := by decide +kernel
theorem dX3_faultOf_94 : decode cX3_faultOf 94 = .ok (.iload_n 1, 1) := by decide +kernel
theorem dX3_faultOf_95 : decode cX3_faultOf 95 = .ok (.iaload, 1) := by decide +kernel
theorem dX3_faultOf_96 : decode cX3_faultOf 96 = .ok (.if_icmp .ge 15, 3) := by decide +kernel
theorem dX3_faultOf_99 : decode cX3_faultOf 99 = .ok (.aload_n 0, 1) := by decide +kernel
theorem dX3_faultOf_100 : decode cX3_faultOf 100 = .ok (.iload_n 1, 1) := by decide +kernel
theorem dX3_faultOf_101 : decode cX3_faultOf 101 = .ok (.iload_n 3, 1) := by decide +kernel
theorem dX3_faultOf_102 : decode cX3_faultOf 102 = .ok (.invokevirtual 82, 3) := by decide +kernel
theorem dX3_faultOf_105 : decode cX3_faultOf 105 = .ok (.ifCond .ne 6, 3) := by decide +kernel
theorem dX3_faultOf_108 : decode cX3_faultOf 108 = .ok (.iload 5, 2) := by decide +kernel
theorem dX3_faultOf_110 : decode cX3_faultOf 110 = .ok (.ireturn, 1) := by decide +kernel
theorem dX3_faultOf_111 : decode cX3_faultOf 111 = .ok (.iinc 5 1, 3) := by decide +kernel
theorem dX3_faultOf_114 : decode cX3_faultOf 114 = .ok (.goto (-106), 3) := by decide +kernel
theorem dX3_faultOf_117 : decode cX3_faultOf 117 = .ok (.iload_n 3, 1) := by decide +kernel
theorem dX3_faultOf_118 : decode cX3_faultOf 118 = .ok (.aload_n 0, 1) := by decide +kernel
theorem dX3_faultOf_119 : decode cX3_faultOf 119 = .ok (.getfield 21, 3) := by decide +kernel
theorem dX3_faultOf_122 : decode cX3_faultOf 122 = .ok (.iload_n 1, 1) := by decide +kernel
theorem dX3_faultOf_123 : decode cX3_faultOf 123 = .ok (.iaload, 1) := by decide +kernel
theorem dX3_faultOf_124 : decode cX3_faultOf 124 = .ok (.if_icmp .ge 10, 3) := by decide +kernel
theorem dX3_faultOf_127 : decode cX3_faultOf 127 = .ok (.aload_n 2, 1) := by decide +kernel
theorem dX3_faultOf_128 : decode cX3_faultOf 128 = .ok (.getfield 66, 3) := by decide +kernel
theorem dX3_faultOf_131 : decode cX3_faultOf 131 = .ok (.goto 5, 3) := by decide +kernel
theorem dX3_faultOf_134 : decode cX3_faultOf 134 = .ok (.bipush (-4), 2) := by decide +kernel
theorem dX3_faultOf_136 : decode cX3_faultOf 136 = .ok (.ireturn, 1) := by decide +kernel
theorem dX3_putDown_0 : decode cX3_putDown 0 = .ok (.iload_n 3, 1) := by decide +kernel
theorem dX3_putDown_1 : decode cX3_putDown 1 = .ok (.bipush 12, 2) := by decide +kernel
theorem dX3_putDown_3 : decode cX3_putDown 3 = .ok (.invokestatic 86, 3) := by decide +kernel
theorem dX3_putDown_6 : decode cX3_putDown 6 = .ok (.istore 4, 2) := by decide +kernel
theorem dX3_putDown_8 : decode cX3_putDown 8 = .ok (.iconst 0, 1) := by decide +kernel
theorem dX3_putDown_9 : decode cX3_putDown 9 = .ok (.istore 5, 2) := by decide +kernel
theorem dX3_putDown_11 : decode cX3_putDown 11 = .ok (.iload 5, 2) := by decide +kernel
theorem dX3_putDown_13 : decode cX3_putDown 13 = .ok (.iload 4, 2) := by decide +kernel
theorem dX3_putDown_15 : decode cX3_putDown 15 = .ok (.if_icmp .ge 38, 3) := by decide +kernel
theorem dX3_putDown_18 : decode cX3_putDown 18 = .ok (.aload_n 0, 1) := by decide +kernel
theorem dX3_putDown_19 : decode cX3_putDown 19 = .ok (.getfield 27, 3) := by decide +kernel
theorem dX3_putDown_22 : decode cX3_putDown 22 = .ok (.iload_n 1, 1) := by decide +kernel
theorem dX3_putDown_23 : decode cX3_putDown 23 = .ok (.bipush 12, 2) := by decide +kernel
theorem dX3_putDown_25 : decode cX3_putDown 25 = .ok (.imul, 1) := by decide +kernel
theorem dX3_putDown_26 : decode cX3_putDown 26 = .ok (.iload 5, 2) := by decide +kernel
theorem dX3_putDown_28 : decode cX3_putDown 28 = .ok (.iadd, 1) := by decide +kernel
theorem dX3_putDown_29 : decode cX3_putDown 29 = .ok (.aload_n 2, 1) := by decide +kernel
theorem dX3_putDown_30 : decode cX3_putDown 30 = .ok (.iload 5, 2) := by decide +kernel
theorem dX3_putDown_32 : decode cX3_putDown 32 = .ok (.iaload, 1) := by decide +kernel
theorem dX3_putDown_33 : decode cX3_putDown 33 = .ok (.iastore, 1) := by decide +kernel
theorem dX3_putDown_34 : decode cX3_putDown 34 = .ok (.aload_n 0, 1) := by decide +kernel
theorem dX3_putDown_35 : decode cX3_putDown 35 = .ok (.getfield 15, 3) := by decide +kernel
theorem dX3_putDown_38 : decode cX3_putDown 38 = .ok (.aload_n 2, 1) := by decide +kernel
theorem dX3_putDown_39 : decode cX3_putDown 39 = .ok (.iload 5, 2) := by decide +kernel
theorem dX3_putDown_41 : decode cX3_putDown 41 = .ok (.iaload, 1) := by decide +kernel
theorem dX3_putDown_42 : decode cX3_putDown 42 = .ok (.dup2, 1) := by decide +kernel
theorem dX3_putDown_43 : decode cX3_putDown 43 = .ok (.iaload, 1) := by decide +kernel
theorem dX3_putDown_44 : decode cX3_putDown 44 = .ok (.iconst 1, 1) := by decide +kernel
theorem dX3_putDown_45 : decode cX3_putDown 45 = .ok (.isub, 1) := by decide +kernel
theorem dX3_putDown_46 : decode cX3_putDown 46 = .ok (.iastore, 1) := by decide +kernel
theorem dX3_putDown_47 : decode cX3_putDown 47 = .ok (.iinc 5 1, 3) := by decide +kernel
theorem dX3_putDown_50 : decode cX3_putDown 50 = .ok (.goto (-39), 3) := by decide +kernel
theorem dX3_putDown_53 : decode cX3_putDown 53 = .ok (.aload_n 0, 1) := by decide +kernel
theorem dX3_putDown_54 : decode cX3_putDown 54 = .ok (.getfield 24, 3) := by decide +kernel
theorem dX3_putDown_57 : decode cX3_putDown 57 = .ok (.iload_n 1, 1) := by decide +kernel
theorem dX3_putDown_58 : decode cX3_putDown 58 = .ok (.iload 4, 2) := by decide +kernel
theorem dX3_putDown_60 : decode cX3_putDown 60 = .ok (.iastore, 1) := by decide +kernel
theorem dX3_putDown_61 : decode cX3_putDown 61 = .ok (.return_, 1) := by decide +kernel
set_option maxRecDepth 20000 in
theorem ggX3_bringBack_X3_wholeOnesOf : GoodIn wsX3_bringBack wsX3_wholeOnesOf := goodIn_r _ [7, 2, 8, 9, 10, 6, 11, 12, 13, 14, 15, 16, 17, 18, 19, 20, 21, 22, 23, 24, 25, 26, 27, 28, 29, 30, 31] (by decide +kernel) (by decide +kernel)
set_option maxRecDepth 20000 in
theorem gX3_bringBack_X3_wholeOnesOf : GoodIn wsX3_bringBack (wsV RX3 89 RX3 yX3_wholeOnesOf wsX3_wholeOnesOf) := goodIn_app (goodIn_of _ (by decide +kernel)) ggX3_bringBack_X3_wholeOnesOf
set_option maxRecDepth 20000 in
theorem ggX3_bringBack_X3_slateAt : GoodIn wsX3_bringBack wsX3_slateAt := goodIn_r _ [21, 22, 23, 24, 25, 26, 27, 28, 29, 30, 31] (by decide +kernel) (by decide +kernel)
set_option maxRecDepth 20000 in
theorem gX3_bringBack_X3_slateAt : GoodIn wsX3_bringBack (wsV RX3 50 RX3 yX3_slateAt wsX3_slateAt) := goodIn_app (goodIn_of _ (by decide +kernel)) ggX3_bringBack_X3_slateAt
theorem dX3_bringBack_0 : decode cX3_bringBack 0 = .ok (.aload_n 0, 1) := by decide +kernel
theorem dX3_bringBack_1 : decode cX3_bringBack 1 = .ok (.iload_n 1, 1) := by decide +kernel
theorem dX3_bringBack_2 : decode cX3_bringBack 2 = .ok (.invokevirtual 89, 3) := by decide +kernel
theorem dX3_bringBack_5 : decode cX3_bringBack 5 = .ok (.istore_n 2, 1) := by decide +kernel
theorem dX3_bringBack_6 : decode cX3_bringBack 6 = .ok (.iconst 0, 1) := by decide +kernel
theorem dX3_bringBack_7 : decode cX3_bringBack 7 = .ok (.istore_n 3, 1) := by decide +kernel
theorem dX3_bringBack_8 : decode cX3_bringBack 8 = .ok (.iconst 0, 1) := by decide +kernel
theorem dX3_bringBack_9 : decode cX3_bringBack 9 = .ok (.istore 4, 2) := by decide +kernel
theorem dX3_bringBack_11 : decode cX3_bringBack 11 = .ok (.iload 4, 2) := by decide +kernel
theorem dX3_bringBack_13 : decode cX3_bringBack 13 = .ok (.iload_n 2, 1) := by decide +kernel
theorem dX3_bringBack_14 : decode cX3_bringBack 14 = .ok (.if_icmp .ge 44, 3) := by decide +kernel
theorem dX3_bringBack_17 : decode cX3_bringBack 17 = .ok (.aload_n 0, 1) := by decide +kernel
theorem dX3_bringBack_18 : decode cX3_bringBack 18 = .ok (.iload_n 1, 1) := by decide +kernel
theorem dX3_bringBack_19 : decode cX3_bringBack 19 = .ok (.iload 4, 2) := by decide +kernel
theorem dX3_bringBack_21 : decode cX3_bringBack 21 = .ok (.invokevirtual 50, 3) := by decide +kernel
theorem dX3_bringBack_24 : decode cX3_bringBack 24 = .ok (.istore 5, 2) := by decide +kernel
theorem dX3_bringBack_26 : decode cX3_bringBack 26 = .ok (.aload_n 0, 1) := by decide +kernel
theorem dX3_bringBack_27 : decode cX3_bringBack 27 = .ok (.getfield 15, 3) := by decide +kernel
theorem dX3_bringBack_30 : decode cX3_bringBack 30 = .ok (.iload 5, 2) := by decide +kernel
theorem dX3_bringBack_32 : decode cX3_bringBack 32 = .ok (.iaload, 1) := by decide +kernel
theorem dX3_bringBack_33 : decode cX3_bringBack 33 = .ok (.bipush 12, 2) := by decide +kernel
theorem dX3_bringBack_35 : decode cX3_bringBack 35 = .ok (.if_icmp .ge 17, 3) := by decide +kernel
theorem dX3_bringBack_38 : decode cX3_bringBack 38 = .ok (.aload_n 0, 1) := by decide +kernel
theorem dX3_bringBack_39 : decode cX3_bringBack 39 = .ok (.getfield 15, 3) := by decide +kernel
theorem dX3_bringBack_42 : decode cX3_bringBack 42 = .ok (.iload 5, 2) := by decide +kernel
theorem dX3_bringBack_44 : decode cX3_bringBack 44 = .ok (.dup2, 1) := by decide +kernel
theorem dX3_bringBack_45 : decode cX3_bringBack 45 = .ok (.iaload, 1) := by decide +kernel
theorem dX3_bringBack_46 : decode cX3_bringBack 46 = .ok (.iconst 1, 1) := by decide +kernel
theorem dX3_bringBack_47 : decode cX3_bringBack 47 = .ok (.iadd, 1) := by decide +kernel
theorem dX3_bringBack_48 : decode cX3_bringBack 48 = .ok (.iastore, 1) := by decide +kernel
theorem dX3_bringBack_49 : decode cX3_bringBack 49 = .ok (.iinc 3 1, 3) := by decide +kernel
theorem dX3_bringBack_52 : decode cX3_bringBack 52 = .ok (.iinc 4 1, 3) := by decide +kernel
theorem dX3_bringBack_55 : decode cX3_bringBack 55 = .ok (.goto (-44), 3) := by decide +kernel
theorem dX3_bringBack_58 : decode cX3_bringBack 58 = .ok (.aload_n 0, 1) := by decide +kernel
theorem dX3_bringBack_59 : decode cX3_bringBack 59 = .ok (.getfield 24, 3) := by decide +kernel
theorem dX3_bringBack_62 : decode cX3_bringBack 62 = .ok (.iload_n 1, 1) := by decide +kernel
theorem dX3_bringBack_63 : decode cX3_bringBack 63 = .ok (.iconst 0, 1) := by decide +kernel
theorem dX3_bringBack_64 : decode cX3_bringBack 64 = .ok (.iastore, 1) := by decide +kernel
theorem dX3_bringBack_65 : decode cX3_bringBack 65 = .ok (.iload_n 3, 1) := by decide +kernel
theorem dX3_bringBack_66 : decode cX3_bringBack 66 = .ok (.ireturn, 1) := by decide +kernel
set_option maxRecDepth 20000 in
theorem ggX3_hasBoth_X5_of : GoodIn wsX3_hasBoth wsX5_of := goodIn_r _ [6] (by decide +kernel) (by decide +kernel)
set_option maxRecDepth 20000 in
theorem gX3_hasBoth_X5_of : GoodIn wsX3_hasBoth (va_wsS RX3 74 yX5_of wsX5_of) := goodIn_app (goodIn_of _ (by decide +kernel)) ggX3_hasBoth_X5_of
theorem dX3_hasBoth_0 : decode cX3_hasBoth 0 = .ok (.iconst 0, 1) := by decide +kernel
theorem dX3_hasBoth_1 : decode cX3_hasBoth 1 = .ok (.istore_n 3, 1) := by decide +kernel
theorem dX3_hasBoth_2 : decode cX3_hasBoth 2 = .ok (.iload_n 3, 1) := by decide +kernel
theorem dX3_hasBoth_3 : decode cX3_hasBoth 3 = .ok (.aload_n 0, 1) := by decide +kernel
theorem dX3_hasBoth_4 : decode cX3_hasBoth 4 = .ok (.getfield 30, 3) := by decide +kernel
theorem dX3_hasBoth_7 : decode cX3_hasBoth 7 = .ok (.if_icmp .ge 31, 3) := by decide +kernel
theorem dX3_hasBoth_10 : decode cX3_hasBoth 10 = .ok (.iload_n 1, 1) := by decide +kernel
theorem dX3_hasBoth_11 : decode cX3_hasBoth 11 = .ok (.iload_n 3, 1) := by decide +kernel
theorem dX3_hasBoth_12 : decode cX3_hasBoth 12 = .ok (.invokestatic 74, 3) := by decide +kernel
theorem dX3_hasBoth_15 : decode cX3_hasBoth 15 = .ok (.iload_n 2, 1) := by decide +kernel
theorem dX3_hasBoth_16 : decode cX3_hasBoth 16 = .ok (.iload_n 3, 1) := by decide +kernel
theorem dX3_hasBoth_17 : decode cX3_hasBoth 17 = .ok (.invokestatic 74, 3) := by decide +kernel
theorem dX3_hasBoth_20 : decode cX3_hasBoth 20 = .ok (.iadd, 1) := by decide +kernel
theorem dX3_hasBoth_21 : decode cX3_hasBoth 21 = .ok (.aload_n 0, 1) := by decide +kernel
theorem dX3_hasBoth_22 : decode cX3_hasBoth 22 = .ok (.getfield 15, 3) := by decide +kernel
theorem dX3_hasBoth_25 : decode cX3_hasBoth 25 = .ok (.iload_n 3, 1) := by decide +kernel
theorem dX3_hasBoth_26 : decode cX3_hasBoth 26 = .ok (.iaload, 1) := by decide +kernel
theorem dX3_hasBoth_27 : decode cX3_hasBoth 27 = .ok (.if_icmp .le 5, 3) := by decide +kernel
theorem dX3_hasBoth_30 : decode cX3_hasBoth 30 = .ok (.iconst 0, 1) := by decide +kernel
theorem dX3_hasBoth_31 : decode cX3_hasBoth 31 = .ok (.ireturn, 1) := by decide +kernel
theorem dX3_hasBoth_32 : decode cX3_hasBoth 32 = .ok (.iinc 3 1, 3) := by decide +kernel
theorem dX3_hasBoth_35 : decode cX3_hasBoth 35 = .ok (.goto (-33), 3) := by decide +kernel
theorem dX3_hasBoth_38 : decode cX3_hasBoth 38 = .ok (.iconst 1, 1) := by decide +kernel
theorem dX3_hasBoth_39 : decode cX3_hasBoth 39 = .ok (.ireturn, 1) := by decide +kernel
set_option maxRecDepth 20000 in
theorem ggX3_worthOfTaken_X5_of : GoodIn wsX3_worthOfTaken wsX5_of := goodIn_r _ [6] (by decide +kernel) (by decide +kernel)
set_option maxRecDepth 20000 in
theorem gX3_worthOfTaken_X5_of : GoodIn wsX3_worthOfTaken (va_wsS RX3 74 yX5_of wsX5_of) := goodIn_app (goodIn_of _ (by decide +kernel)) ggX3_worthOfTaken_X5_of
theorem dX3_worthOfTaken_0 : decode cX3_worthOfTaken 0 = .ok (.iconst 0, 1) := by decide +kernel
theorem dX3_worthOfTaken_1 : decode cX3_worthOfTaken 1 = .ok (.istore_n 2, 1) := by decide +kernel
theorem dX3_worthOfTaken_2 : decode cX3_worthOfTaken 2 = .ok (.iconst 0, 1) := by decide +kernel
theorem dX3_worthOfTaken_3 : decode cX3_worthOfTaken 3 = .ok (.istore_n 3, 1) := by decide +kernel
theorem dX3_worthOfTaken_4 : decode cX3_worthOfTaken 4 = .ok (.iload_n 3, 1) := by decide +kernel
theorem dX3_worthOfTaken_5 : decode cX3_worthOfTaken 5 = .ok (.aload_n 0, 1) := by decide +kernel
theorem dX3_worthOfTaken_6 : decode cX3_worthOfTaken 6 = .ok (.getfield 30, 3) := by decide +kernel
theorem dX3_worthOfTaken_9 : decode cX3_worthOfTaken 9 = .ok (.if_icmp .ge 24, 3) := by decide +kernel
theorem dX3_worthOfTaken_12 : decode cX3_worthOfTaken 12 = .ok (.iload_n 2, 1) := by decide +kernel
theorem dX3_worthOfTaken_13 : decode cX3_worthOfTaken 13 = .ok (.iload_n 1, 1) := by decide +kernel
theorem dX3_worthOfTaken_14 : decode cX3_worthOfTaken 14 = .ok (.iload_n 3, 1) := by decide +kernel
theorem dX3_worthOfTaken_15 : decode cX3_worthOfTaken 15 = .ok (.invokestatic 74, 3) := by decide +kernel
theorem dX3_worthOfTaken_18 : decode cX3_worthOfTaken 18 = .ok (.aload_n 0, 1) := by decide +kernel
theorem dX3_worthOfTaken_19 : decode cX3_worthOfTaken 19 = .ok (.getfield 18, 3) := by decide +kernel
theorem dX3_worthOfTaken_22 : decode cX3_worthOfTaken 22 = .ok (.iload_n 3, 1) := by decide +kernel
theorem dX3_worthOfTaken_23 : decode cX3_worthOfTaken 23 = .ok (.iaload, 1) := by decide +kernel
theorem dX3_worthOfTaken_24 : decode cX3_worthOfTaken 24 = .ok (.imul, 1) := by decide +kernel
theorem dX3_worthOfTaken_25 : decode cX3_worthOfTaken 25 = .ok (.iadd, 1) := by decide +kernel
theorem dX3_worthOfTaken_26 : decode cX3_worthOfTaken 26 = .ok (.istore_n 2, 1) := by decide +kernel
theorem dX3_worthOfTaken_27 : decode cX3_worthOfTaken 27 = .ok (.iinc 3 1, 3) := by decide +kernel
theorem dX3_worthOfTaken_30 : decode cX3_worthOfTaken 30 = .ok (.goto (-26), 3) := by decide +kernel
theorem dX3_worthOfTaken_33 : decode cX3_worthOfTaken 33 = .ok (.iload_n 2, 1) := by decide +kernel
theorem dX3_worthOfTaken_34 : decode cX3_worthOfTaken 34 = .ok (.ireturn, 1) := by decide +kernel
theorem dX4_init_0 : decode cX4_init 0 = .ok (.aload_n 0, 1) := by decide +kernel
theorem dX4_init_1 : decode cX4_init 1 = .ok (.invokespecial 3, 3) := by decide +kernel
theorem dX4_init_4 : decode cX4_init 4 = .ok (.aload_n 0, 1) := by decide +kernel
theorem dX4_init_5 : decode cX4_init 5 = .ok (.bipush 100, 2) := by decide +kernel
theorem dX4_init_7 : decode cX4_init 7 = .ok (.newarray .int, 2) := by decide +kernel
theorem dX4_init_9 : decode cX4_init 9 = .ok (.putfield 9, 3) := by decide +kernel
theorem dX4_init_12 : decode cX4_init 12 = .ok (.aload_n 0, 1) := by decide +kernel
theorem dX4_init_13 : decode cX4_init 13 = .ok (.iconst 0, 1) := by decide +kernel
theorem dX4_init_14 : decode cX4_init 14 = .ok (.putfield 15, 3) := by decide +kernel
theorem dX4_init_17 : decode cX4_init 17 = .ok (.aload_n 0, 1) := by decide +kernel
theorem dX4_init_18 : decode cX4_init 18 = .ok (.aconst_null, 1) := by decide +kernel
theorem dX4_init_19 : decode cX4_init 19 = .ok (.putfield 19, 3) := by decide +kernel
theorem dX4_init_22 : decode cX4_init 22 = .ok (.aload_n 0, 1) := by decide +kernel
theorem dX4_init_23 : decode cX4_init 23 = .ok (.iconst 0, 1) := by decide +kernel
theorem dX4_init_24 : decode cX4_init 24 = .ok (.putfield 23, 3) := by decide +kernel
theorem dX4_init_27 : decode cX4_init 27 = .ok (.aload_n 0, 1) := by decide +kernel
theorem dX4_init_28 : decode cX4_init 28 = .ok (.iconst 0, 1) := by decide +kernel
theorem dX4_init_29 : decode cX4_init 29 = .ok (.putfield 26, 3) := by decide +kernel
theorem dX4_init_32 : decode cX4_init 32 = .ok (.return_, 1) := by decide +kernel
theorem dX4_holdNothing_0 : decode cX4_holdNothing 0 = .ok (.aload_n 0, 1) := by decide +kernel
theorem dX4_holdNothing_1 : decode cX4_holdNothing 1 = .ok (.iconst 0, 1) := by decide +kernel
theorem dX4_holdNothing_2 : decode cX4_holdNothing 2 = .ok (.putfield 15, 3) := by decide +kernel
theorem dX4_holdNothing_5 : decode cX4_holdNothing 5 = .ok (.aload_n 0, 1) := by decide +kernel
theorem dX4_holdNothing_6 : decode cX4_holdNothing 6 = .ok (.aconst_null, 1) := by decide +kernel
theorem dX4_holdNothing_7 : decode cX4_holdNothing 7 = .ok (.putfield 19, 3) := by decide +kernel
theorem dX4_holdNothing_10 : decode cX4_holdNothing 10 = .ok (.aload_n 0, 1) := by decide +kernel
theorem dX4_holdNothing_11 : decode cX4_holdNothing 11 = .ok (.iconst 0, 1) := by decide +kernel
theorem dX4_holdNothing_12 : decode cX4_holdNothing 12 = .ok (.putfield 26, 3) := by decide +kernel
theorem dX4_holdNothing_15 : decode cX4_holdNothing 15 = .ok (.return_, 1) := by decide +kernel
theorem dX4_holdLaying_0 : decode cX4_holdLaying 0 = .ok (.aload_n 0, 1) := by decide +kernel
theorem dX4_holdLaying_1 : decode cX4_holdLaying 1 = .ok (.iconst 1, 1) := by decide +kernel
theorem dX4_holdLaying_2 : decode cX4_holdLaying 2 = .ok (.putfield 15, 3) := by decide +kernel
theorem dX4_holdLaying_5 : decode cX4_holdLaying 5 = .ok (.aload_n 0, 1) := by decide +kernel
theorem dX4_holdLaying_6 : decode cX4_holdLaying 6 = .ok (.aload_n 1, 1) := by decide +kernel
theorem dX4_holdLaying_7 : decode cX4_holdLaying 7 = .ok (.putfield 19, 3) := by decide +kernel
theorem dX4_holdLaying_10 : decode cX4_holdLaying 10 = .ok (.aload_n 0, 1) := by decide +kernel
theorem dX4_holdLaying_11 : decode cX4_holdLaying 11 = .ok (.iconst 0, 1) := by decide +kernel
theorem dX4_holdLaying_12 : decode cX4_holdLaying 12 = .ok (.putfield 26, 3) := by decide +kernel
theorem dX4_holdLaying_15 : decode cX4_holdLaying 15 = .ok (.return_, 1) := by decide +kernel
theorem dX4_holdNumbers_0 : decode cX4_holdNumbers 0 = .ok (.aload_n 0, 1) := by decide +kernel
theorem dX4_holdNumbers_1 : decode cX4_holdNumbers 1 = .ok (.iconst 2, 1) := by decide +kernel
theorem dX4_holdNumbers_2 : decode cX4_holdNumbers 2 = .ok (.putfield 15, 3) := by decide +kernel
theorem dX4_holdNumbers_5 : decode cX4_holdNumbers 5 = .ok (.aload_n 0, 1) := by decide +kernel
theorem dX4_holdNumbers_6 : decode cX4_holdNumbers 6 = .ok (.aconst_null, 1) := by decide +kernel
theorem dX4_holdNumbers_7 : decode cX4_holdNumbers 7 = .ok (.putfield 19, 3) := by decide +kernel
theorem dX4_holdNumbers_10 : decode cX4_holdNumbers 10 = .ok (.aload_n 0, 1) := by decide +kernel
theorem dX4_holdNumbers_11 : decode cX4_holdNumbers 11 = .ok (.iload_n 1, 1) := by decide +kernel
theorem dX4_holdNumbers_12 : decode cX4_holdNumbers 12 = .ok (.putfield 23, 3) := by decide +kernel
theorem dX4_holdNumbers_15 : decode cX4_holdNumbers 15 = .ok (.aload_n 0, 1) := by decide +kernel
theorem dX4_holdNumbers_16 : decode cX4_holdNumbers 16 = .ok (.iload_n 2, 1) := by decide +kernel
theorem dX4_holdNumbers_17 : decode cX4_holdNumbers 17 = .ok (.putfield 26, 3) := by decide +kernel
theorem dX4_holdNumbers_20 : decode cX4_holdNumbers 20 = .ok (.iconst 0, 1) := by decide +kernel
theorem dX4_holdNumbers_21 : decode cX4_holdNumbers 21 = .ok (.istore_n 3, 1) := by decide +kernel
theorem dX4_holdNumbers_22 : decode cX4_holdNumbers 22 = .ok (.iload_n 3, 1) := by decide +kernel
theorem dX4_holdNumbers_23 : decode cX4_holdNumbers 23 = .ok (.bipush 100, 2) := by decide +kernel
theorem dX4_holdNumbers_25 : decode cX4_holdNumbers 25 = .ok (.if_icmp .ge 16, 3) := by decide +kernel
theorem dX4_holdNumbers_28 : decode cX4_holdNumbers 28 = .ok (.aload_n 0, 1) := by decide +kernel
theorem dX4_holdNumbers_29 : decode cX4_holdNumbers 29 = .ok (.getfield 9, 3) := by decide +kernel
theorem dX4_holdNumbers_32 : decode cX4_holdNumbers 32 = .ok (.iload_n 3, 1) := by decide +kernel
theorem dX4_holdNumbers_33 : decode cX4_holdNumbers 33 = .ok (.iconst 0, 1) := by decide +kernel
theorem dX4_holdNumbers_34 : decode cX4_holdNumbers 34 = .ok (.iastore, 1) := by decide +kernel
theorem dX4_holdNumbers_35 : decode cX4_holdNumbers 35 = .ok (.iinc 3 1, 3) := by decide +kernel
theorem dX4_holdNumbers_38 : decode cX4_holdNumbers 38 = .ok (.goto (-16), 3) := by decide +kernel
theorem dX4_holdNumbers_41 : decode cX4_holdNumbers 41 = .ok (.return_, 1) := by decide +kernel
theorem dX4_hasPlace_0 : decode cX4_hasPlace 0 = .ok (.iload_n 1, 1) := by decide +kernel
theorem dX4_hasPlace_1 : decode cX4_hasPlace 1 = .ok (.ifCond .lt 15, 3) := by decide +kernel
theorem dX4_hasPlace_4 : decode cX4_hasPlace 4 = .ok (.iload_n 1, 1) := by decide +kernel
theorem dX4_hasPlace_5 : decode cX4_hasPlace 5 = .ok (.aload_n 0, 1) := by decide +kernel
theorem dX4_hasPlace_6 : decode cX4_hasPlace 6 = .ok (.getfield 26, 3) := by decide +kernel
theorem dX4_hasPlace_9 : decode cX4_hasPlace 9 = .ok (.if_icmp .ge 7, 3) := by decide +kernel
theorem dX4_hasPlace_12 : decode cX4_hasPlace 12 = .ok (.iconst 1, 1) := by decide +kernel
theorem dX4_hasPlace_13 : decode cX4_hasPlace 13 = .ok (.goto 4, 3) := by decide +kernel
theorem dX4_hasPlace_16 : decode cX4_hasPlace 16 = .ok (.iconst 0, 1) := by decide +kernel
theorem dX4_hasPlace_17 : decode cX4_hasPlace 17 = .ok (.ireturn, 1) := by decide +kernel
theorem dX4_hasStretch_0 : decode cX4_hasStretch 0 = .ok (.iload_n 1, 1) := by decide +kernel
theorem dX4_hasStretch_1 : decode cX4_hasStretch 1 = .ok (.ifCond .lt 29, 3) := by decide +kernel
theorem dX4_hasStretch_4 : decode cX4_hasStretch 4 = .ok (.iload_n 2, 1) := by decide +kernel
theorem dX4_hasStretch_5 : decode cX4_hasStretch 5 = .ok (.ifCond .lt 25, 3) := by decide +kernel
theorem dX4_hasStretch_8 : decode cX4_hasStretch 8 = .ok (.iload_n 1, 1) := by decide +kernel
theorem dX4_hasStretch_9 : decode cX4_hasStretch 9 = .ok (.aload_n 0, 1) := by decide +kernel
theorem dX4_hasStretch_10 : decode cX4_hasStretch 10 = .ok (.getfield 26, 3) := by decide +kernel
theorem dX4_hasStretch_13 : decode cX4_hasStretch 13 = .ok (.if_icmp .gt 17, 3) := by decide +kernel
theorem dX4_hasStretch_16 : decode cX4_hasStretch 16 = .ok (.iload_n 2, 1) := by decide +kernel
theorem dX4_hasStretch_17 : decode cX4_hasStretch 17 = .ok (.aload_n 0, 1) := by decide +kernel
theorem dX4_hasStretch_18 : decode cX4_hasStretch 18 = .ok (.getfield 26, 3) := by decide +kernel
theorem dX4_hasStretch_21 : decode cX4_hasStretch 21 = .ok (.iload_n 1, 1) := by decide +kernel
theorem dX4_hasStretch_22 : decode cX4_hasStretch 22 = .ok (.isub, 1) := by decide +kernel
theorem dX4_hasStretch_23 : decode cX4_hasStretch 23 = .ok (.if_icmp .gt 7, 3) := by decide +kernel
theorem dX4_hasStretch_26 : decode cX4_hasStretch 26 = .ok (.iconst 1, 1) := by decide +kernel
theorem dX4_hasStretch_27 : decode cX4_hasStretch 27 = .ok (.goto 4, 3) := by decide +kernel
theorem dX4_hasStretch_30 : decode cX4_hasStretch 30 = .ok (.iconst 0, 1) := by decide +kernel
theorem dX4_hasStretch_31 : decode cX4_hasStretch 31 = .ok (.ireturn, 1) := by decide +kernel
theorem dX4_narrowed_0 : decode cX4_narrowed 0 = .ok (.aload_n 0, 1) := by decide +kernel
theorem dX4_narrowed_1 : decode cX4_narrowed 1 = .ok (.getfield 23, 3) := by decide +kernel
theorem dX4_narrowed_4 : decode cX4_narrowed 4 = .ok (.lookupswitch 34 #[(0, 28), (1, 31)], 28) := by decide +kernel
theorem dX4_narrowed_32 : decode cX4_narrowed 32 = .ok (.iload_n 1, 1) := by decide +kernel
theorem dX4_narrowed_33 : decode cX4_narrowed 33 = .ok (.i2b, 1) := by decide +kernel
theorem dX4_narrowed_34 : decode cX4_narrowed 34 = .ok (.ireturn, 1) := by decide +kernel
theorem dX4_narrowed_35 : decode cX4_narrowed 35 = .ok (.iload_n 1, 1) := by decide +kernel
theorem dX4_narrowed_36 : decode cX4_narrowed 36 = .ok (.i2s, 1) := by decide +kernel
theorem dX4_narrowed_37 : decode cX4_narrowed 37 = .ok (.ireturn, 1) := by decide +kernel
theorem dX4_narrowed_38 : decode cX4_narrowed 38 = .ok (.iload_n 1, 1) := by decide +kernel
theorem dX4_narrowed_39 : decode cX4_narrowed 39 = .ok (.ireturn, 1) := by decide +kernel
theorem dX5_of_0 : decode cX5_of 0 = .ok (.iload_n 0, 1) := by decide +kernel
theorem dX5_of_1 : decode cX5_of 1 = .ok (.iconst 4, 1) := by decide +kernel
theorem dX5_of_2 : decode cX5_of 2 = .ok (.iload_n 1, 1) := by decide +kernel
theorem dX5_of_3 : decode cX5_of 3 = .ok (.imul, 1) := by decide +kernel
theorem dX5_of_4 : decode cX5_of 4 = .ok (.ishr, 1) := by decide +kernel
theorem dX5_of_5 : decode cX5_of 5 = .ok (.bipush 15, 2) := by decide +kernel
theorem dX5_of_7 : decode cX5_of 7 = .ok (.iand, 1) := by decide +kernel
theorem dX5_of_8 : decode cX5_of 8 = .ok (.ireturn, 1) := by decide +kernel
theorem dX5_withOneMore_0 : decode cX5_withOneMore 0 = .ok (.iload_n 0, 1) := by decide +kernel
theorem dX5_withOneMore_1 : decode cX5_withOneMore 1 = .ok (.iconst 1, 1) := by decide +kernel
theorem dX5_withOneMore_2 : decode cX5_withOneMore 2 = .ok (.iconst 4, 1) := by decide +kernel
theorem dX5_withOneMore_3 : decode cX5_withOneMore 3 = .ok (.iload_n 1, 1) := by decide +kernel
theorem dX5_withOneMore_4 : decode cX5_withOneMore 4 = .ok (.imul, 1) := by decide +kernel
theorem dX5_withOneMore_5 : decode cX5_withOneMore 5 = .ok (.ishl, 1) := by decide +kernel
theorem dX5_withOneMore_6 : decode cX5_withOneMore 6 = .ok (.iadd, 1) := by decide +kernel
theorem dX5_withOneMore_7 : decode cX5_withOneMore 7 = .ok (.ireturn, 1) := by decide +kernel
theorem dJ9_abs_0f7a4_0 : decode cJ9_abs_0f7a4 0 = .ok (.iload_n 0, 1) := by decide +kernel
theorem dJ9_abs_0f7a4_1 : decode cJ9_abs_0f7a4 1 = .ok (.ifCond .ge 8, 3) := by decide +kernel
theorem dJ9_abs_0f7a4_4 : decode cJ9_abs_0f7a4 4 = .ok (.iload_n 0, 1) := by decide +kernel
theorem dJ9_abs_0f7a4_5 : decode cJ9_abs_0f7a4 5 = .ok (.ineg, 1) := by decide +kernel
theorem dJ9_abs_0f7a4_6 : decode cJ9_abs_0f7a4 6 = .ok (.goto 4, 3) := by decide +kernel
theorem dJ9_abs_0f7a4_9 : decode cJ9_abs_0f7a4 9 = .ok (.iload_n 0, 1) := by decide +kernel
theorem dJ9_abs_0f7a4_10 : decode cJ9_abs_0f7a4 10 = .ok (.ireturn, 1) := by decide +kernel
theorem dJ9_max_7cf53_0 : decode cJ9_max_7cf53 0 = .ok (.iload_n 0, 1) := by decide +kernel
theorem dJ9_max_7cf53_1 : decode cJ9_max_7cf53 1 = .ok (.iload_n 1, 1) := by decide +kernel
theorem dJ9_max_7cf53_2 : decode cJ9_max_7cf53 2 = .ok (.if_icmp .lt 7, 3) := by decide +kernel
theorem dJ9_max_7cf53_5 : decode cJ9_max_7cf53 5 = .ok (.iload_n 0, 1) := by decide +kernel
theorem dJ9_max_7cf53_6 : decode cJ9_max_7cf53 6 = .ok (.goto 4, 3) := by decide +kernel
theorem dJ9_max_7cf53_9 : decode cJ9_max_7cf53 9 = .ok (.iload_n 1, 1) := by decide +kernel
theorem dJ9_max_7cf53_10 : decode cJ9_max_7cf53 10 = .ok (.ireturn, 1) := by decide +kernel
theorem dJ9_min_7cf53_0 : decode cJ9_min_7cf53 0 = .ok (.iload_n 0, 1) := by decide +kernel
theorem dJ9_min_7cf53_1 : decode cJ9_min_7cf53 1 = .ok (.iload_n 1, 1) := by decide +kernel
theorem dJ9_min_7cf53_2 : decode cJ9_min_7cf53 2 = .ok (.if_icmp .gt 7, 3) := by decide +kernel
theorem dJ9_min_7cf53_5 : decode cJ9_min_7cf53 5 = .ok (.iload_n 0, 1) := by decide +kernel
theorem dJ9_min_7cf53_6 : decode cJ9_min_7cf53 6 = .ok (.goto 4, 3) := by decide +kernel
theorem dJ9_min_7cf53_9 : decode cJ9_min_7cf53 9 = .ok (.iload_n 1, 1) := by decide +kernel
theorem dJ9_min_7cf53_10 : decode cJ9_min_7cf53 10 = .ok (.ireturn, 1) := by decide +kernel
