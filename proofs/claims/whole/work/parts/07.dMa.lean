theorem dX8_init_0 : decode cX8_init 0 = .ok (.aload_n 0, 1) := by decide +kernel
theorem dX8_init_1 : decode cX8_init 1 = .ok (.invokespecial 1, 3) := by decide +kernel
theorem dX8_init_4 : decode cX8_init 4 = .ok (.aload_n 0, 1) := by decide +kernel
theorem dX8_init_5 : decode cX8_init 5 = .ok (.bipush 99, 2) := by decide +kernel
theorem dX8_init_7 : decode cX8_init 7 = .ok (.newarray .int, 2) := by decide +kernel
theorem dX8_init_9 : decode cX8_init 9 = .ok (.putfield 9, 3) := by decide +kernel
theorem dX8_init_12 : decode cX8_init 12 = .ok (.aload_n 0, 1) := by decide +kernel
theorem dX8_init_13 : decode cX8_init 13 = .ok (.bipush 99, 2) := by decide +kernel
theorem dX8_init_15 : decode cX8_init 15 = .ok (.newarray .int, 2) := by decide +kernel
theorem dX8_init_17 : decode cX8_init 17 = .ok (.putfield 13, 3) := by decide +kernel
theorem dX8_init_20 : decode cX8_init 20 = .ok (.aload_n 0, 1) := by decide +kernel
theorem dX8_init_21 : decode cX8_init 21 = .ok (.bipush 99, 2) := by decide +kernel
theorem dX8_init_23 : decode cX8_init 23 = .ok (.newarray .int, 2) := by decide +kernel
theorem dX8_init_25 : decode cX8_init 25 = .ok (.putfield 16, 3) := by decide +kernel
theorem dX8_init_28 : decode cX8_init 28 = .ok (.aload_n 0, 1) := by decide +kernel
theorem dX8_init_29 : decode cX8_init 29 = .ok (.bipush 99, 2) := by decide +kernel
theorem dX8_init_31 : decode cX8_init 31 = .ok (.newarray .int, 2) := by decide +kernel
theorem dX8_init_33 : decode cX8_init 33 = .ok (.putfield 19, 3) := by decide +kernel
theorem dX8_init_36 : decode cX8_init 36 = .ok (.aload_n 0, 1) := by decide +kernel
theorem dX8_init_37 : decode cX8_init 37 = .ok (.bipush 8, 2) := by decide +kernel
theorem dX8_init_39 : decode cX8_init 39 = .ok (.newarray .int, 2) := by decide +kernel
theorem dX8_init_41 : decode cX8_init 41 = .ok (.putfield 22, 3) := by decide +kernel
theorem dX8_init_44 : decode cX8_init 44 = .ok (.aload_n 0, 1) := by decide +kernel
theorem dX8_init_45 : decode cX8_init 45 = .ok (.bipush 8, 2) := by decide +kernel
theorem dX8_init_47 : decode cX8_init 47 = .ok (.newarray .int, 2) := by decide +kernel
theorem dX8_init_49 : decode cX8_init 49 = .ok (.putfield 25, 3) := by decide +kernel
theorem dX8_init_52 : decode cX8_init 52 = .ok (.aload_n 0, 1) := by decide +kernel
theorem dX8_init_53 : decode cX8_init 53 = .ok (.bipush 8, 2) := by decide +kernel
theorem dX8_init_55 : decode cX8_init 55 = .ok (.newarray .int, 2) := by decide +kernel
theorem dX8_init_57 : decode cX8_init 57 = .ok (.putfield 28, 3) := by decide +kernel
theorem dX8_init_60 : decode cX8_init 60 = .ok (.aload_n 0, 1) := by decide +kernel
theorem dX8_init_61 : decode cX8_init 61 = .ok (.sipush 800, 3) := by decide +kernel
theorem dX8_init_64 : decode cX8_init 64 = .ok (.newarray .int, 2) := by decide +kernel
theorem dX8_init_66 : decode cX8_init 66 = .ok (.putfield 31, 3) := by decide +kernel
theorem dX8_init_69 : decode cX8_init 69 = .ok (.aload_n 0, 1) := by decide +kernel
theorem dX8_init_70 : decode cX8_init 70 = .ok (.bipush 8, 2) := by decide +kernel
theorem dX8_init_72 : decode cX8_init 72 = .ok (.newarray .int, 2) := by decide +kernel
theorem dX8_init_74 : decode cX8_init 74 = .ok (.putfield 34, 3) := by decide +kernel
theorem dX8_init_77 : decode cX8_init 77 = .ok (.aload_n 0, 1) := by decide +kernel
theorem dX8_init_78 : decode cX8_init 78 = .ok (.bipush 8, 2) := by decide +kernel
theorem dX8_init_80 : decode cX8_init 80 = .ok (.newarray .int, 2) := by decide +kernel
theorem dX8_init_82 : decode cX8_init 82 = .ok (.putfield 37, 3) := by decide +kernel
theorem dX8_init_85 : decode cX8_init 85 = .ok (.aload_n 0, 1) := by decide +kernel
theorem dX8_init_86 : decode cX8_init 86 = .ok (.iconst 3, 1) := by decide +kernel
theorem dX8_init_87 : decode cX8_init 87 = .ok (.newarray .int, 2) := by decide +kernel
theorem dX8_init_89 : decode cX8_init 89 = .ok (.putfield 40, 3) := by decide +kernel
theorem dX8_init_92 : decode cX8_init 92 = .ok (.aload_n 0, 1) := by decide +kernel
theorem dX8_init_93 : decode cX8_init 93 = .ok (.iconst 4, 1) := by decide +kernel
theorem dX8_init_94 : decode cX8_init 94 = .ok (.newarray .int, 2) := by decide +kernel
theorem dX8_init_96 : decode cX8_init 96 = .ok (.putfield 43, 3) := by decide +kernel
theorem dX8_init_99 : decode cX8_init 99 = .ok (.aload_n 0, 1) := by decide +kernel
theorem dX8_init_100 : decode cX8_init 100 = .ok (.bipush 16, 2) := by decide +kernel
theorem dX8_init_102 : decode cX8_init 102 = .ok (.newarray .int, 2) := by decide +kernel
theorem dX8_init_104 : decode cX8_init 104 = .ok (.putfield 46, 3) := by decide +kernel
theorem dX8_init_107 : decode cX8_init 107 = .ok (.aload_n 0, 1) := by decide +kernel
theorem dX8_init_108 : decode cX8_init 108 = .ok (.bipush 16, 2) := by decide +kernel
theorem dX8_init_110 : decode cX8_init 110 = .ok (.newarray .int, 2) := by decide +kernel
theorem dX8_init_112 : decode cX8_init 112 = .ok (.putfield 49, 3) := by decide +kernel
theorem dX8_init_115 : decode cX8_init 115 = .ok (.aload_n 0, 1) := by decide +kernel
theorem dX8_init_116 : decode cX8_init 116 = .ok (.sipush 28561, 3) := by decide +kernel
theorem dX8_init_119 : decode cX8_init 119 = .ok (.newarray .boolean, 2) := by decide +kernel
theorem dX8_init_121 : decode cX8_init 121 = .ok (.putfield 52, 3) := by decide +kernel
theorem dX8_init_124 : decode cX8_init 124 = .ok (.aload_n 0, 1) := by decide +kernel
theorem dX8_init_125 : decode cX8_init 125 = .ok (.sipush 28561, 3) := by decide +kernel
theorem dX8_init_128 : decode cX8_init 128 = .ok (.newarray .boolean, 2) := by decide +kernel
theorem dX8_init_130 : decode cX8_init 130 = .ok (.putfield 56, 3) := by decide +kernel
theorem dX8_init_133 : decode cX8_init 133 = .ok (.aload_n 0, 1) := by decide +kernel
theorem dX8_init_134 : decode cX8_init 134 = .ok (.getfield 9, 3) := by decide +kernel
theorem dX8_init_137 : decode cX8_init 137 = .ok (.iconst 0, 1) := by decide +kernel
theorem dX8_init_138 : decode cX8_init 138 = .ok (.iconst 3, 1) := by decide +kernel
theorem dX8_init_139 : decode cX8_init 139 = .ok (.iastore, 1) := by decide +kernel
theorem dX8_init_140 : decode cX8_init 140 = .ok (.return_, 1) := by decide +kernel
theorem dX8_thrown_0 : decode cX8_thrown 0 = .ok (.aload_n 0, 1) := by decide +kernel
theorem dX8_thrown_1 : decode cX8_thrown 1 = .ok (.getfield 59, 3) := by decide +kernel
theorem dX8_thrown_4 : decode cX8_thrown 4 = .ok (.ireturn, 1) := by decide +kernel
theorem dX8_isIn_0 : decode cX8_isIn 0 = .ok (.lload_n 0, 1) := by decide +kernel
theorem dX8_isIn_1 : decode cX8_isIn 1 = .ok (.lload_n 2, 1) := by decide +kernel
theorem dX8_isIn_2 : decode cX8_isIn 2 = .ok (.lcmp, 1) := by decide +kernel
theorem dX8_isIn_3 : decode cX8_isIn 3 = .ok (.ifCond .lt 14, 3) := by decide +kernel
theorem dX8_isIn_6 : decode cX8_isIn 6 = .ok (.lload_n 0, 1) := by decide +kernel
theorem dX8_isIn_7 : decode cX8_isIn 7 = .ok (.lload 4, 2) := by decide +kernel
theorem dX8_isIn_9 : decode cX8_isIn 9 = .ok (.lcmp, 1) := by decide +kernel
theorem dX8_isIn_10 : decode cX8_isIn 10 = .ok (.ifCond .gt 7, 3) := by decide +kernel
theorem dX8_isIn_13 : decode cX8_isIn 13 = .ok (.iconst 1, 1) := by decide +kernel
theorem dX8_isIn_14 : decode cX8_isIn 14 = .ok (.goto 4, 3) := by decide +kernel
theorem dX8_isIn_17 : decode cX8_isIn 17 = .ok (.iconst 0, 1) := by decide +kernel
theorem dX8_isIn_18 : decode cX8_isIn 18 = .ok (.ireturn, 1) := by decide +kernel
set_option maxRecDepth 20000 in
theorem ggX8_isWidth_X8_isIn : GoodIn wsX8_isWidth wsX8_isIn := goodIn_r _ [5] (by decide +kernel) (by decide +kernel)
set_option maxRecDepth 20000 in
theorem gX8_isWidth_X8_isIn : GoodIn wsX8_isWidth (va_wsS RX8 63 yX8_isIn wsX8_isIn) := goodIn_app (goodIn_of _ (by decide +kernel)) ggX8_isWidth_X8_isIn
theorem dX8_isWidth_0 : decode cX8_isWidth 0 = .ok (.iload_n 1, 1) := by decide +kernel
theorem dX8_isWidth_1 : decode cX8_isWidth 1 = .ok (.i2l, 1) := by decide +kernel
theorem dX8_isWidth_2 : decode cX8_isWidth 2 = .ok (.lconst 0, 1) := by decide +kernel
theorem dX8_isWidth_3 : decode cX8_isWidth 3 = .ok (.aload_n 0, 1) := by decide +kernel
theorem dX8_isWidth_4 : decode cX8_isWidth 4 = .ok (.getfield 9, 3) := by decide +kernel
theorem dX8_isWidth_7 : decode cX8_isWidth 7 = .ok (.iconst 1, 1) := by decide +kernel
theorem dX8_isWidth_8 : decode cX8_isWidth 8 = .ok (.iaload, 1) := by decide +kernel
theorem dX8_isWidth_9 : decode cX8_isWidth 9 = .ok (.iconst 1, 1) := by decide +kernel
theorem dX8_isWidth_10 : decode cX8_isWidth 10 = .ok (.isub, 1) := by decide +kernel
theorem dX8_isWidth_11 : decode cX8_isWidth 11 = .ok (.i2l, 1) := by decide +kernel
theorem dX8_isWidth_12 : decode cX8_isWidth 12 = .ok (.invokestatic 63, 3) := by decide +kernel
theorem dX8_isWidth_15 : decode cX8_isWidth 15 = .ok (.ireturn, 1) := by decide +kernel
set_option maxRecDepth 20000 in
theorem ggX8_isRow_X8_isIn : GoodIn wsX8_isRow wsX8_isIn := goodIn_r _ [5] (by decide +kernel) (by decide +kernel)
set_option maxRecDepth 20000 in
theorem gX8_isRow_X8_isIn : GoodIn wsX8_isRow (va_wsS RX8 63 yX8_isIn wsX8_isIn) := goodIn_app (goodIn_of _ (by decide +kernel)) ggX8_isRow_X8_isIn
theorem dX8_isRow_0 : decode cX8_isRow 0 = .ok (.iload_n 1, 1) := by decide +kernel
theorem dX8_isRow_1 : decode cX8_isRow 1 = .ok (.i2l, 1) := by decide +kernel
theorem dX8_isRow_2 : decode cX8_isRow 2 = .ok (.lconst 0, 1) := by decide +kernel
theorem dX8_isRow_3 : decode cX8_isRow 3 = .ok (.aload_n 0, 1) := by decide +kernel
theorem dX8_isRow_4 : decode cX8_isRow 4 = .ok (.getfield 9, 3) := by decide +kernel
theorem dX8_isRow_7 : decode cX8_isRow 7 = .ok (.iconst 2, 1) := by decide +kernel
theorem dX8_isRow_8 : decode cX8_isRow 8 = .ok (.iaload, 1) := by decide +kernel
theorem dX8_isRow_9 : decode cX8_isRow 9 = .ok (.iconst 1, 1) := by decide +kernel
theorem dX8_isRow_10 : decode cX8_isRow 10 = .ok (.isub, 1) := by decide +kernel
theorem dX8_isRow_11 : decode cX8_isRow 11 = .ok (.i2l, 1) := by decide +kernel
theorem dX8_isRow_12 : decode cX8_isRow 12 = .ok (.invokestatic 63, 3) := by decide +kernel
theorem dX8_isRow_15 : decode cX8_isRow 15 = .ok (.ireturn, 1) := by decide +kernel
set_option maxRecDepth 20000 in
theorem ggX8_isShelf_X8_isIn : GoodIn wsX8_isShelf wsX8_isIn := goodIn_r _ [5] (by decide +kernel) (by decide +kernel)
set_option maxRecDepth 20000 in
theorem gX8_isShelf_X8_isIn : GoodIn wsX8_isShelf (va_wsS RX8 63 yX8_isIn wsX8_isIn) := goodIn_app (goodIn_of _ (by decide +kernel)) ggX8_isShelf_X8_isIn
theorem dX8_isShelf_0 : decode cX8_isShelf 0 = .ok (.iload_n 0, 1) := by decide +kernel
theorem dX8_isShelf_1 : decode cX8_isShelf 1 = .ok (.i2l, 1) := by decide +kernel
theorem dX8_isShelf_2 : decode cX8_isShelf 2 = .ok (.lconst 0, 1) := by decide +kernel
theorem dX8_isShelf_3 : decode cX8_isShelf 3 = .ok (.ldc2_w 67, 3) := by decide +kernel
theorem dX8_isShelf_6 : decode cX8_isShelf 6 = .ok (.invokestatic 63, 3) := by decide +kernel
theorem dX8_isShelf_9 : decode cX8_isShelf 9 = .ok (.ireturn, 1) := by decide +kernel
theorem dX8_inches_0 : decode cX8_inches 0 = .ok (.aload_n 0, 1) := by decide +kernel
theorem dX8_inches_1 : decode cX8_inches 1 = .ok (.getfield 9, 3) := by decide +kernel
theorem dX8_inches_4 : decode cX8_inches 4 = .ok (.iconst 3, 1) := by decide +kernel
theorem dX8_inches_5 : decode cX8_inches 5 = .ok (.iconst 3, 1) := by decide +kernel
theorem dX8_inches_6 : decode cX8_inches 6 = .ok (.iload_n 1, 1) := by decide +kernel
theorem dX8_inches_7 : decode cX8_inches 7 = .ok (.imul, 1) := by decide +kernel
theorem dX8_inches_8 : decode cX8_inches 8 = .ok (.iadd, 1) := by decide +kernel
theorem dX8_inches_9 : decode cX8_inches 9 = .ok (.iaload, 1) := by decide +kernel
theorem dX8_inches_10 : decode cX8_inches 10 = .ok (.ireturn, 1) := by decide +kernel
theorem dX8_many_0 : decode cX8_many 0 = .ok (.aload_n 0, 1) := by decide +kernel
theorem dX8_many_1 : decode cX8_many 1 = .ok (.getfield 9, 3) := by decide +kernel
theorem dX8_many_4 : decode cX8_many 4 = .ok (.iconst 3, 1) := by decide +kernel
theorem dX8_many_5 : decode cX8_many 5 = .ok (.iconst 3, 1) := by decide +kernel
theorem dX8_many_6 : decode cX8_many 6 = .ok (.iload_n 1, 1) := by decide +kernel
theorem dX8_many_7 : decode cX8_many 7 = .ok (.imul, 1) := by decide +kernel
theorem dX8_many_8 : decode cX8_many 8 = .ok (.iadd, 1) := by decide +kernel
theorem dX8_many_9 : decode cX8_many 9 = .ok (.iconst 1, 1) := by decide +kernel
theorem dX8_many_10 : decode cX8_many 10 = .ok (.iadd, 1) := by decide +kernel
theorem dX8_many_11 : decode cX8_many 11 = .ok (.iaload, 1) := by decide +kernel
theorem dX8_many_12 : decode cX8_many 12 = .ok (.ireturn, 1) := by decide +kernel
theorem dX8_worth_0 : decode cX8_worth 0 = .ok (.aload_n 0, 1) := by decide +kernel
theorem dX8_worth_1 : decode cX8_worth 1 = .ok (.getfield 9, 3) := by decide +kernel
theorem dX8_worth_4 : decode cX8_worth 4 = .ok (.iconst 3, 1) := by decide +kernel
theorem dX8_worth_5 : decode cX8_worth 5 = .ok (.iconst 3, 1) := by decide +kernel
theorem dX8_worth_6 : decode cX8_worth 6 = .ok (.iload_n 1, 1) := by decide +kernel
theorem dX8_worth_7 : decode cX8_worth 7 = .ok (.imul, 1) := by decide +kernel
theorem dX8_worth_8 : decode cX8_worth 8 = .ok (.iadd, 1) := by decide +kernel
theorem dX8_worth_9 : decode cX8_worth 9 = .ok (.iconst 2, 1) := by decide +kernel
theorem dX8_worth_10 : decode cX8_worth 10 = .ok (.iadd, 1) := by decide +kernel
theorem dX8_worth_11 : decode cX8_worth 11 = .ok (.iaload, 1) := by decide +kernel
theorem dX8_worth_12 : decode cX8_worth 12 = .ok (.ireturn, 1) := by decide +kernel
theorem dX8_leaves_0 : decode cX8_leaves 0 = .ok (.aload_n 0, 1) := by decide +kernel
theorem dX8_leaves_1 : decode cX8_leaves 1 = .ok (.getfield 9, 3) := by decide +kernel
theorem dX8_leaves_4 : decode cX8_leaves 4 = .ok (.iconst 3, 1) := by decide +kernel
theorem dX8_leaves_5 : decode cX8_leaves 5 = .ok (.iconst 3, 1) := by decide +kernel
theorem dX8_leaves_6 : decode cX8_leaves 6 = .ok (.iload_n 1, 1) := by decide +kernel
theorem dX8_leaves_7 : decode cX8_leaves 7 = .ok (.imul, 1) := by decide +kernel
theorem dX8_leaves_8 : decode cX8_leaves 8 = .ok (.iadd, 1) := by decide +kernel
theorem dX8_leaves_9 : decode cX8_leaves 9 = .ok (.iconst 1, 1) := by decide +kernel
theorem dX8_leaves_10 : decode cX8_leaves 10 = .ok (.iadd, 1) := by decide +kernel
theorem dX8_leaves_11 : decode cX8_leaves 11 = .ok (.dup2, 1) := by decide +kernel
theorem dX8_leaves_12 : decode cX8_leaves 12 = .ok (.iaload, 1) := by decide +kernel
theorem dX8_leaves_13 : decode cX8_leaves 13 = .ok (.iload_n 2, 1) := by decide +kernel
theorem dX8_leaves_14 : decode cX8_leaves 14 = .ok (.isub, 1) := by decide +kernel
theorem dX8_leaves_15 : decode cX8_leaves 15 = .ok (.iastore, 1) := by decide +kernel
theorem dX8_leaves_16 : decode cX8_leaves 16 = .ok (.return_, 1) := by decide +kernel
theorem dX8_lengthOf_0 : decode cX8_lengthOf 0 = .ok (.aload_n 0, 1) := by decide +kernel
theorem dX8_lengthOf_1 : decode cX8_lengthOf 1 = .ok (.getfield 9, 3) := by decide +kernel
theorem dX8_lengthOf_4 : decode cX8_lengthOf 4 = .ok (.bipush 15, 2) := by decide +kernel
theorem dX8_lengthOf_6 : decode cX8_lengthOf 6 = .ok (.bipush 14, 2) := by decide +kernel
theorem dX8_lengthOf_8 : decode cX8_lengthOf 8 = .ok (.iload_n 1, 1) := by decide +kernel
theorem dX8_lengthOf_9 : decode cX8_lengthOf 9 = .ok (.imul, 1) := by decide +kernel
theorem dX8_lengthOf_10 : decode cX8_lengthOf 10 = .ok (.iadd, 1) := by decide +kernel
theorem dX8_lengthOf_11 : decode cX8_lengthOf 11 = .ok (.iaload, 1) := by decide +kernel
theorem dX8_lengthOf_12 : decode cX8_lengthOf 12 = .ok (.ireturn, 1) := by decide +kernel
theorem dX8_slates_0 : decode cX8_slates 0 = .ok (.aload_n 0, 1) := by decide +kernel
theorem dX8_slates_1 : decode cX8_slates 1 = .ok (.getfield 9, 3) := by decide +kernel
theorem dX8_slates_4 : decode cX8_slates 4 = .ok (.bipush 15, 2) := by decide +kernel
theorem dX8_slates_6 : decode cX8_slates 6 = .ok (.bipush 14, 2) := by decide +kernel
theorem dX8_slates_8 : decode cX8_slates 8 = .ok (.iload_n 1, 1) := by decide +kernel
theorem dX8_slates_9 : decode cX8_slates 9 = .ok (.imul, 1) := by decide +kernel
theorem dX8_slates_10 : decode cX8_slates 10 = .ok (.iadd, 1) := by decide +kernel
theorem dX8_slates_11 : decode cX8_slates 11 = .ok (.iconst 1, 1) := by decide +kernel
theorem dX8_slates_12 : decode cX8_slates 12 = .ok (.iadd, 1) := by decide +kernel
theorem dX8_slates_13 : decode cX8_slates 13 = .ok (.iaload, 1) := by decide +kernel
theorem dX8_slates_14 : decode cX8_slates 14 = .ok (.ireturn, 1) := by decide +kernel
theorem dX8_slateOf_0 : decode cX8_slateOf 0 = .ok (.aload_n 0, 1) := by decide +kernel
theorem dX8_slateOf_1 : decode cX8_slateOf 1 = .ok (.getfield 9, 3) := by decide +kernel
theorem dX8_slateOf_4 : decode cX8_slateOf 4 = .ok (.bipush 15, 2) := by decide +kernel
theorem dX8_slateOf_6 : decode cX8_slateOf 6 = .ok (.bipush 14, 2) := by decide +kernel
theorem dX8_slateOf_8 : decode cX8_slateOf 8 = .ok (.iload_n 1, 1) := by decide +kernel
theorem dX8_slateOf_9 : decode cX8_slateOf 9 = .ok (.imul, 1) := by decide +kernel
theorem dX8_slateOf_10 : decode cX8_slateOf 10 = .ok (.iadd, 1) := by decide +kernel
theorem dX8_slateOf_11 : decode cX8_slateOf 11 = .ok (.iconst 2, 1) := by decide +kernel
theorem dX8_slateOf_12 : decode cX8_slateOf 12 = .ok (.iadd, 1) := by decide +kernel
theorem dX8_slateOf_13 : decode cX8_slateOf 13 = .ok (.iload_n 2, 1) := by decide +kernel
theorem dX8_slateOf_14 : decode cX8_slateOf 14 = .ok (.iadd, 1) := by decide +kernel
theorem dX8_slateOf_15 : decode cX8_slateOf 15 = .ok (.iaload, 1) := by decide +kernel
theorem dX8_slateOf_16 : decode cX8_slateOf 16 = .ok (.ireturn, 1) := by decide +kernel
set_option maxRecDepth 20000 in
theorem ggX8_isLaid_X8_slates : GoodIn wsX8_isLaid wsX8_slates := goodIn_r _ [5, 6, 7, 8, 9, 10, 11, 12, 13, 14, 15, 16, 17, 18, 19, 20, 21, 22, 23, 24, 25, 26, 27, 28, 29, 30, 31, 32, 33, 34, 35, 36, 37, 38, 39, 40, 41, 42, 43] (by decide +kernel) (by decide +kernel)
set_option maxRecDepth 20000 in
theorem gX8_isLaid_X8_slates : GoodIn wsX8_isLaid (wsV RX8 69 RX8 yX8_slates wsX8_slates) := goodIn_app (goodIn_of _ (by decide +kernel)) ggX8_isLaid_X8_slates
theorem dX8_isLaid_0 : decode cX8_isLaid 0 = .ok (.aload_n 0, 1) := by decide +kernel
theorem dX8_isLaid_1 : decode cX8_isLaid 1 = .ok (.iload_n 1, 1) := by decide +kernel
theorem dX8_isLaid_2 : decode cX8_isLaid 2 = .ok (.invokevirtual 69, 3) := by decide +kernel
theorem dX8_isLaid_5 : decode cX8_isLaid 5 = .ok (.ifCond .le 7, 3) := by decide +kernel
theorem dX8_isLaid_8 : decode cX8_isLaid 8 = .ok (.iconst 1, 1) := by decide +kernel
theorem dX8_isLaid_9 : decode cX8_isLaid 9 = .ok (.goto 4, 3) := by decide +kernel
theorem dX8_isLaid_12 : decode cX8_isLaid 12 = .ok (.iconst 0, 1) := by decide +kernel
theorem dX8_isLaid_13 : decode cX8_isLaid 13 = .ok (.ireturn, 1) := by decide +kernel
theorem dX8_here_0 : decode cX8_here 0 = .ok (.aload_n 0, 1) := by decide +kernel
theorem dX8_here_1 : decode cX8_here 1 = .ok (.getfield 73, 3) := by decide +kernel
theorem dX8_here_4 : decode cX8_here 4 = .ok (.aload_n 0, 1) := by decide +kernel
theorem dX8_here_5 : decode cX8_here 5 = .ok (.getfield 76, 3) := by decide +kernel
theorem dX8_here_8 : decode cX8_here 8 = .ok (.if_icmp .ge 20, 3) := by decide +kernel
theorem dX8_here_11 : decode cX8_here 11 = .ok (.aload_n 0, 1) := by decide +kernel
theorem dX8_here_12 : decode cX8_here 12 = .ok (.getfield 31, 3) := by decide +kernel
theorem dX8_here_15 : decode cX8_here 15 = .ok (.aload_n 0, 1) := by decide +kernel
theorem dX8_here_16 : decode cX8_here 16 = .ok (.getfield 79, 3) := by decide +kernel
theorem dX8_here_19 : decode cX8_here 19 = .ok (.aload_n 0, 1) := by decide +kernel
theorem dX8_here_20 : decode cX8_here 20 = .ok (.getfield 73, 3) := by decide +kernel
theorem dX8_here_23 : decode cX8_here 23 = .ok (.iadd, 1) := by decide +kernel
theorem dX8_here_24 : decode cX8_here 24 = .ok (.iaload, 1) := by decide +kernel
theorem dX8_here_25 : decode cX8_here 25 = .ok (.goto 6, 3) := by decide +kernel
theorem dX8_here_28 : decode cX8_here 28 = .ok (.sipush (-1000), 3) := by decide +kernel
theorem dX8_here_31 : decode cX8_here 31 = .ok (.ireturn, 1) := by decide +kernel
set_option maxRecDepth 20000 in
theorem ggX8_takes_X8_here : GoodIn wsX8_takes wsX8_here := goodIn_r _ [6, 1, 7, 8, 9, 10, 11, 12, 13, 14, 15, 16, 17, 18, 19, 20, 21, 22, 23, 24, 25, 26, 27, 28, 29, 30, 31, 32, 33, 34, 35, 36, 37, 38, 39, 40, 41, 42, 43, 44, 45, 46] (by decide +kernel) (by decide +kernel)
set_option maxRecDepth 20000 in
theorem gX8_takes_X8_here : GoodIn wsX8_takes (wsV RX8 82 RX8 yX8_here wsX8_here) := goodIn_app (goodIn_of _ (by decide +kernel)) ggX8_takes_X8_here
theorem dX8_takes_0 : decode cX8_takes 0 = .ok (.aload_n 0, 1) := by decide +kernel
theorem dX8_takes_1 : decode cX8_takes 1 = .ok (.invokevirtual 82, 3) := by decide +kernel
theorem dX8_takes_4 : decode cX8_takes 4 = .ok (.iload_n 1, 1) := by decide +kernel
theorem dX8_takes_5 : decode cX8_takes 5 = .ok (.if_icmp .eq 5, 3) := by decide +kernel
theorem dX8_takes_8 : decode cX8_takes 8 = .ok (.iconst 0, 1) := by decide +kernel
theorem dX8_takes_9 : decode cX8_takes 9 = .ok (.ireturn, 1) := by decide +kernel
theorem dX8_takes_10 : decode cX8_takes 10 = .ok (.aload_n 0, 1) := by decide +kernel
theorem dX8_takes_11 : decode cX8_takes 11 = .ok (.dup, 1) := by decide +kernel
theorem dX8_takes_12 : decode cX8_takes 12 = .ok (.getfield 73, 3) := by decide +kernel
theorem dX8_takes_15 : decode cX8_takes 15 = .ok (.iconst 1, 1) := by decide +kernel
theorem dX8_takes_16 : decode cX8_takes 16 = .ok (.iadd, 1) := by decide +kernel
theorem dX8_takes_17 : decode cX8_takes 17 = .ok (.putfield 73, 3) := by decide +kernel
theorem dX8_takes_20 : decode cX8_takes 20 = .ok (.iconst 1, 1) := by decide +kernel
theorem dX8_takes_21 : decode cX8_takes 21 = .ok (.ireturn, 1) := by decide +kernel
set_option maxRecDepth 20000 in
theorem ggX8_readsNumber_X8_here : GoodIn wsX8_readsNumber wsX8_here := goodIn_r _ [11, 4, 12, 13, 14, 18, 19, 20, 21, 22, 23, 24, 25, 26, 27, 28, 29, 30, 31, 32, 33, 34, 35, 36, 37, 38, 39, 40, 41, 42, 43, 44, 45, 46, 47, 48, 49, 50, 51, 52, 53, 54] (by decide +kernel) (by decide +kernel)
set_option maxRecDepth 20000 in
theorem gX8_readsNumber_X8_here : GoodIn wsX8_readsNumber (wsV RX8 82 RX8 yX8_here wsX8_here) := goodIn_app (goodIn_of _ (by decide +kernel)) ggX8_readsNumber_X8_here
set_option maxRecDepth 20000 in
theorem ggX8_readsNumber_X8_isIn : GoodIn wsX8_readsNumber wsX8_isIn := goodIn_r _ [17] (by decide +kernel) (by decide +kernel)
set_option maxRecDepth 20000 in
theorem gX8_readsNumber_X8_isIn : GoodIn wsX8_readsNumber (va_wsS RX8 63 yX8_isIn wsX8_isIn) := goodIn_app (goodIn_of _ (by decide +kernel)) ggX8_readsNumber_X8_isIn
theorem dX8_readsNumber_0 : decode cX8_readsNumber 0 = .ok (.aload_n 0, 1) := by decide +kernel
theorem dX8_readsNumber_1 : decode cX8_readsNumber 1 = .ok (.invokevirtual 82, 3) := by decide +kernel
theorem dX8_readsNumber_4 : decode cX8_readsNumber 4 = .ok (.i2l, 1) := by decide +kernel
theorem dX8_readsNumber_5 : decode cX8_readsNumber 5 = .ok (.ldc2_w 86, 3) := by decide +kernel
theorem dX8_readsNumber_8 : decode cX8_readsNumber 8 = .ok (.ldc2_w 88, 3) := by decide +kernel
theorem dX8_readsNumber_11 : decode cX8_readsNumber 11 = .ok (.invokestatic 63, 3) := by decide +kernel
theorem dX8_readsNumber_14 : decode cX8_readsNumber 14 = .ok (.ifCond .ne 5, 3) := by decide +kernel
theorem dX8_readsNumber_17 : decode cX8_readsNumber 17 = .ok (.iconst 0, 1) := by decide +kernel
theorem dX8_readsNumber_18 : decode cX8_readsNumber 18 = .ok (.ireturn, 1) := by decide +kernel
theorem dX8_readsNumber_19 : decode cX8_readsNumber 19 = .ok (.aload_n 0, 1) := by decide +kernel
theorem dX8_readsNumber_20 : decode cX8_readsNumber 20 = .ok (.aload_n 0, 1) := by decide +kernel
theorem dX8_readsNumber_21 : decode cX8_readsNumber 21 = .ok (.invokevirtual 82, 3) := by decide +kernel
theorem dX8_readsNumber_24 : decode cX8_readsNumber 24 = .ok (.bipush 48, 2) := by decide +kernel
theorem dX8_readsNumber_26 : decode cX8_readsNumber 26 = .ok (.isub, 1) := by decide +kernel
theorem dX8_readsNumber_27 : decode cX8_readsNumber 27 = .ok (.putfield 90, 3) := by decide +kernel
theorem dX8_readsNumber_30 : decode cX8_readsNumber 30 = .ok (.aload_n 0, 1) := by decide +kernel
theorem dX8_readsNumber_31 : decode cX8_readsNumber 31 = .ok (.dup, 1) := by decide +kernel
theorem dX8_readsNumber_32 : decode cX8_readsNumber 32 = .ok (.getfield 73, 3) := by decide +kernel
theorem dX8_readsNumber_35 : decode cX8_readsNumber 35 = .ok (.iconst 1, 1) := by decide +kernel
theorem dX8_readsNumber_36 : decode cX8_readsNumber 36 = .ok (.iadd, 1) := by decide +kernel
theorem dX8_readsNumber_37 : decode cX8_readsNumber 37 = .ok (.putfield 73, 3) := by decide +kernel
theorem dX8_readsNumber_40 : decode cX8_readsNumber 40 = .ok (.aload_n 0, 1) := by decide +kernel
theorem dX8_readsNumber_41 : decode cX8_readsNumber 41 = .ok (.getfield 90, 3) := by decide +kernel
theorem dX8_readsNumber_44 : decode cX8_readsNumber 44 = .ok (.ifCond .le 49, 3) := by decide +kernel
theorem dX8_readsNumber_47 : decode cX8_readsNumber 47 = .ok (.aload_n 0, 1) := by decide +kernel
theorem dX8_readsNumber_48 : decode cX8_readsNumber 48 = .ok (.invokevirtual 82, 3) := by decide +kernel
theorem dX8_readsNumber_51 : decode cX8_readsNumber 51 = .ok (.i2l, 1) := by decide +kernel
theorem dX8_readsNumber_52 : decode cX8_readsNumber 52 = .ok (.ldc2_w 86, 3) := by decide +kernel
theorem dX8_readsNumber_55 : decode cX8_readsNumber 55 = .ok (.ldc2_w 88, 3) := by decide +kernel
theorem dX8_readsNumber_58 : decode cX8_readsNumber 58 = .ok (.invokestatic 63, 3) := by decide +kernel
theorem dX8_readsNumber_61 : decode cX8_readsNumber 61 = .ok (.ifCond .eq 32, 3) := by decide +kernel
theorem dX8_readsNumber_64 : decode cX8_readsNumber 64 = .ok (.aload_n 0, 1) := by decide +kernel
theorem dX8_readsNumber_65 : decode cX8_readsNumber 65 = .ok (.bipush 10, 2) := by decide +kernel
theorem dX8_readsNumber_67 : decode cX8_readsNumber 67 = .ok (.aload_n 0, 1) := by decide +kernel
theorem dX8_readsNumber_68 : decode cX8_readsNumber 68 = .ok (.getfield 90, 3) := by decide +kernel
theorem dX8_readsNumber_71 : decode cX8_readsNumber 71 = .ok (.imul, 1) := by decide +kernel
theorem dX8_readsNumber_72 : decode cX8_readsNumber 72 = .ok (.aload_n 0, 1) := by decide +kernel
theorem dX8_readsNumber_73 : decode cX8_readsNumber 73 = .ok (.invokevirtual 82, 3) := by decide +kernel
theorem dX8_readsNumber_76 : decode cX8_readsNumber 76 = .ok (.iadd, 1) := by decide +kernel
theorem dX8_readsNumber_77 : decode cX8_readsNumber 77 = .ok (.bipush 48, 2) := by decide +kernel
theorem dX8_readsNumber_79 : decode cX8_readsNumber 79 = .ok (.isub, 1) := by decide +kernel
theorem dX8_readsNumber_80 : decode cX8_readsNumber 80 = .ok (.putfield 90, 3) := by decide +kernel
theorem dX8_readsNumber_83 : decode cX8_readsNumber 83 = .ok (.aload_n 0, 1) := by decide +kernel
theorem dX8_readsNumber_84 : decode cX8_readsNumber 84 = .ok (.dup, 1) := by decide +kernel
theorem dX8_readsNumber_85 : decode cX8_readsNumber 85 = .ok (.getfield 73, 3) := by decide +kernel
theorem dX8_readsNumber_88 : decode cX8_readsNumber 88 = .ok (.iconst 1, 1) := by decide +kernel
theorem dX8_readsNumber_89 : decode cX8_readsNumber 89 = .ok (.iadd, 1) := by decide +kernel
theorem dX8_readsNumber_90 : decode cX8_readsNumber 90 = .ok (.putfield 73, 3) := by decide +kernel
theorem dX8_readsNumber_93 : decode cX8_readsNumber 93 = .ok (.aload_n 0, 1) := by decide +kernel
theorem dX8_readsNumber_94 : decode cX8_readsNumber 94 = .ok (.getfield 40, 3) := by decide +kernel
theorem dX8_readsNumber_97 : decode cX8_readsNumber 97 = .ok (.aload_n 0, 1) := by decide +kernel
theorem dX8_readsNumber_98 : decode cX8_readsNumber 98 = .ok (.getfield 93, 3) := by decide +kernel
theorem dX8_readsNumber_101 : decode cX8_readsNumber 101 = .ok (.aload_n 0, 1) := by decide +kernel
theorem dX8_readsNumber_102 : decode cX8_readsNumber 102 = .ok (.getfield 90, 3) := by decide +kernel
theorem dX8_readsNumber_105 : decode cX8_readsNumber 105 = .ok (.iastore, 1) := by decide +kernel
theorem dX8_readsNumber_106 : decode cX8_readsNumber 106 = .ok (.aload_n 0, 1) := by decide +kernel
theorem dX8_readsNumber_107 : decode cX8_readsNumber 107 = .ok (.dup, 1) := by decide +kernel
theorem dX8_readsNumber_108 : decode cX8_readsNumber 108 = .ok (.getfield 93, 3) := by decide +kernel
theorem dX8_readsNumber_111 : decode cX8_readsNumber 111 = .ok (.iconst 1, 1) := by decide +kernel
theorem dX8_readsNumber_112 : decode cX8_readsNumber 112 = .ok (.iadd, 1) := by decide +kernel
theorem dX8_readsNumber_113 : decode cX8_readsNumber 113 = .ok (.putfield 93, 3) := by decide +kernel
theorem dX8_readsNumber_116 : decode cX8_readsNumber 116 = .ok (.iconst 1, 1) := by decide +kernel
theorem dX8_readsNumber_117 : decode cX8_readsNumber 117 = .ok (.ireturn, 1) := by decide +kernel
set_option maxRecDepth 20000 in
theorem ggX8_readsStatement_X8_here : GoodIn wsX8_readsStatement wsX8_here := goodIn_r _ [7, 2, 8, 9, 10, 26, 27, 28, 29, 30, 31, 32, 33, 34, 35, 36, 37, 38, 39, 40, 41, 42, 43, 44, 45, 46, 47, 48, 49, 50, 51, 52, 53, 54, 55, 56, 57, 58, 59, 60, 61, 62] (by decide +kernel) (by decide +kernel)
set_option maxRecDepth 20000 in
theorem gX8_readsStatement_X8_here : GoodIn wsX8_readsStatement (wsV RX8 82 RX8 yX8_here wsX8_here) := goodIn_app (goodIn_of _ (by decide +kernel)) ggX8_readsStatement_X8_here
set_option maxRecDepth 20000 in
theorem ggX8_readsStatement_X8_readsNumber : GoodIn wsX8_readsStatement wsX8_readsNumber := goodIn_r _ [14, 15, 16, 17, 2, 18, 1, 3, 4, 5, 6, 7, 8, 9, 10, 19, 20, 21, 26, 27, 28, 29, 30, 31, 32, 33, 34, 35, 36, 37, 38, 39, 40, 41, 42, 43, 44, 45, 46, 47, 48, 49, 50, 51, 52, 53, 54, 55, 56, 57, 58, 59, 60, 61, 62] (by decide +kernel) (by decide +kernel)
set_option maxRecDepth 20000 in
theorem gX8_readsStatement_X8_readsNumber : GoodIn wsX8_readsStatement (wsV RX8 96 RX8 yX8_readsNumber wsX8_readsNumber) := goodIn_app (goodIn_of _ (by decide +kernel)) ggX8_readsStatement_X8_readsNumber
set_option maxRecDepth 20000 in
theorem ggX8_readsStatement_X8_takes : GoodIn wsX8_readsStatement wsX8_takes := goodIn_r _ [25, 2, 3, 4, 5, 6, 7, 8, 9, 10, 26, 27, 28, 29, 30, 31, 32, 33, 34, 35, 36, 37, 38, 39, 40, 41, 42, 43, 44, 45, 46, 47, 48, 49, 50, 51, 52, 53, 54, 55, 56, 57, 58, 59, 60, 61, 62] (by decide +kernel) (by decide +kernel)
set_option maxRecDepth 20000 in
theorem gX8_readsStatement_X8_takes : GoodIn wsX8_readsStatement (wsV RX8 100 RX8 yX8_takes wsX8_takes) := goodIn_app (goodIn_of _ (by decide +kernel)) ggX8_readsStatement_X8_takes
theorem dX8_readsStatement_0 : decode cX8_readsStatement 0 = .ok (.aload_n 0, 1) := by decide +kernel
theorem dX8_readsStatement_1 : decode cX8_readsStatement 1 = .ok (.invokevirtual 82, 3) := by decide +kernel
theorem dX8_readsStatement_4 : decode cX8_readsStatement 4 = .ok (.istore_n 1, 1) := by decide +kernel
theorem dX8_readsStatement_5 : decode cX8_readsStatement 5 = .ok (.aload_n 0, 1) := by decide +kernel
theorem dX8_readsStatement_6 : decode cX8_readsStatement 6 = .ok (.iconst 0, 1) := by decide +kernel
theorem dX8_readsStatement_7 : decode cX8_readsStatement 7 = .ok (.putfield 93, 3) := by decide +kernel
theorem dX8_readsStatement_10 : decode cX8_readsStatement 10 = .ok (.iload_n 1, 1) := by decide +kernel
theorem dX8_readsStatement_11 : decode cX8_readsStatement 11 = .ok (.bipush 119, 2) := by decide +kernel
theorem dX8_readsStatement_13 : decode cX8_readsStatement 13 = .ok (.if_icmp .eq 17, 3) := by decide +kernel
theorem dX8_readsStatement_16 : decode cX8_readsStatement 16 = .ok (.iload_n 1, 1) := by decide +kernel
theorem dX8_readsStatement_17 : decode cX8_readsStatement 17 = .ok (.bipush 114, 2) := by decide +kernel
theorem dX8_readsStatement_19 : decode cX8_readsStatement 19 = .ok (.if_icmp .eq 11, 3) := by decide +kernel
theorem dX8_readsStatement_22 : decode cX8_readsStatement 22 = .ok (.iload_n 1, 1) := by decide +kernel
theorem dX8_readsStatement_23 : decode cX8_readsStatement 23 = .ok (.bipush 108, 2) := by decide +kernel
theorem dX8_readsStatement_25 : decode cX8_readsStatement 25 = .ok (.if_icmp .eq 5, 3) := by decide +kernel
theorem dX8_readsStatement_28 : decode cX8_readsStatement 28 = .ok (.iconst 0, 1) := by decide +kernel
theorem dX8_readsStatement_29 : decode cX8_readsStatement 29 = .ok (.ireturn, 1) := by decide +kernel
theorem dX8_readsStatement_30 : decode cX8_readsStatement 30 = .ok (.aload_n 0, 1) := by decide +kernel
theorem dX8_readsStatement_31 : decode cX8_readsStatement 31 = .ok (.dup, 1) := by decide +kernel
theorem dX8_readsStatement_32 : decode cX8_readsStatement 32 = .ok (.getfield 73, 3) := by decide +kernel
theorem dX8_readsStatement_35 : decode cX8_readsStatement 35 = .ok (.iconst 1, 1) := by decide +kernel
theorem dX8_readsStatement_36 : decode cX8_readsStatement 36 = .ok (.iadd, 1) := by decide +kernel
theorem dX8_readsStatement_37 : decode cX8_readsStatement 37 = .ok (.putfield 73, 3) := by decide +kernel
theorem dX8_readsStatement_40 : decode cX8_readsStatement 40 = .ok (.aload_n 0, 1) := by decide +kernel
theorem dX8_readsStatement_41 : decode cX8_readsStatement 41 = .ok (.invokevirtual 96, 3) := by decide +kernel
theorem dX8_readsStatement_44 : decode cX8_readsStatement 44 = .ok (.ifCond .ne 5, 3) := by decide +kernel
theorem dX8_readsStatement_47 : decode cX8_readsStatement 47 = .ok (.iconst 0, 1) := by decide +kernel
theorem dX8_readsStatement_48 : decode cX8_readsStatement 48 = .ok (.ireturn, 1) := by decide +kernel
theorem dX8_readsStatement_49 : decode cX8_readsStatement 49 = .ok (.iload_n 1, 1) := by decide +kernel
theorem dX8_readsStatement_50 : decode cX8_readsStatement 50 = .ok (.bipush 119, 2) := by decide +kernel
theorem dX8_readsStatement_52 : decode cX8_readsStatement 52 = .ok (.if_icmp .ne 29, 3) := by decide +kernel
theorem dX8_readsStatement_55 : decode cX8_readsStatement 55 = .ok (.aload_n 0, 1) := by decide +kernel
theorem dX8_readsStatement_56 : decode cX8_readsStatement 56 = .ok (.getfield 93, 3) := by decide +kernel
theorem dX8_readsStatement_59 : decode cX8_readsStatement 59 = .ok (.iconst 3, 1) := by decide +kernel
theorem dX8_readsStatement_60 : decode cX8_readsStatement 60 = .ok (.if_icmp .ge 21, 3) := by decide +kernel
theorem dX8_readsStatement_63 : decode cX8_readsStatement 63 = .ok (.aload_n 0, 1) := by decide +kernel
theorem dX8_readsStatement_64 : decode cX8_readsStatement 64 = .ok (.bipush 32, 2) := by decide +kernel
theorem dX8_readsStatement_66 : decode cX8_readsStatement 66 = .ok (.invokevirtual 100, 3) := by decide +kernel
theorem dX8_readsStatement_69 : decode cX8_readsStatement 69 = .ok (.ifCond .eq 10, 3) := by decide +kernel
theorem dX8_readsStatement_72 : decode cX8_readsStatement 72 = .ok (.aload_n 0, 1) := by decide +kernel
theorem dX8_readsStatement_73 : decode cX8_readsStatement 73 = .ok (.invokevirtual 96, 3) := by decide +kernel
theorem dX8_readsStatement_76 : decode cX8_readsStatement 76 = .ok (.ifCond .ne (-27), 3) := by decide +kernel
theorem dX8_readsStatement_79 : decode cX8_readsStatement 79 = .ok (.iconst 0, 1) := by decide +kernel
theorem dX8_readsStatement_80 : decode cX8_readsStatement 80 = .ok (.ireturn, 1) := by decide +kernel
theorem dX8_readsStatement_81 : decode cX8_readsStatement 81 = .ok (.aload_n 0, 1) := by decide +kernel
theorem dX8_readsStatement_82 : decode cX8_readsStatement 82 = .ok (.bipush 59, 2) := by decide +kernel
theorem dX8_readsStatement_84 : decode cX8_readsStatement 84 = .ok (.invokevirtual 100, 3) := by decide +kernel
theorem dX8_readsStatement_87 : decode cX8_readsStatement 87 = .ok (.ireturn, 1) := by decide +kernel
set_option maxRecDepth 20000 in
theorem ggX8_comes_X8_isIn : GoodIn wsX8_comes wsX8_isIn := goodIn_r _ [10] (by decide +kernel) (by decide +kernel)
set_option maxRecDepth 20000 in
theorem gX8_comes_X8_isIn : GoodIn wsX8_comes (va_wsS RX8 63 yX8_isIn wsX8_isIn) := goodIn_app (goodIn_of _ (by decide +kernel)) ggX8_comes_X8_isIn
theorem dX8_comes_0 : decode cX8_comes 0 = .ok (.aload_n 0, 1) := by decide +kernel
theorem dX8_comes_1 : decode cX8_comes 1 = .ok (.getfield 40, 3) := by decide +kernel
theorem dX8_comes_4 : decode cX8_comes 4 = .ok (.iconst 0, 1) := by decide +kernel
theorem dX8_comes_5 : decode cX8_comes 5 = .ok (.iaload, 1) := by decide +kernel
theorem dX8_comes_6 : decode cX8_comes 6 = .ok (.istore_n 2, 1) := by decide +kernel
theorem dX8_comes_7 : decode cX8_comes 7 = .ok (.iload_n 1, 1) := by decide +kernel
theorem dX8_comes_8 : decode cX8_comes 8 = .ok (.bipush 108, 2) := by decide +kernel
theorem dX8_comes_10 : decode cX8_comes 10 = .ok (.if_icmp .ne 22, 3) := by decide +kernel
theorem dX8_comes_13 : decode cX8_comes 13 = .ok (.aload_n 0, 1) := by decide +kernel
theorem dX8_comes_14 : decode cX8_comes 14 = .ok (.getfield 16, 3) := by decide +kernel
theorem dX8_comes_17 : decode cX8_comes 17 = .ok (.iconst 0, 1) := by decide +kernel
theorem dX8_comes_18 : decode cX8_comes 18 = .ok (.iload_n 2, 1) := by decide +kernel
theorem dX8_comes_19 : decode cX8_comes 19 = .ok (.iastore, 1) := by decide +kernel
theorem dX8_comes_20 : decode cX8_comes 20 = .ok (.iload_n 2, 1) := by decide +kernel
theorem dX8_comes_21 : decode cX8_comes 21 = .ok (.bipush 20, 2) := by decide +kernel
theorem dX8_comes_23 : decode cX8_comes 23 = .ok (.if_icmp .gt 7, 3) := by decide +kernel
theorem dX8_comes_26 : decode cX8_comes 26 = .ok (.iconst 1, 1) := by decide +kernel
theorem dX8_comes_27 : decode cX8_comes 27 = .ok (.goto 4, 3) := by decide +kernel
theorem dX8_comes_30 : decode cX8_comes 30 = .ok (.iconst 0, 1) := by decide +kernel
theorem dX8_comes_31 : decode cX8_comes 31 = .ok (.ireturn, 1) := by decide +kernel
theorem dX8_comes_32 : decode cX8_comes 32 = .ok (.iload_n 1, 1) := by decide +kernel
theorem dX8_comes_33 : decode cX8_comes 33 = .ok (.bipush 114, 2) := by decide +kernel
theorem dX8_comes_35 : decode cX8_comes 35 = .ok (.if_icmp .ne 80, 3) := by decide +kernel
theorem dX8_comes_38 : decode cX8_comes 38 = .ok (.iload_n 2, 1) := by decide +kernel
theorem dX8_comes_39 : decode cX8_comes 39 = .ok (.i2l, 1) := by decide +kernel
theorem dX8_comes_40 : decode cX8_comes 40 = .ok (.ldc2_w 104, 3) := by decide +kernel
theorem dX8_comes_43 : decode cX8_comes 43 = .ok (.ldc2_w 106, 3) := by decide +kernel
theorem dX8_comes_46 : decode cX8_comes 46 = .ok (.invokestatic 63, 3) := by decide +kernel
theorem dX8_comes_49 : decode cX8_comes 49 = .ok (.ifCond .eq 14, 3) := by decide +kernel
theorem dX8_comes_52 : decode cX8_comes 52 = .ok (.aload_n 0, 1) := by decide +kernel
theorem dX8_comes_53 : decode cX8_comes 53 = .ok (.getfield 16, 3) := by decide +kernel
theorem dX8_comes_56 : decode cX8_comes 56 = .ok (.iconst 2, 1) := by decide +kernel
theorem dX8_comes_57 : decode cX8_comes 57 = .ok (.iaload, 1) := by decide +kernel
theorem dX8_comes_58 : decode cX8_comes 58 = .ok (.bipush 6, 2) := by decide +kernel
theorem dX8_comes_60 : decode cX8_comes 60 = .ok (.if_icmp .ne 5, 3) := by decide +kernel
theorem dX8_comes_63 : decode cX8_comes 63 = .ok (.iconst 0, 1) := by decide +kernel
theorem dX8_comes_64 : decode cX8_comes 64 = .ok (.ireturn, 1) := by decide +kernel
theorem dX8_comes_65 : decode cX8_comes 65 = .ok (.aload_n 0, 1) := by decide +kernel
theorem dX8_comes_66 : decode cX8_comes 66 = .ok (.getfield 16, 3) := by decide +kernel
theorem dX8_comes_69 : decode cX8_comes 69 = .ok (.bipush 15, 2) := by decide +kernel
theorem dX8_comes_71 : decode cX8_comes 71 = .ok (.bipush 14, 2) := by decide +kernel
theorem dX8_comes_73 : decode cX8_comes 73 = .ok (.aload_n 0, 1) := by decide +kernel
theorem dX8_comes_74 : decode cX8_comes 74 = .ok (.getfield 16, 3) := by decide +kernel
theorem dX8_comes_77 : decode cX8_comes 77 = .ok (.iconst 2, 1) := by decide +kernel
theorem dX8_comes_78 : decode cX8_comes 78 = .ok (.iaload, 1) := by decide +kernel
theorem dX8_comes_79 : decode cX8_comes 79 = .ok (.imul, 1) := by decide +kernel
theorem dX8_comes_80 : decode cX8_comes 80 = .ok (.iadd, 1) := by decide +kernel
theorem dX8_comes_81 : decode cX8_comes 81 = .ok (.iload_n 2, 1) := by decide +kernel
theorem dX8_comes_82 : decode cX8_comes 82 = .ok (.iastore, 1) := by decide +kernel
theorem dX8_comes_83 : decode cX8_comes 83 = .ok (.aload_n 0, 1) := by decide +kernel
theorem dX8_comes_84 : decode cX8_comes 84 = .ok (.getfield 16, 3) := by decide +kernel
theorem dX8_comes_87 : decode cX8_comes 87 = .ok (.bipush 15, 2) := by decide +kernel
theorem dX8_comes_89 : decode cX8_comes 89 = .ok (.bipush 14, 2) := by decide +kernel
theorem dX8_comes_91 : decode cX8_comes 91 = .ok (.aload_n 0, 1) := by decide +kernel
theorem dX8_comes_92 : decode cX8_comes 92 = .ok (.getfield 16, 3) := by decide +kernel
theorem dX8_comes_95 : decode cX8_comes 95 = .ok (.iconst 2, 1) := by decide +kernel
theorem dX8_comes_96 : decode cX8_comes 96 = .ok (.iaload, 1) := by decide +kernel
theorem dX8_comes_97 : decode cX8_comes 97 = .ok (.imul, 1) := by decide +kernel
theorem dX8_comes_98 : decode cX8_comes 98 = .ok (.iadd, 1) := by decide +kernel
theorem dX8_comes_99 : decode cX8_comes 99 = .ok (.iconst 1, 1) := by decide +kernel
theorem dX8_comes_100 : decode cX8_comes 100 = .ok (.iadd, 1) := by decide +kernel
theorem dX8_comes_101 : decode cX8_comes 101 = .ok (.iconst 0, 1) := by decide +kernel
theorem dX8_comes_102 : decode cX8_comes 102 = .ok (.iastore, 1) := by decide +kernel
theorem dX8_comes_103 : decode cX8_comes 103 = .ok (.aload_n 0, 1) := by decide +kernel
theorem dX8_comes_104 : decode cX8_comes 104 = .ok (.getfield 16, 3) := by decide +kernel
theorem dX8_comes_107 : decode cX8_comes 107 = .ok (.iconst 2, 1) := by decide +kernel
theorem dX8_comes_108 : decode cX8_comes 108 = .ok (.dup2, 1) := by decide +kernel
theorem dX8_comes_109 : decode cX8_comes 109 = .ok (.iaload, 1) := by decide +kernel
theorem dX8_comes_110 : decode cX8_comes 110 = .ok (.iconst 1, 1) := by decide +kernel
theorem dX8_comes_111 : decode cX8_comes 111 = .ok (.iadd, 1) := by decide +kernel
theorem dX8_comes_112 : decode cX8_comes 112 = .ok (.iastore, 1) := by decide +kernel
theorem dX8_comes_113 : decode cX8_comes 113 = .ok (.iconst 1, 1) := by decide +kernel
theorem dX8_comes_114 : decode cX8_comes 114 = .ok (.ireturn, 1) := by decide +kernel
theorem dX8_comes_115 : decode cX8_comes 115 = .ok (.iload_n 2, 1) := by decide +kernel
theorem dX8_comes_116 : decode cX8_comes 116 = .ok (.i2l, 1) := by decide +kernel
theorem dX8_comes_117 : decode cX8_comes 117 = .ok (.ldc2_w 108, 3) := by decide +kernel
theorem dX8_comes_120 : decode cX8_comes 120 = .ok (.ldc2_w 110, 3) := by decide +kernel
theorem dX8_comes_123 : decode cX8_comes 123 = .ok (.invokestatic 63, 3) := by decide +kernel
theorem dX8_comes_126 : decode cX8_comes 126 = .ok (.ifCond .eq 24, 3) := by decide +kernel
theorem dX8_comes_129 : decode cX8_comes 129 = .ok (.aload_n 0, 1) := by decide +kernel
theorem dX8_comes_130 : decode cX8_comes 130 = .ok (.getfield 40, 3) := by decide +kernel
theorem dX8_comes_133 : decode cX8_comes 133 = .ok (.iconst 1, 1) := by decide +kernel
theorem dX8_comes_134 : decode cX8_comes 134 = .ok (.iaload, 1) := by decide +kernel
theorem dX8_comes_135 : decode cX8_comes 135 = .ok (.bipush 12, 2) := by decide +kernel
theorem dX8_comes_137 : decode cX8_comes 137 = .ok (.if_icmp .gt 13, 3) := by decide +kernel
theorem dX8_comes_140 : decode cX8_comes 140 = .ok (.aload_n 0, 1) := by decide +kernel
theorem dX8_comes_141 : decode cX8_comes 141 = .ok (.getfield 16, 3) := by decide +kernel
theorem dX8_comes_144 : decode cX8_comes 144 = .ok (.iconst 1, 1) := by decide +kernel
theorem dX8_comes_145 : decode cX8_comes 145 = .ok (.iaload, 1) := by decide +kernel
theorem dX8_comes_146 : decode cX8_comes 146 = .ok (.iconst 4, 1) := by decide +kernel
theorem dX8_comes_147 : decode cX8_comes 147 = .ok (.if_icmp .ne 5, 3) := by decide +kernel
theorem dX8_comes_150 : decode cX8_comes 150 = .ok (.iconst 0, 1) := by decide +kernel
theorem dX8_comes_151 : decode cX8_comes 151 = .ok (.ireturn, 1) := by decide +kernel
theorem dX8_comes_152 : decode cX8_comes 152 = .ok (.iconst 0, 1) := by decide +kernel
theorem dX8_comes_153 : decode cX8_comes 153 = .ok (.istore_n 3, 1) := by decide +kernel
theorem dX8_comes_154 : decode cX8_comes 154 = .ok (.iload_n 3, 1) := by decide +kernel
theorem dX8_comes_155 : decode cX8_comes 155 = .ok (.aload_n 0, 1) := by decide +kernel
theorem dX8_comes_156 : decode cX8_comes 156 = .ok (.getfield 16, 3) := by decide +kernel
theorem dX8_comes_159 : decode cX8_comes 159 = .ok (.iconst 1, 1) := by decide +kernel
theorem dX8_comes_160 : decode cX8_comes 160 = .ok (.iaload, 1) := by decide +kernel
theorem dX8_comes_161 : decode cX8_comes 161 = .ok (.if_icmp .ge 25, 3) := by decide +kernel
theorem dX8_comes_164 : decode cX8_comes 164 = .ok (.aload_n 0, 1) := by decide +kernel
theorem dX8_comes_165 : decode cX8_comes 165 = .ok (.getfield 16, 3) := by decide +kernel
theorem dX8_comes_168 : decode cX8_comes 168 = .ok (.iconst 3, 1) := by decide +kernel
theorem dX8_comes_169 : decode cX8_comes 169 = .ok (.iconst 3, 1) := by decide +kernel
theorem dX8_comes_170 : decode cX8_comes 170 = .ok (.iload_n 3, 1) := by decide +kernel
theorem dX8_comes_171 : decode cX8_comes 171 = .ok (.imul, 1) := by decide +kernel
theorem dX8_comes_172 : decode cX8_comes 172 = .ok (.iadd, 1) := by decide +kernel
theorem dX8_comes_173 : decode cX8_comes 173 = .ok (.iaload, 1) := by decide +kernel
theorem dX8_comes_174 : decode cX8_comes 174 = .ok (.iload_n 2, 1) := by decide +kernel
theorem dX8_comes_175 : decode cX8_comes 175 = .ok (.if_icmp .ne 5, 3) := by decide +kernel
theorem dX8_comes_178 : decode cX8_comes 178 = .ok (.iconst 0, 1) := by decide +kernel
theorem dX8_comes_179 : decode cX8_comes 179 = .ok (.ireturn, 1) := by decide +kernel
theorem dX8_comes_180 : decode cX8_comes 180 = .ok (.iinc 3 1, 3) := by decide +kernel
theorem dX8_comes_183 : decode cX8_comes 183 = .ok (.goto (-29), 3) := by decide +kernel
theorem dX8_comes_186 : decode cX8_comes 186 = .ok (.iconst 0, 1) := by decide +kernel
theorem dX8_comes_187 : decode cX8_comes 187 = .ok (.istore_n 3, 1) := by decide +kernel
theorem dX8_comes_188 : decode cX8_comes 188 = .ok (.iload_n 3, 1) := by decide +kernel
theorem dX8_comes_189 : decode cX8_comes 189 = .ok (.iconst 3, 1) := by decide +kernel
theorem dX8_comes_190 : decode cX8_comes 190 = .ok (.if_icmp .ge 32, 3) := by decide +kernel
theorem dX8_comes_193 : decode cX8_comes 193 = .ok (.aload_n 0, 1) := by decide +kernel
theorem dX8_comes_194 : decode cX8_comes 194 = .ok (.getfield 16, 3) := by decide +kernel
theorem dX8_comes_197 : decode cX8_comes 197 = .ok (.iconst 3, 1) := by decide +kernel
theorem dX8_comes_198 : decode cX8_comes 198 = .ok (.iconst 3, 1) := by decide +kernel
theorem dX8_comes_199 : decode cX8_comes 199 = .ok (.aload_n 0, 1) := by decide +kernel
theorem dX8_comes_200 : decode cX8_comes 200 = .ok (.getfield 16, 3) := by decide +kernel
theorem dX8_comes_203 : decode cX8_comes 203 = .ok (.iconst 1, 1) := by decide +kernel
theorem dX8_comes_204 : decode cX8_comes 204 = .ok (.iaload, 1) := by decide +kernel
theorem dX8_comes_205 : decode cX8_comes 205 = .ok (.imul, 1) := by decide +kernel
theorem dX8_comes_206 : decode cX8_comes 206 = .ok (.iadd, 1) := by decide +kernel
theorem dX8_comes_207 : decode cX8_comes 207 = .ok (.iload_n 3, 1) := by decide +kernel
theorem dX8_comes_208 : decode cX8_comes 208 = .ok (.iadd, 1) := by decide +kernel
theorem dX8_comes_209 : decode cX8_comes 209 = .ok (.aload_n 0, 1) := by decide +kernel
theorem dX8_comes_210 : decode cX8_comes 210 = .ok (.getfield 40, 3) := by decide +kernel
theorem dX8_comes_213 : decode cX8_comes 213 = .ok (.iload_n 3, 1) := by decide +kernel
theorem dX8_comes_214 : decode cX8_comes 214 = .ok (.iaload, 1) := by decide +kernel
theorem dX8_comes_215 : decode cX8_comes 215 = .ok (.iastore, 1) := by decide +kernel
theorem dX8_comes_216 : decode cX8_comes 216 = .ok (.iinc 3 1, 3) := by decide +kernel
theorem dX8_comes_219 : decode cX8_comes 219 = .ok (.goto (-31), 3) := by decide +kernel
theorem dX8_comes_222 : decode cX8_comes 222 = .ok (.aload_n 0, 1) := by decide +kernel
theorem dX8_comes_223 : decode cX8_comes 223 = .ok (.getfield 16, 3) := by decide +kernel
theorem dX8_comes_226 : decode cX8_comes 226 = .ok (.iconst 1, 1) := by decide +kernel
theorem dX8_comes_227 : decode cX8_comes 227 = .ok (.dup2, 1) := by decide +kernel
theorem dX8_comes_228 : decode cX8_comes 228 = .ok (.iaload, 1) := by decide +kernel
theorem dX8_comes_229 : decode cX8_comes 229 = .ok (.iconst 1, 1) := by decide +kernel
theorem dX8_comes_230 : decode cX8_comes 230 = .ok (.iadd, 1) := by decide +kernel
theorem dX8_comes_231 : decode cX8_comes 231 = .ok (.iastore, 1) := by decide +kernel
theorem dX8_comes_232 : decode cX8_comes 232 = .ok (.iconst 1, 1) := by decide +kernel
theorem dX8_comes_233 : decode cX8_comes 233 = .ok (.ireturn, 1) := by decide +kernel
set_option maxRecDepth 20000 in
theorem ggX8_wrongRow_X8_isShelf : GoodIn wsX8_wrongRow wsX8_isShelf := goodIn_r _ [6, 7, 8, 9, 5, 10] (by decide +kernel) (by decide +kernel)
set_option maxRecDepth 20000 in
theorem gX8_wrongRow_X8_isShelf : GoodIn wsX8_wrongRow (va_wsS RX8 112 yX8_isShelf wsX8_isShelf) := goodIn_app (goodIn_of _ (by decide +kernel)) ggX8_wrongRow_X8_isShelf
theorem dX8_wrongRow_0 : decode cX8_wrongRow 0 = .ok (.iload_n 1, 1) := by decide +kernel
theorem dX8_wrongRow_1 : decode cX8_wrongRow 1 = .ok (.invokestatic 112, 3) := by decide +kernel
theorem dX8_wrongRow_4 : decode cX8_wrongRow 4 = .ok (.ifCond .ne 7, 3) := by decide +kernel
theorem dX8_wrongRow_7 : decode cX8_wrongRow 7 = .ok (.iconst (-1), 1) := by decide +kernel
theorem dX8_wrongRow_8 : decode cX8_wrongRow 8 = .ok (.goto 47, 3) := by decide +kernel
theorem dX8_wrongRow_11 : decode cX8_wrongRow 11 = .ok (.aload_n 0, 1) := by decide +kernel
theorem dX8_wrongRow_12 : decode cX8_wrongRow 12 = .ok (.getfield 22, 3) := by decide +kernel
theorem dX8_wrongRow_15 : decode cX8_wrongRow 15 = .ok (.iload_n 1, 1) := by decide +kernel
theorem dX8_wrongRow_16 : decode cX8_wrongRow 16 = .ok (.iaload, 1) := by decide +kernel
theorem dX8_wrongRow_17 : decode cX8_wrongRow 17 = .ok (.ifCond .ne 8, 3) := by decide +kernel
theorem dX8_wrongRow_20 : decode cX8_wrongRow 20 = .ok (.bipush (-11), 2) := by decide +kernel
theorem dX8_wrongRow_22 : decode cX8_wrongRow 22 = .ok (.goto 33, 3) := by decide +kernel
theorem dX8_wrongRow_25 : decode cX8_wrongRow 25 = .ok (.aload_n 0, 1) := by decide +kernel
theorem dX8_wrongRow_26 : decode cX8_wrongRow 26 = .ok (.getfield 22, 3) := by decide +kernel
theorem dX8_wrongRow_29 : decode cX8_wrongRow 29 = .ok (.iload_n 1, 1) := by decide +kernel
theorem dX8_wrongRow_30 : decode cX8_wrongRow 30 = .ok (.iaload, 1) := by decide +kernel
theorem dX8_wrongRow_31 : decode cX8_wrongRow 31 = .ok (.iconst 2, 1) := by decide +kernel
theorem dX8_wrongRow_32 : decode cX8_wrongRow 32 = .ok (.if_icmp .ne 17, 3) := by decide +kernel
theorem dX8_wrongRow_35 : decode cX8_wrongRow 35 = .ok (.iload_n 2, 1) := by decide +kernel
theorem dX8_wrongRow_36 : decode cX8_wrongRow 36 = .ok (.ifCond .lt 18, 3) := by decide +kernel
theorem dX8_wrongRow_39 : decode cX8_wrongRow 39 = .ok (.aload_n 0, 1) := by decide +kernel
theorem dX8_wrongRow_40 : decode cX8_wrongRow 40 = .ok (.getfield 25, 3) := by decide +kernel
theorem dX8_wrongRow_43 : decode cX8_wrongRow 43 = .ok (.iload_n 1, 1) := by decide +kernel
theorem dX8_wrongRow_44 : decode cX8_wrongRow 44 = .ok (.iaload, 1) := by decide +kernel
theorem dX8_wrongRow_45 : decode cX8_wrongRow 45 = .ok (.iload_n 2, 1) := by decide +kernel
theorem dX8_wrongRow_46 : decode cX8_wrongRow 46 = .ok (.if_icmp .eq 8, 3) := by decide +kernel
theorem dX8_wrongRow_49 : decode cX8_wrongRow 49 = .ok (.bipush (-12), 2) := by decide +kernel
theorem dX8_wrongRow_51 : decode cX8_wrongRow 51 = .ok (.goto 4, 3) := by decide +kernel
theorem dX8_wrongRow_54 : decode cX8_wrongRow 54 = .ok (.iconst 0, 1) := by decide +kernel
theorem dX8_wrongRow_55 : decode cX8_wrongRow 55 = .ok (.ireturn, 1) := by decide +kernel
set_option maxRecDepth 20000 in
theorem ggX8_roof_X8_wrongRow : GoodIn wsX8_roof wsX8_wrongRow := goodIn_r _ [11, 12, 13, 14, 15, 10, 16, 17, 18, 19, 20, 51, 52, 53, 54, 55, 56, 57, 58, 59, 60, 61, 62, 63, 64, 65, 66, 67, 68, 69, 70, 71, 72, 73, 74, 75, 76, 77, 78, 79, 80, 81, 82, 83, 84, 85, 86, 87] (by decide +kernel) (by decide +kernel)
set_option maxRecDepth 20000 in
theorem gX8_roof_X8_wrongRow : GoodIn wsX8_roof (wsV RX8 115 RX8 yX8_wrongRow wsX8_wrongRow) := goodIn_app (goodIn_of _ (by decide +kernel)) ggX8_roof_X8_wrongRow
set_option maxRecDepth 20000 in
theorem ggX8_roof_X8_readsStatement : GoodIn wsX8_roof wsX8_readsStatement := goodIn_r _ [24, 25, 4, 26, 27, 28, 10, 29, 3, 30, 1, 31, 32, 33, 34, 35, 36, 37, 38, 18, 19, 20, 39, 40, 41, 42, 51, 52, 53, 54, 55, 56, 57, 58, 59, 60, 61, 62, 63, 64, 65, 66, 67, 68, 69, 70, 71, 72, 73, 74, 75, 76, 77, 78, 79, 80, 81, 82, 83, 84, 85, 86, 87] (by decide +kernel) (by decide +kernel)
set_option maxRecDepth 20000 in
theorem gX8_roof_X8_readsStatement : GoodIn wsX8_roof (wsV RX8 119 RX8 yX8_readsStatement wsX8_readsStatement) := goodIn_app (goodIn_of _ (by decide +kernel)) ggX8_roof_X8_readsStatement
set_option maxRecDepth 20000 in
theorem ggX8_roof_X8_here : GoodIn wsX8_roof wsX8_here := goodIn_r _ [29, 4, 3, 30, 1, 51, 52, 53, 54, 55, 56, 57, 58, 59, 60, 61, 62, 63, 64, 65, 66, 67, 68, 69, 70, 71, 72, 73, 74, 75, 76, 77, 78, 79, 80, 81, 82, 83, 84, 85, 86, 87] (by decide +kernel) (by decide +kernel)
set_option maxRecDepth 20000 in
theorem gX8_roof_X8_here : GoodIn wsX8_roof (wsV RX8 82 RX8 yX8_here wsX8_here) := goodIn_app (goodIn_of _ (by decide +kernel)) ggX8_roof_X8_here
set_option maxRecDepth 20000 in
theorem ggX8_roof_X8_comes : GoodIn wsX8_roof wsX8_comes := goodIn_r _ [46, 38, 5, 47, 48, 49, 50, 18, 19, 10, 20, 51, 52, 53, 54, 55, 56, 57, 58, 59, 60, 61, 62, 63, 64, 65, 66, 67, 68, 69, 70, 71, 72, 73, 74, 75, 76, 77, 78, 79, 80, 81, 82, 83, 84, 85, 86, 87] (by decide +kernel) (by decide +kernel)
set_option maxRecDepth 20000 in
theorem gX8_roof_X8_comes : GoodIn wsX8_roof (wsV RX8 122 RX8 yX8_comes wsX8_comes) := goodIn_app (goodIn_of _ (by decide +kernel)) ggX8_roof_X8_comes
theorem dX8_roof_0 : decode cX8_roof 0 = .ok (.aload_n 0, 1) := by decide +kernel
theorem dX8_roof_1 : decode cX8_roof 1 = .ok (.iload_n 1, 1) := by decide +kernel
theorem dX8_roof_2 : decode cX8_roof 2 = .ok (.iconst 0, 1) := by decide +kernel
theorem dX8_roof_3 : decode cX8_roof 3 = .ok (.invokevirtual 115, 3) := by decide +kernel
theorem dX8_roof_6 : decode cX8_roof 6 = .ok (.istore_n 2, 1) := by decide +kernel
theorem dX8_roof_7 : decode cX8_roof 7 = .ok (.iload_n 2, 1) := by decide +kernel
theorem dX8_roof_8 : decode cX8_roof 8 = .ok (.ifCond .eq 5, 3) := by decide +kernel
theorem dX8_roof_11 : decode cX8_roof 11 = .ok (.iload_n 2, 1) := by decide +kernel
theorem dX8_roof_12 : decode cX8_roof 12 = .ok (.ireturn, 1) := by decide +kernel
theorem dX8_roof_13 : decode cX8_roof 13 = .ok (.aload_n 0, 1) := by decide +kernel
theorem dX8_roof_14 : decode cX8_roof 14 = .ok (.bipush 100, 2) := by decide +kernel
theorem dX8_roof_16 : decode cX8_roof 16 = .ok (.iload_n 1, 1) := by decide +kernel
theorem dX8_roof_17 : decode cX8_roof 17 = .ok (.imul, 1) := by decide +kernel
theorem dX8_roof_18 : decode cX8_roof 18 = .ok (.putfield 79, 3) := by decide +kernel
theorem dX8_roof_21 : decode cX8_roof 21 = .ok (.aload_n 0, 1) := by decide +kernel
theorem dX8_roof_22 : decode cX8_roof 22 = .ok (.aload_n 0, 1) := by decide +kernel
theorem dX8_roof_23 : decode cX8_roof 23 = .ok (.getfield 28, 3) := by decide +kernel
theorem dX8_roof_26 : decode cX8_roof 26 = .ok (.iload_n 1, 1) := by decide +kernel
theorem dX8_roof_27 : decode cX8_roof 27 = .ok (.iaload, 1) := by decide +kernel
theorem dX8_roof_28 : decode cX8_roof 28 = .ok (.putfield 76, 3) := by decide +kernel
theorem dX8_roof_31 : decode cX8_roof 31 = .ok (.aload_n 0, 1) := by decide +kernel
theorem dX8_roof_32 : decode cX8_roof 32 = .ok (.iconst 0, 1) := by decide +kernel
theorem dX8_roof_33 : decode cX8_roof 33 = .ok (.putfield 73, 3) := by decide +kernel
theorem dX8_roof_36 : decode cX8_roof 36 = .ok (.iconst 0, 1) := by decide +kernel
theorem dX8_roof_37 : decode cX8_roof 37 = .ok (.istore_n 3, 1) := by decide +kernel
theorem dX8_roof_38 : decode cX8_roof 38 = .ok (.aload_n 0, 1) := by decide +kernel
theorem dX8_roof_39 : decode cX8_roof 39 = .ok (.invokevirtual 119, 3) := by decide +kernel
theorem dX8_roof_42 : decode cX8_roof 42 = .ok (.ifCond .ne 12, 3) := by decide +kernel
theorem dX8_roof_45 : decode cX8_roof 45 = .ok (.sipush (-1000), 3) := by decide +kernel
theorem dX8_roof_48 : decode cX8_roof 48 = .ok (.aload_n 0, 1) := by decide +kernel
theorem dX8_roof_49 : decode cX8_roof 49 = .ok (.getfield 73, 3) := by decide +kernel
theorem dX8_roof_52 : decode cX8_roof 52 = .ok (.isub, 1) := by decide +kernel
theorem dX8_roof_53 : decode cX8_roof 53 = .ok (.ireturn, 1) := by decide +kernel
theorem dX8_roof_54 : decode cX8_roof 54 = .ok (.iinc 3 1, 3) := by decide +kernel
theorem dX8_roof_57 : decode cX8_roof 57 = .ok (.aload_n 0, 1) := by decide +kernel
theorem dX8_roof_58 : decode cX8_roof 58 = .ok (.getfield 73, 3) := by decide +kernel
theorem dX8_roof_61 : decode cX8_roof 61 = .ok (.aload_n 0, 1) := by decide +kernel
theorem dX8_roof_62 : decode cX8_roof 62 = .ok (.getfield 76, 3) := by decide +kernel
theorem dX8_roof_65 : decode cX8_roof 65 = .ok (.if_icmp .lt (-27), 3) := by decide +kernel
theorem dX8_roof_68 : decode cX8_roof 68 = .ok (.iconst 0, 1) := by decide +kernel
theorem dX8_roof_69 : decode cX8_roof 69 = .ok (.istore 4, 2) := by decide +kernel
theorem dX8_roof_71 : decode cX8_roof 71 = .ok (.iload 4, 2) := by decide +kernel
theorem dX8_roof_73 : decode cX8_roof 73 = .ok (.bipush 99, 2) := by decide +kernel
theorem dX8_roof_75 : decode cX8_roof 75 = .ok (.if_icmp .ge 23, 3) := by decide +kernel
theorem dX8_roof_78 : decode cX8_roof 78 = .ok (.aload_n 0, 1) := by decide +kernel
theorem dX8_roof_79 : decode cX8_roof 79 = .ok (.getfield 16, 3) := by decide +kernel
theorem dX8_roof_82 : decode cX8_roof 82 = .ok (.iload 4, 2) := by decide +kernel
theorem dX8_roof_84 : decode cX8_roof 84 = .ok (.aload_n 0, 1) := by decide +kernel
theorem dX8_roof_85 : decode cX8_roof 85 = .ok (.getfield 9, 3) := by decide +kernel
theorem dX8_roof_88 : decode cX8_roof 88 = .ok (.iload 4, 2) := by decide +kernel
theorem dX8_roof_90 : decode cX8_roof 90 = .ok (.iaload, 1) := by decide +kernel
theorem dX8_roof_91 : decode cX8_roof 91 = .ok (.iastore, 1) := by decide +kernel
theorem dX8_roof_92 : decode cX8_roof 92 = .ok (.iinc 4 1, 3) := by decide +kernel
theorem dX8_roof_95 : decode cX8_roof 95 = .ok (.goto (-24), 3) := by decide +kernel
theorem dX8_roof_98 : decode cX8_roof 98 = .ok (.aload_n 0, 1) := by decide +kernel
theorem dX8_roof_99 : decode cX8_roof 99 = .ok (.iconst 0, 1) := by decide +kernel
theorem dX8_roof_100 : decode cX8_roof 100 = .ok (.putfield 73, 3) := by decide +kernel
theorem dX8_roof_103 : decode cX8_roof 103 = .ok (.aload_n 0, 1) := by decide +kernel
theorem dX8_roof_104 : decode cX8_roof 104 = .ok (.getfield 73, 3) := by decide +kernel
theorem dX8_roof_107 : decode cX8_roof 107 = .ok (.aload_n 0, 1) := by decide +kernel
theorem dX8_roof_108 : decode cX8_roof 108 = .ok (.getfield 76, 3) := by decide +kernel
theorem dX8_roof_111 : decode cX8_roof 111 = .ok (.if_icmp .ge 40, 3) := by decide +kernel
theorem dX8_roof_114 : decode cX8_roof 114 = .ok (.aload_n 0, 1) := by decide +kernel
theorem dX8_roof_115 : decode cX8_roof 115 = .ok (.getfield 73, 3) := by decide +kernel
theorem dX8_roof_118 : decode cX8_roof 118 = .ok (.istore 4, 2) := by decide +kernel
theorem dX8_roof_120 : decode cX8_roof 120 = .ok (.aload_n 0, 1) := by decide +kernel
theorem dX8_roof_121 : decode cX8_roof 121 = .ok (.invokevirtual 82, 3) := by decide +kernel
theorem dX8_roof_124 : decode cX8_roof 124 = .ok (.istore 5, 2) := by decide +kernel
theorem dX8_roof_126 : decode cX8_roof 126 = .ok (.aload_n 0, 1) := by decide +kernel
theorem dX8_roof_127 : decode cX8_roof 127 = .ok (.invokevirtual 119, 3) := by decide +kernel
theorem dX8_roof_130 : decode cX8_roof 130 = .ok (.istore 6, 2) := by decide +kernel
theorem dX8_roof_132 : decode cX8_roof 132 = .ok (.aload_n 0, 1) := by decide +kernel
theorem dX8_roof_133 : decode cX8_roof 133 = .ok (.iload 5, 2) := by decide +kernel
theorem dX8_roof_135 : decode cX8_roof 135 = .ok (.invokevirtual 122, 3) := by decide +kernel
theorem dX8_roof_138 : decode cX8_roof 138 = .ok (.ifCond .ne 10, 3) := by decide +kernel
theorem dX8_roof_141 : decode cX8_roof 141 = .ok (.sipush (-2000), 3) := by decide +kernel
theorem dX8_roof_144 : decode cX8_roof 144 = .ok (.iload 4, 2) := by decide +kernel
theorem dX8_roof_146 : decode cX8_roof 146 = .ok (.isub, 1) := by decide +kernel
theorem dX8_roof_147 : decode cX8_roof 147 = .ok (.ireturn, 1) := by decide +kernel
theorem dX8_roof_148 : decode cX8_roof 148 = .ok (.goto (-45), 3) := by decide +kernel
theorem dX8_roof_151 : decode cX8_roof 151 = .ok (.iconst 0, 1) := by decide +kernel
theorem dX8_roof_152 : decode cX8_roof 152 = .ok (.istore 4, 2) := by decide +kernel
theorem dX8_roof_154 : decode cX8_roof 154 = .ok (.iload 4, 2) := by decide +kernel
theorem dX8_roof_156 : decode cX8_roof 156 = .ok (.bipush 99, 2) := by decide +kernel
theorem dX8_roof_158 : decode cX8_roof 158 = .ok (.if_icmp .ge 23, 3) := by decide +kernel
theorem dX8_roof_161 : decode cX8_roof 161 = .ok (.aload_n 0, 1) := by decide +kernel
theorem dX8_roof_162 : decode cX8_roof 162 = .ok (.getfield 9, 3) := by decide +kernel
theorem dX8_roof_165 : decode cX8_roof 165 = .ok (.iload 4, 2) := by decide +kernel
theorem dX8_roof_167 : decode cX8_roof 167 = .ok (.aload_n 0, 1) := by decide +kernel
theorem dX8_roof_168 : decode cX8_roof 168 = .ok (.getfield 16, 3) := by decide +kernel
theorem dX8_roof_171 : decode cX8_roof 171 = .ok (.iload 4, 2) := by decide +kernel
theorem dX8_roof_173 : decode cX8_roof 173 = .ok (.iaload, 1) := by decide +kernel
theorem dX8_roof_174 : decode cX8_roof 174 = .ok (.iastore, 1) := by decide +kernel
theorem dX8_roof_175 : decode cX8_roof 175 = .ok (.iinc 4 1, 3) := by decide +kernel
theorem dX8_roof_178 : decode cX8_roof 178 = .ok (.goto (-24), 3) := by decide +kernel
theorem dX8_roof_181 : decode cX8_roof 181 = .ok (.iload_n 3, 1) := by decide +kernel
theorem dX8_roof_182 : decode cX8_roof 182 = .ok (.ireturn, 1) := by decide +kernel
set_option maxRecDepth 20000 in
theorem ggX8_width_X8_isWidth : GoodIn wsX8_width wsX8_isWidth := goodIn_r _ [7, 2, 8, 9, 6, 10, 11, 12, 13, 14, 15, 16, 17, 18, 19, 20, 21, 22, 23, 24, 25, 26, 27, 28, 29, 30, 31, 32, 33, 34, 35, 36, 37, 38, 39, 40, 41, 42, 43, 44, 45, 46, 47] (by decide +kernel) (by decide +kernel)
set_option maxRecDepth 20000 in
theorem gX8_width_X8_isWidth : GoodIn wsX8_width (wsV RX8 125 RX8 yX8_isWidth wsX8_isWidth) := goodIn_app (goodIn_of _ (by decide +kernel)) ggX8_width_X8_isWidth
set_option maxRecDepth 20000 in
theorem ggX8_width_X8_isIn : GoodIn wsX8_width wsX8_isIn := goodIn_r _ [10] (by decide +kernel) (by decide +kernel)
set_option maxRecDepth 20000 in
theorem gX8_width_X8_isIn : GoodIn wsX8_width (va_wsS RX8 63 yX8_isIn wsX8_isIn) := goodIn_app (goodIn_of _ (by decide +kernel)) ggX8_width_X8_isIn
theorem dX8_width_0 : decode cX8_width 0 = .ok (.aload_n 0, 1) := by decide +kernel
theorem dX8_width_1 : decode cX8_width 1 = .ok (.iload_n 1, 1) := by decide +kernel
theorem dX8_width_2 : decode cX8_width 2 = .ok (.invokevirtual 125, 3) := by decide +kernel
theorem dX8_width_5 : decode cX8_width 5 = .ok (.ifCond .eq 30, 3) := by decide +kernel
theorem dX8_width_8 : decode cX8_width 8 = .ok (.iload_n 2, 1) := by decide +kernel
theorem dX8_width_9 : decode cX8_width 9 = .ok (.i2l, 1) := by decide +kernel
theorem dX8_width_10 : decode cX8_width 10 = .ok (.lconst 0, 1) := by decide +kernel
theorem dX8_width_11 : decode cX8_width 11 = .ok (.ldc2_w 128, 3) := by decide +kernel
theorem dX8_width_14 : decode cX8_width 14 = .ok (.invokestatic 63, 3) := by decide +kernel
theorem dX8_width_17 : decode cX8_width 17 = .ok (.ifCond .eq 18, 3) := by decide +kernel
theorem dX8_width_20 : decode cX8_width 20 = .ok (.aload_n 0, 1) := by decide +kernel
theorem dX8_width_21 : decode cX8_width 21 = .ok (.getfield 9, 3) := by decide +kernel
theorem dX8_width_24 : decode cX8_width 24 = .ok (.iconst 3, 1) := by decide +kernel
theorem dX8_width_25 : decode cX8_width 25 = .ok (.iconst 3, 1) := by decide +kernel
theorem dX8_width_26 : decode cX8_width 26 = .ok (.iload_n 1, 1) := by decide +kernel
theorem dX8_width_27 : decode cX8_width 27 = .ok (.imul, 1) := by decide +kernel
theorem dX8_width_28 : decode cX8_width 28 = .ok (.iadd, 1) := by decide +kernel
theorem dX8_width_29 : decode cX8_width 29 = .ok (.iload_n 2, 1) := by decide +kernel
theorem dX8_width_30 : decode cX8_width 30 = .ok (.iadd, 1) := by decide +kernel
theorem dX8_width_31 : decode cX8_width 31 = .ok (.iaload, 1) := by decide +kernel
theorem dX8_width_32 : decode cX8_width 32 = .ok (.goto 4, 3) := by decide +kernel
theorem dX8_width_35 : decode cX8_width 35 = .ok (.iconst (-1), 1) := by decide +kernel
theorem dX8_width_36 : decode cX8_width 36 = .ok (.ireturn, 1) := by decide +kernel
theorem dX8_becomes_0 : decode cX8_becomes 0 = .ok (.aload_n 0, 1) := by decide +kernel
theorem dX8_becomes_1 : decode cX8_becomes 1 = .ok (.getfield 9, 3) := by decide +kernel
theorem dX8_becomes_4 : decode cX8_becomes 4 = .ok (.iload_n 1, 1) := by decide +kernel
theorem dX8_becomes_5 : decode cX8_becomes 5 = .ok (.iaload, 1) := by decide +kernel
theorem dX8_becomes_6 : decode cX8_becomes 6 = .ok (.istore_n 3, 1) := by decide +kernel
theorem dX8_becomes_7 : decode cX8_becomes 7 = .ok (.aload_n 0, 1) := by decide +kernel
theorem dX8_becomes_8 : decode cX8_becomes 8 = .ok (.getfield 9, 3) := by decide +kernel
theorem dX8_becomes_11 : decode cX8_becomes 11 = .ok (.iload_n 1, 1) := by decide +kernel
theorem dX8_becomes_12 : decode cX8_becomes 12 = .ok (.iload_n 2, 1) := by decide +kernel
theorem dX8_becomes_13 : decode cX8_becomes 13 = .ok (.iastore, 1) := by decide +kernel
theorem dX8_becomes_14 : decode cX8_becomes 14 = .ok (.iload_n 3, 1) := by decide +kernel
theorem dX8_becomes_15 : decode cX8_becomes 15 = .ok (.ireturn, 1) := by decide +kernel
set_option maxRecDepth 20000 in
theorem ggX8_heap_X8_isWidth : GoodIn wsX8_heap wsX8_isWidth := goodIn_r _ [6, 7, 8, 9, 5, 10, 15, 16, 17, 18, 19, 20, 21, 22, 23, 24, 25, 26, 27, 28, 29, 30, 31, 32, 33, 34, 35, 36, 37, 38, 39, 40, 41, 42, 43, 44, 45, 46, 47, 48, 49, 50, 51] (by decide +kernel) (by decide +kernel)
set_option maxRecDepth 20000 in
theorem gX8_heap_X8_isWidth : GoodIn wsX8_heap (wsV RX8 125 RX8 yX8_isWidth wsX8_isWidth) := goodIn_app (goodIn_of _ (by decide +kernel)) ggX8_heap_X8_isWidth
set_option maxRecDepth 20000 in
theorem ggX8_heap_X8_isIn : GoodIn wsX8_heap wsX8_isIn := goodIn_r _ [10] (by decide +kernel) (by decide +kernel)
set_option maxRecDepth 20000 in
theorem gX8_heap_X8_isIn : GoodIn wsX8_heap (va_wsS RX8 63 yX8_isIn wsX8_isIn) := goodIn_app (goodIn_of _ (by decide +kernel)) ggX8_heap_X8_isIn
set_option maxRecDepth 20000 in
theorem ggX8_heap_X8_becomes : GoodIn wsX8_heap wsX8_becomes := goodIn_r _ [14, 7, 15, 16, 17, 18, 19, 20, 21, 22, 23, 24, 25, 26, 27, 28, 29, 30, 31, 32, 33, 34, 35, 36, 37, 38, 39, 40, 41, 42, 43, 44, 45, 46, 47, 48, 49, 50, 51] (by decide +kernel) (by decide +kernel)
set_option maxRecDepth 20000 in
theorem gX8_heap_X8_becomes : GoodIn wsX8_heap (wsV RX8 132 RX8 yX8_becomes wsX8_becomes) := goodIn_app (goodIn_of _ (by decide +kernel)) ggX8_heap_X8_becomes
theorem dX8_heap_0 : decode cX8_heap 0 = .ok (.aload_n 0, 1) := by decide +kernel
theorem dX8_heap_1 : decode cX8_heap 1 = .ok (.iload_n 1, 1) := by decide +kernel
theorem dX8_heap_2 : decode cX8_heap 2 = .ok (.invokevirtual 125, 3) := by decide +kernel
theorem dX8_heap_5 : decode cX8_heap 5 = .ok (.ifCond .eq 30, 3) := by decide +kernel
theorem dX8_heap_8 : decode cX8_heap 8 = .ok (.iload_n 2, 1) := by decide +kernel
theorem dX8_heap_9 : decode cX8_heap 9 = .ok (.i2l, 1) := by decide +kernel
theorem dX8_heap_10 : decode cX8_heap 10 = .ok (.lconst 0, 1) := by decide +kernel
theorem dX8_heap_11 : decode cX8_heap 11 = .ok (.ldc2_w 130, 3) := by decide +kernel
theorem dX8_heap_14 : decode cX8_heap 14 = .ok (.invokestatic 63, 3) := by decide +kernel
theorem dX8_heap_17 : decode cX8_heap 17 = .ok (.ifCond .eq 18, 3) := by decide +kernel
theorem dX8_heap_20 : decode cX8_heap 20 = .ok (.aload_n 0, 1) := by decide +kernel
theorem dX8_heap_21 : decode cX8_heap 21 = .ok (.iconst 3, 1) := by decide +kernel
theorem dX8_heap_22 : decode cX8_heap 22 = .ok (.iconst 3, 1) := by decide +kernel
theorem dX8_heap_23 : decode cX8_heap 23 = .ok (.iload_n 1, 1) := by decide +kernel
theorem dX8_heap_24 : decode cX8_heap 24 = .ok (.imul, 1) := by decide +kernel
theorem dX8_heap_25 : decode cX8_heap 25 = .ok (.iadd, 1) := by decide +kernel
theorem dX8_heap_26 : decode cX8_heap 26 = .ok (.iconst 1, 1) := by decide +kernel
theorem dX8_heap_27 : decode cX8_heap 27 = .ok (.iadd, 1) := by decide +kernel
theorem dX8_heap_28 : decode cX8_heap 28 = .ok (.iload_n 2, 1) := by decide +kernel
theorem dX8_heap_29 : decode cX8_heap 29 = .ok (.invokevirtual 132, 3) := by decide +kernel
theorem dX8_heap_32 : decode cX8_heap 32 = .ok (.goto 4, 3) := by decide +kernel
theorem dX8_heap_35 : decode cX8_heap 35 = .ok (.iconst (-1), 1) := by decide +kernel
theorem dX8_heap_36 : decode cX8_heap 36 = .ok (.ireturn, 1) := by decide +kernel
set_option maxRecDepth 20000 in
theorem ggX8_lap_X8_isIn : GoodIn wsX8_lap wsX8_isIn := goodIn_r _ [5] (by decide +kernel) (by decide +kernel)
set_option maxRecDepth 20000 in
theorem gX8_lap_X8_isIn : GoodIn wsX8_lap (va_wsS RX8 63 yX8_isIn wsX8_isIn) := goodIn_app (goodIn_of _ (by decide +kernel)) ggX8_lap_X8_isIn
set_option maxRecDepth 20000 in
theorem ggX8_lap_X8_becomes : GoodIn wsX8_lap wsX8_becomes := goodIn_r _ [9, 10, 11, 12, 13, 14, 15, 16, 17, 18, 19, 20, 21, 22, 23, 24, 25, 26, 27, 28, 29, 30, 31, 32, 33, 34, 35, 36, 37, 38, 39, 40, 41, 42, 43, 44, 45, 46, 47] (by decide +kernel) (by decide +kernel)
set_option maxRecDepth 20000 in
theorem gX8_lap_X8_becomes : GoodIn wsX8_lap (wsV RX8 132 RX8 yX8_becomes wsX8_becomes) := goodIn_app (goodIn_of _ (by decide +kernel)) ggX8_lap_X8_becomes
theorem dX8_lap_0 : decode cX8_lap 0 = .ok (.iload_n 1, 1) := by decide +kernel
theorem dX8_lap_1 : decode cX8_lap 1 = .ok (.i2l, 1) := by decide +kernel
theorem dX8_lap_2 : decode cX8_lap 2 = .ok (.lconst 0, 1) := by decide +kernel
theorem dX8_lap_3 : decode cX8_lap 3 = .ok (.ldc2_w 135, 3) := by decide +kernel
theorem dX8_lap_6 : decode cX8_lap 6 = .ok (.invokestatic 63, 3) := by decide +kernel
theorem dX8_lap_9 : decode cX8_lap 9 = .ok (.ifCond .eq 12, 3) := by decide +kernel
theorem dX8_lap_12 : decode cX8_lap 12 = .ok (.aload_n 0, 1) := by decide +kernel
theorem dX8_lap_13 : decode cX8_lap 13 = .ok (.iconst 0, 1) := by decide +kernel
theorem dX8_lap_14 : decode cX8_lap 14 = .ok (.iload_n 1, 1) := by decide +kernel
theorem dX8_lap_15 : decode cX8_lap 15 = .ok (.invokevirtual 132, 3) := by decide +kernel
theorem dX8_lap_18 : decode cX8_lap 18 = .ok (.goto 4, 3) := by decide +kernel
theorem dX8_lap_21 : decode cX8_lap 21 = .ok (.iconst (-1), 1) := by decide +kernel
theorem dX8_lap_22 : decode cX8_lap 22 = .ok (.ireturn, 1) := by decide +kernel
set_option maxRecDepth 20000 in
theorem ggX8_endOf_X8_slates : GoodIn wsX8_endOf wsX8_slates := goodIn_r _ [5, 6, 15, 16, 17, 18, 19, 20, 21, 22, 23, 24, 25, 26, 27, 28, 29, 30, 31, 32, 33, 34, 35, 36, 37, 38, 39, 40, 41, 42, 43, 44, 45, 46, 47, 48, 49, 50, 51] (by decide +kernel) (by decide +kernel)
set_option maxRecDepth 20000 in
theorem gX8_endOf_X8_slates : GoodIn wsX8_endOf (wsV RX8 69 RX8 yX8_slates wsX8_slates) := goodIn_app (goodIn_of _ (by decide +kernel)) ggX8_endOf_X8_slates
set_option maxRecDepth 20000 in
theorem ggX8_endOf_X8_slateOf : GoodIn wsX8_endOf wsX8_slateOf := goodIn_r _ [10, 6, 15, 16, 17, 18, 19, 20, 21, 22, 23, 24, 25, 26, 27, 28, 29, 30, 31, 32, 33, 34, 35, 36, 37, 38, 39, 40, 41, 42, 43, 44, 45, 46, 47, 48, 49, 50, 51] (by decide +kernel) (by decide +kernel)
set_option maxRecDepth 20000 in
theorem gX8_endOf_X8_slateOf : GoodIn wsX8_endOf (wsV RX8 137 RX8 yX8_slateOf wsX8_slateOf) := goodIn_app (goodIn_of _ (by decide +kernel)) ggX8_endOf_X8_slateOf
set_option maxRecDepth 20000 in
theorem ggX8_endOf_X8_inches : GoodIn wsX8_endOf wsX8_inches := goodIn_r _ [14, 6, 15, 16, 17, 18, 19, 20, 21, 22, 23, 24, 25, 26, 27, 28, 29, 30, 31, 32, 33, 34, 35, 36, 37, 38, 39, 40, 41, 42, 43, 44, 45, 46, 47, 48, 49, 50, 51] (by decide +kernel) (by decide +kernel)
set_option maxRecDepth 20000 in
theorem gX8_endOf_X8_inches : GoodIn wsX8_endOf (wsV RX8 140 RX8 yX8_inches wsX8_inches) := goodIn_app (goodIn_of _ (by decide +kernel)) ggX8_endOf_X8_inches
theorem dX8_endOf_0 : decode cX8_endOf 0 = .ok (.iconst 0, 1) := by decide +kernel
theorem dX8_endOf_1 : decode cX8_endOf 1 = .ok (.istore_n 2, 1) := by decide +kernel
theorem dX8_endOf_2 : decode cX8_endOf 2 = .ok (.iconst 0, 1) := by decide +kernel
theorem dX8_endOf_3 : decode cX8_endOf 3 = .ok (.istore_n 3, 1) := by decide +kernel
theorem dX8_endOf_4 : decode cX8_endOf 4 = .ok (.iload_n 3, 1) := by decide +kernel
theorem dX8_endOf_5 : decode cX8_endOf 5 = .ok (.aload_n 0, 1) := by decide +kernel
theorem dX8_endOf_6 : decode cX8_endOf 6 = .ok (.iload_n 1, 1) := by decide +kernel
theorem dX8_endOf_7 : decode cX8_endOf 7 = .ok (.invokevirtual 69, 3) := by decide +kernel
theorem dX8_endOf_10 : decode cX8_endOf 10 = .ok (.if_icmp .ge 22, 3) := by decide +kernel
theorem dX8_endOf_13 : decode cX8_endOf 13 = .ok (.iload_n 2, 1) := by decide +kernel
theorem dX8_endOf_14 : decode cX8_endOf 14 = .ok (.aload_n 0, 1) := by decide +kernel
theorem dX8_endOf_15 : decode cX8_endOf 15 = .ok (.aload_n 0, 1) := by decide +kernel
theorem dX8_endOf_16 : decode cX8_endOf 16 = .ok (.iload_n 1, 1) := by decide +kernel
theorem dX8_endOf_17 : decode cX8_endOf 17 = .ok (.iload_n 3, 1) := by decide +kernel
theorem dX8_endOf_18 : decode cX8_endOf 18 = .ok (.invokevirtual 137, 3) := by decide +kernel
theorem dX8_endOf_21 : decode cX8_endOf 21 = .ok (.invokevirtual 140, 3) := by decide +kernel
theorem dX8_endOf_24 : decode cX8_endOf 24 = .ok (.iadd, 1) := by decide +kernel
theorem dX8_endOf_25 : decode cX8_endOf 25 = .ok (.istore_n 2, 1) := by decide +kernel
theorem dX8_endOf_26 : decode cX8_endOf 26 = .ok (.iinc 3 1, 3) := by decide +kernel
theorem dX8_endOf_29 : decode cX8_endOf 29 = .ok (.goto (-25), 3) := by decide +kernel
theorem dX8_endOf_32 : decode cX8_endOf 32 = .ok (.iload_n 2, 1) := by decide +kernel
theorem dX8_endOf_33 : decode cX8_endOf 33 = .ok (.ireturn, 1) := by decide +kernel
set_option maxRecDepth 20000 in
theorem ggX8_cutOf_X8_isLaid : GoodIn wsX8_cutOf wsX8_isLaid := goodIn_r _ [5, 6, 7, 8, 4, 9, 10, 27, 28, 29, 30, 31, 32, 33, 34, 35, 36, 37, 38, 39, 40, 41, 42, 43, 44, 45, 46, 47, 48, 49, 50, 51, 52, 53, 54, 55, 56, 57, 58, 59, 60, 61, 62, 63] (by decide +kernel) (by decide +kernel)
set_option maxRecDepth 20000 in
theorem gX8_cutOf_X8_isLaid : GoodIn wsX8_cutOf (wsV RX8 143 RX8 yX8_isLaid wsX8_isLaid) := goodIn_app (goodIn_of _ (by decide +kernel)) ggX8_cutOf_X8_isLaid
set_option maxRecDepth 20000 in
theorem ggX8_cutOf_X8_endOf : GoodIn wsX8_cutOf wsX8_endOf := goodIn_r _ [14, 6, 7, 8, 4, 9, 10, 15, 16, 17, 18, 19, 20, 21, 22, 27, 28, 29, 30, 31, 32, 33, 34, 35, 36, 37, 38, 39, 40, 41, 42, 43, 44, 45, 46, 47, 48, 49, 50, 51, 52, 53, 54, 55, 56, 57, 58, 59, 60, 61, 62, 63] (by decide +kernel) (by decide +kernel)
set_option maxRecDepth 20000 in
theorem gX8_cutOf_X8_endOf : GoodIn wsX8_cutOf (wsV RX8 146 RX8 yX8_endOf wsX8_endOf) := goodIn_app (goodIn_of _ (by decide +kernel)) ggX8_cutOf_X8_endOf
set_option maxRecDepth 20000 in
theorem ggX8_cutOf_X8_lengthOf : GoodIn wsX8_cutOf wsX8_lengthOf := goodIn_r _ [26, 10, 27, 28, 29, 30, 31, 32, 33, 34, 35, 36, 37, 38, 39, 40, 41, 42, 43, 44, 45, 46, 47, 48, 49, 50, 51, 52, 53, 54, 55, 56, 57, 58, 59, 60, 61, 62, 63] (by decide +kernel) (by decide +kernel)
set_option maxRecDepth 20000 in
theorem gX8_cutOf_X8_lengthOf : GoodIn wsX8_cutOf (wsV RX8 149 RX8 yX8_lengthOf wsX8_lengthOf) := goodIn_app (goodIn_of _ (by decide +kernel)) ggX8_cutOf_X8_lengthOf
theorem dX8_cutOf_0 : decode cX8_cutOf 0 = .ok (.aload_n 0, 1) := by decide +kernel
theorem dX8_cutOf_1 : decode cX8_cutOf 1 = .ok (.iload_n 1, 1) := by decide +kernel
theorem dX8_cutOf_2 : decode cX8_cutOf 2 = .ok (.invokevirtual 143, 3) := by decide +kernel
theorem dX8_cutOf_5 : decode cX8_cutOf 5 = .ok (.ifCond .eq 17, 3) := by decide +kernel
theorem dX8_cutOf_8 : decode cX8_cutOf 8 = .ok (.aload_n 0, 1) := by decide +kernel
theorem dX8_cutOf_9 : decode cX8_cutOf 9 = .ok (.iload_n 1, 1) := by decide +kernel
theorem dX8_cutOf_10 : decode cX8_cutOf 10 = .ok (.invokevirtual 146, 3) := by decide +kernel
theorem dX8_cutOf_13 : decode cX8_cutOf 13 = .ok (.aload_n 0, 1) := by decide +kernel
theorem dX8_cutOf_14 : decode cX8_cutOf 14 = .ok (.iload_n 1, 1) := by decide +kernel
theorem dX8_cutOf_15 : decode cX8_cutOf 15 = .ok (.invokevirtual 149, 3) := by decide +kernel
theorem dX8_cutOf_18 : decode cX8_cutOf 18 = .ok (.isub, 1) := by decide +kernel
theorem dX8_cutOf_19 : decode cX8_cutOf 19 = .ok (.goto 4, 3) := by decide +kernel
theorem dX8_cutOf_22 : decode cX8_cutOf 22 = .ok (.iconst 0, 1) := by decide +kernel
theorem dX8_cutOf_23 : decode cX8_cutOf 23 = .ok (.ireturn, 1) := by decide +kernel
set_option maxRecDepth 20000 in
theorem ggX8_rowOf_X8_isRow : GoodIn wsX8_rowOf wsX8_isRow := goodIn_r _ [6, 7, 8, 9, 5, 10, 39, 40, 41, 42, 43, 44, 45, 46, 47, 48, 49, 50, 51, 52, 53, 54, 55, 56, 57, 58, 59, 60, 61, 62, 63, 64, 65, 66, 67, 68, 69, 70, 71, 72, 73, 74, 75] (by decide +kernel) (by decide +kernel)
set_option maxRecDepth 20000 in
theorem gX8_rowOf_X8_isRow : GoodIn wsX8_rowOf (wsV RX8 152 RX8 yX8_isRow wsX8_isRow) := goodIn_app (goodIn_of _ (by decide +kernel)) ggX8_rowOf_X8_isRow
set_option maxRecDepth 20000 in
theorem ggX8_rowOf_X8_isIn : GoodIn wsX8_rowOf wsX8_isIn := goodIn_r _ [10] (by decide +kernel) (by decide +kernel)
set_option maxRecDepth 20000 in
theorem gX8_rowOf_X8_isIn : GoodIn wsX8_rowOf (va_wsS RX8 63 yX8_isIn wsX8_isIn) := goodIn_app (goodIn_of _ (by decide +kernel)) ggX8_rowOf_X8_isIn
set_option maxRecDepth 20000 in
theorem ggX8_rowOf_X8_lengthOf : GoodIn wsX8_rowOf wsX8_lengthOf := goodIn_r _ [14, 7, 39, 40, 41, 42, 43, 44, 45, 46, 47, 48, 49, 50, 51, 52, 53, 54, 55, 56, 57, 58, 59, 60, 61, 62, 63, 64, 65, 66, 67, 68, 69, 70, 71, 72, 73, 74, 75] (by decide +kernel) (by decide +kernel)
set_option maxRecDepth 20000 in
theorem gX8_rowOf_X8_lengthOf : GoodIn wsX8_rowOf (wsV RX8 149 RX8 yX8_lengthOf wsX8_lengthOf) := goodIn_app (goodIn_of _ (by decide +kernel)) ggX8_rowOf_X8_lengthOf
set_option maxRecDepth 20000 in
theorem ggX8_rowOf_X8_slates : GoodIn wsX8_rowOf wsX8_slates := goodIn_r _ [18, 7, 39, 40, 41, 42, 43, 44, 45, 46, 47, 48, 49, 50, 51, 52, 53, 54, 55, 56, 57, 58, 59, 60, 61, 62, 63, 64, 65, 66, 67, 68, 69, 70, 71, 72, 73, 74, 75] (by decide +kernel) (by decide +kernel)
set_option maxRecDepth 20000 in
theorem gX8_rowOf_X8_slates : GoodIn wsX8_rowOf (wsV RX8 69 RX8 yX8_slates wsX8_slates) := goodIn_app (goodIn_of _ (by decide +kernel)) ggX8_rowOf_X8_slates
set_option maxRecDepth 20000 in
theorem ggX8_rowOf_X8_cutOf : GoodIn wsX8_rowOf wsX8_cutOf := goodIn_r _ [22, 23, 24, 25, 5, 26, 15, 16, 17, 18, 7, 27, 28, 29, 30, 31, 32, 33, 34, 35, 36, 37, 38, 11, 12, 13, 14, 39, 40, 41, 42, 43, 44, 45, 46, 47, 48, 49, 50, 51, 52, 53, 54, 55, 56, 57, 58, 59, 60, 61, 62, 63, 64, 65, 66, 67, 68, 69, 70, 71, 72, 73, 74, 75] (by decide +kernel) (by decide +kernel)
set_option maxRecDepth 20000 in
theorem gX8_rowOf_X8_cutOf : GoodIn wsX8_rowOf (wsV RX8 155 RX8 yX8_cutOf wsX8_cutOf) := goodIn_app (goodIn_of _ (by decide +kernel)) ggX8_rowOf_X8_cutOf
theorem dX8_rowOf_0 : decode cX8_rowOf 0 = .ok (.aload_n 0, 1) := by decide +kernel
theorem dX8_rowOf_1 : decode cX8_rowOf 1 = .ok (.iload_n 1, 1) := by decide +kernel
theorem dX8_rowOf_2 : decode cX8_rowOf 2 = .ok (.invokevirtual 152, 3) := by decide +kernel
theorem dX8_rowOf_5 : decode cX8_rowOf 5 = .ok (.ifCond .eq 15, 3) := by decide +kernel
theorem dX8_rowOf_8 : decode cX8_rowOf 8 = .ok (.iload_n 2, 1) := by decide +kernel
theorem dX8_rowOf_9 : decode cX8_rowOf 9 = .ok (.i2l, 1) := by decide +kernel
theorem dX8_rowOf_10 : decode cX8_rowOf 10 = .ok (.lconst 0, 1) := by decide +kernel
theorem dX8_rowOf_11 : decode cX8_rowOf 11 = .ok (.ldc2_w 128, 3) := by decide +kernel
theorem dX8_rowOf_14 : decode cX8_rowOf 14 = .ok (.invokestatic 63, 3) := by decide +kernel
theorem dX8_rowOf_17 : decode cX8_rowOf 17 = .ok (.ifCond .ne 7, 3) := by decide +kernel
theorem dX8_rowOf_20 : decode cX8_rowOf 20 = .ok (.iconst (-1), 1) := by decide +kernel
theorem dX8_rowOf_21 : decode cX8_rowOf 21 = .ok (.goto 33, 3) := by decide +kernel
theorem dX8_rowOf_24 : decode cX8_rowOf 24 = .ok (.iload_n 2, 1) := by decide +kernel
theorem dX8_rowOf_25 : decode cX8_rowOf 25 = .ok (.ifCond .ne 11, 3) := by decide +kernel
theorem dX8_rowOf_28 : decode cX8_rowOf 28 = .ok (.aload_n 0, 1) := by decide +kernel
theorem dX8_rowOf_29 : decode cX8_rowOf 29 = .ok (.iload_n 1, 1) := by decide +kernel
theorem dX8_rowOf_30 : decode cX8_rowOf 30 = .ok (.invokevirtual 149, 3) := by decide +kernel
theorem dX8_rowOf_33 : decode cX8_rowOf 33 = .ok (.goto 21, 3) := by decide +kernel
theorem dX8_rowOf_36 : decode cX8_rowOf 36 = .ok (.iload_n 2, 1) := by decide +kernel
theorem dX8_rowOf_37 : decode cX8_rowOf 37 = .ok (.iconst 1, 1) := by decide +kernel
theorem dX8_rowOf_38 : decode cX8_rowOf 38 = .ok (.if_icmp .ne 11, 3) := by decide +kernel
theorem dX8_rowOf_41 : decode cX8_rowOf 41 = .ok (.aload_n 0, 1) := by decide +kernel
theorem dX8_rowOf_42 : decode cX8_rowOf 42 = .ok (.iload_n 1, 1) := by decide +kernel
theorem dX8_rowOf_43 : decode cX8_rowOf 43 = .ok (.invokevirtual 69, 3) := by decide +kernel
theorem dX8_rowOf_46 : decode cX8_rowOf 46 = .ok (.goto 8, 3) := by decide +kernel
theorem dX8_rowOf_49 : decode cX8_rowOf 49 = .ok (.aload_n 0, 1) := by decide +kernel
theorem dX8_rowOf_50 : decode cX8_rowOf 50 = .ok (.iload_n 1, 1) := by decide +kernel
theorem dX8_rowOf_51 : decode cX8_rowOf 51 = .ok (.invokevirtual 155, 3) := by decide +kernel
theorem dX8_rowOf_54 : decode cX8_rowOf 54 = .ok (.ireturn, 1) := by decide +kernel
set_option maxRecDepth 20000 in
theorem ggX8_slate_X8_isRow : GoodIn wsX8_slate wsX8_isRow := goodIn_r _ [5, 6, 7, 8, 4, 9, 18, 19, 20, 21, 22, 23, 24, 25, 26, 27, 28, 29, 30, 31, 32, 33, 34, 35, 36, 37, 38, 39, 40, 41, 42, 43, 44, 45, 46, 47, 48, 49, 50, 51, 52, 53, 54] (by decide +kernel) (by decide +kernel)
set_option maxRecDepth 20000 in
theorem gX8_slate_X8_isRow : GoodIn wsX8_slate (wsV RX8 152 RX8 yX8_isRow wsX8_isRow) := goodIn_app (goodIn_of _ (by decide +kernel)) ggX8_slate_X8_isRow
set_option maxRecDepth 20000 in
theorem ggX8_slate_X8_slates : GoodIn wsX8_slate wsX8_slates := goodIn_r _ [13, 6, 18, 19, 20, 21, 22, 23, 24, 25, 26, 27, 28, 29, 30, 31, 32, 33, 34, 35, 36, 37, 38, 39, 40, 41, 42, 43, 44, 45, 46, 47, 48, 49, 50, 51, 52, 53, 54] (by decide +kernel) (by decide +kernel)
set_option maxRecDepth 20000 in
theorem gX8_slate_X8_slates : GoodIn wsX8_slate (wsV RX8 69 RX8 yX8_slates wsX8_slates) := goodIn_app (goodIn_of _ (by decide +kernel)) ggX8_slate_X8_slates
set_option maxRecDepth 20000 in
theorem ggX8_slate_X8_slateOf : GoodIn wsX8_slate wsX8_slateOf := goodIn_r _ [17, 6, 18, 19, 20, 21, 22, 23, 24, 25, 26, 27, 28, 29, 30, 31, 32, 33, 34, 35, 36, 37, 38, 39, 40, 41, 42, 43, 44, 45, 46, 47, 48, 49, 50, 51, 52, 53, 54] (by decide +kernel) (by decide +kernel)
set_option maxRecDepth 20000 in
theorem gX8_slate_X8_slateOf : GoodIn wsX8_slate (wsV RX8 137 RX8 yX8_slateOf wsX8_slateOf) := goodIn_app (goodIn_of _ (by decide +kernel)) ggX8_slate_X8_slateOf
theorem dX8_slate_0 : decode cX8_slate 0 = .ok (.aload_n 0, 1) := by decide +kernel
theorem dX8_slate_1 : decode cX8_slate 1 = .ok (.iload_n 1, 1) := by decide +kernel
theorem dX8_slate_2 : decode cX8_slate 2 = .ok (.invokevirtual 152, 3) := by decide +kernel
theorem dX8_slate_5 : decode cX8_slate 5 = .ok (.ifCond .eq 7, 3) := by decide +kernel
theorem dX8_slate_8 : decode cX8_slate 8 = .ok (.iload_n 2, 1) := by decide +kernel
theorem dX8_slate_9 : decode cX8_slate 9 = .ok (.ifCond .ge 7, 3) := by decide +kernel
theorem dX8_slate_12 : decode cX8_slate 12 = .ok (.iconst (-1), 1) := by decide +kernel
theorem dX8_slate_13 : decode cX8_slate 13 = .ok (.goto 23, 3) := by decide +kernel
theorem dX8_slate_16 : decode cX8_slate 16 = .ok (.iload_n 2, 1) := by decide +kernel
theorem dX8_slate_17 : decode cX8_slate 17 = .ok (.aload_n 0, 1) := by decide +kernel
theorem dX8_slate_18 : decode cX8_slate 18 = .ok (.iload_n 1, 1) := by decide +kernel
theorem dX8_slate_19 : decode cX8_slate 19 = .ok (.invokevirtual 69, 3) := by decide +kernel
theorem dX8_slate_22 : decode cX8_slate 22 = .ok (.if_icmp .ge 12, 3) := by decide +kernel
theorem dX8_slate_25 : decode cX8_slate 25 = .ok (.aload_n 0, 1) := by decide +kernel
theorem dX8_slate_26 : decode cX8_slate 26 = .ok (.iload_n 1, 1) := by decide +kernel
theorem dX8_slate_27 : decode cX8_slate 27 = .ok (.iload_n 2, 1) := by decide +kernel
theorem dX8_slate_28 : decode cX8_slate 28 = .ok (.invokevirtual 137, 3) := by decide +kernel
theorem dX8_slate_31 : decode cX8_slate 31 = .ok (.goto 5, 3) := by decide +kernel
theorem dX8_slate_34 : decode cX8_slate 34 = .ok (.bipush (-4), 2) := by decide +kernel
theorem dX8_slate_36 : decode cX8_slate 36 = .ok (.ireturn, 1) := by decide +kernel
set_option maxRecDepth 20000 in
theorem ggX8_jointOf_X8_slateOf : GoodIn wsX8_jointOf wsX8_slateOf := goodIn_r _ [5, 6, 11, 12, 13, 14, 15, 16, 17, 18, 19, 20, 21, 22, 23, 24, 25, 26, 27, 28, 29, 30, 31, 32, 33, 34, 35, 36, 37, 38, 39, 40, 41, 42, 43, 44, 45, 46, 47] (by decide +kernel) (by decide +kernel)
set_option maxRecDepth 20000 in
theorem gX8_jointOf_X8_slateOf : GoodIn wsX8_jointOf (wsV RX8 137 RX8 yX8_slateOf wsX8_slateOf) := goodIn_app (goodIn_of _ (by decide +kernel)) ggX8_jointOf_X8_slateOf
set_option maxRecDepth 20000 in
theorem ggX8_jointOf_X8_inches : GoodIn wsX8_jointOf wsX8_inches := goodIn_r _ [10, 6, 11, 12, 13, 14, 15, 16, 17, 18, 19, 20, 21, 22, 23, 24, 25, 26, 27, 28, 29, 30, 31, 32, 33, 34, 35, 36, 37, 38, 39, 40, 41, 42, 43, 44, 45, 46, 47] (by decide +kernel) (by decide +kernel)
set_option maxRecDepth 20000 in
theorem gX8_jointOf_X8_inches : GoodIn wsX8_jointOf (wsV RX8 140 RX8 yX8_inches wsX8_inches) := goodIn_app (goodIn_of _ (by decide +kernel)) ggX8_jointOf_X8_inches
theorem dX8_jointOf_0 : decode cX8_jointOf 0 = .ok (.iconst 0, 1) := by decide +kernel
theorem dX8_jointOf_1 : decode cX8_jointOf 1 = .ok (.istore_n 3, 1) := by decide +kernel
theorem dX8_jointOf_2 : decode cX8_jointOf 2 = .ok (.iconst 0, 1) := by decide +kernel
theorem dX8_jointOf_3 : decode cX8_jointOf 3 = .ok (.istore 4, 2) := by decide +kernel
theorem dX8_jointOf_5 : decode cX8_jointOf 5 = .ok (.iload 4, 2) := by decide +kernel
theorem dX8_jointOf_7 : decode cX8_jointOf 7 = .ok (.iload_n 2, 1) := by decide +kernel
theorem dX8_jointOf_8 : decode cX8_jointOf 8 = .ok (.if_icmp .gt 23, 3) := by decide +kernel
theorem dX8_jointOf_11 : decode cX8_jointOf 11 = .ok (.iload_n 3, 1) := by decide +kernel
theorem dX8_jointOf_12 : decode cX8_jointOf 12 = .ok (.aload_n 0, 1) := by decide +kernel
theorem dX8_jointOf_13 : decode cX8_jointOf 13 = .ok (.aload_n 0, 1) := by decide +kernel
theorem dX8_jointOf_14 : decode cX8_jointOf 14 = .ok (.iload_n 1, 1) := by decide +kernel
theorem dX8_jointOf_15 : decode cX8_jointOf 15 = .ok (.iload 4, 2) := by decide +kernel
theorem dX8_jointOf_17 : decode cX8_jointOf 17 = .ok (.invokevirtual 137, 3) := by decide +kernel
theorem dX8_jointOf_20 : decode cX8_jointOf 20 = .ok (.invokevirtual 140, 3) := by decide +kernel
theorem dX8_jointOf_23 : decode cX8_jointOf 23 = .ok (.iadd, 1) := by decide +kernel
theorem dX8_jointOf_24 : decode cX8_jointOf 24 = .ok (.istore_n 3, 1) := by decide +kernel
theorem dX8_jointOf_25 : decode cX8_jointOf 25 = .ok (.iinc 4 1, 3) := by decide +kernel
theorem dX8_jointOf_28 : decode cX8_jointOf 28 = .ok (.goto (-23), 3) := by decide +kernel
theorem dX8_jointOf_31 : decode cX8_jointOf 31 = .ok (.iload_n 3, 1) := by decide +kernel
theorem dX8_jointOf_32 : decode cX8_jointOf 32 = .ok (.ireturn, 1) := by decide +kernel
set_option maxRecDepth 20000 in
theorem ggX8_joint_X8_isRow : GoodIn wsX8_joint wsX8_isRow := goodIn_r _ [5, 6, 7, 8, 4, 9, 26, 27, 28, 29, 30, 31, 32, 33, 34, 35, 36, 37, 38, 39, 40, 41, 42, 43, 44, 45, 46, 47, 48, 49, 50, 51, 52, 53, 54, 55, 56, 57, 58, 59, 60, 61, 62] (by decide +kernel) (by decide +kernel)
set_option maxRecDepth 20000 in
theorem gX8_joint_X8_isRow : GoodIn wsX8_joint (wsV RX8 152 RX8 yX8_isRow wsX8_isRow) := goodIn_app (goodIn_of _ (by decide +kernel)) ggX8_joint_X8_isRow
set_option maxRecDepth 20000 in
theorem ggX8_joint_X8_slates : GoodIn wsX8_joint wsX8_slates := goodIn_r _ [13, 6, 26, 27, 28, 29, 30, 31, 32, 33, 34, 35, 36, 37, 38, 39, 40, 41, 42, 43, 44, 45, 46, 47, 48, 49, 50, 51, 52, 53, 54, 55, 56, 57, 58, 59, 60, 61, 62] (by decide +kernel) (by decide +kernel)
set_option maxRecDepth 20000 in
theorem gX8_joint_X8_slates : GoodIn wsX8_joint (wsV RX8 69 RX8 yX8_slates wsX8_slates) := goodIn_app (goodIn_of _ (by decide +kernel)) ggX8_joint_X8_slates
set_option maxRecDepth 20000 in
theorem ggX8_joint_X8_jointOf : GoodIn wsX8_joint wsX8_jointOf := goodIn_r _ [17, 18, 19, 20, 4, 21, 6, 22, 23, 24, 25, 26, 27, 28, 29, 30, 31, 32, 33, 34, 35, 36, 37, 38, 39, 40, 41, 42, 43, 44, 45, 46, 47, 48, 49, 50, 51, 52, 53, 54, 55, 56, 57, 58, 59, 60, 61, 62] (by decide +kernel) (by decide +kernel)
set_option maxRecDepth 20000 in
theorem gX8_joint_X8_jointOf : GoodIn wsX8_joint (wsV RX8 158 RX8 yX8_jointOf wsX8_jointOf) := goodIn_app (goodIn_of _ (by decide +kernel)) ggX8_joint_X8_jointOf
theorem dX8_joint_0 : decode cX8_joint 0 = .ok (.aload_n 0, 1) := by decide +kernel
theorem dX8_joint_1 : decode cX8_joint 1 = .ok (.iload_n 1, 1) := by decide +kernel
theorem dX8_joint_2 : decode cX8_joint 2 = .ok (.invokevirtual 152, 3) := by decide +kernel
theorem dX8_joint_5 : decode cX8_joint 5 = .ok (.ifCond .eq 7, 3) := by decide +kernel
theorem dX8_joint_8 : decode cX8_joint 8 = .ok (.iload_n 2, 1) := by decide +kernel
theorem dX8_joint_9 : decode cX8_joint 9 = .ok (.ifCond .ge 7, 3) := by decide +kernel
theorem dX8_joint_12 : decode cX8_joint 12 = .ok (.iconst (-1), 1) := by decide +kernel
theorem dX8_joint_13 : decode cX8_joint 13 = .ok (.goto 25, 3) := by decide +kernel
theorem dX8_joint_16 : decode cX8_joint 16 = .ok (.iload_n 2, 1) := by decide +kernel
theorem dX8_joint_17 : decode cX8_joint 17 = .ok (.aload_n 0, 1) := by decide +kernel
theorem dX8_joint_18 : decode cX8_joint 18 = .ok (.iload_n 1, 1) := by decide +kernel
theorem dX8_joint_19 : decode cX8_joint 19 = .ok (.invokevirtual 69, 3) := by decide +kernel
theorem dX8_joint_22 : decode cX8_joint 22 = .ok (.iconst 1, 1) := by decide +kernel
theorem dX8_joint_23 : decode cX8_joint 23 = .ok (.isub, 1) := by decide +kernel
theorem dX8_joint_24 : decode cX8_joint 24 = .ok (.if_icmp .ge 12, 3) := by decide +kernel
theorem dX8_joint_27 : decode cX8_joint 27 = .ok (.aload_n 0, 1) := by decide +kernel
theorem dX8_joint_28 : decode cX8_joint 28 = .ok (.iload_n 1, 1) := by decide +kernel
theorem dX8_joint_29 : decode cX8_joint 29 = .ok (.iload_n 2, 1) := by decide +kernel
theorem dX8_joint_30 : decode cX8_joint 30 = .ok (.invokevirtual 158, 3) := by decide +kernel
theorem dX8_joint_33 : decode cX8_joint 33 = .ok (.goto 5, 3) := by decide +kernel
theorem dX8_joint_36 : decode cX8_joint 36 = .ok (.bipush (-4), 2) := by decide +kernel
theorem dX8_joint_38 : decode cX8_joint 38 = .ok (.ireturn, 1) := by decide +kernel
set_option maxRecDepth 20000 in
theorem ggX8_mayBe_X8_slates : GoodIn wsX8_mayBe wsX8_slates := goodIn_r _ [6, 1, 19, 20, 21, 22, 23, 24, 25, 26, 27, 28, 29, 30, 31, 32, 33, 34, 35, 36, 37, 38, 39, 40, 41, 42, 43, 44, 45, 46, 47, 48, 49, 50, 51, 52, 53, 54, 55] (by decide +kernel) (by decide +kernel)
set_option maxRecDepth 20000 in
theorem gX8_mayBe_X8_slates : GoodIn wsX8_mayBe (wsV RX8 69 RX8 yX8_slates wsX8_slates) := goodIn_app (goodIn_of _ (by decide +kernel)) ggX8_mayBe_X8_slates
set_option maxRecDepth 20000 in
theorem ggX8_mayBe_X8_jointOf : GoodIn wsX8_mayBe wsX8_jointOf := goodIn_r _ [10, 11, 12, 13, 5, 14, 1, 15, 16, 17, 18, 19, 20, 21, 22, 23, 24, 25, 26, 27, 28, 29, 30, 31, 32, 33, 34, 35, 36, 37, 38, 39, 40, 41, 42, 43, 44, 45, 46, 47, 48, 49, 50, 51, 52, 53, 54, 55] (by decide +kernel) (by decide +kernel)
set_option maxRecDepth 20000 in
theorem gX8_mayBe_X8_jointOf : GoodIn wsX8_mayBe (wsV RX8 158 RX8 yX8_jointOf wsX8_jointOf) := goodIn_app (goodIn_of _ (by decide +kernel)) ggX8_mayBe_X8_jointOf
theorem dX8_mayBe_0 : decode cX8_mayBe 0 = .ok (.iload_n 1, 1) := by decide +kernel
theorem dX8_mayBe_1 : decode cX8_mayBe 1 = .ok (.ifCond .ne 5, 3) := by decide +kernel
theorem dX8_mayBe_4 : decode cX8_mayBe 4 = .ok (.iconst 1, 1) := by decide +kernel
theorem dX8_mayBe_5 : decode cX8_mayBe 5 = .ok (.ireturn, 1) := by decide +kernel
theorem dX8_mayBe_6 : decode cX8_mayBe 6 = .ok (.iconst 0, 1) := by decide +kernel
theorem dX8_mayBe_7 : decode cX8_mayBe 7 = .ok (.istore_n 3, 1) := by decide +kernel
theorem dX8_mayBe_8 : decode cX8_mayBe 8 = .ok (.iload_n 3, 1) := by decide +kernel
theorem dX8_mayBe_9 : decode cX8_mayBe 9 = .ok (.aload_n 0, 1) := by decide +kernel
theorem dX8_mayBe_10 : decode cX8_mayBe 10 = .ok (.iload_n 1, 1) := by decide +kernel
theorem dX8_mayBe_11 : decode cX8_mayBe 11 = .ok (.iconst 1, 1) := by decide +kernel
theorem dX8_mayBe_12 : decode cX8_mayBe 12 = .ok (.isub, 1) := by decide +kernel
theorem dX8_mayBe_13 : decode cX8_mayBe 13 = .ok (.invokevirtual 69, 3) := by decide +kernel
theorem dX8_mayBe_16 : decode cX8_mayBe 16 = .ok (.iconst 1, 1) := by decide +kernel
theorem dX8_mayBe_17 : decode cX8_mayBe 17 = .ok (.isub, 1) := by decide +kernel
theorem dX8_mayBe_18 : decode cX8_mayBe 18 = .ok (.if_icmp .ge 45, 3) := by decide +kernel
theorem dX8_mayBe_21 : decode cX8_mayBe 21 = .ok (.iload_n 2, 1) := by decide +kernel
theorem dX8_mayBe_22 : decode cX8_mayBe 22 = .ok (.aload_n 0, 1) := by decide +kernel
theorem dX8_mayBe_23 : decode cX8_mayBe 23 = .ok (.iload_n 1, 1) := by decide +kernel
theorem dX8_mayBe_24 : decode cX8_mayBe 24 = .ok (.iconst 1, 1) := by decide +kernel
theorem dX8_mayBe_25 : decode cX8_mayBe 25 = .ok (.isub, 1) := by decide +kernel
theorem dX8_mayBe_26 : decode cX8_mayBe 26 = .ok (.iload_n 3, 1) := by decide +kernel
theorem dX8_mayBe_27 : decode cX8_mayBe 27 = .ok (.invokevirtual 158, 3) := by decide +kernel
theorem dX8_mayBe_30 : decode cX8_mayBe 30 = .ok (.isub, 1) := by decide +kernel
theorem dX8_mayBe_31 : decode cX8_mayBe 31 = .ok (.istore 4, 2) := by decide +kernel
theorem dX8_mayBe_33 : decode cX8_mayBe 33 = .ok (.iload 4, 2) := by decide +kernel
theorem dX8_mayBe_35 : decode cX8_mayBe 35 = .ok (.ifCond .ge 9, 3) := by decide +kernel
theorem dX8_mayBe_38 : decode cX8_mayBe 38 = .ok (.iload 4, 2) := by decide +kernel
theorem dX8_mayBe_40 : decode cX8_mayBe 40 = .ok (.ineg, 1) := by decide +kernel
theorem dX8_mayBe_41 : decode cX8_mayBe 41 = .ok (.goto 5, 3) := by decide +kernel
theorem dX8_mayBe_44 : decode cX8_mayBe 44 = .ok (.iload 4, 2) := by decide +kernel
theorem dX8_mayBe_46 : decode cX8_mayBe 46 = .ok (.aload_n 0, 1) := by decide +kernel
theorem dX8_mayBe_47 : decode cX8_mayBe 47 = .ok (.getfield 9, 3) := by decide +kernel
theorem dX8_mayBe_50 : decode cX8_mayBe 50 = .ok (.iconst 0, 1) := by decide +kernel
theorem dX8_mayBe_51 : decode cX8_mayBe 51 = .ok (.iaload, 1) := by decide +kernel
theorem dX8_mayBe_52 : decode cX8_mayBe 52 = .ok (.if_icmp .ge 5, 3) := by decide +kernel
theorem dX8_mayBe_55 : decode cX8_mayBe 55 = .ok (.iconst 0, 1) := by decide +kernel
theorem dX8_mayBe_56 : decode cX8_mayBe 56 = .ok (.ireturn, 1) := by decide +kernel
theorem dX8_mayBe_57 : decode cX8_mayBe 57 = .ok (.iinc 3 1, 3) := by decide +kernel
theorem dX8_mayBe_60 : decode cX8_mayBe 60 = .ok (.goto (-52), 3) := by decide +kernel
theorem dX8_mayBe_63 : decode cX8_mayBe 63 = .ok (.iconst 1, 1) := by decide +kernel
theorem dX8_mayBe_64 : decode cX8_mayBe 64 = .ok (.ireturn, 1) := by decide +kernel
set_option maxRecDepth 20000 in
theorem ggX8_may_X8_isRow : GoodIn wsX8_may wsX8_isRow := goodIn_r _ [5, 6, 7, 8, 4, 9, 34, 35, 36, 37, 38, 39, 40, 41, 42, 43, 44, 45, 46, 47, 48, 49, 50, 51, 52, 53, 54, 55, 56, 57, 58, 59, 60, 61, 62, 63, 64, 65, 66, 67, 68, 69, 70] (by decide +kernel) (by decide +kernel)
set_option maxRecDepth 20000 in
theorem gX8_may_X8_isRow : GoodIn wsX8_may (wsV RX8 152 RX8 yX8_isRow wsX8_isRow) := goodIn_app (goodIn_of _ (by decide +kernel)) ggX8_may_X8_isRow
set_option maxRecDepth 20000 in
theorem ggX8_may_X8_lengthOf : GoodIn wsX8_may wsX8_lengthOf := goodIn_r _ [13, 6, 34, 35, 36, 37, 38, 39, 40, 41, 42, 43, 44, 45, 46, 47, 48, 49, 50, 51, 52, 53, 54, 55, 56, 57, 58, 59, 60, 61, 62, 63, 64, 65, 66, 67, 68, 69, 70] (by decide +kernel) (by decide +kernel)
set_option maxRecDepth 20000 in
theorem gX8_may_X8_lengthOf : GoodIn wsX8_may (wsV RX8 149 RX8 yX8_lengthOf wsX8_lengthOf) := goodIn_app (goodIn_of _ (by decide +kernel)) ggX8_may_X8_lengthOf
set_option maxRecDepth 20000 in
theorem ggX8_may_X8_isIn : GoodIn wsX8_may wsX8_isIn := goodIn_r _ [9] (by decide +kernel) (by decide +kernel)
set_option maxRecDepth 20000 in
theorem gX8_may_X8_isIn : GoodIn wsX8_may (va_wsS RX8 63 yX8_isIn wsX8_isIn) := goodIn_app (goodIn_of _ (by decide +kernel)) ggX8_may_X8_isIn
set_option maxRecDepth 20000 in
theorem ggX8_may_X8_mayBe : GoodIn wsX8_may wsX8_mayBe := goodIn_r _ [17, 6, 18, 19, 20, 4, 21, 22, 23, 24, 25, 26, 27, 28, 29, 30, 31, 32, 33, 34, 35, 36, 37, 38, 39, 40, 41, 42, 43, 44, 45, 46, 47, 48, 49, 50, 51, 52, 53, 54, 55, 56, 57, 58, 59, 60, 61, 62, 63, 64, 65, 66, 67, 68, 69, 70] (by decide +kernel) (by decide +kernel)
set_option maxRecDepth 20000 in
theorem gX8_may_X8_mayBe : GoodIn wsX8_may (wsV RX8 161 RX8 yX8_mayBe wsX8_mayBe) := goodIn_app (goodIn_of _ (by decide +kernel)) ggX8_may_X8_mayBe
theorem dX8_may_0 : decode cX8_may 0 = .ok (.aload_n 0, 1) := by decide +kernel
theorem dX8_may_1 : decode cX8_may 1 = .ok (.iload_n 1, 1) := by decide +kernel
theorem dX8_may_2 : decode cX8_may 2 = .ok (.invokevirtual 152, 3) := by decide +kernel
theorem dX8_may_5 : decode cX8_may 5 = .ok (.ifCond .eq 20, 3) := by decide +kernel
theorem dX8_may_8 : decode cX8_may 8 = .ok (.iload_n 2, 1) := by decide +kernel
theorem dX8_may_9 : decode cX8_may 9 = .ok (.i2l, 1) := by decide +kernel
theorem dX8_may_10 : decode cX8_may 10 = .ok (.lconst 1, 1) := by decide +kernel
theorem dX8_may_11 : decode cX8_may 11 = .ok (.aload_n 0, 1) := by decide +kernel
theorem dX8_may_12 : decode cX8_may 12 = .ok (.iload_n 1, 1) := by decide +kernel
theorem dX8_may_13 : decode cX8_may 13 = .ok (.invokevirtual 149, 3) := by decide +kernel
theorem dX8_may_16 : decode cX8_may 16 = .ok (.iconst 1, 1) := by decide +kernel
theorem dX8_may_17 : decode cX8_may 17 = .ok (.isub, 1) := by decide +kernel
theorem dX8_may_18 : decode cX8_may 18 = .ok (.i2l, 1) := by decide +kernel
theorem dX8_may_19 : decode cX8_may 19 = .ok (.invokestatic 63, 3) := by decide +kernel
theorem dX8_may_22 : decode cX8_may 22 = .ok (.ifCond .ne 7, 3) := by decide +kernel
theorem dX8_may_25 : decode cX8_may 25 = .ok (.iconst (-1), 1) := by decide +kernel
theorem dX8_may_26 : decode cX8_may 26 = .ok (.goto 17, 3) := by decide +kernel
theorem dX8_may_29 : decode cX8_may 29 = .ok (.aload_n 0, 1) := by decide +kernel
theorem dX8_may_30 : decode cX8_may 30 = .ok (.iload_n 1, 1) := by decide +kernel
theorem dX8_may_31 : decode cX8_may 31 = .ok (.iload_n 2, 1) := by decide +kernel
theorem dX8_may_32 : decode cX8_may 32 = .ok (.invokevirtual 161, 3) := by decide +kernel
theorem dX8_may_35 : decode cX8_may 35 = .ok (.ifCond .eq 7, 3) := by decide +kernel
theorem dX8_may_38 : decode cX8_may 38 = .ok (.iconst 1, 1) := by decide +kernel
theorem dX8_may_39 : decode cX8_may 39 = .ok (.goto 4, 3) := by decide +kernel
theorem dX8_may_42 : decode cX8_may 42 = .ok (.iconst 0, 1) := by decide +kernel
theorem dX8_may_43 : decode cX8_may 43 = .ok (.ireturn, 1) := by decide +kernel
set_option maxRecDepth 20000 in
theorem ggX8_judgeOf_X8_lengthOf : GoodIn wsX8_judgeOf wsX8_lengthOf := goodIn_r _ [8, 9, 41, 42, 43, 44, 45, 46, 47, 48, 49, 50, 51, 52, 53, 54, 55, 56, 57, 58, 59, 60, 61, 62, 63, 64, 65, 66, 67, 68, 69, 70, 71, 72, 73, 74, 75, 76, 77] (by decide +kernel) (by decide +kernel)
set_option maxRecDepth 20000 in
theorem gX8_judgeOf_X8_lengthOf : GoodIn wsX8_judgeOf (wsV RX8 149 RX8 yX8_lengthOf wsX8_lengthOf) := goodIn_app (goodIn_of _ (by decide +kernel)) ggX8_judgeOf_X8_lengthOf
set_option maxRecDepth 20000 in
theorem ggX8_judgeOf_X8_isWidth : GoodIn wsX8_judgeOf wsX8_isWidth := goodIn_r _ [13, 9, 14, 15, 7, 16, 41, 42, 43, 44, 45, 46, 47, 48, 49, 50, 51, 52, 53, 54, 55, 56, 57, 58, 59, 60, 61, 62, 63, 64, 65, 66, 67, 68, 69, 70, 71, 72, 73, 74, 75, 76, 77] (by decide +kernel) (by decide +kernel)
set_option maxRecDepth 20000 in
theorem gX8_judgeOf_X8_isWidth : GoodIn wsX8_judgeOf (wsV RX8 125 RX8 yX8_isWidth wsX8_isWidth) := goodIn_app (goodIn_of _ (by decide +kernel)) ggX8_judgeOf_X8_isWidth
set_option maxRecDepth 20000 in
theorem ggX8_judgeOf_X8_many : GoodIn wsX8_judgeOf wsX8_many := goodIn_r _ [20, 9, 41, 42, 43, 44, 45, 46, 47, 48, 49, 50, 51, 52, 53, 54, 55, 56, 57, 58, 59, 60, 61, 62, 63, 64, 65, 66, 67, 68, 69, 70, 71, 72, 73, 74, 75, 76, 77] (by decide +kernel) (by decide +kernel)
set_option maxRecDepth 20000 in
theorem gX8_judgeOf_X8_many : GoodIn wsX8_judgeOf (wsV RX8 165 RX8 yX8_many wsX8_many) := goodIn_app (goodIn_of _ (by decide +kernel)) ggX8_judgeOf_X8_many
set_option maxRecDepth 20000 in
theorem ggX8_judgeOf_X8_inches : GoodIn wsX8_judgeOf wsX8_inches := goodIn_r _ [24, 9, 41, 42, 43, 44, 45, 46, 47, 48, 49, 50, 51, 52, 53, 54, 55, 56, 57, 58, 59, 60, 61, 62, 63, 64, 65, 66, 67, 68, 69, 70, 71, 72, 73, 74, 75, 76, 77] (by decide +kernel) (by decide +kernel)
set_option maxRecDepth 20000 in
theorem gX8_judgeOf_X8_inches : GoodIn wsX8_judgeOf (wsV RX8 140 RX8 yX8_inches wsX8_inches) := goodIn_app (goodIn_of _ (by decide +kernel)) ggX8_judgeOf_X8_inches
set_option maxRecDepth 20000 in
theorem ggX8_judgeOf_X8_mayBe : GoodIn wsX8_judgeOf wsX8_mayBe := goodIn_r _ [28, 9, 29, 30, 31, 7, 32, 33, 34, 35, 36, 37, 38, 39, 40, 21, 22, 23, 24, 41, 42, 43, 44, 45, 46, 47, 48, 49, 50, 51, 52, 53, 54, 55, 56, 57, 58, 59, 60, 61, 62, 63, 64, 65, 66, 67, 68, 69, 70, 71, 72, 73, 74, 75, 76, 77] (by decide +kernel) (by decide +kernel)
set_option maxRecDepth 20000 in
theorem gX8_judgeOf_X8_mayBe : GoodIn wsX8_judgeOf (wsV RX8 161 RX8 yX8_mayBe wsX8_mayBe) := goodIn_app (goodIn_of _ (by decide +kernel)) ggX8_judgeOf_X8_mayBe
theorem dX8_judgeOf_0 : decode cX8_judgeOf 0 = .ok (.iconst 0, 1) := by decide +kernel
theorem dX8_judgeOf_1 : decode cX8_judgeOf 1 = .ok (.istore_n 3, 1) := by decide +kernel
theorem dX8_judgeOf_2 : decode cX8_judgeOf 2 = .ok (.iload_n 3, 1) := by decide +kernel
theorem dX8_judgeOf_3 : decode cX8_judgeOf 3 = .ok (.iconst 4, 1) := by decide +kernel
theorem dX8_judgeOf_4 : decode cX8_judgeOf 4 = .ok (.if_icmp .ge 16, 3) := by decide +kernel
theorem dX8_judgeOf_7 : decode cX8_judgeOf 7 = .ok (.aload_n 0, 1) := by decide +kernel
theorem dX8_judgeOf_8 : decode cX8_judgeOf 8 = .ok (.getfield 43, 3) := by decide +kernel
theorem dX8_judgeOf_11 : decode cX8_judgeOf 11 = .ok (.iload_n 3, 1) := by decide +kernel
theorem dX8_judgeOf_12 : decode cX8_judgeOf 12 = .ok (.iconst 0, 1) := by decide +kernel
theorem dX8_judgeOf_13 : decode cX8_judgeOf 13 = .ok (.iastore, 1) := by decide +kernel
theorem dX8_judgeOf_14 : decode cX8_judgeOf 14 = .ok (.iinc 3 1, 3) := by decide +kernel
theorem dX8_judgeOf_17 : decode cX8_judgeOf 17 = .ok (.goto (-15), 3) := by decide +kernel
theorem dX8_judgeOf_20 : decode cX8_judgeOf 20 = .ok (.iconst 0, 1) := by decide +kernel
theorem dX8_judgeOf_21 : decode cX8_judgeOf 21 = .ok (.istore_n 3, 1) := by decide +kernel
theorem dX8_judgeOf_22 : decode cX8_judgeOf 22 = .ok (.iconst 0, 1) := by decide +kernel
theorem dX8_judgeOf_23 : decode cX8_judgeOf 23 = .ok (.istore 4, 2) := by decide +kernel
theorem dX8_judgeOf_25 : decode cX8_judgeOf 25 = .ok (.iload 4, 2) := by decide +kernel
theorem dX8_judgeOf_27 : decode cX8_judgeOf 27 = .ok (.aload_n 0, 1) := by decide +kernel
theorem dX8_judgeOf_28 : decode cX8_judgeOf 28 = .ok (.getfield 28, 3) := by decide +kernel
theorem dX8_judgeOf_31 : decode cX8_judgeOf 31 = .ok (.iload_n 2, 1) := by decide +kernel
theorem dX8_judgeOf_32 : decode cX8_judgeOf 32 = .ok (.iaload, 1) := by decide +kernel
theorem dX8_judgeOf_33 : decode cX8_judgeOf 33 = .ok (.if_icmp .ge 101, 3) := by decide +kernel
theorem dX8_judgeOf_36 : decode cX8_judgeOf 36 = .ok (.aload_n 0, 1) := by decide +kernel
theorem dX8_judgeOf_37 : decode cX8_judgeOf 37 = .ok (.getfield 31, 3) := by decide +kernel
theorem dX8_judgeOf_40 : decode cX8_judgeOf 40 = .ok (.bipush 100, 2) := by decide +kernel
theorem dX8_judgeOf_42 : decode cX8_judgeOf 42 = .ok (.iload_n 2, 1) := by decide +kernel
theorem dX8_judgeOf_43 : decode cX8_judgeOf 43 = .ok (.imul, 1) := by decide +kernel
theorem dX8_judgeOf_44 : decode cX8_judgeOf 44 = .ok (.iload 4, 2) := by decide +kernel
theorem dX8_judgeOf_46 : decode cX8_judgeOf 46 = .ok (.iadd, 1) := by decide +kernel
theorem dX8_judgeOf_47 : decode cX8_judgeOf 47 = .ok (.iaload, 1) := by decide +kernel
theorem dX8_judgeOf_48 : decode cX8_judgeOf 48 = .ok (.istore 5, 2) := by decide +kernel
theorem dX8_judgeOf_50 : decode cX8_judgeOf 50 = .ok (.iload_n 3, 1) := by decide +kernel
theorem dX8_judgeOf_51 : decode cX8_judgeOf 51 = .ok (.aload_n 0, 1) := by decide +kernel
theorem dX8_judgeOf_52 : decode cX8_judgeOf 52 = .ok (.iload_n 1, 1) := by decide +kernel
theorem dX8_judgeOf_53 : decode cX8_judgeOf 53 = .ok (.invokevirtual 149, 3) := by decide +kernel
theorem dX8_judgeOf_56 : decode cX8_judgeOf 56 = .ok (.if_icmp .ge 28, 3) := by decide +kernel
theorem dX8_judgeOf_59 : decode cX8_judgeOf 59 = .ok (.aload_n 0, 1) := by decide +kernel
theorem dX8_judgeOf_60 : decode cX8_judgeOf 60 = .ok (.iload 5, 2) := by decide +kernel
theorem dX8_judgeOf_62 : decode cX8_judgeOf 62 = .ok (.invokevirtual 125, 3) := by decide +kernel
theorem dX8_judgeOf_65 : decode cX8_judgeOf 65 = .ok (.ifCond .eq 19, 3) := by decide +kernel
theorem dX8_judgeOf_68 : decode cX8_judgeOf 68 = .ok (.aload_n 0, 1) := by decide +kernel
theorem dX8_judgeOf_69 : decode cX8_judgeOf 69 = .ok (.getfield 43, 3) := by decide +kernel
theorem dX8_judgeOf_72 : decode cX8_judgeOf 72 = .ok (.iload 5, 2) := by decide +kernel
theorem dX8_judgeOf_74 : decode cX8_judgeOf 74 = .ok (.iaload, 1) := by decide +kernel
theorem dX8_judgeOf_75 : decode cX8_judgeOf 75 = .ok (.aload_n 0, 1) := by decide +kernel
theorem dX8_judgeOf_76 : decode cX8_judgeOf 76 = .ok (.iload 5, 2) := by decide +kernel
theorem dX8_judgeOf_78 : decode cX8_judgeOf 78 = .ok (.invokevirtual 165, 3) := by decide +kernel
theorem dX8_judgeOf_81 : decode cX8_judgeOf 81 = .ok (.if_icmp .ne 6, 3) := by decide +kernel
theorem dX8_judgeOf_84 : decode cX8_judgeOf 84 = .ok (.iload 4, 2) := by decide +kernel
theorem dX8_judgeOf_86 : decode cX8_judgeOf 86 = .ok (.ireturn, 1) := by decide +kernel
theorem dX8_judgeOf_87 : decode cX8_judgeOf 87 = .ok (.aload_n 0, 1) := by decide +kernel
theorem dX8_judgeOf_88 : decode cX8_judgeOf 88 = .ok (.getfield 43, 3) := by decide +kernel
theorem dX8_judgeOf_91 : decode cX8_judgeOf 91 = .ok (.iload 5, 2) := by decide +kernel
theorem dX8_judgeOf_93 : decode cX8_judgeOf 93 = .ok (.dup2, 1) := by decide +kernel
theorem dX8_judgeOf_94 : decode cX8_judgeOf 94 = .ok (.iaload, 1) := by decide +kernel
theorem dX8_judgeOf_95 : decode cX8_judgeOf 95 = .ok (.iconst 1, 1) := by decide +kernel
theorem dX8_judgeOf_96 : decode cX8_judgeOf 96 = .ok (.iadd, 1) := by decide +kernel
theorem dX8_judgeOf_97 : decode cX8_judgeOf 97 = .ok (.iastore, 1) := by decide +kernel
theorem dX8_judgeOf_98 : decode cX8_judgeOf 98 = .ok (.iload_n 3, 1) := by decide +kernel
theorem dX8_judgeOf_99 : decode cX8_judgeOf 99 = .ok (.aload_n 0, 1) := by decide +kernel
theorem dX8_judgeOf_100 : decode cX8_judgeOf 100 = .ok (.iload 5, 2) := by decide +kernel
theorem dX8_judgeOf_102 : decode cX8_judgeOf 102 = .ok (.invokevirtual 140, 3) := by decide +kernel
theorem dX8_judgeOf_105 : decode cX8_judgeOf 105 = .ok (.iadd, 1) := by decide +kernel
theorem dX8_judgeOf_106 : decode cX8_judgeOf 106 = .ok (.istore_n 3, 1) := by decide +kernel
theorem dX8_judgeOf_107 : decode cX8_judgeOf 107 = .ok (.iload_n 3, 1) := by decide +kernel
theorem dX8_judgeOf_108 : decode cX8_judgeOf 108 = .ok (.aload_n 0, 1) := by decide +kernel
theorem dX8_judgeOf_109 : decode cX8_judgeOf 109 = .ok (.iload_n 1, 1) := by decide +kernel
theorem dX8_judgeOf_110 : decode cX8_judgeOf 110 = .ok (.invokevirtual 149, 3) := by decide +kernel
theorem dX8_judgeOf_113 : decode cX8_judgeOf 113 = .ok (.if_icmp .ge 15, 3) := by decide +kernel
theorem dX8_judgeOf_116 : decode cX8_judgeOf 116 = .ok (.aload_n 0, 1) := by decide +kernel
theorem dX8_judgeOf_117 : decode cX8_judgeOf 117 = .ok (.iload_n 1, 1) := by decide +kernel
theorem dX8_judgeOf_118 : decode cX8_judgeOf 118 = .ok (.iload_n 3, 1) := by decide +kernel
theorem dX8_judgeOf_119 : decode cX8_judgeOf 119 = .ok (.invokevirtual 161, 3) := by decide +kernel
theorem dX8_judgeOf_122 : decode cX8_judgeOf 122 = .ok (.ifCond .ne 6, 3) := by decide +kernel
theorem dX8_judgeOf_125 : decode cX8_judgeOf 125 = .ok (.iload 4, 2) := by decide +kernel
theorem dX8_judgeOf_127 : decode cX8_judgeOf 127 = .ok (.ireturn, 1) := by decide +kernel
theorem dX8_judgeOf_128 : decode cX8_judgeOf 128 = .ok (.iinc 4 1, 3) := by decide +kernel
theorem dX8_judgeOf_131 : decode cX8_judgeOf 131 = .ok (.goto (-106), 3) := by decide +kernel
theorem dX8_judgeOf_134 : decode cX8_judgeOf 134 = .ok (.iload_n 3, 1) := by decide +kernel
theorem dX8_judgeOf_135 : decode cX8_judgeOf 135 = .ok (.aload_n 0, 1) := by decide +kernel
theorem dX8_judgeOf_136 : decode cX8_judgeOf 136 = .ok (.iload_n 1, 1) := by decide +kernel
theorem dX8_judgeOf_137 : decode cX8_judgeOf 137 = .ok (.invokevirtual 149, 3) := by decide +kernel
theorem dX8_judgeOf_140 : decode cX8_judgeOf 140 = .ok (.if_icmp .ge 12, 3) := by decide +kernel
theorem dX8_judgeOf_143 : decode cX8_judgeOf 143 = .ok (.aload_n 0, 1) := by decide +kernel
theorem dX8_judgeOf_144 : decode cX8_judgeOf 144 = .ok (.getfield 28, 3) := by decide +kernel
theorem dX8_judgeOf_147 : decode cX8_judgeOf 147 = .ok (.iload_n 2, 1) := by decide +kernel
theorem dX8_judgeOf_148 : decode cX8_judgeOf 148 = .ok (.iaload, 1) := by decide +kernel
theorem dX8_judgeOf_149 : decode cX8_judgeOf 149 = .ok (.goto 5, 3) := by decide +kernel
theorem dX8_judgeOf_152 : decode cX8_judgeOf 152 = .ok (.bipush (-4), 2) := by decide +kernel
theorem dX8_judgeOf_154 : decode cX8_judgeOf 154 = .ok (.ireturn, 1) := by decide +kernel
set_option maxRecDepth 20000 in
theorem ggX8_wrongJudge_X8_isRow : GoodIn wsX8_wrongJudge wsX8_isRow := goodIn_r _ [5, 6, 7, 8, 4, 9, 22, 23, 24, 25, 26, 27, 28, 29, 30, 31, 32, 33, 34, 35, 36, 37, 38, 39, 40, 41, 42, 43, 44, 45, 46, 47, 48, 49, 50, 51, 52, 53, 54, 55, 56, 57, 58] (by decide +kernel) (by decide +kernel)
set_option maxRecDepth 20000 in
theorem gX8_wrongJudge_X8_isRow : GoodIn wsX8_wrongJudge (wsV RX8 152 RX8 yX8_isRow wsX8_isRow) := goodIn_app (goodIn_of _ (by decide +kernel)) ggX8_wrongJudge_X8_isRow
set_option maxRecDepth 20000 in
theorem ggX8_wrongJudge_X8_isShelf : GoodIn wsX8_wrongJudge wsX8_isShelf := goodIn_r _ [12, 13, 7, 8, 4, 9] (by decide +kernel) (by decide +kernel)
set_option maxRecDepth 20000 in
theorem gX8_wrongJudge_X8_isShelf : GoodIn wsX8_wrongJudge (va_wsS RX8 112 yX8_isShelf wsX8_isShelf) := goodIn_app (goodIn_of _ (by decide +kernel)) ggX8_wrongJudge_X8_isShelf
set_option maxRecDepth 20000 in
theorem ggX8_wrongJudge_X8_isLaid : GoodIn wsX8_wrongJudge wsX8_isLaid := goodIn_r _ [17, 18, 19, 20, 4, 21, 6, 22, 23, 24, 25, 26, 27, 28, 29, 30, 31, 32, 33, 34, 35, 36, 37, 38, 39, 40, 41, 42, 43, 44, 45, 46, 47, 48, 49, 50, 51, 52, 53, 54, 55, 56, 57, 58] (by decide +kernel) (by decide +kernel)
set_option maxRecDepth 20000 in
theorem gX8_wrongJudge_X8_isLaid : GoodIn wsX8_wrongJudge (wsV RX8 143 RX8 yX8_isLaid wsX8_isLaid) := goodIn_app (goodIn_of _ (by decide +kernel)) ggX8_wrongJudge_X8_isLaid
theorem dX8_wrongJudge_0 : decode cX8_wrongJudge 0 = .ok (.aload_n 0, 1) := by decide +kernel
theorem dX8_wrongJudge_1 : decode cX8_wrongJudge 1 = .ok (.iload_n 1, 1) := by decide +kernel
theorem dX8_wrongJudge_2 : decode cX8_wrongJudge 2 = .ok (.invokevirtual 152, 3) := by decide +kernel
theorem dX8_wrongJudge_5 : decode cX8_wrongJudge 5 = .ok (.ifCond .eq 10, 3) := by decide +kernel
theorem dX8_wrongJudge_8 : decode cX8_wrongJudge 8 = .ok (.iload_n 2, 1) := by decide +kernel
theorem dX8_wrongJudge_9 : decode cX8_wrongJudge 9 = .ok (.invokestatic 112, 3) := by decide +kernel
theorem dX8_wrongJudge_12 : decode cX8_wrongJudge 12 = .ok (.ifCond .ne 5, 3) := by decide +kernel
theorem dX8_wrongJudge_15 : decode cX8_wrongJudge 15 = .ok (.iconst (-1), 1) := by decide +kernel
theorem dX8_wrongJudge_16 : decode cX8_wrongJudge 16 = .ok (.ireturn, 1) := by decide +kernel
theorem dX8_wrongJudge_17 : decode cX8_wrongJudge 17 = .ok (.aload_n 0, 1) := by decide +kernel
theorem dX8_wrongJudge_18 : decode cX8_wrongJudge 18 = .ok (.iload_n 1, 1) := by decide +kernel
theorem dX8_wrongJudge_19 : decode cX8_wrongJudge 19 = .ok (.invokevirtual 143, 3) := by decide +kernel
theorem dX8_wrongJudge_22 : decode cX8_wrongJudge 22 = .ok (.ifCond .eq 8, 3) := by decide +kernel
theorem dX8_wrongJudge_25 : decode cX8_wrongJudge 25 = .ok (.bipush (-3), 2) := by decide +kernel
theorem dX8_wrongJudge_27 : decode cX8_wrongJudge 27 = .ok (.goto 4, 3) := by decide +kernel
theorem dX8_wrongJudge_30 : decode cX8_wrongJudge 30 = .ok (.iconst 0, 1) := by decide +kernel
theorem dX8_wrongJudge_31 : decode cX8_wrongJudge 31 = .ok (.ireturn, 1) := by decide +kernel
set_option maxRecDepth 20000 in
theorem ggX8_judge_X8_wrongJudge : GoodIn wsX8_judge wsX8_wrongJudge := goodIn_r _ [5, 6, 7, 8, 4, 9, 10, 11, 12, 13, 14, 15, 16, 17, 18, 19, 20, 21, 22, 23, 24, 25, 67, 68, 69, 70, 71, 72, 73, 74, 75, 76, 77, 78, 79, 80, 81, 82, 83, 84, 85, 86, 87, 88, 89, 90, 91, 92, 93, 94, 95, 96, 97, 98, 99, 100, 101, 102, 103] (by decide +kernel) (by decide +kernel)
set_option maxRecDepth 20000 in
theorem gX8_judge_X8_wrongJudge : GoodIn wsX8_judge (wsV RX8 168 RX8 yX8_wrongJudge wsX8_wrongJudge) := goodIn_app (goodIn_of _ (by decide +kernel)) ggX8_judge_X8_wrongJudge
set_option maxRecDepth 20000 in
theorem ggX8_judge_X8_wrongRow : GoodIn wsX8_judge wsX8_wrongRow := goodIn_r _ [29, 30, 31, 14, 15, 4, 16, 17, 11, 12, 13, 67, 68, 69, 70, 71, 72, 73, 74, 75, 76, 77, 78, 79, 80, 81, 82, 83, 84, 85, 86, 87, 88, 89, 90, 91, 92, 93, 94, 95, 96, 97, 98, 99, 100, 101, 102, 103] (by decide +kernel) (by decide +kernel)
set_option maxRecDepth 20000 in
theorem gX8_judge_X8_wrongRow : GoodIn wsX8_judge (wsV RX8 115 RX8 yX8_wrongRow wsX8_wrongRow) := goodIn_app (goodIn_of _ (by decide +kernel)) ggX8_judge_X8_wrongRow
set_option maxRecDepth 20000 in
theorem ggX8_judge_X8_judgeOf : GoodIn wsX8_judge wsX8_judgeOf := goodIn_r _ [35, 36, 37, 38, 39, 40, 41, 4, 42, 10, 43, 44, 45, 46, 11, 12, 13, 47, 48, 49, 50, 51, 52, 53, 54, 55, 56, 57, 58, 22, 23, 24, 25, 59, 60, 61, 62, 63, 64, 65, 66, 67, 68, 69, 70, 71, 72, 73, 74, 75, 76, 77, 78, 79, 80, 81, 82, 83, 84, 85, 86, 87, 88, 89, 90, 91, 92, 93, 94, 95, 96, 97, 98, 99, 100, 101, 102, 103] (by decide +kernel) (by decide +kernel)
set_option maxRecDepth 20000 in
theorem gX8_judge_X8_judgeOf : GoodIn wsX8_judge (wsV RX8 171 RX8 yX8_judgeOf wsX8_judgeOf) := goodIn_app (goodIn_of _ (by decide +kernel)) ggX8_judge_X8_judgeOf
theorem dX8_judge_0 : decode cX8_judge 0 = .ok (.aload_n 0, 1) := by decide +kernel
theorem dX8_judge_1 : decode cX8_judge 1 = .ok (.iload_n 1, 1) := by decide +kernel
theorem dX8_judge_2 : decode cX8_judge 2 = .ok (.iload_n 2, 1) := by decide +kernel
theorem dX8_judge_3 : decode cX8_judge 3 = .ok (.invokevirtual 168, 3) := by decide +kernel
theorem dX8_judge_6 : decode cX8_judge 6 = .ok (.istore_n 3, 1) := by decide +kernel
theorem dX8_judge_7 : decode cX8_judge 7 = .ok (.iload_n 3, 1) := by decide +kernel
theorem dX8_judge_8 : decode cX8_judge 8 = .ok (.ifCond .ne 10, 3) := by decide +kernel
theorem dX8_judge_11 : decode cX8_judge 11 = .ok (.aload_n 0, 1) := by decide +kernel
theorem dX8_judge_12 : decode cX8_judge 12 = .ok (.iload_n 2, 1) := by decide +kernel
theorem dX8_judge_13 : decode cX8_judge 13 = .ok (.iconst (-1), 1) := by decide +kernel
theorem dX8_judge_14 : decode cX8_judge 14 = .ok (.invokevirtual 115, 3) := by decide +kernel
theorem dX8_judge_17 : decode cX8_judge 17 = .ok (.istore_n 3, 1) := by decide +kernel
theorem dX8_judge_18 : decode cX8_judge 18 = .ok (.iload_n 3, 1) := by decide +kernel
theorem dX8_judge_19 : decode cX8_judge 19 = .ok (.ifCond .eq 7, 3) := by decide +kernel
theorem dX8_judge_22 : decode cX8_judge 22 = .ok (.iload_n 3, 1) := by decide +kernel
theorem dX8_judge_23 : decode cX8_judge 23 = .ok (.goto 9, 3) := by decide +kernel
theorem dX8_judge_26 : decode cX8_judge 26 = .ok (.aload_n 0, 1) := by decide +kernel
theorem dX8_judge_27 : decode cX8_judge 27 = .ok (.iload_n 1, 1) := by decide +kernel
theorem dX8_judge_28 : decode cX8_judge 28 = .ok (.iload_n 2, 1) := by decide +kernel
theorem dX8_judge_29 : decode cX8_judge 29 = .ok (.invokevirtual 171, 3) := by decide +kernel
theorem dX8_judge_32 : decode cX8_judge 32 = .ok (.ireturn, 1) := by decide +kernel
set_option maxRecDepth 20000 in
theorem ggX8_lay_X8_wrongJudge : GoodIn wsX8_lay wsX8_wrongJudge := goodIn_r _ [8, 9, 10, 11, 7, 12, 3, 13, 14, 15, 16, 17, 18, 19, 20, 21, 22, 23, 24, 25, 26, 27, 79, 80, 81, 82, 83, 84, 85, 86, 87, 88, 89, 90, 91, 92, 93, 94, 95, 96, 97, 98, 99, 100, 101, 102, 103, 104, 105, 106, 107, 108, 109, 110, 111, 112, 113, 114, 115] (by decide +kernel) (by decide +kernel)
set_option maxRecDepth 20000 in
theorem gX8_lay_X8_wrongJudge : GoodIn wsX8_lay (wsV RX8 168 RX8 yX8_wrongJudge wsX8_wrongJudge) := goodIn_app (goodIn_of _ (by decide +kernel)) ggX8_lay_X8_wrongJudge
set_option maxRecDepth 20000 in
theorem ggX8_lay_X8_wrongRow : GoodIn wsX8_lay wsX8_wrongRow := goodIn_r _ [31, 32, 33, 16, 17, 7, 18, 19, 13, 14, 15, 79, 80, 81, 82, 83, 84, 85, 86, 87, 88, 89, 90, 91, 92, 93, 94, 95, 96, 97, 98, 99, 100, 101, 102, 103, 104, 105, 106, 107, 108, 109, 110, 111, 112, 113, 114, 115] (by decide +kernel) (by decide +kernel)
set_option maxRecDepth 20000 in
theorem gX8_lay_X8_wrongRow : GoodIn wsX8_lay (wsV RX8 115 RX8 yX8_wrongRow wsX8_wrongRow) := goodIn_app (goodIn_of _ (by decide +kernel)) ggX8_lay_X8_wrongRow
set_option maxRecDepth 20000 in
theorem ggX8_lay_X8_judgeOf : GoodIn wsX8_lay wsX8_judgeOf := goodIn_r _ [37, 38, 1, 2, 39, 40, 41, 7, 42, 3, 43, 44, 45, 46, 13, 14, 15, 47, 48, 49, 50, 51, 52, 53, 54, 55, 56, 57, 58, 24, 25, 26, 27, 59, 60, 61, 62, 63, 64, 65, 66, 79, 80, 81, 82, 83, 84, 85, 86, 87, 88, 89, 90, 91, 92, 93, 94, 95, 96, 97, 98, 99, 100, 101, 102, 103, 104, 105, 106, 107, 108, 109, 110, 111, 112, 113, 114, 115] (by decide +kernel) (by decide +kernel)
set_option maxRecDepth 20000 in
theorem gX8_lay_X8_judgeOf : GoodIn wsX8_lay (wsV RX8 171 RX8 yX8_judgeOf wsX8_judgeOf) := goodIn_app (goodIn_of _ (by decide +kernel)) ggX8_lay_X8_judgeOf
set_option maxRecDepth 20000 in
theorem ggX8_lay_X8_leaves : GoodIn wsX8_lay wsX8_leaves := goodIn_r _ [70, 3, 79, 80, 81, 82, 83, 84, 85, 86, 87, 88, 89, 90, 91, 92, 93, 94, 95, 96, 97, 98, 99, 100, 101, 102, 103, 104, 105, 106, 107, 108, 109, 110, 111, 112, 113, 114, 115] (by decide +kernel) (by decide +kernel)
set_option maxRecDepth 20000 in
theorem gX8_lay_X8_leaves : GoodIn wsX8_lay (wsV RX8 174 RX8 yX8_leaves wsX8_leaves) := goodIn_app (goodIn_of _ (by decide +kernel)) ggX8_lay_X8_leaves
set_option maxRecDepth 20000 in
theorem ggX8_lay_X8_cutOf : GoodIn wsX8_lay wsX8_cutOf := goodIn_r _ [74, 20, 21, 22, 7, 23, 24, 25, 26, 27, 3, 75, 76, 77, 78, 63, 64, 65, 66, 51, 52, 53, 54, 39, 40, 41, 42, 79, 80, 81, 82, 83, 84, 85, 86, 87, 88, 89, 90, 91, 92, 93, 94, 95, 96, 97, 98, 99, 100, 101, 102, 103, 104, 105, 106, 107, 108, 109, 110, 111, 112, 113, 114, 115] (by decide +kernel) (by decide +kernel)
set_option maxRecDepth 20000 in
theorem gX8_lay_X8_cutOf : GoodIn wsX8_lay (wsV RX8 155 RX8 yX8_cutOf wsX8_cutOf) := goodIn_app (goodIn_of _ (by decide +kernel)) ggX8_lay_X8_cutOf
theorem dX8_lay_0 : decode cX8_lay 0 = .ok (.aload_n 0, 1) := by decide +kernel
theorem dX8_lay_1 : decode cX8_lay 1 = .ok (.iload_n 1, 1) := by decide +kernel
theorem dX8_lay_2 : decode cX8_lay 2 = .ok (.iload_n 2, 1) := by decide +kernel
theorem dX8_lay_3 : decode cX8_lay 3 = .ok (.invokevirtual 168, 3) := by decide +kernel
theorem dX8_lay_6 : decode cX8_lay 6 = .ok (.istore_n 3, 1) := by decide +kernel
theorem dX8_lay_7 : decode cX8_lay 7 = .ok (.iload_n 3, 1) := by decide +kernel
theorem dX8_lay_8 : decode cX8_lay 8 = .ok (.ifCond .ne 10, 3) := by decide +kernel
theorem dX8_lay_11 : decode cX8_lay 11 = .ok (.aload_n 0, 1) := by decide +kernel
theorem dX8_lay_12 : decode cX8_lay 12 = .ok (.iload_n 2, 1) := by decide +kernel
theorem dX8_lay_13 : decode cX8_lay 13 = .ok (.iconst (-1), 1) := by decide +kernel
theorem dX8_lay_14 : decode cX8_lay 14 = .ok (.invokevirtual 115, 3) := by decide +kernel
theorem dX8_lay_17 : decode cX8_lay 17 = .ok (.istore_n 3, 1) := by decide +kernel
theorem dX8_lay_18 : decode cX8_lay 18 = .ok (.iload_n 3, 1) := by decide +kernel
theorem dX8_lay_19 : decode cX8_lay 19 = .ok (.ifCond .eq 5, 3) := by decide +kernel
theorem dX8_lay_22 : decode cX8_lay 22 = .ok (.iload_n 3, 1) := by decide +kernel
theorem dX8_lay_23 : decode cX8_lay 23 = .ok (.ireturn, 1) := by decide +kernel
theorem dX8_lay_24 : decode cX8_lay 24 = .ok (.aload_n 0, 1) := by decide +kernel
theorem dX8_lay_25 : decode cX8_lay 25 = .ok (.iload_n 1, 1) := by decide +kernel
theorem dX8_lay_26 : decode cX8_lay 26 = .ok (.iload_n 2, 1) := by decide +kernel
theorem dX8_lay_27 : decode cX8_lay 27 = .ok (.invokevirtual 171, 3) := by decide +kernel
theorem dX8_lay_30 : decode cX8_lay 30 = .ok (.bipush (-4), 2) := by decide +kernel
theorem dX8_lay_32 : decode cX8_lay 32 = .ok (.if_icmp .eq 6, 3) := by decide +kernel
theorem dX8_lay_35 : decode cX8_lay 35 = .ok (.bipush (-3), 2) := by decide +kernel
theorem dX8_lay_37 : decode cX8_lay 37 = .ok (.ireturn, 1) := by decide +kernel
theorem dX8_lay_38 : decode cX8_lay 38 = .ok (.iconst 0, 1) := by decide +kernel
theorem dX8_lay_39 : decode cX8_lay 39 = .ok (.istore 4, 2) := by decide +kernel
theorem dX8_lay_41 : decode cX8_lay 41 = .ok (.iload 4, 2) := by decide +kernel
theorem dX8_lay_43 : decode cX8_lay 43 = .ok (.aload_n 0, 1) := by decide +kernel
theorem dX8_lay_44 : decode cX8_lay 44 = .ok (.getfield 28, 3) := by decide +kernel
theorem dX8_lay_47 : decode cX8_lay 47 = .ok (.iload_n 2, 1) := by decide +kernel
theorem dX8_lay_48 : decode cX8_lay 48 = .ok (.iaload, 1) := by decide +kernel
theorem dX8_lay_49 : decode cX8_lay 49 = .ok (.if_icmp .ge 49, 3) := by decide +kernel
theorem dX8_lay_52 : decode cX8_lay 52 = .ok (.aload_n 0, 1) := by decide +kernel
theorem dX8_lay_53 : decode cX8_lay 53 = .ok (.getfield 31, 3) := by decide +kernel
theorem dX8_lay_56 : decode cX8_lay 56 = .ok (.bipush 100, 2) := by decide +kernel
theorem dX8_lay_58 : decode cX8_lay 58 = .ok (.iload_n 2, 1) := by decide +kernel
theorem dX8_lay_59 : decode cX8_lay 59 = .ok (.imul, 1) := by decide +kernel
theorem dX8_lay_60 : decode cX8_lay 60 = .ok (.iload 4, 2) := by decide +kernel
theorem dX8_lay_62 : decode cX8_lay 62 = .ok (.iadd, 1) := by decide +kernel
theorem dX8_lay_63 : decode cX8_lay 63 = .ok (.iaload, 1) := by decide +kernel
theorem dX8_lay_64 : decode cX8_lay 64 = .ok (.istore 5, 2) := by decide +kernel
theorem dX8_lay_66 : decode cX8_lay 66 = .ok (.aload_n 0, 1) := by decide +kernel
theorem dX8_lay_67 : decode cX8_lay 67 = .ok (.getfield 9, 3) := by decide +kernel
theorem dX8_lay_70 : decode cX8_lay 70 = .ok (.bipush 15, 2) := by decide +kernel
theorem dX8_lay_72 : decode cX8_lay 72 = .ok (.bipush 14, 2) := by decide +kernel
theorem dX8_lay_74 : decode cX8_lay 74 = .ok (.iload_n 1, 1) := by decide +kernel
theorem dX8_lay_75 : decode cX8_lay 75 = .ok (.imul, 1) := by decide +kernel
theorem dX8_lay_76 : decode cX8_lay 76 = .ok (.iadd, 1) := by decide +kernel
theorem dX8_lay_77 : decode cX8_lay 77 = .ok (.iconst 2, 1) := by decide +kernel
theorem dX8_lay_78 : decode cX8_lay 78 = .ok (.iadd, 1) := by decide +kernel
theorem dX8_lay_79 : decode cX8_lay 79 = .ok (.iload 4, 2) := by decide +kernel
theorem dX8_lay_81 : decode cX8_lay 81 = .ok (.iadd, 1) := by decide +kernel
theorem dX8_lay_82 : decode cX8_lay 82 = .ok (.iload 5, 2) := by decide +kernel
theorem dX8_lay_84 : decode cX8_lay 84 = .ok (.iastore, 1) := by decide +kernel
theorem dX8_lay_85 : decode cX8_lay 85 = .ok (.aload_n 0, 1) := by decide +kernel
theorem dX8_lay_86 : decode cX8_lay 86 = .ok (.iload 5, 2) := by decide +kernel
theorem dX8_lay_88 : decode cX8_lay 88 = .ok (.iconst 1, 1) := by decide +kernel
theorem dX8_lay_89 : decode cX8_lay 89 = .ok (.invokevirtual 174, 3) := by decide +kernel
theorem dX8_lay_92 : decode cX8_lay 92 = .ok (.iinc 4 1, 3) := by decide +kernel
theorem dX8_lay_95 : decode cX8_lay 95 = .ok (.goto (-54), 3) := by decide +kernel
theorem dX8_lay_98 : decode cX8_lay 98 = .ok (.aload_n 0, 1) := by decide +kernel
theorem dX8_lay_99 : decode cX8_lay 99 = .ok (.getfield 9, 3) := by decide +kernel
theorem dX8_lay_102 : decode cX8_lay 102 = .ok (.bipush 15, 2) := by decide +kernel
theorem dX8_lay_104 : decode cX8_lay 104 = .ok (.bipush 14, 2) := by decide +kernel
theorem dX8_lay_106 : decode cX8_lay 106 = .ok (.iload_n 1, 1) := by decide +kernel
theorem dX8_lay_107 : decode cX8_lay 107 = .ok (.imul, 1) := by decide +kernel
theorem dX8_lay_108 : decode cX8_lay 108 = .ok (.iadd, 1) := by decide +kernel
theorem dX8_lay_109 : decode cX8_lay 109 = .ok (.iconst 1, 1) := by decide +kernel
theorem dX8_lay_110 : decode cX8_lay 110 = .ok (.iadd, 1) := by decide +kernel
theorem dX8_lay_111 : decode cX8_lay 111 = .ok (.aload_n 0, 1) := by decide +kernel
theorem dX8_lay_112 : decode cX8_lay 112 = .ok (.getfield 28, 3) := by decide +kernel
theorem dX8_lay_115 : decode cX8_lay 115 = .ok (.iload_n 2, 1) := by decide +kernel
theorem dX8_lay_116 : decode cX8_lay 116 = .ok (.iaload, 1) := by decide +kernel
theorem dX8_lay_117 : decode cX8_lay 117 = .ok (.iastore, 1) := by decide +kernel
theorem dX8_lay_118 : decode cX8_lay 118 = .ok (.aload_n 0, 1) := by decide +kernel
theorem dX8_lay_119 : decode cX8_lay 119 = .ok (.iload_n 1, 1) := by decide +kernel
theorem dX8_lay_120 : decode cX8_lay 120 = .ok (.invokevirtual 155, 3) := by decide +kernel
theorem dX8_lay_123 : decode cX8_lay 123 = .ok (.ireturn, 1) := by decide +kernel
set_option maxRecDepth 20000 in
theorem ggX8_takeUp_X8_isRow : GoodIn wsX8_takeUp wsX8_isRow := goodIn_r _ [6, 1, 7, 8, 5, 9, 46, 47, 48, 49, 50, 51, 52, 53, 54, 55, 56, 57, 58, 59, 60, 61, 62, 63, 64, 65, 66, 67, 68, 69, 70, 71, 72, 73, 74, 75, 76, 77, 78, 79, 80, 81, 82] (by decide +kernel) (by decide +kernel)
set_option maxRecDepth 20000 in
theorem gX8_takeUp_X8_isRow : GoodIn wsX8_takeUp (wsV RX8 152 RX8 yX8_isRow wsX8_isRow) := goodIn_app (goodIn_of _ (by decide +kernel)) ggX8_takeUp_X8_isRow
set_option maxRecDepth 20000 in
theorem ggX8_takeUp_X8_isLaid : GoodIn wsX8_takeUp wsX8_isLaid := goodIn_r _ [13, 14, 15, 16, 5, 17, 1, 46, 47, 48, 49, 50, 51, 52, 53, 54, 55, 56, 57, 58, 59, 60, 61, 62, 63, 64, 65, 66, 67, 68, 69, 70, 71, 72, 73, 74, 75, 76, 77, 78, 79, 80, 81, 82] (by decide +kernel) (by decide +kernel)
set_option maxRecDepth 20000 in
theorem gX8_takeUp_X8_isLaid : GoodIn wsX8_takeUp (wsV RX8 143 RX8 yX8_isLaid wsX8_isLaid) := goodIn_app (goodIn_of _ (by decide +kernel)) ggX8_takeUp_X8_isLaid
set_option maxRecDepth 20000 in
theorem ggX8_takeUp_X8_cutOf : GoodIn wsX8_takeUp wsX8_cutOf := goodIn_r _ [21, 10, 11, 12, 5, 13, 14, 15, 16, 17, 1, 22, 23, 24, 25, 26, 27, 28, 29, 30, 31, 32, 33, 34, 35, 36, 37, 46, 47, 48, 49, 50, 51, 52, 53, 54, 55, 56, 57, 58, 59, 60, 61, 62, 63, 64, 65, 66, 67, 68, 69, 70, 71, 72, 73, 74, 75, 76, 77, 78, 79, 80, 81, 82] (by decide +kernel) (by decide +kernel)
set_option maxRecDepth 20000 in
theorem gX8_takeUp_X8_cutOf : GoodIn wsX8_takeUp (wsV RX8 155 RX8 yX8_cutOf wsX8_cutOf) := goodIn_app (goodIn_of _ (by decide +kernel)) ggX8_takeUp_X8_cutOf
set_option maxRecDepth 20000 in
theorem ggX8_takeUp_X8_slates : GoodIn wsX8_takeUp wsX8_slates := goodIn_r _ [17, 1, 46, 47, 48, 49, 50, 51, 52, 53, 54, 55, 56, 57, 58, 59, 60, 61, 62, 63, 64, 65, 66, 67, 68, 69, 70, 71, 72, 73, 74, 75, 76, 77, 78, 79, 80, 81, 82] (by decide +kernel) (by decide +kernel)
set_option maxRecDepth 20000 in
theorem gX8_takeUp_X8_slates : GoodIn wsX8_takeUp (wsV RX8 69 RX8 yX8_slates wsX8_slates) := goodIn_app (goodIn_of _ (by decide +kernel)) ggX8_takeUp_X8_slates
set_option maxRecDepth 20000 in
theorem ggX8_takeUp_X8_slateOf : GoodIn wsX8_takeUp wsX8_slateOf := goodIn_r _ [29, 1, 46, 47, 48, 49, 50, 51, 52, 53, 54, 55, 56, 57, 58, 59, 60, 61, 62, 63, 64, 65, 66, 67, 68, 69, 70, 71, 72, 73, 74, 75, 76, 77, 78, 79, 80, 81, 82] (by decide +kernel) (by decide +kernel)
set_option maxRecDepth 20000 in
theorem gX8_takeUp_X8_slateOf : GoodIn wsX8_takeUp (wsV RX8 137 RX8 yX8_slateOf wsX8_slateOf) := goodIn_app (goodIn_of _ (by decide +kernel)) ggX8_takeUp_X8_slateOf
set_option maxRecDepth 20000 in
theorem ggX8_takeUp_X8_many : GoodIn wsX8_takeUp wsX8_many := goodIn_r _ [41, 1, 46, 47, 48, 49, 50, 51, 52, 53, 54, 55, 56, 57, 58, 59, 60, 61, 62, 63, 64, 65, 66, 67, 68, 69, 70, 71, 72, 73, 74, 75, 76, 77, 78, 79, 80, 81, 82] (by decide +kernel) (by decide +kernel)
set_option maxRecDepth 20000 in
theorem gX8_takeUp_X8_many : GoodIn wsX8_takeUp (wsV RX8 165 RX8 yX8_many wsX8_many) := goodIn_app (goodIn_of _ (by decide +kernel)) ggX8_takeUp_X8_many
set_option maxRecDepth 20000 in
theorem ggX8_takeUp_X8_leaves : GoodIn wsX8_takeUp wsX8_leaves := goodIn_r _ [45, 1, 46, 47, 48, 49, 50, 51, 52, 53, 54, 55, 56, 57, 58, 59, 60, 61, 62, 63, 64, 65, 66, 67, 68, 69, 70, 71, 72, 73, 74, 75, 76, 77, 78, 79, 80, 81, 82] (by decide +kernel) (by decide +kernel)
set_option maxRecDepth 20000 in
theorem gX8_takeUp_X8_leaves : GoodIn wsX8_takeUp (wsV RX8 174 RX8 yX8_leaves wsX8_leaves) := goodIn_app (goodIn_of _ (by decide +kernel)) ggX8_takeUp_X8_leaves
theorem dX8_takeUp_0 : decode cX8_takeUp 0 = .ok (.aload_n 0, 1) := by decide +kernel
theorem dX8_takeUp_1 : decode cX8_takeUp 1 = .ok (.iload_n 1, 1) := by decide +kernel
theorem dX8_takeUp_2 : decode cX8_takeUp 2 = .ok (.invokevirtual 152, 3) := by decide +kernel
theorem dX8_takeUp_5 : decode cX8_takeUp 5 = .ok (.ifCond .ne 5, 3) := by decide +kernel
theorem dX8_takeUp_8 : decode cX8_takeUp 8 = .ok (.iconst (-1), 1) := by decide +kernel
theorem dX8_takeUp_9 : decode cX8_takeUp 9 = .ok (.ireturn, 1) := by decide +kernel
theorem dX8_takeUp_10 : decode cX8_takeUp 10 = .ok (.aload_n 0, 1) := by decide +kernel
theorem dX8_takeUp_11 : decode cX8_takeUp 11 = .ok (.iload_n 1, 1) := by decide +kernel
theorem dX8_takeUp_12 : decode cX8_takeUp 12 = .ok (.invokevirtual 143, 3) := by decide +kernel
theorem dX8_takeUp_15 : decode cX8_takeUp 15 = .ok (.ifCond .ne 6, 3) := by decide +kernel
theorem dX8_takeUp_18 : decode cX8_takeUp 18 = .ok (.bipush (-3), 2) := by decide +kernel
theorem dX8_takeUp_20 : decode cX8_takeUp 20 = .ok (.ireturn, 1) := by decide +kernel
theorem dX8_takeUp_21 : decode cX8_takeUp 21 = .ok (.aload_n 0, 1) := by decide +kernel
theorem dX8_takeUp_22 : decode cX8_takeUp 22 = .ok (.iload_n 1, 1) := by decide +kernel
theorem dX8_takeUp_23 : decode cX8_takeUp 23 = .ok (.invokevirtual 155, 3) := by decide +kernel
theorem dX8_takeUp_26 : decode cX8_takeUp 26 = .ok (.ifCond .le 13, 3) := by decide +kernel
theorem dX8_takeUp_29 : decode cX8_takeUp 29 = .ok (.aload_n 0, 1) := by decide +kernel
theorem dX8_takeUp_30 : decode cX8_takeUp 30 = .ok (.iload_n 1, 1) := by decide +kernel
theorem dX8_takeUp_31 : decode cX8_takeUp 31 = .ok (.invokevirtual 69, 3) := by decide +kernel
theorem dX8_takeUp_34 : decode cX8_takeUp 34 = .ok (.iconst 1, 1) := by decide +kernel
theorem dX8_takeUp_35 : decode cX8_takeUp 35 = .ok (.isub, 1) := by decide +kernel
theorem dX8_takeUp_36 : decode cX8_takeUp 36 = .ok (.goto 8, 3) := by decide +kernel
theorem dX8_takeUp_39 : decode cX8_takeUp 39 = .ok (.aload_n 0, 1) := by decide +kernel
theorem dX8_takeUp_40 : decode cX8_takeUp 40 = .ok (.iload_n 1, 1) := by decide +kernel
theorem dX8_takeUp_41 : decode cX8_takeUp 41 = .ok (.invokevirtual 69, 3) := by decide +kernel
theorem dX8_takeUp_44 : decode cX8_takeUp 44 = .ok (.istore_n 2, 1) := by decide +kernel
theorem dX8_takeUp_45 : decode cX8_takeUp 45 = .ok (.iconst 0, 1) := by decide +kernel
theorem dX8_takeUp_46 : decode cX8_takeUp 46 = .ok (.istore_n 3, 1) := by decide +kernel
theorem dX8_takeUp_47 : decode cX8_takeUp 47 = .ok (.iconst 0, 1) := by decide +kernel
theorem dX8_takeUp_48 : decode cX8_takeUp 48 = .ok (.istore 4, 2) := by decide +kernel
theorem dX8_takeUp_50 : decode cX8_takeUp 50 = .ok (.iload 4, 2) := by decide +kernel
theorem dX8_takeUp_52 : decode cX8_takeUp 52 = .ok (.iload_n 2, 1) := by decide +kernel
theorem dX8_takeUp_53 : decode cX8_takeUp 53 = .ok (.if_icmp .ge 43, 3) := by decide +kernel
theorem dX8_takeUp_56 : decode cX8_takeUp 56 = .ok (.aload_n 0, 1) := by decide +kernel
theorem dX8_takeUp_57 : decode cX8_takeUp 57 = .ok (.aload_n 0, 1) := by decide +kernel
theorem dX8_takeUp_58 : decode cX8_takeUp 58 = .ok (.iload_n 1, 1) := by decide +kernel
theorem dX8_takeUp_59 : decode cX8_takeUp 59 = .ok (.iload 4, 2) := by decide +kernel
theorem dX8_takeUp_61 : decode cX8_takeUp 61 = .ok (.invokevirtual 137, 3) := by decide +kernel
theorem dX8_takeUp_64 : decode cX8_takeUp 64 = .ok (.invokevirtual 165, 3) := by decide +kernel
theorem dX8_takeUp_67 : decode cX8_takeUp 67 = .ok (.bipush 12, 2) := by decide +kernel
theorem dX8_takeUp_69 : decode cX8_takeUp 69 = .ok (.if_icmp .ne 6, 3) := by decide +kernel
theorem dX8_takeUp_72 : decode cX8_takeUp 72 = .ok (.goto 18, 3) := by decide +kernel
theorem dX8_takeUp_75 : decode cX8_takeUp 75 = .ok (.aload_n 0, 1) := by decide +kernel
theorem dX8_takeUp_76 : decode cX8_takeUp 76 = .ok (.aload_n 0, 1) := by decide +kernel
theorem dX8_takeUp_77 : decode cX8_takeUp 77 = .ok (.iload_n 1, 1) := by decide +kernel
theorem dX8_takeUp_78 : decode cX8_takeUp 78 = .ok (.iload 4, 2) := by decide +kernel
theorem dX8_takeUp_80 : decode cX8_takeUp 80 = .ok (.invokevirtual 137, 3) := by decide +kernel
theorem dX8_takeUp_83 : decode cX8_takeUp 83 = .ok (.iconst (-1), 1) := by decide +kernel
theorem dX8_takeUp_84 : decode cX8_takeUp 84 = .ok (.invokevirtual 174, 3) := by decide +kernel
theorem dX8_takeUp_87 : decode cX8_takeUp 87 = .ok (.iinc 3 1, 3) := by decide +kernel
theorem dX8_takeUp_90 : decode cX8_takeUp 90 = .ok (.iinc 4 1, 3) := by decide +kernel
theorem dX8_takeUp_93 : decode cX8_takeUp 93 = .ok (.goto (-43), 3) := by decide +kernel
theorem dX8_takeUp_96 : decode cX8_takeUp 96 = .ok (.aload_n 0, 1) := by decide +kernel
theorem dX8_takeUp_97 : decode cX8_takeUp 97 = .ok (.getfield 9, 3) := by decide +kernel
theorem dX8_takeUp_100 : decode cX8_takeUp 100 = .ok (.bipush 15, 2) := by decide +kernel
theorem dX8_takeUp_102 : decode cX8_takeUp 102 = .ok (.bipush 14, 2) := by decide +kernel
theorem dX8_takeUp_104 : decode cX8_takeUp 104 = .ok (.iload_n 1, 1) := by decide +kernel
theorem dX8_takeUp_105 : decode cX8_takeUp 105 = .ok (.imul, 1) := by decide +kernel
theorem dX8_takeUp_106 : decode cX8_takeUp 106 = .ok (.iadd, 1) := by decide +kernel
theorem dX8_takeUp_107 : decode cX8_takeUp 107 = .ok (.iconst 1, 1) := by decide +kernel
theorem dX8_takeUp_108 : decode cX8_takeUp 108 = .ok (.iadd, 1) := by decide +kernel
theorem dX8_takeUp_109 : decode cX8_takeUp 109 = .ok (.iconst 0, 1) := by decide +kernel
theorem dX8_takeUp_110 : decode cX8_takeUp 110 = .ok (.iastore, 1) := by decide +kernel
theorem dX8_takeUp_111 : decode cX8_takeUp 111 = .ok (.iload_n 3, 1) := by decide +kernel
theorem dX8_takeUp_112 : decode cX8_takeUp 112 = .ok (.ireturn, 1) := by decide +kernel
set_option maxRecDepth 20000 in
theorem ggX8_fillsFrom_X8_inches : GoodIn wsX8_fillsFrom wsX8_inches := goodIn_r _ [14, 8, 46, 47, 48, 49, 50, 51, 52, 53, 54, 55, 56, 57, 58, 59, 60, 61, 62, 63, 64, 65, 66, 67, 68, 69, 70, 71, 72, 73, 74, 75, 76, 77, 78, 79, 80, 81, 82] (by decide +kernel) (by decide +kernel)
set_option maxRecDepth 20000 in
theorem gX8_fillsFrom_X8_inches : GoodIn wsX8_fillsFrom (wsV RX8 140 RX8 yX8_inches wsX8_inches) := goodIn_app (goodIn_of _ (by decide +kernel)) ggX8_fillsFrom_X8_inches
set_option maxRecDepth 20000 in
theorem ggX8_fillsFrom_X8_many : GoodIn wsX8_fillsFrom wsX8_many := goodIn_r _ [18, 8, 46, 47, 48, 49, 50, 51, 52, 53, 54, 55, 56, 57, 58, 59, 60, 61, 62, 63, 64, 65, 66, 67, 68, 69, 70, 71, 72, 73, 74, 75, 76, 77, 78, 79, 80, 81, 82] (by decide +kernel) (by decide +kernel)
set_option maxRecDepth 20000 in
theorem gX8_fillsFrom_X8_many : GoodIn wsX8_fillsFrom (wsV RX8 165 RX8 yX8_many wsX8_many) := goodIn_app (goodIn_of _ (by decide +kernel)) ggX8_fillsFrom_X8_many
set_option maxRecDepth 20000 in
theorem ggX8_fillsFrom_X8_mayBe : GoodIn wsX8_fillsFrom wsX8_mayBe := goodIn_r _ [22, 8, 23, 24, 25, 13, 26, 27, 28, 29, 30, 31, 32, 33, 34, 10, 11, 12, 14, 46, 47, 48, 49, 50, 51, 52, 53, 54, 55, 56, 57, 58, 59, 60, 61, 62, 63, 64, 65, 66, 67, 68, 69, 70, 71, 72, 73, 74, 75, 76, 77, 78, 79, 80, 81, 82] (by decide +kernel) (by decide +kernel)
set_option maxRecDepth 20000 in
theorem gX8_fillsFrom_X8_mayBe : GoodIn wsX8_fillsFrom (wsV RX8 161 RX8 yX8_mayBe wsX8_mayBe) := goodIn_app (goodIn_of _ (by decide +kernel)) ggX8_fillsFrom_X8_mayBe
set_option maxRecDepth 20000 in
theorem ggX8_fillsFrom_X8_leaves : GoodIn wsX8_fillsFrom wsX8_leaves := goodIn_r _ [38, 8, 46, 47, 48, 49, 50, 51, 52, 53, 54, 55, 56, 57, 58, 59, 60, 61, 62, 63, 64, 65, 66, 67, 68, 69, 70, 71, 72, 73, 74, 75, 76, 77, 78, 79, 80, 81, 82] (by decide +kernel) (by decide +kernel)
set_option maxRecDepth 20000 in
theorem gX8_fillsFrom_X8_leaves : GoodIn wsX8_fillsFrom (wsV RX8 174 RX8 yX8_leaves wsX8_leaves) := goodIn_app (goodIn_of _ (by decide +kernel)) ggX8_fillsFrom_X8_leaves
set_option maxRecDepth 20000 in
theorem ggX8_fillsFrom_X8_worth : GoodIn wsX8_fillsFrom wsX8_worth := goodIn_r _ [42, 8, 46, 47, 48, 49, 50, 51, 52, 53, 54, 55, 56, 57, 58, 59, 60, 61, 62, 63, 64, 65, 66, 67, 68, 69, 70, 71, 72, 73, 74, 75, 76, 77, 78, 79, 80, 81, 82] (by decide +kernel) (by decide +kernel)
set_option maxRecDepth 20000 in
theorem gX8_fillsFrom_X8_worth : GoodIn wsX8_fillsFrom (wsV RX8 196 RX8 yX8_worth wsX8_worth) := goodIn_app (goodIn_of _ (by decide +kernel)) ggX8_fillsFrom_X8_worth
set_option maxRecDepth 20000 in
theorem ggX8_fillsFrom_X8_fillsFrom : GoodIn wsX8_fillsFrom wsX8_fillsFrom := goodIn_r _ [0, 1, 2, 3, 4, 5, 6, 7, 8, 9, 10, 11, 12, 13, 14, 15, 16, 17, 18, 19, 20, 21, 22, 23, 24, 25, 26, 27, 28, 29, 30, 31, 32, 33, 34, 35, 36, 37, 38, 39, 40, 41, 42, 43, 44, 45, 46, 47, 48, 49, 50, 51, 52, 53, 54, 55, 56, 57, 58, 59, 60, 61, 62, 63, 64, 65, 66, 67, 68, 69, 70, 71, 72, 73, 74, 75, 76, 77, 78, 79, 80, 81, 82] (by decide +kernel) (by decide +kernel)
set_option maxRecDepth 20000 in
theorem gX8_fillsFrom_X8_fillsFrom : GoodIn wsX8_fillsFrom (wsV RX8 199 RX8 yX8_fillsFrom wsX8_fillsFrom) := goodIn_app (goodIn_of _ (by decide +kernel)) ggX8_fillsFrom_X8_fillsFrom
theorem dX8_fillsFrom_0 : decode cX8_fillsFrom 0 = .ok (.iload_n 1, 1) := by decide +kernel
theorem dX8_fillsFrom_1 : decode cX8_fillsFrom 1 = .ok (.aload_n 0, 1) := by decide +kernel
theorem dX8_fillsFrom_2 : decode cX8_fillsFrom 2 = .ok (.getfield 178, 3) := by decide +kernel
theorem dX8_fillsFrom_5 : decode cX8_fillsFrom 5 = .ok (.if_icmp .ne 96, 3) := by decide +kernel
theorem dX8_fillsFrom_8 : decode cX8_fillsFrom 8 = .ok (.aload_n 0, 1) := by decide +kernel
theorem dX8_fillsFrom_9 : decode cX8_fillsFrom 9 = .ok (.getfield 181, 3) := by decide +kernel
theorem dX8_fillsFrom_12 : decode cX8_fillsFrom 12 = .ok (.ifCond .lt 18, 3) := by decide +kernel
theorem dX8_fillsFrom_15 : decode cX8_fillsFrom 15 = .ok (.aload_n 0, 1) := by decide +kernel
theorem dX8_fillsFrom_16 : decode cX8_fillsFrom 16 = .ok (.getfield 46, 3) := by decide +kernel
theorem dX8_fillsFrom_19 : decode cX8_fillsFrom 19 = .ok (.iload_n 2, 1) := by decide +kernel
theorem dX8_fillsFrom_20 : decode cX8_fillsFrom 20 = .ok (.iconst 1, 1) := by decide +kernel
theorem dX8_fillsFrom_21 : decode cX8_fillsFrom 21 = .ok (.isub, 1) := by decide +kernel
theorem dX8_fillsFrom_22 : decode cX8_fillsFrom 22 = .ok (.iaload, 1) := by decide +kernel
theorem dX8_fillsFrom_23 : decode cX8_fillsFrom 23 = .ok (.aload_n 0, 1) := by decide +kernel
theorem dX8_fillsFrom_24 : decode cX8_fillsFrom 24 = .ok (.getfield 181, 3) := by decide +kernel
theorem dX8_fillsFrom_27 : decode cX8_fillsFrom 27 = .ok (.if_icmp .ne 13, 3) := by decide +kernel
theorem dX8_fillsFrom_30 : decode cX8_fillsFrom 30 = .ok (.aload_n 0, 1) := by decide +kernel
theorem dX8_fillsFrom_31 : decode cX8_fillsFrom 31 = .ok (.dup, 1) := by decide +kernel
theorem dX8_fillsFrom_32 : decode cX8_fillsFrom 32 = .ok (.getfield 184, 3) := by decide +kernel
theorem dX8_fillsFrom_35 : decode cX8_fillsFrom 35 = .ok (.iconst 1, 1) := by decide +kernel
theorem dX8_fillsFrom_36 : decode cX8_fillsFrom 36 = .ok (.iadd, 1) := by decide +kernel
theorem dX8_fillsFrom_37 : decode cX8_fillsFrom 37 = .ok (.putfield 184, 3) := by decide +kernel
theorem dX8_fillsFrom_40 : decode cX8_fillsFrom 40 = .ok (.aload_n 0, 1) := by decide +kernel
theorem dX8_fillsFrom_41 : decode cX8_fillsFrom 41 = .ok (.getfield 187, 3) := by decide +kernel
theorem dX8_fillsFrom_44 : decode cX8_fillsFrom 44 = .ok (.ifCond .lt 17, 3) := by decide +kernel
theorem dX8_fillsFrom_47 : decode cX8_fillsFrom 47 = .ok (.iload 4, 2) := by decide +kernel
theorem dX8_fillsFrom_49 : decode cX8_fillsFrom 49 = .ok (.iconst 1, 1) := by decide +kernel
theorem dX8_fillsFrom_50 : decode cX8_fillsFrom 50 = .ok (.if_icmp .ne 50, 3) := by decide +kernel
theorem dX8_fillsFrom_53 : decode cX8_fillsFrom 53 = .ok (.iload_n 3, 1) := by decide +kernel
theorem dX8_fillsFrom_54 : decode cX8_fillsFrom 54 = .ok (.aload_n 0, 1) := by decide +kernel
theorem dX8_fillsFrom_55 : decode cX8_fillsFrom 55 = .ok (.getfield 190, 3) := by decide +kernel
theorem dX8_fillsFrom_58 : decode cX8_fillsFrom 58 = .ok (.if_icmp .ge 42, 3) := by decide +kernel
theorem dX8_fillsFrom_61 : decode cX8_fillsFrom 61 = .ok (.aload_n 0, 1) := by decide +kernel
theorem dX8_fillsFrom_62 : decode cX8_fillsFrom 62 = .ok (.iload_n 2, 1) := by decide +kernel
theorem dX8_fillsFrom_63 : decode cX8_fillsFrom 63 = .ok (.putfield 187, 3) := by decide +kernel
theorem dX8_fillsFrom_66 : decode cX8_fillsFrom 66 = .ok (.aload_n 0, 1) := by decide +kernel
theorem dX8_fillsFrom_67 : decode cX8_fillsFrom 67 = .ok (.iload_n 3, 1) := by decide +kernel
theorem dX8_fillsFrom_68 : decode cX8_fillsFrom 68 = .ok (.putfield 190, 3) := by decide +kernel
theorem dX8_fillsFrom_71 : decode cX8_fillsFrom 71 = .ok (.iconst 0, 1) := by decide +kernel
theorem dX8_fillsFrom_72 : decode cX8_fillsFrom 72 = .ok (.istore 5, 2) := by decide +kernel
theorem dX8_fillsFrom_74 : decode cX8_fillsFrom 74 = .ok (.iload 5, 2) := by decide +kernel
theorem dX8_fillsFrom_76 : decode cX8_fillsFrom 76 = .ok (.iload_n 2, 1) := by decide +kernel
theorem dX8_fillsFrom_77 : decode cX8_fillsFrom 77 = .ok (.if_icmp .ge 23, 3) := by decide +kernel
theorem dX8_fillsFrom_80 : decode cX8_fillsFrom 80 = .ok (.aload_n 0, 1) := by decide +kernel
theorem dX8_fillsFrom_81 : decode cX8_fillsFrom 81 = .ok (.getfield 49, 3) := by decide +kernel
theorem dX8_fillsFrom_84 : decode cX8_fillsFrom 84 = .ok (.iload 5, 2) := by decide +kernel
theorem dX8_fillsFrom_86 : decode cX8_fillsFrom 86 = .ok (.aload_n 0, 1) := by decide +kernel
theorem dX8_fillsFrom_87 : decode cX8_fillsFrom 87 = .ok (.getfield 46, 3) := by decide +kernel
theorem dX8_fillsFrom_90 : decode cX8_fillsFrom 90 = .ok (.iload 5, 2) := by decide +kernel
theorem dX8_fillsFrom_92 : decode cX8_fillsFrom 92 = .ok (.iaload, 1) := by decide +kernel
theorem dX8_fillsFrom_93 : decode cX8_fillsFrom 93 = .ok (.iastore, 1) := by decide +kernel
theorem dX8_fillsFrom_94 : decode cX8_fillsFrom 94 = .ok (.iinc 5 1, 3) := by decide +kernel
theorem dX8_fillsFrom_97 : decode cX8_fillsFrom 97 = .ok (.goto (-23), 3) := by decide +kernel
theorem dX8_fillsFrom_100 : decode cX8_fillsFrom 100 = .ok (.return_, 1) := by decide +kernel
theorem dX8_fillsFrom_101 : decode cX8_fillsFrom 101 = .ok (.iconst 0, 1) := by decide +kernel
theorem dX8_fillsFrom_102 : decode cX8_fillsFrom 102 = .ok (.istore 5, 2) := by decide +kernel
theorem dX8_fillsFrom_104 : decode cX8_fillsFrom 104 = .ok (.iload 5, 2) := by decide +kernel
theorem dX8_fillsFrom_106 : decode cX8_fillsFrom 106 = .ok (.aload_n 0, 1) := by decide +kernel
theorem dX8_fillsFrom_107 : decode cX8_fillsFrom 107 = .ok (.getfield 9, 3) := by decide +kernel
theorem dX8_fillsFrom_110 : decode cX8_fillsFrom 110 = .ok (.iconst 1, 1) := by decide +kernel
theorem dX8_fillsFrom_111 : decode cX8_fillsFrom 111 = .ok (.iaload, 1) := by decide +kernel
theorem dX8_fillsFrom_112 : decode cX8_fillsFrom 112 = .ok (.if_icmp .ge 103, 3) := by decide +kernel
theorem dX8_fillsFrom_115 : decode cX8_fillsFrom 115 = .ok (.iload_n 1, 1) := by decide +kernel
theorem dX8_fillsFrom_116 : decode cX8_fillsFrom 116 = .ok (.aload_n 0, 1) := by decide +kernel
theorem dX8_fillsFrom_117 : decode cX8_fillsFrom 117 = .ok (.iload 5, 2) := by decide +kernel
theorem dX8_fillsFrom_119 : decode cX8_fillsFrom 119 = .ok (.invokevirtual 140, 3) := by decide +kernel
theorem dX8_fillsFrom_122 : decode cX8_fillsFrom 122 = .ok (.iadd, 1) := by decide +kernel
theorem dX8_fillsFrom_123 : decode cX8_fillsFrom 123 = .ok (.istore 6, 2) := by decide +kernel
theorem dX8_fillsFrom_125 : decode cX8_fillsFrom 125 = .ok (.aload_n 0, 1) := by decide +kernel
theorem dX8_fillsFrom_126 : decode cX8_fillsFrom 126 = .ok (.iload 5, 2) := by decide +kernel
theorem dX8_fillsFrom_128 : decode cX8_fillsFrom 128 = .ok (.invokevirtual 165, 3) := by decide +kernel
theorem dX8_fillsFrom_131 : decode cX8_fillsFrom 131 = .ok (.ifCond .eq 78, 3) := by decide +kernel
theorem dX8_fillsFrom_134 : decode cX8_fillsFrom 134 = .ok (.iload 6, 2) := by decide +kernel
theorem dX8_fillsFrom_136 : decode cX8_fillsFrom 136 = .ok (.aload_n 0, 1) := by decide +kernel
theorem dX8_fillsFrom_137 : decode cX8_fillsFrom 137 = .ok (.getfield 178, 3) := by decide +kernel
theorem dX8_fillsFrom_140 : decode cX8_fillsFrom 140 = .ok (.if_icmp .gt 69, 3) := by decide +kernel
theorem dX8_fillsFrom_143 : decode cX8_fillsFrom 143 = .ok (.iload 6, 2) := by decide +kernel
theorem dX8_fillsFrom_145 : decode cX8_fillsFrom 145 = .ok (.aload_n 0, 1) := by decide +kernel
theorem dX8_fillsFrom_146 : decode cX8_fillsFrom 146 = .ok (.getfield 178, 3) := by decide +kernel
theorem dX8_fillsFrom_149 : decode cX8_fillsFrom 149 = .ok (.if_icmp .ge 19, 3) := by decide +kernel
theorem dX8_fillsFrom_152 : decode cX8_fillsFrom 152 = .ok (.aload_n 0, 1) := by decide +kernel
theorem dX8_fillsFrom_153 : decode cX8_fillsFrom 153 = .ok (.aload_n 0, 1) := by decide +kernel
theorem dX8_fillsFrom_154 : decode cX8_fillsFrom 154 = .ok (.getfield 193, 3) := by decide +kernel
theorem dX8_fillsFrom_157 : decode cX8_fillsFrom 157 = .ok (.iload 6, 2) := by decide +kernel
theorem dX8_fillsFrom_159 : decode cX8_fillsFrom 159 = .ok (.invokevirtual 161, 3) := by decide +kernel
theorem dX8_fillsFrom_162 : decode cX8_fillsFrom 162 = .ok (.ifCond .ne 6, 3) := by decide +kernel
theorem dX8_fillsFrom_165 : decode cX8_fillsFrom 165 = .ok (.goto 44, 3) := by decide +kernel
theorem dX8_fillsFrom_168 : decode cX8_fillsFrom 168 = .ok (.aload_n 0, 1) := by decide +kernel
theorem dX8_fillsFrom_169 : decode cX8_fillsFrom 169 = .ok (.iload 5, 2) := by decide +kernel
theorem dX8_fillsFrom_171 : decode cX8_fillsFrom 171 = .ok (.iconst 1, 1) := by decide +kernel
theorem dX8_fillsFrom_172 : decode cX8_fillsFrom 172 = .ok (.invokevirtual 174, 3) := by decide +kernel
theorem dX8_fillsFrom_175 : decode cX8_fillsFrom 175 = .ok (.aload_n 0, 1) := by decide +kernel
theorem dX8_fillsFrom_176 : decode cX8_fillsFrom 176 = .ok (.getfield 46, 3) := by decide +kernel
theorem dX8_fillsFrom_179 : decode cX8_fillsFrom 179 = .ok (.iload_n 2, 1) := by decide +kernel
theorem dX8_fillsFrom_180 : decode cX8_fillsFrom 180 = .ok (.iload 5, 2) := by decide +kernel
theorem dX8_fillsFrom_182 : decode cX8_fillsFrom 182 = .ok (.iastore, 1) := by decide +kernel
theorem dX8_fillsFrom_183 : decode cX8_fillsFrom 183 = .ok (.aload_n 0, 1) := by decide +kernel
theorem dX8_fillsFrom_184 : decode cX8_fillsFrom 184 = .ok (.iload 6, 2) := by decide +kernel
theorem dX8_fillsFrom_186 : decode cX8_fillsFrom 186 = .ok (.iload_n 2, 1) := by decide +kernel
theorem dX8_fillsFrom_187 : decode cX8_fillsFrom 187 = .ok (.iconst 1, 1) := by decide +kernel
theorem dX8_fillsFrom_188 : decode cX8_fillsFrom 188 = .ok (.iadd, 1) := by decide +kernel
theorem dX8_fillsFrom_189 : decode cX8_fillsFrom 189 = .ok (.iload_n 3, 1) := by decide +kernel
theorem dX8_fillsFrom_190 : decode cX8_fillsFrom 190 = .ok (.aload_n 0, 1) := by decide +kernel
theorem dX8_fillsFrom_191 : decode cX8_fillsFrom 191 = .ok (.iload 5, 2) := by decide +kernel
theorem dX8_fillsFrom_193 : decode cX8_fillsFrom 193 = .ok (.invokevirtual 196, 3) := by decide +kernel
theorem dX8_fillsFrom_196 : decode cX8_fillsFrom 196 = .ok (.iadd, 1) := by decide +kernel
theorem dX8_fillsFrom_197 : decode cX8_fillsFrom 197 = .ok (.iload 4, 2) := by decide +kernel
theorem dX8_fillsFrom_199 : decode cX8_fillsFrom 199 = .ok (.invokevirtual 199, 3) := by decide +kernel
theorem dX8_fillsFrom_202 : decode cX8_fillsFrom 202 = .ok (.aload_n 0, 1) := by decide +kernel
theorem dX8_fillsFrom_203 : decode cX8_fillsFrom 203 = .ok (.iload 5, 2) := by decide +kernel
theorem dX8_fillsFrom_205 : decode cX8_fillsFrom 205 = .ok (.iconst (-1), 1) := by decide +kernel
theorem dX8_fillsFrom_206 : decode cX8_fillsFrom 206 = .ok (.invokevirtual 174, 3) := by decide +kernel
theorem dX8_fillsFrom_209 : decode cX8_fillsFrom 209 = .ok (.iinc 5 1, 3) := by decide +kernel
theorem dX8_fillsFrom_212 : decode cX8_fillsFrom 212 = .ok (.goto (-108), 3) := by decide +kernel
theorem dX8_fillsFrom_215 : decode cX8_fillsFrom 215 = .ok (.return_, 1) := by decide +kernel
set_option maxRecDepth 20000 in
theorem ggX8_findFills_X8_fillsFrom : GoodIn wsX8_findFills wsX8_fillsFrom := goodIn_r _ [9, 2, 10, 11, 3, 4, 12, 13, 14, 1, 15, 16, 17, 8, 18, 19, 20, 21, 22, 23, 24, 25, 26, 27, 28, 29, 30, 31, 32, 33, 34, 35, 36, 37, 38, 39, 40, 41, 42, 43, 44, 45, 46, 5, 6, 7, 47, 48, 49, 50, 51, 52, 53, 54, 55, 56, 57, 58, 59, 60, 61, 62, 63, 64, 65, 66, 67, 68, 69, 70, 71, 72, 73, 74, 75, 76, 77, 78, 79, 80, 81, 82, 83] (by decide +kernel) (by decide +kernel)
set_option maxRecDepth 20000 in
theorem gX8_findFills_X8_fillsFrom : GoodIn wsX8_findFills (wsV RX8 199 RX8 yX8_fillsFrom wsX8_fillsFrom) := goodIn_app (goodIn_of _ (by decide +kernel)) ggX8_findFills_X8_fillsFrom
theorem dX8_findFills_0 : decode cX8_findFills 0 = .ok (.aload_n 0, 1) := by decide +kernel
theorem dX8_findFills_1 : decode cX8_findFills 1 = .ok (.iload_n 1, 1) := by decide +kernel
theorem dX8_findFills_2 : decode cX8_findFills 2 = .ok (.putfield 193, 3) := by decide +kernel
theorem dX8_findFills_5 : decode cX8_findFills 5 = .ok (.aload_n 0, 1) := by decide +kernel
theorem dX8_findFills_6 : decode cX8_findFills 6 = .ok (.iload_n 3, 1) := by decide +kernel
theorem dX8_findFills_7 : decode cX8_findFills 7 = .ok (.putfield 178, 3) := by decide +kernel
theorem dX8_findFills_10 : decode cX8_findFills 10 = .ok (.aload_n 0, 1) := by decide +kernel
theorem dX8_findFills_11 : decode cX8_findFills 11 = .ok (.iconst 0, 1) := by decide +kernel
theorem dX8_findFills_12 : decode cX8_findFills 12 = .ok (.putfield 184, 3) := by decide +kernel
theorem dX8_findFills_15 : decode cX8_findFills 15 = .ok (.aload_n 0, 1) := by decide +kernel
theorem dX8_findFills_16 : decode cX8_findFills 16 = .ok (.iconst (-1), 1) := by decide +kernel
theorem dX8_findFills_17 : decode cX8_findFills 17 = .ok (.putfield 187, 3) := by decide +kernel
theorem dX8_findFills_20 : decode cX8_findFills 20 = .ok (.aload_n 0, 1) := by decide +kernel
theorem dX8_findFills_21 : decode cX8_findFills 21 = .ok (.iload_n 2, 1) := by decide +kernel
theorem dX8_findFills_22 : decode cX8_findFills 22 = .ok (.iconst 0, 1) := by decide +kernel
theorem dX8_findFills_23 : decode cX8_findFills 23 = .ok (.iconst 0, 1) := by decide +kernel
theorem dX8_findFills_24 : decode cX8_findFills 24 = .ok (.iload 4, 2) := by decide +kernel
theorem dX8_findFills_26 : decode cX8_findFills 26 = .ok (.invokevirtual 199, 3) := by decide +kernel
theorem dX8_findFills_29 : decode cX8_findFills 29 = .ok (.aload_n 0, 1) := by decide +kernel
theorem dX8_findFills_30 : decode cX8_findFills 30 = .ok (.getfield 184, 3) := by decide +kernel
theorem dX8_findFills_33 : decode cX8_findFills 33 = .ok (.ireturn, 1) := by decide +kernel
set_option maxRecDepth 20000 in
theorem ggX8_fillsOf_X8_lengthOf : GoodIn wsX8_fillsOf wsX8_lengthOf := goodIn_r _ [6, 7, 55, 56, 57, 58, 59, 60, 61, 62, 63, 64, 65, 66, 67, 68, 69, 70, 71, 72, 73, 74, 75, 76, 77, 78, 79, 80, 81, 82, 83, 84, 85, 86, 87, 88, 89, 90, 91] (by decide +kernel) (by decide +kernel)
set_option maxRecDepth 20000 in
theorem gX8_fillsOf_X8_lengthOf : GoodIn wsX8_fillsOf (wsV RX8 149 RX8 yX8_lengthOf wsX8_lengthOf) := goodIn_app (goodIn_of _ (by decide +kernel)) ggX8_fillsOf_X8_lengthOf
set_option maxRecDepth 20000 in
theorem ggX8_fillsOf_X8_findFills : GoodIn wsX8_fillsOf wsX8_findFills := goodIn_r _ [11, 12, 13, 14, 15, 16, 17, 18, 5, 19, 1, 20, 21, 22, 7, 23, 24, 25, 26, 27, 28, 29, 30, 31, 32, 33, 34, 35, 36, 37, 38, 39, 40, 41, 42, 43, 44, 45, 46, 47, 48, 49, 50, 51, 52, 53, 54, 55, 56, 57, 58, 59, 60, 61, 62, 63, 64, 65, 66, 67, 68, 69, 70, 71, 72, 73, 74, 75, 76, 77, 78, 79, 80, 81, 82, 83, 84, 85, 86, 87, 88, 89, 90, 91] (by decide +kernel) (by decide +kernel)
set_option maxRecDepth 20000 in
theorem gX8_fillsOf_X8_findFills : GoodIn wsX8_fillsOf (wsV RX8 203 RX8 yX8_findFills wsX8_findFills) := goodIn_app (goodIn_of _ (by decide +kernel)) ggX8_fillsOf_X8_findFills
theorem dX8_fillsOf_0 : decode cX8_fillsOf 0 = .ok (.aload_n 0, 1) := by decide +kernel
theorem dX8_fillsOf_1 : decode cX8_fillsOf 1 = .ok (.bipush (-4), 2) := by decide +kernel
theorem dX8_fillsOf_3 : decode cX8_fillsOf 3 = .ok (.putfield 181, 3) := by decide +kernel
theorem dX8_fillsOf_6 : decode cX8_fillsOf 6 = .ok (.aload_n 0, 1) := by decide +kernel
theorem dX8_fillsOf_7 : decode cX8_fillsOf 7 = .ok (.iload_n 1, 1) := by decide +kernel
theorem dX8_fillsOf_8 : decode cX8_fillsOf 8 = .ok (.iconst 0, 1) := by decide +kernel
theorem dX8_fillsOf_9 : decode cX8_fillsOf 9 = .ok (.aload_n 0, 1) := by decide +kernel
theorem dX8_fillsOf_10 : decode cX8_fillsOf 10 = .ok (.iload_n 1, 1) := by decide +kernel
theorem dX8_fillsOf_11 : decode cX8_fillsOf 11 = .ok (.invokevirtual 149, 3) := by decide +kernel
theorem dX8_fillsOf_14 : decode cX8_fillsOf 14 = .ok (.iconst 0, 1) := by decide +kernel
theorem dX8_fillsOf_15 : decode cX8_fillsOf 15 = .ok (.invokevirtual 203, 3) := by decide +kernel
theorem dX8_fillsOf_18 : decode cX8_fillsOf 18 = .ok (.ireturn, 1) := by decide +kernel
set_option maxRecDepth 20000 in
theorem ggX8_wrong_X8_isRow : GoodIn wsX8_wrong wsX8_isRow := goodIn_r _ [5, 6, 7, 8, 4, 9, 18, 19, 20, 21, 22, 23, 24, 25, 26, 27, 28, 29, 30, 31, 32, 33, 34, 35, 36, 37, 38, 39, 40, 41, 42, 43, 44, 45, 46, 47, 48, 49, 50, 51, 52, 53, 54] (by decide +kernel) (by decide +kernel)
set_option maxRecDepth 20000 in
theorem gX8_wrong_X8_isRow : GoodIn wsX8_wrong (wsV RX8 152 RX8 yX8_isRow wsX8_isRow) := goodIn_app (goodIn_of _ (by decide +kernel)) ggX8_wrong_X8_isRow
set_option maxRecDepth 20000 in
theorem ggX8_wrong_X8_isLaid : GoodIn wsX8_wrong wsX8_isLaid := goodIn_r _ [13, 14, 15, 16, 4, 17, 6, 18, 19, 20, 21, 22, 23, 24, 25, 26, 27, 28, 29, 30, 31, 32, 33, 34, 35, 36, 37, 38, 39, 40, 41, 42, 43, 44, 45, 46, 47, 48, 49, 50, 51, 52, 53, 54] (by decide +kernel) (by decide +kernel)
set_option maxRecDepth 20000 in
theorem gX8_wrong_X8_isLaid : GoodIn wsX8_wrong (wsV RX8 143 RX8 yX8_isLaid wsX8_isLaid) := goodIn_app (goodIn_of _ (by decide +kernel)) ggX8_wrong_X8_isLaid
theorem dX8_wrong_0 : decode cX8_wrong 0 = .ok (.aload_n 0, 1) := by decide +kernel
theorem dX8_wrong_1 : decode cX8_wrong 1 = .ok (.iload_n 1, 1) := by decide +kernel
theorem dX8_wrong_2 : decode cX8_wrong 2 = .ok (.invokevirtual 152, 3) := by decide +kernel
theorem dX8_wrong_5 : decode cX8_wrong 5 = .ok (.ifCond .ne 7, 3) := by decide +kernel
theorem dX8_wrong_8 : decode cX8_wrong 8 = .ok (.iconst (-1), 1) := by decide +kernel
theorem dX8_wrong_9 : decode cX8_wrong 9 = .ok (.goto 17, 3) := by decide +kernel
theorem dX8_wrong_12 : decode cX8_wrong 12 = .ok (.aload_n 0, 1) := by decide +kernel
theorem dX8_wrong_13 : decode cX8_wrong 13 = .ok (.iload_n 1, 1) := by decide +kernel
theorem dX8_wrong_14 : decode cX8_wrong 14 = .ok (.invokevirtual 143, 3) := by decide +kernel
theorem dX8_wrong_17 : decode cX8_wrong 17 = .ok (.ifCond .eq 8, 3) := by decide +kernel
theorem dX8_wrong_20 : decode cX8_wrong 20 = .ok (.bipush (-3), 2) := by decide +kernel
theorem dX8_wrong_22 : decode cX8_wrong 22 = .ok (.goto 4, 3) := by decide +kernel
theorem dX8_wrong_25 : decode cX8_wrong 25 = .ok (.iconst 0, 1) := by decide +kernel
theorem dX8_wrong_26 : decode cX8_wrong 26 = .ok (.ireturn, 1) := by decide +kernel
set_option maxRecDepth 20000 in
theorem ggX8_fills_X8_wrong : GoodIn wsX8_fills wsX8_wrong := goodIn_r _ [5, 6, 7, 8, 4, 9, 10, 11, 12, 13, 14, 15, 16, 17, 18, 19, 20, 21, 74, 75, 76, 77, 78, 79, 80, 81, 82, 83, 84, 85, 86, 87, 88, 89, 90, 91, 92, 93, 94, 95, 96, 97, 98, 99, 100, 101, 102, 103, 104, 105, 106, 107, 108, 109, 110] (by decide +kernel) (by decide +kernel)
set_option maxRecDepth 20000 in
theorem gX8_fills_X8_wrong : GoodIn wsX8_fills (wsV RX8 207 RX8 yX8_wrong wsX8_wrong) := goodIn_app (goodIn_of _ (by decide +kernel)) ggX8_fills_X8_wrong
set_option maxRecDepth 20000 in
theorem ggX8_fills_X8_fillsOf : GoodIn wsX8_fills wsX8_fillsOf := goodIn_r _ [25, 26, 27, 28, 29, 4, 30, 10, 31, 32, 33, 34, 35, 36, 37, 38, 39, 40, 41, 42, 43, 44, 45, 46, 47, 48, 49, 50, 51, 52, 53, 54, 55, 56, 57, 18, 19, 20, 21, 58, 59, 60, 61, 62, 63, 64, 65, 66, 67, 68, 69, 70, 71, 72, 73, 74, 75, 76, 77, 78, 79, 80, 81, 82, 83, 84, 85, 86, 87, 88, 89, 90, 91, 92, 93, 94, 95, 96, 97, 98, 99, 100, 101, 102, 103, 104, 105, 106, 107, 108, 109, 110] (by decide +kernel) (by decide +kernel)
set_option maxRecDepth 20000 in
theorem gX8_fills_X8_fillsOf : GoodIn wsX8_fills (wsV RX8 210 RX8 yX8_fillsOf wsX8_fillsOf) := goodIn_app (goodIn_of _ (by decide +kernel)) ggX8_fills_X8_fillsOf
theorem dX8_fills_0 : decode cX8_fills 0 = .ok (.aload_n 0, 1) := by decide +kernel
theorem dX8_fills_1 : decode cX8_fills 1 = .ok (.iload_n 1, 1) := by decide +kernel
theorem dX8_fills_2 : decode cX8_fills 2 = .ok (.invokevirtual 207, 3) := by decide +kernel
theorem dX8_fills_5 : decode cX8_fills 5 = .ok (.istore_n 2, 1) := by decide +kernel
theorem dX8_fills_6 : decode cX8_fills 6 = .ok (.iload_n 2, 1) := by decide +kernel
theorem dX8_fills_7 : decode cX8_fills 7 = .ok (.ifCond .eq 7, 3) := by decide +kernel
theorem dX8_fills_10 : decode cX8_fills 10 = .ok (.iload_n 2, 1) := by decide +kernel
theorem dX8_fills_11 : decode cX8_fills 11 = .ok (.goto 8, 3) := by decide +kernel
theorem dX8_fills_14 : decode cX8_fills 14 = .ok (.aload_n 0, 1) := by decide +kernel
theorem dX8_fills_15 : decode cX8_fills 15 = .ok (.iload_n 1, 1) := by decide +kernel
theorem dX8_fills_16 : decode cX8_fills 16 = .ok (.invokevirtual 210, 3) := by decide +kernel
theorem dX8_fills_19 : decode cX8_fills 19 = .ok (.ireturn, 1) := by decide +kernel
theorem dX8_foundAt_0 : decode cX8_foundAt 0 = .ok (.iload_n 1, 1) := by decide +kernel
theorem dX8_foundAt_1 : decode cX8_foundAt 1 = .ok (.aload_n 0, 1) := by decide +kernel
theorem dX8_foundAt_2 : decode cX8_foundAt 2 = .ok (.getfield 187, 3) := by decide +kernel
theorem dX8_foundAt_5 : decode cX8_foundAt 5 = .ok (.if_icmp .ge 12, 3) := by decide +kernel
theorem dX8_foundAt_8 : decode cX8_foundAt 8 = .ok (.aload_n 0, 1) := by decide +kernel
theorem dX8_foundAt_9 : decode cX8_foundAt 9 = .ok (.getfield 49, 3) := by decide +kernel
theorem dX8_foundAt_12 : decode cX8_foundAt 12 = .ok (.iload_n 1, 1) := by decide +kernel
theorem dX8_foundAt_13 : decode cX8_foundAt 13 = .ok (.iaload, 1) := by decide +kernel
theorem dX8_foundAt_14 : decode cX8_foundAt 14 = .ok (.goto 5, 3) := by decide +kernel
theorem dX8_foundAt_17 : decode cX8_foundAt 17 = .ok (.bipush (-4), 2) := by decide +kernel
theorem dX8_foundAt_19 : decode cX8_foundAt 19 = .ok (.ireturn, 1) := by decide +kernel
set_option maxRecDepth 20000 in
theorem ggX8_first_X8_wrong : GoodIn wsX8_first wsX8_wrong := goodIn_r _ [5, 6, 7, 8, 4, 9, 10, 11, 12, 13, 14, 15, 16, 17, 18, 19, 20, 21, 78, 79, 80, 81, 82, 83, 84, 85, 86, 87, 88, 89, 90, 91, 92, 93, 94, 95, 96, 97, 98, 99, 100, 101, 102, 103, 104, 105, 106, 107, 108, 109, 110, 111, 112, 113, 114] (by decide +kernel) (by decide +kernel)
set_option maxRecDepth 20000 in
theorem gX8_first_X8_wrong : GoodIn wsX8_first (wsV RX8 207 RX8 yX8_wrong wsX8_wrong) := goodIn_app (goodIn_of _ (by decide +kernel)) ggX8_first_X8_wrong
set_option maxRecDepth 20000 in
theorem ggX8_first_X8_fillsOf : GoodIn wsX8_first wsX8_fillsOf := goodIn_r _ [25, 26, 27, 28, 29, 4, 30, 10, 31, 32, 33, 34, 35, 36, 37, 38, 39, 40, 41, 42, 43, 44, 45, 46, 47, 48, 49, 50, 51, 52, 53, 54, 55, 56, 57, 18, 19, 20, 21, 58, 59, 60, 61, 62, 63, 64, 65, 66, 67, 68, 69, 70, 71, 72, 73, 78, 79, 80, 81, 82, 83, 84, 85, 86, 87, 88, 89, 90, 91, 92, 93, 94, 95, 96, 97, 98, 99, 100, 101, 102, 103, 104, 105, 106, 107, 108, 109, 110, 111, 112, 113, 114] (by decide +kernel) (by decide +kernel)
set_option maxRecDepth 20000 in
theorem gX8_first_X8_fillsOf : GoodIn wsX8_first (wsV RX8 210 RX8 yX8_fillsOf wsX8_fillsOf) := goodIn_app (goodIn_of _ (by decide +kernel)) ggX8_first_X8_fillsOf
set_option maxRecDepth 20000 in
theorem ggX8_first_X8_foundAt : GoodIn wsX8_first wsX8_foundAt := goodIn_r _ [77, 38, 45, 78, 79, 80, 81, 82, 83, 84, 85, 86, 87, 88, 89, 90, 91, 92, 93, 94, 95, 96, 97, 98, 99, 100, 101, 102, 103, 104, 105, 106, 107, 108, 109, 110, 111, 112, 113, 114] (by decide +kernel) (by decide +kernel)
set_option maxRecDepth 20000 in
theorem gX8_first_X8_foundAt : GoodIn wsX8_first (wsV RX8 213 RX8 yX8_foundAt wsX8_foundAt) := goodIn_app (goodIn_of _ (by decide +kernel)) ggX8_first_X8_foundAt
theorem dX8_first_0 : decode cX8_first 0 = .ok (.iload_n 2, 1) := by decide +kernel
theorem dX8_first_1 : decode cX8_first 1 = .ok (.ifCond .ge 5, 3) := by decide +kernel
theorem dX8_first_4 : decode cX8_first 4 = .ok (.iconst (-1), 1) := by decide +kernel
theorem dX8_first_5 : decode cX8_first 5 = .ok (.ireturn, 1) := by decide +kernel
theorem dX8_first_6 : decode cX8_first 6 = .ok (.aload_n 0, 1) := by decide +kernel
theorem dX8_first_7 : decode cX8_first 7 = .ok (.iload_n 1, 1) := by decide +kernel
theorem dX8_first_8 : decode cX8_first 8 = .ok (.invokevirtual 207, 3) := by decide +kernel
theorem dX8_first_11 : decode cX8_first 11 = .ok (.istore_n 3, 1) := by decide +kernel
theorem dX8_first_12 : decode cX8_first 12 = .ok (.iload_n 3, 1) := by decide +kernel
theorem dX8_first_13 : decode cX8_first 13 = .ok (.ifCond .eq 5, 3) := by decide +kernel
theorem dX8_first_16 : decode cX8_first 16 = .ok (.iload_n 3, 1) := by decide +kernel
theorem dX8_first_17 : decode cX8_first 17 = .ok (.ireturn, 1) := by decide +kernel
theorem dX8_first_18 : decode cX8_first 18 = .ok (.aload_n 0, 1) := by decide +kernel
theorem dX8_first_19 : decode cX8_first 19 = .ok (.iload_n 1, 1) := by decide +kernel
theorem dX8_first_20 : decode cX8_first 20 = .ok (.invokevirtual 210, 3) := by decide +kernel
theorem dX8_first_23 : decode cX8_first 23 = .ok (.istore 4, 2) := by decide +kernel
theorem dX8_first_25 : decode cX8_first 25 = .ok (.aload_n 0, 1) := by decide +kernel
theorem dX8_first_26 : decode cX8_first 26 = .ok (.iload_n 2, 1) := by decide +kernel
theorem dX8_first_27 : decode cX8_first 27 = .ok (.invokevirtual 213, 3) := by decide +kernel
theorem dX8_first_30 : decode cX8_first 30 = .ok (.ireturn, 1) := by decide +kernel
set_option maxRecDepth 20000 in
theorem ggX8_findBest_X8_lengthOf : GoodIn wsX8_findBest wsX8_lengthOf := goodIn_r _ [6, 7, 55, 56, 57, 58, 59, 60, 61, 62, 63, 64, 65, 66, 67, 68, 69, 70, 71, 72, 73, 74, 75, 76, 77, 78, 79, 80, 81, 82, 83, 84, 85, 86, 87, 88, 89, 90, 91] (by decide +kernel) (by decide +kernel)
set_option maxRecDepth 20000 in
theorem gX8_findBest_X8_lengthOf : GoodIn wsX8_findBest (wsV RX8 149 RX8 yX8_lengthOf wsX8_lengthOf) := goodIn_app (goodIn_of _ (by decide +kernel)) ggX8_findBest_X8_lengthOf
set_option maxRecDepth 20000 in
theorem ggX8_findBest_X8_findFills : GoodIn wsX8_findBest wsX8_findFills := goodIn_r _ [11, 12, 13, 14, 15, 16, 17, 18, 5, 19, 1, 20, 21, 22, 7, 23, 24, 25, 26, 27, 28, 29, 30, 31, 32, 33, 34, 35, 36, 37, 38, 39, 40, 41, 42, 43, 44, 45, 46, 47, 48, 49, 50, 51, 52, 53, 54, 55, 56, 57, 58, 59, 60, 61, 62, 63, 64, 65, 66, 67, 68, 69, 70, 71, 72, 73, 74, 75, 76, 77, 78, 79, 80, 81, 82, 83, 84, 85, 86, 87, 88, 89, 90, 91] (by decide +kernel) (by decide +kernel)
set_option maxRecDepth 20000 in
theorem gX8_findBest_X8_findFills : GoodIn wsX8_findBest (wsV RX8 203 RX8 yX8_findFills wsX8_findFills) := goodIn_app (goodIn_of _ (by decide +kernel)) ggX8_findBest_X8_findFills
theorem dX8_findBest_0 : decode cX8_findBest 0 = .ok (.aload_n 0, 1) := by decide +kernel
theorem dX8_findBest_1 : decode cX8_findBest 1 = .ok (.bipush (-4), 2) := by decide +kernel
theorem dX8_findBest_3 : decode cX8_findBest 3 = .ok (.putfield 181, 3) := by decide +kernel
theorem dX8_findBest_6 : decode cX8_findBest 6 = .ok (.aload_n 0, 1) := by decide +kernel
theorem dX8_findBest_7 : decode cX8_findBest 7 = .ok (.iload_n 1, 1) := by decide +kernel
theorem dX8_findBest_8 : decode cX8_findBest 8 = .ok (.iconst 0, 1) := by decide +kernel
theorem dX8_findBest_9 : decode cX8_findBest 9 = .ok (.aload_n 0, 1) := by decide +kernel
theorem dX8_findBest_10 : decode cX8_findBest 10 = .ok (.iload_n 1, 1) := by decide +kernel
theorem dX8_findBest_11 : decode cX8_findBest 11 = .ok (.invokevirtual 149, 3) := by decide +kernel
theorem dX8_findBest_14 : decode cX8_findBest 14 = .ok (.iconst 1, 1) := by decide +kernel
theorem dX8_findBest_15 : decode cX8_findBest 15 = .ok (.invokevirtual 203, 3) := by decide +kernel
theorem dX8_findBest_18 : decode cX8_findBest 18 = .ok (.ifCond .le 7, 3) := by decide +kernel
theorem dX8_findBest_21 : decode cX8_findBest 21 = .ok (.iconst 1, 1) := by decide +kernel
theorem dX8_findBest_22 : decode cX8_findBest 22 = .ok (.goto 4, 3) := by decide +kernel
theorem dX8_findBest_25 : decode cX8_findBest 25 = .ok (.iconst 0, 1) := by decide +kernel
theorem dX8_findBest_26 : decode cX8_findBest 26 = .ok (.ireturn, 1) := by decide +kernel
set_option maxRecDepth 20000 in
theorem ggX8_best_X8_wrong : GoodIn wsX8_best wsX8_wrong := goodIn_r _ [6, 7, 8, 9, 5, 10, 11, 12, 13, 14, 15, 16, 17, 18, 19, 20, 21, 22, 78, 79, 80, 81, 82, 83, 84, 85, 86, 87, 88, 89, 90, 91, 92, 93, 94, 95, 96, 97, 98, 99, 100, 101, 102, 103, 104, 105, 106, 107, 108, 109, 110, 111, 112, 113, 114] (by decide +kernel) (by decide +kernel)
set_option maxRecDepth 20000 in
theorem gX8_best_X8_wrong : GoodIn wsX8_best (wsV RX8 207 RX8 yX8_wrong wsX8_wrong) := goodIn_app (goodIn_of _ (by decide +kernel)) ggX8_best_X8_wrong
set_option maxRecDepth 20000 in
theorem ggX8_best_X8_findBest : GoodIn wsX8_best wsX8_findBest := goodIn_r _ [26, 27, 28, 29, 30, 5, 31, 11, 32, 33, 34, 35, 36, 37, 38, 39, 40, 41, 42, 43, 44, 1, 45, 46, 47, 48, 49, 50, 51, 52, 53, 54, 55, 56, 57, 19, 20, 21, 22, 58, 59, 60, 61, 62, 63, 64, 65, 66, 67, 68, 69, 70, 71, 72, 73, 78, 79, 80, 81, 82, 83, 84, 85, 86, 87, 88, 89, 90, 91, 92, 93, 94, 95, 96, 97, 98, 99, 100, 101, 102, 103, 104, 105, 106, 107, 108, 109, 110, 111, 112, 113, 114] (by decide +kernel) (by decide +kernel)
set_option maxRecDepth 20000 in
theorem gX8_best_X8_findBest : GoodIn wsX8_best (wsV RX8 216 RX8 yX8_findBest wsX8_findBest) := goodIn_app (goodIn_of _ (by decide +kernel)) ggX8_best_X8_findBest
set_option maxRecDepth 20000 in
theorem ggX8_best_X8_foundAt : GoodIn wsX8_best wsX8_foundAt := goodIn_r _ [77, 39, 45, 78, 79, 80, 81, 82, 83, 84, 85, 86, 87, 88, 89, 90, 91, 92, 93, 94, 95, 96, 97, 98, 99, 100, 101, 102, 103, 104, 105, 106, 107, 108, 109, 110, 111, 112, 113, 114] (by decide +kernel) (by decide +kernel)
set_option maxRecDepth 20000 in
theorem gX8_best_X8_foundAt : GoodIn wsX8_best (wsV RX8 213 RX8 yX8_foundAt wsX8_foundAt) := goodIn_app (goodIn_of _ (by decide +kernel)) ggX8_best_X8_foundAt
theorem dX8_best_0 : decode cX8_best 0 = .ok (.iload_n 2, 1) := by decide +kernel
theorem dX8_best_1 : decode cX8_best 1 = .ok (.iconst (-1), 1) := by decide +kernel
theorem dX8_best_2 : decode cX8_best 2 = .ok (.if_icmp .ge 5, 3) := by decide +kernel
theorem dX8_best_5 : decode cX8_best 5 = .ok (.iconst (-1), 1) := by decide +kernel
theorem dX8_best_6 : decode cX8_best 6 = .ok (.ireturn, 1) := by decide +kernel
theorem dX8_best_7 : decode cX8_best 7 = .ok (.aload_n 0, 1) := by decide +kernel
theorem dX8_best_8 : decode cX8_best 8 = .ok (.iload_n 1, 1) := by decide +kernel
theorem dX8_best_9 : decode cX8_best 9 = .ok (.invokevirtual 207, 3) := by decide +kernel
theorem dX8_best_12 : decode cX8_best 12 = .ok (.istore_n 3, 1) := by decide +kernel
theorem dX8_best_13 : decode cX8_best 13 = .ok (.iload_n 3, 1) := by decide +kernel
theorem dX8_best_14 : decode cX8_best 14 = .ok (.ifCond .eq 5, 3) := by decide +kernel
theorem dX8_best_17 : decode cX8_best 17 = .ok (.iload_n 3, 1) := by decide +kernel
theorem dX8_best_18 : decode cX8_best 18 = .ok (.ireturn, 1) := by decide +kernel
theorem dX8_best_19 : decode cX8_best 19 = .ok (.aload_n 0, 1) := by decide +kernel
theorem dX8_best_20 : decode cX8_best 20 = .ok (.iload_n 1, 1) := by decide +kernel
theorem dX8_best_21 : decode cX8_best 21 = .ok (.invokevirtual 216, 3) := by decide +kernel
theorem dX8_best_24 : decode cX8_best 24 = .ok (.ifCond .ne 6, 3) := by decide +kernel
theorem dX8_best_27 : decode cX8_best 27 = .ok (.bipush (-4), 2) := by decide +kernel
theorem dX8_best_29 : decode cX8_best 29 = .ok (.ireturn, 1) := by decide +kernel
theorem dX8_best_30 : decode cX8_best 30 = .ok (.iload_n 2, 1) := by decide +kernel
theorem dX8_best_31 : decode cX8_best 31 = .ok (.ifCond .ge 10, 3) := by decide +kernel
theorem dX8_best_34 : decode cX8_best 34 = .ok (.aload_n 0, 1) := by decide +kernel
theorem dX8_best_35 : decode cX8_best 35 = .ok (.getfield 190, 3) := by decide +kernel
theorem dX8_best_38 : decode cX8_best 38 = .ok (.goto 8, 3) := by decide +kernel
theorem dX8_best_41 : decode cX8_best 41 = .ok (.aload_n 0, 1) := by decide +kernel
theorem dX8_best_42 : decode cX8_best 42 = .ok (.iload_n 2, 1) := by decide +kernel
theorem dX8_best_43 : decode cX8_best 43 = .ok (.invokevirtual 213, 3) := by decide +kernel
theorem dX8_best_46 : decode cX8_best 46 = .ok (.ireturn, 1) := by decide +kernel
set_option maxRecDepth 20000 in
theorem ggX8_cutsFrom_X8_inches : GoodIn wsX8_cutsFrom wsX8_inches := goodIn_r _ [10, 1, 42, 43, 44, 45, 46, 47, 48, 49, 50, 51, 52, 53, 54, 55, 56, 57, 58, 59, 60, 61, 62, 63, 64, 65, 66, 67, 68, 69, 70, 71, 72, 73, 74, 75, 76, 77, 78] (by decide +kernel) (by decide +kernel)
set_option maxRecDepth 20000 in
theorem gX8_cutsFrom_X8_inches : GoodIn wsX8_cutsFrom (wsV RX8 140 RX8 yX8_inches wsX8_inches) := goodIn_app (goodIn_of _ (by decide +kernel)) ggX8_cutsFrom_X8_inches
set_option maxRecDepth 20000 in
theorem ggX8_cutsFrom_X8_many : GoodIn wsX8_cutsFrom wsX8_many := goodIn_r _ [14, 1, 42, 43, 44, 45, 46, 47, 48, 49, 50, 51, 52, 53, 54, 55, 56, 57, 58, 59, 60, 61, 62, 63, 64, 65, 66, 67, 68, 69, 70, 71, 72, 73, 74, 75, 76, 77, 78] (by decide +kernel) (by decide +kernel)
set_option maxRecDepth 20000 in
theorem gX8_cutsFrom_X8_many : GoodIn wsX8_cutsFrom (wsV RX8 165 RX8 yX8_many wsX8_many) := goodIn_app (goodIn_of _ (by decide +kernel)) ggX8_cutsFrom_X8_many
set_option maxRecDepth 20000 in
theorem ggX8_cutsFrom_X8_lengthOf : GoodIn wsX8_cutsFrom wsX8_lengthOf := goodIn_r _ [18, 1, 42, 43, 44, 45, 46, 47, 48, 49, 50, 51, 52, 53, 54, 55, 56, 57, 58, 59, 60, 61, 62, 63, 64, 65, 66, 67, 68, 69, 70, 71, 72, 73, 74, 75, 76, 77, 78] (by decide +kernel) (by decide +kernel)
set_option maxRecDepth 20000 in
theorem gX8_cutsFrom_X8_lengthOf : GoodIn wsX8_cutsFrom (wsV RX8 149 RX8 yX8_lengthOf wsX8_lengthOf) := goodIn_app (goodIn_of _ (by decide +kernel)) ggX8_cutsFrom_X8_lengthOf
set_option maxRecDepth 20000 in
theorem ggX8_cutsFrom_X8_mayBe : GoodIn wsX8_cutsFrom wsX8_mayBe := goodIn_r _ [22, 1, 23, 24, 25, 9, 26, 27, 28, 29, 30, 31, 32, 33, 34, 6, 7, 8, 10, 42, 43, 44, 45, 46, 47, 48, 49, 50, 51, 52, 53, 54, 55, 56, 57, 58, 59, 60, 61, 62, 63, 64, 65, 66, 67, 68, 69, 70, 71, 72, 73, 74, 75, 76, 77, 78] (by decide +kernel) (by decide +kernel)
set_option maxRecDepth 20000 in
theorem gX8_cutsFrom_X8_mayBe : GoodIn wsX8_cutsFrom (wsV RX8 161 RX8 yX8_mayBe wsX8_mayBe) := goodIn_app (goodIn_of _ (by decide +kernel)) ggX8_cutsFrom_X8_mayBe
set_option maxRecDepth 20000 in
theorem ggX8_cutsFrom_X8_leaves : GoodIn wsX8_cutsFrom wsX8_leaves := goodIn_r _ [38, 1, 42, 43, 44, 45, 46, 47, 48, 49, 50, 51, 52, 53, 54, 55, 56, 57, 58, 59, 60, 61, 62, 63, 64, 65, 66, 67, 68, 69, 70, 71, 72, 73, 74, 75, 76, 77, 78] (by decide +kernel) (by decide +kernel)
set_option maxRecDepth 20000 in
theorem gX8_cutsFrom_X8_leaves : GoodIn wsX8_cutsFrom (wsV RX8 174 RX8 yX8_leaves wsX8_leaves) := goodIn_app (goodIn_of _ (by decide +kernel)) ggX8_cutsFrom_X8_leaves
set_option maxRecDepth 20000 in
theorem ggX8_cutsFrom_X8_cutsFrom : GoodIn wsX8_cutsFrom wsX8_cutsFrom := goodIn_r _ [0, 1, 2, 3, 4, 5, 6, 7, 8, 9, 10, 11, 12, 13, 14, 15, 16, 17, 18, 19, 20, 21, 22, 23, 24, 25, 26, 27, 28, 29, 30, 31, 32, 33, 34, 35, 36, 37, 38, 39, 40, 41, 42, 43, 44, 45, 46, 47, 48, 49, 50, 51, 52, 53, 54, 55, 56, 57, 58, 59, 60, 61, 62, 63, 64, 65, 66, 67, 68, 69, 70, 71, 72, 73, 74, 75, 76, 77, 78] (by decide +kernel) (by decide +kernel)
set_option maxRecDepth 20000 in
theorem gX8_cutsFrom_X8_cutsFrom : GoodIn wsX8_cutsFrom (wsV RX8 222 RX8 yX8_cutsFrom wsX8_cutsFrom) := goodIn_app (goodIn_of _ (by decide +kernel)) ggX8_cutsFrom_X8_cutsFrom
theorem dX8_cutsFrom_0 : decode cX8_cutsFrom 0 = .ok (.iconst 0, 1) := by decide +kernel
theorem dX8_cutsFrom_1 : decode cX8_cutsFrom 1 = .ok (.istore 4, 2) := by decide +kernel
theorem dX8_cutsFrom_3 : decode cX8_cutsFrom 3 = .ok (.iload 4, 2) := by decide +kernel
theorem dX8_cutsFrom_5 : decode cX8_cutsFrom 5 = .ok (.aload_n 0, 1) := by decide +kernel
theorem dX8_cutsFrom_6 : decode cX8_cutsFrom 6 = .ok (.getfield 9, 3) := by decide +kernel
theorem dX8_cutsFrom_9 : decode cX8_cutsFrom 9 = .ok (.iconst 1, 1) := by decide +kernel
theorem dX8_cutsFrom_10 : decode cX8_cutsFrom 10 = .ok (.iaload, 1) := by decide +kernel
theorem dX8_cutsFrom_11 : decode cX8_cutsFrom 11 = .ok (.if_icmp .ge 179, 3) := by decide +kernel
theorem dX8_cutsFrom_14 : decode cX8_cutsFrom 14 = .ok (.iload_n 2, 1) := by decide +kernel
theorem dX8_cutsFrom_15 : decode cX8_cutsFrom 15 = .ok (.aload_n 0, 1) := by decide +kernel
theorem dX8_cutsFrom_16 : decode cX8_cutsFrom 16 = .ok (.iload 4, 2) := by decide +kernel
theorem dX8_cutsFrom_18 : decode cX8_cutsFrom 18 = .ok (.invokevirtual 140, 3) := by decide +kernel
theorem dX8_cutsFrom_21 : decode cX8_cutsFrom 21 = .ok (.iadd, 1) := by decide +kernel
theorem dX8_cutsFrom_22 : decode cX8_cutsFrom 22 = .ok (.istore 5, 2) := by decide +kernel
theorem dX8_cutsFrom_24 : decode cX8_cutsFrom 24 = .ok (.aload_n 0, 1) := by decide +kernel
theorem dX8_cutsFrom_25 : decode cX8_cutsFrom 25 = .ok (.iload 4, 2) := by decide +kernel
theorem dX8_cutsFrom_27 : decode cX8_cutsFrom 27 = .ok (.invokevirtual 165, 3) := by decide +kernel
theorem dX8_cutsFrom_30 : decode cX8_cutsFrom 30 = .ok (.ifCond .eq 154, 3) := by decide +kernel
theorem dX8_cutsFrom_33 : decode cX8_cutsFrom 33 = .ok (.iload 5, 2) := by decide +kernel
theorem dX8_cutsFrom_35 : decode cX8_cutsFrom 35 = .ok (.aload_n 0, 1) := by decide +kernel
theorem dX8_cutsFrom_36 : decode cX8_cutsFrom 36 = .ok (.iload_n 1, 1) := by decide +kernel
theorem dX8_cutsFrom_37 : decode cX8_cutsFrom 37 = .ok (.invokevirtual 149, 3) := by decide +kernel
theorem dX8_cutsFrom_40 : decode cX8_cutsFrom 40 = .ok (.if_icmp .eq 144, 3) := by decide +kernel
theorem dX8_cutsFrom_43 : decode cX8_cutsFrom 43 = .ok (.iload 5, 2) := by decide +kernel
theorem dX8_cutsFrom_45 : decode cX8_cutsFrom 45 = .ok (.aload_n 0, 1) := by decide +kernel
theorem dX8_cutsFrom_46 : decode cX8_cutsFrom 46 = .ok (.iload_n 1, 1) := by decide +kernel
theorem dX8_cutsFrom_47 : decode cX8_cutsFrom 47 = .ok (.invokevirtual 149, 3) := by decide +kernel
theorem dX8_cutsFrom_50 : decode cX8_cutsFrom 50 = .ok (.if_icmp .ge 16, 3) := by decide +kernel
theorem dX8_cutsFrom_53 : decode cX8_cutsFrom 53 = .ok (.aload_n 0, 1) := by decide +kernel
theorem dX8_cutsFrom_54 : decode cX8_cutsFrom 54 = .ok (.iload_n 1, 1) := by decide +kernel
theorem dX8_cutsFrom_55 : decode cX8_cutsFrom 55 = .ok (.iload 5, 2) := by decide +kernel
theorem dX8_cutsFrom_57 : decode cX8_cutsFrom 57 = .ok (.invokevirtual 161, 3) := by decide +kernel
theorem dX8_cutsFrom_60 : decode cX8_cutsFrom 60 = .ok (.ifCond .ne 6, 3) := by decide +kernel
theorem dX8_cutsFrom_63 : decode cX8_cutsFrom 63 = .ok (.goto 121, 3) := by decide +kernel
theorem dX8_cutsFrom_66 : decode cX8_cutsFrom 66 = .ok (.aload_n 0, 1) := by decide +kernel
theorem dX8_cutsFrom_67 : decode cX8_cutsFrom 67 = .ok (.getfield 46, 3) := by decide +kernel
theorem dX8_cutsFrom_70 : decode cX8_cutsFrom 70 = .ok (.iload_n 3, 1) := by decide +kernel
theorem dX8_cutsFrom_71 : decode cX8_cutsFrom 71 = .ok (.iload 4, 2) := by decide +kernel
theorem dX8_cutsFrom_73 : decode cX8_cutsFrom 73 = .ok (.iastore, 1) := by decide +kernel
theorem dX8_cutsFrom_74 : decode cX8_cutsFrom 74 = .ok (.iload 5, 2) := by decide +kernel
theorem dX8_cutsFrom_76 : decode cX8_cutsFrom 76 = .ok (.aload_n 0, 1) := by decide +kernel
theorem dX8_cutsFrom_77 : decode cX8_cutsFrom 77 = .ok (.iload_n 1, 1) := by decide +kernel
theorem dX8_cutsFrom_78 : decode cX8_cutsFrom 78 = .ok (.invokevirtual 149, 3) := by decide +kernel
theorem dX8_cutsFrom_81 : decode cX8_cutsFrom 81 = .ok (.if_icmp .le 79, 3) := by decide +kernel
theorem dX8_cutsFrom_84 : decode cX8_cutsFrom 84 = .ok (.aload_n 0, 1) := by decide +kernel
theorem dX8_cutsFrom_85 : decode cX8_cutsFrom 85 = .ok (.getfield 187, 3) := by decide +kernel
theorem dX8_cutsFrom_88 : decode cX8_cutsFrom 88 = .ok (.ifCond .lt 21, 3) := by decide +kernel
theorem dX8_cutsFrom_91 : decode cX8_cutsFrom 91 = .ok (.iload 5, 2) := by decide +kernel
theorem dX8_cutsFrom_93 : decode cX8_cutsFrom 93 = .ok (.aload_n 0, 1) := by decide +kernel
theorem dX8_cutsFrom_94 : decode cX8_cutsFrom 94 = .ok (.iload_n 1, 1) := by decide +kernel
theorem dX8_cutsFrom_95 : decode cX8_cutsFrom 95 = .ok (.invokevirtual 149, 3) := by decide +kernel
theorem dX8_cutsFrom_98 : decode cX8_cutsFrom 98 = .ok (.isub, 1) := by decide +kernel
theorem dX8_cutsFrom_99 : decode cX8_cutsFrom 99 = .ok (.aload_n 0, 1) := by decide +kernel
theorem dX8_cutsFrom_100 : decode cX8_cutsFrom 100 = .ok (.getfield 219, 3) := by decide +kernel
theorem dX8_cutsFrom_103 : decode cX8_cutsFrom 103 = .ok (.if_icmp .lt 6, 3) := by decide +kernel
theorem dX8_cutsFrom_106 : decode cX8_cutsFrom 106 = .ok (.goto 78, 3) := by decide +kernel
theorem dX8_cutsFrom_109 : decode cX8_cutsFrom 109 = .ok (.aload_n 0, 1) := by decide +kernel
theorem dX8_cutsFrom_110 : decode cX8_cutsFrom 110 = .ok (.iload 5, 2) := by decide +kernel
theorem dX8_cutsFrom_112 : decode cX8_cutsFrom 112 = .ok (.aload_n 0, 1) := by decide +kernel
theorem dX8_cutsFrom_113 : decode cX8_cutsFrom 113 = .ok (.iload_n 1, 1) := by decide +kernel
theorem dX8_cutsFrom_114 : decode cX8_cutsFrom 114 = .ok (.invokevirtual 149, 3) := by decide +kernel
theorem dX8_cutsFrom_117 : decode cX8_cutsFrom 117 = .ok (.isub, 1) := by decide +kernel
theorem dX8_cutsFrom_118 : decode cX8_cutsFrom 118 = .ok (.putfield 219, 3) := by decide +kernel
theorem dX8_cutsFrom_121 : decode cX8_cutsFrom 121 = .ok (.aload_n 0, 1) := by decide +kernel
theorem dX8_cutsFrom_122 : decode cX8_cutsFrom 122 = .ok (.iload_n 3, 1) := by decide +kernel
theorem dX8_cutsFrom_123 : decode cX8_cutsFrom 123 = .ok (.iconst 1, 1) := by decide +kernel
theorem dX8_cutsFrom_124 : decode cX8_cutsFrom 124 = .ok (.iadd, 1) := by decide +kernel
theorem dX8_cutsFrom_125 : decode cX8_cutsFrom 125 = .ok (.putfield 187, 3) := by decide +kernel
theorem dX8_cutsFrom_128 : decode cX8_cutsFrom 128 = .ok (.iconst 0, 1) := by decide +kernel
theorem dX8_cutsFrom_129 : decode cX8_cutsFrom 129 = .ok (.istore 6, 2) := by decide +kernel
theorem dX8_cutsFrom_131 : decode cX8_cutsFrom 131 = .ok (.iload 6, 2) := by decide +kernel
theorem dX8_cutsFrom_133 : decode cX8_cutsFrom 133 = .ok (.iload_n 3, 1) := by decide +kernel
theorem dX8_cutsFrom_134 : decode cX8_cutsFrom 134 = .ok (.if_icmp .gt 23, 3) := by decide +kernel
theorem dX8_cutsFrom_137 : decode cX8_cutsFrom 137 = .ok (.aload_n 0, 1) := by decide +kernel
theorem dX8_cutsFrom_138 : decode cX8_cutsFrom 138 = .ok (.getfield 49, 3) := by decide +kernel
theorem dX8_cutsFrom_141 : decode cX8_cutsFrom 141 = .ok (.iload 6, 2) := by decide +kernel
theorem dX8_cutsFrom_143 : decode cX8_cutsFrom 143 = .ok (.aload_n 0, 1) := by decide +kernel
theorem dX8_cutsFrom_144 : decode cX8_cutsFrom 144 = .ok (.getfield 46, 3) := by decide +kernel
theorem dX8_cutsFrom_147 : decode cX8_cutsFrom 147 = .ok (.iload 6, 2) := by decide +kernel
theorem dX8_cutsFrom_149 : decode cX8_cutsFrom 149 = .ok (.iaload, 1) := by decide +kernel
theorem dX8_cutsFrom_150 : decode cX8_cutsFrom 150 = .ok (.iastore, 1) := by decide +kernel
theorem dX8_cutsFrom_151 : decode cX8_cutsFrom 151 = .ok (.iinc 6 1, 3) := by decide +kernel
theorem dX8_cutsFrom_154 : decode cX8_cutsFrom 154 = .ok (.goto (-23), 3) := by decide +kernel
theorem dX8_cutsFrom_157 : decode cX8_cutsFrom 157 = .ok (.goto 27, 3) := by decide +kernel
theorem dX8_cutsFrom_160 : decode cX8_cutsFrom 160 = .ok (.aload_n 0, 1) := by decide +kernel
theorem dX8_cutsFrom_161 : decode cX8_cutsFrom 161 = .ok (.iload 4, 2) := by decide +kernel
theorem dX8_cutsFrom_163 : decode cX8_cutsFrom 163 = .ok (.iconst 1, 1) := by decide +kernel
theorem dX8_cutsFrom_164 : decode cX8_cutsFrom 164 = .ok (.invokevirtual 174, 3) := by decide +kernel
theorem dX8_cutsFrom_167 : decode cX8_cutsFrom 167 = .ok (.aload_n 0, 1) := by decide +kernel
theorem dX8_cutsFrom_168 : decode cX8_cutsFrom 168 = .ok (.iload_n 1, 1) := by decide +kernel
theorem dX8_cutsFrom_169 : decode cX8_cutsFrom 169 = .ok (.iload 5, 2) := by decide +kernel
theorem dX8_cutsFrom_171 : decode cX8_cutsFrom 171 = .ok (.iload_n 3, 1) := by decide +kernel
theorem dX8_cutsFrom_172 : decode cX8_cutsFrom 172 = .ok (.iconst 1, 1) := by decide +kernel
theorem dX8_cutsFrom_173 : decode cX8_cutsFrom 173 = .ok (.iadd, 1) := by decide +kernel
theorem dX8_cutsFrom_174 : decode cX8_cutsFrom 174 = .ok (.invokevirtual 222, 3) := by decide +kernel
theorem dX8_cutsFrom_177 : decode cX8_cutsFrom 177 = .ok (.aload_n 0, 1) := by decide +kernel
theorem dX8_cutsFrom_178 : decode cX8_cutsFrom 178 = .ok (.iload 4, 2) := by decide +kernel
theorem dX8_cutsFrom_180 : decode cX8_cutsFrom 180 = .ok (.iconst (-1), 1) := by decide +kernel
theorem dX8_cutsFrom_181 : decode cX8_cutsFrom 181 = .ok (.invokevirtual 174, 3) := by decide +kernel
theorem dX8_cutsFrom_184 : decode cX8_cutsFrom 184 = .ok (.iinc 4 1, 3) := by decide +kernel
theorem dX8_cutsFrom_187 : decode cX8_cutsFrom 187 = .ok (.goto (-184), 3) := by decide +kernel
theorem dX8_cutsFrom_190 : decode cX8_cutsFrom 190 = .ok (.return_, 1) := by decide +kernel
set_option maxRecDepth 20000 in
theorem ggX8_cuts_X8_wrong : GoodIn wsX8_cuts wsX8_wrong := goodIn_r _ [7, 8, 9, 10, 6, 11, 12, 13, 14, 15, 16, 17, 18, 19, 20, 21, 22, 23, 62, 63, 64, 65, 66, 67, 68, 69, 70, 71, 72, 73, 74, 75, 76, 77, 78, 79, 80, 81, 82, 83, 84, 85, 86, 87, 88, 89, 90, 91, 92, 93, 94, 95, 96, 97, 98] (by decide +kernel) (by decide +kernel)
set_option maxRecDepth 20000 in
theorem gX8_cuts_X8_wrong : GoodIn wsX8_cuts (wsV RX8 207 RX8 yX8_wrong wsX8_wrong) := goodIn_app (goodIn_of _ (by decide +kernel)) ggX8_cuts_X8_wrong
set_option maxRecDepth 20000 in
theorem ggX8_cuts_X8_cutsFrom : GoodIn wsX8_cuts wsX8_cutsFrom := goodIn_r _ [27, 12, 28, 1, 2, 29, 30, 31, 32, 6, 33, 34, 35, 36, 37, 38, 39, 40, 41, 42, 43, 44, 45, 20, 21, 22, 23, 46, 47, 48, 49, 50, 51, 52, 53, 54, 55, 56, 57, 24, 25, 26, 62, 63, 64, 65, 66, 67, 68, 69, 70, 71, 72, 73, 74, 75, 76, 77, 78, 79, 80, 81, 82, 83, 84, 85, 86, 87, 88, 89, 90, 91, 92, 93, 94, 95, 96, 97, 98] (by decide +kernel) (by decide +kernel)
set_option maxRecDepth 20000 in
theorem gX8_cuts_X8_cutsFrom : GoodIn wsX8_cuts (wsV RX8 222 RX8 yX8_cutsFrom wsX8_cutsFrom) := goodIn_app (goodIn_of _ (by decide +kernel)) ggX8_cuts_X8_cutsFrom
set_option maxRecDepth 20000 in
theorem ggX8_cuts_X8_foundAt : GoodIn wsX8_cuts wsX8_foundAt := goodIn_r _ [61, 1, 29, 62, 63, 64, 65, 66, 67, 68, 69, 70, 71, 72, 73, 74, 75, 76, 77, 78, 79, 80, 81, 82, 83, 84, 85, 86, 87, 88, 89, 90, 91, 92, 93, 94, 95, 96, 97, 98] (by decide +kernel) (by decide +kernel)
set_option maxRecDepth 20000 in
theorem gX8_cuts_X8_foundAt : GoodIn wsX8_cuts (wsV RX8 213 RX8 yX8_foundAt wsX8_foundAt) := goodIn_app (goodIn_of _ (by decide +kernel)) ggX8_cuts_X8_foundAt
theorem dX8_cuts_0 : decode cX8_cuts 0 = .ok (.iload_n 2, 1) := by decide +kernel
theorem dX8_cuts_1 : decode cX8_cuts 1 = .ok (.iconst (-1), 1) := by decide +kernel
theorem dX8_cuts_2 : decode cX8_cuts 2 = .ok (.if_icmp .ge 5, 3) := by decide +kernel
theorem dX8_cuts_5 : decode cX8_cuts 5 = .ok (.iconst (-1), 1) := by decide +kernel
theorem dX8_cuts_6 : decode cX8_cuts 6 = .ok (.ireturn, 1) := by decide +kernel
theorem dX8_cuts_7 : decode cX8_cuts 7 = .ok (.aload_n 0, 1) := by decide +kernel
theorem dX8_cuts_8 : decode cX8_cuts 8 = .ok (.iload_n 1, 1) := by decide +kernel
theorem dX8_cuts_9 : decode cX8_cuts 9 = .ok (.invokevirtual 207, 3) := by decide +kernel
theorem dX8_cuts_12 : decode cX8_cuts 12 = .ok (.istore_n 3, 1) := by decide +kernel
theorem dX8_cuts_13 : decode cX8_cuts 13 = .ok (.iload_n 3, 1) := by decide +kernel
theorem dX8_cuts_14 : decode cX8_cuts 14 = .ok (.ifCond .eq 5, 3) := by decide +kernel
theorem dX8_cuts_17 : decode cX8_cuts 17 = .ok (.iload_n 3, 1) := by decide +kernel
theorem dX8_cuts_18 : decode cX8_cuts 18 = .ok (.ireturn, 1) := by decide +kernel
theorem dX8_cuts_19 : decode cX8_cuts 19 = .ok (.aload_n 0, 1) := by decide +kernel
theorem dX8_cuts_20 : decode cX8_cuts 20 = .ok (.iconst (-1), 1) := by decide +kernel
theorem dX8_cuts_21 : decode cX8_cuts 21 = .ok (.putfield 187, 3) := by decide +kernel
theorem dX8_cuts_24 : decode cX8_cuts 24 = .ok (.aload_n 0, 1) := by decide +kernel
theorem dX8_cuts_25 : decode cX8_cuts 25 = .ok (.iload_n 1, 1) := by decide +kernel
theorem dX8_cuts_26 : decode cX8_cuts 26 = .ok (.iconst 0, 1) := by decide +kernel
theorem dX8_cuts_27 : decode cX8_cuts 27 = .ok (.iconst 0, 1) := by decide +kernel
theorem dX8_cuts_28 : decode cX8_cuts 28 = .ok (.invokevirtual 222, 3) := by decide +kernel
theorem dX8_cuts_31 : decode cX8_cuts 31 = .ok (.aload_n 0, 1) := by decide +kernel
theorem dX8_cuts_32 : decode cX8_cuts 32 = .ok (.getfield 187, 3) := by decide +kernel
theorem dX8_cuts_35 : decode cX8_cuts 35 = .ok (.ifCond .ge 8, 3) := by decide +kernel
theorem dX8_cuts_38 : decode cX8_cuts 38 = .ok (.bipush (-4), 2) := by decide +kernel
theorem dX8_cuts_40 : decode cX8_cuts 40 = .ok (.goto 19, 3) := by decide +kernel
theorem dX8_cuts_43 : decode cX8_cuts 43 = .ok (.iload_n 2, 1) := by decide +kernel
theorem dX8_cuts_44 : decode cX8_cuts 44 = .ok (.ifCond .ge 10, 3) := by decide +kernel
theorem dX8_cuts_47 : decode cX8_cuts 47 = .ok (.aload_n 0, 1) := by decide +kernel
theorem dX8_cuts_48 : decode cX8_cuts 48 = .ok (.getfield 219, 3) := by decide +kernel
theorem dX8_cuts_51 : decode cX8_cuts 51 = .ok (.goto 8, 3) := by decide +kernel
theorem dX8_cuts_54 : decode cX8_cuts 54 = .ok (.aload_n 0, 1) := by decide +kernel
theorem dX8_cuts_55 : decode cX8_cuts 55 = .ok (.iload_n 2, 1) := by decide +kernel
theorem dX8_cuts_56 : decode cX8_cuts 56 = .ok (.invokevirtual 213, 3) := by decide +kernel
theorem dX8_cuts_59 : decode cX8_cuts 59 = .ok (.ireturn, 1) := by decide +kernel
set_option maxRecDepth 20000 in
theorem ggX8_wrongWidth_X8_isRow : GoodIn wsX8_wrongWidth wsX8_isRow := goodIn_r _ [5, 6, 7, 8, 4, 9, 22, 23, 24, 25, 26, 27, 28, 29, 30, 31, 32, 33, 34, 35, 36, 37, 38, 39, 40, 41, 42, 43, 44, 45, 46, 47, 48, 49, 50, 51, 52, 53, 54, 55, 56, 57, 58] (by decide +kernel) (by decide +kernel)
set_option maxRecDepth 20000 in
theorem gX8_wrongWidth_X8_isRow : GoodIn wsX8_wrongWidth (wsV RX8 152 RX8 yX8_isRow wsX8_isRow) := goodIn_app (goodIn_of _ (by decide +kernel)) ggX8_wrongWidth_X8_isRow
set_option maxRecDepth 20000 in
theorem ggX8_wrongWidth_X8_isWidth : GoodIn wsX8_wrongWidth wsX8_isWidth := goodIn_r _ [13, 6, 7, 8, 4, 9, 22, 23, 24, 25, 26, 27, 28, 29, 30, 31, 32, 33, 34, 35, 36, 37, 38, 39, 40, 41, 42, 43, 44, 45, 46, 47, 48, 49, 50, 51, 52, 53, 54, 55, 56, 57, 58] (by decide +kernel) (by decide +kernel)
set_option maxRecDepth 20000 in
theorem gX8_wrongWidth_X8_isWidth : GoodIn wsX8_wrongWidth (wsV RX8 125 RX8 yX8_isWidth wsX8_isWidth) := goodIn_app (goodIn_of _ (by decide +kernel)) ggX8_wrongWidth_X8_isWidth
set_option maxRecDepth 20000 in
theorem ggX8_wrongWidth_X8_isLaid : GoodIn wsX8_wrongWidth wsX8_isLaid := goodIn_r _ [17, 18, 19, 20, 4, 21, 6, 22, 23, 24, 25, 26, 27, 28, 29, 30, 31, 32, 33, 34, 35, 36, 37, 38, 39, 40, 41, 42, 43, 44, 45, 46, 47, 48, 49, 50, 51, 52, 53, 54, 55, 56, 57, 58] (by decide +kernel) (by decide +kernel)
set_option maxRecDepth 20000 in
theorem gX8_wrongWidth_X8_isLaid : GoodIn wsX8_wrongWidth (wsV RX8 143 RX8 yX8_isLaid wsX8_isLaid) := goodIn_app (goodIn_of _ (by decide +kernel)) ggX8_wrongWidth_X8_isLaid
theorem dX8_wrongWidth_0 : decode cX8_wrongWidth 0 = .ok (.aload_n 0, 1) := by decide +kernel
theorem dX8_wrongWidth_1 : decode cX8_wrongWidth 1 = .ok (.iload_n 1, 1) := by decide +kernel
theorem dX8_wrongWidth_2 : decode cX8_wrongWidth 2 = .ok (.invokevirtual 152, 3) := by decide +kernel
theorem dX8_wrongWidth_5 : decode cX8_wrongWidth 5 = .ok (.ifCond .eq 11, 3) := by decide +kernel
theorem dX8_wrongWidth_8 : decode cX8_wrongWidth 8 = .ok (.aload_n 0, 1) := by decide +kernel
theorem dX8_wrongWidth_9 : decode cX8_wrongWidth 9 = .ok (.iload_n 2, 1) := by decide +kernel
theorem dX8_wrongWidth_10 : decode cX8_wrongWidth 10 = .ok (.invokevirtual 125, 3) := by decide +kernel
theorem dX8_wrongWidth_13 : decode cX8_wrongWidth 13 = .ok (.ifCond .ne 7, 3) := by decide +kernel
theorem dX8_wrongWidth_16 : decode cX8_wrongWidth 16 = .ok (.iconst (-1), 1) := by decide +kernel
theorem dX8_wrongWidth_17 : decode cX8_wrongWidth 17 = .ok (.goto 17, 3) := by decide +kernel
theorem dX8_wrongWidth_20 : decode cX8_wrongWidth 20 = .ok (.aload_n 0, 1) := by decide +kernel
theorem dX8_wrongWidth_21 : decode cX8_wrongWidth 21 = .ok (.iload_n 1, 1) := by decide +kernel
theorem dX8_wrongWidth_22 : decode cX8_wrongWidth 22 = .ok (.invokevirtual 143, 3) := by decide +kernel
theorem dX8_wrongWidth_25 : decode cX8_wrongWidth 25 = .ok (.ifCond .eq 8, 3) := by decide +kernel
theorem dX8_wrongWidth_28 : decode cX8_wrongWidth 28 = .ok (.bipush (-3), 2) := by decide +kernel
theorem dX8_wrongWidth_30 : decode cX8_wrongWidth 30 = .ok (.goto 4, 3) := by decide +kernel
theorem dX8_wrongWidth_33 : decode cX8_wrongWidth 33 = .ok (.iconst 0, 1) := by decide +kernel
theorem dX8_wrongWidth_34 : decode cX8_wrongWidth 34 = .ok (.ireturn, 1) := by decide +kernel
set_option maxRecDepth 20000 in
theorem ggX8_uses_X8_wrongWidth : GoodIn wsX8_uses wsX8_wrongWidth := goodIn_r _ [5, 6, 7, 8, 4, 9, 10, 11, 12, 13, 14, 15, 16, 17, 18, 19, 20, 21, 22, 23, 24, 25, 78, 79, 80, 81, 82, 83, 84, 85, 86, 87, 88, 89, 90, 91, 92, 93, 94, 95, 96, 97, 98, 99, 100, 101, 102, 103, 104, 105, 106, 107, 108, 109, 110, 111, 112, 113, 114] (by decide +kernel) (by decide +kernel)
set_option maxRecDepth 20000 in
theorem gX8_uses_X8_wrongWidth : GoodIn wsX8_uses (wsV RX8 226 RX8 yX8_wrongWidth wsX8_wrongWidth) := goodIn_app (goodIn_of _ (by decide +kernel)) ggX8_uses_X8_wrongWidth
set_option maxRecDepth 20000 in
theorem ggX8_uses_X8_many : GoodIn wsX8_uses wsX8_many := goodIn_r _ [29, 10, 78, 79, 80, 81, 82, 83, 84, 85, 86, 87, 88, 89, 90, 91, 92, 93, 94, 95, 96, 97, 98, 99, 100, 101, 102, 103, 104, 105, 106, 107, 108, 109, 110, 111, 112, 113, 114] (by decide +kernel) (by decide +kernel)
set_option maxRecDepth 20000 in
theorem gX8_uses_X8_many : GoodIn wsX8_uses (wsV RX8 165 RX8 yX8_many wsX8_many) := goodIn_app (goodIn_of _ (by decide +kernel)) ggX8_uses_X8_many
set_option maxRecDepth 20000 in
theorem ggX8_uses_X8_fillsOf : GoodIn wsX8_uses wsX8_fillsOf := goodIn_r _ [33, 34, 35, 36, 37, 4, 38, 10, 39, 40, 41, 42, 43, 44, 45, 46, 47, 48, 49, 50, 51, 52, 53, 54, 55, 56, 57, 26, 27, 28, 29, 58, 59, 60, 61, 22, 23, 24, 25, 62, 63, 64, 65, 66, 67, 68, 69, 70, 71, 72, 73, 74, 75, 76, 77, 78, 79, 80, 81, 82, 83, 84, 85, 86, 87, 88, 89, 90, 91, 92, 93, 94, 95, 96, 97, 98, 99, 100, 101, 102, 103, 104, 105, 106, 107, 108, 109, 110, 111, 112, 113, 114] (by decide +kernel) (by decide +kernel)
set_option maxRecDepth 20000 in
theorem gX8_uses_X8_fillsOf : GoodIn wsX8_uses (wsV RX8 210 RX8 yX8_fillsOf wsX8_fillsOf) := goodIn_app (goodIn_of _ (by decide +kernel)) ggX8_uses_X8_fillsOf
set_option maxRecDepth 20000 in
theorem ggX8_uses_X8_leaves : GoodIn wsX8_uses wsX8_leaves := goodIn_r _ [73, 10, 78, 79, 80, 81, 82, 83, 84, 85, 86, 87, 88, 89, 90, 91, 92, 93, 94, 95, 96, 97, 98, 99, 100, 101, 102, 103, 104, 105, 106, 107, 108, 109, 110, 111, 112, 113, 114] (by decide +kernel) (by decide +kernel)
set_option maxRecDepth 20000 in
theorem gX8_uses_X8_leaves : GoodIn wsX8_uses (wsV RX8 174 RX8 yX8_leaves wsX8_leaves) := goodIn_app (goodIn_of _ (by decide +kernel)) ggX8_uses_X8_leaves
theorem dX8_uses_0 : decode cX8_uses 0 = .ok (.aload_n 0, 1) := by decide +kernel
theorem dX8_uses_1 : decode cX8_uses 1 = .ok (.iload_n 1, 1) := by decide +kernel
