theorem dX8_uses_2 : decode cX8_uses 2 = .ok (.iload_n 2, 1) := by decide +kernel
theorem dX8_uses_3 : decode cX8_uses 3 = .ok (.invokevirtual 226, 3) := by decide +kernel
theorem dX8_uses_6 : decode cX8_uses 6 = .ok (.istore_n 3, 1) := by decide +kernel
theorem dX8_uses_7 : decode cX8_uses 7 = .ok (.iload_n 3, 1) := by decide +kernel
theorem dX8_uses_8 : decode cX8_uses 8 = .ok (.ifCond .eq 5, 3) := by decide +kernel
theorem dX8_uses_11 : decode cX8_uses 11 = .ok (.iload_n 3, 1) := by decide +kernel
theorem dX8_uses_12 : decode cX8_uses 12 = .ok (.ireturn, 1) := by decide +kernel
theorem dX8_uses_13 : decode cX8_uses 13 = .ok (.aload_n 0, 1) := by decide +kernel
theorem dX8_uses_14 : decode cX8_uses 14 = .ok (.iload_n 2, 1) := by decide +kernel
theorem dX8_uses_15 : decode cX8_uses 15 = .ok (.invokevirtual 165, 3) := by decide +kernel
theorem dX8_uses_18 : decode cX8_uses 18 = .ok (.ifCond .ne 5, 3) := by decide +kernel
theorem dX8_uses_21 : decode cX8_uses 21 = .ok (.iconst 0, 1) := by decide +kernel
theorem dX8_uses_22 : decode cX8_uses 22 = .ok (.ireturn, 1) := by decide +kernel
theorem dX8_uses_23 : decode cX8_uses 23 = .ok (.aload_n 0, 1) := by decide +kernel
theorem dX8_uses_24 : decode cX8_uses 24 = .ok (.iload_n 1, 1) := by decide +kernel
theorem dX8_uses_25 : decode cX8_uses 25 = .ok (.invokevirtual 210, 3) := by decide +kernel
theorem dX8_uses_28 : decode cX8_uses 28 = .ok (.istore 4, 2) := by decide +kernel
theorem dX8_uses_30 : decode cX8_uses 30 = .ok (.aload_n 0, 1) := by decide +kernel
theorem dX8_uses_31 : decode cX8_uses 31 = .ok (.iload_n 2, 1) := by decide +kernel
theorem dX8_uses_32 : decode cX8_uses 32 = .ok (.iconst 1, 1) := by decide +kernel
theorem dX8_uses_33 : decode cX8_uses 33 = .ok (.invokevirtual 174, 3) := by decide +kernel
theorem dX8_uses_36 : decode cX8_uses 36 = .ok (.aload_n 0, 1) := by decide +kernel
theorem dX8_uses_37 : decode cX8_uses 37 = .ok (.iload_n 1, 1) := by decide +kernel
theorem dX8_uses_38 : decode cX8_uses 38 = .ok (.invokevirtual 210, 3) := by decide +kernel
theorem dX8_uses_41 : decode cX8_uses 41 = .ok (.istore 5, 2) := by decide +kernel
theorem dX8_uses_43 : decode cX8_uses 43 = .ok (.aload_n 0, 1) := by decide +kernel
theorem dX8_uses_44 : decode cX8_uses 44 = .ok (.iload_n 2, 1) := by decide +kernel
theorem dX8_uses_45 : decode cX8_uses 45 = .ok (.iconst (-1), 1) := by decide +kernel
theorem dX8_uses_46 : decode cX8_uses 46 = .ok (.invokevirtual 174, 3) := by decide +kernel
theorem dX8_uses_49 : decode cX8_uses 49 = .ok (.iload 4, 2) := by decide +kernel
theorem dX8_uses_51 : decode cX8_uses 51 = .ok (.iload 5, 2) := by decide +kernel
theorem dX8_uses_53 : decode cX8_uses 53 = .ok (.isub, 1) := by decide +kernel
theorem dX8_uses_54 : decode cX8_uses 54 = .ok (.ireturn, 1) := by decide +kernel
set_option maxRecDepth 20000 in
theorem ggX8_needs_X8_wrongWidth : GoodIn wsX8_needs wsX8_wrongWidth := goodIn_r _ [6, 7, 8, 9, 5, 10, 1, 11, 12, 13, 14, 15, 16, 17, 18, 19, 20, 21, 22, 23, 24, 25, 78, 79, 80, 81, 82, 83, 84, 85, 86, 87, 88, 89, 90, 91, 92, 93, 94, 95, 96, 97, 98, 99, 100, 101, 102, 103, 104, 105, 106, 107, 108, 109, 110, 111, 112, 113, 114] (by decide +kernel) (by decide +kernel)
set_option maxRecDepth 20000 in
theorem gX8_needs_X8_wrongWidth : GoodIn wsX8_needs (wsV RX8 226 RX8 yX8_wrongWidth wsX8_wrongWidth) := goodIn_app (goodIn_of _ (by decide +kernel)) ggX8_needs_X8_wrongWidth
set_option maxRecDepth 20000 in
theorem ggX8_needs_X8_many : GoodIn wsX8_needs wsX8_many := goodIn_r _ [29, 1, 78, 79, 80, 81, 82, 83, 84, 85, 86, 87, 88, 89, 90, 91, 92, 93, 94, 95, 96, 97, 98, 99, 100, 101, 102, 103, 104, 105, 106, 107, 108, 109, 110, 111, 112, 113, 114] (by decide +kernel) (by decide +kernel)
set_option maxRecDepth 20000 in
theorem gX8_needs_X8_many : GoodIn wsX8_needs (wsV RX8 165 RX8 yX8_many wsX8_many) := goodIn_app (goodIn_of _ (by decide +kernel)) ggX8_needs_X8_many
set_option maxRecDepth 20000 in
theorem ggX8_needs_X8_fillsOf : GoodIn wsX8_needs wsX8_fillsOf := goodIn_r _ [33, 34, 35, 36, 37, 5, 38, 1, 39, 40, 41, 42, 43, 44, 45, 46, 47, 48, 49, 50, 51, 52, 53, 54, 55, 56, 57, 26, 27, 28, 29, 58, 59, 60, 61, 22, 23, 24, 25, 62, 63, 64, 65, 66, 67, 68, 69, 70, 71, 72, 73, 74, 75, 76, 77, 78, 79, 80, 81, 82, 83, 84, 85, 86, 87, 88, 89, 90, 91, 92, 93, 94, 95, 96, 97, 98, 99, 100, 101, 102, 103, 104, 105, 106, 107, 108, 109, 110, 111, 112, 113, 114] (by decide +kernel) (by decide +kernel)
set_option maxRecDepth 20000 in
theorem gX8_needs_X8_fillsOf : GoodIn wsX8_needs (wsV RX8 210 RX8 yX8_fillsOf wsX8_fillsOf) := goodIn_app (goodIn_of _ (by decide +kernel)) ggX8_needs_X8_fillsOf
theorem dX8_needs_0 : decode cX8_needs 0 = .ok (.aload_n 0, 1) := by decide +kernel
theorem dX8_needs_1 : decode cX8_needs 1 = .ok (.iload_n 1, 1) := by decide +kernel
theorem dX8_needs_2 : decode cX8_needs 2 = .ok (.iload_n 2, 1) := by decide +kernel
theorem dX8_needs_3 : decode cX8_needs 3 = .ok (.invokevirtual 226, 3) := by decide +kernel
theorem dX8_needs_6 : decode cX8_needs 6 = .ok (.istore_n 3, 1) := by decide +kernel
theorem dX8_needs_7 : decode cX8_needs 7 = .ok (.iload_n 3, 1) := by decide +kernel
theorem dX8_needs_8 : decode cX8_needs 8 = .ok (.ifCond .eq 5, 3) := by decide +kernel
theorem dX8_needs_11 : decode cX8_needs 11 = .ok (.iload_n 3, 1) := by decide +kernel
theorem dX8_needs_12 : decode cX8_needs 12 = .ok (.ireturn, 1) := by decide +kernel
theorem dX8_needs_13 : decode cX8_needs 13 = .ok (.aload_n 0, 1) := by decide +kernel
theorem dX8_needs_14 : decode cX8_needs 14 = .ok (.iload_n 2, 1) := by decide +kernel
theorem dX8_needs_15 : decode cX8_needs 15 = .ok (.invokevirtual 165, 3) := by decide +kernel
theorem dX8_needs_18 : decode cX8_needs 18 = .ok (.istore 4, 2) := by decide +kernel
theorem dX8_needs_20 : decode cX8_needs 20 = .ok (.bipush (-4), 2) := by decide +kernel
theorem dX8_needs_22 : decode cX8_needs 22 = .ok (.istore 5, 2) := by decide +kernel
theorem dX8_needs_24 : decode cX8_needs 24 = .ok (.iconst 0, 1) := by decide +kernel
theorem dX8_needs_25 : decode cX8_needs 25 = .ok (.istore 6, 2) := by decide +kernel
theorem dX8_needs_27 : decode cX8_needs 27 = .ok (.iload 4, 2) := by decide +kernel
theorem dX8_needs_29 : decode cX8_needs 29 = .ok (.iload 6, 2) := by decide +kernel
theorem dX8_needs_31 : decode cX8_needs 31 = .ok (.iadd, 1) := by decide +kernel
theorem dX8_needs_32 : decode cX8_needs 32 = .ok (.bipush 12, 2) := by decide +kernel
theorem dX8_needs_34 : decode cX8_needs 34 = .ok (.if_icmp .gt 48, 3) := by decide +kernel
theorem dX8_needs_37 : decode cX8_needs 37 = .ok (.iload 5, 2) := by decide +kernel
theorem dX8_needs_39 : decode cX8_needs 39 = .ok (.ifCond .ge 43, 3) := by decide +kernel
theorem dX8_needs_42 : decode cX8_needs 42 = .ok (.aload_n 0, 1) := by decide +kernel
theorem dX8_needs_43 : decode cX8_needs 43 = .ok (.getfield 9, 3) := by decide +kernel
theorem dX8_needs_46 : decode cX8_needs 46 = .ok (.iconst 3, 1) := by decide +kernel
theorem dX8_needs_47 : decode cX8_needs 47 = .ok (.iconst 3, 1) := by decide +kernel
theorem dX8_needs_48 : decode cX8_needs 48 = .ok (.iload_n 2, 1) := by decide +kernel
theorem dX8_needs_49 : decode cX8_needs 49 = .ok (.imul, 1) := by decide +kernel
theorem dX8_needs_50 : decode cX8_needs 50 = .ok (.iadd, 1) := by decide +kernel
theorem dX8_needs_51 : decode cX8_needs 51 = .ok (.iconst 1, 1) := by decide +kernel
theorem dX8_needs_52 : decode cX8_needs 52 = .ok (.iadd, 1) := by decide +kernel
theorem dX8_needs_53 : decode cX8_needs 53 = .ok (.iload 4, 2) := by decide +kernel
theorem dX8_needs_55 : decode cX8_needs 55 = .ok (.iload 6, 2) := by decide +kernel
theorem dX8_needs_57 : decode cX8_needs 57 = .ok (.iadd, 1) := by decide +kernel
theorem dX8_needs_58 : decode cX8_needs 58 = .ok (.iastore, 1) := by decide +kernel
theorem dX8_needs_59 : decode cX8_needs 59 = .ok (.aload_n 0, 1) := by decide +kernel
theorem dX8_needs_60 : decode cX8_needs 60 = .ok (.iload_n 1, 1) := by decide +kernel
theorem dX8_needs_61 : decode cX8_needs 61 = .ok (.invokevirtual 210, 3) := by decide +kernel
theorem dX8_needs_64 : decode cX8_needs 64 = .ok (.ifCond .le 8, 3) := by decide +kernel
theorem dX8_needs_67 : decode cX8_needs 67 = .ok (.iload 6, 2) := by decide +kernel
theorem dX8_needs_69 : decode cX8_needs 69 = .ok (.goto 5, 3) := by decide +kernel
theorem dX8_needs_72 : decode cX8_needs 72 = .ok (.bipush (-4), 2) := by decide +kernel
theorem dX8_needs_74 : decode cX8_needs 74 = .ok (.istore 5, 2) := by decide +kernel
theorem dX8_needs_76 : decode cX8_needs 76 = .ok (.iinc 6 1, 3) := by decide +kernel
theorem dX8_needs_79 : decode cX8_needs 79 = .ok (.goto (-52), 3) := by decide +kernel
theorem dX8_needs_82 : decode cX8_needs 82 = .ok (.aload_n 0, 1) := by decide +kernel
theorem dX8_needs_83 : decode cX8_needs 83 = .ok (.getfield 9, 3) := by decide +kernel
theorem dX8_needs_86 : decode cX8_needs 86 = .ok (.iconst 3, 1) := by decide +kernel
theorem dX8_needs_87 : decode cX8_needs 87 = .ok (.iconst 3, 1) := by decide +kernel
theorem dX8_needs_88 : decode cX8_needs 88 = .ok (.iload_n 2, 1) := by decide +kernel
theorem dX8_needs_89 : decode cX8_needs 89 = .ok (.imul, 1) := by decide +kernel
theorem dX8_needs_90 : decode cX8_needs 90 = .ok (.iadd, 1) := by decide +kernel
theorem dX8_needs_91 : decode cX8_needs 91 = .ok (.iconst 1, 1) := by decide +kernel
theorem dX8_needs_92 : decode cX8_needs 92 = .ok (.iadd, 1) := by decide +kernel
theorem dX8_needs_93 : decode cX8_needs 93 = .ok (.iload 4, 2) := by decide +kernel
theorem dX8_needs_95 : decode cX8_needs 95 = .ok (.iastore, 1) := by decide +kernel
theorem dX8_needs_96 : decode cX8_needs 96 = .ok (.iload 5, 2) := by decide +kernel
theorem dX8_needs_98 : decode cX8_needs 98 = .ok (.ireturn, 1) := by decide +kernel
set_option maxRecDepth 20000 in
theorem ggX8_ends_X8_wrongWidth : GoodIn wsX8_ends wsX8_wrongWidth := goodIn_r _ [6, 7, 8, 9, 5, 10, 11, 12, 13, 14, 15, 16, 17, 18, 19, 20, 21, 22, 23, 24, 25, 26, 74, 75, 76, 77, 78, 79, 80, 81, 82, 83, 84, 85, 86, 87, 88, 89, 90, 91, 92, 93, 94, 95, 96, 97, 98, 99, 100, 101, 102, 103, 104, 105, 106, 107, 108, 109, 110] (by decide +kernel) (by decide +kernel)
set_option maxRecDepth 20000 in
theorem gX8_ends_X8_wrongWidth : GoodIn wsX8_ends (wsV RX8 226 RX8 yX8_wrongWidth wsX8_wrongWidth) := goodIn_app (goodIn_of _ (by decide +kernel)) ggX8_ends_X8_wrongWidth
set_option maxRecDepth 20000 in
theorem ggX8_ends_X8_lengthOf : GoodIn wsX8_ends wsX8_lengthOf := goodIn_r _ [30, 11, 74, 75, 76, 77, 78, 79, 80, 81, 82, 83, 84, 85, 86, 87, 88, 89, 90, 91, 92, 93, 94, 95, 96, 97, 98, 99, 100, 101, 102, 103, 104, 105, 106, 107, 108, 109, 110] (by decide +kernel) (by decide +kernel)
set_option maxRecDepth 20000 in
theorem gX8_ends_X8_lengthOf : GoodIn wsX8_ends (wsV RX8 149 RX8 yX8_lengthOf wsX8_lengthOf) := goodIn_app (goodIn_of _ (by decide +kernel)) ggX8_ends_X8_lengthOf
set_option maxRecDepth 20000 in
theorem ggX8_ends_X8_findFills : GoodIn wsX8_ends wsX8_findFills := goodIn_r _ [34, 35, 36, 37, 38, 39, 40, 41, 5, 42, 1, 43, 44, 45, 11, 46, 47, 48, 49, 50, 51, 52, 53, 54, 55, 56, 57, 23, 24, 25, 26, 58, 59, 60, 61, 62, 63, 64, 65, 66, 67, 68, 69, 70, 71, 72, 73, 74, 75, 76, 77, 78, 79, 80, 81, 82, 83, 84, 85, 86, 87, 88, 89, 90, 91, 92, 93, 94, 95, 96, 97, 98, 99, 100, 101, 102, 103, 104, 105, 106, 107, 108, 109, 110] (by decide +kernel) (by decide +kernel)
set_option maxRecDepth 20000 in
theorem gX8_ends_X8_findFills : GoodIn wsX8_ends (wsV RX8 203 RX8 yX8_findFills wsX8_findFills) := goodIn_app (goodIn_of _ (by decide +kernel)) ggX8_ends_X8_findFills
theorem dX8_ends_0 : decode cX8_ends 0 = .ok (.aload_n 0, 1) := by decide +kernel
theorem dX8_ends_1 : decode cX8_ends 1 = .ok (.iload_n 1, 1) := by decide +kernel
theorem dX8_ends_2 : decode cX8_ends 2 = .ok (.iload_n 2, 1) := by decide +kernel
theorem dX8_ends_3 : decode cX8_ends 3 = .ok (.invokevirtual 226, 3) := by decide +kernel
theorem dX8_ends_6 : decode cX8_ends 6 = .ok (.istore_n 3, 1) := by decide +kernel
theorem dX8_ends_7 : decode cX8_ends 7 = .ok (.iload_n 3, 1) := by decide +kernel
theorem dX8_ends_8 : decode cX8_ends 8 = .ok (.ifCond .eq 5, 3) := by decide +kernel
theorem dX8_ends_11 : decode cX8_ends 11 = .ok (.iload_n 3, 1) := by decide +kernel
theorem dX8_ends_12 : decode cX8_ends 12 = .ok (.ireturn, 1) := by decide +kernel
theorem dX8_ends_13 : decode cX8_ends 13 = .ok (.aload_n 0, 1) := by decide +kernel
theorem dX8_ends_14 : decode cX8_ends 14 = .ok (.iload_n 2, 1) := by decide +kernel
theorem dX8_ends_15 : decode cX8_ends 15 = .ok (.putfield 181, 3) := by decide +kernel
theorem dX8_ends_18 : decode cX8_ends 18 = .ok (.aload_n 0, 1) := by decide +kernel
theorem dX8_ends_19 : decode cX8_ends 19 = .ok (.iload_n 1, 1) := by decide +kernel
theorem dX8_ends_20 : decode cX8_ends 20 = .ok (.iconst 0, 1) := by decide +kernel
theorem dX8_ends_21 : decode cX8_ends 21 = .ok (.aload_n 0, 1) := by decide +kernel
theorem dX8_ends_22 : decode cX8_ends 22 = .ok (.iload_n 1, 1) := by decide +kernel
theorem dX8_ends_23 : decode cX8_ends 23 = .ok (.invokevirtual 149, 3) := by decide +kernel
theorem dX8_ends_26 : decode cX8_ends 26 = .ok (.iconst 0, 1) := by decide +kernel
theorem dX8_ends_27 : decode cX8_ends 27 = .ok (.invokevirtual 203, 3) := by decide +kernel
theorem dX8_ends_30 : decode cX8_ends 30 = .ok (.ireturn, 1) := by decide +kernel
set_option maxRecDepth 20000 in
theorem ggX8_gaps_X8_isRow : GoodIn wsX8_gaps wsX8_isRow := goodIn_r _ [5, 6, 7, 8, 4, 9, 34, 35, 36, 37, 38, 39, 40, 41, 42, 43, 44, 45, 46, 47, 48, 49, 50, 51, 52, 53, 54, 55, 56, 57, 58, 59, 60, 61, 62, 63, 64, 65, 66, 67, 68, 69, 70] (by decide +kernel) (by decide +kernel)
set_option maxRecDepth 20000 in
theorem gX8_gaps_X8_isRow : GoodIn wsX8_gaps (wsV RX8 152 RX8 yX8_isRow wsX8_isRow) := goodIn_app (goodIn_of _ (by decide +kernel)) ggX8_gaps_X8_isRow
set_option maxRecDepth 20000 in
theorem ggX8_gaps_X8_lengthOf : GoodIn wsX8_gaps wsX8_lengthOf := goodIn_r _ [13, 6, 34, 35, 36, 37, 38, 39, 40, 41, 42, 43, 44, 45, 46, 47, 48, 49, 50, 51, 52, 53, 54, 55, 56, 57, 58, 59, 60, 61, 62, 63, 64, 65, 66, 67, 68, 69, 70] (by decide +kernel) (by decide +kernel)
set_option maxRecDepth 20000 in
theorem gX8_gaps_X8_lengthOf : GoodIn wsX8_gaps (wsV RX8 149 RX8 yX8_lengthOf wsX8_lengthOf) := goodIn_app (goodIn_of _ (by decide +kernel)) ggX8_gaps_X8_lengthOf
set_option maxRecDepth 20000 in
theorem ggX8_gaps_X8_mayBe : GoodIn wsX8_gaps wsX8_mayBe := goodIn_r _ [17, 6, 18, 19, 20, 4, 21, 22, 23, 24, 25, 26, 27, 28, 29, 30, 31, 32, 33, 34, 35, 36, 37, 38, 39, 40, 41, 42, 43, 44, 45, 46, 47, 48, 49, 50, 51, 52, 53, 54, 55, 56, 57, 58, 59, 60, 61, 62, 63, 64, 65, 66, 67, 68, 69, 70] (by decide +kernel) (by decide +kernel)
set_option maxRecDepth 20000 in
theorem gX8_gaps_X8_mayBe : GoodIn wsX8_gaps (wsV RX8 161 RX8 yX8_mayBe wsX8_mayBe) := goodIn_app (goodIn_of _ (by decide +kernel)) ggX8_gaps_X8_mayBe
theorem dX8_gaps_0 : decode cX8_gaps 0 = .ok (.aload_n 0, 1) := by decide +kernel
theorem dX8_gaps_1 : decode cX8_gaps 1 = .ok (.iload_n 1, 1) := by decide +kernel
theorem dX8_gaps_2 : decode cX8_gaps 2 = .ok (.invokevirtual 152, 3) := by decide +kernel
theorem dX8_gaps_5 : decode cX8_gaps 5 = .ok (.ifCond .ne 5, 3) := by decide +kernel
theorem dX8_gaps_8 : decode cX8_gaps 8 = .ok (.iconst (-1), 1) := by decide +kernel
theorem dX8_gaps_9 : decode cX8_gaps 9 = .ok (.ireturn, 1) := by decide +kernel
theorem dX8_gaps_10 : decode cX8_gaps 10 = .ok (.iconst 0, 1) := by decide +kernel
theorem dX8_gaps_11 : decode cX8_gaps 11 = .ok (.istore_n 2, 1) := by decide +kernel
theorem dX8_gaps_12 : decode cX8_gaps 12 = .ok (.iconst 1, 1) := by decide +kernel
theorem dX8_gaps_13 : decode cX8_gaps 13 = .ok (.istore_n 3, 1) := by decide +kernel
theorem dX8_gaps_14 : decode cX8_gaps 14 = .ok (.iload_n 3, 1) := by decide +kernel
theorem dX8_gaps_15 : decode cX8_gaps 15 = .ok (.aload_n 0, 1) := by decide +kernel
theorem dX8_gaps_16 : decode cX8_gaps 16 = .ok (.iload_n 1, 1) := by decide +kernel
theorem dX8_gaps_17 : decode cX8_gaps 17 = .ok (.invokevirtual 149, 3) := by decide +kernel
theorem dX8_gaps_20 : decode cX8_gaps 20 = .ok (.if_icmp .ge 26, 3) := by decide +kernel
theorem dX8_gaps_23 : decode cX8_gaps 23 = .ok (.iload_n 2, 1) := by decide +kernel
theorem dX8_gaps_24 : decode cX8_gaps 24 = .ok (.aload_n 0, 1) := by decide +kernel
theorem dX8_gaps_25 : decode cX8_gaps 25 = .ok (.iload_n 1, 1) := by decide +kernel
theorem dX8_gaps_26 : decode cX8_gaps 26 = .ok (.iload_n 3, 1) := by decide +kernel
theorem dX8_gaps_27 : decode cX8_gaps 27 = .ok (.invokevirtual 161, 3) := by decide +kernel
theorem dX8_gaps_30 : decode cX8_gaps 30 = .ok (.ifCond .eq 7, 3) := by decide +kernel
theorem dX8_gaps_33 : decode cX8_gaps 33 = .ok (.iconst 1, 1) := by decide +kernel
theorem dX8_gaps_34 : decode cX8_gaps 34 = .ok (.goto 4, 3) := by decide +kernel
theorem dX8_gaps_37 : decode cX8_gaps 37 = .ok (.iconst 0, 1) := by decide +kernel
theorem dX8_gaps_38 : decode cX8_gaps 38 = .ok (.iadd, 1) := by decide +kernel
theorem dX8_gaps_39 : decode cX8_gaps 39 = .ok (.istore_n 2, 1) := by decide +kernel
theorem dX8_gaps_40 : decode cX8_gaps 40 = .ok (.iinc 3 1, 3) := by decide +kernel
theorem dX8_gaps_43 : decode cX8_gaps 43 = .ok (.goto (-29), 3) := by decide +kernel
theorem dX8_gaps_46 : decode cX8_gaps 46 = .ok (.iload_n 2, 1) := by decide +kernel
theorem dX8_gaps_47 : decode cX8_gaps 47 = .ok (.ireturn, 1) := by decide +kernel
set_option maxRecDepth 20000 in
theorem ggX8_marks_X8_lengthOf : GoodIn wsX8_marks wsX8_lengthOf := goodIn_r _ [6, 1, 38, 39, 40, 41, 42, 43, 44, 45, 46, 47, 48, 49, 50, 51, 52, 53, 54, 55, 56, 57, 58, 59, 60, 61, 62, 63, 64, 65, 66, 67, 68, 69, 70, 71, 72, 73, 74] (by decide +kernel) (by decide +kernel)
set_option maxRecDepth 20000 in
theorem gX8_marks_X8_lengthOf : GoodIn wsX8_marks (wsV RX8 149 RX8 yX8_lengthOf wsX8_lengthOf) := goodIn_app (goodIn_of _ (by decide +kernel)) ggX8_marks_X8_lengthOf
set_option maxRecDepth 20000 in
theorem ggX8_marks_X8_inches : GoodIn wsX8_marks wsX8_inches := goodIn_r _ [10, 1, 38, 39, 40, 41, 42, 43, 44, 45, 46, 47, 48, 49, 50, 51, 52, 53, 54, 55, 56, 57, 58, 59, 60, 61, 62, 63, 64, 65, 66, 67, 68, 69, 70, 71, 72, 73, 74] (by decide +kernel) (by decide +kernel)
set_option maxRecDepth 20000 in
theorem gX8_marks_X8_inches : GoodIn wsX8_marks (wsV RX8 140 RX8 yX8_inches wsX8_inches) := goodIn_app (goodIn_of _ (by decide +kernel)) ggX8_marks_X8_inches
set_option maxRecDepth 20000 in
theorem ggX8_marks_X8_many : GoodIn wsX8_marks wsX8_many := goodIn_r _ [14, 1, 38, 39, 40, 41, 42, 43, 44, 45, 46, 47, 48, 49, 50, 51, 52, 53, 54, 55, 56, 57, 58, 59, 60, 61, 62, 63, 64, 65, 66, 67, 68, 69, 70, 71, 72, 73, 74] (by decide +kernel) (by decide +kernel)
set_option maxRecDepth 20000 in
theorem gX8_marks_X8_many : GoodIn wsX8_marks (wsV RX8 165 RX8 yX8_many wsX8_many) := goodIn_app (goodIn_of _ (by decide +kernel)) ggX8_marks_X8_many
set_option maxRecDepth 20000 in
theorem ggX8_marks_X8_mayBe : GoodIn wsX8_marks wsX8_mayBe := goodIn_r _ [18, 1, 19, 20, 21, 5, 22, 23, 24, 25, 26, 27, 28, 29, 30, 7, 8, 9, 10, 38, 39, 40, 41, 42, 43, 44, 45, 46, 47, 48, 49, 50, 51, 52, 53, 54, 55, 56, 57, 58, 59, 60, 61, 62, 63, 64, 65, 66, 67, 68, 69, 70, 71, 72, 73, 74] (by decide +kernel) (by decide +kernel)
set_option maxRecDepth 20000 in
theorem gX8_marks_X8_mayBe : GoodIn wsX8_marks (wsV RX8 161 RX8 yX8_mayBe wsX8_mayBe) := goodIn_app (goodIn_of _ (by decide +kernel)) ggX8_marks_X8_mayBe
set_option maxRecDepth 20000 in
theorem ggX8_marks_X8_leaves : GoodIn wsX8_marks wsX8_leaves := goodIn_r _ [34, 1, 38, 39, 40, 41, 42, 43, 44, 45, 46, 47, 48, 49, 50, 51, 52, 53, 54, 55, 56, 57, 58, 59, 60, 61, 62, 63, 64, 65, 66, 67, 68, 69, 70, 71, 72, 73, 74] (by decide +kernel) (by decide +kernel)
set_option maxRecDepth 20000 in
theorem gX8_marks_X8_leaves : GoodIn wsX8_marks (wsV RX8 174 RX8 yX8_leaves wsX8_leaves) := goodIn_app (goodIn_of _ (by decide +kernel)) ggX8_marks_X8_leaves
set_option maxRecDepth 20000 in
theorem ggX8_marks_X8_marks : GoodIn wsX8_marks wsX8_marks := goodIn_r _ [0, 1, 2, 3, 4, 5, 6, 7, 8, 9, 10, 11, 12, 13, 14, 15, 16, 17, 18, 19, 20, 21, 22, 23, 24, 25, 26, 27, 28, 29, 30, 31, 32, 33, 34, 35, 36, 37, 38, 39, 40, 41, 42, 43, 44, 45, 46, 47, 48, 49, 50, 51, 52, 53, 54, 55, 56, 57, 58, 59, 60, 61, 62, 63, 64, 65, 66, 67, 68, 69, 70, 71, 72, 73, 74] (by decide +kernel) (by decide +kernel)
set_option maxRecDepth 20000 in
theorem gX8_marks_X8_marks : GoodIn wsX8_marks (wsV RX8 229 RX8 yX8_marks wsX8_marks) := goodIn_app (goodIn_of _ (by decide +kernel)) ggX8_marks_X8_marks
theorem dX8_marks_0 : decode cX8_marks 0 = .ok (.iload_n 3, 1) := by decide +kernel
theorem dX8_marks_1 : decode cX8_marks 1 = .ok (.aload_n 0, 1) := by decide +kernel
theorem dX8_marks_2 : decode cX8_marks 2 = .ok (.iload_n 1, 1) := by decide +kernel
theorem dX8_marks_3 : decode cX8_marks 3 = .ok (.invokevirtual 149, 3) := by decide +kernel
theorem dX8_marks_6 : decode cX8_marks 6 = .ok (.if_icmp .ne 9, 3) := by decide +kernel
theorem dX8_marks_9 : decode cX8_marks 9 = .ok (.aload_n 2, 1) := by decide +kernel
theorem dX8_marks_10 : decode cX8_marks 10 = .ok (.iload 4, 2) := by decide +kernel
theorem dX8_marks_12 : decode cX8_marks 12 = .ok (.iconst 1, 1) := by decide +kernel
theorem dX8_marks_13 : decode cX8_marks 13 = .ok (.bastore, 1) := by decide +kernel
theorem dX8_marks_14 : decode cX8_marks 14 = .ok (.return_, 1) := by decide +kernel
theorem dX8_marks_15 : decode cX8_marks 15 = .ok (.iconst 1, 1) := by decide +kernel
theorem dX8_marks_16 : decode cX8_marks 16 = .ok (.istore 5, 2) := by decide +kernel
theorem dX8_marks_18 : decode cX8_marks 18 = .ok (.iconst 0, 1) := by decide +kernel
theorem dX8_marks_19 : decode cX8_marks 19 = .ok (.istore 6, 2) := by decide +kernel
theorem dX8_marks_21 : decode cX8_marks 21 = .ok (.iload 6, 2) := by decide +kernel
theorem dX8_marks_23 : decode cX8_marks 23 = .ok (.aload_n 0, 1) := by decide +kernel
theorem dX8_marks_24 : decode cX8_marks 24 = .ok (.getfield 9, 3) := by decide +kernel
theorem dX8_marks_27 : decode cX8_marks 27 = .ok (.iconst 1, 1) := by decide +kernel
theorem dX8_marks_28 : decode cX8_marks 28 = .ok (.iaload, 1) := by decide +kernel
theorem dX8_marks_29 : decode cX8_marks 29 = .ok (.if_icmp .ge 92, 3) := by decide +kernel
theorem dX8_marks_32 : decode cX8_marks 32 = .ok (.iload_n 3, 1) := by decide +kernel
theorem dX8_marks_33 : decode cX8_marks 33 = .ok (.aload_n 0, 1) := by decide +kernel
theorem dX8_marks_34 : decode cX8_marks 34 = .ok (.iload 6, 2) := by decide +kernel
theorem dX8_marks_36 : decode cX8_marks 36 = .ok (.invokevirtual 140, 3) := by decide +kernel
theorem dX8_marks_39 : decode cX8_marks 39 = .ok (.iadd, 1) := by decide +kernel
theorem dX8_marks_40 : decode cX8_marks 40 = .ok (.istore 7, 2) := by decide +kernel
theorem dX8_marks_42 : decode cX8_marks 42 = .ok (.aload_n 0, 1) := by decide +kernel
theorem dX8_marks_43 : decode cX8_marks 43 = .ok (.iload 6, 2) := by decide +kernel
theorem dX8_marks_45 : decode cX8_marks 45 = .ok (.invokevirtual 165, 3) := by decide +kernel
theorem dX8_marks_48 : decode cX8_marks 48 = .ok (.ifCond .le 60, 3) := by decide +kernel
theorem dX8_marks_51 : decode cX8_marks 51 = .ok (.iload 7, 2) := by decide +kernel
theorem dX8_marks_53 : decode cX8_marks 53 = .ok (.aload_n 0, 1) := by decide +kernel
theorem dX8_marks_54 : decode cX8_marks 54 = .ok (.iload_n 1, 1) := by decide +kernel
theorem dX8_marks_55 : decode cX8_marks 55 = .ok (.invokevirtual 149, 3) := by decide +kernel
theorem dX8_marks_58 : decode cX8_marks 58 = .ok (.if_icmp .gt 50, 3) := by decide +kernel
theorem dX8_marks_61 : decode cX8_marks 61 = .ok (.iload 7, 2) := by decide +kernel
theorem dX8_marks_63 : decode cX8_marks 63 = .ok (.aload_n 0, 1) := by decide +kernel
theorem dX8_marks_64 : decode cX8_marks 64 = .ok (.iload_n 1, 1) := by decide +kernel
theorem dX8_marks_65 : decode cX8_marks 65 = .ok (.invokevirtual 149, 3) := by decide +kernel
theorem dX8_marks_68 : decode cX8_marks 68 = .ok (.if_icmp .eq 13, 3) := by decide +kernel
theorem dX8_marks_71 : decode cX8_marks 71 = .ok (.aload_n 0, 1) := by decide +kernel
theorem dX8_marks_72 : decode cX8_marks 72 = .ok (.iload_n 1, 1) := by decide +kernel
theorem dX8_marks_73 : decode cX8_marks 73 = .ok (.iload 7, 2) := by decide +kernel
theorem dX8_marks_75 : decode cX8_marks 75 = .ok (.invokevirtual 161, 3) := by decide +kernel
theorem dX8_marks_78 : decode cX8_marks 78 = .ok (.ifCond .eq 30, 3) := by decide +kernel
theorem dX8_marks_81 : decode cX8_marks 81 = .ok (.aload_n 0, 1) := by decide +kernel
theorem dX8_marks_82 : decode cX8_marks 82 = .ok (.iload 6, 2) := by decide +kernel
theorem dX8_marks_84 : decode cX8_marks 84 = .ok (.iconst 1, 1) := by decide +kernel
theorem dX8_marks_85 : decode cX8_marks 85 = .ok (.invokevirtual 174, 3) := by decide +kernel
theorem dX8_marks_88 : decode cX8_marks 88 = .ok (.aload_n 0, 1) := by decide +kernel
theorem dX8_marks_89 : decode cX8_marks 89 = .ok (.iload_n 1, 1) := by decide +kernel
theorem dX8_marks_90 : decode cX8_marks 90 = .ok (.aload_n 2, 1) := by decide +kernel
theorem dX8_marks_91 : decode cX8_marks 91 = .ok (.iload 7, 2) := by decide +kernel
theorem dX8_marks_93 : decode cX8_marks 93 = .ok (.iload 4, 2) := by decide +kernel
theorem dX8_marks_95 : decode cX8_marks 95 = .ok (.iload 5, 2) := by decide +kernel
theorem dX8_marks_97 : decode cX8_marks 97 = .ok (.iadd, 1) := by decide +kernel
theorem dX8_marks_98 : decode cX8_marks 98 = .ok (.invokevirtual 229, 3) := by decide +kernel
theorem dX8_marks_101 : decode cX8_marks 101 = .ok (.aload_n 0, 1) := by decide +kernel
theorem dX8_marks_102 : decode cX8_marks 102 = .ok (.iload 6, 2) := by decide +kernel
theorem dX8_marks_104 : decode cX8_marks 104 = .ok (.iconst (-1), 1) := by decide +kernel
theorem dX8_marks_105 : decode cX8_marks 105 = .ok (.invokevirtual 174, 3) := by decide +kernel
theorem dX8_marks_108 : decode cX8_marks 108 = .ok (.iload 5, 2) := by decide +kernel
theorem dX8_marks_110 : decode cX8_marks 110 = .ok (.bipush 13, 2) := by decide +kernel
theorem dX8_marks_112 : decode cX8_marks 112 = .ok (.imul, 1) := by decide +kernel
theorem dX8_marks_113 : decode cX8_marks 113 = .ok (.istore 5, 2) := by decide +kernel
theorem dX8_marks_115 : decode cX8_marks 115 = .ok (.iinc 6 1, 3) := by decide +kernel
theorem dX8_marks_118 : decode cX8_marks 118 = .ok (.goto (-97), 3) := by decide +kernel
theorem dX8_marks_121 : decode cX8_marks 121 = .ok (.return_, 1) := by decide +kernel
set_option maxRecDepth 20000 in
theorem ggX8_worthOf_X8_worth : GoodIn wsX8_worthOf wsX8_worth := goodIn_r _ [6, 1, 7, 8, 9, 10, 11, 12, 13, 14, 15, 16, 17, 18, 19, 20, 21, 22, 23, 24, 25, 26, 27, 28, 29, 30, 31, 32, 33, 34, 35, 36, 37, 38, 39, 40, 41, 42, 43] (by decide +kernel) (by decide +kernel)
set_option maxRecDepth 20000 in
theorem gX8_worthOf_X8_worth : GoodIn wsX8_worthOf (wsV RX8 196 RX8 yX8_worth wsX8_worth) := goodIn_app (goodIn_of _ (by decide +kernel)) ggX8_worthOf_X8_worth
theorem dX8_worthOf_0 : decode cX8_worthOf 0 = .ok (.iconst 0, 1) := by decide +kernel
theorem dX8_worthOf_1 : decode cX8_worthOf 1 = .ok (.istore_n 2, 1) := by decide +kernel
theorem dX8_worthOf_2 : decode cX8_worthOf 2 = .ok (.iload_n 1, 1) := by decide +kernel
theorem dX8_worthOf_3 : decode cX8_worthOf 3 = .ok (.istore_n 3, 1) := by decide +kernel
theorem dX8_worthOf_4 : decode cX8_worthOf 4 = .ok (.iconst 0, 1) := by decide +kernel
theorem dX8_worthOf_5 : decode cX8_worthOf 5 = .ok (.istore 4, 2) := by decide +kernel
theorem dX8_worthOf_7 : decode cX8_worthOf 7 = .ok (.iload 4, 2) := by decide +kernel
theorem dX8_worthOf_9 : decode cX8_worthOf 9 = .ok (.aload_n 0, 1) := by decide +kernel
theorem dX8_worthOf_10 : decode cX8_worthOf 10 = .ok (.getfield 9, 3) := by decide +kernel
theorem dX8_worthOf_13 : decode cX8_worthOf 13 = .ok (.iconst 1, 1) := by decide +kernel
theorem dX8_worthOf_14 : decode cX8_worthOf 14 = .ok (.iaload, 1) := by decide +kernel
theorem dX8_worthOf_15 : decode cX8_worthOf 15 = .ok (.if_icmp .ge 28, 3) := by decide +kernel
theorem dX8_worthOf_18 : decode cX8_worthOf 18 = .ok (.iload_n 2, 1) := by decide +kernel
theorem dX8_worthOf_19 : decode cX8_worthOf 19 = .ok (.iload_n 3, 1) := by decide +kernel
theorem dX8_worthOf_20 : decode cX8_worthOf 20 = .ok (.bipush 13, 2) := by decide +kernel
theorem dX8_worthOf_22 : decode cX8_worthOf 22 = .ok (.irem, 1) := by decide +kernel
theorem dX8_worthOf_23 : decode cX8_worthOf 23 = .ok (.aload_n 0, 1) := by decide +kernel
theorem dX8_worthOf_24 : decode cX8_worthOf 24 = .ok (.iload 4, 2) := by decide +kernel
theorem dX8_worthOf_26 : decode cX8_worthOf 26 = .ok (.invokevirtual 196, 3) := by decide +kernel
theorem dX8_worthOf_29 : decode cX8_worthOf 29 = .ok (.imul, 1) := by decide +kernel
theorem dX8_worthOf_30 : decode cX8_worthOf 30 = .ok (.iadd, 1) := by decide +kernel
theorem dX8_worthOf_31 : decode cX8_worthOf 31 = .ok (.istore_n 2, 1) := by decide +kernel
theorem dX8_worthOf_32 : decode cX8_worthOf 32 = .ok (.iload_n 3, 1) := by decide +kernel
theorem dX8_worthOf_33 : decode cX8_worthOf 33 = .ok (.bipush 13, 2) := by decide +kernel
theorem dX8_worthOf_35 : decode cX8_worthOf 35 = .ok (.idiv, 1) := by decide +kernel
theorem dX8_worthOf_36 : decode cX8_worthOf 36 = .ok (.istore_n 3, 1) := by decide +kernel
theorem dX8_worthOf_37 : decode cX8_worthOf 37 = .ok (.iinc 4 1, 3) := by decide +kernel
theorem dX8_worthOf_40 : decode cX8_worthOf 40 = .ok (.goto (-33), 3) := by decide +kernel
theorem dX8_worthOf_43 : decode cX8_worthOf 43 = .ok (.iload_n 2, 1) := by decide +kernel
theorem dX8_worthOf_44 : decode cX8_worthOf 44 = .ok (.ireturn, 1) := by decide +kernel
set_option maxRecDepth 20000 in
theorem ggX8_isThere_X8_many : GoodIn wsX8_isThere wsX8_many := goodIn_r _ [6, 1, 7, 8, 9, 10, 11, 12, 13, 14, 15, 16, 17, 18, 19, 20, 21, 22, 23, 24, 25, 26, 27, 28, 29, 30, 31, 32, 33, 34, 35, 36, 37, 38, 39, 40, 41, 42, 43] (by decide +kernel) (by decide +kernel)
set_option maxRecDepth 20000 in
theorem gX8_isThere_X8_many : GoodIn wsX8_isThere (wsV RX8 165 RX8 yX8_many wsX8_many) := goodIn_app (goodIn_of _ (by decide +kernel)) ggX8_isThere_X8_many
theorem dX8_isThere_0 : decode cX8_isThere 0 = .ok (.iload_n 1, 1) := by decide +kernel
theorem dX8_isThere_1 : decode cX8_isThere 1 = .ok (.istore_n 3, 1) := by decide +kernel
theorem dX8_isThere_2 : decode cX8_isThere 2 = .ok (.iload_n 2, 1) := by decide +kernel
theorem dX8_isThere_3 : decode cX8_isThere 3 = .ok (.istore 4, 2) := by decide +kernel
theorem dX8_isThere_5 : decode cX8_isThere 5 = .ok (.iconst 0, 1) := by decide +kernel
theorem dX8_isThere_6 : decode cX8_isThere 6 = .ok (.istore 5, 2) := by decide +kernel
theorem dX8_isThere_8 : decode cX8_isThere 8 = .ok (.iload 5, 2) := by decide +kernel
theorem dX8_isThere_10 : decode cX8_isThere 10 = .ok (.aload_n 0, 1) := by decide +kernel
theorem dX8_isThere_11 : decode cX8_isThere 11 = .ok (.getfield 9, 3) := by decide +kernel
theorem dX8_isThere_14 : decode cX8_isThere 14 = .ok (.iconst 1, 1) := by decide +kernel
theorem dX8_isThere_15 : decode cX8_isThere 15 = .ok (.iaload, 1) := by decide +kernel
theorem dX8_isThere_16 : decode cX8_isThere 16 = .ok (.if_icmp .ge 42, 3) := by decide +kernel
theorem dX8_isThere_19 : decode cX8_isThere 19 = .ok (.iload_n 3, 1) := by decide +kernel
theorem dX8_isThere_20 : decode cX8_isThere 20 = .ok (.bipush 13, 2) := by decide +kernel
theorem dX8_isThere_22 : decode cX8_isThere 22 = .ok (.irem, 1) := by decide +kernel
theorem dX8_isThere_23 : decode cX8_isThere 23 = .ok (.iload 4, 2) := by decide +kernel
theorem dX8_isThere_25 : decode cX8_isThere 25 = .ok (.bipush 13, 2) := by decide +kernel
theorem dX8_isThere_27 : decode cX8_isThere 27 = .ok (.irem, 1) := by decide +kernel
theorem dX8_isThere_28 : decode cX8_isThere 28 = .ok (.iadd, 1) := by decide +kernel
theorem dX8_isThere_29 : decode cX8_isThere 29 = .ok (.aload_n 0, 1) := by decide +kernel
theorem dX8_isThere_30 : decode cX8_isThere 30 = .ok (.iload 5, 2) := by decide +kernel
theorem dX8_isThere_32 : decode cX8_isThere 32 = .ok (.invokevirtual 165, 3) := by decide +kernel
theorem dX8_isThere_35 : decode cX8_isThere 35 = .ok (.if_icmp .le 5, 3) := by decide +kernel
theorem dX8_isThere_38 : decode cX8_isThere 38 = .ok (.iconst 0, 1) := by decide +kernel
theorem dX8_isThere_39 : decode cX8_isThere 39 = .ok (.ireturn, 1) := by decide +kernel
theorem dX8_isThere_40 : decode cX8_isThere 40 = .ok (.iload_n 3, 1) := by decide +kernel
theorem dX8_isThere_41 : decode cX8_isThere 41 = .ok (.bipush 13, 2) := by decide +kernel
theorem dX8_isThere_43 : decode cX8_isThere 43 = .ok (.idiv, 1) := by decide +kernel
theorem dX8_isThere_44 : decode cX8_isThere 44 = .ok (.istore_n 3, 1) := by decide +kernel
theorem dX8_isThere_45 : decode cX8_isThere 45 = .ok (.iload 4, 2) := by decide +kernel
theorem dX8_isThere_47 : decode cX8_isThere 47 = .ok (.bipush 13, 2) := by decide +kernel
theorem dX8_isThere_49 : decode cX8_isThere 49 = .ok (.idiv, 1) := by decide +kernel
theorem dX8_isThere_50 : decode cX8_isThere 50 = .ok (.istore 4, 2) := by decide +kernel
theorem dX8_isThere_52 : decode cX8_isThere 52 = .ok (.iinc 5 1, 3) := by decide +kernel
theorem dX8_isThere_55 : decode cX8_isThere 55 = .ok (.goto (-47), 3) := by decide +kernel
theorem dX8_isThere_58 : decode cX8_isThere 58 = .ok (.iconst 1, 1) := by decide +kernel
theorem dX8_isThere_59 : decode cX8_isThere 59 = .ok (.ireturn, 1) := by decide +kernel
set_option maxRecDepth 20000 in
theorem ggX8_two_X8_isRow : GoodIn wsX8_two wsX8_isRow := goodIn_r _ [7, 8, 9, 10, 6, 11, 64, 65, 66, 67, 68, 69, 70, 71, 72, 73, 74, 75, 76, 77, 78, 79, 80, 81, 82, 83, 84, 85, 86, 87, 88, 89, 90, 91, 92, 93, 94, 95, 96, 97, 98, 99, 100] (by decide +kernel) (by decide +kernel)
set_option maxRecDepth 20000 in
theorem gX8_two_X8_isRow : GoodIn wsX8_two (wsV RX8 152 RX8 yX8_isRow wsX8_isRow) := goodIn_app (goodIn_of _ (by decide +kernel)) ggX8_two_X8_isRow
set_option maxRecDepth 20000 in
theorem ggX8_two_X8_isLaid : GoodIn wsX8_two wsX8_isLaid := goodIn_r _ [15, 16, 17, 18, 6, 19, 8, 64, 65, 66, 67, 68, 69, 70, 71, 72, 73, 74, 75, 76, 77, 78, 79, 80, 81, 82, 83, 84, 85, 86, 87, 88, 89, 90, 91, 92, 93, 94, 95, 96, 97, 98, 99, 100] (by decide +kernel) (by decide +kernel)
set_option maxRecDepth 20000 in
theorem gX8_two_X8_isLaid : GoodIn wsX8_two (wsV RX8 143 RX8 yX8_isLaid wsX8_isLaid) := goodIn_app (goodIn_of _ (by decide +kernel)) ggX8_two_X8_isLaid
set_option maxRecDepth 20000 in
theorem ggX8_two_X8_marks : GoodIn wsX8_two wsX8_marks := goodIn_r _ [23, 8, 24, 25, 26, 6, 27, 28, 29, 30, 31, 32, 33, 34, 35, 36, 37, 38, 39, 16, 17, 18, 19, 40, 41, 42, 43, 44, 45, 46, 47, 48, 49, 50, 51, 20, 21, 22, 64, 65, 66, 67, 68, 69, 70, 71, 72, 73, 74, 75, 76, 77, 78, 79, 80, 81, 82, 83, 84, 85, 86, 87, 88, 89, 90, 91, 92, 93, 94, 95, 96, 97, 98, 99, 100] (by decide +kernel) (by decide +kernel)
set_option maxRecDepth 20000 in
theorem gX8_two_X8_marks : GoodIn wsX8_two (wsV RX8 229 RX8 yX8_marks wsX8_marks) := goodIn_app (goodIn_of _ (by decide +kernel)) ggX8_two_X8_marks
set_option maxRecDepth 20000 in
theorem ggX8_two_X8_isThere : GoodIn wsX8_two wsX8_isThere := goodIn_r _ [55, 8, 32, 33, 34, 6, 35, 64, 65, 66, 67, 68, 69, 70, 71, 72, 73, 74, 75, 76, 77, 78, 79, 80, 81, 82, 83, 84, 85, 86, 87, 88, 89, 90, 91, 92, 93, 94, 95, 96, 97, 98, 99, 100] (by decide +kernel) (by decide +kernel)
set_option maxRecDepth 20000 in
theorem gX8_two_X8_isThere : GoodIn wsX8_two (wsV RX8 233 RX8 yX8_isThere wsX8_isThere) := goodIn_app (goodIn_of _ (by decide +kernel)) ggX8_two_X8_isThere
set_option maxRecDepth 20000 in
theorem ggX8_two_X8_worthOf : GoodIn wsX8_two wsX8_worthOf := goodIn_r _ [59, 8, 60, 61, 62, 6, 63, 64, 65, 66, 67, 68, 69, 70, 71, 72, 73, 74, 75, 76, 77, 78, 79, 80, 81, 82, 83, 84, 85, 86, 87, 88, 89, 90, 91, 92, 93, 94, 95, 96, 97, 98, 99, 100] (by decide +kernel) (by decide +kernel)
set_option maxRecDepth 20000 in
theorem gX8_two_X8_worthOf : GoodIn wsX8_two (wsV RX8 236 RX8 yX8_worthOf wsX8_worthOf) := goodIn_app (goodIn_of _ (by decide +kernel)) ggX8_two_X8_worthOf
theorem dX8_two_0 : decode cX8_two 0 = .ok (.aload_n 0, 1) := by decide +kernel
theorem dX8_two_1 : decode cX8_two 1 = .ok (.iload_n 1, 1) := by decide +kernel
theorem dX8_two_2 : decode cX8_two 2 = .ok (.invokevirtual 152, 3) := by decide +kernel
theorem dX8_two_5 : decode cX8_two 5 = .ok (.ifCond .eq 30, 3) := by decide +kernel
theorem dX8_two_8 : decode cX8_two 8 = .ok (.aload_n 0, 1) := by decide +kernel
theorem dX8_two_9 : decode cX8_two 9 = .ok (.iload_n 2, 1) := by decide +kernel
theorem dX8_two_10 : decode cX8_two 10 = .ok (.invokevirtual 152, 3) := by decide +kernel
theorem dX8_two_13 : decode cX8_two 13 = .ok (.ifCond .eq 22, 3) := by decide +kernel
theorem dX8_two_16 : decode cX8_two 16 = .ok (.iload_n 1, 1) := by decide +kernel
theorem dX8_two_17 : decode cX8_two 17 = .ok (.iload_n 2, 1) := by decide +kernel
theorem dX8_two_18 : decode cX8_two 18 = .ok (.if_icmp .eq 17, 3) := by decide +kernel
theorem dX8_two_21 : decode cX8_two 21 = .ok (.iload_n 1, 1) := by decide +kernel
theorem dX8_two_22 : decode cX8_two 22 = .ok (.iload_n 2, 1) := by decide +kernel
theorem dX8_two_23 : decode cX8_two 23 = .ok (.isub, 1) := by decide +kernel
theorem dX8_two_24 : decode cX8_two 24 = .ok (.iconst 1, 1) := by decide +kernel
theorem dX8_two_25 : decode cX8_two 25 = .ok (.if_icmp .eq 10, 3) := by decide +kernel
theorem dX8_two_28 : decode cX8_two 28 = .ok (.iload_n 2, 1) := by decide +kernel
theorem dX8_two_29 : decode cX8_two 29 = .ok (.iload_n 1, 1) := by decide +kernel
theorem dX8_two_30 : decode cX8_two 30 = .ok (.isub, 1) := by decide +kernel
theorem dX8_two_31 : decode cX8_two 31 = .ok (.iconst 1, 1) := by decide +kernel
theorem dX8_two_32 : decode cX8_two 32 = .ok (.if_icmp .ne 5, 3) := by decide +kernel
theorem dX8_two_35 : decode cX8_two 35 = .ok (.iconst (-1), 1) := by decide +kernel
theorem dX8_two_36 : decode cX8_two 36 = .ok (.ireturn, 1) := by decide +kernel
theorem dX8_two_37 : decode cX8_two 37 = .ok (.aload_n 0, 1) := by decide +kernel
theorem dX8_two_38 : decode cX8_two 38 = .ok (.iload_n 1, 1) := by decide +kernel
theorem dX8_two_39 : decode cX8_two 39 = .ok (.invokevirtual 143, 3) := by decide +kernel
theorem dX8_two_42 : decode cX8_two 42 = .ok (.ifCond .ne 11, 3) := by decide +kernel
theorem dX8_two_45 : decode cX8_two 45 = .ok (.aload_n 0, 1) := by decide +kernel
theorem dX8_two_46 : decode cX8_two 46 = .ok (.iload_n 2, 1) := by decide +kernel
theorem dX8_two_47 : decode cX8_two 47 = .ok (.invokevirtual 143, 3) := by decide +kernel
theorem dX8_two_50 : decode cX8_two 50 = .ok (.ifCond .eq 6, 3) := by decide +kernel
theorem dX8_two_53 : decode cX8_two 53 = .ok (.bipush (-3), 2) := by decide +kernel
theorem dX8_two_55 : decode cX8_two 55 = .ok (.ireturn, 1) := by decide +kernel
theorem dX8_two_56 : decode cX8_two 56 = .ok (.iconst 0, 1) := by decide +kernel
theorem dX8_two_57 : decode cX8_two 57 = .ok (.istore_n 3, 1) := by decide +kernel
theorem dX8_two_58 : decode cX8_two 58 = .ok (.iload_n 3, 1) := by decide +kernel
theorem dX8_two_59 : decode cX8_two 59 = .ok (.sipush 28561, 3) := by decide +kernel
theorem dX8_two_62 : decode cX8_two 62 = .ok (.if_icmp .ge 23, 3) := by decide +kernel
theorem dX8_two_65 : decode cX8_two 65 = .ok (.aload_n 0, 1) := by decide +kernel
theorem dX8_two_66 : decode cX8_two 66 = .ok (.getfield 52, 3) := by decide +kernel
theorem dX8_two_69 : decode cX8_two 69 = .ok (.iload_n 3, 1) := by decide +kernel
theorem dX8_two_70 : decode cX8_two 70 = .ok (.iconst 0, 1) := by decide +kernel
theorem dX8_two_71 : decode cX8_two 71 = .ok (.bastore, 1) := by decide +kernel
theorem dX8_two_72 : decode cX8_two 72 = .ok (.aload_n 0, 1) := by decide +kernel
theorem dX8_two_73 : decode cX8_two 73 = .ok (.getfield 56, 3) := by decide +kernel
theorem dX8_two_76 : decode cX8_two 76 = .ok (.iload_n 3, 1) := by decide +kernel
theorem dX8_two_77 : decode cX8_two 77 = .ok (.iconst 0, 1) := by decide +kernel
theorem dX8_two_78 : decode cX8_two 78 = .ok (.bastore, 1) := by decide +kernel
theorem dX8_two_79 : decode cX8_two 79 = .ok (.iinc 3 1, 3) := by decide +kernel
theorem dX8_two_82 : decode cX8_two 82 = .ok (.goto (-24), 3) := by decide +kernel
theorem dX8_two_85 : decode cX8_two 85 = .ok (.aload_n 0, 1) := by decide +kernel
theorem dX8_two_86 : decode cX8_two 86 = .ok (.iload_n 1, 1) := by decide +kernel
theorem dX8_two_87 : decode cX8_two 87 = .ok (.aload_n 0, 1) := by decide +kernel
theorem dX8_two_88 : decode cX8_two 88 = .ok (.getfield 52, 3) := by decide +kernel
theorem dX8_two_91 : decode cX8_two 91 = .ok (.iconst 0, 1) := by decide +kernel
theorem dX8_two_92 : decode cX8_two 92 = .ok (.iconst 0, 1) := by decide +kernel
theorem dX8_two_93 : decode cX8_two 93 = .ok (.invokevirtual 229, 3) := by decide +kernel
theorem dX8_two_96 : decode cX8_two 96 = .ok (.aload_n 0, 1) := by decide +kernel
theorem dX8_two_97 : decode cX8_two 97 = .ok (.iload_n 2, 1) := by decide +kernel
theorem dX8_two_98 : decode cX8_two 98 = .ok (.aload_n 0, 1) := by decide +kernel
theorem dX8_two_99 : decode cX8_two 99 = .ok (.getfield 56, 3) := by decide +kernel
theorem dX8_two_102 : decode cX8_two 102 = .ok (.iconst 0, 1) := by decide +kernel
theorem dX8_two_103 : decode cX8_two 103 = .ok (.iconst 0, 1) := by decide +kernel
theorem dX8_two_104 : decode cX8_two 104 = .ok (.invokevirtual 229, 3) := by decide +kernel
theorem dX8_two_107 : decode cX8_two 107 = .ok (.bipush (-4), 2) := by decide +kernel
theorem dX8_two_109 : decode cX8_two 109 = .ok (.istore_n 3, 1) := by decide +kernel
theorem dX8_two_110 : decode cX8_two 110 = .ok (.iconst 0, 1) := by decide +kernel
theorem dX8_two_111 : decode cX8_two 111 = .ok (.istore 4, 2) := by decide +kernel
theorem dX8_two_113 : decode cX8_two 113 = .ok (.iload 4, 2) := by decide +kernel
theorem dX8_two_115 : decode cX8_two 115 = .ok (.sipush 28561, 3) := by decide +kernel
theorem dX8_two_118 : decode cX8_two 118 = .ok (.if_icmp .ge 95, 3) := by decide +kernel
theorem dX8_two_121 : decode cX8_two 121 = .ok (.aload_n 0, 1) := by decide +kernel
theorem dX8_two_122 : decode cX8_two 122 = .ok (.getfield 52, 3) := by decide +kernel
theorem dX8_two_125 : decode cX8_two 125 = .ok (.iload 4, 2) := by decide +kernel
theorem dX8_two_127 : decode cX8_two 127 = .ok (.baload, 1) := by decide +kernel
theorem dX8_two_128 : decode cX8_two 128 = .ok (.ifCond .ne 6, 3) := by decide +kernel
theorem dX8_two_131 : decode cX8_two 131 = .ok (.goto 76, 3) := by decide +kernel
theorem dX8_two_134 : decode cX8_two 134 = .ok (.iconst 0, 1) := by decide +kernel
theorem dX8_two_135 : decode cX8_two 135 = .ok (.istore 5, 2) := by decide +kernel
theorem dX8_two_137 : decode cX8_two 137 = .ok (.iload 5, 2) := by decide +kernel
theorem dX8_two_139 : decode cX8_two 139 = .ok (.sipush 28561, 3) := by decide +kernel
theorem dX8_two_142 : decode cX8_two 142 = .ok (.if_icmp .ge 65, 3) := by decide +kernel
theorem dX8_two_145 : decode cX8_two 145 = .ok (.aload_n 0, 1) := by decide +kernel
theorem dX8_two_146 : decode cX8_two 146 = .ok (.getfield 56, 3) := by decide +kernel
theorem dX8_two_149 : decode cX8_two 149 = .ok (.iload 5, 2) := by decide +kernel
theorem dX8_two_151 : decode cX8_two 151 = .ok (.baload, 1) := by decide +kernel
theorem dX8_two_152 : decode cX8_two 152 = .ok (.ifCond .eq 49, 3) := by decide +kernel
theorem dX8_two_155 : decode cX8_two 155 = .ok (.aload_n 0, 1) := by decide +kernel
theorem dX8_two_156 : decode cX8_two 156 = .ok (.iload 4, 2) := by decide +kernel
theorem dX8_two_158 : decode cX8_two 158 = .ok (.iload 5, 2) := by decide +kernel
theorem dX8_two_160 : decode cX8_two 160 = .ok (.invokevirtual 233, 3) := by decide +kernel
theorem dX8_two_163 : decode cX8_two 163 = .ok (.ifCond .ne 6, 3) := by decide +kernel
theorem dX8_two_166 : decode cX8_two 166 = .ok (.goto 35, 3) := by decide +kernel
theorem dX8_two_169 : decode cX8_two 169 = .ok (.aload_n 0, 1) := by decide +kernel
theorem dX8_two_170 : decode cX8_two 170 = .ok (.iload 4, 2) := by decide +kernel
theorem dX8_two_172 : decode cX8_two 172 = .ok (.invokevirtual 236, 3) := by decide +kernel
theorem dX8_two_175 : decode cX8_two 175 = .ok (.aload_n 0, 1) := by decide +kernel
theorem dX8_two_176 : decode cX8_two 176 = .ok (.iload 5, 2) := by decide +kernel
theorem dX8_two_178 : decode cX8_two 178 = .ok (.invokevirtual 236, 3) := by decide +kernel
theorem dX8_two_181 : decode cX8_two 181 = .ok (.iadd, 1) := by decide +kernel
theorem dX8_two_182 : decode cX8_two 182 = .ok (.istore 6, 2) := by decide +kernel
theorem dX8_two_184 : decode cX8_two 184 = .ok (.iload_n 3, 1) := by decide +kernel
theorem dX8_two_185 : decode cX8_two 185 = .ok (.ifCond .lt 9, 3) := by decide +kernel
theorem dX8_two_188 : decode cX8_two 188 = .ok (.iload 6, 2) := by decide +kernel
theorem dX8_two_190 : decode cX8_two 190 = .ok (.iload_n 3, 1) := by decide +kernel
theorem dX8_two_191 : decode cX8_two 191 = .ok (.if_icmp .ge 8, 3) := by decide +kernel
theorem dX8_two_194 : decode cX8_two 194 = .ok (.iload 6, 2) := by decide +kernel
theorem dX8_two_196 : decode cX8_two 196 = .ok (.goto 4, 3) := by decide +kernel
theorem dX8_two_199 : decode cX8_two 199 = .ok (.iload_n 3, 1) := by decide +kernel
theorem dX8_two_200 : decode cX8_two 200 = .ok (.istore_n 3, 1) := by decide +kernel
theorem dX8_two_201 : decode cX8_two 201 = .ok (.iinc 5 1, 3) := by decide +kernel
theorem dX8_two_204 : decode cX8_two 204 = .ok (.goto (-67), 3) := by decide +kernel
theorem dX8_two_207 : decode cX8_two 207 = .ok (.iinc 4 1, 3) := by decide +kernel
theorem dX8_two_210 : decode cX8_two 210 = .ok (.goto (-97), 3) := by decide +kernel
theorem dX8_two_213 : decode cX8_two 213 = .ok (.iload_n 3, 1) := by decide +kernel
theorem dX8_two_214 : decode cX8_two 214 = .ok (.ireturn, 1) := by decide +kernel
set_option maxRecDepth 20000 in
theorem ggX8_heapWorth_X8_many : GoodIn wsX8_heapWorth wsX8_many := goodIn_r _ [6, 1, 11, 12, 13, 14, 15, 16, 17, 18, 19, 20, 21, 22, 23, 24, 25, 26, 27, 28, 29, 30, 31, 32, 33, 34, 35, 36, 37, 38, 39, 40, 41, 42, 43, 44, 45, 46, 47] (by decide +kernel) (by decide +kernel)
set_option maxRecDepth 20000 in
theorem gX8_heapWorth_X8_many : GoodIn wsX8_heapWorth (wsV RX8 165 RX8 yX8_many wsX8_many) := goodIn_app (goodIn_of _ (by decide +kernel)) ggX8_heapWorth_X8_many
set_option maxRecDepth 20000 in
theorem ggX8_heapWorth_X8_worth : GoodIn wsX8_heapWorth wsX8_worth := goodIn_r _ [10, 1, 11, 12, 13, 14, 15, 16, 17, 18, 19, 20, 21, 22, 23, 24, 25, 26, 27, 28, 29, 30, 31, 32, 33, 34, 35, 36, 37, 38, 39, 40, 41, 42, 43, 44, 45, 46, 47] (by decide +kernel) (by decide +kernel)
set_option maxRecDepth 20000 in
theorem gX8_heapWorth_X8_worth : GoodIn wsX8_heapWorth (wsV RX8 196 RX8 yX8_worth wsX8_worth) := goodIn_app (goodIn_of _ (by decide +kernel)) ggX8_heapWorth_X8_worth
theorem dX8_heapWorth_0 : decode cX8_heapWorth 0 = .ok (.iconst 0, 1) := by decide +kernel
theorem dX8_heapWorth_1 : decode cX8_heapWorth 1 = .ok (.istore_n 1, 1) := by decide +kernel
theorem dX8_heapWorth_2 : decode cX8_heapWorth 2 = .ok (.iconst 0, 1) := by decide +kernel
theorem dX8_heapWorth_3 : decode cX8_heapWorth 3 = .ok (.istore_n 2, 1) := by decide +kernel
theorem dX8_heapWorth_4 : decode cX8_heapWorth 4 = .ok (.iload_n 2, 1) := by decide +kernel
theorem dX8_heapWorth_5 : decode cX8_heapWorth 5 = .ok (.aload_n 0, 1) := by decide +kernel
theorem dX8_heapWorth_6 : decode cX8_heapWorth 6 = .ok (.getfield 9, 3) := by decide +kernel
theorem dX8_heapWorth_9 : decode cX8_heapWorth 9 = .ok (.iconst 1, 1) := by decide +kernel
theorem dX8_heapWorth_10 : decode cX8_heapWorth 10 = .ok (.iaload, 1) := by decide +kernel
theorem dX8_heapWorth_11 : decode cX8_heapWorth 11 = .ok (.if_icmp .ge 23, 3) := by decide +kernel
theorem dX8_heapWorth_14 : decode cX8_heapWorth 14 = .ok (.iload_n 1, 1) := by decide +kernel
theorem dX8_heapWorth_15 : decode cX8_heapWorth 15 = .ok (.aload_n 0, 1) := by decide +kernel
theorem dX8_heapWorth_16 : decode cX8_heapWorth 16 = .ok (.iload_n 2, 1) := by decide +kernel
theorem dX8_heapWorth_17 : decode cX8_heapWorth 17 = .ok (.invokevirtual 165, 3) := by decide +kernel
theorem dX8_heapWorth_20 : decode cX8_heapWorth 20 = .ok (.aload_n 0, 1) := by decide +kernel
theorem dX8_heapWorth_21 : decode cX8_heapWorth 21 = .ok (.iload_n 2, 1) := by decide +kernel
theorem dX8_heapWorth_22 : decode cX8_heapWorth 22 = .ok (.invokevirtual 196, 3) := by decide +kernel
theorem dX8_heapWorth_25 : decode cX8_heapWorth 25 = .ok (.imul, 1) := by decide +kernel
theorem dX8_heapWorth_26 : decode cX8_heapWorth 26 = .ok (.iadd, 1) := by decide +kernel
theorem dX8_heapWorth_27 : decode cX8_heapWorth 27 = .ok (.istore_n 1, 1) := by decide +kernel
theorem dX8_heapWorth_28 : decode cX8_heapWorth 28 = .ok (.iinc 2 1, 3) := by decide +kernel
theorem dX8_heapWorth_31 : decode cX8_heapWorth 31 = .ok (.goto (-27), 3) := by decide +kernel
theorem dX8_heapWorth_34 : decode cX8_heapWorth 34 = .ok (.iload_n 1, 1) := by decide +kernel
theorem dX8_heapWorth_35 : decode cX8_heapWorth 35 = .ok (.ireturn, 1) := by decide +kernel
set_option maxRecDepth 20000 in
theorem ggX8_all_X8_isIn : GoodIn wsX8_all wsX8_isIn := goodIn_r _ [8] (by decide +kernel) (by decide +kernel)
set_option maxRecDepth 20000 in
theorem gX8_all_X8_isIn : GoodIn wsX8_all (va_wsS RX8 63 yX8_isIn wsX8_isIn) := goodIn_app (goodIn_of _ (by decide +kernel)) ggX8_all_X8_isIn
set_option maxRecDepth 20000 in
theorem ggX8_all_X8_isLaid : GoodIn wsX8_all wsX8_isLaid := goodIn_r _ [12, 13, 14, 15, 7, 16, 2, 71, 72, 73, 74, 75, 76, 77, 78, 79, 80, 81, 82, 83, 84, 85, 86, 87, 88, 89, 90, 91, 92, 93, 94, 95, 96, 97, 98, 99, 100, 101, 102, 103, 104, 105, 106, 107] (by decide +kernel) (by decide +kernel)
set_option maxRecDepth 20000 in
theorem gX8_all_X8_isLaid : GoodIn wsX8_all (wsV RX8 143 RX8 yX8_isLaid wsX8_isLaid) := goodIn_app (goodIn_of _ (by decide +kernel)) ggX8_all_X8_isLaid
set_option maxRecDepth 20000 in
theorem ggX8_all_X8_findBest : GoodIn wsX8_all wsX8_findBest := goodIn_r _ [20, 21, 22, 23, 24, 7, 25, 2, 26, 27, 28, 29, 30, 31, 32, 3, 33, 34, 35, 36, 37, 38, 4, 39, 40, 41, 42, 43, 44, 45, 46, 47, 48, 49, 50, 13, 14, 15, 16, 51, 52, 53, 54, 55, 56, 57, 58, 59, 60, 61, 62, 63, 64, 65, 66, 71, 72, 73, 74, 75, 76, 77, 78, 79, 80, 81, 82, 83, 84, 85, 86, 87, 88, 89, 90, 91, 92, 93, 94, 95, 96, 97, 98, 99, 100, 101, 102, 103, 104, 105, 106, 107] (by decide +kernel) (by decide +kernel)
set_option maxRecDepth 20000 in
theorem gX8_all_X8_findBest : GoodIn wsX8_all (wsV RX8 216 RX8 yX8_findBest wsX8_findBest) := goodIn_app (goodIn_of _ (by decide +kernel)) ggX8_all_X8_findBest
set_option maxRecDepth 20000 in
theorem ggX8_all_X8_leaves : GoodIn wsX8_all wsX8_leaves := goodIn_r _ [62, 2, 71, 72, 73, 74, 75, 76, 77, 78, 79, 80, 81, 82, 83, 84, 85, 86, 87, 88, 89, 90, 91, 92, 93, 94, 95, 96, 97, 98, 99, 100, 101, 102, 103, 104, 105, 106, 107] (by decide +kernel) (by decide +kernel)
set_option maxRecDepth 20000 in
theorem gX8_all_X8_leaves : GoodIn wsX8_all (wsV RX8 174 RX8 yX8_leaves wsX8_leaves) := goodIn_app (goodIn_of _ (by decide +kernel)) ggX8_all_X8_leaves
set_option maxRecDepth 20000 in
theorem ggX8_all_X8_heapWorth : GoodIn wsX8_all wsX8_heapWorth := goodIn_r _ [70, 2, 43, 44, 45, 7, 46, 63, 64, 65, 66, 71, 72, 73, 74, 75, 76, 77, 78, 79, 80, 81, 82, 83, 84, 85, 86, 87, 88, 89, 90, 91, 92, 93, 94, 95, 96, 97, 98, 99, 100, 101, 102, 103, 104, 105, 106, 107] (by decide +kernel) (by decide +kernel)
set_option maxRecDepth 20000 in
theorem gX8_all_X8_heapWorth : GoodIn wsX8_all (wsV RX8 239 RX8 yX8_heapWorth wsX8_heapWorth) := goodIn_app (goodIn_of _ (by decide +kernel)) ggX8_all_X8_heapWorth
theorem dX8_all_0 : decode cX8_all 0 = .ok (.iload_n 1, 1) := by decide +kernel
theorem dX8_all_1 : decode cX8_all 1 = .ok (.i2l, 1) := by decide +kernel
theorem dX8_all_2 : decode cX8_all 2 = .ok (.lconst 0, 1) := by decide +kernel
theorem dX8_all_3 : decode cX8_all 3 = .ok (.lconst 1, 1) := by decide +kernel
theorem dX8_all_4 : decode cX8_all 4 = .ok (.invokestatic 63, 3) := by decide +kernel
theorem dX8_all_7 : decode cX8_all 7 = .ok (.ifCond .ne 5, 3) := by decide +kernel
theorem dX8_all_10 : decode cX8_all 10 = .ok (.iconst (-1), 1) := by decide +kernel
theorem dX8_all_11 : decode cX8_all 11 = .ok (.ireturn, 1) := by decide +kernel
theorem dX8_all_12 : decode cX8_all 12 = .ok (.iconst 0, 1) := by decide +kernel
theorem dX8_all_13 : decode cX8_all 13 = .ok (.istore_n 2, 1) := by decide +kernel
theorem dX8_all_14 : decode cX8_all 14 = .ok (.iload_n 2, 1) := by decide +kernel
theorem dX8_all_15 : decode cX8_all 15 = .ok (.bipush 99, 2) := by decide +kernel
theorem dX8_all_17 : decode cX8_all 17 = .ok (.if_icmp .ge 21, 3) := by decide +kernel
theorem dX8_all_20 : decode cX8_all 20 = .ok (.aload_n 0, 1) := by decide +kernel
theorem dX8_all_21 : decode cX8_all 21 = .ok (.getfield 19, 3) := by decide +kernel
theorem dX8_all_24 : decode cX8_all 24 = .ok (.iload_n 2, 1) := by decide +kernel
theorem dX8_all_25 : decode cX8_all 25 = .ok (.aload_n 0, 1) := by decide +kernel
theorem dX8_all_26 : decode cX8_all 26 = .ok (.getfield 9, 3) := by decide +kernel
theorem dX8_all_29 : decode cX8_all 29 = .ok (.iload_n 2, 1) := by decide +kernel
theorem dX8_all_30 : decode cX8_all 30 = .ok (.iaload, 1) := by decide +kernel
theorem dX8_all_31 : decode cX8_all 31 = .ok (.iastore, 1) := by decide +kernel
theorem dX8_all_32 : decode cX8_all 32 = .ok (.iinc 2 1, 3) := by decide +kernel
theorem dX8_all_35 : decode cX8_all 35 = .ok (.goto (-21), 3) := by decide +kernel
theorem dX8_all_38 : decode cX8_all 38 = .ok (.iconst 0, 1) := by decide +kernel
theorem dX8_all_39 : decode cX8_all 39 = .ok (.istore_n 2, 1) := by decide +kernel
theorem dX8_all_40 : decode cX8_all 40 = .ok (.iconst 0, 1) := by decide +kernel
theorem dX8_all_41 : decode cX8_all 41 = .ok (.istore_n 3, 1) := by decide +kernel
theorem dX8_all_42 : decode cX8_all 42 = .ok (.iconst 0, 1) := by decide +kernel
theorem dX8_all_43 : decode cX8_all 43 = .ok (.istore 4, 2) := by decide +kernel
theorem dX8_all_45 : decode cX8_all 45 = .ok (.iload 4, 2) := by decide +kernel
theorem dX8_all_47 : decode cX8_all 47 = .ok (.aload_n 0, 1) := by decide +kernel
theorem dX8_all_48 : decode cX8_all 48 = .ok (.getfield 9, 3) := by decide +kernel
theorem dX8_all_51 : decode cX8_all 51 = .ok (.iconst 2, 1) := by decide +kernel
theorem dX8_all_52 : decode cX8_all 52 = .ok (.iaload, 1) := by decide +kernel
theorem dX8_all_53 : decode cX8_all 53 = .ok (.if_icmp .ge 124, 3) := by decide +kernel
theorem dX8_all_56 : decode cX8_all 56 = .ok (.iload_n 3, 1) := by decide +kernel
theorem dX8_all_57 : decode cX8_all 57 = .ok (.ifCond .ne 120, 3) := by decide +kernel
theorem dX8_all_60 : decode cX8_all 60 = .ok (.aload_n 0, 1) := by decide +kernel
theorem dX8_all_61 : decode cX8_all 61 = .ok (.iload 4, 2) := by decide +kernel
theorem dX8_all_63 : decode cX8_all 63 = .ok (.invokevirtual 143, 3) := by decide +kernel
theorem dX8_all_66 : decode cX8_all 66 = .ok (.ifCond .eq 6, 3) := by decide +kernel
theorem dX8_all_69 : decode cX8_all 69 = .ok (.goto 102, 3) := by decide +kernel
theorem dX8_all_72 : decode cX8_all 72 = .ok (.aload_n 0, 1) := by decide +kernel
theorem dX8_all_73 : decode cX8_all 73 = .ok (.iload 4, 2) := by decide +kernel
theorem dX8_all_75 : decode cX8_all 75 = .ok (.invokevirtual 216, 3) := by decide +kernel
theorem dX8_all_78 : decode cX8_all 78 = .ok (.ifCond .ne 7, 3) := by decide +kernel
theorem dX8_all_81 : decode cX8_all 81 = .ok (.iconst 1, 1) := by decide +kernel
theorem dX8_all_82 : decode cX8_all 82 = .ok (.goto 4, 3) := by decide +kernel
theorem dX8_all_85 : decode cX8_all 85 = .ok (.iconst 0, 1) := by decide +kernel
theorem dX8_all_86 : decode cX8_all 86 = .ok (.istore_n 3, 1) := by decide +kernel
theorem dX8_all_87 : decode cX8_all 87 = .ok (.iload_n 3, 1) := by decide +kernel
theorem dX8_all_88 : decode cX8_all 88 = .ok (.ifCond .eq 6, 3) := by decide +kernel
theorem dX8_all_91 : decode cX8_all 91 = .ok (.goto 80, 3) := by decide +kernel
theorem dX8_all_94 : decode cX8_all 94 = .ok (.iconst 0, 1) := by decide +kernel
theorem dX8_all_95 : decode cX8_all 95 = .ok (.istore 5, 2) := by decide +kernel
theorem dX8_all_97 : decode cX8_all 97 = .ok (.iload 5, 2) := by decide +kernel
theorem dX8_all_99 : decode cX8_all 99 = .ok (.aload_n 0, 1) := by decide +kernel
theorem dX8_all_100 : decode cX8_all 100 = .ok (.getfield 187, 3) := by decide +kernel
theorem dX8_all_103 : decode cX8_all 103 = .ok (.if_icmp .ge 46, 3) := by decide +kernel
theorem dX8_all_106 : decode cX8_all 106 = .ok (.aload_n 0, 1) := by decide +kernel
theorem dX8_all_107 : decode cX8_all 107 = .ok (.getfield 9, 3) := by decide +kernel
theorem dX8_all_110 : decode cX8_all 110 = .ok (.bipush 15, 2) := by decide +kernel
theorem dX8_all_112 : decode cX8_all 112 = .ok (.bipush 14, 2) := by decide +kernel
theorem dX8_all_114 : decode cX8_all 114 = .ok (.iload 4, 2) := by decide +kernel
theorem dX8_all_116 : decode cX8_all 116 = .ok (.imul, 1) := by decide +kernel
theorem dX8_all_117 : decode cX8_all 117 = .ok (.iadd, 1) := by decide +kernel
theorem dX8_all_118 : decode cX8_all 118 = .ok (.iconst 2, 1) := by decide +kernel
theorem dX8_all_119 : decode cX8_all 119 = .ok (.iadd, 1) := by decide +kernel
theorem dX8_all_120 : decode cX8_all 120 = .ok (.iload 5, 2) := by decide +kernel
theorem dX8_all_122 : decode cX8_all 122 = .ok (.iadd, 1) := by decide +kernel
theorem dX8_all_123 : decode cX8_all 123 = .ok (.aload_n 0, 1) := by decide +kernel
theorem dX8_all_124 : decode cX8_all 124 = .ok (.getfield 49, 3) := by decide +kernel
theorem dX8_all_127 : decode cX8_all 127 = .ok (.iload 5, 2) := by decide +kernel
theorem dX8_all_129 : decode cX8_all 129 = .ok (.iaload, 1) := by decide +kernel
theorem dX8_all_130 : decode cX8_all 130 = .ok (.iastore, 1) := by decide +kernel
theorem dX8_all_131 : decode cX8_all 131 = .ok (.aload_n 0, 1) := by decide +kernel
theorem dX8_all_132 : decode cX8_all 132 = .ok (.aload_n 0, 1) := by decide +kernel
theorem dX8_all_133 : decode cX8_all 133 = .ok (.getfield 49, 3) := by decide +kernel
theorem dX8_all_136 : decode cX8_all 136 = .ok (.iload 5, 2) := by decide +kernel
theorem dX8_all_138 : decode cX8_all 138 = .ok (.iaload, 1) := by decide +kernel
theorem dX8_all_139 : decode cX8_all 139 = .ok (.iconst 1, 1) := by decide +kernel
theorem dX8_all_140 : decode cX8_all 140 = .ok (.invokevirtual 174, 3) := by decide +kernel
theorem dX8_all_143 : decode cX8_all 143 = .ok (.iinc 5 1, 3) := by decide +kernel
theorem dX8_all_146 : decode cX8_all 146 = .ok (.goto (-49), 3) := by decide +kernel
theorem dX8_all_149 : decode cX8_all 149 = .ok (.aload_n 0, 1) := by decide +kernel
theorem dX8_all_150 : decode cX8_all 150 = .ok (.getfield 9, 3) := by decide +kernel
theorem dX8_all_153 : decode cX8_all 153 = .ok (.bipush 15, 2) := by decide +kernel
theorem dX8_all_155 : decode cX8_all 155 = .ok (.bipush 14, 2) := by decide +kernel
theorem dX8_all_157 : decode cX8_all 157 = .ok (.iload 4, 2) := by decide +kernel
theorem dX8_all_159 : decode cX8_all 159 = .ok (.imul, 1) := by decide +kernel
theorem dX8_all_160 : decode cX8_all 160 = .ok (.iadd, 1) := by decide +kernel
theorem dX8_all_161 : decode cX8_all 161 = .ok (.iconst 1, 1) := by decide +kernel
theorem dX8_all_162 : decode cX8_all 162 = .ok (.iadd, 1) := by decide +kernel
theorem dX8_all_163 : decode cX8_all 163 = .ok (.aload_n 0, 1) := by decide +kernel
theorem dX8_all_164 : decode cX8_all 164 = .ok (.getfield 187, 3) := by decide +kernel
theorem dX8_all_167 : decode cX8_all 167 = .ok (.iastore, 1) := by decide +kernel
theorem dX8_all_168 : decode cX8_all 168 = .ok (.iinc 2 1, 3) := by decide +kernel
theorem dX8_all_171 : decode cX8_all 171 = .ok (.iinc 4 1, 3) := by decide +kernel
theorem dX8_all_174 : decode cX8_all 174 = .ok (.goto (-129), 3) := by decide +kernel
theorem dX8_all_177 : decode cX8_all 177 = .ok (.iload_n 1, 1) := by decide +kernel
theorem dX8_all_178 : decode cX8_all 178 = .ok (.ifCond .ne 7, 3) := by decide +kernel
theorem dX8_all_181 : decode cX8_all 181 = .ok (.iload_n 2, 1) := by decide +kernel
theorem dX8_all_182 : decode cX8_all 182 = .ok (.goto 7, 3) := by decide +kernel
theorem dX8_all_185 : decode cX8_all 185 = .ok (.aload_n 0, 1) := by decide +kernel
theorem dX8_all_186 : decode cX8_all 186 = .ok (.invokevirtual 239, 3) := by decide +kernel
theorem dX8_all_189 : decode cX8_all 189 = .ok (.istore 4, 2) := by decide +kernel
theorem dX8_all_191 : decode cX8_all 191 = .ok (.iconst 0, 1) := by decide +kernel
theorem dX8_all_192 : decode cX8_all 192 = .ok (.istore 5, 2) := by decide +kernel
theorem dX8_all_194 : decode cX8_all 194 = .ok (.iload 5, 2) := by decide +kernel
theorem dX8_all_196 : decode cX8_all 196 = .ok (.bipush 99, 2) := by decide +kernel
theorem dX8_all_198 : decode cX8_all 198 = .ok (.if_icmp .ge 23, 3) := by decide +kernel
theorem dX8_all_201 : decode cX8_all 201 = .ok (.aload_n 0, 1) := by decide +kernel
theorem dX8_all_202 : decode cX8_all 202 = .ok (.getfield 9, 3) := by decide +kernel
theorem dX8_all_205 : decode cX8_all 205 = .ok (.iload 5, 2) := by decide +kernel
theorem dX8_all_207 : decode cX8_all 207 = .ok (.aload_n 0, 1) := by decide +kernel
theorem dX8_all_208 : decode cX8_all 208 = .ok (.getfield 19, 3) := by decide +kernel
theorem dX8_all_211 : decode cX8_all 211 = .ok (.iload 5, 2) := by decide +kernel
theorem dX8_all_213 : decode cX8_all 213 = .ok (.iaload, 1) := by decide +kernel
theorem dX8_all_214 : decode cX8_all 214 = .ok (.iastore, 1) := by decide +kernel
theorem dX8_all_215 : decode cX8_all 215 = .ok (.iinc 5 1, 3) := by decide +kernel
theorem dX8_all_218 : decode cX8_all 218 = .ok (.goto (-24), 3) := by decide +kernel
theorem dX8_all_221 : decode cX8_all 221 = .ok (.iload 4, 2) := by decide +kernel
theorem dX8_all_223 : decode cX8_all 223 = .ok (.ireturn, 1) := by decide +kernel
set_option maxRecDepth 20000 in
theorem ggX8_broken_X8_isRow : GoodIn wsX8_broken wsX8_isRow := goodIn_r _ [6, 7, 8, 9, 5, 10, 78, 79, 80, 81, 82, 83, 84, 85, 86, 87, 88, 89, 90, 91, 92, 93, 94, 95, 96, 97, 98, 99, 100, 101, 102, 103, 104, 105, 106, 107, 108, 109, 110, 111, 112, 113, 114] (by decide +kernel) (by decide +kernel)
set_option maxRecDepth 20000 in
theorem gX8_broken_X8_isRow : GoodIn wsX8_broken (wsV RX8 152 RX8 yX8_isRow wsX8_isRow) := goodIn_app (goodIn_of _ (by decide +kernel)) ggX8_broken_X8_isRow
set_option maxRecDepth 20000 in
theorem ggX8_broken_X8_slates : GoodIn wsX8_broken wsX8_slates := goodIn_r _ [14, 7, 78, 79, 80, 81, 82, 83, 84, 85, 86, 87, 88, 89, 90, 91, 92, 93, 94, 95, 96, 97, 98, 99, 100, 101, 102, 103, 104, 105, 106, 107, 108, 109, 110, 111, 112, 113, 114] (by decide +kernel) (by decide +kernel)
set_option maxRecDepth 20000 in
theorem gX8_broken_X8_slates : GoodIn wsX8_broken (wsV RX8 69 RX8 yX8_slates wsX8_slates) := goodIn_app (goodIn_of _ (by decide +kernel)) ggX8_broken_X8_slates
set_option maxRecDepth 20000 in
theorem ggX8_broken_X8_isIn : GoodIn wsX8_broken wsX8_isIn := goodIn_r _ [10] (by decide +kernel) (by decide +kernel)
set_option maxRecDepth 20000 in
theorem gX8_broken_X8_isIn : GoodIn wsX8_broken (va_wsS RX8 63 yX8_isIn wsX8_isIn) := goodIn_app (goodIn_of _ (by decide +kernel)) ggX8_broken_X8_isIn
set_option maxRecDepth 20000 in
theorem ggX8_broken_X8_isMended : GoodIn wsX8_broken wsX8_isMended := goodIn_r _ [18, 11, 12, 13, 5, 14, 7, 19, 20, 21, 22, 23, 24, 25, 26, 27, 28, 29, 30, 31, 32, 33, 34, 35, 36, 37, 38, 39, 40, 41, 42, 43, 44, 45, 46, 47, 48, 49, 50, 51, 52, 53, 54, 55, 56, 57, 58, 59, 60, 61, 62, 1, 63, 64, 65, 66, 67, 68, 69, 70, 71, 72, 73, 74, 75, 76, 77, 78, 79, 80, 81, 82, 83, 84, 85, 86, 87, 88, 89, 90, 91, 92, 93, 94, 95, 96, 97, 98, 99, 100, 101, 102, 103, 104, 105, 106, 107, 108, 109, 110, 111, 112, 113, 114] (by decide +kernel) (by decide +kernel)
set_option maxRecDepth 20000 in
theorem gX8_broken_X8_isMended : GoodIn wsX8_broken (wsV RX8 242 RX8 yX8_isMended wsX8_isMended) := goodIn_app (goodIn_of _ (by decide +kernel)) ggX8_broken_X8_isMended
theorem dX8_broken_0 : decode cX8_broken 0 = .ok (.aload_n 0, 1) := by decide +kernel
theorem dX8_broken_1 : decode cX8_broken 1 = .ok (.iload_n 1, 1) := by decide +kernel
theorem dX8_broken_2 : decode cX8_broken 2 = .ok (.invokevirtual 152, 3) := by decide +kernel
theorem dX8_broken_5 : decode cX8_broken 5 = .ok (.ifCond .eq 20, 3) := by decide +kernel
theorem dX8_broken_8 : decode cX8_broken 8 = .ok (.iload_n 2, 1) := by decide +kernel
theorem dX8_broken_9 : decode cX8_broken 9 = .ok (.i2l, 1) := by decide +kernel
theorem dX8_broken_10 : decode cX8_broken 10 = .ok (.lconst 0, 1) := by decide +kernel
theorem dX8_broken_11 : decode cX8_broken 11 = .ok (.aload_n 0, 1) := by decide +kernel
theorem dX8_broken_12 : decode cX8_broken 12 = .ok (.iload_n 1, 1) := by decide +kernel
theorem dX8_broken_13 : decode cX8_broken 13 = .ok (.invokevirtual 69, 3) := by decide +kernel
theorem dX8_broken_16 : decode cX8_broken 16 = .ok (.iconst 1, 1) := by decide +kernel
theorem dX8_broken_17 : decode cX8_broken 17 = .ok (.isub, 1) := by decide +kernel
theorem dX8_broken_18 : decode cX8_broken 18 = .ok (.i2l, 1) := by decide +kernel
theorem dX8_broken_19 : decode cX8_broken 19 = .ok (.invokestatic 63, 3) := by decide +kernel
theorem dX8_broken_22 : decode cX8_broken 22 = .ok (.ifCond .ne 5, 3) := by decide +kernel
theorem dX8_broken_25 : decode cX8_broken 25 = .ok (.iconst (-1), 1) := by decide +kernel
theorem dX8_broken_26 : decode cX8_broken 26 = .ok (.ireturn, 1) := by decide +kernel
theorem dX8_broken_27 : decode cX8_broken 27 = .ok (.aload_n 0, 1) := by decide +kernel
theorem dX8_broken_28 : decode cX8_broken 28 = .ok (.iload_n 1, 1) := by decide +kernel
theorem dX8_broken_29 : decode cX8_broken 29 = .ok (.invokevirtual 69, 3) := by decide +kernel
theorem dX8_broken_32 : decode cX8_broken 32 = .ok (.istore_n 3, 1) := by decide +kernel
theorem dX8_broken_33 : decode cX8_broken 33 = .ok (.aload_n 0, 1) := by decide +kernel
theorem dX8_broken_34 : decode cX8_broken 34 = .ok (.bipush (-4), 2) := by decide +kernel
theorem dX8_broken_36 : decode cX8_broken 36 = .ok (.putfield 181, 3) := by decide +kernel
theorem dX8_broken_39 : decode cX8_broken 39 = .ok (.iconst 1, 1) := by decide +kernel
theorem dX8_broken_40 : decode cX8_broken 40 = .ok (.istore 4, 2) := by decide +kernel
theorem dX8_broken_42 : decode cX8_broken 42 = .ok (.iload 4, 2) := by decide +kernel
theorem dX8_broken_44 : decode cX8_broken 44 = .ok (.iload_n 3, 1) := by decide +kernel
theorem dX8_broken_45 : decode cX8_broken 45 = .ok (.if_icmp .gt 59, 3) := by decide +kernel
theorem dX8_broken_48 : decode cX8_broken 48 = .ok (.iload_n 2, 1) := by decide +kernel
theorem dX8_broken_49 : decode cX8_broken 49 = .ok (.iload 4, 2) := by decide +kernel
theorem dX8_broken_51 : decode cX8_broken 51 = .ok (.isub, 1) := by decide +kernel
theorem dX8_broken_52 : decode cX8_broken 52 = .ok (.iconst 1, 1) := by decide +kernel
theorem dX8_broken_53 : decode cX8_broken 53 = .ok (.iadd, 1) := by decide +kernel
theorem dX8_broken_54 : decode cX8_broken 54 = .ok (.istore 5, 2) := by decide +kernel
theorem dX8_broken_56 : decode cX8_broken 56 = .ok (.iload 5, 2) := by decide +kernel
theorem dX8_broken_58 : decode cX8_broken 58 = .ok (.iload_n 2, 1) := by decide +kernel
theorem dX8_broken_59 : decode cX8_broken 59 = .ok (.if_icmp .gt 39, 3) := by decide +kernel
theorem dX8_broken_62 : decode cX8_broken 62 = .ok (.iload 5, 2) := by decide +kernel
theorem dX8_broken_64 : decode cX8_broken 64 = .ok (.ifCond .lt 28, 3) := by decide +kernel
theorem dX8_broken_67 : decode cX8_broken 67 = .ok (.iload 5, 2) := by decide +kernel
theorem dX8_broken_69 : decode cX8_broken 69 = .ok (.iload 4, 2) := by decide +kernel
theorem dX8_broken_71 : decode cX8_broken 71 = .ok (.iadd, 1) := by decide +kernel
theorem dX8_broken_72 : decode cX8_broken 72 = .ok (.iload_n 3, 1) := by decide +kernel
theorem dX8_broken_73 : decode cX8_broken 73 = .ok (.if_icmp .gt 19, 3) := by decide +kernel
theorem dX8_broken_76 : decode cX8_broken 76 = .ok (.aload_n 0, 1) := by decide +kernel
theorem dX8_broken_77 : decode cX8_broken 77 = .ok (.iload_n 1, 1) := by decide +kernel
theorem dX8_broken_78 : decode cX8_broken 78 = .ok (.iload_n 2, 1) := by decide +kernel
theorem dX8_broken_79 : decode cX8_broken 79 = .ok (.iload 5, 2) := by decide +kernel
theorem dX8_broken_81 : decode cX8_broken 81 = .ok (.iload 4, 2) := by decide +kernel
theorem dX8_broken_83 : decode cX8_broken 83 = .ok (.invokevirtual 242, 3) := by decide +kernel
theorem dX8_broken_86 : decode cX8_broken 86 = .ok (.ifCond .eq 6, 3) := by decide +kernel
theorem dX8_broken_89 : decode cX8_broken 89 = .ok (.iload 4, 2) := by decide +kernel
theorem dX8_broken_91 : decode cX8_broken 91 = .ok (.ireturn, 1) := by decide +kernel
theorem dX8_broken_92 : decode cX8_broken 92 = .ok (.iinc 5 1, 3) := by decide +kernel
theorem dX8_broken_95 : decode cX8_broken 95 = .ok (.goto (-39), 3) := by decide +kernel
theorem dX8_broken_98 : decode cX8_broken 98 = .ok (.iinc 4 1, 3) := by decide +kernel
theorem dX8_broken_101 : decode cX8_broken 101 = .ok (.goto (-59), 3) := by decide +kernel
theorem dX8_broken_104 : decode cX8_broken 104 = .ok (.bipush (-4), 2) := by decide +kernel
theorem dX8_broken_106 : decode cX8_broken 106 = .ok (.ireturn, 1) := by decide +kernel
set_option maxRecDepth 20000 in
theorem ggX8_isMended_X8_slates : GoodIn wsX8_isMended wsX8_slates := goodIn_r _ [5, 6, 67, 68, 69, 70, 71, 72, 73, 74, 75, 76, 77, 78, 79, 80, 81, 82, 83, 84, 85, 86, 87, 88, 89, 90, 91, 92, 93, 94, 95, 96, 97, 98, 99, 100, 101, 102, 103] (by decide +kernel) (by decide +kernel)
set_option maxRecDepth 20000 in
theorem gX8_isMended_X8_slates : GoodIn wsX8_isMended (wsV RX8 69 RX8 yX8_slates wsX8_slates) := goodIn_app (goodIn_of _ (by decide +kernel)) ggX8_isMended_X8_slates
set_option maxRecDepth 20000 in
theorem ggX8_isMended_X8_cutOf : GoodIn wsX8_isMended wsX8_cutOf := goodIn_r _ [10, 11, 12, 13, 4, 14, 1, 2, 3, 5, 6, 15, 16, 17, 18, 19, 20, 21, 22, 23, 24, 25, 26, 27, 28, 29, 30, 67, 68, 69, 70, 71, 72, 73, 74, 75, 76, 77, 78, 79, 80, 81, 82, 83, 84, 85, 86, 87, 88, 89, 90, 91, 92, 93, 94, 95, 96, 97, 98, 99, 100, 101, 102, 103] (by decide +kernel) (by decide +kernel)
set_option maxRecDepth 20000 in
theorem gX8_isMended_X8_cutOf : GoodIn wsX8_isMended (wsV RX8 155 RX8 yX8_cutOf wsX8_cutOf) := goodIn_app (goodIn_of _ (by decide +kernel)) ggX8_isMended_X8_cutOf
set_option maxRecDepth 20000 in
theorem ggX8_isMended_X8_slateOf : GoodIn wsX8_isMended wsX8_slateOf := goodIn_r _ [22, 6, 67, 68, 69, 70, 71, 72, 73, 74, 75, 76, 77, 78, 79, 80, 81, 82, 83, 84, 85, 86, 87, 88, 89, 90, 91, 92, 93, 94, 95, 96, 97, 98, 99, 100, 101, 102, 103] (by decide +kernel) (by decide +kernel)
set_option maxRecDepth 20000 in
theorem gX8_isMended_X8_slateOf : GoodIn wsX8_isMended (wsV RX8 137 RX8 yX8_slateOf wsX8_slateOf) := goodIn_app (goodIn_of _ (by decide +kernel)) ggX8_isMended_X8_slateOf
set_option maxRecDepth 20000 in
theorem ggX8_isMended_X8_leaves : GoodIn wsX8_isMended wsX8_leaves := goodIn_r _ [34, 6, 67, 68, 69, 70, 71, 72, 73, 74, 75, 76, 77, 78, 79, 80, 81, 82, 83, 84, 85, 86, 87, 88, 89, 90, 91, 92, 93, 94, 95, 96, 97, 98, 99, 100, 101, 102, 103] (by decide +kernel) (by decide +kernel)
set_option maxRecDepth 20000 in
theorem gX8_isMended_X8_leaves : GoodIn wsX8_isMended (wsV RX8 174 RX8 yX8_leaves wsX8_leaves) := goodIn_app (goodIn_of _ (by decide +kernel)) ggX8_isMended_X8_leaves
set_option maxRecDepth 20000 in
theorem ggX8_isMended_X8_jointOf : GoodIn wsX8_isMended wsX8_jointOf := goodIn_r _ [38, 19, 20, 21, 4, 22, 6, 23, 24, 25, 26, 67, 68, 69, 70, 71, 72, 73, 74, 75, 76, 77, 78, 79, 80, 81, 82, 83, 84, 85, 86, 87, 88, 89, 90, 91, 92, 93, 94, 95, 96, 97, 98, 99, 100, 101, 102, 103] (by decide +kernel) (by decide +kernel)
set_option maxRecDepth 20000 in
theorem gX8_isMended_X8_jointOf : GoodIn wsX8_isMended (wsV RX8 158 RX8 yX8_jointOf wsX8_jointOf) := goodIn_app (goodIn_of _ (by decide +kernel)) ggX8_isMended_X8_jointOf
set_option maxRecDepth 20000 in
theorem ggX8_isMended_X8_lengthOf : GoodIn wsX8_isMended wsX8_lengthOf := goodIn_r _ [30, 6, 67, 68, 69, 70, 71, 72, 73, 74, 75, 76, 77, 78, 79, 80, 81, 82, 83, 84, 85, 86, 87, 88, 89, 90, 91, 92, 93, 94, 95, 96, 97, 98, 99, 100, 101, 102, 103] (by decide +kernel) (by decide +kernel)
set_option maxRecDepth 20000 in
theorem gX8_isMended_X8_lengthOf : GoodIn wsX8_isMended (wsV RX8 149 RX8 yX8_lengthOf wsX8_lengthOf) := goodIn_app (goodIn_of _ (by decide +kernel)) ggX8_isMended_X8_lengthOf
set_option maxRecDepth 20000 in
theorem ggX8_isMended_X8_findFills : GoodIn wsX8_isMended wsX8_findFills := goodIn_r _ [42, 43, 44, 45, 46, 47, 48, 49, 4, 50, 51, 52, 53, 54, 6, 23, 24, 25, 26, 55, 56, 57, 58, 59, 60, 61, 62, 1, 2, 3, 5, 35, 36, 37, 38, 19, 20, 21, 22, 31, 32, 33, 34, 63, 64, 65, 66, 67, 68, 69, 70, 71, 72, 73, 74, 75, 76, 77, 78, 79, 80, 81, 82, 83, 84, 85, 86, 87, 88, 89, 90, 91, 92, 93, 94, 95, 96, 97, 98, 99, 100, 101, 102, 103] (by decide +kernel) (by decide +kernel)
set_option maxRecDepth 20000 in
theorem gX8_isMended_X8_findFills : GoodIn wsX8_isMended (wsV RX8 203 RX8 yX8_findFills wsX8_findFills) := goodIn_app (goodIn_of _ (by decide +kernel)) ggX8_isMended_X8_findFills
theorem dX8_isMended_0 : decode cX8_isMended 0 = .ok (.aload_n 0, 1) := by decide +kernel
theorem dX8_isMended_1 : decode cX8_isMended 1 = .ok (.iload_n 1, 1) := by decide +kernel
theorem dX8_isMended_2 : decode cX8_isMended 2 = .ok (.invokevirtual 69, 3) := by decide +kernel
theorem dX8_isMended_5 : decode cX8_isMended 5 = .ok (.istore 5, 2) := by decide +kernel
theorem dX8_isMended_7 : decode cX8_isMended 7 = .ok (.iload_n 3, 1) := by decide +kernel
theorem dX8_isMended_8 : decode cX8_isMended 8 = .ok (.iload 4, 2) := by decide +kernel
theorem dX8_isMended_10 : decode cX8_isMended 10 = .ok (.iadd, 1) := by decide +kernel
theorem dX8_isMended_11 : decode cX8_isMended 11 = .ok (.iload 5, 2) := by decide +kernel
theorem dX8_isMended_13 : decode cX8_isMended 13 = .ok (.if_icmp .ne 7, 3) := by decide +kernel
theorem dX8_isMended_16 : decode cX8_isMended 16 = .ok (.iconst 1, 1) := by decide +kernel
theorem dX8_isMended_17 : decode cX8_isMended 17 = .ok (.goto 4, 3) := by decide +kernel
theorem dX8_isMended_20 : decode cX8_isMended 20 = .ok (.iconst 0, 1) := by decide +kernel
theorem dX8_isMended_21 : decode cX8_isMended 21 = .ok (.istore 6, 2) := by decide +kernel
theorem dX8_isMended_23 : decode cX8_isMended 23 = .ok (.iload_n 3, 1) := by decide +kernel
theorem dX8_isMended_24 : decode cX8_isMended 24 = .ok (.istore 7, 2) := by decide +kernel
theorem dX8_isMended_26 : decode cX8_isMended 26 = .ok (.iload 7, 2) := by decide +kernel
theorem dX8_isMended_28 : decode cX8_isMended 28 = .ok (.iload_n 3, 1) := by decide +kernel
theorem dX8_isMended_29 : decode cX8_isMended 29 = .ok (.iload 4, 2) := by decide +kernel
theorem dX8_isMended_31 : decode cX8_isMended 31 = .ok (.iadd, 1) := by decide +kernel
theorem dX8_isMended_32 : decode cX8_isMended 32 = .ok (.if_icmp .ge 44, 3) := by decide +kernel
theorem dX8_isMended_35 : decode cX8_isMended 35 = .ok (.iload 7, 2) := by decide +kernel
theorem dX8_isMended_37 : decode cX8_isMended 37 = .ok (.iload_n 2, 1) := by decide +kernel
theorem dX8_isMended_38 : decode cX8_isMended 38 = .ok (.if_icmp .eq 32, 3) := by decide +kernel
theorem dX8_isMended_41 : decode cX8_isMended 41 = .ok (.iload 7, 2) := by decide +kernel
theorem dX8_isMended_43 : decode cX8_isMended 43 = .ok (.iload 5, 2) := by decide +kernel
theorem dX8_isMended_45 : decode cX8_isMended 45 = .ok (.iconst 1, 1) := by decide +kernel
theorem dX8_isMended_46 : decode cX8_isMended 46 = .ok (.isub, 1) := by decide +kernel
theorem dX8_isMended_47 : decode cX8_isMended 47 = .ok (.if_icmp .ne 11, 3) := by decide +kernel
theorem dX8_isMended_50 : decode cX8_isMended 50 = .ok (.aload_n 0, 1) := by decide +kernel
theorem dX8_isMended_51 : decode cX8_isMended 51 = .ok (.iload_n 1, 1) := by decide +kernel
theorem dX8_isMended_52 : decode cX8_isMended 52 = .ok (.invokevirtual 155, 3) := by decide +kernel
theorem dX8_isMended_55 : decode cX8_isMended 55 = .ok (.ifCond .gt 15, 3) := by decide +kernel
theorem dX8_isMended_58 : decode cX8_isMended 58 = .ok (.aload_n 0, 1) := by decide +kernel
theorem dX8_isMended_59 : decode cX8_isMended 59 = .ok (.aload_n 0, 1) := by decide +kernel
theorem dX8_isMended_60 : decode cX8_isMended 60 = .ok (.iload_n 1, 1) := by decide +kernel
theorem dX8_isMended_61 : decode cX8_isMended 61 = .ok (.iload 7, 2) := by decide +kernel
theorem dX8_isMended_63 : decode cX8_isMended 63 = .ok (.invokevirtual 137, 3) := by decide +kernel
theorem dX8_isMended_66 : decode cX8_isMended 66 = .ok (.iconst (-1), 1) := by decide +kernel
theorem dX8_isMended_67 : decode cX8_isMended 67 = .ok (.invokevirtual 174, 3) := by decide +kernel
theorem dX8_isMended_70 : decode cX8_isMended 70 = .ok (.iinc 7 1, 3) := by decide +kernel
theorem dX8_isMended_73 : decode cX8_isMended 73 = .ok (.goto (-47), 3) := by decide +kernel
theorem dX8_isMended_76 : decode cX8_isMended 76 = .ok (.iload_n 3, 1) := by decide +kernel
theorem dX8_isMended_77 : decode cX8_isMended 77 = .ok (.ifCond .ne 7, 3) := by decide +kernel
theorem dX8_isMended_80 : decode cX8_isMended 80 = .ok (.iconst 0, 1) := by decide +kernel
theorem dX8_isMended_81 : decode cX8_isMended 81 = .ok (.goto 11, 3) := by decide +kernel
theorem dX8_isMended_84 : decode cX8_isMended 84 = .ok (.aload_n 0, 1) := by decide +kernel
theorem dX8_isMended_85 : decode cX8_isMended 85 = .ok (.iload_n 1, 1) := by decide +kernel
theorem dX8_isMended_86 : decode cX8_isMended 86 = .ok (.iload_n 3, 1) := by decide +kernel
theorem dX8_isMended_87 : decode cX8_isMended 87 = .ok (.iconst 1, 1) := by decide +kernel
theorem dX8_isMended_88 : decode cX8_isMended 88 = .ok (.isub, 1) := by decide +kernel
theorem dX8_isMended_89 : decode cX8_isMended 89 = .ok (.invokevirtual 158, 3) := by decide +kernel
theorem dX8_isMended_92 : decode cX8_isMended 92 = .ok (.istore 7, 2) := by decide +kernel
theorem dX8_isMended_94 : decode cX8_isMended 94 = .ok (.aload_n 0, 1) := by decide +kernel
theorem dX8_isMended_95 : decode cX8_isMended 95 = .ok (.iload_n 1, 1) := by decide +kernel
theorem dX8_isMended_96 : decode cX8_isMended 96 = .ok (.iload 7, 2) := by decide +kernel
theorem dX8_isMended_98 : decode cX8_isMended 98 = .ok (.iload 6, 2) := by decide +kernel
theorem dX8_isMended_100 : decode cX8_isMended 100 = .ok (.ifCond .eq 11, 3) := by decide +kernel
theorem dX8_isMended_103 : decode cX8_isMended 103 = .ok (.aload_n 0, 1) := by decide +kernel
theorem dX8_isMended_104 : decode cX8_isMended 104 = .ok (.iload_n 1, 1) := by decide +kernel
theorem dX8_isMended_105 : decode cX8_isMended 105 = .ok (.invokevirtual 149, 3) := by decide +kernel
theorem dX8_isMended_108 : decode cX8_isMended 108 = .ok (.goto 14, 3) := by decide +kernel
theorem dX8_isMended_111 : decode cX8_isMended 111 = .ok (.aload_n 0, 1) := by decide +kernel
theorem dX8_isMended_112 : decode cX8_isMended 112 = .ok (.iload_n 1, 1) := by decide +kernel
theorem dX8_isMended_113 : decode cX8_isMended 113 = .ok (.iload_n 3, 1) := by decide +kernel
theorem dX8_isMended_114 : decode cX8_isMended 114 = .ok (.iload 4, 2) := by decide +kernel
theorem dX8_isMended_116 : decode cX8_isMended 116 = .ok (.iadd, 1) := by decide +kernel
theorem dX8_isMended_117 : decode cX8_isMended 117 = .ok (.iconst 1, 1) := by decide +kernel
theorem dX8_isMended_118 : decode cX8_isMended 118 = .ok (.isub, 1) := by decide +kernel
theorem dX8_isMended_119 : decode cX8_isMended 119 = .ok (.invokevirtual 158, 3) := by decide +kernel
theorem dX8_isMended_122 : decode cX8_isMended 122 = .ok (.iconst 0, 1) := by decide +kernel
theorem dX8_isMended_123 : decode cX8_isMended 123 = .ok (.invokevirtual 203, 3) := by decide +kernel
theorem dX8_isMended_126 : decode cX8_isMended 126 = .ok (.istore 8, 2) := by decide +kernel
theorem dX8_isMended_128 : decode cX8_isMended 128 = .ok (.iload_n 3, 1) := by decide +kernel
theorem dX8_isMended_129 : decode cX8_isMended 129 = .ok (.istore 9, 2) := by decide +kernel
theorem dX8_isMended_131 : decode cX8_isMended 131 = .ok (.iload 9, 2) := by decide +kernel
theorem dX8_isMended_133 : decode cX8_isMended 133 = .ok (.iload_n 3, 1) := by decide +kernel
theorem dX8_isMended_134 : decode cX8_isMended 134 = .ok (.iload 4, 2) := by decide +kernel
theorem dX8_isMended_136 : decode cX8_isMended 136 = .ok (.iadd, 1) := by decide +kernel
theorem dX8_isMended_137 : decode cX8_isMended 137 = .ok (.if_icmp .ge 44, 3) := by decide +kernel
theorem dX8_isMended_140 : decode cX8_isMended 140 = .ok (.iload 9, 2) := by decide +kernel
theorem dX8_isMended_142 : decode cX8_isMended 142 = .ok (.iload_n 2, 1) := by decide +kernel
theorem dX8_isMended_143 : decode cX8_isMended 143 = .ok (.if_icmp .eq 32, 3) := by decide +kernel
theorem dX8_isMended_146 : decode cX8_isMended 146 = .ok (.iload 9, 2) := by decide +kernel
theorem dX8_isMended_148 : decode cX8_isMended 148 = .ok (.iload 5, 2) := by decide +kernel
theorem dX8_isMended_150 : decode cX8_isMended 150 = .ok (.iconst 1, 1) := by decide +kernel
theorem dX8_isMended_151 : decode cX8_isMended 151 = .ok (.isub, 1) := by decide +kernel
theorem dX8_isMended_152 : decode cX8_isMended 152 = .ok (.if_icmp .ne 11, 3) := by decide +kernel
theorem dX8_isMended_155 : decode cX8_isMended 155 = .ok (.aload_n 0, 1) := by decide +kernel
theorem dX8_isMended_156 : decode cX8_isMended 156 = .ok (.iload_n 1, 1) := by decide +kernel
theorem dX8_isMended_157 : decode cX8_isMended 157 = .ok (.invokevirtual 155, 3) := by decide +kernel
theorem dX8_isMended_160 : decode cX8_isMended 160 = .ok (.ifCond .gt 15, 3) := by decide +kernel
theorem dX8_isMended_163 : decode cX8_isMended 163 = .ok (.aload_n 0, 1) := by decide +kernel
theorem dX8_isMended_164 : decode cX8_isMended 164 = .ok (.aload_n 0, 1) := by decide +kernel
theorem dX8_isMended_165 : decode cX8_isMended 165 = .ok (.iload_n 1, 1) := by decide +kernel
theorem dX8_isMended_166 : decode cX8_isMended 166 = .ok (.iload 9, 2) := by decide +kernel
theorem dX8_isMended_168 : decode cX8_isMended 168 = .ok (.invokevirtual 137, 3) := by decide +kernel
theorem dX8_isMended_171 : decode cX8_isMended 171 = .ok (.iconst 1, 1) := by decide +kernel
theorem dX8_isMended_172 : decode cX8_isMended 172 = .ok (.invokevirtual 174, 3) := by decide +kernel
theorem dX8_isMended_175 : decode cX8_isMended 175 = .ok (.iinc 9 1, 3) := by decide +kernel
theorem dX8_isMended_178 : decode cX8_isMended 178 = .ok (.goto (-47), 3) := by decide +kernel
theorem dX8_isMended_181 : decode cX8_isMended 181 = .ok (.iload 8, 2) := by decide +kernel
theorem dX8_isMended_183 : decode cX8_isMended 183 = .ok (.ifCond .le 7, 3) := by decide +kernel
theorem dX8_isMended_186 : decode cX8_isMended 186 = .ok (.iconst 1, 1) := by decide +kernel
theorem dX8_isMended_187 : decode cX8_isMended 187 = .ok (.goto 4, 3) := by decide +kernel
theorem dX8_isMended_190 : decode cX8_isMended 190 = .ok (.iconst 0, 1) := by decide +kernel
theorem dX8_isMended_191 : decode cX8_isMended 191 = .ok (.ireturn, 1) := by decide +kernel
set_option maxRecDepth 20000 in
theorem ggX8_heapSize_X8_many : GoodIn wsX8_heapSize wsX8_many := goodIn_r _ [6, 1, 7, 8, 9, 10, 11, 12, 13, 14, 15, 16, 17, 18, 19, 20, 21, 22, 23, 24, 25, 26, 27, 28, 29, 30, 31, 32, 33, 34, 35, 36, 37, 38, 39, 40, 41, 42, 43] (by decide +kernel) (by decide +kernel)
set_option maxRecDepth 20000 in
theorem gX8_heapSize_X8_many : GoodIn wsX8_heapSize (wsV RX8 165 RX8 yX8_many wsX8_many) := goodIn_app (goodIn_of _ (by decide +kernel)) ggX8_heapSize_X8_many
theorem dX8_heapSize_0 : decode cX8_heapSize 0 = .ok (.iconst 0, 1) := by decide +kernel
theorem dX8_heapSize_1 : decode cX8_heapSize 1 = .ok (.istore_n 1, 1) := by decide +kernel
theorem dX8_heapSize_2 : decode cX8_heapSize 2 = .ok (.iconst 0, 1) := by decide +kernel
theorem dX8_heapSize_3 : decode cX8_heapSize 3 = .ok (.istore_n 2, 1) := by decide +kernel
theorem dX8_heapSize_4 : decode cX8_heapSize 4 = .ok (.iload_n 2, 1) := by decide +kernel
theorem dX8_heapSize_5 : decode cX8_heapSize 5 = .ok (.aload_n 0, 1) := by decide +kernel
theorem dX8_heapSize_6 : decode cX8_heapSize 6 = .ok (.getfield 9, 3) := by decide +kernel
theorem dX8_heapSize_9 : decode cX8_heapSize 9 = .ok (.iconst 1, 1) := by decide +kernel
theorem dX8_heapSize_10 : decode cX8_heapSize 10 = .ok (.iaload, 1) := by decide +kernel
theorem dX8_heapSize_11 : decode cX8_heapSize 11 = .ok (.if_icmp .ge 17, 3) := by decide +kernel
theorem dX8_heapSize_14 : decode cX8_heapSize 14 = .ok (.iload_n 1, 1) := by decide +kernel
theorem dX8_heapSize_15 : decode cX8_heapSize 15 = .ok (.aload_n 0, 1) := by decide +kernel
theorem dX8_heapSize_16 : decode cX8_heapSize 16 = .ok (.iload_n 2, 1) := by decide +kernel
theorem dX8_heapSize_17 : decode cX8_heapSize 17 = .ok (.invokevirtual 165, 3) := by decide +kernel
theorem dX8_heapSize_20 : decode cX8_heapSize 20 = .ok (.iadd, 1) := by decide +kernel
theorem dX8_heapSize_21 : decode cX8_heapSize 21 = .ok (.istore_n 1, 1) := by decide +kernel
theorem dX8_heapSize_22 : decode cX8_heapSize 22 = .ok (.iinc 2 1, 3) := by decide +kernel
theorem dX8_heapSize_25 : decode cX8_heapSize 25 = .ok (.goto (-21), 3) := by decide +kernel
theorem dX8_heapSize_28 : decode cX8_heapSize 28 = .ok (.iload_n 1, 1) := by decide +kernel
theorem dX8_heapSize_29 : decode cX8_heapSize 29 = .ok (.ireturn, 1) := by decide +kernel
set_option maxRecDepth 20000 in
theorem ggX8_canLay_X8_inches : GoodIn wsX8_canLay wsX8_inches := goodIn_r _ [7, 8, 33, 34, 35, 36, 37, 38, 39, 40, 41, 42, 43, 44, 45, 46, 47, 48, 49, 50, 51, 52, 53, 54, 55, 56, 57, 58, 59, 60, 61, 62, 63, 64, 65, 66, 67, 68, 69] (by decide +kernel) (by decide +kernel)
set_option maxRecDepth 20000 in
theorem gX8_canLay_X8_inches : GoodIn wsX8_canLay (wsV RX8 140 RX8 yX8_inches wsX8_inches) := goodIn_app (goodIn_of _ (by decide +kernel)) ggX8_canLay_X8_inches
set_option maxRecDepth 20000 in
theorem ggX8_canLay_X8_many : GoodIn wsX8_canLay wsX8_many := goodIn_r _ [12, 8, 33, 34, 35, 36, 37, 38, 39, 40, 41, 42, 43, 44, 45, 46, 47, 48, 49, 50, 51, 52, 53, 54, 55, 56, 57, 58, 59, 60, 61, 62, 63, 64, 65, 66, 67, 68, 69] (by decide +kernel) (by decide +kernel)
set_option maxRecDepth 20000 in
theorem gX8_canLay_X8_many : GoodIn wsX8_canLay (wsV RX8 165 RX8 yX8_many wsX8_many) := goodIn_app (goodIn_of _ (by decide +kernel)) ggX8_canLay_X8_many
set_option maxRecDepth 20000 in
theorem ggX8_canLay_X8_lengthOf : GoodIn wsX8_canLay wsX8_lengthOf := goodIn_r _ [16, 8, 33, 34, 35, 36, 37, 38, 39, 40, 41, 42, 43, 44, 45, 46, 47, 48, 49, 50, 51, 52, 53, 54, 55, 56, 57, 58, 59, 60, 61, 62, 63, 64, 65, 66, 67, 68, 69] (by decide +kernel) (by decide +kernel)
set_option maxRecDepth 20000 in
theorem gX8_canLay_X8_lengthOf : GoodIn wsX8_canLay (wsV RX8 149 RX8 yX8_lengthOf wsX8_lengthOf) := goodIn_app (goodIn_of _ (by decide +kernel)) ggX8_canLay_X8_lengthOf
set_option maxRecDepth 20000 in
theorem ggX8_canLay_X8_mayBe : GoodIn wsX8_canLay wsX8_mayBe := goodIn_r _ [20, 8, 21, 22, 23, 6, 24, 25, 26, 27, 28, 29, 30, 31, 32, 3, 4, 5, 7, 33, 34, 35, 36, 37, 38, 39, 40, 41, 42, 43, 44, 45, 46, 47, 48, 49, 50, 51, 52, 53, 54, 55, 56, 57, 58, 59, 60, 61, 62, 63, 64, 65, 66, 67, 68, 69] (by decide +kernel) (by decide +kernel)
set_option maxRecDepth 20000 in
theorem gX8_canLay_X8_mayBe : GoodIn wsX8_canLay (wsV RX8 161 RX8 yX8_mayBe wsX8_mayBe) := goodIn_app (goodIn_of _ (by decide +kernel)) ggX8_canLay_X8_mayBe
theorem dX8_canLay_0 : decode cX8_canLay 0 = .ok (.aload_n 0, 1) := by decide +kernel
theorem dX8_canLay_1 : decode cX8_canLay 1 = .ok (.getfield 246, 3) := by decide +kernel
theorem dX8_canLay_4 : decode cX8_canLay 4 = .ok (.aload_n 0, 1) := by decide +kernel
theorem dX8_canLay_5 : decode cX8_canLay 5 = .ok (.iload_n 1, 1) := by decide +kernel
theorem dX8_canLay_6 : decode cX8_canLay 6 = .ok (.invokevirtual 140, 3) := by decide +kernel
theorem dX8_canLay_9 : decode cX8_canLay 9 = .ok (.iadd, 1) := by decide +kernel
theorem dX8_canLay_10 : decode cX8_canLay 10 = .ok (.istore_n 3, 1) := by decide +kernel
theorem dX8_canLay_11 : decode cX8_canLay 11 = .ok (.aload_n 0, 1) := by decide +kernel
theorem dX8_canLay_12 : decode cX8_canLay 12 = .ok (.iload_n 1, 1) := by decide +kernel
theorem dX8_canLay_13 : decode cX8_canLay 13 = .ok (.invokevirtual 165, 3) := by decide +kernel
theorem dX8_canLay_16 : decode cX8_canLay 16 = .ok (.ifCond .ne 5, 3) := by decide +kernel
theorem dX8_canLay_19 : decode cX8_canLay 19 = .ok (.iconst 0, 1) := by decide +kernel
theorem dX8_canLay_20 : decode cX8_canLay 20 = .ok (.ireturn, 1) := by decide +kernel
theorem dX8_canLay_21 : decode cX8_canLay 21 = .ok (.iload_n 3, 1) := by decide +kernel
theorem dX8_canLay_22 : decode cX8_canLay 22 = .ok (.aload_n 0, 1) := by decide +kernel
theorem dX8_canLay_23 : decode cX8_canLay 23 = .ok (.aload_n 0, 1) := by decide +kernel
theorem dX8_canLay_24 : decode cX8_canLay 24 = .ok (.getfield 249, 3) := by decide +kernel
theorem dX8_canLay_27 : decode cX8_canLay 27 = .ok (.invokevirtual 149, 3) := by decide +kernel
theorem dX8_canLay_30 : decode cX8_canLay 30 = .ok (.if_icmp .ge 15, 3) := by decide +kernel
theorem dX8_canLay_33 : decode cX8_canLay 33 = .ok (.aload_n 0, 1) := by decide +kernel
theorem dX8_canLay_34 : decode cX8_canLay 34 = .ok (.aload_n 0, 1) := by decide +kernel
theorem dX8_canLay_35 : decode cX8_canLay 35 = .ok (.getfield 249, 3) := by decide +kernel
theorem dX8_canLay_38 : decode cX8_canLay 38 = .ok (.iload_n 3, 1) := by decide +kernel
theorem dX8_canLay_39 : decode cX8_canLay 39 = .ok (.invokevirtual 161, 3) := by decide +kernel
theorem dX8_canLay_42 : decode cX8_canLay 42 = .ok (.goto 24, 3) := by decide +kernel
theorem dX8_canLay_45 : decode cX8_canLay 45 = .ok (.iload_n 3, 1) := by decide +kernel
theorem dX8_canLay_46 : decode cX8_canLay 46 = .ok (.aload_n 0, 1) := by decide +kernel
theorem dX8_canLay_47 : decode cX8_canLay 47 = .ok (.aload_n 0, 1) := by decide +kernel
theorem dX8_canLay_48 : decode cX8_canLay 48 = .ok (.getfield 249, 3) := by decide +kernel
theorem dX8_canLay_51 : decode cX8_canLay 51 = .ok (.invokevirtual 149, 3) := by decide +kernel
theorem dX8_canLay_54 : decode cX8_canLay 54 = .ok (.if_icmp .eq 7, 3) := by decide +kernel
theorem dX8_canLay_57 : decode cX8_canLay 57 = .ok (.iload_n 2, 1) := by decide +kernel
theorem dX8_canLay_58 : decode cX8_canLay 58 = .ok (.ifCond .eq 7, 3) := by decide +kernel
theorem dX8_canLay_61 : decode cX8_canLay 61 = .ok (.iconst 1, 1) := by decide +kernel
theorem dX8_canLay_62 : decode cX8_canLay 62 = .ok (.goto 4, 3) := by decide +kernel
theorem dX8_canLay_65 : decode cX8_canLay 65 = .ok (.iconst 0, 1) := by decide +kernel
theorem dX8_canLay_66 : decode cX8_canLay 66 = .ok (.ireturn, 1) := by decide +kernel
set_option maxRecDepth 20000 in
theorem ggX8_handed_X8_heapSize : GoodIn wsX8_handed wsX8_heapSize := goodIn_r _ [9, 10, 11, 12, 13, 8, 14, 15, 16, 17, 18, 19, 20, 21, 22, 23, 24, 25, 26, 27, 28, 29, 30, 31, 32, 33, 34, 35, 36, 37, 38, 39, 40, 41, 42, 43, 44, 45, 46, 47, 48, 49, 50, 51] (by decide +kernel) (by decide +kernel)
set_option maxRecDepth 20000 in
theorem gX8_handed_X8_heapSize : GoodIn wsX8_handed (wsV RX8 258 RX8 yX8_heapSize wsX8_heapSize) := goodIn_app (goodIn_of _ (by decide +kernel)) ggX8_handed_X8_heapSize
set_option maxRecDepth 20000 in
theorem ggX8_handed_X8_many : GoodIn wsX8_handed wsX8_many := goodIn_r _ [14, 10, 15, 16, 17, 18, 19, 20, 21, 22, 23, 24, 25, 26, 27, 28, 29, 30, 31, 32, 33, 34, 35, 36, 37, 38, 39, 40, 41, 42, 43, 44, 45, 46, 47, 48, 49, 50, 51] (by decide +kernel) (by decide +kernel)
set_option maxRecDepth 20000 in
theorem gX8_handed_X8_many : GoodIn wsX8_handed (wsV RX8 165 RX8 yX8_many wsX8_many) := goodIn_app (goodIn_of _ (by decide +kernel)) ggX8_handed_X8_many
theorem dX8_handed_0 : decode cX8_handed 0 = .ok (.aload_n 0, 1) := by decide +kernel
theorem dX8_handed_1 : decode cX8_handed 1 = .ok (.aload_n 0, 1) := by decide +kernel
theorem dX8_handed_2 : decode cX8_handed 2 = .ok (.getfield 252, 3) := by decide +kernel
theorem dX8_handed_5 : decode cX8_handed 5 = .ok (.ldc 255, 2) := by decide +kernel
theorem dX8_handed_7 : decode cX8_handed 7 = .ok (.imul, 1) := by decide +kernel
theorem dX8_handed_8 : decode cX8_handed 8 = .ok (.sipush 12345, 3) := by decide +kernel
theorem dX8_handed_11 : decode cX8_handed 11 = .ok (.iadd, 1) := by decide +kernel
theorem dX8_handed_12 : decode cX8_handed 12 = .ok (.putfield 252, 3) := by decide +kernel
theorem dX8_handed_15 : decode cX8_handed 15 = .ok (.aload_n 0, 1) := by decide +kernel
theorem dX8_handed_16 : decode cX8_handed 16 = .ok (.getfield 252, 3) := by decide +kernel
theorem dX8_handed_19 : decode cX8_handed 19 = .ok (.ldc_w 256, 3) := by decide +kernel
theorem dX8_handed_22 : decode cX8_handed 22 = .ok (.iand, 1) := by decide +kernel
theorem dX8_handed_23 : decode cX8_handed 23 = .ok (.ldc_w 257, 3) := by decide +kernel
theorem dX8_handed_26 : decode cX8_handed 26 = .ok (.idiv, 1) := by decide +kernel
theorem dX8_handed_27 : decode cX8_handed 27 = .ok (.aload_n 0, 1) := by decide +kernel
theorem dX8_handed_28 : decode cX8_handed 28 = .ok (.invokevirtual 258, 3) := by decide +kernel
theorem dX8_handed_31 : decode cX8_handed 31 = .ok (.irem, 1) := by decide +kernel
theorem dX8_handed_32 : decode cX8_handed 32 = .ok (.istore_n 1, 1) := by decide +kernel
theorem dX8_handed_33 : decode cX8_handed 33 = .ok (.iconst 0, 1) := by decide +kernel
theorem dX8_handed_34 : decode cX8_handed 34 = .ok (.istore_n 2, 1) := by decide +kernel
theorem dX8_handed_35 : decode cX8_handed 35 = .ok (.iload_n 1, 1) := by decide +kernel
theorem dX8_handed_36 : decode cX8_handed 36 = .ok (.aload_n 0, 1) := by decide +kernel
theorem dX8_handed_37 : decode cX8_handed 37 = .ok (.iload_n 2, 1) := by decide +kernel
theorem dX8_handed_38 : decode cX8_handed 38 = .ok (.invokevirtual 165, 3) := by decide +kernel
theorem dX8_handed_41 : decode cX8_handed 41 = .ok (.if_icmp .lt 17, 3) := by decide +kernel
theorem dX8_handed_44 : decode cX8_handed 44 = .ok (.iload_n 1, 1) := by decide +kernel
theorem dX8_handed_45 : decode cX8_handed 45 = .ok (.aload_n 0, 1) := by decide +kernel
theorem dX8_handed_46 : decode cX8_handed 46 = .ok (.iload_n 2, 1) := by decide +kernel
theorem dX8_handed_47 : decode cX8_handed 47 = .ok (.invokevirtual 165, 3) := by decide +kernel
theorem dX8_handed_50 : decode cX8_handed 50 = .ok (.isub, 1) := by decide +kernel
theorem dX8_handed_51 : decode cX8_handed 51 = .ok (.istore_n 1, 1) := by decide +kernel
theorem dX8_handed_52 : decode cX8_handed 52 = .ok (.iinc 2 1, 3) := by decide +kernel
theorem dX8_handed_55 : decode cX8_handed 55 = .ok (.goto (-20), 3) := by decide +kernel
theorem dX8_handed_58 : decode cX8_handed 58 = .ok (.iload_n 2, 1) := by decide +kernel
theorem dX8_handed_59 : decode cX8_handed 59 = .ok (.ireturn, 1) := by decide +kernel
set_option maxRecDepth 20000 in
theorem ggX8_isBetter_X8_inches : GoodIn wsX8_isBetter wsX8_inches := goodIn_r _ [5, 6, 7, 8, 9, 10, 11, 12, 13, 14, 15, 16, 17, 18, 19, 20, 21, 22, 23, 24, 25, 26, 27, 28, 29, 30, 31, 32, 33, 34, 35, 36, 37, 38, 39, 40, 41, 42, 43] (by decide +kernel) (by decide +kernel)
set_option maxRecDepth 20000 in
theorem gX8_isBetter_X8_inches : GoodIn wsX8_isBetter (wsV RX8 140 RX8 yX8_inches wsX8_inches) := goodIn_app (goodIn_of _ (by decide +kernel)) ggX8_isBetter_X8_inches
theorem dX8_isBetter_0 : decode cX8_isBetter 0 = .ok (.iload 4, 2) := by decide +kernel
theorem dX8_isBetter_2 : decode cX8_isBetter 2 = .ok (.ifCond .ge 5, 3) := by decide +kernel
theorem dX8_isBetter_5 : decode cX8_isBetter 5 = .ok (.iconst 1, 1) := by decide +kernel
theorem dX8_isBetter_6 : decode cX8_isBetter 6 = .ok (.ireturn, 1) := by decide +kernel
theorem dX8_isBetter_7 : decode cX8_isBetter 7 = .ok (.iload_n 3, 1) := by decide +kernel
theorem dX8_isBetter_8 : decode cX8_isBetter 8 = .ok (.iload_n 2, 1) := by decide +kernel
theorem dX8_isBetter_9 : decode cX8_isBetter 9 = .ok (.iconst 4, 1) := by decide +kernel
theorem dX8_isBetter_10 : decode cX8_isBetter 10 = .ok (.irem, 1) := by decide +kernel
theorem dX8_isBetter_11 : decode cX8_isBetter 11 = .ok (.isub, 1) := by decide +kernel
theorem dX8_isBetter_12 : decode cX8_isBetter 12 = .ok (.istore 5, 2) := by decide +kernel
theorem dX8_isBetter_14 : decode cX8_isBetter 14 = .ok (.iload 4, 2) := by decide +kernel
theorem dX8_isBetter_16 : decode cX8_isBetter 16 = .ok (.iload_n 2, 1) := by decide +kernel
theorem dX8_isBetter_17 : decode cX8_isBetter 17 = .ok (.iconst 4, 1) := by decide +kernel
theorem dX8_isBetter_18 : decode cX8_isBetter 18 = .ok (.irem, 1) := by decide +kernel
theorem dX8_isBetter_19 : decode cX8_isBetter 19 = .ok (.isub, 1) := by decide +kernel
theorem dX8_isBetter_20 : decode cX8_isBetter 20 = .ok (.istore 6, 2) := by decide +kernel
theorem dX8_isBetter_22 : decode cX8_isBetter 22 = .ok (.iload_n 1, 1) := by decide +kernel
theorem dX8_isBetter_23 : decode cX8_isBetter 23 = .ok (.tableswitch 112 1 6 #[37, 112, 57, 37, 112, 77], 37) := by decide +kernel
theorem dX8_isBetter_60 : decode cX8_isBetter 60 = .ok (.aload_n 0, 1) := by decide +kernel
theorem dX8_isBetter_61 : decode cX8_isBetter 61 = .ok (.iload_n 3, 1) := by decide +kernel
theorem dX8_isBetter_62 : decode cX8_isBetter 62 = .ok (.invokevirtual 140, 3) := by decide +kernel
theorem dX8_isBetter_65 : decode cX8_isBetter 65 = .ok (.aload_n 0, 1) := by decide +kernel
theorem dX8_isBetter_66 : decode cX8_isBetter 66 = .ok (.iload 4, 2) := by decide +kernel
theorem dX8_isBetter_68 : decode cX8_isBetter 68 = .ok (.invokevirtual 140, 3) := by decide +kernel
theorem dX8_isBetter_71 : decode cX8_isBetter 71 = .ok (.if_icmp .le 7, 3) := by decide +kernel
theorem dX8_isBetter_74 : decode cX8_isBetter 74 = .ok (.iconst 1, 1) := by decide +kernel
theorem dX8_isBetter_75 : decode cX8_isBetter 75 = .ok (.goto 4, 3) := by decide +kernel
theorem dX8_isBetter_78 : decode cX8_isBetter 78 = .ok (.iconst 0, 1) := by decide +kernel
theorem dX8_isBetter_79 : decode cX8_isBetter 79 = .ok (.ireturn, 1) := by decide +kernel
theorem dX8_isBetter_80 : decode cX8_isBetter 80 = .ok (.aload_n 0, 1) := by decide +kernel
theorem dX8_isBetter_81 : decode cX8_isBetter 81 = .ok (.iload_n 3, 1) := by decide +kernel
theorem dX8_isBetter_82 : decode cX8_isBetter 82 = .ok (.invokevirtual 140, 3) := by decide +kernel
theorem dX8_isBetter_85 : decode cX8_isBetter 85 = .ok (.aload_n 0, 1) := by decide +kernel
theorem dX8_isBetter_86 : decode cX8_isBetter 86 = .ok (.iload 4, 2) := by decide +kernel
theorem dX8_isBetter_88 : decode cX8_isBetter 88 = .ok (.invokevirtual 140, 3) := by decide +kernel
theorem dX8_isBetter_91 : decode cX8_isBetter 91 = .ok (.if_icmp .ge 7, 3) := by decide +kernel
theorem dX8_isBetter_94 : decode cX8_isBetter 94 = .ok (.iconst 1, 1) := by decide +kernel
theorem dX8_isBetter_95 : decode cX8_isBetter 95 = .ok (.goto 4, 3) := by decide +kernel
theorem dX8_isBetter_98 : decode cX8_isBetter 98 = .ok (.iconst 0, 1) := by decide +kernel
theorem dX8_isBetter_99 : decode cX8_isBetter 99 = .ok (.ireturn, 1) := by decide +kernel
theorem dX8_isBetter_100 : decode cX8_isBetter 100 = .ok (.iload 5, 2) := by decide +kernel
theorem dX8_isBetter_102 : decode cX8_isBetter 102 = .ok (.ifCond .ge 9, 3) := by decide +kernel
theorem dX8_isBetter_105 : decode cX8_isBetter 105 = .ok (.iload 5, 2) := by decide +kernel
theorem dX8_isBetter_107 : decode cX8_isBetter 107 = .ok (.ineg, 1) := by decide +kernel
theorem dX8_isBetter_108 : decode cX8_isBetter 108 = .ok (.goto 5, 3) := by decide +kernel
theorem dX8_isBetter_111 : decode cX8_isBetter 111 = .ok (.iload 5, 2) := by decide +kernel
theorem dX8_isBetter_113 : decode cX8_isBetter 113 = .ok (.iload 6, 2) := by decide +kernel
theorem dX8_isBetter_115 : decode cX8_isBetter 115 = .ok (.ifCond .ge 9, 3) := by decide +kernel
theorem dX8_isBetter_118 : decode cX8_isBetter 118 = .ok (.iload 6, 2) := by decide +kernel
theorem dX8_isBetter_120 : decode cX8_isBetter 120 = .ok (.ineg, 1) := by decide +kernel
theorem dX8_isBetter_121 : decode cX8_isBetter 121 = .ok (.goto 5, 3) := by decide +kernel
theorem dX8_isBetter_124 : decode cX8_isBetter 124 = .ok (.iload 6, 2) := by decide +kernel
theorem dX8_isBetter_126 : decode cX8_isBetter 126 = .ok (.if_icmp .ge 7, 3) := by decide +kernel
theorem dX8_isBetter_129 : decode cX8_isBetter 129 = .ok (.iconst 1, 1) := by decide +kernel
theorem dX8_isBetter_130 : decode cX8_isBetter 130 = .ok (.goto 4, 3) := by decide +kernel
theorem dX8_isBetter_133 : decode cX8_isBetter 133 = .ok (.iconst 0, 1) := by decide +kernel
theorem dX8_isBetter_134 : decode cX8_isBetter 134 = .ok (.ireturn, 1) := by decide +kernel
theorem dX8_isBetter_135 : decode cX8_isBetter 135 = .ok (.iconst 0, 1) := by decide +kernel
theorem dX8_isBetter_136 : decode cX8_isBetter 136 = .ok (.ireturn, 1) := by decide +kernel
set_option maxRecDepth 20000 in
theorem ggX8_chosen_X8_canLay : GoodIn wsX8_chosen wsX8_canLay := goodIn_r _ [6, 7, 8, 9, 10, 11, 5, 12, 1, 13, 14, 15, 16, 17, 18, 19, 20, 21, 22, 23, 24, 25, 26, 27, 28, 29, 30, 31, 32, 33, 34, 35, 36, 41, 42, 43, 44, 45, 46, 47, 48, 49, 50, 51, 52, 53, 54, 55, 56, 57, 58, 59, 60, 61, 62, 63, 64, 65, 66, 67, 68, 69, 70, 71, 72, 73, 74, 75, 76, 77] (by decide +kernel) (by decide +kernel)
set_option maxRecDepth 20000 in
theorem gX8_chosen_X8_canLay : GoodIn wsX8_chosen (wsV RX8 261 RX8 yX8_canLay wsX8_canLay) := goodIn_app (goodIn_of _ (by decide +kernel)) ggX8_chosen_X8_canLay
set_option maxRecDepth 20000 in
theorem ggX8_chosen_X8_isBetter : GoodIn wsX8_chosen wsX8_isBetter := goodIn_r _ [40, 9, 10, 11, 5, 12, 1, 41, 42, 43, 44, 45, 46, 47, 48, 49, 50, 51, 52, 53, 54, 55, 56, 57, 58, 59, 60, 61, 62, 63, 64, 65, 66, 67, 68, 69, 70, 71, 72, 73, 74, 75, 76, 77] (by decide +kernel) (by decide +kernel)
set_option maxRecDepth 20000 in
theorem gX8_chosen_X8_isBetter : GoodIn wsX8_chosen (wsV RX8 265 RX8 yX8_isBetter wsX8_isBetter) := goodIn_app (goodIn_of _ (by decide +kernel)) ggX8_chosen_X8_isBetter
theorem dX8_chosen_0 : decode cX8_chosen 0 = .ok (.bipush (-4), 2) := by decide +kernel
theorem dX8_chosen_2 : decode cX8_chosen 2 = .ok (.istore_n 3, 1) := by decide +kernel
theorem dX8_chosen_3 : decode cX8_chosen 3 = .ok (.iconst 0, 1) := by decide +kernel
theorem dX8_chosen_4 : decode cX8_chosen 4 = .ok (.istore 4, 2) := by decide +kernel
theorem dX8_chosen_6 : decode cX8_chosen 6 = .ok (.iload 4, 2) := by decide +kernel
theorem dX8_chosen_8 : decode cX8_chosen 8 = .ok (.aload_n 0, 1) := by decide +kernel
theorem dX8_chosen_9 : decode cX8_chosen 9 = .ok (.getfield 9, 3) := by decide +kernel
theorem dX8_chosen_12 : decode cX8_chosen 12 = .ok (.iconst 1, 1) := by decide +kernel
theorem dX8_chosen_13 : decode cX8_chosen 13 = .ok (.iaload, 1) := by decide +kernel
theorem dX8_chosen_14 : decode cX8_chosen 14 = .ok (.if_icmp .ge 43, 3) := by decide +kernel
theorem dX8_chosen_17 : decode cX8_chosen 17 = .ok (.aload_n 0, 1) := by decide +kernel
theorem dX8_chosen_18 : decode cX8_chosen 18 = .ok (.iload 4, 2) := by decide +kernel
theorem dX8_chosen_20 : decode cX8_chosen 20 = .ok (.iload_n 1, 1) := by decide +kernel
theorem dX8_chosen_21 : decode cX8_chosen 21 = .ok (.iconst 4, 1) := by decide +kernel
theorem dX8_chosen_22 : decode cX8_chosen 22 = .ok (.if_icmp .ne 7, 3) := by decide +kernel
theorem dX8_chosen_25 : decode cX8_chosen 25 = .ok (.iconst 1, 1) := by decide +kernel
theorem dX8_chosen_26 : decode cX8_chosen 26 = .ok (.goto 4, 3) := by decide +kernel
theorem dX8_chosen_29 : decode cX8_chosen 29 = .ok (.iconst 0, 1) := by decide +kernel
theorem dX8_chosen_30 : decode cX8_chosen 30 = .ok (.invokevirtual 261, 3) := by decide +kernel
theorem dX8_chosen_33 : decode cX8_chosen 33 = .ok (.ifCond .eq 18, 3) := by decide +kernel
theorem dX8_chosen_36 : decode cX8_chosen 36 = .ok (.aload_n 0, 1) := by decide +kernel
theorem dX8_chosen_37 : decode cX8_chosen 37 = .ok (.iload_n 1, 1) := by decide +kernel
theorem dX8_chosen_38 : decode cX8_chosen 38 = .ok (.iload_n 2, 1) := by decide +kernel
theorem dX8_chosen_39 : decode cX8_chosen 39 = .ok (.iload 4, 2) := by decide +kernel
theorem dX8_chosen_41 : decode cX8_chosen 41 = .ok (.iload_n 3, 1) := by decide +kernel
theorem dX8_chosen_42 : decode cX8_chosen 42 = .ok (.invokevirtual 265, 3) := by decide +kernel
theorem dX8_chosen_45 : decode cX8_chosen 45 = .ok (.ifCond .eq 6, 3) := by decide +kernel
theorem dX8_chosen_48 : decode cX8_chosen 48 = .ok (.iload 4, 2) := by decide +kernel
theorem dX8_chosen_50 : decode cX8_chosen 50 = .ok (.istore_n 3, 1) := by decide +kernel
theorem dX8_chosen_51 : decode cX8_chosen 51 = .ok (.iinc 4 1, 3) := by decide +kernel
theorem dX8_chosen_54 : decode cX8_chosen 54 = .ok (.goto (-48), 3) := by decide +kernel
theorem dX8_chosen_57 : decode cX8_chosen 57 = .ok (.iload_n 3, 1) := by decide +kernel
theorem dX8_chosen_58 : decode cX8_chosen 58 = .ok (.ireturn, 1) := by decide +kernel
set_option maxRecDepth 20000 in
theorem ggX8_ofHanded_X8_handed : GoodIn wsX8_ofHanded wsX8_handed := goodIn_r _ [7, 8, 9, 10, 11, 12, 13, 14, 6, 15, 16, 17, 18, 19, 20, 55, 56, 57, 58, 59, 60, 61, 62, 63, 64, 65, 66, 67, 68, 69, 70, 71, 72, 73, 74, 75, 76, 77, 78, 79, 80, 81, 82, 83, 84, 85, 86, 87, 88, 89, 90, 91] (by decide +kernel) (by decide +kernel)
set_option maxRecDepth 20000 in
theorem gX8_ofHanded_X8_handed : GoodIn wsX8_ofHanded (wsV RX8 268 RX8 yX8_handed wsX8_handed) := goodIn_app (goodIn_of _ (by decide +kernel)) ggX8_ofHanded_X8_handed
set_option maxRecDepth 20000 in
theorem ggX8_ofHanded_X8_canLay : GoodIn wsX8_ofHanded wsX8_canLay := goodIn_r _ [24, 25, 26, 27, 28, 29, 6, 30, 16, 17, 18, 19, 20, 31, 32, 33, 34, 35, 36, 37, 38, 39, 40, 41, 42, 43, 44, 45, 46, 47, 48, 49, 50, 55, 56, 57, 58, 59, 60, 61, 62, 63, 64, 65, 66, 67, 68, 69, 70, 71, 72, 73, 74, 75, 76, 77, 78, 79, 80, 81, 82, 83, 84, 85, 86, 87, 88, 89, 90, 91] (by decide +kernel) (by decide +kernel)
set_option maxRecDepth 20000 in
theorem gX8_ofHanded_X8_canLay : GoodIn wsX8_ofHanded (wsV RX8 261 RX8 yX8_canLay wsX8_canLay) := goodIn_app (goodIn_of _ (by decide +kernel)) ggX8_ofHanded_X8_canLay
set_option maxRecDepth 20000 in
theorem ggX8_ofHanded_X8_heapSize : GoodIn wsX8_ofHanded wsX8_heapSize := goodIn_r _ [15, 16, 17, 18, 19, 6, 20, 55, 56, 57, 58, 59, 60, 61, 62, 63, 64, 65, 66, 67, 68, 69, 70, 71, 72, 73, 74, 75, 76, 77, 78, 79, 80, 81, 82, 83, 84, 85, 86, 87, 88, 89, 90, 91] (by decide +kernel) (by decide +kernel)
set_option maxRecDepth 20000 in
theorem gX8_ofHanded_X8_heapSize : GoodIn wsX8_ofHanded (wsV RX8 258 RX8 yX8_heapSize wsX8_heapSize) := goodIn_app (goodIn_of _ (by decide +kernel)) ggX8_ofHanded_X8_heapSize
set_option maxRecDepth 20000 in
theorem ggX8_ofHanded_X8_leaves : GoodIn wsX8_ofHanded wsX8_leaves := goodIn_r _ [54, 16, 55, 56, 57, 58, 59, 60, 61, 62, 63, 64, 65, 66, 67, 68, 69, 70, 71, 72, 73, 74, 75, 76, 77, 78, 79, 80, 81, 82, 83, 84, 85, 86, 87, 88, 89, 90, 91] (by decide +kernel) (by decide +kernel)
set_option maxRecDepth 20000 in
theorem gX8_ofHanded_X8_leaves : GoodIn wsX8_ofHanded (wsV RX8 174 RX8 yX8_leaves wsX8_leaves) := goodIn_app (goodIn_of _ (by decide +kernel)) ggX8_ofHanded_X8_leaves
set_option maxRecDepth 20000 in
theorem ggX8_ofHanded_X8_inches : GoodIn wsX8_ofHanded wsX8_inches := goodIn_r _ [30, 16, 55, 56, 57, 58, 59, 60, 61, 62, 63, 64, 65, 66, 67, 68, 69, 70, 71, 72, 73, 74, 75, 76, 77, 78, 79, 80, 81, 82, 83, 84, 85, 86, 87, 88, 89, 90, 91] (by decide +kernel) (by decide +kernel)
set_option maxRecDepth 20000 in
theorem gX8_ofHanded_X8_inches : GoodIn wsX8_ofHanded (wsV RX8 140 RX8 yX8_inches wsX8_inches) := goodIn_app (goodIn_of _ (by decide +kernel)) ggX8_ofHanded_X8_inches
theorem dX8_ofHanded_0 : decode cX8_ofHanded 0 = .ok (.aload_n 0, 1) := by decide +kernel
theorem dX8_ofHanded_1 : decode cX8_ofHanded 1 = .ok (.aload_n 0, 1) := by decide +kernel
theorem dX8_ofHanded_2 : decode cX8_ofHanded 2 = .ok (.invokevirtual 268, 3) := by decide +kernel
theorem dX8_ofHanded_5 : decode cX8_ofHanded 5 = .ok (.putfield 271, 3) := by decide +kernel
theorem dX8_ofHanded_8 : decode cX8_ofHanded 8 = .ok (.aload_n 0, 1) := by decide +kernel
theorem dX8_ofHanded_9 : decode cX8_ofHanded 9 = .ok (.bipush (-4), 2) := by decide +kernel
theorem dX8_ofHanded_11 : decode cX8_ofHanded 11 = .ok (.putfield 274, 3) := by decide +kernel
theorem dX8_ofHanded_14 : decode cX8_ofHanded 14 = .ok (.aload_n 0, 1) := by decide +kernel
theorem dX8_ofHanded_15 : decode cX8_ofHanded 15 = .ok (.aload_n 0, 1) := by decide +kernel
theorem dX8_ofHanded_16 : decode cX8_ofHanded 16 = .ok (.getfield 271, 3) := by decide +kernel
theorem dX8_ofHanded_19 : decode cX8_ofHanded 19 = .ok (.iconst 0, 1) := by decide +kernel
theorem dX8_ofHanded_20 : decode cX8_ofHanded 20 = .ok (.invokevirtual 261, 3) := by decide +kernel
theorem dX8_ofHanded_23 : decode cX8_ofHanded 23 = .ok (.istore_n 2, 1) := by decide +kernel
theorem dX8_ofHanded_24 : decode cX8_ofHanded 24 = .ok (.iload_n 1, 1) := by decide +kernel
theorem dX8_ofHanded_25 : decode cX8_ofHanded 25 = .ok (.ifCond .eq 37, 3) := by decide +kernel
theorem dX8_ofHanded_28 : decode cX8_ofHanded 28 = .ok (.aload_n 0, 1) := by decide +kernel
theorem dX8_ofHanded_29 : decode cX8_ofHanded 29 = .ok (.invokevirtual 258, 3) := by decide +kernel
theorem dX8_ofHanded_32 : decode cX8_ofHanded 32 = .ok (.iconst 1, 1) := by decide +kernel
theorem dX8_ofHanded_33 : decode cX8_ofHanded 33 = .ok (.if_icmp .le 29, 3) := by decide +kernel
theorem dX8_ofHanded_36 : decode cX8_ofHanded 36 = .ok (.aload_n 0, 1) := by decide +kernel
theorem dX8_ofHanded_37 : decode cX8_ofHanded 37 = .ok (.aload_n 0, 1) := by decide +kernel
theorem dX8_ofHanded_38 : decode cX8_ofHanded 38 = .ok (.getfield 271, 3) := by decide +kernel
theorem dX8_ofHanded_41 : decode cX8_ofHanded 41 = .ok (.iconst 1, 1) := by decide +kernel
theorem dX8_ofHanded_42 : decode cX8_ofHanded 42 = .ok (.invokevirtual 174, 3) := by decide +kernel
theorem dX8_ofHanded_45 : decode cX8_ofHanded 45 = .ok (.aload_n 0, 1) := by decide +kernel
theorem dX8_ofHanded_46 : decode cX8_ofHanded 46 = .ok (.aload_n 0, 1) := by decide +kernel
theorem dX8_ofHanded_47 : decode cX8_ofHanded 47 = .ok (.invokevirtual 268, 3) := by decide +kernel
theorem dX8_ofHanded_50 : decode cX8_ofHanded 50 = .ok (.putfield 274, 3) := by decide +kernel
theorem dX8_ofHanded_53 : decode cX8_ofHanded 53 = .ok (.aload_n 0, 1) := by decide +kernel
theorem dX8_ofHanded_54 : decode cX8_ofHanded 54 = .ok (.aload_n 0, 1) := by decide +kernel
theorem dX8_ofHanded_55 : decode cX8_ofHanded 55 = .ok (.getfield 271, 3) := by decide +kernel
theorem dX8_ofHanded_58 : decode cX8_ofHanded 58 = .ok (.iconst (-1), 1) := by decide +kernel
theorem dX8_ofHanded_59 : decode cX8_ofHanded 59 = .ok (.invokevirtual 174, 3) := by decide +kernel
theorem dX8_ofHanded_62 : decode cX8_ofHanded 62 = .ok (.aload_n 0, 1) := by decide +kernel
theorem dX8_ofHanded_63 : decode cX8_ofHanded 63 = .ok (.getfield 274, 3) := by decide +kernel
theorem dX8_ofHanded_66 : decode cX8_ofHanded 66 = .ok (.ifCond .lt 19, 3) := by decide +kernel
theorem dX8_ofHanded_69 : decode cX8_ofHanded 69 = .ok (.aload_n 0, 1) := by decide +kernel
theorem dX8_ofHanded_70 : decode cX8_ofHanded 70 = .ok (.aload_n 0, 1) := by decide +kernel
theorem dX8_ofHanded_71 : decode cX8_ofHanded 71 = .ok (.getfield 274, 3) := by decide +kernel
theorem dX8_ofHanded_74 : decode cX8_ofHanded 74 = .ok (.iconst 0, 1) := by decide +kernel
theorem dX8_ofHanded_75 : decode cX8_ofHanded 75 = .ok (.invokevirtual 261, 3) := by decide +kernel
theorem dX8_ofHanded_78 : decode cX8_ofHanded 78 = .ok (.ifCond .eq 7, 3) := by decide +kernel
theorem dX8_ofHanded_81 : decode cX8_ofHanded 81 = .ok (.iconst 1, 1) := by decide +kernel
theorem dX8_ofHanded_82 : decode cX8_ofHanded 82 = .ok (.goto 4, 3) := by decide +kernel
theorem dX8_ofHanded_85 : decode cX8_ofHanded 85 = .ok (.iconst 0, 1) := by decide +kernel
theorem dX8_ofHanded_86 : decode cX8_ofHanded 86 = .ok (.istore_n 3, 1) := by decide +kernel
theorem dX8_ofHanded_87 : decode cX8_ofHanded 87 = .ok (.iload_n 2, 1) := by decide +kernel
theorem dX8_ofHanded_88 : decode cX8_ofHanded 88 = .ok (.ifCond .eq 33, 3) := by decide +kernel
theorem dX8_ofHanded_91 : decode cX8_ofHanded 91 = .ok (.iload_n 3, 1) := by decide +kernel
theorem dX8_ofHanded_92 : decode cX8_ofHanded 92 = .ok (.ifCond .eq 22, 3) := by decide +kernel
theorem dX8_ofHanded_95 : decode cX8_ofHanded 95 = .ok (.aload_n 0, 1) := by decide +kernel
theorem dX8_ofHanded_96 : decode cX8_ofHanded 96 = .ok (.aload_n 0, 1) := by decide +kernel
theorem dX8_ofHanded_97 : decode cX8_ofHanded 97 = .ok (.getfield 271, 3) := by decide +kernel
theorem dX8_ofHanded_100 : decode cX8_ofHanded 100 = .ok (.invokevirtual 140, 3) := by decide +kernel
theorem dX8_ofHanded_103 : decode cX8_ofHanded 103 = .ok (.aload_n 0, 1) := by decide +kernel
theorem dX8_ofHanded_104 : decode cX8_ofHanded 104 = .ok (.aload_n 0, 1) := by decide +kernel
theorem dX8_ofHanded_105 : decode cX8_ofHanded 105 = .ok (.getfield 274, 3) := by decide +kernel
theorem dX8_ofHanded_108 : decode cX8_ofHanded 108 = .ok (.invokevirtual 140, 3) := by decide +kernel
theorem dX8_ofHanded_111 : decode cX8_ofHanded 111 = .ok (.if_icmp .lt 10, 3) := by decide +kernel
theorem dX8_ofHanded_114 : decode cX8_ofHanded 114 = .ok (.aload_n 0, 1) := by decide +kernel
theorem dX8_ofHanded_115 : decode cX8_ofHanded 115 = .ok (.getfield 271, 3) := by decide +kernel
theorem dX8_ofHanded_118 : decode cX8_ofHanded 118 = .ok (.goto 16, 3) := by decide +kernel
theorem dX8_ofHanded_121 : decode cX8_ofHanded 121 = .ok (.iload_n 3, 1) := by decide +kernel
theorem dX8_ofHanded_122 : decode cX8_ofHanded 122 = .ok (.ifCond .eq 10, 3) := by decide +kernel
theorem dX8_ofHanded_125 : decode cX8_ofHanded 125 = .ok (.aload_n 0, 1) := by decide +kernel
theorem dX8_ofHanded_126 : decode cX8_ofHanded 126 = .ok (.getfield 274, 3) := by decide +kernel
theorem dX8_ofHanded_129 : decode cX8_ofHanded 129 = .ok (.goto 5, 3) := by decide +kernel
theorem dX8_ofHanded_132 : decode cX8_ofHanded 132 = .ok (.bipush (-4), 2) := by decide +kernel
theorem dX8_ofHanded_134 : decode cX8_ofHanded 134 = .ok (.ireturn, 1) := by decide +kernel
set_option maxRecDepth 20000 in
theorem ggX8_lays_X8_lengthOf : GoodIn wsX8_lays wsX8_lengthOf := goodIn_r _ [11, 12, 69, 70, 71, 72, 73, 74, 75, 76, 77, 78, 79, 80, 81, 82, 83, 84, 85, 86, 87, 88, 89, 90, 91, 92, 93, 94, 95, 96, 97, 98, 99, 100, 101, 102, 103, 104, 105] (by decide +kernel) (by decide +kernel)
set_option maxRecDepth 20000 in
theorem gX8_lays_X8_lengthOf : GoodIn wsX8_lays (wsV RX8 149 RX8 yX8_lengthOf wsX8_lengthOf) := goodIn_app (goodIn_of _ (by decide +kernel)) ggX8_lays_X8_lengthOf
set_option maxRecDepth 20000 in
theorem ggX8_lays_X8_chosen : GoodIn wsX8_lays wsX8_chosen := goodIn_r _ [16, 12, 17, 18, 19, 10, 20, 1, 4, 21, 22, 23, 24, 25, 26, 27, 28, 7, 8, 9, 11, 29, 30, 31, 32, 33, 34, 35, 36, 37, 38, 39, 40, 41, 42, 43, 44, 45, 46, 47, 48, 69, 70, 71, 72, 73, 74, 75, 76, 77, 78, 79, 80, 81, 82, 83, 84, 85, 86, 87, 88, 89, 90, 91, 92, 93, 94, 95, 96, 97, 98, 99, 100, 101, 102, 103, 104, 105] (by decide +kernel) (by decide +kernel)
set_option maxRecDepth 20000 in
theorem gX8_lays_X8_chosen : GoodIn wsX8_lays (wsV RX8 283 RX8 yX8_chosen wsX8_chosen) := goodIn_app (goodIn_of _ (by decide +kernel)) ggX8_lays_X8_chosen
set_option maxRecDepth 20000 in
theorem ggX8_lays_X8_ofHanded : GoodIn wsX8_lays wsX8_ofHanded := goodIn_r _ [52, 5, 6, 53, 54, 55, 10, 56, 57, 58, 59, 60, 61, 62, 63, 64, 12, 25, 26, 27, 28, 17, 18, 19, 20, 1, 4, 21, 22, 23, 24, 7, 8, 9, 11, 29, 30, 31, 32, 33, 34, 35, 36, 37, 38, 39, 40, 41, 42, 43, 44, 65, 66, 67, 68, 69, 70, 71, 72, 73, 74, 75, 76, 77, 78, 79, 80, 81, 82, 83, 84, 85, 86, 87, 88, 89, 90, 91, 92, 93, 94, 95, 96, 97, 98, 99, 100, 101, 102, 103, 104, 105] (by decide +kernel) (by decide +kernel)
set_option maxRecDepth 20000 in
theorem gX8_lays_X8_ofHanded : GoodIn wsX8_lays (wsV RX8 286 RX8 yX8_ofHanded wsX8_ofHanded) := goodIn_app (goodIn_of _ (by decide +kernel)) ggX8_lays_X8_ofHanded
set_option maxRecDepth 20000 in
theorem ggX8_lays_X8_leaves : GoodIn wsX8_lays wsX8_leaves := goodIn_r _ [68, 12, 69, 70, 71, 72, 73, 74, 75, 76, 77, 78, 79, 80, 81, 82, 83, 84, 85, 86, 87, 88, 89, 90, 91, 92, 93, 94, 95, 96, 97, 98, 99, 100, 101, 102, 103, 104, 105] (by decide +kernel) (by decide +kernel)
set_option maxRecDepth 20000 in
theorem gX8_lays_X8_leaves : GoodIn wsX8_lays (wsV RX8 174 RX8 yX8_leaves wsX8_leaves) := goodIn_app (goodIn_of _ (by decide +kernel)) ggX8_lays_X8_leaves
set_option maxRecDepth 20000 in
theorem ggX8_lays_X8_inches : GoodIn wsX8_lays wsX8_inches := goodIn_r _ [24, 12, 69, 70, 71, 72, 73, 74, 75, 76, 77, 78, 79, 80, 81, 82, 83, 84, 85, 86, 87, 88, 89, 90, 91, 92, 93, 94, 95, 96, 97, 98, 99, 100, 101, 102, 103, 104, 105] (by decide +kernel) (by decide +kernel)
set_option maxRecDepth 20000 in
theorem gX8_lays_X8_inches : GoodIn wsX8_lays (wsV RX8 140 RX8 yX8_inches wsX8_inches) := goodIn_app (goodIn_of _ (by decide +kernel)) ggX8_lays_X8_inches
theorem dX8_lays_0 : decode cX8_lays 0 = .ok (.aload_n 0, 1) := by decide +kernel
theorem dX8_lays_1 : decode cX8_lays 1 = .ok (.iconst 0, 1) := by decide +kernel
theorem dX8_lays_2 : decode cX8_lays 2 = .ok (.putfield 246, 3) := by decide +kernel
theorem dX8_lays_5 : decode cX8_lays 5 = .ok (.aload_n 0, 1) := by decide +kernel
theorem dX8_lays_6 : decode cX8_lays 6 = .ok (.iconst 0, 1) := by decide +kernel
theorem dX8_lays_7 : decode cX8_lays 7 = .ok (.putfield 277, 3) := by decide +kernel
theorem dX8_lays_10 : decode cX8_lays 10 = .ok (.aload_n 0, 1) := by decide +kernel
theorem dX8_lays_11 : decode cX8_lays 11 = .ok (.iconst 0, 1) := by decide +kernel
theorem dX8_lays_12 : decode cX8_lays 12 = .ok (.putfield 280, 3) := by decide +kernel
theorem dX8_lays_15 : decode cX8_lays 15 = .ok (.aload_n 0, 1) := by decide +kernel
theorem dX8_lays_16 : decode cX8_lays 16 = .ok (.getfield 246, 3) := by decide +kernel
theorem dX8_lays_19 : decode cX8_lays 19 = .ok (.aload_n 0, 1) := by decide +kernel
theorem dX8_lays_20 : decode cX8_lays 20 = .ok (.aload_n 0, 1) := by decide +kernel
theorem dX8_lays_21 : decode cX8_lays 21 = .ok (.getfield 249, 3) := by decide +kernel
theorem dX8_lays_24 : decode cX8_lays 24 = .ok (.invokevirtual 149, 3) := by decide +kernel
theorem dX8_lays_27 : decode cX8_lays 27 = .ok (.if_icmp .ge 128, 3) := by decide +kernel
theorem dX8_lays_30 : decode cX8_lays 30 = .ok (.aload_n 0, 1) := by decide +kernel
theorem dX8_lays_31 : decode cX8_lays 31 = .ok (.iload_n 1, 1) := by decide +kernel
theorem dX8_lays_32 : decode cX8_lays 32 = .ok (.iload_n 2, 1) := by decide +kernel
theorem dX8_lays_33 : decode cX8_lays 33 = .ok (.invokevirtual 283, 3) := by decide +kernel
theorem dX8_lays_36 : decode cX8_lays 36 = .ok (.istore_n 3, 1) := by decide +kernel
theorem dX8_lays_37 : decode cX8_lays 37 = .ok (.iload_n 3, 1) := by decide +kernel
theorem dX8_lays_38 : decode cX8_lays 38 = .ok (.ifCond .ge 5, 3) := by decide +kernel
theorem dX8_lays_41 : decode cX8_lays 41 = .ok (.iconst 0, 1) := by decide +kernel
theorem dX8_lays_42 : decode cX8_lays 42 = .ok (.ireturn, 1) := by decide +kernel
theorem dX8_lays_43 : decode cX8_lays 43 = .ok (.iload_n 1, 1) := by decide +kernel
theorem dX8_lays_44 : decode cX8_lays 44 = .ok (.iconst 2, 1) := by decide +kernel
theorem dX8_lays_45 : decode cX8_lays 45 = .ok (.if_icmp .eq 8, 3) := by decide +kernel
theorem dX8_lays_48 : decode cX8_lays 48 = .ok (.iload_n 1, 1) := by decide +kernel
theorem dX8_lays_49 : decode cX8_lays 49 = .ok (.iconst 5, 1) := by decide +kernel
theorem dX8_lays_50 : decode cX8_lays 50 = .ok (.if_icmp .ne 18, 3) := by decide +kernel
theorem dX8_lays_53 : decode cX8_lays 53 = .ok (.aload_n 0, 1) := by decide +kernel
theorem dX8_lays_54 : decode cX8_lays 54 = .ok (.iload_n 1, 1) := by decide +kernel
theorem dX8_lays_55 : decode cX8_lays 55 = .ok (.iconst 5, 1) := by decide +kernel
theorem dX8_lays_56 : decode cX8_lays 56 = .ok (.if_icmp .ne 7, 3) := by decide +kernel
theorem dX8_lays_59 : decode cX8_lays 59 = .ok (.iconst 1, 1) := by decide +kernel
theorem dX8_lays_60 : decode cX8_lays 60 = .ok (.goto 4, 3) := by decide +kernel
theorem dX8_lays_63 : decode cX8_lays 63 = .ok (.iconst 0, 1) := by decide +kernel
theorem dX8_lays_64 : decode cX8_lays 64 = .ok (.invokevirtual 286, 3) := by decide +kernel
theorem dX8_lays_67 : decode cX8_lays 67 = .ok (.istore_n 3, 1) := by decide +kernel
theorem dX8_lays_68 : decode cX8_lays 68 = .ok (.iload_n 3, 1) := by decide +kernel
theorem dX8_lays_69 : decode cX8_lays 69 = .ok (.ifCond .ge 53, 3) := by decide +kernel
theorem dX8_lays_72 : decode cX8_lays 72 = .ok (.aload_n 0, 1) := by decide +kernel
theorem dX8_lays_73 : decode cX8_lays 73 = .ok (.getfield 277, 3) := by decide +kernel
theorem dX8_lays_76 : decode cX8_lays 76 = .ok (.iload_n 2, 1) := by decide +kernel
theorem dX8_lays_77 : decode cX8_lays 77 = .ok (.iconst 2, 1) := by decide +kernel
theorem dX8_lays_78 : decode cX8_lays 78 = .ok (.iadd, 1) := by decide +kernel
theorem dX8_lays_79 : decode cX8_lays 79 = .ok (.if_icmp .ne 5, 3) := by decide +kernel
theorem dX8_lays_82 : decode cX8_lays 82 = .ok (.iconst 0, 1) := by decide +kernel
theorem dX8_lays_83 : decode cX8_lays 83 = .ok (.ireturn, 1) := by decide +kernel
theorem dX8_lays_84 : decode cX8_lays 84 = .ok (.aload_n 0, 1) := by decide +kernel
theorem dX8_lays_85 : decode cX8_lays 85 = .ok (.dup, 1) := by decide +kernel
theorem dX8_lays_86 : decode cX8_lays 86 = .ok (.getfield 277, 3) := by decide +kernel
theorem dX8_lays_89 : decode cX8_lays 89 = .ok (.iconst 1, 1) := by decide +kernel
theorem dX8_lays_90 : decode cX8_lays 90 = .ok (.iadd, 1) := by decide +kernel
theorem dX8_lays_91 : decode cX8_lays 91 = .ok (.putfield 277, 3) := by decide +kernel
theorem dX8_lays_94 : decode cX8_lays 94 = .ok (.aload_n 0, 1) := by decide +kernel
theorem dX8_lays_95 : decode cX8_lays 95 = .ok (.aload_n 0, 1) := by decide +kernel
theorem dX8_lays_96 : decode cX8_lays 96 = .ok (.getfield 271, 3) := by decide +kernel
theorem dX8_lays_99 : decode cX8_lays 99 = .ok (.iconst 1, 1) := by decide +kernel
theorem dX8_lays_100 : decode cX8_lays 100 = .ok (.invokevirtual 174, 3) := by decide +kernel
theorem dX8_lays_103 : decode cX8_lays 103 = .ok (.aload_n 0, 1) := by decide +kernel
theorem dX8_lays_104 : decode cX8_lays 104 = .ok (.getfield 274, 3) := by decide +kernel
theorem dX8_lays_107 : decode cX8_lays 107 = .ok (.ifCond .lt (-92), 3) := by decide +kernel
theorem dX8_lays_110 : decode cX8_lays 110 = .ok (.aload_n 0, 1) := by decide +kernel
theorem dX8_lays_111 : decode cX8_lays 111 = .ok (.aload_n 0, 1) := by decide +kernel
theorem dX8_lays_112 : decode cX8_lays 112 = .ok (.getfield 274, 3) := by decide +kernel
theorem dX8_lays_115 : decode cX8_lays 115 = .ok (.iconst 1, 1) := by decide +kernel
theorem dX8_lays_116 : decode cX8_lays 116 = .ok (.invokevirtual 174, 3) := by decide +kernel
theorem dX8_lays_119 : decode cX8_lays 119 = .ok (.goto (-104), 3) := by decide +kernel
theorem dX8_lays_122 : decode cX8_lays 122 = .ok (.aload_n 0, 1) := by decide +kernel
theorem dX8_lays_123 : decode cX8_lays 123 = .ok (.iload_n 3, 1) := by decide +kernel
theorem dX8_lays_124 : decode cX8_lays 124 = .ok (.iconst 1, 1) := by decide +kernel
theorem dX8_lays_125 : decode cX8_lays 125 = .ok (.invokevirtual 174, 3) := by decide +kernel
theorem dX8_lays_128 : decode cX8_lays 128 = .ok (.aload_n 0, 1) := by decide +kernel
theorem dX8_lays_129 : decode cX8_lays 129 = .ok (.dup, 1) := by decide +kernel
theorem dX8_lays_130 : decode cX8_lays 130 = .ok (.getfield 246, 3) := by decide +kernel
theorem dX8_lays_133 : decode cX8_lays 133 = .ok (.aload_n 0, 1) := by decide +kernel
theorem dX8_lays_134 : decode cX8_lays 134 = .ok (.iload_n 3, 1) := by decide +kernel
theorem dX8_lays_135 : decode cX8_lays 135 = .ok (.invokevirtual 140, 3) := by decide +kernel
theorem dX8_lays_138 : decode cX8_lays 138 = .ok (.iadd, 1) := by decide +kernel
theorem dX8_lays_139 : decode cX8_lays 139 = .ok (.putfield 246, 3) := by decide +kernel
theorem dX8_lays_142 : decode cX8_lays 142 = .ok (.aload_n 0, 1) := by decide +kernel
theorem dX8_lays_143 : decode cX8_lays 143 = .ok (.dup, 1) := by decide +kernel
theorem dX8_lays_144 : decode cX8_lays 144 = .ok (.getfield 280, 3) := by decide +kernel
theorem dX8_lays_147 : decode cX8_lays 147 = .ok (.iconst 1, 1) := by decide +kernel
theorem dX8_lays_148 : decode cX8_lays 148 = .ok (.iadd, 1) := by decide +kernel
theorem dX8_lays_149 : decode cX8_lays 149 = .ok (.putfield 280, 3) := by decide +kernel
theorem dX8_lays_152 : decode cX8_lays 152 = .ok (.goto (-137), 3) := by decide +kernel
theorem dX8_lays_155 : decode cX8_lays 155 = .ok (.iconst 1, 1) := by decide +kernel
theorem dX8_lays_156 : decode cX8_lays 156 = .ok (.ireturn, 1) := by decide +kernel
set_option maxRecDepth 20000 in
theorem ggX8_by_X8_isRow : GoodIn wsX8_by wsX8_isRow := goodIn_r _ [15, 3, 16, 17, 14, 18, 97, 98, 99, 100, 101, 102, 103, 104, 105, 106, 107, 108, 109, 110, 111, 112, 113, 114, 115, 116, 117, 118, 119, 120, 121, 122, 123, 124, 125, 126, 127, 128, 129, 130, 131, 132, 133] (by decide +kernel) (by decide +kernel)
set_option maxRecDepth 20000 in
theorem gX8_by_X8_isRow : GoodIn wsX8_by (wsV RX8 152 RX8 yX8_isRow wsX8_isRow) := goodIn_app (goodIn_of _ (by decide +kernel)) ggX8_by_X8_isRow
set_option maxRecDepth 20000 in
theorem ggX8_by_X8_isShelf : GoodIn wsX8_by wsX8_isShelf := goodIn_r _ [21, 22, 16, 17, 14, 18] (by decide +kernel) (by decide +kernel)
set_option maxRecDepth 20000 in
theorem gX8_by_X8_isShelf : GoodIn wsX8_by (va_wsS RX8 112 yX8_isShelf wsX8_isShelf) := goodIn_app (goodIn_of _ (by decide +kernel)) ggX8_by_X8_isShelf
set_option maxRecDepth 20000 in
theorem ggX8_by_X8_isIn : GoodIn wsX8_by wsX8_isIn := goodIn_r _ [18] (by decide +kernel) (by decide +kernel)
set_option maxRecDepth 20000 in
theorem gX8_by_X8_isIn : GoodIn wsX8_by (va_wsS RX8 63 yX8_isIn wsX8_isIn) := goodIn_app (goodIn_of _ (by decide +kernel)) ggX8_by_X8_isIn
set_option maxRecDepth 20000 in
theorem ggX8_by_X8_isLaid : GoodIn wsX8_by wsX8_isLaid := goodIn_r _ [26, 27, 28, 29, 14, 30, 3, 97, 98, 99, 100, 101, 102, 103, 104, 105, 106, 107, 108, 109, 110, 111, 112, 113, 114, 115, 116, 117, 118, 119, 120, 121, 122, 123, 124, 125, 126, 127, 128, 129, 130, 131, 132, 133] (by decide +kernel) (by decide +kernel)
set_option maxRecDepth 20000 in
theorem gX8_by_X8_isLaid : GoodIn wsX8_by (wsV RX8 143 RX8 yX8_isLaid wsX8_isLaid) := goodIn_app (goodIn_of _ (by decide +kernel)) ggX8_by_X8_isLaid
set_option maxRecDepth 20000 in
theorem ggX8_by_X8_wrongLaying : GoodIn wsX8_by wsX8_wrongLaying := goodIn_r _ [34, 35, 19, 20, 14, 21, 22, 16, 17, 18, 97, 98, 99, 100, 101, 102, 103, 104, 105, 106, 107, 108, 109, 110, 111, 112, 113, 114, 115, 116, 117, 118, 119, 120, 121, 122, 123, 124, 125, 126, 127, 128, 129, 130, 131, 132, 133] (by decide +kernel) (by decide +kernel)
set_option maxRecDepth 20000 in
theorem gX8_by_X8_wrongLaying : GoodIn wsX8_by (wsV RX8 290 RX8 yX8_wrongLaying wsX8_wrongLaying) := goodIn_app (goodIn_of _ (by decide +kernel)) ggX8_by_X8_wrongLaying
set_option maxRecDepth 20000 in
theorem ggX8_by_X8_lays : GoodIn wsX8_by wsX8_lays := goodIn_r _ [39, 9, 10, 8, 5, 40, 41, 42, 43, 44, 14, 45, 3, 46, 47, 48, 49, 50, 51, 52, 53, 54, 55, 56, 57, 58, 59, 60, 61, 62, 63, 64, 65, 27, 28, 29, 30, 66, 67, 68, 69, 70, 71, 72, 73, 74, 75, 76, 77, 78, 79, 80, 81, 82, 83, 84, 85, 4, 86, 87, 88, 89, 90, 91, 92, 93, 94, 95, 96, 97, 98, 99, 100, 101, 102, 103, 104, 105, 106, 107, 108, 109, 110, 111, 112, 113, 114, 115, 116, 117, 118, 119, 120, 121, 122, 123, 124, 125, 126, 127, 128, 129, 130, 131, 132, 133] (by decide +kernel) (by decide +kernel)
set_option maxRecDepth 20000 in
theorem gX8_by_X8_lays : GoodIn wsX8_by (wsV RX8 293 RX8 yX8_lays wsX8_lays) := goodIn_app (goodIn_of _ (by decide +kernel)) ggX8_by_X8_lays
set_option maxRecDepth 20000 in
theorem ggX8_by_X8_lengthOf : GoodIn wsX8_by wsX8_lengthOf := goodIn_r _ [45, 3, 97, 98, 99, 100, 101, 102, 103, 104, 105, 106, 107, 108, 109, 110, 111, 112, 113, 114, 115, 116, 117, 118, 119, 120, 121, 122, 123, 124, 125, 126, 127, 128, 129, 130, 131, 132, 133] (by decide +kernel) (by decide +kernel)
set_option maxRecDepth 20000 in
theorem gX8_by_X8_lengthOf : GoodIn wsX8_by (wsV RX8 149 RX8 yX8_lengthOf wsX8_lengthOf) := goodIn_app (goodIn_of _ (by decide +kernel)) ggX8_by_X8_lengthOf
theorem dX8_by_0 : decode cX8_by 0 = .ok (.aload_n 0, 1) := by decide +kernel
theorem dX8_by_1 : decode cX8_by 1 = .ok (.iload_n 1, 1) := by decide +kernel
theorem dX8_by_2 : decode cX8_by 2 = .ok (.invokevirtual 152, 3) := by decide +kernel
theorem dX8_by_5 : decode cX8_by 5 = .ok (.ifCond .eq 23, 3) := by decide +kernel
theorem dX8_by_8 : decode cX8_by 8 = .ok (.iload_n 2, 1) := by decide +kernel
theorem dX8_by_9 : decode cX8_by 9 = .ok (.invokestatic 112, 3) := by decide +kernel
theorem dX8_by_12 : decode cX8_by 12 = .ok (.ifCond .eq 16, 3) := by decide +kernel
theorem dX8_by_15 : decode cX8_by 15 = .ok (.iload 4, 2) := by decide +kernel
theorem dX8_by_17 : decode cX8_by 17 = .ok (.i2l, 1) := by decide +kernel
theorem dX8_by_18 : decode cX8_by 18 = .ok (.lconst 0, 1) := by decide +kernel
theorem dX8_by_19 : decode cX8_by 19 = .ok (.ldc2_w 128, 3) := by decide +kernel
theorem dX8_by_22 : decode cX8_by 22 = .ok (.invokestatic 63, 3) := by decide +kernel
theorem dX8_by_25 : decode cX8_by 25 = .ok (.ifCond .ne 5, 3) := by decide +kernel
theorem dX8_by_28 : decode cX8_by 28 = .ok (.iconst (-1), 1) := by decide +kernel
theorem dX8_by_29 : decode cX8_by 29 = .ok (.ireturn, 1) := by decide +kernel
theorem dX8_by_30 : decode cX8_by 30 = .ok (.aload_n 0, 1) := by decide +kernel
theorem dX8_by_31 : decode cX8_by 31 = .ok (.iload_n 1, 1) := by decide +kernel
theorem dX8_by_32 : decode cX8_by 32 = .ok (.invokevirtual 143, 3) := by decide +kernel
theorem dX8_by_35 : decode cX8_by 35 = .ok (.ifCond .eq 6, 3) := by decide +kernel
theorem dX8_by_38 : decode cX8_by 38 = .ok (.bipush (-3), 2) := by decide +kernel
theorem dX8_by_40 : decode cX8_by 40 = .ok (.ireturn, 1) := by decide +kernel
theorem dX8_by_41 : decode cX8_by 41 = .ok (.aload_n 0, 1) := by decide +kernel
theorem dX8_by_42 : decode cX8_by 42 = .ok (.iload_n 2, 1) := by decide +kernel
theorem dX8_by_43 : decode cX8_by 43 = .ok (.invokevirtual 290, 3) := by decide +kernel
theorem dX8_by_46 : decode cX8_by 46 = .ok (.istore 5, 2) := by decide +kernel
theorem dX8_by_48 : decode cX8_by 48 = .ok (.iload 5, 2) := by decide +kernel
theorem dX8_by_50 : decode cX8_by 50 = .ok (.ifCond .eq 6, 3) := by decide +kernel
theorem dX8_by_53 : decode cX8_by 53 = .ok (.iload 5, 2) := by decide +kernel
theorem dX8_by_55 : decode cX8_by 55 = .ok (.ireturn, 1) := by decide +kernel
theorem dX8_by_56 : decode cX8_by 56 = .ok (.iconst 0, 1) := by decide +kernel
theorem dX8_by_57 : decode cX8_by 57 = .ok (.istore 6, 2) := by decide +kernel
theorem dX8_by_59 : decode cX8_by 59 = .ok (.iload 6, 2) := by decide +kernel
theorem dX8_by_61 : decode cX8_by 61 = .ok (.bipush 99, 2) := by decide +kernel
theorem dX8_by_63 : decode cX8_by 63 = .ok (.if_icmp .ge 23, 3) := by decide +kernel
theorem dX8_by_66 : decode cX8_by 66 = .ok (.aload_n 0, 1) := by decide +kernel
theorem dX8_by_67 : decode cX8_by 67 = .ok (.getfield 19, 3) := by decide +kernel
theorem dX8_by_70 : decode cX8_by 70 = .ok (.iload 6, 2) := by decide +kernel
theorem dX8_by_72 : decode cX8_by 72 = .ok (.aload_n 0, 1) := by decide +kernel
theorem dX8_by_73 : decode cX8_by 73 = .ok (.getfield 9, 3) := by decide +kernel
theorem dX8_by_76 : decode cX8_by 76 = .ok (.iload 6, 2) := by decide +kernel
theorem dX8_by_78 : decode cX8_by 78 = .ok (.iaload, 1) := by decide +kernel
theorem dX8_by_79 : decode cX8_by 79 = .ok (.iastore, 1) := by decide +kernel
theorem dX8_by_80 : decode cX8_by 80 = .ok (.iinc 6 1, 3) := by decide +kernel
theorem dX8_by_83 : decode cX8_by 83 = .ok (.goto (-24), 3) := by decide +kernel
theorem dX8_by_86 : decode cX8_by 86 = .ok (.aload_n 0, 1) := by decide +kernel
theorem dX8_by_87 : decode cX8_by 87 = .ok (.iload_n 3, 1) := by decide +kernel
theorem dX8_by_88 : decode cX8_by 88 = .ok (.putfield 252, 3) := by decide +kernel
theorem dX8_by_91 : decode cX8_by 91 = .ok (.aload_n 0, 1) := by decide +kernel
theorem dX8_by_92 : decode cX8_by 92 = .ok (.iload_n 1, 1) := by decide +kernel
theorem dX8_by_93 : decode cX8_by 93 = .ok (.putfield 249, 3) := by decide +kernel
theorem dX8_by_96 : decode cX8_by 96 = .ok (.aload_n 0, 1) := by decide +kernel
theorem dX8_by_97 : decode cX8_by 97 = .ok (.aload_n 0, 1) := by decide +kernel
theorem dX8_by_98 : decode cX8_by 98 = .ok (.getfield 34, 3) := by decide +kernel
theorem dX8_by_101 : decode cX8_by 101 = .ok (.iload_n 2, 1) := by decide +kernel
theorem dX8_by_102 : decode cX8_by 102 = .ok (.iaload, 1) := by decide +kernel
theorem dX8_by_103 : decode cX8_by 103 = .ok (.aload_n 0, 1) := by decide +kernel
theorem dX8_by_104 : decode cX8_by 104 = .ok (.getfield 37, 3) := by decide +kernel
theorem dX8_by_107 : decode cX8_by 107 = .ok (.iload_n 2, 1) := by decide +kernel
theorem dX8_by_108 : decode cX8_by 108 = .ok (.iaload, 1) := by decide +kernel
theorem dX8_by_109 : decode cX8_by 109 = .ok (.invokevirtual 293, 3) := by decide +kernel
theorem dX8_by_112 : decode cX8_by 112 = .ok (.istore 6, 2) := by decide +kernel
theorem dX8_by_114 : decode cX8_by 114 = .ok (.iconst 0, 1) := by decide +kernel
theorem dX8_by_115 : decode cX8_by 115 = .ok (.istore 7, 2) := by decide +kernel
theorem dX8_by_117 : decode cX8_by 117 = .ok (.iload 7, 2) := by decide +kernel
theorem dX8_by_119 : decode cX8_by 119 = .ok (.bipush 99, 2) := by decide +kernel
theorem dX8_by_121 : decode cX8_by 121 = .ok (.if_icmp .ge 23, 3) := by decide +kernel
theorem dX8_by_124 : decode cX8_by 124 = .ok (.aload_n 0, 1) := by decide +kernel
theorem dX8_by_125 : decode cX8_by 125 = .ok (.getfield 9, 3) := by decide +kernel
theorem dX8_by_128 : decode cX8_by 128 = .ok (.iload 7, 2) := by decide +kernel
theorem dX8_by_130 : decode cX8_by 130 = .ok (.aload_n 0, 1) := by decide +kernel
theorem dX8_by_131 : decode cX8_by 131 = .ok (.getfield 19, 3) := by decide +kernel
theorem dX8_by_134 : decode cX8_by 134 = .ok (.iload 7, 2) := by decide +kernel
theorem dX8_by_136 : decode cX8_by 136 = .ok (.iaload, 1) := by decide +kernel
theorem dX8_by_137 : decode cX8_by 137 = .ok (.iastore, 1) := by decide +kernel
theorem dX8_by_138 : decode cX8_by 138 = .ok (.iinc 7 1, 3) := by decide +kernel
theorem dX8_by_141 : decode cX8_by 141 = .ok (.goto (-24), 3) := by decide +kernel
theorem dX8_by_144 : decode cX8_by 144 = .ok (.iload 6, 2) := by decide +kernel
theorem dX8_by_146 : decode cX8_by 146 = .ok (.ifCond .ne 8, 3) := by decide +kernel
theorem dX8_by_149 : decode cX8_by 149 = .ok (.bipush (-4), 2) := by decide +kernel
theorem dX8_by_151 : decode cX8_by 151 = .ok (.goto 38, 3) := by decide +kernel
theorem dX8_by_154 : decode cX8_by 154 = .ok (.iload 4, 2) := by decide +kernel
theorem dX8_by_156 : decode cX8_by 156 = .ok (.ifCond .ne 10, 3) := by decide +kernel
theorem dX8_by_159 : decode cX8_by 159 = .ok (.aload_n 0, 1) := by decide +kernel
theorem dX8_by_160 : decode cX8_by 160 = .ok (.getfield 280, 3) := by decide +kernel
theorem dX8_by_163 : decode cX8_by 163 = .ok (.goto 26, 3) := by decide +kernel
theorem dX8_by_166 : decode cX8_by 166 = .ok (.iload 4, 2) := by decide +kernel
theorem dX8_by_168 : decode cX8_by 168 = .ok (.iconst 1, 1) := by decide +kernel
theorem dX8_by_169 : decode cX8_by 169 = .ok (.if_icmp .ne 16, 3) := by decide +kernel
theorem dX8_by_172 : decode cX8_by 172 = .ok (.aload_n 0, 1) := by decide +kernel
theorem dX8_by_173 : decode cX8_by 173 = .ok (.getfield 246, 3) := by decide +kernel
theorem dX8_by_176 : decode cX8_by 176 = .ok (.aload_n 0, 1) := by decide +kernel
theorem dX8_by_177 : decode cX8_by 177 = .ok (.iload_n 1, 1) := by decide +kernel
theorem dX8_by_178 : decode cX8_by 178 = .ok (.invokevirtual 149, 3) := by decide +kernel
theorem dX8_by_181 : decode cX8_by 181 = .ok (.isub, 1) := by decide +kernel
theorem dX8_by_182 : decode cX8_by 182 = .ok (.goto 7, 3) := by decide +kernel
theorem dX8_by_185 : decode cX8_by 185 = .ok (.aload_n 0, 1) := by decide +kernel
theorem dX8_by_186 : decode cX8_by 186 = .ok (.getfield 277, 3) := by decide +kernel
theorem dX8_by_189 : decode cX8_by 189 = .ok (.ireturn, 1) := by decide +kernel
theorem dX8_image_0 : decode cX8_image 0 = .ok (.iconst 0, 1) := by decide +kernel
theorem dX8_image_1 : decode cX8_image 1 = .ok (.istore_n 1, 1) := by decide +kernel
theorem dX8_image_2 : decode cX8_image 2 = .ok (.iload_n 1, 1) := by decide +kernel
theorem dX8_image_3 : decode cX8_image 3 = .ok (.bipush 99, 2) := by decide +kernel
theorem dX8_image_5 : decode cX8_image 5 = .ok (.if_icmp .ge 21, 3) := by decide +kernel
theorem dX8_image_8 : decode cX8_image 8 = .ok (.aload_n 0, 1) := by decide +kernel
theorem dX8_image_9 : decode cX8_image 9 = .ok (.getfield 13, 3) := by decide +kernel
theorem dX8_image_12 : decode cX8_image 12 = .ok (.iload_n 1, 1) := by decide +kernel
theorem dX8_image_13 : decode cX8_image 13 = .ok (.aload_n 0, 1) := by decide +kernel
theorem dX8_image_14 : decode cX8_image 14 = .ok (.getfield 9, 3) := by decide +kernel
theorem dX8_image_17 : decode cX8_image 17 = .ok (.iload_n 1, 1) := by decide +kernel
theorem dX8_image_18 : decode cX8_image 18 = .ok (.iaload, 1) := by decide +kernel
theorem dX8_image_19 : decode cX8_image 19 = .ok (.iastore, 1) := by decide +kernel
theorem dX8_image_20 : decode cX8_image 20 = .ok (.iinc 1 1, 3) := by decide +kernel
theorem dX8_image_23 : decode cX8_image 23 = .ok (.goto (-21), 3) := by decide +kernel
theorem dX8_image_26 : decode cX8_image 26 = .ok (.aload_n 0, 1) := by decide +kernel
theorem dX8_image_27 : decode cX8_image 27 = .ok (.iconst 1, 1) := by decide +kernel
theorem dX8_image_28 : decode cX8_image 28 = .ok (.putfield 296, 3) := by decide +kernel
theorem dX8_image_31 : decode cX8_image 31 = .ok (.aload_n 0, 1) := by decide +kernel
theorem dX8_image_32 : decode cX8_image 32 = .ok (.getfield 9, 3) := by decide +kernel
theorem dX8_image_35 : decode cX8_image 35 = .ok (.iconst 2, 1) := by decide +kernel
theorem dX8_image_36 : decode cX8_image 36 = .ok (.iaload, 1) := by decide +kernel
theorem dX8_image_37 : decode cX8_image 37 = .ok (.ireturn, 1) := by decide +kernel
theorem dX8_restore_0 : decode cX8_restore 0 = .ok (.aload_n 0, 1) := by decide +kernel
theorem dX8_restore_1 : decode cX8_restore 1 = .ok (.getfield 296, 3) := by decide +kernel
theorem dX8_restore_4 : decode cX8_restore 4 = .ok (.ifCond .ne 6, 3) := by decide +kernel
theorem dX8_restore_7 : decode cX8_restore 7 = .ok (.bipush (-3), 2) := by decide +kernel
theorem dX8_restore_9 : decode cX8_restore 9 = .ok (.ireturn, 1) := by decide +kernel
theorem dX8_restore_10 : decode cX8_restore 10 = .ok (.iconst 0, 1) := by decide +kernel
theorem dX8_restore_11 : decode cX8_restore 11 = .ok (.istore_n 1, 1) := by decide +kernel
theorem dX8_restore_12 : decode cX8_restore 12 = .ok (.iload_n 1, 1) := by decide +kernel
theorem dX8_restore_13 : decode cX8_restore 13 = .ok (.bipush 99, 2) := by decide +kernel
theorem dX8_restore_15 : decode cX8_restore 15 = .ok (.if_icmp .ge 21, 3) := by decide +kernel
theorem dX8_restore_18 : decode cX8_restore 18 = .ok (.aload_n 0, 1) := by decide +kernel
theorem dX8_restore_19 : decode cX8_restore 19 = .ok (.getfield 9, 3) := by decide +kernel
theorem dX8_restore_22 : decode cX8_restore 22 = .ok (.iload_n 1, 1) := by decide +kernel
theorem dX8_restore_23 : decode cX8_restore 23 = .ok (.aload_n 0, 1) := by decide +kernel
theorem dX8_restore_24 : decode cX8_restore 24 = .ok (.getfield 13, 3) := by decide +kernel
theorem dX8_restore_27 : decode cX8_restore 27 = .ok (.iload_n 1, 1) := by decide +kernel
theorem dX8_restore_28 : decode cX8_restore 28 = .ok (.iaload, 1) := by decide +kernel
theorem dX8_restore_29 : decode cX8_restore 29 = .ok (.iastore, 1) := by decide +kernel
theorem dX8_restore_30 : decode cX8_restore 30 = .ok (.iinc 1 1, 3) := by decide +kernel
theorem dX8_restore_33 : decode cX8_restore 33 = .ok (.goto (-21), 3) := by decide +kernel
theorem dX8_restore_36 : decode cX8_restore 36 = .ok (.aload_n 0, 1) := by decide +kernel
theorem dX8_restore_37 : decode cX8_restore 37 = .ok (.getfield 9, 3) := by decide +kernel
theorem dX8_restore_40 : decode cX8_restore 40 = .ok (.iconst 2, 1) := by decide +kernel
theorem dX8_restore_41 : decode cX8_restore 41 = .ok (.iaload, 1) := by decide +kernel
theorem dX8_restore_42 : decode cX8_restore 42 = .ok (.ireturn, 1) := by decide +kernel
set_option maxRecDepth 20000 in
theorem ggX8_count_X8_heapSize : GoodIn wsX8_count wsX8_heapSize := goodIn_r _ [6, 1, 7, 8, 9, 5, 10, 27, 28, 29, 30, 31, 32, 33, 34, 35, 36, 37, 38, 39, 40, 41, 42, 43, 44, 45, 46, 47, 48, 49, 50, 51, 52, 53, 54, 55, 56, 57, 58, 59, 60, 61, 62, 63] (by decide +kernel) (by decide +kernel)
set_option maxRecDepth 20000 in
theorem gX8_count_X8_heapSize : GoodIn wsX8_count (wsV RX8 258 RX8 yX8_heapSize wsX8_heapSize) := goodIn_app (goodIn_of _ (by decide +kernel)) ggX8_count_X8_heapSize
set_option maxRecDepth 20000 in
theorem ggX8_count_X8_isLaid : GoodIn wsX8_count wsX8_isLaid := goodIn_r _ [14, 15, 16, 17, 5, 18, 1, 27, 28, 29, 30, 31, 32, 33, 34, 35, 36, 37, 38, 39, 40, 41, 42, 43, 44, 45, 46, 47, 48, 49, 50, 51, 52, 53, 54, 55, 56, 57, 58, 59, 60, 61, 62, 63] (by decide +kernel) (by decide +kernel)
set_option maxRecDepth 20000 in
theorem gX8_count_X8_isLaid : GoodIn wsX8_count (wsV RX8 143 RX8 yX8_isLaid wsX8_isLaid) := goodIn_app (goodIn_of _ (by decide +kernel)) ggX8_count_X8_isLaid
set_option maxRecDepth 20000 in
theorem ggX8_count_X8_heapWorth : GoodIn wsX8_count wsX8_heapWorth := goodIn_r _ [22, 1, 7, 8, 9, 5, 10, 23, 24, 25, 26, 27, 28, 29, 30, 31, 32, 33, 34, 35, 36, 37, 38, 39, 40, 41, 42, 43, 44, 45, 46, 47, 48, 49, 50, 51, 52, 53, 54, 55, 56, 57, 58, 59, 60, 61, 62, 63] (by decide +kernel) (by decide +kernel)
set_option maxRecDepth 20000 in
theorem gX8_count_X8_heapWorth : GoodIn wsX8_count (wsV RX8 239 RX8 yX8_heapWorth wsX8_heapWorth) := goodIn_app (goodIn_of _ (by decide +kernel)) ggX8_count_X8_heapWorth
theorem dX8_count_0 : decode cX8_count 0 = .ok (.iconst 0, 1) := by decide +kernel
theorem dX8_count_1 : decode cX8_count 1 = .ok (.istore_n 2, 1) := by decide +kernel
theorem dX8_count_2 : decode cX8_count 2 = .ok (.iload_n 1, 1) := by decide +kernel
theorem dX8_count_3 : decode cX8_count 3 = .ok (.tableswitch 104 0 5 #[37, 44, 51, 58, 63, 99], 37) := by decide +kernel
theorem dX8_count_40 : decode cX8_count 40 = .ok (.aload_n 0, 1) := by decide +kernel
theorem dX8_count_41 : decode cX8_count 41 = .ok (.getfield 9, 3) := by decide +kernel
theorem dX8_count_44 : decode cX8_count 44 = .ok (.iconst 1, 1) := by decide +kernel
theorem dX8_count_45 : decode cX8_count 45 = .ok (.iaload, 1) := by decide +kernel
theorem dX8_count_46 : decode cX8_count 46 = .ok (.ireturn, 1) := by decide +kernel
theorem dX8_count_47 : decode cX8_count 47 = .ok (.aload_n 0, 1) := by decide +kernel
theorem dX8_count_48 : decode cX8_count 48 = .ok (.getfield 9, 3) := by decide +kernel
theorem dX8_count_51 : decode cX8_count 51 = .ok (.iconst 2, 1) := by decide +kernel
theorem dX8_count_52 : decode cX8_count 52 = .ok (.iaload, 1) := by decide +kernel
theorem dX8_count_53 : decode cX8_count 53 = .ok (.ireturn, 1) := by decide +kernel
theorem dX8_count_54 : decode cX8_count 54 = .ok (.aload_n 0, 1) := by decide +kernel
theorem dX8_count_55 : decode cX8_count 55 = .ok (.getfield 9, 3) := by decide +kernel
theorem dX8_count_58 : decode cX8_count 58 = .ok (.iconst 0, 1) := by decide +kernel
theorem dX8_count_59 : decode cX8_count 59 = .ok (.iaload, 1) := by decide +kernel
theorem dX8_count_60 : decode cX8_count 60 = .ok (.ireturn, 1) := by decide +kernel
theorem dX8_count_61 : decode cX8_count 61 = .ok (.aload_n 0, 1) := by decide +kernel
theorem dX8_count_62 : decode cX8_count 62 = .ok (.invokevirtual 258, 3) := by decide +kernel
theorem dX8_count_65 : decode cX8_count 65 = .ok (.ireturn, 1) := by decide +kernel
theorem dX8_count_66 : decode cX8_count 66 = .ok (.iconst 0, 1) := by decide +kernel
theorem dX8_count_67 : decode cX8_count 67 = .ok (.istore_n 3, 1) := by decide +kernel
theorem dX8_count_68 : decode cX8_count 68 = .ok (.iload_n 3, 1) := by decide +kernel
theorem dX8_count_69 : decode cX8_count 69 = .ok (.aload_n 0, 1) := by decide +kernel
theorem dX8_count_70 : decode cX8_count 70 = .ok (.getfield 9, 3) := by decide +kernel
theorem dX8_count_73 : decode cX8_count 73 = .ok (.iconst 2, 1) := by decide +kernel
theorem dX8_count_74 : decode cX8_count 74 = .ok (.iaload, 1) := by decide +kernel
theorem dX8_count_75 : decode cX8_count 75 = .ok (.if_icmp .ge 25, 3) := by decide +kernel
theorem dX8_count_78 : decode cX8_count 78 = .ok (.iload_n 2, 1) := by decide +kernel
theorem dX8_count_79 : decode cX8_count 79 = .ok (.aload_n 0, 1) := by decide +kernel
theorem dX8_count_80 : decode cX8_count 80 = .ok (.iload_n 3, 1) := by decide +kernel
theorem dX8_count_81 : decode cX8_count 81 = .ok (.invokevirtual 143, 3) := by decide +kernel
theorem dX8_count_84 : decode cX8_count 84 = .ok (.ifCond .eq 7, 3) := by decide +kernel
theorem dX8_count_87 : decode cX8_count 87 = .ok (.iconst 1, 1) := by decide +kernel
theorem dX8_count_88 : decode cX8_count 88 = .ok (.goto 4, 3) := by decide +kernel
theorem dX8_count_91 : decode cX8_count 91 = .ok (.iconst 0, 1) := by decide +kernel
theorem dX8_count_92 : decode cX8_count 92 = .ok (.iadd, 1) := by decide +kernel
theorem dX8_count_93 : decode cX8_count 93 = .ok (.istore_n 2, 1) := by decide +kernel
theorem dX8_count_94 : decode cX8_count 94 = .ok (.iinc 3 1, 3) := by decide +kernel
theorem dX8_count_97 : decode cX8_count 97 = .ok (.goto (-29), 3) := by decide +kernel
theorem dX8_count_100 : decode cX8_count 100 = .ok (.iload_n 2, 1) := by decide +kernel
theorem dX8_count_101 : decode cX8_count 101 = .ok (.ireturn, 1) := by decide +kernel
theorem dX8_count_102 : decode cX8_count 102 = .ok (.aload_n 0, 1) := by decide +kernel
theorem dX8_count_103 : decode cX8_count 103 = .ok (.invokevirtual 239, 3) := by decide +kernel
theorem dX8_count_106 : decode cX8_count 106 = .ok (.ireturn, 1) := by decide +kernel
theorem dX8_count_107 : decode cX8_count 107 = .ok (.iconst (-1), 1) := by decide +kernel
theorem dX8_count_108 : decode cX8_count 108 = .ok (.ireturn, 1) := by decide +kernel
set_option maxRecDepth 20000 in
theorem ggX8_keep_X8_isShelf : GoodIn wsX8_keep wsX8_isShelf := goodIn_r _ [9, 10, 11, 12, 8, 13] (by decide +kernel) (by decide +kernel)
set_option maxRecDepth 20000 in
theorem gX8_keep_X8_isShelf : GoodIn wsX8_keep (va_wsS RX8 112 yX8_isShelf wsX8_isShelf) := goodIn_app (goodIn_of _ (by decide +kernel)) ggX8_keep_X8_isShelf
set_option maxRecDepth 20000 in
theorem ggX8_keep_X8_isIn : GoodIn wsX8_keep wsX8_isIn := goodIn_r _ [13] (by decide +kernel) (by decide +kernel)
set_option maxRecDepth 20000 in
theorem gX8_keep_X8_isIn : GoodIn wsX8_keep (va_wsS RX8 63 yX8_isIn wsX8_isIn) := goodIn_app (goodIn_of _ (by decide +kernel)) ggX8_keep_X8_isIn
theorem dX8_keep_0 : decode cX8_keep 0 = .ok (.iload_n 1, 1) := by decide +kernel
theorem dX8_keep_1 : decode cX8_keep 1 = .ok (.invokestatic 112, 3) := by decide +kernel
theorem dX8_keep_4 : decode cX8_keep 4 = .ok (.ifCond .eq 43, 3) := by decide +kernel
theorem dX8_keep_7 : decode cX8_keep 7 = .ok (.iload_n 2, 1) := by decide +kernel
theorem dX8_keep_8 : decode cX8_keep 8 = .ok (.i2l, 1) := by decide +kernel
theorem dX8_keep_9 : decode cX8_keep 9 = .ok (.lconst 0, 1) := by decide +kernel
theorem dX8_keep_10 : decode cX8_keep 10 = .ok (.lconst 1, 1) := by decide +kernel
theorem dX8_keep_11 : decode cX8_keep 11 = .ok (.invokestatic 63, 3) := by decide +kernel
theorem dX8_keep_14 : decode cX8_keep 14 = .ok (.ifCond .eq 33, 3) := by decide +kernel
theorem dX8_keep_17 : decode cX8_keep 17 = .ok (.iload_n 2, 1) := by decide +kernel
theorem dX8_keep_18 : decode cX8_keep 18 = .ok (.iconst 1, 1) := by decide +kernel
theorem dX8_keep_19 : decode cX8_keep 19 = .ok (.if_icmp .ne 30, 3) := by decide +kernel
theorem dX8_keep_22 : decode cX8_keep 22 = .ok (.iload_n 3, 1) := by decide +kernel
theorem dX8_keep_23 : decode cX8_keep 23 = .ok (.i2l, 1) := by decide +kernel
theorem dX8_keep_24 : decode cX8_keep 24 = .ok (.lconst 0, 1) := by decide +kernel
theorem dX8_keep_25 : decode cX8_keep 25 = .ok (.ldc2_w 300, 3) := by decide +kernel
theorem dX8_keep_28 : decode cX8_keep 28 = .ok (.invokestatic 63, 3) := by decide +kernel
theorem dX8_keep_31 : decode cX8_keep 31 = .ok (.ifCond .eq 16, 3) := by decide +kernel
theorem dX8_keep_34 : decode cX8_keep 34 = .ok (.iload 4, 2) := by decide +kernel
theorem dX8_keep_36 : decode cX8_keep 36 = .ok (.i2l, 1) := by decide +kernel
theorem dX8_keep_37 : decode cX8_keep 37 = .ok (.lconst 0, 1) := by decide +kernel
theorem dX8_keep_38 : decode cX8_keep 38 = .ok (.ldc2_w 302, 3) := by decide +kernel
theorem dX8_keep_41 : decode cX8_keep 41 = .ok (.invokestatic 63, 3) := by decide +kernel
theorem dX8_keep_44 : decode cX8_keep 44 = .ok (.ifCond .ne 5, 3) := by decide +kernel
theorem dX8_keep_47 : decode cX8_keep 47 = .ok (.iconst (-1), 1) := by decide +kernel
theorem dX8_keep_48 : decode cX8_keep 48 = .ok (.ireturn, 1) := by decide +kernel
theorem dX8_keep_49 : decode cX8_keep 49 = .ok (.aload_n 0, 1) := by decide +kernel
theorem dX8_keep_50 : decode cX8_keep 50 = .ok (.getfield 22, 3) := by decide +kernel
theorem dX8_keep_53 : decode cX8_keep 53 = .ok (.iload_n 1, 1) := by decide +kernel
theorem dX8_keep_54 : decode cX8_keep 54 = .ok (.iload_n 2, 1) := by decide +kernel
theorem dX8_keep_55 : decode cX8_keep 55 = .ok (.iastore, 1) := by decide +kernel
theorem dX8_keep_56 : decode cX8_keep 56 = .ok (.aload_n 0, 1) := by decide +kernel
theorem dX8_keep_57 : decode cX8_keep 57 = .ok (.getfield 34, 3) := by decide +kernel
theorem dX8_keep_60 : decode cX8_keep 60 = .ok (.iload_n 1, 1) := by decide +kernel
theorem dX8_keep_61 : decode cX8_keep 61 = .ok (.iload_n 3, 1) := by decide +kernel
theorem dX8_keep_62 : decode cX8_keep 62 = .ok (.iastore, 1) := by decide +kernel
theorem dX8_keep_63 : decode cX8_keep 63 = .ok (.aload_n 0, 1) := by decide +kernel
theorem dX8_keep_64 : decode cX8_keep 64 = .ok (.getfield 37, 3) := by decide +kernel
theorem dX8_keep_67 : decode cX8_keep 67 = .ok (.iload_n 1, 1) := by decide +kernel
theorem dX8_keep_68 : decode cX8_keep 68 = .ok (.iload 4, 2) := by decide +kernel
theorem dX8_keep_70 : decode cX8_keep 70 = .ok (.iastore, 1) := by decide +kernel
theorem dX8_keep_71 : decode cX8_keep 71 = .ok (.iconst 0, 1) := by decide +kernel
theorem dX8_keep_72 : decode cX8_keep 72 = .ok (.ireturn, 1) := by decide +kernel
set_option maxRecDepth 20000 in
theorem ggX8_row_X8_isShelf : GoodIn wsX8_row wsX8_isShelf := goodIn_r _ [9, 10, 11, 12, 8, 13] (by decide +kernel) (by decide +kernel)
set_option maxRecDepth 20000 in
theorem gX8_row_X8_isShelf : GoodIn wsX8_row (va_wsS RX8 112 yX8_isShelf wsX8_isShelf) := goodIn_app (goodIn_of _ (by decide +kernel)) ggX8_row_X8_isShelf
set_option maxRecDepth 20000 in
theorem ggX8_row_X8_isIn : GoodIn wsX8_row wsX8_isIn := goodIn_r _ [13] (by decide +kernel) (by decide +kernel)
set_option maxRecDepth 20000 in
theorem gX8_row_X8_isIn : GoodIn wsX8_row (va_wsS RX8 63 yX8_isIn wsX8_isIn) := goodIn_app (goodIn_of _ (by decide +kernel)) ggX8_row_X8_isIn
theorem dX8_row_0 : decode cX8_row 0 = .ok (.iload_n 1, 1) := by decide +kernel
theorem dX8_row_1 : decode cX8_row 1 = .ok (.invokestatic 112, 3) := by decide +kernel
theorem dX8_row_4 : decode cX8_row 4 = .ok (.ifCond .eq 21, 3) := by decide +kernel
theorem dX8_row_7 : decode cX8_row 7 = .ok (.iload_n 2, 1) := by decide +kernel
theorem dX8_row_8 : decode cX8_row 8 = .ok (.i2l, 1) := by decide +kernel
theorem dX8_row_9 : decode cX8_row 9 = .ok (.lconst 0, 1) := by decide +kernel
theorem dX8_row_10 : decode cX8_row 10 = .ok (.ldc2_w 128, 3) := by decide +kernel
theorem dX8_row_13 : decode cX8_row 13 = .ok (.invokestatic 63, 3) := by decide +kernel
theorem dX8_row_16 : decode cX8_row 16 = .ok (.ifCond .eq 9, 3) := by decide +kernel
theorem dX8_row_19 : decode cX8_row 19 = .ok (.iload_n 3, 1) := by decide +kernel
theorem dX8_row_20 : decode cX8_row 20 = .ok (.bipush 100, 2) := by decide +kernel
theorem dX8_row_22 : decode cX8_row 22 = .ok (.if_icmp .le 5, 3) := by decide +kernel
theorem dX8_row_25 : decode cX8_row 25 = .ok (.iconst (-1), 1) := by decide +kernel
theorem dX8_row_26 : decode cX8_row 26 = .ok (.ireturn, 1) := by decide +kernel
theorem dX8_row_27 : decode cX8_row 27 = .ok (.iload_n 3, 1) := by decide +kernel
theorem dX8_row_28 : decode cX8_row 28 = .ok (.ifCond .ge 6, 3) := by decide +kernel
theorem dX8_row_31 : decode cX8_row 31 = .ok (.bipush (-14), 2) := by decide +kernel
theorem dX8_row_33 : decode cX8_row 33 = .ok (.ireturn, 1) := by decide +kernel
theorem dX8_row_34 : decode cX8_row 34 = .ok (.aload_n 0, 1) := by decide +kernel
theorem dX8_row_35 : decode cX8_row 35 = .ok (.getfield 22, 3) := by decide +kernel
theorem dX8_row_38 : decode cX8_row 38 = .ok (.iload_n 1, 1) := by decide +kernel
theorem dX8_row_39 : decode cX8_row 39 = .ok (.iconst 2, 1) := by decide +kernel
theorem dX8_row_40 : decode cX8_row 40 = .ok (.iastore, 1) := by decide +kernel
theorem dX8_row_41 : decode cX8_row 41 = .ok (.aload_n 0, 1) := by decide +kernel
theorem dX8_row_42 : decode cX8_row 42 = .ok (.getfield 25, 3) := by decide +kernel
theorem dX8_row_45 : decode cX8_row 45 = .ok (.iload_n 1, 1) := by decide +kernel
theorem dX8_row_46 : decode cX8_row 46 = .ok (.iload_n 2, 1) := by decide +kernel
theorem dX8_row_47 : decode cX8_row 47 = .ok (.iastore, 1) := by decide +kernel
theorem dX8_row_48 : decode cX8_row 48 = .ok (.aload_n 0, 1) := by decide +kernel
theorem dX8_row_49 : decode cX8_row 49 = .ok (.getfield 28, 3) := by decide +kernel
theorem dX8_row_52 : decode cX8_row 52 = .ok (.iload_n 1, 1) := by decide +kernel
theorem dX8_row_53 : decode cX8_row 53 = .ok (.iload_n 3, 1) := by decide +kernel
theorem dX8_row_54 : decode cX8_row 54 = .ok (.iastore, 1) := by decide +kernel
theorem dX8_row_55 : decode cX8_row 55 = .ok (.iconst 0, 1) := by decide +kernel
theorem dX8_row_56 : decode cX8_row 56 = .ok (.istore 4, 2) := by decide +kernel
theorem dX8_row_58 : decode cX8_row 58 = .ok (.iload 4, 2) := by decide +kernel
theorem dX8_row_60 : decode cX8_row 60 = .ok (.bipush 100, 2) := by decide +kernel
theorem dX8_row_62 : decode cX8_row 62 = .ok (.if_icmp .ge 22, 3) := by decide +kernel
theorem dX8_row_65 : decode cX8_row 65 = .ok (.aload_n 0, 1) := by decide +kernel
theorem dX8_row_66 : decode cX8_row 66 = .ok (.getfield 31, 3) := by decide +kernel
theorem dX8_row_69 : decode cX8_row 69 = .ok (.bipush 100, 2) := by decide +kernel
theorem dX8_row_71 : decode cX8_row 71 = .ok (.iload_n 1, 1) := by decide +kernel
theorem dX8_row_72 : decode cX8_row 72 = .ok (.imul, 1) := by decide +kernel
theorem dX8_row_73 : decode cX8_row 73 = .ok (.iload 4, 2) := by decide +kernel
theorem dX8_row_75 : decode cX8_row 75 = .ok (.iadd, 1) := by decide +kernel
theorem dX8_row_76 : decode cX8_row 76 = .ok (.iconst 0, 1) := by decide +kernel
theorem dX8_row_77 : decode cX8_row 77 = .ok (.iastore, 1) := by decide +kernel
theorem dX8_row_78 : decode cX8_row 78 = .ok (.iinc 4 1, 3) := by decide +kernel
theorem dX8_row_81 : decode cX8_row 81 = .ok (.goto (-23), 3) := by decide +kernel
theorem dX8_row_84 : decode cX8_row 84 = .ok (.iconst 0, 1) := by decide +kernel
theorem dX8_row_85 : decode cX8_row 85 = .ok (.ireturn, 1) := by decide +kernel
set_option maxRecDepth 20000 in
theorem ggX8_put_X8_wrongRow : GoodIn wsX8_put wsX8_wrongRow := goodIn_r _ [8, 9, 3, 10, 11, 7, 12, 13, 14, 15, 16, 17, 18, 19, 20, 21, 22, 23, 24, 25, 26, 27, 28, 29, 30, 31, 32, 33, 34, 35, 36, 37, 38, 39, 40, 41, 42, 43, 44, 45, 46, 47, 48, 49, 50, 51, 52, 53] (by decide +kernel) (by decide +kernel)
set_option maxRecDepth 20000 in
theorem gX8_put_X8_wrongRow : GoodIn wsX8_put (wsV RX8 115 RX8 yX8_wrongRow wsX8_wrongRow) := goodIn_app (goodIn_of _ (by decide +kernel)) ggX8_put_X8_wrongRow
set_option maxRecDepth 20000 in
theorem ggX8_put_X8_isIn : GoodIn wsX8_put wsX8_isIn := goodIn_r _ [16] (by decide +kernel) (by decide +kernel)
set_option maxRecDepth 20000 in
theorem gX8_put_X8_isIn : GoodIn wsX8_put (va_wsS RX8 63 yX8_isIn wsX8_isIn) := goodIn_app (goodIn_of _ (by decide +kernel)) ggX8_put_X8_isIn
theorem dX8_put_0 : decode cX8_put 0 = .ok (.aload_n 0, 1) := by decide +kernel
theorem dX8_put_1 : decode cX8_put 1 = .ok (.iload_n 1, 1) := by decide +kernel
theorem dX8_put_2 : decode cX8_put 2 = .ok (.iconst (-1), 1) := by decide +kernel
theorem dX8_put_3 : decode cX8_put 3 = .ok (.invokevirtual 115, 3) := by decide +kernel
theorem dX8_put_6 : decode cX8_put 6 = .ok (.istore 4, 2) := by decide +kernel
theorem dX8_put_8 : decode cX8_put 8 = .ok (.iload 4, 2) := by decide +kernel
theorem dX8_put_10 : decode cX8_put 10 = .ok (.ifCond .eq 6, 3) := by decide +kernel
theorem dX8_put_13 : decode cX8_put 13 = .ok (.iload 4, 2) := by decide +kernel
theorem dX8_put_15 : decode cX8_put 15 = .ok (.ireturn, 1) := by decide +kernel
theorem dX8_put_16 : decode cX8_put 16 = .ok (.iload_n 2, 1) := by decide +kernel
theorem dX8_put_17 : decode cX8_put 17 = .ok (.i2l, 1) := by decide +kernel
theorem dX8_put_18 : decode cX8_put 18 = .ok (.lconst 0, 1) := by decide +kernel
theorem dX8_put_19 : decode cX8_put 19 = .ok (.aload_n 0, 1) := by decide +kernel
theorem dX8_put_20 : decode cX8_put 20 = .ok (.getfield 28, 3) := by decide +kernel
theorem dX8_put_23 : decode cX8_put 23 = .ok (.iload_n 1, 1) := by decide +kernel
theorem dX8_put_24 : decode cX8_put 24 = .ok (.iaload, 1) := by decide +kernel
theorem dX8_put_25 : decode cX8_put 25 = .ok (.iconst 1, 1) := by decide +kernel
theorem dX8_put_26 : decode cX8_put 26 = .ok (.isub, 1) := by decide +kernel
theorem dX8_put_27 : decode cX8_put 27 = .ok (.i2l, 1) := by decide +kernel
theorem dX8_put_28 : decode cX8_put 28 = .ok (.invokestatic 63, 3) := by decide +kernel
theorem dX8_put_31 : decode cX8_put 31 = .ok (.ifCond .ne 6, 3) := by decide +kernel
theorem dX8_put_34 : decode cX8_put 34 = .ok (.bipush (-13), 2) := by decide +kernel
theorem dX8_put_36 : decode cX8_put 36 = .ok (.ireturn, 1) := by decide +kernel
theorem dX8_put_37 : decode cX8_put 37 = .ok (.aload_n 0, 1) := by decide +kernel
theorem dX8_put_38 : decode cX8_put 38 = .ok (.getfield 31, 3) := by decide +kernel
theorem dX8_put_41 : decode cX8_put 41 = .ok (.bipush 100, 2) := by decide +kernel
theorem dX8_put_43 : decode cX8_put 43 = .ok (.iload_n 1, 1) := by decide +kernel
theorem dX8_put_44 : decode cX8_put 44 = .ok (.imul, 1) := by decide +kernel
theorem dX8_put_45 : decode cX8_put 45 = .ok (.iload_n 2, 1) := by decide +kernel
theorem dX8_put_46 : decode cX8_put 46 = .ok (.iadd, 1) := by decide +kernel
theorem dX8_put_47 : decode cX8_put 47 = .ok (.aload_n 0, 1) := by decide +kernel
theorem dX8_put_48 : decode cX8_put 48 = .ok (.getfield 25, 3) := by decide +kernel
theorem dX8_put_51 : decode cX8_put 51 = .ok (.iload_n 1, 1) := by decide +kernel
theorem dX8_put_52 : decode cX8_put 52 = .ok (.iaload, 1) := by decide +kernel
theorem dX8_put_53 : decode cX8_put 53 = .ok (.ifCond .ne 8, 3) := by decide +kernel
theorem dX8_put_56 : decode cX8_put 56 = .ok (.iload_n 3, 1) := by decide +kernel
theorem dX8_put_57 : decode cX8_put 57 = .ok (.i2b, 1) := by decide +kernel
theorem dX8_put_58 : decode cX8_put 58 = .ok (.goto 19, 3) := by decide +kernel
theorem dX8_put_61 : decode cX8_put 61 = .ok (.aload_n 0, 1) := by decide +kernel
theorem dX8_put_62 : decode cX8_put 62 = .ok (.getfield 25, 3) := by decide +kernel
theorem dX8_put_65 : decode cX8_put 65 = .ok (.iload_n 1, 1) := by decide +kernel
theorem dX8_put_66 : decode cX8_put 66 = .ok (.iaload, 1) := by decide +kernel
theorem dX8_put_67 : decode cX8_put 67 = .ok (.iconst 1, 1) := by decide +kernel
theorem dX8_put_68 : decode cX8_put 68 = .ok (.if_icmp .ne 8, 3) := by decide +kernel
theorem dX8_put_71 : decode cX8_put 71 = .ok (.iload_n 3, 1) := by decide +kernel
theorem dX8_put_72 : decode cX8_put 72 = .ok (.i2s, 1) := by decide +kernel
theorem dX8_put_73 : decode cX8_put 73 = .ok (.goto 4, 3) := by decide +kernel
theorem dX8_put_76 : decode cX8_put 76 = .ok (.iload_n 3, 1) := by decide +kernel
theorem dX8_put_77 : decode cX8_put 77 = .ok (.iastore, 1) := by decide +kernel
theorem dX8_put_78 : decode cX8_put 78 = .ok (.iconst 0, 1) := by decide +kernel
theorem dX8_put_79 : decode cX8_put 79 = .ok (.ireturn, 1) := by decide +kernel
set_option maxRecDepth 20000 in
theorem ggX8_element_X8_isShelf : GoodIn wsX8_element wsX8_isShelf := goodIn_r _ [8, 9, 10, 11, 7, 12] (by decide +kernel) (by decide +kernel)
set_option maxRecDepth 20000 in
theorem gX8_element_X8_isShelf : GoodIn wsX8_element (va_wsS RX8 112 yX8_isShelf wsX8_isShelf) := goodIn_app (goodIn_of _ (by decide +kernel)) ggX8_element_X8_isShelf
set_option maxRecDepth 20000 in
theorem ggX8_element_X8_isIn : GoodIn wsX8_element wsX8_isIn := goodIn_r _ [12] (by decide +kernel) (by decide +kernel)
set_option maxRecDepth 20000 in
theorem gX8_element_X8_isIn : GoodIn wsX8_element (va_wsS RX8 63 yX8_isIn wsX8_isIn) := goodIn_app (goodIn_of _ (by decide +kernel)) ggX8_element_X8_isIn
theorem dX8_element_0 : decode cX8_element 0 = .ok (.aload_n 0, 1) := by decide +kernel
theorem dX8_element_1 : decode cX8_element 1 = .ok (.iload_n 1, 1) := by decide +kernel
theorem dX8_element_2 : decode cX8_element 2 = .ok (.invokestatic 112, 3) := by decide +kernel
theorem dX8_element_5 : decode cX8_element 5 = .ok (.ifCond .ne 7, 3) := by decide +kernel
theorem dX8_element_8 : decode cX8_element 8 = .ok (.iconst 1, 1) := by decide +kernel
theorem dX8_element_9 : decode cX8_element 9 = .ok (.goto 36, 3) := by decide +kernel
theorem dX8_element_12 : decode cX8_element 12 = .ok (.aload_n 0, 1) := by decide +kernel
theorem dX8_element_13 : decode cX8_element 13 = .ok (.getfield 22, 3) := by decide +kernel
theorem dX8_element_16 : decode cX8_element 16 = .ok (.iload_n 1, 1) := by decide +kernel
theorem dX8_element_17 : decode cX8_element 17 = .ok (.iaload, 1) := by decide +kernel
theorem dX8_element_18 : decode cX8_element 18 = .ok (.iconst 2, 1) := by decide +kernel
theorem dX8_element_19 : decode cX8_element 19 = .ok (.if_icmp .ne 21, 3) := by decide +kernel
theorem dX8_element_22 : decode cX8_element 22 = .ok (.iload_n 2, 1) := by decide +kernel
theorem dX8_element_23 : decode cX8_element 23 = .ok (.i2l, 1) := by decide +kernel
theorem dX8_element_24 : decode cX8_element 24 = .ok (.lconst 0, 1) := by decide +kernel
theorem dX8_element_25 : decode cX8_element 25 = .ok (.aload_n 0, 1) := by decide +kernel
theorem dX8_element_26 : decode cX8_element 26 = .ok (.getfield 28, 3) := by decide +kernel
theorem dX8_element_29 : decode cX8_element 29 = .ok (.iload_n 1, 1) := by decide +kernel
theorem dX8_element_30 : decode cX8_element 30 = .ok (.iaload, 1) := by decide +kernel
theorem dX8_element_31 : decode cX8_element 31 = .ok (.iconst 1, 1) := by decide +kernel
theorem dX8_element_32 : decode cX8_element 32 = .ok (.isub, 1) := by decide +kernel
theorem dX8_element_33 : decode cX8_element 33 = .ok (.i2l, 1) := by decide +kernel
theorem dX8_element_34 : decode cX8_element 34 = .ok (.invokestatic 63, 3) := by decide +kernel
theorem dX8_element_37 : decode cX8_element 37 = .ok (.ifCond .ne 7, 3) := by decide +kernel
theorem dX8_element_40 : decode cX8_element 40 = .ok (.iconst 2, 1) := by decide +kernel
theorem dX8_element_41 : decode cX8_element 41 = .ok (.goto 4, 3) := by decide +kernel
theorem dX8_element_44 : decode cX8_element 44 = .ok (.iconst 0, 1) := by decide +kernel
theorem dX8_element_45 : decode cX8_element 45 = .ok (.putfield 59, 3) := by decide +kernel
theorem dX8_element_48 : decode cX8_element 48 = .ok (.aload_n 0, 1) := by decide +kernel
theorem dX8_element_49 : decode cX8_element 49 = .ok (.getfield 59, 3) := by decide +kernel
theorem dX8_element_52 : decode cX8_element 52 = .ok (.ifCond .ne 18, 3) := by decide +kernel
theorem dX8_element_55 : decode cX8_element 55 = .ok (.aload_n 0, 1) := by decide +kernel
theorem dX8_element_56 : decode cX8_element 56 = .ok (.getfield 31, 3) := by decide +kernel
theorem dX8_element_59 : decode cX8_element 59 = .ok (.bipush 100, 2) := by decide +kernel
theorem dX8_element_61 : decode cX8_element 61 = .ok (.iload_n 1, 1) := by decide +kernel
theorem dX8_element_62 : decode cX8_element 62 = .ok (.imul, 1) := by decide +kernel
theorem dX8_element_63 : decode cX8_element 63 = .ok (.iload_n 2, 1) := by decide +kernel
theorem dX8_element_64 : decode cX8_element 64 = .ok (.iadd, 1) := by decide +kernel
theorem dX8_element_65 : decode cX8_element 65 = .ok (.iaload, 1) := by decide +kernel
theorem dX8_element_66 : decode cX8_element 66 = .ok (.i2l, 1) := by decide +kernel
theorem dX8_element_67 : decode cX8_element 67 = .ok (.goto 4, 3) := by decide +kernel
theorem dX8_element_70 : decode cX8_element 70 = .ok (.lconst 0, 1) := by decide +kernel
theorem dX8_element_71 : decode cX8_element 71 = .ok (.lreturn, 1) := by decide +kernel
set_option maxRecDepth 20000 in
theorem ggX8_copy_X8_isShelf : GoodIn wsX8_copy wsX8_isShelf := goodIn_r _ [8, 9, 10, 11, 7, 12] (by decide +kernel) (by decide +kernel)
set_option maxRecDepth 20000 in
theorem gX8_copy_X8_isShelf : GoodIn wsX8_copy (va_wsS RX8 112 yX8_isShelf wsX8_isShelf) := goodIn_app (goodIn_of _ (by decide +kernel)) ggX8_copy_X8_isShelf
theorem dX8_copy_0 : decode cX8_copy 0 = .ok (.iload_n 1, 1) := by decide +kernel
theorem dX8_copy_1 : decode cX8_copy 1 = .ok (.invokestatic 112, 3) := by decide +kernel
theorem dX8_copy_4 : decode cX8_copy 4 = .ok (.ifCond .eq 10, 3) := by decide +kernel
theorem dX8_copy_7 : decode cX8_copy 7 = .ok (.iload_n 3, 1) := by decide +kernel
theorem dX8_copy_8 : decode cX8_copy 8 = .ok (.invokestatic 112, 3) := by decide +kernel
theorem dX8_copy_11 : decode cX8_copy 11 = .ok (.ifCond .ne 5, 3) := by decide +kernel
theorem dX8_copy_14 : decode cX8_copy 14 = .ok (.iconst (-1), 1) := by decide +kernel
theorem dX8_copy_15 : decode cX8_copy 15 = .ok (.ireturn, 1) := by decide +kernel
theorem dX8_copy_16 : decode cX8_copy 16 = .ok (.aload_n 0, 1) := by decide +kernel
theorem dX8_copy_17 : decode cX8_copy 17 = .ok (.getfield 22, 3) := by decide +kernel
theorem dX8_copy_20 : decode cX8_copy 20 = .ok (.iload_n 1, 1) := by decide +kernel
theorem dX8_copy_21 : decode cX8_copy 21 = .ok (.iaload, 1) := by decide +kernel
theorem dX8_copy_22 : decode cX8_copy 22 = .ok (.ifCond .eq 12, 3) := by decide +kernel
theorem dX8_copy_25 : decode cX8_copy 25 = .ok (.aload_n 0, 1) := by decide +kernel
theorem dX8_copy_26 : decode cX8_copy 26 = .ok (.getfield 22, 3) := by decide +kernel
theorem dX8_copy_29 : decode cX8_copy 29 = .ok (.iload_n 3, 1) := by decide +kernel
theorem dX8_copy_30 : decode cX8_copy 30 = .ok (.iaload, 1) := by decide +kernel
theorem dX8_copy_31 : decode cX8_copy 31 = .ok (.ifCond .ne 6, 3) := by decide +kernel
theorem dX8_copy_34 : decode cX8_copy 34 = .ok (.bipush (-11), 2) := by decide +kernel
theorem dX8_copy_36 : decode cX8_copy 36 = .ok (.ireturn, 1) := by decide +kernel
theorem dX8_copy_37 : decode cX8_copy 37 = .ok (.aload_n 0, 1) := by decide +kernel
theorem dX8_copy_38 : decode cX8_copy 38 = .ok (.getfield 22, 3) := by decide +kernel
theorem dX8_copy_41 : decode cX8_copy 41 = .ok (.iload_n 1, 1) := by decide +kernel
theorem dX8_copy_42 : decode cX8_copy 42 = .ok (.iaload, 1) := by decide +kernel
theorem dX8_copy_43 : decode cX8_copy 43 = .ok (.iconst 2, 1) := by decide +kernel
theorem dX8_copy_44 : decode cX8_copy 44 = .ok (.if_icmp .ne 28, 3) := by decide +kernel
theorem dX8_copy_47 : decode cX8_copy 47 = .ok (.aload_n 0, 1) := by decide +kernel
theorem dX8_copy_48 : decode cX8_copy 48 = .ok (.getfield 22, 3) := by decide +kernel
theorem dX8_copy_51 : decode cX8_copy 51 = .ok (.iload_n 3, 1) := by decide +kernel
theorem dX8_copy_52 : decode cX8_copy 52 = .ok (.iaload, 1) := by decide +kernel
theorem dX8_copy_53 : decode cX8_copy 53 = .ok (.iconst 2, 1) := by decide +kernel
theorem dX8_copy_54 : decode cX8_copy 54 = .ok (.if_icmp .ne 18, 3) := by decide +kernel
theorem dX8_copy_57 : decode cX8_copy 57 = .ok (.aload_n 0, 1) := by decide +kernel
theorem dX8_copy_58 : decode cX8_copy 58 = .ok (.getfield 25, 3) := by decide +kernel
theorem dX8_copy_61 : decode cX8_copy 61 = .ok (.iload_n 1, 1) := by decide +kernel
theorem dX8_copy_62 : decode cX8_copy 62 = .ok (.iaload, 1) := by decide +kernel
theorem dX8_copy_63 : decode cX8_copy 63 = .ok (.aload_n 0, 1) := by decide +kernel
theorem dX8_copy_64 : decode cX8_copy 64 = .ok (.getfield 25, 3) := by decide +kernel
theorem dX8_copy_67 : decode cX8_copy 67 = .ok (.iload_n 3, 1) := by decide +kernel
theorem dX8_copy_68 : decode cX8_copy 68 = .ok (.iaload, 1) := by decide +kernel
theorem dX8_copy_69 : decode cX8_copy 69 = .ok (.if_icmp .eq 6, 3) := by decide +kernel
theorem dX8_copy_72 : decode cX8_copy 72 = .ok (.bipush (-12), 2) := by decide +kernel
theorem dX8_copy_74 : decode cX8_copy 74 = .ok (.ireturn, 1) := by decide +kernel
theorem dX8_copy_75 : decode cX8_copy 75 = .ok (.iload 5, 2) := by decide +kernel
theorem dX8_copy_77 : decode cX8_copy 77 = .ok (.ifCond .lt 39, 3) := by decide +kernel
theorem dX8_copy_80 : decode cX8_copy 80 = .ok (.iload_n 2, 1) := by decide +kernel
theorem dX8_copy_81 : decode cX8_copy 81 = .ok (.ifCond .lt 35, 3) := by decide +kernel
theorem dX8_copy_84 : decode cX8_copy 84 = .ok (.iload 4, 2) := by decide +kernel
theorem dX8_copy_86 : decode cX8_copy 86 = .ok (.ifCond .lt 30, 3) := by decide +kernel
theorem dX8_copy_89 : decode cX8_copy 89 = .ok (.iload 5, 2) := by decide +kernel
theorem dX8_copy_91 : decode cX8_copy 91 = .ok (.aload_n 0, 1) := by decide +kernel
theorem dX8_copy_92 : decode cX8_copy 92 = .ok (.getfield 28, 3) := by decide +kernel
theorem dX8_copy_95 : decode cX8_copy 95 = .ok (.iload_n 1, 1) := by decide +kernel
theorem dX8_copy_96 : decode cX8_copy 96 = .ok (.iaload, 1) := by decide +kernel
theorem dX8_copy_97 : decode cX8_copy 97 = .ok (.iload_n 2, 1) := by decide +kernel
theorem dX8_copy_98 : decode cX8_copy 98 = .ok (.isub, 1) := by decide +kernel
theorem dX8_copy_99 : decode cX8_copy 99 = .ok (.if_icmp .gt 17, 3) := by decide +kernel
theorem dX8_copy_102 : decode cX8_copy 102 = .ok (.iload 5, 2) := by decide +kernel
theorem dX8_copy_104 : decode cX8_copy 104 = .ok (.aload_n 0, 1) := by decide +kernel
theorem dX8_copy_105 : decode cX8_copy 105 = .ok (.getfield 28, 3) := by decide +kernel
theorem dX8_copy_108 : decode cX8_copy 108 = .ok (.iload_n 3, 1) := by decide +kernel
theorem dX8_copy_109 : decode cX8_copy 109 = .ok (.iaload, 1) := by decide +kernel
theorem dX8_copy_110 : decode cX8_copy 110 = .ok (.iload 4, 2) := by decide +kernel
theorem dX8_copy_112 : decode cX8_copy 112 = .ok (.isub, 1) := by decide +kernel
theorem dX8_copy_113 : decode cX8_copy 113 = .ok (.if_icmp .le 6, 3) := by decide +kernel
theorem dX8_copy_116 : decode cX8_copy 116 = .ok (.bipush (-13), 2) := by decide +kernel
theorem dX8_copy_118 : decode cX8_copy 118 = .ok (.ireturn, 1) := by decide +kernel
theorem dX8_copy_119 : decode cX8_copy 119 = .ok (.iconst 0, 1) := by decide +kernel
theorem dX8_copy_120 : decode cX8_copy 120 = .ok (.istore 6, 2) := by decide +kernel
theorem dX8_copy_122 : decode cX8_copy 122 = .ok (.iload 6, 2) := by decide +kernel
theorem dX8_copy_124 : decode cX8_copy 124 = .ok (.iload 5, 2) := by decide +kernel
theorem dX8_copy_126 : decode cX8_copy 126 = .ok (.if_icmp .ge 58, 3) := by decide +kernel
theorem dX8_copy_129 : decode cX8_copy 129 = .ok (.iload_n 2, 1) := by decide +kernel
theorem dX8_copy_130 : decode cX8_copy 130 = .ok (.iload 4, 2) := by decide +kernel
theorem dX8_copy_132 : decode cX8_copy 132 = .ok (.if_icmp .le 8, 3) := by decide +kernel
theorem dX8_copy_135 : decode cX8_copy 135 = .ok (.iload 6, 2) := by decide +kernel
theorem dX8_copy_137 : decode cX8_copy 137 = .ok (.goto 10, 3) := by decide +kernel
theorem dX8_copy_140 : decode cX8_copy 140 = .ok (.iload 5, 2) := by decide +kernel
theorem dX8_copy_142 : decode cX8_copy 142 = .ok (.iconst 1, 1) := by decide +kernel
theorem dX8_copy_143 : decode cX8_copy 143 = .ok (.isub, 1) := by decide +kernel
theorem dX8_copy_144 : decode cX8_copy 144 = .ok (.iload 6, 2) := by decide +kernel
theorem dX8_copy_146 : decode cX8_copy 146 = .ok (.isub, 1) := by decide +kernel
theorem dX8_copy_147 : decode cX8_copy 147 = .ok (.istore 7, 2) := by decide +kernel
theorem dX8_copy_149 : decode cX8_copy 149 = .ok (.aload_n 0, 1) := by decide +kernel
theorem dX8_copy_150 : decode cX8_copy 150 = .ok (.getfield 31, 3) := by decide +kernel
theorem dX8_copy_153 : decode cX8_copy 153 = .ok (.bipush 100, 2) := by decide +kernel
theorem dX8_copy_155 : decode cX8_copy 155 = .ok (.iload_n 3, 1) := by decide +kernel
theorem dX8_copy_156 : decode cX8_copy 156 = .ok (.imul, 1) := by decide +kernel
theorem dX8_copy_157 : decode cX8_copy 157 = .ok (.iload 4, 2) := by decide +kernel
theorem dX8_copy_159 : decode cX8_copy 159 = .ok (.iadd, 1) := by decide +kernel
theorem dX8_copy_160 : decode cX8_copy 160 = .ok (.iload 7, 2) := by decide +kernel
theorem dX8_copy_162 : decode cX8_copy 162 = .ok (.iadd, 1) := by decide +kernel
theorem dX8_copy_163 : decode cX8_copy 163 = .ok (.aload_n 0, 1) := by decide +kernel
theorem dX8_copy_164 : decode cX8_copy 164 = .ok (.getfield 31, 3) := by decide +kernel
theorem dX8_copy_167 : decode cX8_copy 167 = .ok (.bipush 100, 2) := by decide +kernel
theorem dX8_copy_169 : decode cX8_copy 169 = .ok (.iload_n 1, 1) := by decide +kernel
theorem dX8_copy_170 : decode cX8_copy 170 = .ok (.imul, 1) := by decide +kernel
theorem dX8_copy_171 : decode cX8_copy 171 = .ok (.iload_n 2, 1) := by decide +kernel
theorem dX8_copy_172 : decode cX8_copy 172 = .ok (.iadd, 1) := by decide +kernel
theorem dX8_copy_173 : decode cX8_copy 173 = .ok (.iload 7, 2) := by decide +kernel
theorem dX8_copy_175 : decode cX8_copy 175 = .ok (.iadd, 1) := by decide +kernel
theorem dX8_copy_176 : decode cX8_copy 176 = .ok (.iaload, 1) := by decide +kernel
theorem dX8_copy_177 : decode cX8_copy 177 = .ok (.iastore, 1) := by decide +kernel
theorem dX8_copy_178 : decode cX8_copy 178 = .ok (.iinc 6 1, 3) := by decide +kernel
theorem dX8_copy_181 : decode cX8_copy 181 = .ok (.goto (-59), 3) := by decide +kernel
theorem dX8_copy_184 : decode cX8_copy 184 = .ok (.iload 5, 2) := by decide +kernel
theorem dX8_copy_186 : decode cX8_copy 186 = .ok (.ireturn, 1) := by decide +kernel
set_option maxRecDepth 20000 in
theorem ggX8_wrongLaying_X8_isShelf : GoodIn wsX8_wrongLaying wsX8_isShelf := goodIn_r _ [5, 6, 7, 8, 4, 9] (by decide +kernel) (by decide +kernel)
set_option maxRecDepth 20000 in
theorem gX8_wrongLaying_X8_isShelf : GoodIn wsX8_wrongLaying (va_wsS RX8 112 yX8_isShelf wsX8_isShelf) := goodIn_app (goodIn_of _ (by decide +kernel)) ggX8_wrongLaying_X8_isShelf
theorem dX8_wrongLaying_0 : decode cX8_wrongLaying 0 = .ok (.iload_n 1, 1) := by decide +kernel
theorem dX8_wrongLaying_1 : decode cX8_wrongLaying 1 = .ok (.invokestatic 112, 3) := by decide +kernel
theorem dX8_wrongLaying_4 : decode cX8_wrongLaying 4 = .ok (.ifCond .ne 7, 3) := by decide +kernel
theorem dX8_wrongLaying_7 : decode cX8_wrongLaying 7 = .ok (.iconst (-1), 1) := by decide +kernel
theorem dX8_wrongLaying_8 : decode cX8_wrongLaying 8 = .ok (.goto 33, 3) := by decide +kernel
theorem dX8_wrongLaying_11 : decode cX8_wrongLaying 11 = .ok (.aload_n 0, 1) := by decide +kernel
theorem dX8_wrongLaying_12 : decode cX8_wrongLaying 12 = .ok (.getfield 22, 3) := by decide +kernel
theorem dX8_wrongLaying_15 : decode cX8_wrongLaying 15 = .ok (.iload_n 1, 1) := by decide +kernel
theorem dX8_wrongLaying_16 : decode cX8_wrongLaying 16 = .ok (.iaload, 1) := by decide +kernel
theorem dX8_wrongLaying_17 : decode cX8_wrongLaying 17 = .ok (.ifCond .ne 8, 3) := by decide +kernel
theorem dX8_wrongLaying_20 : decode cX8_wrongLaying 20 = .ok (.bipush (-11), 2) := by decide +kernel
theorem dX8_wrongLaying_22 : decode cX8_wrongLaying 22 = .ok (.goto 19, 3) := by decide +kernel
theorem dX8_wrongLaying_25 : decode cX8_wrongLaying 25 = .ok (.aload_n 0, 1) := by decide +kernel
theorem dX8_wrongLaying_26 : decode cX8_wrongLaying 26 = .ok (.getfield 22, 3) := by decide +kernel
theorem dX8_wrongLaying_29 : decode cX8_wrongLaying 29 = .ok (.iload_n 1, 1) := by decide +kernel
theorem dX8_wrongLaying_30 : decode cX8_wrongLaying 30 = .ok (.iaload, 1) := by decide +kernel
theorem dX8_wrongLaying_31 : decode cX8_wrongLaying 31 = .ok (.iconst 1, 1) := by decide +kernel
theorem dX8_wrongLaying_32 : decode cX8_wrongLaying 32 = .ok (.if_icmp .ne 7, 3) := by decide +kernel
theorem dX8_wrongLaying_35 : decode cX8_wrongLaying 35 = .ok (.iconst 0, 1) := by decide +kernel
theorem dX8_wrongLaying_36 : decode cX8_wrongLaying 36 = .ok (.goto 5, 3) := by decide +kernel
theorem dX8_wrongLaying_39 : decode cX8_wrongLaying 39 = .ok (.bipush (-12), 2) := by decide +kernel
theorem dX8_wrongLaying_41 : decode cX8_wrongLaying 41 = .ok (.ireturn, 1) := by decide +kernel
theorem dX8_toilOf_0 : decode cX8_toilOf 0 = .ok (.aload_n 0, 1) := by decide +kernel
theorem dX8_toilOf_1 : decode cX8_toilOf 1 = .ok (.getfield 37, 3) := by decide +kernel
theorem dX8_toilOf_4 : decode cX8_toilOf 4 = .ok (.iload_n 1, 1) := by decide +kernel
theorem dX8_toilOf_5 : decode cX8_toilOf 5 = .ok (.iaload, 1) := by decide +kernel
theorem dX8_toilOf_6 : decode cX8_toilOf 6 = .ok (.istore_n 2, 1) := by decide +kernel
theorem dX8_toilOf_7 : decode cX8_toilOf 7 = .ok (.aload_n 0, 1) := by decide +kernel
theorem dX8_toilOf_8 : decode cX8_toilOf 8 = .ok (.getfield 34, 3) := by decide +kernel
theorem dX8_toilOf_11 : decode cX8_toilOf 11 = .ok (.iload_n 1, 1) := by decide +kernel
theorem dX8_toilOf_12 : decode cX8_toilOf 12 = .ok (.iaload, 1) := by decide +kernel
theorem dX8_toilOf_13 : decode cX8_toilOf 13 = .ok (.tableswitch 67 1 6 #[39, 43, 46, 51, 55, 60], 39) := by decide +kernel
theorem dX8_toilOf_52 : decode cX8_toilOf 52 = .ok (.iconst 2, 1) := by decide +kernel
theorem dX8_toilOf_53 : decode cX8_toilOf 53 = .ok (.iload_n 2, 1) := by decide +kernel
theorem dX8_toilOf_54 : decode cX8_toilOf 54 = .ok (.iadd, 1) := by decide +kernel
theorem dX8_toilOf_55 : decode cX8_toilOf 55 = .ok (.ireturn, 1) := by decide +kernel
theorem dX8_toilOf_56 : decode cX8_toilOf 56 = .ok (.bipush 6, 2) := by decide +kernel
theorem dX8_toilOf_58 : decode cX8_toilOf 58 = .ok (.ireturn, 1) := by decide +kernel
theorem dX8_toilOf_59 : decode cX8_toilOf 59 = .ok (.bipush 6, 2) := by decide +kernel
theorem dX8_toilOf_61 : decode cX8_toilOf 61 = .ok (.iload_n 2, 1) := by decide +kernel
theorem dX8_toilOf_62 : decode cX8_toilOf 62 = .ok (.iadd, 1) := by decide +kernel
theorem dX8_toilOf_63 : decode cX8_toilOf 63 = .ok (.ireturn, 1) := by decide +kernel
theorem dX8_toilOf_64 : decode cX8_toilOf 64 = .ok (.iconst 2, 1) := by decide +kernel
theorem dX8_toilOf_65 : decode cX8_toilOf 65 = .ok (.iload_n 2, 1) := by decide +kernel
theorem dX8_toilOf_66 : decode cX8_toilOf 66 = .ok (.isub, 1) := by decide +kernel
theorem dX8_toilOf_67 : decode cX8_toilOf 67 = .ok (.ireturn, 1) := by decide +kernel
theorem dX8_toilOf_68 : decode cX8_toilOf 68 = .ok (.bipush 6, 2) := by decide +kernel
theorem dX8_toilOf_70 : decode cX8_toilOf 70 = .ok (.iload_n 2, 1) := by decide +kernel
theorem dX8_toilOf_71 : decode cX8_toilOf 71 = .ok (.iadd, 1) := by decide +kernel
theorem dX8_toilOf_72 : decode cX8_toilOf 72 = .ok (.ireturn, 1) := by decide +kernel
theorem dX8_toilOf_73 : decode cX8_toilOf 73 = .ok (.bipush 6, 2) := by decide +kernel
theorem dX8_toilOf_75 : decode cX8_toilOf 75 = .ok (.iload_n 2, 1) := by decide +kernel
theorem dX8_toilOf_76 : decode cX8_toilOf 76 = .ok (.iadd, 1) := by decide +kernel
theorem dX8_toilOf_77 : decode cX8_toilOf 77 = .ok (.iconst 2, 1) := by decide +kernel
theorem dX8_toilOf_78 : decode cX8_toilOf 78 = .ok (.idiv, 1) := by decide +kernel
theorem dX8_toilOf_79 : decode cX8_toilOf 79 = .ok (.ireturn, 1) := by decide +kernel
theorem dX8_toilOf_80 : decode cX8_toilOf 80 = .ok (.iconst 2, 1) := by decide +kernel
theorem dX8_toilOf_81 : decode cX8_toilOf 81 = .ok (.ireturn, 1) := by decide +kernel
set_option maxRecDepth 20000 in
theorem ggX8_toil_X8_wrongLaying : GoodIn wsX8_toil wsX8_wrongLaying := goodIn_r _ [6, 7, 8, 9, 5, 10, 11, 12, 13, 14, 21, 22, 23, 24, 25, 26, 27, 28, 29, 30, 31, 32, 33, 34, 35, 36, 37, 38, 39, 40, 41, 42, 43, 44, 45, 46, 47, 48, 49, 50, 51, 52, 53, 54, 55, 56, 57] (by decide +kernel) (by decide +kernel)
set_option maxRecDepth 20000 in
theorem gX8_toil_X8_wrongLaying : GoodIn wsX8_toil (wsV RX8 290 RX8 yX8_wrongLaying wsX8_wrongLaying) := goodIn_app (goodIn_of _ (by decide +kernel)) ggX8_toil_X8_wrongLaying
set_option maxRecDepth 20000 in
theorem ggX8_toil_X8_toilOf : GoodIn wsX8_toil wsX8_toilOf := goodIn_r _ [18, 19, 20, 21, 22, 23, 24, 25, 26, 27, 28, 29, 30, 31, 32, 33, 34, 35, 36, 37, 38, 39, 40, 41, 42, 43, 44, 45, 46, 47, 48, 49, 50, 51, 52, 53, 54, 55, 56, 57] (by decide +kernel) (by decide +kernel)
set_option maxRecDepth 20000 in
theorem gX8_toil_X8_toilOf : GoodIn wsX8_toil (wsV RX8 305 RX8 yX8_toilOf wsX8_toilOf) := goodIn_app (goodIn_of _ (by decide +kernel)) ggX8_toil_X8_toilOf
theorem dX8_toil_0 : decode cX8_toil 0 = .ok (.aload_n 0, 1) := by decide +kernel
theorem dX8_toil_1 : decode cX8_toil 1 = .ok (.iload_n 1, 1) := by decide +kernel
theorem dX8_toil_2 : decode cX8_toil 2 = .ok (.invokevirtual 290, 3) := by decide +kernel
theorem dX8_toil_5 : decode cX8_toil 5 = .ok (.istore_n 2, 1) := by decide +kernel
theorem dX8_toil_6 : decode cX8_toil 6 = .ok (.iload_n 2, 1) := by decide +kernel
theorem dX8_toil_7 : decode cX8_toil 7 = .ok (.ifCond .eq 11, 3) := by decide +kernel
theorem dX8_toil_10 : decode cX8_toil 10 = .ok (.ldc_w 304, 3) := by decide +kernel
theorem dX8_toil_13 : decode cX8_toil 13 = .ok (.iload_n 2, 1) := by decide +kernel
theorem dX8_toil_14 : decode cX8_toil 14 = .ok (.iadd, 1) := by decide +kernel
theorem dX8_toil_15 : decode cX8_toil 15 = .ok (.goto 8, 3) := by decide +kernel
theorem dX8_toil_18 : decode cX8_toil 18 = .ok (.aload_n 0, 1) := by decide +kernel
theorem dX8_toil_19 : decode cX8_toil 19 = .ok (.iload_n 1, 1) := by decide +kernel
theorem dX8_toil_20 : decode cX8_toil 20 = .ok (.invokevirtual 305, 3) := by decide +kernel
theorem dX8_toil_23 : decode cX8_toil 23 = .ok (.ireturn, 1) := by decide +kernel
set_option maxRecDepth 20000 in
theorem ggX8_toss_X8_wrongLaying : GoodIn wsX8_toss wsX8_wrongLaying := goodIn_r _ [7, 8, 9, 10, 6, 11, 12, 13, 14, 15, 20, 21, 22, 23, 24, 25, 26, 27, 28, 29, 30, 31, 32, 33, 34, 35, 36, 37, 38, 39, 40, 41, 42, 43, 44, 45, 46, 47, 48, 49, 50, 51, 52, 53, 54, 55, 56] (by decide +kernel) (by decide +kernel)
set_option maxRecDepth 20000 in
theorem gX8_toss_X8_wrongLaying : GoodIn wsX8_toss (wsV RX8 290 RX8 yX8_wrongLaying wsX8_wrongLaying) := goodIn_app (goodIn_of _ (by decide +kernel)) ggX8_toss_X8_wrongLaying
set_option maxRecDepth 20000 in
theorem ggX8_toss_X8_toilOf : GoodIn wsX8_toss wsX8_toilOf := goodIn_r _ [19, 1, 2, 20, 21, 22, 23, 24, 25, 26, 27, 28, 29, 30, 31, 32, 33, 34, 35, 36, 37, 38, 39, 40, 41, 42, 43, 44, 45, 46, 47, 48, 49, 50, 51, 52, 53, 54, 55, 56] (by decide +kernel) (by decide +kernel)
set_option maxRecDepth 20000 in
theorem gX8_toss_X8_toilOf : GoodIn wsX8_toss (wsV RX8 305 RX8 yX8_toilOf wsX8_toilOf) := goodIn_app (goodIn_of _ (by decide +kernel)) ggX8_toss_X8_toilOf
theorem dX8_toss_0 : decode cX8_toss 0 = .ok (.aload_n 0, 1) := by decide +kernel
theorem dX8_toss_1 : decode cX8_toss 1 = .ok (.iload_n 1, 1) := by decide +kernel
theorem dX8_toss_2 : decode cX8_toss 2 = .ok (.invokevirtual 290, 3) := by decide +kernel
theorem dX8_toss_5 : decode cX8_toss 5 = .ok (.istore_n 2, 1) := by decide +kernel
theorem dX8_toss_6 : decode cX8_toss 6 = .ok (.iload_n 2, 1) := by decide +kernel
theorem dX8_toss_7 : decode cX8_toss 7 = .ok (.ifCond .eq 5, 3) := by decide +kernel
theorem dX8_toss_10 : decode cX8_toss 10 = .ok (.iload_n 2, 1) := by decide +kernel
theorem dX8_toss_11 : decode cX8_toss 11 = .ok (.ireturn, 1) := by decide +kernel
theorem dX8_toss_12 : decode cX8_toss 12 = .ok (.aload_n 0, 1) := by decide +kernel
theorem dX8_toss_13 : decode cX8_toss 13 = .ok (.getfield 37, 3) := by decide +kernel
theorem dX8_toss_16 : decode cX8_toss 16 = .ok (.iload_n 1, 1) := by decide +kernel
theorem dX8_toss_17 : decode cX8_toss 17 = .ok (.iaload, 1) := by decide +kernel
theorem dX8_toss_18 : decode cX8_toss 18 = .ok (.istore_n 3, 1) := by decide +kernel
theorem dX8_toss_19 : decode cX8_toss 19 = .ok (.aload_n 0, 1) := by decide +kernel
theorem dX8_toss_20 : decode cX8_toss 20 = .ok (.getfield 34, 3) := by decide +kernel
theorem dX8_toss_23 : decode cX8_toss 23 = .ok (.iload_n 1, 1) := by decide +kernel
theorem dX8_toss_24 : decode cX8_toss 24 = .ok (.iaload, 1) := by decide +kernel
theorem dX8_toss_25 : decode cX8_toss 25 = .ok (.istore 4, 2) := by decide +kernel
theorem dX8_toss_27 : decode cX8_toss 27 = .ok (.iload 4, 2) := by decide +kernel
theorem dX8_toss_29 : decode cX8_toss 29 = .ok (.iconst 4, 1) := by decide +kernel
theorem dX8_toss_30 : decode cX8_toss 30 = .ok (.if_icmp .eq 7, 3) := by decide +kernel
theorem dX8_toss_33 : decode cX8_toss 33 = .ok (.iload_n 3, 1) := by decide +kernel
theorem dX8_toss_34 : decode cX8_toss 34 = .ok (.ifCond .ne 8, 3) := by decide +kernel
theorem dX8_toss_37 : decode cX8_toss 37 = .ok (.bipush (-15), 2) := by decide +kernel
theorem dX8_toss_39 : decode cX8_toss 39 = .ok (.goto 42, 3) := by decide +kernel
theorem dX8_toss_42 : decode cX8_toss 42 = .ok (.iload 4, 2) := by decide +kernel
theorem dX8_toss_44 : decode cX8_toss 44 = .ok (.iconst 2, 1) := by decide +kernel
theorem dX8_toss_45 : decode cX8_toss 45 = .ok (.if_icmp .eq 9, 3) := by decide +kernel
theorem dX8_toss_48 : decode cX8_toss 48 = .ok (.iload 4, 2) := by decide +kernel
theorem dX8_toss_50 : decode cX8_toss 50 = .ok (.iconst 5, 1) := by decide +kernel
theorem dX8_toss_51 : decode cX8_toss 51 = .ok (.if_icmp .ne 10, 3) := by decide +kernel
theorem dX8_toss_54 : decode cX8_toss 54 = .ok (.bipush 100, 2) := by decide +kernel
theorem dX8_toss_56 : decode cX8_toss 56 = .ok (.iload_n 3, 1) := by decide +kernel
theorem dX8_toss_57 : decode cX8_toss 57 = .ok (.iadd, 1) := by decide +kernel
theorem dX8_toss_58 : decode cX8_toss 58 = .ok (.goto 23, 3) := by decide +kernel
theorem dX8_toss_61 : decode cX8_toss 61 = .ok (.iload 4, 2) := by decide +kernel
theorem dX8_toss_63 : decode cX8_toss 63 = .ok (.bipush 6, 2) := by decide +kernel
theorem dX8_toss_65 : decode cX8_toss 65 = .ok (.if_icmp .ne 15, 3) := by decide +kernel
theorem dX8_toss_68 : decode cX8_toss 68 = .ok (.sipush 200, 3) := by decide +kernel
theorem dX8_toss_71 : decode cX8_toss 71 = .ok (.aload_n 0, 1) := by decide +kernel
theorem dX8_toss_72 : decode cX8_toss 72 = .ok (.iload_n 1, 1) := by decide +kernel
theorem dX8_toss_73 : decode cX8_toss 73 = .ok (.invokevirtual 305, 3) := by decide +kernel
theorem dX8_toss_76 : decode cX8_toss 76 = .ok (.iadd, 1) := by decide +kernel
theorem dX8_toss_77 : decode cX8_toss 77 = .ok (.goto 4, 3) := by decide +kernel
theorem dX8_toss_80 : decode cX8_toss 80 = .ok (.iload_n 3, 1) := by decide +kernel
theorem dX8_toss_81 : decode cX8_toss 81 = .ok (.ireturn, 1) := by decide +kernel
