set_option maxRecDepth 20000 in
theorem ggX7_init_X3_init : GoodIn wsX7_init wsX3_init := goodIn_r _ [17, 18, 2, 3, 19, 20, 21, 22, 23, 24, 25, 26, 27, 28, 37, 38, 39, 40, 41, 42, 43, 44, 45] (by decide +kernel) (by decide +kernel)
set_option maxRecDepth 20000 in
theorem gX7_init_X3_init_n9 : GoodIn wsX7_init (wsX3_init) := ggX7_init_X3_init
set_option maxRecDepth 20000 in
theorem ggX7_init_X4_init : GoodIn wsX7_init wsX4_init := goodIn_r _ [30, 31, 2, 3, 19, 32, 33, 34, 35, 36, 52, 53, 54, 55, 56] (by decide +kernel) (by decide +kernel)
set_option maxRecDepth 20000 in
theorem gX7_init_X4_init_n36 : GoodIn wsX7_init (wsX4_init) := ggX7_init_X4_init
theorem dX7_init_0 : decode cX7_init 0 = .ok (.aload_n 0, 1) := by decide +kernel
theorem dX7_init_1 : decode cX7_init 1 = .ok (.invokespecial 1, 3) := by decide +kernel
theorem dX7_init_4 : decode cX7_init 4 = .ok (.aload_n 0, 1) := by decide +kernel
theorem dX7_init_5 : decode cX7_init 5 = .ok (.new 7, 3) := by decide +kernel
theorem dX7_init_8 : decode cX7_init 8 = .ok (.dup, 1) := by decide +kernel
theorem dX7_init_9 : decode cX7_init 9 = .ok (.invokespecial 9, 3) := by decide +kernel
theorem dX7_init_12 : decode cX7_init 12 = .ok (.putfield 10, 3) := by decide +kernel
theorem dX7_init_15 : decode cX7_init 15 = .ok (.aload_n 0, 1) := by decide +kernel
theorem dX7_init_16 : decode cX7_init 16 = .ok (.new 7, 3) := by decide +kernel
theorem dX7_init_19 : decode cX7_init 19 = .ok (.dup, 1) := by decide +kernel
theorem dX7_init_20 : decode cX7_init 20 = .ok (.invokespecial 9, 3) := by decide +kernel
theorem dX7_init_23 : decode cX7_init 23 = .ok (.putfield 16, 3) := by decide +kernel
theorem dX7_init_26 : decode cX7_init 26 = .ok (.aload_n 0, 1) := by decide +kernel
theorem dX7_init_27 : decode cX7_init 27 = .ok (.new 7, 3) := by decide +kernel
theorem dX7_init_30 : decode cX7_init 30 = .ok (.dup, 1) := by decide +kernel
theorem dX7_init_31 : decode cX7_init 31 = .ok (.invokespecial 9, 3) := by decide +kernel
theorem dX7_init_34 : decode cX7_init 34 = .ok (.putfield 19, 3) := by decide +kernel
theorem dX7_init_37 : decode cX7_init 37 = .ok (.aload_n 0, 1) := by decide +kernel
theorem dX7_init_38 : decode cX7_init 38 = .ok (.bipush 8, 2) := by decide +kernel
theorem dX7_init_40 : decode cX7_init 40 = .ok (.anewarray 22, 3) := by decide +kernel
theorem dX7_init_43 : decode cX7_init 43 = .ok (.putfield 24, 3) := by decide +kernel
theorem dX7_init_46 : decode cX7_init 46 = .ok (.aload_n 0, 1) := by decide +kernel
theorem dX7_init_47 : decode cX7_init 47 = .ok (.iconst 0, 1) := by decide +kernel
theorem dX7_init_48 : decode cX7_init 48 = .ok (.putfield 28, 3) := by decide +kernel
theorem dX7_init_51 : decode cX7_init 51 = .ok (.aload_n 0, 1) := by decide +kernel
theorem dX7_init_52 : decode cX7_init 52 = .ok (.aconst_null, 1) := by decide +kernel
theorem dX7_init_53 : decode cX7_init 53 = .ok (.putfield 32, 3) := by decide +kernel
theorem dX7_init_56 : decode cX7_init 56 = .ok (.iconst 0, 1) := by decide +kernel
theorem dX7_init_57 : decode cX7_init 57 = .ok (.istore_n 1, 1) := by decide +kernel
theorem dX7_init_58 : decode cX7_init 58 = .ok (.iload_n 1, 1) := by decide +kernel
theorem dX7_init_59 : decode cX7_init 59 = .ok (.bipush 8, 2) := by decide +kernel
theorem dX7_init_61 : decode cX7_init 61 = .ok (.if_icmp .ge 22, 3) := by decide +kernel
theorem dX7_init_64 : decode cX7_init 64 = .ok (.aload_n 0, 1) := by decide +kernel
theorem dX7_init_65 : decode cX7_init 65 = .ok (.getfield 24, 3) := by decide +kernel
theorem dX7_init_68 : decode cX7_init 68 = .ok (.iload_n 1, 1) := by decide +kernel
theorem dX7_init_69 : decode cX7_init 69 = .ok (.new 22, 3) := by decide +kernel
theorem dX7_init_72 : decode cX7_init 72 = .ok (.dup, 1) := by decide +kernel
theorem dX7_init_73 : decode cX7_init 73 = .ok (.invokespecial 36, 3) := by decide +kernel
theorem dX7_init_76 : decode cX7_init 76 = .ok (.aastore, 1) := by decide +kernel
theorem dX7_init_77 : decode cX7_init 77 = .ok (.iinc 1 1, 3) := by decide +kernel
theorem dX7_init_80 : decode cX7_init 80 = .ok (.goto (-22), 3) := by decide +kernel
theorem dX7_init_83 : decode cX7_init 83 = .ok (.return_, 1) := by decide +kernel
set_option maxRecDepth 20000 in
theorem ggX7_roof_X7_isShelf : GoodIn wsX7_roof wsX7_isShelf := goodIn_r _ [13] (by decide +kernel) (by decide +kernel)
set_option maxRecDepth 20000 in
theorem gX7_roof_X7_isShelf : GoodIn wsX7_roof (wsV RX7 37 RX7 yX7_isShelf wsX7_isShelf) := goodIn_app (goodIn_of _ (by decide +kernel)) ggX7_roof_X7_isShelf
set_option maxRecDepth 20000 in
theorem ggX7_roof_X3_takeOver : GoodIn wsX7_roof wsX3_takeOver := goodIn_r _ [18, 19, 20, 21, 22, 23, 24, 25, 26, 27, 28, 29, 30, 31, 112, 113, 114, 115, 116, 117, 118, 119, 120] (by decide +kernel) (by decide +kernel)
set_option maxRecDepth 20000 in
theorem gX7_roof_X3_takeOver : GoodIn wsX7_roof (wsV RX7 48 RX3 yX3_takeOver wsX3_takeOver) := goodIn_app (goodIn_of _ (by decide +kernel)) ggX7_roof_X3_takeOver
set_option maxRecDepth 20000 in
theorem ggX7_roof_X2_init : GoodIn wsX7_roof wsX2_init := goodIn_r _ [34, 35, 36, 37, 38, 39, 40, 41, 42, 43, 107, 108, 109, 110, 111] (by decide +kernel) (by decide +kernel)
set_option maxRecDepth 20000 in
theorem gX7_roof_X2_init : GoodIn wsX7_roof (wsX2_init) := ggX7_roof_X2_init
set_option maxRecDepth 20000 in
theorem ggX7_roof_X2_read : GoodIn wsX7_roof wsX2_read := goodIn_r _ [47, 41, 42, 48, 49, 50, 51, 8, 52, 40, 53, 54, 55, 56, 57, 58, 59, 60, 61, 62, 63, 64, 65, 66, 67, 39, 68, 69, 70, 71, 72, 73, 74, 75, 76, 77, 78, 79, 43, 80, 81, 82, 17, 83, 29, 19, 24, 25, 84, 85, 86, 87, 88, 89, 90, 91, 30, 26, 27, 92, 93, 94, 95, 31, 107, 108, 109, 110, 111, 102, 103, 104, 105, 106, 112, 113, 114, 115, 116, 117, 118, 119, 120] (by decide +kernel) (by decide +kernel)
set_option maxRecDepth 20000 in
theorem gX7_roof_X2_read : GoodIn wsX7_roof (wsV RX7 57 RX2 yX2_read wsX2_read) := goodIn_app (goodIn_of _ (by decide +kernel)) ggX7_roof_X2_read
theorem dX7_roof_0 : decode cX7_roof 0 = .ok (.aload_n 0, 1) := by decide +kernel
theorem dX7_roof_1 : decode cX7_roof 1 = .ok (.iload_n 1, 1) := by decide +kernel
theorem dX7_roof_2 : decode cX7_roof 2 = .ok (.invokevirtual 37, 3) := by decide +kernel
theorem dX7_roof_5 : decode cX7_roof 5 = .ok (.ifCond .ne 5, 3) := by decide +kernel
theorem dX7_roof_8 : decode cX7_roof 8 = .ok (.iconst (-1), 1) := by decide +kernel
theorem dX7_roof_9 : decode cX7_roof 9 = .ok (.ireturn, 1) := by decide +kernel
theorem dX7_roof_10 : decode cX7_roof 10 = .ok (.aload_n 0, 1) := by decide +kernel
theorem dX7_roof_11 : decode cX7_roof 11 = .ok (.getfield 24, 3) := by decide +kernel
theorem dX7_roof_14 : decode cX7_roof 14 = .ok (.iload_n 1, 1) := by decide +kernel
theorem dX7_roof_15 : decode cX7_roof 15 = .ok (.aaload, 1) := by decide +kernel
theorem dX7_roof_16 : decode cX7_roof 16 = .ok (.astore_n 2, 1) := by decide +kernel
theorem dX7_roof_17 : decode cX7_roof 17 = .ok (.aload_n 2, 1) := by decide +kernel
theorem dX7_roof_18 : decode cX7_roof 18 = .ok (.getfield 41, 3) := by decide +kernel
theorem dX7_roof_21 : decode cX7_roof 21 = .ok (.ifCond .ne 6, 3) := by decide +kernel
theorem dX7_roof_24 : decode cX7_roof 24 = .ok (.bipush (-11), 2) := by decide +kernel
theorem dX7_roof_26 : decode cX7_roof 26 = .ok (.ireturn, 1) := by decide +kernel
theorem dX7_roof_27 : decode cX7_roof 27 = .ok (.aload_n 2, 1) := by decide +kernel
theorem dX7_roof_28 : decode cX7_roof 28 = .ok (.getfield 41, 3) := by decide +kernel
theorem dX7_roof_31 : decode cX7_roof 31 = .ok (.iconst 2, 1) := by decide +kernel
theorem dX7_roof_32 : decode cX7_roof 32 = .ok (.if_icmp .ne 10, 3) := by decide +kernel
theorem dX7_roof_35 : decode cX7_roof 35 = .ok (.aload_n 2, 1) := by decide +kernel
theorem dX7_roof_36 : decode cX7_roof 36 = .ok (.getfield 45, 3) := by decide +kernel
theorem dX7_roof_39 : decode cX7_roof 39 = .ok (.ifCond .eq 6, 3) := by decide +kernel
theorem dX7_roof_42 : decode cX7_roof 42 = .ok (.bipush (-12), 2) := by decide +kernel
theorem dX7_roof_44 : decode cX7_roof 44 = .ok (.ireturn, 1) := by decide +kernel
theorem dX7_roof_45 : decode cX7_roof 45 = .ok (.aload_n 0, 1) := by decide +kernel
theorem dX7_roof_46 : decode cX7_roof 46 = .ok (.getfield 19, 3) := by decide +kernel
theorem dX7_roof_49 : decode cX7_roof 49 = .ok (.aload_n 0, 1) := by decide +kernel
theorem dX7_roof_50 : decode cX7_roof 50 = .ok (.getfield 10, 3) := by decide +kernel
theorem dX7_roof_53 : decode cX7_roof 53 = .ok (.invokevirtual 48, 3) := by decide +kernel
theorem dX7_roof_56 : decode cX7_roof 56 = .ok (.new 52, 3) := by decide +kernel
theorem dX7_roof_59 : decode cX7_roof 59 = .ok (.dup, 1) := by decide +kernel
theorem dX7_roof_60 : decode cX7_roof 60 = .ok (.aload_n 2, 1) := by decide +kernel
theorem dX7_roof_61 : decode cX7_roof 61 = .ok (.aload_n 0, 1) := by decide +kernel
theorem dX7_roof_62 : decode cX7_roof 62 = .ok (.getfield 19, 3) := by decide +kernel
theorem dX7_roof_65 : decode cX7_roof 65 = .ok (.invokespecial 54, 3) := by decide +kernel
theorem dX7_roof_68 : decode cX7_roof 68 = .ok (.invokevirtual 57, 3) := by decide +kernel
theorem dX7_roof_71 : decode cX7_roof 71 = .ok (.istore_n 3, 1) := by decide +kernel
theorem dX7_roof_72 : decode cX7_roof 72 = .ok (.iload_n 3, 1) := by decide +kernel
theorem dX7_roof_73 : decode cX7_roof 73 = .ok (.ifCond .lt 14, 3) := by decide +kernel
theorem dX7_roof_76 : decode cX7_roof 76 = .ok (.aload_n 0, 1) := by decide +kernel
theorem dX7_roof_77 : decode cX7_roof 77 = .ok (.getfield 10, 3) := by decide +kernel
theorem dX7_roof_80 : decode cX7_roof 80 = .ok (.aload_n 0, 1) := by decide +kernel
theorem dX7_roof_81 : decode cX7_roof 81 = .ok (.getfield 19, 3) := by decide +kernel
theorem dX7_roof_84 : decode cX7_roof 84 = .ok (.invokevirtual 48, 3) := by decide +kernel
theorem dX7_roof_87 : decode cX7_roof 87 = .ok (.iload_n 3, 1) := by decide +kernel
theorem dX7_roof_88 : decode cX7_roof 88 = .ok (.ireturn, 1) := by decide +kernel
set_option maxRecDepth 20000 in
theorem ggX7_width_X7_isWidth : GoodIn wsX7_width wsX7_isWidth := goodIn_r _ [9, 1, 10, 11, 12, 13, 14, 15, 16, 17, 18, 19, 20, 21, 22, 23, 24, 25] (by decide +kernel) (by decide +kernel)
set_option maxRecDepth 20000 in
theorem gX7_width_X7_isWidth : GoodIn wsX7_width (wsV RX7 61 RX7 yX7_isWidth wsX7_isWidth) := goodIn_app (goodIn_of _ (by decide +kernel)) ggX7_width_X7_isWidth
theorem dX7_width_0 : decode cX7_width 0 = .ok (.aload_n 0, 1) := by decide +kernel
theorem dX7_width_1 : decode cX7_width 1 = .ok (.iload_n 1, 1) := by decide +kernel
theorem dX7_width_2 : decode cX7_width 2 = .ok (.invokevirtual 61, 3) := by decide +kernel
theorem dX7_width_5 : decode cX7_width 5 = .ok (.ifCond .ne 5, 3) := by decide +kernel
theorem dX7_width_8 : decode cX7_width 8 = .ok (.iconst (-1), 1) := by decide +kernel
theorem dX7_width_9 : decode cX7_width 9 = .ok (.ireturn, 1) := by decide +kernel
theorem dX7_width_10 : decode cX7_width 10 = .ok (.iload_n 2, 1) := by decide +kernel
theorem dX7_width_11 : decode cX7_width 11 = .ok (.tableswitch 55 0 2 #[25, 35, 45], 25) := by decide +kernel
theorem dX7_width_36 : decode cX7_width 36 = .ok (.aload_n 0, 1) := by decide +kernel
theorem dX7_width_37 : decode cX7_width 37 = .ok (.getfield 10, 3) := by decide +kernel
theorem dX7_width_40 : decode cX7_width 40 = .ok (.getfield 64, 3) := by decide +kernel
theorem dX7_width_43 : decode cX7_width 43 = .ok (.iload_n 1, 1) := by decide +kernel
theorem dX7_width_44 : decode cX7_width 44 = .ok (.iaload, 1) := by decide +kernel
theorem dX7_width_45 : decode cX7_width 45 = .ok (.ireturn, 1) := by decide +kernel
theorem dX7_width_46 : decode cX7_width 46 = .ok (.aload_n 0, 1) := by decide +kernel
theorem dX7_width_47 : decode cX7_width 47 = .ok (.getfield 10, 3) := by decide +kernel
theorem dX7_width_50 : decode cX7_width 50 = .ok (.getfield 68, 3) := by decide +kernel
theorem dX7_width_53 : decode cX7_width 53 = .ok (.iload_n 1, 1) := by decide +kernel
theorem dX7_width_54 : decode cX7_width 54 = .ok (.iaload, 1) := by decide +kernel
theorem dX7_width_55 : decode cX7_width 55 = .ok (.ireturn, 1) := by decide +kernel
theorem dX7_width_56 : decode cX7_width 56 = .ok (.aload_n 0, 1) := by decide +kernel
theorem dX7_width_57 : decode cX7_width 57 = .ok (.getfield 10, 3) := by decide +kernel
theorem dX7_width_60 : decode cX7_width 60 = .ok (.getfield 71, 3) := by decide +kernel
theorem dX7_width_63 : decode cX7_width 63 = .ok (.iload_n 1, 1) := by decide +kernel
theorem dX7_width_64 : decode cX7_width 64 = .ok (.iaload, 1) := by decide +kernel
theorem dX7_width_65 : decode cX7_width 65 = .ok (.ireturn, 1) := by decide +kernel
theorem dX7_width_66 : decode cX7_width 66 = .ok (.iconst (-1), 1) := by decide +kernel
theorem dX7_width_67 : decode cX7_width 67 = .ok (.ireturn, 1) := by decide +kernel
set_option maxRecDepth 20000 in
theorem ggX7_heap_X7_isWidth : GoodIn wsX7_heap wsX7_isWidth := goodIn_r _ [7, 1, 8, 9, 10, 11, 12, 13, 14, 15, 16, 17, 18, 19, 20, 21, 22, 23] (by decide +kernel) (by decide +kernel)
set_option maxRecDepth 20000 in
theorem gX7_heap_X7_isWidth : GoodIn wsX7_heap (wsV RX7 61 RX7 yX7_isWidth wsX7_isWidth) := goodIn_app (goodIn_of _ (by decide +kernel)) ggX7_heap_X7_isWidth
theorem dX7_heap_0 : decode cX7_heap 0 = .ok (.aload_n 0, 1) := by decide +kernel
theorem dX7_heap_1 : decode cX7_heap 1 = .ok (.iload_n 1, 1) := by decide +kernel
theorem dX7_heap_2 : decode cX7_heap 2 = .ok (.invokevirtual 61, 3) := by decide +kernel
theorem dX7_heap_5 : decode cX7_heap 5 = .ok (.ifCond .eq 13, 3) := by decide +kernel
theorem dX7_heap_8 : decode cX7_heap 8 = .ok (.iload_n 2, 1) := by decide +kernel
theorem dX7_heap_9 : decode cX7_heap 9 = .ok (.ifCond .lt 9, 3) := by decide +kernel
theorem dX7_heap_12 : decode cX7_heap 12 = .ok (.iload_n 2, 1) := by decide +kernel
theorem dX7_heap_13 : decode cX7_heap 13 = .ok (.bipush 12, 2) := by decide +kernel
theorem dX7_heap_15 : decode cX7_heap 15 = .ok (.if_icmp .le 5, 3) := by decide +kernel
theorem dX7_heap_18 : decode cX7_heap 18 = .ok (.iconst (-1), 1) := by decide +kernel
theorem dX7_heap_19 : decode cX7_heap 19 = .ok (.ireturn, 1) := by decide +kernel
theorem dX7_heap_20 : decode cX7_heap 20 = .ok (.aload_n 0, 1) := by decide +kernel
theorem dX7_heap_21 : decode cX7_heap 21 = .ok (.getfield 10, 3) := by decide +kernel
theorem dX7_heap_24 : decode cX7_heap 24 = .ok (.getfield 68, 3) := by decide +kernel
theorem dX7_heap_27 : decode cX7_heap 27 = .ok (.iload_n 1, 1) := by decide +kernel
theorem dX7_heap_28 : decode cX7_heap 28 = .ok (.iaload, 1) := by decide +kernel
theorem dX7_heap_29 : decode cX7_heap 29 = .ok (.istore_n 3, 1) := by decide +kernel
theorem dX7_heap_30 : decode cX7_heap 30 = .ok (.aload_n 0, 1) := by decide +kernel
theorem dX7_heap_31 : decode cX7_heap 31 = .ok (.getfield 10, 3) := by decide +kernel
theorem dX7_heap_34 : decode cX7_heap 34 = .ok (.getfield 68, 3) := by decide +kernel
theorem dX7_heap_37 : decode cX7_heap 37 = .ok (.iload_n 1, 1) := by decide +kernel
theorem dX7_heap_38 : decode cX7_heap 38 = .ok (.iload_n 2, 1) := by decide +kernel
theorem dX7_heap_39 : decode cX7_heap 39 = .ok (.iastore, 1) := by decide +kernel
theorem dX7_heap_40 : decode cX7_heap 40 = .ok (.iload_n 3, 1) := by decide +kernel
theorem dX7_heap_41 : decode cX7_heap 41 = .ok (.ireturn, 1) := by decide +kernel
theorem dX7_lap_0 : decode cX7_lap 0 = .ok (.iload_n 1, 1) := by decide +kernel
theorem dX7_lap_1 : decode cX7_lap 1 = .ok (.ifCond .lt 9, 3) := by decide +kernel
theorem dX7_lap_4 : decode cX7_lap 4 = .ok (.iload_n 1, 1) := by decide +kernel
theorem dX7_lap_5 : decode cX7_lap 5 = .ok (.bipush 20, 2) := by decide +kernel
theorem dX7_lap_7 : decode cX7_lap 7 = .ok (.if_icmp .le 5, 3) := by decide +kernel
theorem dX7_lap_10 : decode cX7_lap 10 = .ok (.iconst (-1), 1) := by decide +kernel
theorem dX7_lap_11 : decode cX7_lap 11 = .ok (.ireturn, 1) := by decide +kernel
theorem dX7_lap_12 : decode cX7_lap 12 = .ok (.aload_n 0, 1) := by decide +kernel
theorem dX7_lap_13 : decode cX7_lap 13 = .ok (.getfield 10, 3) := by decide +kernel
theorem dX7_lap_16 : decode cX7_lap 16 = .ok (.getfield 74, 3) := by decide +kernel
theorem dX7_lap_19 : decode cX7_lap 19 = .ok (.istore_n 2, 1) := by decide +kernel
theorem dX7_lap_20 : decode cX7_lap 20 = .ok (.aload_n 0, 1) := by decide +kernel
theorem dX7_lap_21 : decode cX7_lap 21 = .ok (.getfield 10, 3) := by decide +kernel
theorem dX7_lap_24 : decode cX7_lap 24 = .ok (.iload_n 1, 1) := by decide +kernel
theorem dX7_lap_25 : decode cX7_lap 25 = .ok (.putfield 74, 3) := by decide +kernel
theorem dX7_lap_28 : decode cX7_lap 28 = .ok (.iload_n 2, 1) := by decide +kernel
theorem dX7_lap_29 : decode cX7_lap 29 = .ok (.ireturn, 1) := by decide +kernel
set_option maxRecDepth 20000 in
theorem ggX7_rowOf_X7_isRow : GoodIn wsX7_rowOf wsX7_isRow := goodIn_r _ [8, 1, 9, 27, 28, 29, 30, 31, 32, 33, 34, 35, 36, 37, 38, 39, 40, 41] (by decide +kernel) (by decide +kernel)
set_option maxRecDepth 20000 in
theorem gX7_rowOf_X7_isRow : GoodIn wsX7_rowOf (wsV RX7 77 RX7 yX7_isRow wsX7_isRow) := goodIn_app (goodIn_of _ (by decide +kernel)) ggX7_rowOf_X7_isRow
set_option maxRecDepth 20000 in
theorem ggX7_rowOf_X3_cutOf : GoodIn wsX7_rowOf wsX3_cutOf := goodIn_r _ [14, 15, 16, 17, 18, 19, 13, 20, 21, 22, 23, 24, 25, 26, 33, 34, 35, 36, 37, 38, 39, 40, 41] (by decide +kernel) (by decide +kernel)
set_option maxRecDepth 20000 in
theorem gX7_rowOf_X3_cutOf : GoodIn wsX7_rowOf (wsV RX7 86 RX3 yX3_cutOf wsX3_cutOf) := goodIn_app (goodIn_of _ (by decide +kernel)) ggX7_rowOf_X3_cutOf
theorem dX7_rowOf_0 : decode cX7_rowOf 0 = .ok (.aload_n 0, 1) := by decide +kernel
theorem dX7_rowOf_1 : decode cX7_rowOf 1 = .ok (.iload_n 1, 1) := by decide +kernel
theorem dX7_rowOf_2 : decode cX7_rowOf 2 = .ok (.invokevirtual 77, 3) := by decide +kernel
theorem dX7_rowOf_5 : decode cX7_rowOf 5 = .ok (.ifCond .ne 5, 3) := by decide +kernel
theorem dX7_rowOf_8 : decode cX7_rowOf 8 = .ok (.iconst (-1), 1) := by decide +kernel
theorem dX7_rowOf_9 : decode cX7_rowOf 9 = .ok (.ireturn, 1) := by decide +kernel
theorem dX7_rowOf_10 : decode cX7_rowOf 10 = .ok (.iload_n 2, 1) := by decide +kernel
theorem dX7_rowOf_11 : decode cX7_rowOf 11 = .ok (.tableswitch 54 0 2 #[25, 35, 45], 25) := by decide +kernel
theorem dX7_rowOf_36 : decode cX7_rowOf 36 = .ok (.aload_n 0, 1) := by decide +kernel
theorem dX7_rowOf_37 : decode cX7_rowOf 37 = .ok (.getfield 10, 3) := by decide +kernel
theorem dX7_rowOf_40 : decode cX7_rowOf 40 = .ok (.getfield 80, 3) := by decide +kernel
theorem dX7_rowOf_43 : decode cX7_rowOf 43 = .ok (.iload_n 1, 1) := by decide +kernel
theorem dX7_rowOf_44 : decode cX7_rowOf 44 = .ok (.iaload, 1) := by decide +kernel
theorem dX7_rowOf_45 : decode cX7_rowOf 45 = .ok (.ireturn, 1) := by decide +kernel
theorem dX7_rowOf_46 : decode cX7_rowOf 46 = .ok (.aload_n 0, 1) := by decide +kernel
theorem dX7_rowOf_47 : decode cX7_rowOf 47 = .ok (.getfield 10, 3) := by decide +kernel
theorem dX7_rowOf_50 : decode cX7_rowOf 50 = .ok (.getfield 83, 3) := by decide +kernel
theorem dX7_rowOf_53 : decode cX7_rowOf 53 = .ok (.iload_n 1, 1) := by decide +kernel
theorem dX7_rowOf_54 : decode cX7_rowOf 54 = .ok (.iaload, 1) := by decide +kernel
theorem dX7_rowOf_55 : decode cX7_rowOf 55 = .ok (.ireturn, 1) := by decide +kernel
theorem dX7_rowOf_56 : decode cX7_rowOf 56 = .ok (.aload_n 0, 1) := by decide +kernel
theorem dX7_rowOf_57 : decode cX7_rowOf 57 = .ok (.getfield 10, 3) := by decide +kernel
theorem dX7_rowOf_60 : decode cX7_rowOf 60 = .ok (.iload_n 1, 1) := by decide +kernel
theorem dX7_rowOf_61 : decode cX7_rowOf 61 = .ok (.invokevirtual 86, 3) := by decide +kernel
theorem dX7_rowOf_64 : decode cX7_rowOf 64 = .ok (.ireturn, 1) := by decide +kernel
theorem dX7_rowOf_65 : decode cX7_rowOf 65 = .ok (.iconst (-1), 1) := by decide +kernel
theorem dX7_rowOf_66 : decode cX7_rowOf 66 = .ok (.ireturn, 1) := by decide +kernel
set_option maxRecDepth 20000 in
theorem ggX7_slate_X7_isRow : GoodIn wsX7_slate wsX7_isRow := goodIn_r _ [7, 1, 8, 15, 16, 17, 18, 19, 20, 21, 22, 23, 24, 25, 26, 27, 28, 29] (by decide +kernel) (by decide +kernel)
set_option maxRecDepth 20000 in
theorem gX7_slate_X7_isRow : GoodIn wsX7_slate (wsV RX7 77 RX7 yX7_isRow wsX7_isRow) := goodIn_app (goodIn_of _ (by decide +kernel)) ggX7_slate_X7_isRow
set_option maxRecDepth 20000 in
theorem ggX7_slate_X3_slateAt : GoodIn wsX7_slate wsX3_slateAt := goodIn_r _ [13, 14, 21, 22, 23, 24, 25, 26, 27, 28, 29] (by decide +kernel) (by decide +kernel)
set_option maxRecDepth 20000 in
theorem gX7_slate_X3_slateAt : GoodIn wsX7_slate (wsV RX7 90 RX3 yX3_slateAt wsX3_slateAt) := goodIn_app (goodIn_of _ (by decide +kernel)) ggX7_slate_X3_slateAt
theorem dX7_slate_0 : decode cX7_slate 0 = .ok (.aload_n 0, 1) := by decide +kernel
theorem dX7_slate_1 : decode cX7_slate 1 = .ok (.iload_n 1, 1) := by decide +kernel
theorem dX7_slate_2 : decode cX7_slate 2 = .ok (.invokevirtual 77, 3) := by decide +kernel
theorem dX7_slate_5 : decode cX7_slate 5 = .ok (.ifCond .eq 7, 3) := by decide +kernel
theorem dX7_slate_8 : decode cX7_slate 8 = .ok (.iload_n 2, 1) := by decide +kernel
theorem dX7_slate_9 : decode cX7_slate 9 = .ok (.ifCond .ge 5, 3) := by decide +kernel
theorem dX7_slate_12 : decode cX7_slate 12 = .ok (.iconst (-1), 1) := by decide +kernel
theorem dX7_slate_13 : decode cX7_slate 13 = .ok (.ireturn, 1) := by decide +kernel
theorem dX7_slate_14 : decode cX7_slate 14 = .ok (.iload_n 2, 1) := by decide +kernel
theorem dX7_slate_15 : decode cX7_slate 15 = .ok (.aload_n 0, 1) := by decide +kernel
theorem dX7_slate_16 : decode cX7_slate 16 = .ok (.getfield 10, 3) := by decide +kernel
theorem dX7_slate_19 : decode cX7_slate 19 = .ok (.getfield 83, 3) := by decide +kernel
theorem dX7_slate_22 : decode cX7_slate 22 = .ok (.iload_n 1, 1) := by decide +kernel
theorem dX7_slate_23 : decode cX7_slate 23 = .ok (.iaload, 1) := by decide +kernel
theorem dX7_slate_24 : decode cX7_slate 24 = .ok (.if_icmp .ge 15, 3) := by decide +kernel
theorem dX7_slate_27 : decode cX7_slate 27 = .ok (.aload_n 0, 1) := by decide +kernel
theorem dX7_slate_28 : decode cX7_slate 28 = .ok (.getfield 10, 3) := by decide +kernel
theorem dX7_slate_31 : decode cX7_slate 31 = .ok (.iload_n 1, 1) := by decide +kernel
theorem dX7_slate_32 : decode cX7_slate 32 = .ok (.iload_n 2, 1) := by decide +kernel
theorem dX7_slate_33 : decode cX7_slate 33 = .ok (.invokevirtual 90, 3) := by decide +kernel
theorem dX7_slate_36 : decode cX7_slate 36 = .ok (.goto 5, 3) := by decide +kernel
theorem dX7_slate_39 : decode cX7_slate 39 = .ok (.bipush (-4), 2) := by decide +kernel
theorem dX7_slate_41 : decode cX7_slate 41 = .ok (.ireturn, 1) := by decide +kernel
set_option maxRecDepth 20000 in
theorem ggX7_joint_X7_isRow : GoodIn wsX7_joint wsX7_isRow := goodIn_r _ [7, 1, 8, 21, 22, 23, 24, 25, 26, 27, 28, 29, 30, 31, 32, 33, 34, 35] (by decide +kernel) (by decide +kernel)
set_option maxRecDepth 20000 in
theorem gX7_joint_X7_isRow : GoodIn wsX7_joint (wsV RX7 77 RX7 yX7_isRow wsX7_isRow) := goodIn_app (goodIn_of _ (by decide +kernel)) ggX7_joint_X7_isRow
set_option maxRecDepth 20000 in
theorem ggX7_joint_X3_endOf : GoodIn wsX7_joint wsX3_endOf := goodIn_r _ [13, 14, 15, 16, 17, 18, 12, 19, 20, 27, 28, 29, 30, 31, 32, 33, 34, 35] (by decide +kernel) (by decide +kernel)
set_option maxRecDepth 20000 in
theorem gX7_joint_X3_endOf : GoodIn wsX7_joint (wsV RX7 94 RX3 yX3_endOf wsX3_endOf) := goodIn_app (goodIn_of _ (by decide +kernel)) ggX7_joint_X3_endOf
theorem dX7_joint_0 : decode cX7_joint 0 = .ok (.aload_n 0, 1) := by decide +kernel
theorem dX7_joint_1 : decode cX7_joint 1 = .ok (.iload_n 1, 1) := by decide +kernel
theorem dX7_joint_2 : decode cX7_joint 2 = .ok (.invokevirtual 77, 3) := by decide +kernel
theorem dX7_joint_5 : decode cX7_joint 5 = .ok (.ifCond .eq 7, 3) := by decide +kernel
theorem dX7_joint_8 : decode cX7_joint 8 = .ok (.iload_n 2, 1) := by decide +kernel
theorem dX7_joint_9 : decode cX7_joint 9 = .ok (.ifCond .ge 5, 3) := by decide +kernel
theorem dX7_joint_12 : decode cX7_joint 12 = .ok (.iconst (-1), 1) := by decide +kernel
theorem dX7_joint_13 : decode cX7_joint 13 = .ok (.ireturn, 1) := by decide +kernel
theorem dX7_joint_14 : decode cX7_joint 14 = .ok (.iload_n 2, 1) := by decide +kernel
theorem dX7_joint_15 : decode cX7_joint 15 = .ok (.aload_n 0, 1) := by decide +kernel
theorem dX7_joint_16 : decode cX7_joint 16 = .ok (.getfield 10, 3) := by decide +kernel
theorem dX7_joint_19 : decode cX7_joint 19 = .ok (.getfield 83, 3) := by decide +kernel
theorem dX7_joint_22 : decode cX7_joint 22 = .ok (.iload_n 1, 1) := by decide +kernel
theorem dX7_joint_23 : decode cX7_joint 23 = .ok (.iaload, 1) := by decide +kernel
theorem dX7_joint_24 : decode cX7_joint 24 = .ok (.iconst 1, 1) := by decide +kernel
theorem dX7_joint_25 : decode cX7_joint 25 = .ok (.isub, 1) := by decide +kernel
theorem dX7_joint_26 : decode cX7_joint 26 = .ok (.if_icmp .ge 15, 3) := by decide +kernel
theorem dX7_joint_29 : decode cX7_joint 29 = .ok (.aload_n 0, 1) := by decide +kernel
theorem dX7_joint_30 : decode cX7_joint 30 = .ok (.getfield 10, 3) := by decide +kernel
theorem dX7_joint_33 : decode cX7_joint 33 = .ok (.iload_n 1, 1) := by decide +kernel
theorem dX7_joint_34 : decode cX7_joint 34 = .ok (.iload_n 2, 1) := by decide +kernel
theorem dX7_joint_35 : decode cX7_joint 35 = .ok (.invokevirtual 94, 3) := by decide +kernel
theorem dX7_joint_38 : decode cX7_joint 38 = .ok (.goto 5, 3) := by decide +kernel
theorem dX7_joint_41 : decode cX7_joint 41 = .ok (.bipush (-4), 2) := by decide +kernel
theorem dX7_joint_43 : decode cX7_joint 43 = .ok (.ireturn, 1) := by decide +kernel
set_option maxRecDepth 20000 in
theorem ggX7_may_X7_isRow : GoodIn wsX7_may wsX7_isRow := goodIn_r _ [7, 1, 8, 26, 27, 28, 29, 30, 31, 32, 33, 34, 35, 36, 37, 38, 39, 40] (by decide +kernel) (by decide +kernel)
set_option maxRecDepth 20000 in
theorem gX7_may_X7_isRow : GoodIn wsX7_may (wsV RX7 77 RX7 yX7_isRow wsX7_isRow) := goodIn_app (goodIn_of _ (by decide +kernel)) ggX7_may_X7_isRow
set_option maxRecDepth 20000 in
theorem ggX7_may_X3_allowsJoint : GoodIn wsX7_may wsX3_allowsJoint := goodIn_r _ [13, 14, 15, 16, 17, 18, 19, 20, 21, 22, 23, 12, 24, 25, 32, 33, 34, 35, 36, 37, 38, 39, 40] (by decide +kernel) (by decide +kernel)
set_option maxRecDepth 20000 in
theorem gX7_may_X3_allowsJoint : GoodIn wsX7_may (wsV RX7 97 RX3 yX3_allowsJoint wsX3_allowsJoint) := goodIn_app (goodIn_of _ (by decide +kernel)) ggX7_may_X3_allowsJoint
theorem dX7_may_0 : decode cX7_may 0 = .ok (.aload_n 0, 1) := by decide +kernel
theorem dX7_may_1 : decode cX7_may 1 = .ok (.iload_n 1, 1) := by decide +kernel
theorem dX7_may_2 : decode cX7_may 2 = .ok (.invokevirtual 77, 3) := by decide +kernel
theorem dX7_may_5 : decode cX7_may 5 = .ok (.ifCond .eq 21, 3) := by decide +kernel
theorem dX7_may_8 : decode cX7_may 8 = .ok (.iload_n 2, 1) := by decide +kernel
theorem dX7_may_9 : decode cX7_may 9 = .ok (.iconst 1, 1) := by decide +kernel
theorem dX7_may_10 : decode cX7_may 10 = .ok (.if_icmp .lt 16, 3) := by decide +kernel
theorem dX7_may_13 : decode cX7_may 13 = .ok (.iload_n 2, 1) := by decide +kernel
theorem dX7_may_14 : decode cX7_may 14 = .ok (.aload_n 0, 1) := by decide +kernel
theorem dX7_may_15 : decode cX7_may 15 = .ok (.getfield 10, 3) := by decide +kernel
theorem dX7_may_18 : decode cX7_may 18 = .ok (.getfield 80, 3) := by decide +kernel
theorem dX7_may_21 : decode cX7_may 21 = .ok (.iload_n 1, 1) := by decide +kernel
theorem dX7_may_22 : decode cX7_may 22 = .ok (.iaload, 1) := by decide +kernel
theorem dX7_may_23 : decode cX7_may 23 = .ok (.if_icmp .lt 5, 3) := by decide +kernel
theorem dX7_may_26 : decode cX7_may 26 = .ok (.iconst (-1), 1) := by decide +kernel
theorem dX7_may_27 : decode cX7_may 27 = .ok (.ireturn, 1) := by decide +kernel
theorem dX7_may_28 : decode cX7_may 28 = .ok (.aload_n 0, 1) := by decide +kernel
theorem dX7_may_29 : decode cX7_may 29 = .ok (.getfield 10, 3) := by decide +kernel
theorem dX7_may_32 : decode cX7_may 32 = .ok (.iload_n 1, 1) := by decide +kernel
theorem dX7_may_33 : decode cX7_may 33 = .ok (.iload_n 2, 1) := by decide +kernel
theorem dX7_may_34 : decode cX7_may 34 = .ok (.invokevirtual 97, 3) := by decide +kernel
theorem dX7_may_37 : decode cX7_may 37 = .ok (.ifCond .eq 7, 3) := by decide +kernel
theorem dX7_may_40 : decode cX7_may 40 = .ok (.iconst 1, 1) := by decide +kernel
theorem dX7_may_41 : decode cX7_may 41 = .ok (.goto 4, 3) := by decide +kernel
theorem dX7_may_44 : decode cX7_may 44 = .ok (.iconst 0, 1) := by decide +kernel
theorem dX7_may_45 : decode cX7_may 45 = .ok (.ireturn, 1) := by decide +kernel
set_option maxRecDepth 20000 in
theorem ggX7_judge_X7_refusalOfTold : GoodIn wsX7_judge wsX7_refusalOfTold := goodIn_r _ [7, 8, 9, 10, 6, 11, 12, 13, 14, 15, 1, 16, 17, 18, 19, 20, 21, 22, 23, 24, 25, 2, 26, 60, 61, 62, 63, 64, 65, 66, 67, 68, 69, 70, 71, 72, 73, 74, 75, 76, 77, 78, 79] (by decide +kernel) (by decide +kernel)
set_option maxRecDepth 20000 in
theorem gX7_judge_X7_refusalOfTold : GoodIn wsX7_judge (wsV RX7 101 RX7 yX7_refusalOfTold wsX7_refusalOfTold) := goodIn_app (goodIn_of _ (by decide +kernel)) ggX7_judge_X7_refusalOfTold
set_option maxRecDepth 20000 in
theorem ggX7_judge_X3_faultOf : GoodIn wsX7_judge wsX3_faultOf := goodIn_r _ [31, 32, 33, 34, 35, 36, 37, 38, 39, 40, 41, 42, 43, 44, 45, 46, 47, 30, 48, 49, 50, 51, 52, 53, 54, 55, 56, 57, 58, 59, 75, 76, 77, 78, 79, 66, 67, 68, 69, 70, 71, 72, 73, 74] (by decide +kernel) (by decide +kernel)
set_option maxRecDepth 20000 in
theorem gX7_judge_X3_faultOf : GoodIn wsX7_judge (wsV RX7 104 RX3 yX3_faultOf wsX3_faultOf) := goodIn_app (goodIn_of _ (by decide +kernel)) ggX7_judge_X3_faultOf
theorem dX7_judge_0 : decode cX7_judge 0 = .ok (.aload_n 0, 1) := by decide +kernel
theorem dX7_judge_1 : decode cX7_judge 1 = .ok (.iload_n 1, 1) := by decide +kernel
theorem dX7_judge_2 : decode cX7_judge 2 = .ok (.iload_n 2, 1) := by decide +kernel
theorem dX7_judge_3 : decode cX7_judge 3 = .ok (.invokevirtual 101, 3) := by decide +kernel
theorem dX7_judge_6 : decode cX7_judge 6 = .ok (.istore_n 3, 1) := by decide +kernel
theorem dX7_judge_7 : decode cX7_judge 7 = .ok (.iload_n 3, 1) := by decide +kernel
theorem dX7_judge_8 : decode cX7_judge 8 = .ok (.ifCond .ne 20, 3) := by decide +kernel
theorem dX7_judge_11 : decode cX7_judge 11 = .ok (.aload_n 0, 1) := by decide +kernel
theorem dX7_judge_12 : decode cX7_judge 12 = .ok (.getfield 10, 3) := by decide +kernel
theorem dX7_judge_15 : decode cX7_judge 15 = .ok (.iload_n 1, 1) := by decide +kernel
theorem dX7_judge_16 : decode cX7_judge 16 = .ok (.aload_n 0, 1) := by decide +kernel
theorem dX7_judge_17 : decode cX7_judge 17 = .ok (.getfield 24, 3) := by decide +kernel
theorem dX7_judge_20 : decode cX7_judge 20 = .ok (.iload_n 2, 1) := by decide +kernel
theorem dX7_judge_21 : decode cX7_judge 21 = .ok (.aaload, 1) := by decide +kernel
theorem dX7_judge_22 : decode cX7_judge 22 = .ok (.invokevirtual 104, 3) := by decide +kernel
theorem dX7_judge_25 : decode cX7_judge 25 = .ok (.goto 4, 3) := by decide +kernel
theorem dX7_judge_28 : decode cX7_judge 28 = .ok (.iload_n 3, 1) := by decide +kernel
theorem dX7_judge_29 : decode cX7_judge 29 = .ok (.ireturn, 1) := by decide +kernel
set_option maxRecDepth 20000 in
theorem ggX7_lay_X7_refusalOfTold : GoodIn wsX7_lay wsX7_refusalOfTold := goodIn_r _ [9, 10, 11, 12, 8, 13, 14, 15, 16, 17, 2, 18, 19, 20, 21, 22, 23, 24, 25, 26, 27, 1, 28, 77, 78, 79, 80, 81, 82, 88, 89, 90, 91, 92, 93, 94, 95, 96, 83, 84, 85, 86, 87] (by decide +kernel) (by decide +kernel)
set_option maxRecDepth 20000 in
theorem gX7_lay_X7_refusalOfTold : GoodIn wsX7_lay (wsV RX7 101 RX7 yX7_refusalOfTold wsX7_refusalOfTold) := goodIn_app (goodIn_of _ (by decide +kernel)) ggX7_lay_X7_refusalOfTold
set_option maxRecDepth 20000 in
theorem ggX7_lay_X3_faultOf : GoodIn wsX7_lay wsX3_faultOf := goodIn_r _ [33, 34, 35, 36, 37, 38, 39, 40, 41, 42, 43, 44, 45, 46, 47, 48, 49, 32, 50, 51, 52, 53, 54, 55, 56, 57, 58, 59, 60, 61, 83, 84, 85, 86, 87, 88, 89, 90, 91, 92, 93, 94, 95, 96] (by decide +kernel) (by decide +kernel)
set_option maxRecDepth 20000 in
theorem gX7_lay_X3_faultOf : GoodIn wsX7_lay (wsV RX7 104 RX3 yX3_faultOf wsX3_faultOf) := goodIn_app (goodIn_of _ (by decide +kernel)) ggX7_lay_X3_faultOf
set_option maxRecDepth 20000 in
theorem ggX7_lay_X3_putDown : GoodIn wsX7_lay wsX3_putDown := goodIn_r _ [65, 66, 67, 54, 68, 61, 37, 51, 88, 89, 90, 91, 92, 93, 94, 95, 96] (by decide +kernel) (by decide +kernel)
set_option maxRecDepth 20000 in
theorem gX7_lay_X3_putDown : GoodIn wsX7_lay (wsV RX7 114 RX3 yX3_putDown wsX3_putDown) := goodIn_app (goodIn_of _ (by decide +kernel)) ggX7_lay_X3_putDown
set_option maxRecDepth 20000 in
theorem ggX7_lay_X3_cutOf : GoodIn wsX7_lay wsX3_cutOf := goodIn_r _ [72, 51, 38, 73, 74, 75, 32, 76, 39, 57, 58, 59, 60, 61, 88, 89, 90, 91, 92, 93, 94, 95, 96] (by decide +kernel) (by decide +kernel)
set_option maxRecDepth 20000 in
theorem gX7_lay_X3_cutOf : GoodIn wsX7_lay (wsV RX7 86 RX3 yX3_cutOf wsX3_cutOf) := goodIn_app (goodIn_of _ (by decide +kernel)) ggX7_lay_X3_cutOf
theorem dX7_lay_0 : decode cX7_lay 0 = .ok (.aload_n 0, 1) := by decide +kernel
theorem dX7_lay_1 : decode cX7_lay 1 = .ok (.iload_n 1, 1) := by decide +kernel
theorem dX7_lay_2 : decode cX7_lay 2 = .ok (.iload_n 2, 1) := by decide +kernel
theorem dX7_lay_3 : decode cX7_lay 3 = .ok (.invokevirtual 101, 3) := by decide +kernel
theorem dX7_lay_6 : decode cX7_lay 6 = .ok (.istore_n 3, 1) := by decide +kernel
theorem dX7_lay_7 : decode cX7_lay 7 = .ok (.iload_n 3, 1) := by decide +kernel
theorem dX7_lay_8 : decode cX7_lay 8 = .ok (.ifCond .eq 5, 3) := by decide +kernel
theorem dX7_lay_11 : decode cX7_lay 11 = .ok (.iload_n 3, 1) := by decide +kernel
theorem dX7_lay_12 : decode cX7_lay 12 = .ok (.ireturn, 1) := by decide +kernel
theorem dX7_lay_13 : decode cX7_lay 13 = .ok (.aload_n 0, 1) := by decide +kernel
theorem dX7_lay_14 : decode cX7_lay 14 = .ok (.getfield 24, 3) := by decide +kernel
theorem dX7_lay_17 : decode cX7_lay 17 = .ok (.iload_n 2, 1) := by decide +kernel
theorem dX7_lay_18 : decode cX7_lay 18 = .ok (.aaload, 1) := by decide +kernel
theorem dX7_lay_19 : decode cX7_lay 19 = .ok (.astore 4, 2) := by decide +kernel
theorem dX7_lay_21 : decode cX7_lay 21 = .ok (.aload_n 0, 1) := by decide +kernel
theorem dX7_lay_22 : decode cX7_lay 22 = .ok (.getfield 10, 3) := by decide +kernel
theorem dX7_lay_25 : decode cX7_lay 25 = .ok (.iload_n 1, 1) := by decide +kernel
theorem dX7_lay_26 : decode cX7_lay 26 = .ok (.aload 4, 2) := by decide +kernel
theorem dX7_lay_28 : decode cX7_lay 28 = .ok (.invokevirtual 104, 3) := by decide +kernel
theorem dX7_lay_31 : decode cX7_lay 31 = .ok (.bipush (-4), 2) := by decide +kernel
theorem dX7_lay_33 : decode cX7_lay 33 = .ok (.if_icmp .eq 6, 3) := by decide +kernel
theorem dX7_lay_36 : decode cX7_lay 36 = .ok (.bipush (-3), 2) := by decide +kernel
theorem dX7_lay_38 : decode cX7_lay 38 = .ok (.ireturn, 1) := by decide +kernel
theorem dX7_lay_39 : decode cX7_lay 39 = .ok (.aload_n 0, 1) := by decide +kernel
theorem dX7_lay_40 : decode cX7_lay 40 = .ok (.getfield 10, 3) := by decide +kernel
theorem dX7_lay_43 : decode cX7_lay 43 = .ok (.iload_n 1, 1) := by decide +kernel
theorem dX7_lay_44 : decode cX7_lay 44 = .ok (.aload 4, 2) := by decide +kernel
theorem dX7_lay_46 : decode cX7_lay 46 = .ok (.getfield 108, 3) := by decide +kernel
theorem dX7_lay_49 : decode cX7_lay 49 = .ok (.aload 4, 2) := by decide +kernel
theorem dX7_lay_51 : decode cX7_lay 51 = .ok (.getfield 111, 3) := by decide +kernel
theorem dX7_lay_54 : decode cX7_lay 54 = .ok (.invokevirtual 114, 3) := by decide +kernel
theorem dX7_lay_57 : decode cX7_lay 57 = .ok (.aload_n 0, 1) := by decide +kernel
theorem dX7_lay_58 : decode cX7_lay 58 = .ok (.getfield 10, 3) := by decide +kernel
theorem dX7_lay_61 : decode cX7_lay 61 = .ok (.iload_n 1, 1) := by decide +kernel
theorem dX7_lay_62 : decode cX7_lay 62 = .ok (.invokevirtual 86, 3) := by decide +kernel
theorem dX7_lay_65 : decode cX7_lay 65 = .ok (.ireturn, 1) := by decide +kernel
set_option maxRecDepth 20000 in
theorem ggX7_takeUp_X7_isRow : GoodIn wsX7_takeUp wsX7_isRow := goodIn_r _ [7, 1, 8, 35, 36, 37, 38, 39, 40, 41, 42, 43, 44, 45, 46, 47, 48, 49] (by decide +kernel) (by decide +kernel)
set_option maxRecDepth 20000 in
theorem gX7_takeUp_X7_isRow : GoodIn wsX7_takeUp (wsV RX7 77 RX7 yX7_isRow wsX7_isRow) := goodIn_app (goodIn_of _ (by decide +kernel)) ggX7_takeUp_X7_isRow
set_option maxRecDepth 20000 in
theorem ggX7_takeUp_X3_bringBack : GoodIn wsX7_takeUp wsX3_bringBack := goodIn_r _ [13, 14, 15, 16, 17, 18, 12, 19, 20, 21, 22, 23, 24, 25, 26, 27, 28, 29, 30, 31, 32, 33, 34, 41, 42, 43, 44, 45, 46, 47, 48, 49] (by decide +kernel) (by decide +kernel)
set_option maxRecDepth 20000 in
theorem gX7_takeUp_X3_bringBack : GoodIn wsX7_takeUp (wsV RX7 118 RX3 yX3_bringBack wsX3_bringBack) := goodIn_app (goodIn_of _ (by decide +kernel)) ggX7_takeUp_X3_bringBack
theorem dX7_takeUp_0 : decode cX7_takeUp 0 = .ok (.aload_n 0, 1) := by decide +kernel
theorem dX7_takeUp_1 : decode cX7_takeUp 1 = .ok (.iload_n 1, 1) := by decide +kernel
theorem dX7_takeUp_2 : decode cX7_takeUp 2 = .ok (.invokevirtual 77, 3) := by decide +kernel
theorem dX7_takeUp_5 : decode cX7_takeUp 5 = .ok (.ifCond .ne 5, 3) := by decide +kernel
theorem dX7_takeUp_8 : decode cX7_takeUp 8 = .ok (.iconst (-1), 1) := by decide +kernel
theorem dX7_takeUp_9 : decode cX7_takeUp 9 = .ok (.ireturn, 1) := by decide +kernel
theorem dX7_takeUp_10 : decode cX7_takeUp 10 = .ok (.aload_n 0, 1) := by decide +kernel
theorem dX7_takeUp_11 : decode cX7_takeUp 11 = .ok (.getfield 10, 3) := by decide +kernel
theorem dX7_takeUp_14 : decode cX7_takeUp 14 = .ok (.getfield 83, 3) := by decide +kernel
theorem dX7_takeUp_17 : decode cX7_takeUp 17 = .ok (.iload_n 1, 1) := by decide +kernel
theorem dX7_takeUp_18 : decode cX7_takeUp 18 = .ok (.iaload, 1) := by decide +kernel
theorem dX7_takeUp_19 : decode cX7_takeUp 19 = .ok (.ifCond .ne 8, 3) := by decide +kernel
theorem dX7_takeUp_22 : decode cX7_takeUp 22 = .ok (.bipush (-3), 2) := by decide +kernel
theorem dX7_takeUp_24 : decode cX7_takeUp 24 = .ok (.goto 11, 3) := by decide +kernel
theorem dX7_takeUp_27 : decode cX7_takeUp 27 = .ok (.aload_n 0, 1) := by decide +kernel
theorem dX7_takeUp_28 : decode cX7_takeUp 28 = .ok (.getfield 10, 3) := by decide +kernel
theorem dX7_takeUp_31 : decode cX7_takeUp 31 = .ok (.iload_n 1, 1) := by decide +kernel
theorem dX7_takeUp_32 : decode cX7_takeUp 32 = .ok (.invokevirtual 118, 3) := by decide +kernel
theorem dX7_takeUp_35 : decode cX7_takeUp 35 = .ok (.ireturn, 1) := by decide +kernel
set_option maxRecDepth 20000 in
theorem ggX7_fills_X7_refusalOfOpen : GoodIn wsX7_fills wsX7_refusalOfOpen := goodIn_r _ [6, 1, 7, 8, 9, 10, 5, 11, 12, 120, 121, 122, 123, 124, 125, 126, 127, 128, 129, 130, 131, 132, 133, 134] (by decide +kernel) (by decide +kernel)
set_option maxRecDepth 20000 in
theorem gX7_fills_X7_refusalOfOpen : GoodIn wsX7_fills (wsV RX7 121 RX7 yX7_refusalOfOpen wsX7_refusalOfOpen) := goodIn_app (goodIn_of _ (by decide +kernel)) ggX7_fills_X7_refusalOfOpen
set_option maxRecDepth 20000 in
theorem ggX7_fills_X7_waysOf : GoodIn wsX7_fills wsX7_waysOf := goodIn_r _ [16, 17, 18, 19, 20, 5, 21, 22, 23, 24, 25, 26, 27, 28, 29, 30, 31, 32, 33, 34, 35, 36, 37, 38, 39, 40, 41, 42, 43, 44, 45, 46, 47, 48, 49, 50, 51, 52, 53, 54, 55, 56, 57, 58, 59, 60, 61, 62, 63, 64, 65, 66, 67, 68, 69, 70, 71, 72, 73, 74, 75, 76, 77, 78, 79, 80, 81, 82, 83, 84, 85, 86, 87, 88, 89, 90, 91, 92, 93, 94, 95, 96, 97, 126, 127, 128, 129, 130, 131, 132, 133, 134, 120, 121, 122, 123, 124, 125, 135, 136, 137, 138, 139, 140, 141, 142, 143, 144, 145, 146, 147, 148] (by decide +kernel) (by decide +kernel)
set_option maxRecDepth 20000 in
theorem gX7_fills_X7_waysOf : GoodIn wsX7_fills (wsV RX7 125 RX7 yX7_waysOf wsX7_waysOf) := goodIn_app (goodIn_of _ (by decide +kernel)) ggX7_fills_X7_waysOf
set_option maxRecDepth 20000 in
theorem ggX7_fills_X6_number : GoodIn wsX7_fills wsX6_number := goodIn_r _ [101, 102, 103, 104, 25, 105, 43, 44, 41, 47, 56, 52, 53, 54, 55, 40, 106, 107, 108, 109, 110, 111, 112, 113, 114, 39, 57, 42, 37, 35, 115, 87, 88, 89, 90, 38, 78, 91, 92, 93, 94, 116, 117, 118, 119, 83, 84, 85, 86, 36, 135, 136, 137, 138, 139, 140, 141, 142, 143, 144, 145, 146, 147, 148, 126, 127, 128, 129, 130, 131, 132, 133, 134] (by decide +kernel) (by decide +kernel)
set_option maxRecDepth 20000 in
theorem gX7_fills_X6_number : GoodIn wsX7_fills (wsV RX7 129 RX6 yX6_number wsX6_number) := goodIn_app (goodIn_of _ (by decide +kernel)) ggX7_fills_X6_number
theorem dX7_fills_0 : decode cX7_fills 0 = .ok (.aload_n 0, 1) := by decide +kernel
theorem dX7_fills_1 : decode cX7_fills 1 = .ok (.iload_n 1, 1) := by decide +kernel
theorem dX7_fills_2 : decode cX7_fills 2 = .ok (.iconst 1, 1) := by decide +kernel
theorem dX7_fills_3 : decode cX7_fills 3 = .ok (.invokevirtual 121, 3) := by decide +kernel
theorem dX7_fills_6 : decode cX7_fills 6 = .ok (.istore_n 2, 1) := by decide +kernel
theorem dX7_fills_7 : decode cX7_fills 7 = .ok (.iload_n 2, 1) := by decide +kernel
theorem dX7_fills_8 : decode cX7_fills 8 = .ok (.ifCond .ne 18, 3) := by decide +kernel
theorem dX7_fills_11 : decode cX7_fills 11 = .ok (.aload_n 0, 1) := by decide +kernel
theorem dX7_fills_12 : decode cX7_fills 12 = .ok (.aload_n 0, 1) := by decide +kernel
theorem dX7_fills_13 : decode cX7_fills 13 = .ok (.getfield 10, 3) := by decide +kernel
theorem dX7_fills_16 : decode cX7_fills 16 = .ok (.iload_n 1, 1) := by decide +kernel
theorem dX7_fills_17 : decode cX7_fills 17 = .ok (.invokevirtual 125, 3) := by decide +kernel
theorem dX7_fills_20 : decode cX7_fills 20 = .ok (.invokevirtual 129, 3) := by decide +kernel
theorem dX7_fills_23 : decode cX7_fills 23 = .ok (.goto 4, 3) := by decide +kernel
theorem dX7_fills_26 : decode cX7_fills 26 = .ok (.iload_n 2, 1) := by decide +kernel
theorem dX7_fills_27 : decode cX7_fills 27 = .ok (.ireturn, 1) := by decide +kernel
set_option maxRecDepth 20000 in
theorem ggX7_first_X7_refusalOfOpen : GoodIn wsX7_first wsX7_refusalOfOpen := goodIn_r _ [6, 1, 7, 8, 9, 10, 5, 11, 12, 132, 133, 134, 135, 136, 137, 138, 139, 140, 141, 142, 143, 144, 145, 146] (by decide +kernel) (by decide +kernel)
set_option maxRecDepth 20000 in
theorem gX7_first_X7_refusalOfOpen : GoodIn wsX7_first (wsV RX7 121 RX7 yX7_refusalOfOpen wsX7_refusalOfOpen) := goodIn_app (goodIn_of _ (by decide +kernel)) ggX7_first_X7_refusalOfOpen
set_option maxRecDepth 20000 in
theorem ggX7_first_X7_waysOf : GoodIn wsX7_first wsX7_waysOf := goodIn_r _ [16, 17, 18, 19, 20, 5, 21, 22, 23, 24, 25, 26, 27, 28, 29, 30, 31, 32, 33, 34, 35, 36, 37, 38, 39, 40, 41, 42, 43, 44, 45, 46, 47, 48, 49, 50, 51, 52, 53, 54, 55, 56, 57, 58, 59, 60, 61, 62, 63, 64, 65, 66, 67, 68, 69, 70, 71, 72, 73, 74, 75, 76, 77, 78, 79, 80, 81, 82, 83, 84, 85, 86, 87, 88, 89, 90, 91, 92, 93, 94, 95, 96, 97, 138, 139, 140, 141, 142, 143, 144, 145, 146, 132, 133, 134, 135, 136, 137, 147, 148, 149, 150, 151, 152, 153, 154, 155, 156, 157, 158, 159, 160] (by decide +kernel) (by decide +kernel)
set_option maxRecDepth 20000 in
theorem gX7_first_X7_waysOf : GoodIn wsX7_first (wsV RX7 125 RX7 yX7_waysOf wsX7_waysOf) := goodIn_app (goodIn_of _ (by decide +kernel)) ggX7_first_X7_waysOf
set_option maxRecDepth 20000 in
theorem ggX7_first_X6_findFirst : GoodIn wsX7_first wsX6_findFirst := goodIn_r _ [101, 102, 103, 104, 25, 105, 43, 44, 41, 47, 56, 52, 53, 54, 55, 40, 106, 107, 108, 109, 110, 111, 112, 113, 114, 39, 57, 42, 37, 35, 115, 87, 88, 89, 90, 38, 78, 91, 92, 93, 94, 116, 117, 118, 119, 83, 84, 85, 86, 36, 120, 121, 122, 123, 46, 45, 124, 125, 126, 127, 147, 148, 149, 150, 151, 152, 153, 154, 155, 156, 157, 158, 159, 160, 138, 139, 140, 141, 142, 143, 144, 145, 146] (by decide +kernel) (by decide +kernel)
set_option maxRecDepth 20000 in
theorem gX7_first_X6_findFirst : GoodIn wsX7_first (wsV RX7 134 RX6 yX6_findFirst wsX6_findFirst) := goodIn_app (goodIn_of _ (by decide +kernel)) ggX7_first_X6_findFirst
set_option maxRecDepth 20000 in
theorem ggX7_first_X6_told : GoodIn wsX7_first wsX6_told := goodIn_r _ [131, 40, 46, 45, 147, 148, 149, 150, 151, 152, 153, 154, 155, 156, 157, 158, 159, 160] (by decide +kernel) (by decide +kernel)
set_option maxRecDepth 20000 in
theorem gX7_first_X6_told : GoodIn wsX7_first (wsV RX7 138 RX6 yX6_told wsX6_told) := goodIn_app (goodIn_of _ (by decide +kernel)) ggX7_first_X6_told
theorem dX7_first_0 : decode cX7_first 0 = .ok (.aload_n 0, 1) := by decide +kernel
theorem dX7_first_1 : decode cX7_first 1 = .ok (.iload_n 1, 1) := by decide +kernel
theorem dX7_first_2 : decode cX7_first 2 = .ok (.iload_n 2, 1) := by decide +kernel
theorem dX7_first_3 : decode cX7_first 3 = .ok (.ifCond .lt 7, 3) := by decide +kernel
theorem dX7_first_6 : decode cX7_first 6 = .ok (.iconst 1, 1) := by decide +kernel
theorem dX7_first_7 : decode cX7_first 7 = .ok (.goto 4, 3) := by decide +kernel
theorem dX7_first_10 : decode cX7_first 10 = .ok (.iconst 0, 1) := by decide +kernel
theorem dX7_first_11 : decode cX7_first 11 = .ok (.invokevirtual 121, 3) := by decide +kernel
theorem dX7_first_14 : decode cX7_first 14 = .ok (.istore_n 3, 1) := by decide +kernel
theorem dX7_first_15 : decode cX7_first 15 = .ok (.iload_n 3, 1) := by decide +kernel
theorem dX7_first_16 : decode cX7_first 16 = .ok (.ifCond .eq 5, 3) := by decide +kernel
theorem dX7_first_19 : decode cX7_first 19 = .ok (.iload_n 3, 1) := by decide +kernel
theorem dX7_first_20 : decode cX7_first 20 = .ok (.ireturn, 1) := by decide +kernel
theorem dX7_first_21 : decode cX7_first 21 = .ok (.aload_n 0, 1) := by decide +kernel
theorem dX7_first_22 : decode cX7_first 22 = .ok (.aload_n 0, 1) := by decide +kernel
theorem dX7_first_23 : decode cX7_first 23 = .ok (.getfield 10, 3) := by decide +kernel
theorem dX7_first_26 : decode cX7_first 26 = .ok (.iload_n 1, 1) := by decide +kernel
theorem dX7_first_27 : decode cX7_first 27 = .ok (.invokevirtual 125, 3) := by decide +kernel
theorem dX7_first_30 : decode cX7_first 30 = .ok (.astore 4, 2) := by decide +kernel
theorem dX7_first_32 : decode cX7_first 32 = .ok (.aload 4, 2) := by decide +kernel
theorem dX7_first_34 : decode cX7_first 34 = .ok (.invokevirtual 134, 3) := by decide +kernel
theorem dX7_first_37 : decode cX7_first 37 = .ok (.ifCond .eq 12, 3) := by decide +kernel
theorem dX7_first_40 : decode cX7_first 40 = .ok (.aload 4, 2) := by decide +kernel
theorem dX7_first_42 : decode cX7_first 42 = .ok (.iload_n 2, 1) := by decide +kernel
theorem dX7_first_43 : decode cX7_first 43 = .ok (.invokevirtual 138, 3) := by decide +kernel
theorem dX7_first_46 : decode cX7_first 46 = .ok (.goto 5, 3) := by decide +kernel
theorem dX7_first_49 : decode cX7_first 49 = .ok (.bipush (-4), 2) := by decide +kernel
theorem dX7_first_51 : decode cX7_first 51 = .ok (.ireturn, 1) := by decide +kernel
set_option maxRecDepth 20000 in
theorem ggX7_best_X7_refusalOfOpen : GoodIn wsX7_best wsX7_refusalOfOpen := goodIn_r _ [6, 1, 7, 8, 9, 10, 5, 11, 12, 132, 133, 134, 135, 136, 137, 138, 139, 140, 141, 142, 143, 144, 145, 146] (by decide +kernel) (by decide +kernel)
set_option maxRecDepth 20000 in
theorem gX7_best_X7_refusalOfOpen : GoodIn wsX7_best (wsV RX7 121 RX7 yX7_refusalOfOpen wsX7_refusalOfOpen) := goodIn_app (goodIn_of _ (by decide +kernel)) ggX7_best_X7_refusalOfOpen
set_option maxRecDepth 20000 in
theorem ggX7_best_X7_waysOf : GoodIn wsX7_best wsX7_waysOf := goodIn_r _ [16, 17, 18, 19, 20, 5, 21, 22, 23, 24, 25, 26, 27, 28, 29, 30, 31, 32, 33, 34, 35, 36, 37, 38, 39, 40, 41, 42, 43, 44, 45, 46, 47, 48, 49, 50, 51, 52, 53, 54, 55, 56, 57, 58, 59, 60, 61, 62, 63, 64, 65, 66, 67, 68, 69, 70, 71, 72, 73, 74, 75, 76, 77, 78, 79, 80, 81, 82, 83, 84, 85, 86, 87, 88, 89, 90, 91, 92, 93, 94, 95, 96, 97, 138, 139, 140, 141, 142, 143, 144, 145, 146, 132, 133, 134, 135, 136, 137, 147, 148, 149, 150, 151, 152, 153, 154, 155, 156, 157, 158, 159, 160] (by decide +kernel) (by decide +kernel)
set_option maxRecDepth 20000 in
theorem gX7_best_X7_waysOf : GoodIn wsX7_best (wsV RX7 125 RX7 yX7_waysOf wsX7_waysOf) := goodIn_app (goodIn_of _ (by decide +kernel)) ggX7_best_X7_waysOf
set_option maxRecDepth 20000 in
theorem ggX7_best_X6_findCheapest : GoodIn wsX7_best wsX6_findCheapest := goodIn_r _ [101, 102, 103, 104, 105, 25, 106, 43, 44, 41, 47, 56, 52, 53, 54, 55, 40, 107, 108, 109, 110, 111, 112, 113, 114, 39, 57, 42, 37, 35, 115, 87, 88, 89, 90, 38, 78, 91, 92, 93, 94, 116, 117, 118, 119, 83, 84, 85, 86, 36, 120, 121, 122, 123, 46, 45, 124, 125, 126, 127, 147, 148, 149, 150, 151, 152, 153, 154, 155, 156, 157, 158, 159, 160, 138, 139, 140, 141, 142, 143, 144, 145, 146] (by decide +kernel) (by decide +kernel)
set_option maxRecDepth 20000 in
theorem gX7_best_X6_findCheapest : GoodIn wsX7_best (wsV RX7 141 RX6 yX6_findCheapest wsX6_findCheapest) := goodIn_app (goodIn_of _ (by decide +kernel)) ggX7_best_X6_findCheapest
set_option maxRecDepth 20000 in
theorem ggX7_best_X6_told : GoodIn wsX7_best wsX6_told := goodIn_r _ [131, 40, 46, 45, 147, 148, 149, 150, 151, 152, 153, 154, 155, 156, 157, 158, 159, 160] (by decide +kernel) (by decide +kernel)
set_option maxRecDepth 20000 in
theorem gX7_best_X6_told : GoodIn wsX7_best (wsV RX7 138 RX6 yX6_told wsX6_told) := goodIn_app (goodIn_of _ (by decide +kernel)) ggX7_best_X6_told
theorem dX7_best_0 : decode cX7_best 0 = .ok (.aload_n 0, 1) := by decide +kernel
theorem dX7_best_1 : decode cX7_best 1 = .ok (.iload_n 1, 1) := by decide +kernel
theorem dX7_best_2 : decode cX7_best 2 = .ok (.iload_n 2, 1) := by decide +kernel
theorem dX7_best_3 : decode cX7_best 3 = .ok (.iconst (-1), 1) := by decide +kernel
theorem dX7_best_4 : decode cX7_best 4 = .ok (.if_icmp .lt 7, 3) := by decide +kernel
theorem dX7_best_7 : decode cX7_best 7 = .ok (.iconst 1, 1) := by decide +kernel
theorem dX7_best_8 : decode cX7_best 8 = .ok (.goto 4, 3) := by decide +kernel
theorem dX7_best_11 : decode cX7_best 11 = .ok (.iconst 0, 1) := by decide +kernel
theorem dX7_best_12 : decode cX7_best 12 = .ok (.invokevirtual 121, 3) := by decide +kernel
theorem dX7_best_15 : decode cX7_best 15 = .ok (.istore_n 3, 1) := by decide +kernel
theorem dX7_best_16 : decode cX7_best 16 = .ok (.iload_n 3, 1) := by decide +kernel
theorem dX7_best_17 : decode cX7_best 17 = .ok (.ifCond .eq 5, 3) := by decide +kernel
theorem dX7_best_20 : decode cX7_best 20 = .ok (.iload_n 3, 1) := by decide +kernel
theorem dX7_best_21 : decode cX7_best 21 = .ok (.ireturn, 1) := by decide +kernel
theorem dX7_best_22 : decode cX7_best 22 = .ok (.aload_n 0, 1) := by decide +kernel
theorem dX7_best_23 : decode cX7_best 23 = .ok (.aload_n 0, 1) := by decide +kernel
theorem dX7_best_24 : decode cX7_best 24 = .ok (.getfield 10, 3) := by decide +kernel
theorem dX7_best_27 : decode cX7_best 27 = .ok (.iload_n 1, 1) := by decide +kernel
theorem dX7_best_28 : decode cX7_best 28 = .ok (.invokevirtual 125, 3) := by decide +kernel
theorem dX7_best_31 : decode cX7_best 31 = .ok (.astore 4, 2) := by decide +kernel
theorem dX7_best_33 : decode cX7_best 33 = .ok (.aload 4, 2) := by decide +kernel
theorem dX7_best_35 : decode cX7_best 35 = .ok (.invokevirtual 141, 3) := by decide +kernel
theorem dX7_best_38 : decode cX7_best 38 = .ok (.ifCond .eq 12, 3) := by decide +kernel
theorem dX7_best_41 : decode cX7_best 41 = .ok (.aload 4, 2) := by decide +kernel
theorem dX7_best_43 : decode cX7_best 43 = .ok (.iload_n 2, 1) := by decide +kernel
theorem dX7_best_44 : decode cX7_best 44 = .ok (.invokevirtual 138, 3) := by decide +kernel
theorem dX7_best_47 : decode cX7_best 47 = .ok (.goto 5, 3) := by decide +kernel
theorem dX7_best_50 : decode cX7_best 50 = .ok (.bipush (-4), 2) := by decide +kernel
theorem dX7_best_52 : decode cX7_best 52 = .ok (.ireturn, 1) := by decide +kernel
set_option maxRecDepth 20000 in
theorem ggX7_cuts_X7_refusalOfOpen : GoodIn wsX7_cuts wsX7_refusalOfOpen := goodIn_r _ [6, 1, 7, 8, 9, 10, 5, 11, 12, 132, 133, 134, 135, 136, 137, 138, 139, 140, 141, 142, 143, 144, 145, 146] (by decide +kernel) (by decide +kernel)
set_option maxRecDepth 20000 in
theorem gX7_cuts_X7_refusalOfOpen : GoodIn wsX7_cuts (wsV RX7 121 RX7 yX7_refusalOfOpen wsX7_refusalOfOpen) := goodIn_app (goodIn_of _ (by decide +kernel)) ggX7_cuts_X7_refusalOfOpen
set_option maxRecDepth 20000 in
theorem ggX7_cuts_X7_waysOf : GoodIn wsX7_cuts wsX7_waysOf := goodIn_r _ [16, 17, 18, 19, 20, 5, 21, 22, 23, 24, 25, 26, 27, 28, 29, 30, 31, 32, 33, 34, 35, 36, 37, 38, 39, 40, 41, 42, 43, 44, 45, 46, 47, 48, 49, 50, 51, 52, 53, 54, 55, 56, 57, 58, 59, 60, 61, 62, 63, 64, 65, 66, 67, 68, 69, 70, 71, 72, 73, 74, 75, 76, 77, 78, 79, 80, 81, 82, 83, 84, 85, 86, 87, 88, 89, 90, 91, 92, 93, 94, 95, 96, 97, 138, 139, 140, 141, 142, 143, 144, 145, 146, 132, 133, 134, 135, 136, 137, 147, 148, 149, 150, 151, 152, 153, 154, 155, 156, 157, 158, 159, 160] (by decide +kernel) (by decide +kernel)
set_option maxRecDepth 20000 in
theorem gX7_cuts_X7_waysOf : GoodIn wsX7_cuts (wsV RX7 125 RX7 yX7_waysOf wsX7_waysOf) := goodIn_app (goodIn_of _ (by decide +kernel)) ggX7_cuts_X7_waysOf
set_option maxRecDepth 20000 in
theorem ggX7_cuts_X6_findLeastCut : GoodIn wsX7_cuts wsX6_findLeastCut := goodIn_r _ [101, 102, 103, 104, 105, 25, 106, 43, 44, 41, 47, 56, 52, 53, 54, 55, 40, 107, 108, 109, 110, 111, 112, 113, 114, 39, 57, 42, 37, 35, 115, 87, 88, 89, 90, 38, 78, 91, 92, 93, 94, 116, 117, 118, 119, 83, 84, 85, 86, 36, 120, 121, 122, 123, 46, 45, 124, 125, 126, 127, 147, 148, 149, 150, 151, 152, 153, 154, 155, 156, 157, 158, 159, 160, 138, 139, 140, 141, 142, 143, 144, 145, 146] (by decide +kernel) (by decide +kernel)
set_option maxRecDepth 20000 in
theorem gX7_cuts_X6_findLeastCut : GoodIn wsX7_cuts (wsV RX7 144 RX6 yX6_findLeastCut wsX6_findLeastCut) := goodIn_app (goodIn_of _ (by decide +kernel)) ggX7_cuts_X6_findLeastCut
set_option maxRecDepth 20000 in
theorem ggX7_cuts_X6_told : GoodIn wsX7_cuts wsX6_told := goodIn_r _ [131, 40, 46, 45, 147, 148, 149, 150, 151, 152, 153, 154, 155, 156, 157, 158, 159, 160] (by decide +kernel) (by decide +kernel)
set_option maxRecDepth 20000 in
theorem gX7_cuts_X6_told : GoodIn wsX7_cuts (wsV RX7 138 RX6 yX6_told wsX6_told) := goodIn_app (goodIn_of _ (by decide +kernel)) ggX7_cuts_X6_told
theorem dX7_cuts_0 : decode cX7_cuts 0 = .ok (.aload_n 0, 1) := by decide +kernel
theorem dX7_cuts_1 : decode cX7_cuts 1 = .ok (.iload_n 1, 1) := by decide +kernel
theorem dX7_cuts_2 : decode cX7_cuts 2 = .ok (.iload_n 2, 1) := by decide +kernel
theorem dX7_cuts_3 : decode cX7_cuts 3 = .ok (.iconst (-1), 1) := by decide +kernel
theorem dX7_cuts_4 : decode cX7_cuts 4 = .ok (.if_icmp .lt 7, 3) := by decide +kernel
theorem dX7_cuts_7 : decode cX7_cuts 7 = .ok (.iconst 1, 1) := by decide +kernel
theorem dX7_cuts_8 : decode cX7_cuts 8 = .ok (.goto 4, 3) := by decide +kernel
theorem dX7_cuts_11 : decode cX7_cuts 11 = .ok (.iconst 0, 1) := by decide +kernel
theorem dX7_cuts_12 : decode cX7_cuts 12 = .ok (.invokevirtual 121, 3) := by decide +kernel
theorem dX7_cuts_15 : decode cX7_cuts 15 = .ok (.istore_n 3, 1) := by decide +kernel
theorem dX7_cuts_16 : decode cX7_cuts 16 = .ok (.iload_n 3, 1) := by decide +kernel
theorem dX7_cuts_17 : decode cX7_cuts 17 = .ok (.ifCond .eq 5, 3) := by decide +kernel
theorem dX7_cuts_20 : decode cX7_cuts 20 = .ok (.iload_n 3, 1) := by decide +kernel
theorem dX7_cuts_21 : decode cX7_cuts 21 = .ok (.ireturn, 1) := by decide +kernel
theorem dX7_cuts_22 : decode cX7_cuts 22 = .ok (.aload_n 0, 1) := by decide +kernel
theorem dX7_cuts_23 : decode cX7_cuts 23 = .ok (.aload_n 0, 1) := by decide +kernel
theorem dX7_cuts_24 : decode cX7_cuts 24 = .ok (.getfield 10, 3) := by decide +kernel
theorem dX7_cuts_27 : decode cX7_cuts 27 = .ok (.iload_n 1, 1) := by decide +kernel
theorem dX7_cuts_28 : decode cX7_cuts 28 = .ok (.invokevirtual 125, 3) := by decide +kernel
theorem dX7_cuts_31 : decode cX7_cuts 31 = .ok (.astore 4, 2) := by decide +kernel
theorem dX7_cuts_33 : decode cX7_cuts 33 = .ok (.aload 4, 2) := by decide +kernel
theorem dX7_cuts_35 : decode cX7_cuts 35 = .ok (.invokevirtual 144, 3) := by decide +kernel
theorem dX7_cuts_38 : decode cX7_cuts 38 = .ok (.ifCond .eq 12, 3) := by decide +kernel
theorem dX7_cuts_41 : decode cX7_cuts 41 = .ok (.aload 4, 2) := by decide +kernel
theorem dX7_cuts_43 : decode cX7_cuts 43 = .ok (.iload_n 2, 1) := by decide +kernel
theorem dX7_cuts_44 : decode cX7_cuts 44 = .ok (.invokevirtual 138, 3) := by decide +kernel
theorem dX7_cuts_47 : decode cX7_cuts 47 = .ok (.goto 5, 3) := by decide +kernel
theorem dX7_cuts_50 : decode cX7_cuts 50 = .ok (.bipush (-4), 2) := by decide +kernel
theorem dX7_cuts_52 : decode cX7_cuts 52 = .ok (.ireturn, 1) := by decide +kernel
set_option maxRecDepth 20000 in
theorem ggX7_uses_X7_isWidth : GoodIn wsX7_uses wsX7_isWidth := goodIn_r _ [8, 1, 9, 140, 141, 142, 143, 144, 145, 146, 147, 148, 149, 150, 151, 152, 153, 154] (by decide +kernel) (by decide +kernel)
set_option maxRecDepth 20000 in
theorem gX7_uses_X7_isWidth : GoodIn wsX7_uses (wsV RX7 61 RX7 yX7_isWidth wsX7_isWidth) := goodIn_app (goodIn_of _ (by decide +kernel)) ggX7_uses_X7_isWidth
set_option maxRecDepth 20000 in
theorem ggX7_uses_X7_refusalOfOpen : GoodIn wsX7_uses wsX7_refusalOfOpen := goodIn_r _ [13, 1, 14, 15, 16, 17, 7, 18, 19, 140, 141, 142, 143, 144, 145, 146, 147, 148, 149, 150, 151, 152, 153, 154] (by decide +kernel) (by decide +kernel)
set_option maxRecDepth 20000 in
theorem gX7_uses_X7_refusalOfOpen : GoodIn wsX7_uses (wsV RX7 121 RX7 yX7_refusalOfOpen wsX7_refusalOfOpen) := goodIn_app (goodIn_of _ (by decide +kernel)) ggX7_uses_X7_refusalOfOpen
set_option maxRecDepth 20000 in
theorem ggX7_uses_X7_waysOf : GoodIn wsX7_uses wsX7_waysOf := goodIn_r _ [23, 24, 25, 26, 27, 7, 28, 29, 30, 31, 32, 33, 34, 35, 36, 37, 38, 39, 40, 41, 42, 43, 44, 45, 46, 47, 48, 49, 50, 51, 52, 53, 54, 55, 56, 57, 58, 59, 60, 61, 62, 63, 64, 65, 66, 67, 68, 69, 70, 71, 72, 73, 74, 75, 76, 77, 78, 79, 80, 81, 82, 83, 84, 85, 86, 87, 88, 89, 90, 91, 92, 93, 94, 95, 96, 97, 98, 99, 100, 101, 102, 103, 104, 146, 147, 148, 149, 150, 151, 152, 153, 154, 140, 141, 142, 143, 144, 145, 155, 156, 157, 158, 159, 160, 161, 162, 163, 164, 165, 166, 167, 168] (by decide +kernel) (by decide +kernel)
set_option maxRecDepth 20000 in
theorem gX7_uses_X7_waysOf : GoodIn wsX7_uses (wsV RX7 125 RX7 yX7_waysOf wsX7_waysOf) := goodIn_app (goodIn_of _ (by decide +kernel)) ggX7_uses_X7_waysOf
set_option maxRecDepth 20000 in
theorem ggX7_uses_X6_number : GoodIn wsX7_uses wsX6_number := goodIn_r _ [108, 109, 110, 111, 32, 112, 50, 51, 48, 54, 63, 59, 60, 61, 62, 47, 113, 114, 115, 116, 117, 118, 119, 120, 121, 46, 64, 49, 44, 42, 122, 94, 95, 96, 97, 45, 85, 98, 99, 100, 101, 123, 124, 125, 126, 90, 91, 92, 93, 43, 155, 156, 157, 158, 159, 160, 161, 162, 163, 164, 165, 166, 167, 168, 146, 147, 148, 149, 150, 151, 152, 153, 154] (by decide +kernel) (by decide +kernel)
set_option maxRecDepth 20000 in
theorem gX7_uses_X6_number : GoodIn wsX7_uses (wsV RX7 129 RX6 yX6_number wsX6_number) := goodIn_app (goodIn_of _ (by decide +kernel)) ggX7_uses_X6_number
set_option maxRecDepth 20000 in
theorem ggX7_uses_X3_takeOver : GoodIn wsX7_uses wsX3_takeOver := goodIn_r _ [130, 71, 131, 132, 133, 134, 135, 136, 137, 70, 80, 138, 139, 75, 146, 147, 148, 149, 150, 151, 152, 153, 154] (by decide +kernel) (by decide +kernel)
set_option maxRecDepth 20000 in
theorem gX7_uses_X3_takeOver : GoodIn wsX7_uses (wsV RX7 48 RX3 yX3_takeOver wsX3_takeOver) := goodIn_app (goodIn_of _ (by decide +kernel)) ggX7_uses_X3_takeOver
theorem dX7_uses_0 : decode cX7_uses 0 = .ok (.aload_n 0, 1) := by decide +kernel
theorem dX7_uses_1 : decode cX7_uses 1 = .ok (.iload_n 1, 1) := by decide +kernel
theorem dX7_uses_2 : decode cX7_uses 2 = .ok (.aload_n 0, 1) := by decide +kernel
theorem dX7_uses_3 : decode cX7_uses 3 = .ok (.iload_n 2, 1) := by decide +kernel
theorem dX7_uses_4 : decode cX7_uses 4 = .ok (.invokevirtual 61, 3) := by decide +kernel
theorem dX7_uses_7 : decode cX7_uses 7 = .ok (.invokevirtual 121, 3) := by decide +kernel
theorem dX7_uses_10 : decode cX7_uses 10 = .ok (.istore_n 3, 1) := by decide +kernel
theorem dX7_uses_11 : decode cX7_uses 11 = .ok (.iload_n 3, 1) := by decide +kernel
theorem dX7_uses_12 : decode cX7_uses 12 = .ok (.ifCond .eq 5, 3) := by decide +kernel
theorem dX7_uses_15 : decode cX7_uses 15 = .ok (.iload_n 3, 1) := by decide +kernel
theorem dX7_uses_16 : decode cX7_uses 16 = .ok (.ireturn, 1) := by decide +kernel
theorem dX7_uses_17 : decode cX7_uses 17 = .ok (.aload_n 0, 1) := by decide +kernel
theorem dX7_uses_18 : decode cX7_uses 18 = .ok (.getfield 10, 3) := by decide +kernel
theorem dX7_uses_21 : decode cX7_uses 21 = .ok (.getfield 68, 3) := by decide +kernel
theorem dX7_uses_24 : decode cX7_uses 24 = .ok (.iload_n 2, 1) := by decide +kernel
theorem dX7_uses_25 : decode cX7_uses 25 = .ok (.iaload, 1) := by decide +kernel
theorem dX7_uses_26 : decode cX7_uses 26 = .ok (.ifCond .ne 5, 3) := by decide +kernel
theorem dX7_uses_29 : decode cX7_uses 29 = .ok (.iconst 0, 1) := by decide +kernel
theorem dX7_uses_30 : decode cX7_uses 30 = .ok (.ireturn, 1) := by decide +kernel
theorem dX7_uses_31 : decode cX7_uses 31 = .ok (.aload_n 0, 1) := by decide +kernel
theorem dX7_uses_32 : decode cX7_uses 32 = .ok (.aload_n 0, 1) := by decide +kernel
theorem dX7_uses_33 : decode cX7_uses 33 = .ok (.getfield 10, 3) := by decide +kernel
theorem dX7_uses_36 : decode cX7_uses 36 = .ok (.iload_n 1, 1) := by decide +kernel
theorem dX7_uses_37 : decode cX7_uses 37 = .ok (.invokevirtual 125, 3) := by decide +kernel
theorem dX7_uses_40 : decode cX7_uses 40 = .ok (.invokevirtual 129, 3) := by decide +kernel
theorem dX7_uses_43 : decode cX7_uses 43 = .ok (.istore 4, 2) := by decide +kernel
theorem dX7_uses_45 : decode cX7_uses 45 = .ok (.aload_n 0, 1) := by decide +kernel
theorem dX7_uses_46 : decode cX7_uses 46 = .ok (.getfield 19, 3) := by decide +kernel
theorem dX7_uses_49 : decode cX7_uses 49 = .ok (.aload_n 0, 1) := by decide +kernel
theorem dX7_uses_50 : decode cX7_uses 50 = .ok (.getfield 10, 3) := by decide +kernel
theorem dX7_uses_53 : decode cX7_uses 53 = .ok (.invokevirtual 48, 3) := by decide +kernel
theorem dX7_uses_56 : decode cX7_uses 56 = .ok (.aload_n 0, 1) := by decide +kernel
theorem dX7_uses_57 : decode cX7_uses 57 = .ok (.getfield 19, 3) := by decide +kernel
theorem dX7_uses_60 : decode cX7_uses 60 = .ok (.getfield 68, 3) := by decide +kernel
theorem dX7_uses_63 : decode cX7_uses 63 = .ok (.iload_n 2, 1) := by decide +kernel
theorem dX7_uses_64 : decode cX7_uses 64 = .ok (.dup2, 1) := by decide +kernel
theorem dX7_uses_65 : decode cX7_uses 65 = .ok (.iaload, 1) := by decide +kernel
theorem dX7_uses_66 : decode cX7_uses 66 = .ok (.iconst 1, 1) := by decide +kernel
theorem dX7_uses_67 : decode cX7_uses 67 = .ok (.isub, 1) := by decide +kernel
theorem dX7_uses_68 : decode cX7_uses 68 = .ok (.iastore, 1) := by decide +kernel
theorem dX7_uses_69 : decode cX7_uses 69 = .ok (.iload 4, 2) := by decide +kernel
theorem dX7_uses_71 : decode cX7_uses 71 = .ok (.aload_n 0, 1) := by decide +kernel
theorem dX7_uses_72 : decode cX7_uses 72 = .ok (.aload_n 0, 1) := by decide +kernel
theorem dX7_uses_73 : decode cX7_uses 73 = .ok (.getfield 19, 3) := by decide +kernel
theorem dX7_uses_76 : decode cX7_uses 76 = .ok (.iload_n 1, 1) := by decide +kernel
theorem dX7_uses_77 : decode cX7_uses 77 = .ok (.invokevirtual 125, 3) := by decide +kernel
theorem dX7_uses_80 : decode cX7_uses 80 = .ok (.invokevirtual 129, 3) := by decide +kernel
theorem dX7_uses_83 : decode cX7_uses 83 = .ok (.isub, 1) := by decide +kernel
theorem dX7_uses_84 : decode cX7_uses 84 = .ok (.ireturn, 1) := by decide +kernel
set_option maxRecDepth 20000 in
theorem ggX7_needs_X7_isWidth : GoodIn wsX7_needs wsX7_isWidth := goodIn_r _ [8, 2, 9, 122, 123, 124, 125, 126, 127, 128, 129, 130, 131, 132, 133, 134, 135, 136] (by decide +kernel) (by decide +kernel)
set_option maxRecDepth 20000 in
theorem gX7_needs_X7_isWidth : GoodIn wsX7_needs (wsV RX7 61 RX7 yX7_isWidth wsX7_isWidth) := goodIn_app (goodIn_of _ (by decide +kernel)) ggX7_needs_X7_isWidth
set_option maxRecDepth 20000 in
theorem ggX7_needs_X7_refusalOfOpen : GoodIn wsX7_needs wsX7_refusalOfOpen := goodIn_r _ [13, 2, 14, 15, 16, 17, 7, 18, 19, 122, 123, 124, 125, 126, 127, 128, 129, 130, 131, 132, 133, 134, 135, 136] (by decide +kernel) (by decide +kernel)
set_option maxRecDepth 20000 in
theorem gX7_needs_X7_refusalOfOpen : GoodIn wsX7_needs (wsV RX7 121 RX7 yX7_refusalOfOpen wsX7_refusalOfOpen) := goodIn_app (goodIn_of _ (by decide +kernel)) ggX7_needs_X7_refusalOfOpen
set_option maxRecDepth 20000 in
theorem ggX7_needs_X3_takeOver : GoodIn wsX7_needs wsX3_takeOver := goodIn_r _ [24, 25, 26, 27, 28, 29, 30, 31, 32, 33, 34, 35, 36, 37, 128, 129, 130, 131, 132, 133, 134, 135, 136] (by decide +kernel) (by decide +kernel)
set_option maxRecDepth 20000 in
theorem gX7_needs_X3_takeOver : GoodIn wsX7_needs (wsV RX7 48 RX3 yX3_takeOver wsX3_takeOver) := goodIn_app (goodIn_of _ (by decide +kernel)) ggX7_needs_X3_takeOver
set_option maxRecDepth 20000 in
theorem ggX7_needs_X7_waysOf : GoodIn wsX7_needs wsX7_waysOf := goodIn_r _ [41, 42, 43, 44, 45, 7, 46, 47, 48, 49, 50, 51, 52, 53, 54, 55, 56, 57, 58, 59, 60, 61, 62, 63, 64, 65, 66, 67, 68, 69, 70, 71, 72, 73, 74, 75, 76, 77, 78, 79, 80, 81, 82, 83, 84, 85, 23, 86, 33, 25, 87, 88, 89, 37, 90, 91, 92, 93, 34, 94, 95, 96, 97, 98, 99, 100, 101, 102, 103, 104, 105, 106, 107, 108, 109, 110, 111, 112, 113, 114, 115, 116, 117, 128, 129, 130, 131, 132, 133, 134, 135, 136, 122, 123, 124, 125, 126, 127, 137, 138, 139, 140, 141, 142, 143, 144, 145, 146, 147, 148, 149, 150] (by decide +kernel) (by decide +kernel)
set_option maxRecDepth 20000 in
theorem gX7_needs_X7_waysOf : GoodIn wsX7_needs (wsV RX7 125 RX7 yX7_waysOf wsX7_waysOf) := goodIn_app (goodIn_of _ (by decide +kernel)) ggX7_needs_X7_waysOf
set_option maxRecDepth 20000 in
theorem ggX7_needs_X6_hasFill : GoodIn wsX7_needs wsX6_hasFill := goodIn_r _ [121, 66, 64, 67, 137, 138, 139, 140, 141, 142, 143, 144, 145, 146, 147, 148, 149, 150] (by decide +kernel) (by decide +kernel)
set_option maxRecDepth 20000 in
theorem gX7_needs_X6_hasFill : GoodIn wsX7_needs (wsV RX7 147 RX6 yX6_hasFill wsX6_hasFill) := goodIn_app (goodIn_of _ (by decide +kernel)) ggX7_needs_X6_hasFill
theorem dX7_needs_0 : decode cX7_needs 0 = .ok (.aload_n 0, 1) := by decide +kernel
theorem dX7_needs_1 : decode cX7_needs 1 = .ok (.iload_n 1, 1) := by decide +kernel
theorem dX7_needs_2 : decode cX7_needs 2 = .ok (.aload_n 0, 1) := by decide +kernel
theorem dX7_needs_3 : decode cX7_needs 3 = .ok (.iload_n 2, 1) := by decide +kernel
theorem dX7_needs_4 : decode cX7_needs 4 = .ok (.invokevirtual 61, 3) := by decide +kernel
theorem dX7_needs_7 : decode cX7_needs 7 = .ok (.invokevirtual 121, 3) := by decide +kernel
theorem dX7_needs_10 : decode cX7_needs 10 = .ok (.istore_n 3, 1) := by decide +kernel
theorem dX7_needs_11 : decode cX7_needs 11 = .ok (.iload_n 3, 1) := by decide +kernel
theorem dX7_needs_12 : decode cX7_needs 12 = .ok (.ifCond .eq 5, 3) := by decide +kernel
theorem dX7_needs_15 : decode cX7_needs 15 = .ok (.iload_n 3, 1) := by decide +kernel
theorem dX7_needs_16 : decode cX7_needs 16 = .ok (.ireturn, 1) := by decide +kernel
theorem dX7_needs_17 : decode cX7_needs 17 = .ok (.aload_n 0, 1) := by decide +kernel
theorem dX7_needs_18 : decode cX7_needs 18 = .ok (.getfield 19, 3) := by decide +kernel
theorem dX7_needs_21 : decode cX7_needs 21 = .ok (.aload_n 0, 1) := by decide +kernel
theorem dX7_needs_22 : decode cX7_needs 22 = .ok (.getfield 10, 3) := by decide +kernel
theorem dX7_needs_25 : decode cX7_needs 25 = .ok (.invokevirtual 48, 3) := by decide +kernel
theorem dX7_needs_28 : decode cX7_needs 28 = .ok (.iconst 0, 1) := by decide +kernel
theorem dX7_needs_29 : decode cX7_needs 29 = .ok (.istore 4, 2) := by decide +kernel
theorem dX7_needs_31 : decode cX7_needs 31 = .ok (.aload_n 0, 1) := by decide +kernel
theorem dX7_needs_32 : decode cX7_needs 32 = .ok (.getfield 10, 3) := by decide +kernel
theorem dX7_needs_35 : decode cX7_needs 35 = .ok (.getfield 68, 3) := by decide +kernel
theorem dX7_needs_38 : decode cX7_needs 38 = .ok (.iload_n 2, 1) := by decide +kernel
theorem dX7_needs_39 : decode cX7_needs 39 = .ok (.iaload, 1) := by decide +kernel
theorem dX7_needs_40 : decode cX7_needs 40 = .ok (.iload 4, 2) := by decide +kernel
theorem dX7_needs_42 : decode cX7_needs 42 = .ok (.iadd, 1) := by decide +kernel
theorem dX7_needs_43 : decode cX7_needs 43 = .ok (.bipush 12, 2) := by decide +kernel
theorem dX7_needs_45 : decode cX7_needs 45 = .ok (.if_icmp .gt 48, 3) := by decide +kernel
theorem dX7_needs_48 : decode cX7_needs 48 = .ok (.aload_n 0, 1) := by decide +kernel
theorem dX7_needs_49 : decode cX7_needs 49 = .ok (.getfield 19, 3) := by decide +kernel
theorem dX7_needs_52 : decode cX7_needs 52 = .ok (.getfield 68, 3) := by decide +kernel
theorem dX7_needs_55 : decode cX7_needs 55 = .ok (.iload_n 2, 1) := by decide +kernel
theorem dX7_needs_56 : decode cX7_needs 56 = .ok (.aload_n 0, 1) := by decide +kernel
theorem dX7_needs_57 : decode cX7_needs 57 = .ok (.getfield 10, 3) := by decide +kernel
theorem dX7_needs_60 : decode cX7_needs 60 = .ok (.getfield 68, 3) := by decide +kernel
theorem dX7_needs_63 : decode cX7_needs 63 = .ok (.iload_n 2, 1) := by decide +kernel
theorem dX7_needs_64 : decode cX7_needs 64 = .ok (.iaload, 1) := by decide +kernel
theorem dX7_needs_65 : decode cX7_needs 65 = .ok (.iload 4, 2) := by decide +kernel
theorem dX7_needs_67 : decode cX7_needs 67 = .ok (.iadd, 1) := by decide +kernel
theorem dX7_needs_68 : decode cX7_needs 68 = .ok (.iastore, 1) := by decide +kernel
theorem dX7_needs_69 : decode cX7_needs 69 = .ok (.aload_n 0, 1) := by decide +kernel
theorem dX7_needs_70 : decode cX7_needs 70 = .ok (.aload_n 0, 1) := by decide +kernel
theorem dX7_needs_71 : decode cX7_needs 71 = .ok (.getfield 19, 3) := by decide +kernel
theorem dX7_needs_74 : decode cX7_needs 74 = .ok (.iload_n 1, 1) := by decide +kernel
theorem dX7_needs_75 : decode cX7_needs 75 = .ok (.invokevirtual 125, 3) := by decide +kernel
theorem dX7_needs_78 : decode cX7_needs 78 = .ok (.invokevirtual 147, 3) := by decide +kernel
theorem dX7_needs_81 : decode cX7_needs 81 = .ok (.ifCond .eq 6, 3) := by decide +kernel
theorem dX7_needs_84 : decode cX7_needs 84 = .ok (.iload 4, 2) := by decide +kernel
theorem dX7_needs_86 : decode cX7_needs 86 = .ok (.ireturn, 1) := by decide +kernel
theorem dX7_needs_87 : decode cX7_needs 87 = .ok (.iinc 4 1, 3) := by decide +kernel
theorem dX7_needs_90 : decode cX7_needs 90 = .ok (.goto (-59), 3) := by decide +kernel
theorem dX7_needs_93 : decode cX7_needs 93 = .ok (.bipush (-4), 2) := by decide +kernel
theorem dX7_needs_95 : decode cX7_needs 95 = .ok (.ireturn, 1) := by decide +kernel
set_option maxRecDepth 20000 in
theorem ggX7_ends_X7_isWidth : GoodIn wsX7_ends wsX7_isWidth := goodIn_r _ [6, 1, 7, 125, 126, 127, 128, 129, 130, 131, 132, 133, 134, 135, 136, 137, 138, 139] (by decide +kernel) (by decide +kernel)
set_option maxRecDepth 20000 in
theorem gX7_ends_X7_isWidth : GoodIn wsX7_ends (wsV RX7 61 RX7 yX7_isWidth wsX7_isWidth) := goodIn_app (goodIn_of _ (by decide +kernel)) ggX7_ends_X7_isWidth
set_option maxRecDepth 20000 in
theorem ggX7_ends_X7_refusalOfOpen : GoodIn wsX7_ends wsX7_refusalOfOpen := goodIn_r _ [11, 1, 12, 13, 14, 15, 5, 16, 17, 125, 126, 127, 128, 129, 130, 131, 132, 133, 134, 135, 136, 137, 138, 139] (by decide +kernel) (by decide +kernel)
set_option maxRecDepth 20000 in
theorem gX7_ends_X7_refusalOfOpen : GoodIn wsX7_ends (wsV RX7 121 RX7 yX7_refusalOfOpen wsX7_refusalOfOpen) := goodIn_app (goodIn_of _ (by decide +kernel)) ggX7_ends_X7_refusalOfOpen
set_option maxRecDepth 20000 in
theorem ggX7_ends_X7_waysOf : GoodIn wsX7_ends wsX7_waysOf := goodIn_r _ [21, 22, 23, 24, 25, 5, 26, 27, 28, 29, 30, 31, 32, 33, 34, 35, 36, 37, 38, 39, 40, 41, 42, 43, 44, 45, 46, 47, 48, 49, 50, 51, 52, 53, 54, 55, 56, 57, 58, 59, 60, 61, 62, 63, 64, 65, 66, 67, 68, 69, 70, 71, 72, 73, 74, 75, 76, 77, 78, 79, 80, 81, 82, 83, 84, 85, 86, 87, 88, 89, 90, 91, 92, 93, 94, 95, 96, 97, 98, 99, 100, 101, 102, 131, 132, 133, 134, 135, 136, 137, 138, 139, 125, 126, 127, 128, 129, 130, 140, 141, 142, 143, 144, 145, 146, 147, 148, 149, 150, 151, 152, 153] (by decide +kernel) (by decide +kernel)
set_option maxRecDepth 20000 in
theorem gX7_ends_X7_waysOf : GoodIn wsX7_ends (wsV RX7 125 RX7 yX7_waysOf wsX7_waysOf) := goodIn_app (goodIn_of _ (by decide +kernel)) ggX7_ends_X7_waysOf
set_option maxRecDepth 20000 in
theorem ggX7_ends_X6_numberEndingWith : GoodIn wsX7_ends wsX6_numberEndingWith := goodIn_r _ [106, 107, 108, 109, 30, 110, 48, 49, 46, 52, 61, 57, 58, 59, 60, 45, 111, 112, 113, 114, 115, 116, 117, 118, 119, 44, 62, 47, 42, 40, 120, 92, 93, 94, 95, 43, 83, 96, 97, 98, 99, 121, 122, 123, 124, 88, 89, 90, 91, 41, 140, 141, 142, 143, 144, 145, 146, 147, 148, 149, 150, 151, 152, 153, 131, 132, 133, 134, 135, 136, 137, 138, 139] (by decide +kernel) (by decide +kernel)
set_option maxRecDepth 20000 in
theorem gX7_ends_X6_numberEndingWith : GoodIn wsX7_ends (wsV RX7 150 RX6 yX6_numberEndingWith wsX6_numberEndingWith) := goodIn_app (goodIn_of _ (by decide +kernel)) ggX7_ends_X6_numberEndingWith
theorem dX7_ends_0 : decode cX7_ends 0 = .ok (.aload_n 0, 1) := by decide +kernel
theorem dX7_ends_1 : decode cX7_ends 1 = .ok (.iload_n 1, 1) := by decide +kernel
theorem dX7_ends_2 : decode cX7_ends 2 = .ok (.aload_n 0, 1) := by decide +kernel
theorem dX7_ends_3 : decode cX7_ends 3 = .ok (.iload_n 2, 1) := by decide +kernel
theorem dX7_ends_4 : decode cX7_ends 4 = .ok (.invokevirtual 61, 3) := by decide +kernel
theorem dX7_ends_7 : decode cX7_ends 7 = .ok (.invokevirtual 121, 3) := by decide +kernel
theorem dX7_ends_10 : decode cX7_ends 10 = .ok (.istore_n 3, 1) := by decide +kernel
theorem dX7_ends_11 : decode cX7_ends 11 = .ok (.iload_n 3, 1) := by decide +kernel
theorem dX7_ends_12 : decode cX7_ends 12 = .ok (.ifCond .ne 19, 3) := by decide +kernel
theorem dX7_ends_15 : decode cX7_ends 15 = .ok (.aload_n 0, 1) := by decide +kernel
theorem dX7_ends_16 : decode cX7_ends 16 = .ok (.aload_n 0, 1) := by decide +kernel
theorem dX7_ends_17 : decode cX7_ends 17 = .ok (.getfield 10, 3) := by decide +kernel
theorem dX7_ends_20 : decode cX7_ends 20 = .ok (.iload_n 1, 1) := by decide +kernel
theorem dX7_ends_21 : decode cX7_ends 21 = .ok (.invokevirtual 125, 3) := by decide +kernel
theorem dX7_ends_24 : decode cX7_ends 24 = .ok (.iload_n 2, 1) := by decide +kernel
theorem dX7_ends_25 : decode cX7_ends 25 = .ok (.invokevirtual 150, 3) := by decide +kernel
theorem dX7_ends_28 : decode cX7_ends 28 = .ok (.goto 4, 3) := by decide +kernel
theorem dX7_ends_31 : decode cX7_ends 31 = .ok (.iload_n 3, 1) := by decide +kernel
theorem dX7_ends_32 : decode cX7_ends 32 = .ok (.ireturn, 1) := by decide +kernel
set_option maxRecDepth 20000 in
theorem ggX7_gaps_X7_isRow : GoodIn wsX7_gaps wsX7_isRow := goodIn_r _ [7, 1, 8, 26, 27, 28, 29, 30, 31, 32, 33, 34, 35, 36, 37, 38, 39, 40] (by decide +kernel) (by decide +kernel)
set_option maxRecDepth 20000 in
theorem gX7_gaps_X7_isRow : GoodIn wsX7_gaps (wsV RX7 77 RX7 yX7_isRow wsX7_isRow) := goodIn_app (goodIn_of _ (by decide +kernel)) ggX7_gaps_X7_isRow
set_option maxRecDepth 20000 in
theorem ggX7_gaps_X3_allowsJoint : GoodIn wsX7_gaps wsX3_allowsJoint := goodIn_r _ [13, 14, 15, 16, 17, 18, 19, 20, 21, 22, 23, 12, 24, 25, 32, 33, 34, 35, 36, 37, 38, 39, 40] (by decide +kernel) (by decide +kernel)
set_option maxRecDepth 20000 in
theorem gX7_gaps_X3_allowsJoint : GoodIn wsX7_gaps (wsV RX7 97 RX3 yX3_allowsJoint wsX3_allowsJoint) := goodIn_app (goodIn_of _ (by decide +kernel)) ggX7_gaps_X3_allowsJoint
theorem dX7_gaps_0 : decode cX7_gaps 0 = .ok (.aload_n 0, 1) := by decide +kernel
theorem dX7_gaps_1 : decode cX7_gaps 1 = .ok (.iload_n 1, 1) := by decide +kernel
theorem dX7_gaps_2 : decode cX7_gaps 2 = .ok (.invokevirtual 77, 3) := by decide +kernel
theorem dX7_gaps_5 : decode cX7_gaps 5 = .ok (.ifCond .ne 5, 3) := by decide +kernel
theorem dX7_gaps_8 : decode cX7_gaps 8 = .ok (.iconst (-1), 1) := by decide +kernel
theorem dX7_gaps_9 : decode cX7_gaps 9 = .ok (.ireturn, 1) := by decide +kernel
theorem dX7_gaps_10 : decode cX7_gaps 10 = .ok (.iconst 0, 1) := by decide +kernel
theorem dX7_gaps_11 : decode cX7_gaps 11 = .ok (.istore_n 2, 1) := by decide +kernel
theorem dX7_gaps_12 : decode cX7_gaps 12 = .ok (.iconst 1, 1) := by decide +kernel
theorem dX7_gaps_13 : decode cX7_gaps 13 = .ok (.istore_n 3, 1) := by decide +kernel
theorem dX7_gaps_14 : decode cX7_gaps 14 = .ok (.iload_n 3, 1) := by decide +kernel
theorem dX7_gaps_15 : decode cX7_gaps 15 = .ok (.aload_n 0, 1) := by decide +kernel
theorem dX7_gaps_16 : decode cX7_gaps 16 = .ok (.getfield 10, 3) := by decide +kernel
theorem dX7_gaps_19 : decode cX7_gaps 19 = .ok (.getfield 80, 3) := by decide +kernel
theorem dX7_gaps_22 : decode cX7_gaps 22 = .ok (.iload_n 1, 1) := by decide +kernel
theorem dX7_gaps_23 : decode cX7_gaps 23 = .ok (.iaload, 1) := by decide +kernel
theorem dX7_gaps_24 : decode cX7_gaps 24 = .ok (.if_icmp .ge 24, 3) := by decide +kernel
theorem dX7_gaps_27 : decode cX7_gaps 27 = .ok (.aload_n 0, 1) := by decide +kernel
theorem dX7_gaps_28 : decode cX7_gaps 28 = .ok (.getfield 10, 3) := by decide +kernel
theorem dX7_gaps_31 : decode cX7_gaps 31 = .ok (.iload_n 1, 1) := by decide +kernel
theorem dX7_gaps_32 : decode cX7_gaps 32 = .ok (.iload_n 3, 1) := by decide +kernel
theorem dX7_gaps_33 : decode cX7_gaps 33 = .ok (.invokevirtual 97, 3) := by decide +kernel
theorem dX7_gaps_36 : decode cX7_gaps 36 = .ok (.ifCond .eq 6, 3) := by decide +kernel
theorem dX7_gaps_39 : decode cX7_gaps 39 = .ok (.iinc 2 1, 3) := by decide +kernel
theorem dX7_gaps_42 : decode cX7_gaps 42 = .ok (.iinc 3 1, 3) := by decide +kernel
theorem dX7_gaps_45 : decode cX7_gaps 45 = .ok (.goto (-31), 3) := by decide +kernel
theorem dX7_gaps_48 : decode cX7_gaps 48 = .ok (.iload_n 2, 1) := by decide +kernel
theorem dX7_gaps_49 : decode cX7_gaps 49 = .ok (.ireturn, 1) := by decide +kernel
set_option maxRecDepth 20000 in
theorem ggX7_two_X7_isRow : GoodIn wsX7_two wsX7_isRow := goodIn_r _ [11, 5, 12, 121, 122, 123, 124, 125, 126, 127, 128, 129, 130, 131, 132, 133, 134, 135] (by decide +kernel) (by decide +kernel)
set_option maxRecDepth 20000 in
theorem gX7_two_X7_isRow : GoodIn wsX7_two (wsV RX7 77 RX7 yX7_isRow wsX7_isRow) := goodIn_app (goodIn_of _ (by decide +kernel)) ggX7_two_X7_isRow
set_option maxRecDepth 20000 in
theorem ggX7_two_X7_waysOf : GoodIn wsX7_two wsX7_waysOf := goodIn_r _ [16, 17, 18, 19, 20, 10, 21, 22, 23, 24, 25, 26, 27, 28, 29, 30, 31, 32, 33, 34, 35, 36, 37, 38, 39, 40, 41, 42, 43, 44, 45, 46, 47, 48, 49, 50, 51, 52, 53, 3, 54, 55, 56, 57, 58, 59, 60, 61, 62, 63, 64, 2, 4, 65, 66, 67, 68, 69, 70, 71, 72, 73, 74, 75, 76, 77, 78, 79, 80, 81, 82, 83, 84, 85, 86, 87, 88, 89, 90, 91, 92, 93, 94, 127, 128, 129, 130, 131, 132, 133, 134, 135, 121, 122, 123, 124, 125, 126, 136, 137, 138, 139, 140, 141, 142, 143, 144, 145, 146, 147, 148, 149] (by decide +kernel) (by decide +kernel)
set_option maxRecDepth 20000 in
theorem gX7_two_X7_waysOf : GoodIn wsX7_two (wsV RX7 125 RX7 yX7_waysOf wsX7_waysOf) := goodIn_app (goodIn_of _ (by decide +kernel)) ggX7_two_X7_waysOf
set_option maxRecDepth 20000 in
theorem ggX7_two_X6_takenByFills : GoodIn wsX7_two wsX6_takenByFills := goodIn_r _ [98, 41, 39, 42, 40, 38, 34, 99, 100, 101, 102, 136, 137, 138, 139, 140, 141, 142, 143, 144, 145, 146, 147, 148, 149] (by decide +kernel) (by decide +kernel)
set_option maxRecDepth 20000 in
theorem gX7_two_X6_takenByFills : GoodIn wsX7_two (wsV RX7 158 RX6 yX6_takenByFills wsX6_takenByFills) := goodIn_app (goodIn_of _ (by decide +kernel)) ggX7_two_X6_takenByFills
set_option maxRecDepth 20000 in
theorem ggX7_two_X7_leastTogether : GoodIn wsX7_two wsX7_leastTogether := goodIn_r _ [106, 107, 5, 108, 53, 3, 54, 109, 110, 111, 60, 112, 113, 114, 115, 89, 90, 91, 116, 117, 118, 119, 120, 121, 122, 123, 124, 125, 126, 127, 128, 129, 130, 131, 132, 133, 134, 135] (by decide +kernel) (by decide +kernel)
set_option maxRecDepth 20000 in
theorem gX7_two_X7_leastTogether : GoodIn wsX7_two (wsV RX7 162 RX7 yX7_leastTogether wsX7_leastTogether) := goodIn_app (goodIn_of _ (by decide +kernel)) ggX7_two_X7_leastTogether
theorem dX7_two_0 : decode cX7_two 0 = .ok (.aload_n 0, 1) := by decide +kernel
theorem dX7_two_1 : decode cX7_two 1 = .ok (.iload_n 1, 1) := by decide +kernel
theorem dX7_two_2 : decode cX7_two 2 = .ok (.invokevirtual 77, 3) := by decide +kernel
theorem dX7_two_5 : decode cX7_two 5 = .ok (.ifCond .eq 21, 3) := by decide +kernel
theorem dX7_two_8 : decode cX7_two 8 = .ok (.aload_n 0, 1) := by decide +kernel
theorem dX7_two_9 : decode cX7_two 9 = .ok (.iload_n 2, 1) := by decide +kernel
theorem dX7_two_10 : decode cX7_two 10 = .ok (.invokevirtual 77, 3) := by decide +kernel
theorem dX7_two_13 : decode cX7_two 13 = .ok (.ifCond .eq 13, 3) := by decide +kernel
theorem dX7_two_16 : decode cX7_two 16 = .ok (.iload_n 1, 1) := by decide +kernel
theorem dX7_two_17 : decode cX7_two 17 = .ok (.iload_n 2, 1) := by decide +kernel
theorem dX7_two_18 : decode cX7_two 18 = .ok (.isub, 1) := by decide +kernel
theorem dX7_two_19 : decode cX7_two 19 = .ok (.invokestatic 153, 3) := by decide +kernel
theorem dX7_two_22 : decode cX7_two 22 = .ok (.iconst 1, 1) := by decide +kernel
theorem dX7_two_23 : decode cX7_two 23 = .ok (.if_icmp .gt 5, 3) := by decide +kernel
theorem dX7_two_26 : decode cX7_two 26 = .ok (.iconst (-1), 1) := by decide +kernel
theorem dX7_two_27 : decode cX7_two 27 = .ok (.ireturn, 1) := by decide +kernel
theorem dX7_two_28 : decode cX7_two 28 = .ok (.aload_n 0, 1) := by decide +kernel
theorem dX7_two_29 : decode cX7_two 29 = .ok (.getfield 10, 3) := by decide +kernel
theorem dX7_two_32 : decode cX7_two 32 = .ok (.getfield 83, 3) := by decide +kernel
theorem dX7_two_35 : decode cX7_two 35 = .ok (.iload_n 1, 1) := by decide +kernel
theorem dX7_two_36 : decode cX7_two 36 = .ok (.iaload, 1) := by decide +kernel
theorem dX7_two_37 : decode cX7_two 37 = .ok (.ifCond .gt 15, 3) := by decide +kernel
theorem dX7_two_40 : decode cX7_two 40 = .ok (.aload_n 0, 1) := by decide +kernel
theorem dX7_two_41 : decode cX7_two 41 = .ok (.getfield 10, 3) := by decide +kernel
theorem dX7_two_44 : decode cX7_two 44 = .ok (.getfield 83, 3) := by decide +kernel
theorem dX7_two_47 : decode cX7_two 47 = .ok (.iload_n 2, 1) := by decide +kernel
theorem dX7_two_48 : decode cX7_two 48 = .ok (.iaload, 1) := by decide +kernel
theorem dX7_two_49 : decode cX7_two 49 = .ok (.ifCond .le 6, 3) := by decide +kernel
theorem dX7_two_52 : decode cX7_two 52 = .ok (.bipush (-3), 2) := by decide +kernel
theorem dX7_two_54 : decode cX7_two 54 = .ok (.ireturn, 1) := by decide +kernel
theorem dX7_two_55 : decode cX7_two 55 = .ok (.aload_n 0, 1) := by decide +kernel
theorem dX7_two_56 : decode cX7_two 56 = .ok (.aload_n 0, 1) := by decide +kernel
theorem dX7_two_57 : decode cX7_two 57 = .ok (.getfield 10, 3) := by decide +kernel
theorem dX7_two_60 : decode cX7_two 60 = .ok (.iload_n 1, 1) := by decide +kernel
theorem dX7_two_61 : decode cX7_two 61 = .ok (.invokevirtual 125, 3) := by decide +kernel
theorem dX7_two_64 : decode cX7_two 64 = .ok (.invokevirtual 158, 3) := by decide +kernel
theorem dX7_two_67 : decode cX7_two 67 = .ok (.astore_n 3, 1) := by decide +kernel
theorem dX7_two_68 : decode cX7_two 68 = .ok (.aload_n 0, 1) := by decide +kernel
theorem dX7_two_69 : decode cX7_two 69 = .ok (.aload_n 0, 1) := by decide +kernel
theorem dX7_two_70 : decode cX7_two 70 = .ok (.getfield 10, 3) := by decide +kernel
theorem dX7_two_73 : decode cX7_two 73 = .ok (.iload_n 2, 1) := by decide +kernel
theorem dX7_two_74 : decode cX7_two 74 = .ok (.invokevirtual 125, 3) := by decide +kernel
theorem dX7_two_77 : decode cX7_two 77 = .ok (.invokevirtual 158, 3) := by decide +kernel
theorem dX7_two_80 : decode cX7_two 80 = .ok (.astore 4, 2) := by decide +kernel
theorem dX7_two_82 : decode cX7_two 82 = .ok (.aload_n 0, 1) := by decide +kernel
theorem dX7_two_83 : decode cX7_two 83 = .ok (.aload_n 3, 1) := by decide +kernel
theorem dX7_two_84 : decode cX7_two 84 = .ok (.aload 4, 2) := by decide +kernel
theorem dX7_two_86 : decode cX7_two 86 = .ok (.invokevirtual 162, 3) := by decide +kernel
theorem dX7_two_89 : decode cX7_two 89 = .ok (.ireturn, 1) := by decide +kernel
set_option maxRecDepth 20000 in
theorem ggX7_all_X3_takeOver : GoodIn wsX7_all wsX3_takeOver := goodIn_r _ [11, 12, 13, 14, 15, 16, 17, 18, 19, 20, 21, 22, 23, 24, 151, 152, 153, 154, 155, 156, 157, 158, 159] (by decide +kernel) (by decide +kernel)
set_option maxRecDepth 20000 in
theorem gX7_all_X3_takeOver : GoodIn wsX7_all (wsV RX7 48 RX3 yX3_takeOver wsX3_takeOver) := goodIn_app (goodIn_of _ (by decide +kernel)) ggX7_all_X3_takeOver
set_option maxRecDepth 20000 in
theorem ggX7_all_X7_waysOf : GoodIn wsX7_all wsX7_waysOf := goodIn_r _ [29, 30, 31, 32, 33, 28, 34, 35, 36, 37, 38, 39, 40, 41, 42, 43, 44, 45, 46, 47, 48, 49, 50, 51, 52, 53, 54, 55, 56, 57, 58, 59, 60, 61, 62, 63, 64, 65, 66, 67, 68, 69, 70, 71, 72, 73, 10, 74, 20, 12, 75, 76, 77, 24, 78, 79, 80, 81, 21, 82, 83, 84, 85, 86, 87, 88, 89, 90, 91, 92, 93, 94, 95, 96, 97, 98, 99, 100, 101, 102, 103, 104, 105, 151, 152, 153, 154, 155, 156, 157, 158, 159, 145, 146, 147, 148, 149, 150, 160, 161, 162, 163, 164, 165, 166, 167, 168, 169, 170, 171, 172, 173] (by decide +kernel) (by decide +kernel)
set_option maxRecDepth 20000 in
theorem gX7_all_X7_waysOf : GoodIn wsX7_all (wsV RX7 125 RX7 yX7_waysOf wsX7_waysOf) := goodIn_app (goodIn_of _ (by decide +kernel)) ggX7_all_X7_waysOf
set_option maxRecDepth 20000 in
theorem ggX7_all_X6_findCheapest : GoodIn wsX7_all wsX6_findCheapest := goodIn_r _ [109, 110, 111, 112, 113, 38, 114, 56, 57, 54, 60, 69, 65, 66, 67, 68, 53, 115, 116, 117, 118, 119, 120, 121, 122, 52, 70, 55, 50, 48, 123, 95, 96, 97, 98, 51, 86, 99, 100, 101, 102, 124, 125, 126, 127, 91, 92, 93, 94, 49, 128, 129, 130, 131, 59, 58, 132, 133, 134, 135, 160, 161, 162, 163, 164, 165, 166, 167, 168, 169, 170, 171, 172, 173, 151, 152, 153, 154, 155, 156, 157, 158, 159] (by decide +kernel) (by decide +kernel)
set_option maxRecDepth 20000 in
theorem gX7_all_X6_findCheapest : GoodIn wsX7_all (wsV RX7 141 RX6 yX6_findCheapest wsX6_findCheapest) := goodIn_app (goodIn_of _ (by decide +kernel)) ggX7_all_X6_findCheapest
set_option maxRecDepth 20000 in
theorem ggX7_all_X3_putDown : GoodIn wsX7_all wsX3_putDown := goodIn_r _ [139, 140, 66, 67, 68, 21, 17, 20, 151, 152, 153, 154, 155, 156, 157, 158, 159] (by decide +kernel) (by decide +kernel)
set_option maxRecDepth 20000 in
theorem gX7_all_X3_putDown : GoodIn wsX7_all (wsV RX7 114 RX3 yX3_putDown wsX3_putDown) := goodIn_app (goodIn_of _ (by decide +kernel)) ggX7_all_X3_putDown
set_option maxRecDepth 20000 in
theorem ggX7_all_X3_worthOfHeap : GoodIn wsX7_all wsX3_worthOfHeap := goodIn_r _ [144, 22, 17, 18, 151, 152, 153, 154, 155, 156, 157, 158, 159] (by decide +kernel) (by decide +kernel)
set_option maxRecDepth 20000 in
theorem gX7_all_X3_worthOfHeap : GoodIn wsX7_all (wsV RX7 175 RX3 yX3_worthOfHeap wsX3_worthOfHeap) := goodIn_app (goodIn_of _ (by decide +kernel)) ggX7_all_X3_worthOfHeap
theorem dX7_all_0 : decode cX7_all 0 = .ok (.iload_n 1, 1) := by decide +kernel
theorem dX7_all_1 : decode cX7_all 1 = .ok (.ifCond .eq 10, 3) := by decide +kernel
theorem dX7_all_4 : decode cX7_all 4 = .ok (.iload_n 1, 1) := by decide +kernel
theorem dX7_all_5 : decode cX7_all 5 = .ok (.iconst 1, 1) := by decide +kernel
theorem dX7_all_6 : decode cX7_all 6 = .ok (.if_icmp .eq 5, 3) := by decide +kernel
theorem dX7_all_9 : decode cX7_all 9 = .ok (.iconst (-1), 1) := by decide +kernel
theorem dX7_all_10 : decode cX7_all 10 = .ok (.ireturn, 1) := by decide +kernel
theorem dX7_all_11 : decode cX7_all 11 = .ok (.aload_n 0, 1) := by decide +kernel
theorem dX7_all_12 : decode cX7_all 12 = .ok (.getfield 19, 3) := by decide +kernel
theorem dX7_all_15 : decode cX7_all 15 = .ok (.aload_n 0, 1) := by decide +kernel
theorem dX7_all_16 : decode cX7_all 16 = .ok (.getfield 10, 3) := by decide +kernel
theorem dX7_all_19 : decode cX7_all 19 = .ok (.invokevirtual 48, 3) := by decide +kernel
theorem dX7_all_22 : decode cX7_all 22 = .ok (.iconst 0, 1) := by decide +kernel
theorem dX7_all_23 : decode cX7_all 23 = .ok (.istore_n 2, 1) := by decide +kernel
theorem dX7_all_24 : decode cX7_all 24 = .ok (.iconst 0, 1) := by decide +kernel
theorem dX7_all_25 : decode cX7_all 25 = .ok (.istore_n 3, 1) := by decide +kernel
theorem dX7_all_26 : decode cX7_all 26 = .ok (.iload_n 3, 1) := by decide +kernel
theorem dX7_all_27 : decode cX7_all 27 = .ok (.aload_n 0, 1) := by decide +kernel
theorem dX7_all_28 : decode cX7_all 28 = .ok (.getfield 19, 3) := by decide +kernel
theorem dX7_all_31 : decode cX7_all 31 = .ok (.getfield 166, 3) := by decide +kernel
theorem dX7_all_34 : decode cX7_all 34 = .ok (.if_icmp .ge 64, 3) := by decide +kernel
theorem dX7_all_37 : decode cX7_all 37 = .ok (.aload_n 0, 1) := by decide +kernel
theorem dX7_all_38 : decode cX7_all 38 = .ok (.getfield 19, 3) := by decide +kernel
theorem dX7_all_41 : decode cX7_all 41 = .ok (.getfield 83, 3) := by decide +kernel
theorem dX7_all_44 : decode cX7_all 44 = .ok (.iload_n 3, 1) := by decide +kernel
theorem dX7_all_45 : decode cX7_all 45 = .ok (.iaload, 1) := by decide +kernel
theorem dX7_all_46 : decode cX7_all 46 = .ok (.ifCond .ne 46, 3) := by decide +kernel
theorem dX7_all_49 : decode cX7_all 49 = .ok (.aload_n 0, 1) := by decide +kernel
theorem dX7_all_50 : decode cX7_all 50 = .ok (.aload_n 0, 1) := by decide +kernel
theorem dX7_all_51 : decode cX7_all 51 = .ok (.getfield 19, 3) := by decide +kernel
theorem dX7_all_54 : decode cX7_all 54 = .ok (.iload_n 3, 1) := by decide +kernel
theorem dX7_all_55 : decode cX7_all 55 = .ok (.invokevirtual 125, 3) := by decide +kernel
theorem dX7_all_58 : decode cX7_all 58 = .ok (.astore 4, 2) := by decide +kernel
theorem dX7_all_60 : decode cX7_all 60 = .ok (.aload 4, 2) := by decide +kernel
theorem dX7_all_62 : decode cX7_all 62 = .ok (.invokevirtual 141, 3) := by decide +kernel
theorem dX7_all_65 : decode cX7_all 65 = .ok (.ifCond .ne 6, 3) := by decide +kernel
theorem dX7_all_68 : decode cX7_all 68 = .ok (.goto 30, 3) := by decide +kernel
theorem dX7_all_71 : decode cX7_all 71 = .ok (.aload_n 0, 1) := by decide +kernel
theorem dX7_all_72 : decode cX7_all 72 = .ok (.getfield 19, 3) := by decide +kernel
theorem dX7_all_75 : decode cX7_all 75 = .ok (.iload_n 3, 1) := by decide +kernel
theorem dX7_all_76 : decode cX7_all 76 = .ok (.aload 4, 2) := by decide +kernel
theorem dX7_all_78 : decode cX7_all 78 = .ok (.getfield 169, 3) := by decide +kernel
theorem dX7_all_81 : decode cX7_all 81 = .ok (.aload 4, 2) := by decide +kernel
theorem dX7_all_83 : decode cX7_all 83 = .ok (.getfield 172, 3) := by decide +kernel
theorem dX7_all_86 : decode cX7_all 86 = .ok (.invokevirtual 114, 3) := by decide +kernel
theorem dX7_all_89 : decode cX7_all 89 = .ok (.iinc 2 1, 3) := by decide +kernel
theorem dX7_all_92 : decode cX7_all 92 = .ok (.iinc 3 1, 3) := by decide +kernel
theorem dX7_all_95 : decode cX7_all 95 = .ok (.goto (-69), 3) := by decide +kernel
theorem dX7_all_98 : decode cX7_all 98 = .ok (.iload_n 1, 1) := by decide +kernel
theorem dX7_all_99 : decode cX7_all 99 = .ok (.ifCond .ne 7, 3) := by decide +kernel
theorem dX7_all_102 : decode cX7_all 102 = .ok (.iload_n 2, 1) := by decide +kernel
theorem dX7_all_103 : decode cX7_all 103 = .ok (.goto 10, 3) := by decide +kernel
theorem dX7_all_106 : decode cX7_all 106 = .ok (.aload_n 0, 1) := by decide +kernel
theorem dX7_all_107 : decode cX7_all 107 = .ok (.getfield 19, 3) := by decide +kernel
theorem dX7_all_110 : decode cX7_all 110 = .ok (.invokevirtual 175, 3) := by decide +kernel
theorem dX7_all_113 : decode cX7_all 113 = .ok (.ireturn, 1) := by decide +kernel
set_option maxRecDepth 20000 in
theorem ggX7_broken_X7_isRow : GoodIn wsX7_broken wsX7_isRow := goodIn_r _ [14, 1, 15, 131, 132, 133, 134, 135, 136, 137, 138, 139, 140, 141, 142, 143, 144, 145] (by decide +kernel) (by decide +kernel)
set_option maxRecDepth 20000 in
theorem gX7_broken_X7_isRow : GoodIn wsX7_broken (wsV RX7 77 RX7 yX7_isRow wsX7_isRow) := goodIn_app (goodIn_of _ (by decide +kernel)) ggX7_broken_X7_isRow
set_option maxRecDepth 20000 in
theorem ggX7_broken_X7_canMend : GoodIn wsX7_broken wsX7_canMend := goodIn_r _ [19, 20, 1, 21, 22, 3, 4, 5, 6, 23, 24, 25, 26, 27, 28, 29, 30, 31, 32, 33, 34, 35, 36, 37, 38, 39, 40, 41, 42, 43, 44, 45, 46, 47, 48, 49, 50, 51, 52, 53, 54, 55, 56, 57, 58, 59, 60, 61, 13, 62, 63, 64, 65, 66, 67, 68, 69, 70, 71, 72, 73, 74, 75, 76, 77, 78, 79, 80, 81, 82, 83, 84, 85, 86, 87, 88, 89, 90, 91, 92, 93, 94, 95, 96, 97, 98, 99, 100, 101, 102, 103, 104, 105, 106, 107, 108, 109, 110, 111, 112, 113, 114, 115, 116, 117, 118, 119, 120, 121, 122, 123, 124, 125, 126, 127, 128, 129, 130, 131, 132, 133, 134, 135, 136, 137, 138, 139, 140, 141, 142, 143, 144, 145, 146, 147, 148, 149, 150, 151, 152, 153, 154, 155, 156, 157, 158, 159] (by decide +kernel) (by decide +kernel)
set_option maxRecDepth 20000 in
theorem gX7_broken_X7_canMend : GoodIn wsX7_broken (wsV RX7 184 RX7 yX7_canMend wsX7_canMend) := goodIn_app (goodIn_of _ (by decide +kernel)) ggX7_broken_X7_canMend
theorem dX7_broken_0 : decode cX7_broken 0 = .ok (.aload_n 0, 1) := by decide +kernel
theorem dX7_broken_1 : decode cX7_broken 1 = .ok (.iload_n 1, 1) := by decide +kernel
theorem dX7_broken_2 : decode cX7_broken 2 = .ok (.invokevirtual 77, 3) := by decide +kernel
theorem dX7_broken_5 : decode cX7_broken 5 = .ok (.ifCond .eq 20, 3) := by decide +kernel
theorem dX7_broken_8 : decode cX7_broken 8 = .ok (.iload_n 2, 1) := by decide +kernel
theorem dX7_broken_9 : decode cX7_broken 9 = .ok (.ifCond .lt 16, 3) := by decide +kernel
theorem dX7_broken_12 : decode cX7_broken 12 = .ok (.iload_n 2, 1) := by decide +kernel
theorem dX7_broken_13 : decode cX7_broken 13 = .ok (.aload_n 0, 1) := by decide +kernel
theorem dX7_broken_14 : decode cX7_broken 14 = .ok (.getfield 10, 3) := by decide +kernel
theorem dX7_broken_17 : decode cX7_broken 17 = .ok (.getfield 83, 3) := by decide +kernel
theorem dX7_broken_20 : decode cX7_broken 20 = .ok (.iload_n 1, 1) := by decide +kernel
theorem dX7_broken_21 : decode cX7_broken 21 = .ok (.iaload, 1) := by decide +kernel
theorem dX7_broken_22 : decode cX7_broken 22 = .ok (.if_icmp .lt 5, 3) := by decide +kernel
theorem dX7_broken_25 : decode cX7_broken 25 = .ok (.iconst (-1), 1) := by decide +kernel
theorem dX7_broken_26 : decode cX7_broken 26 = .ok (.ireturn, 1) := by decide +kernel
theorem dX7_broken_27 : decode cX7_broken 27 = .ok (.aload_n 0, 1) := by decide +kernel
theorem dX7_broken_28 : decode cX7_broken 28 = .ok (.getfield 10, 3) := by decide +kernel
theorem dX7_broken_31 : decode cX7_broken 31 = .ok (.getfield 83, 3) := by decide +kernel
theorem dX7_broken_34 : decode cX7_broken 34 = .ok (.iload_n 1, 1) := by decide +kernel
theorem dX7_broken_35 : decode cX7_broken 35 = .ok (.iaload, 1) := by decide +kernel
theorem dX7_broken_36 : decode cX7_broken 36 = .ok (.istore_n 3, 1) := by decide +kernel
theorem dX7_broken_37 : decode cX7_broken 37 = .ok (.iconst 1, 1) := by decide +kernel
theorem dX7_broken_38 : decode cX7_broken 38 = .ok (.istore 4, 2) := by decide +kernel
theorem dX7_broken_40 : decode cX7_broken 40 = .ok (.iload 4, 2) := by decide +kernel
theorem dX7_broken_42 : decode cX7_broken 42 = .ok (.iload_n 3, 1) := by decide +kernel
theorem dX7_broken_43 : decode cX7_broken 43 = .ok (.if_icmp .gt 65, 3) := by decide +kernel
theorem dX7_broken_46 : decode cX7_broken 46 = .ok (.iload_n 2, 1) := by decide +kernel
theorem dX7_broken_47 : decode cX7_broken 47 = .ok (.iload_n 3, 1) := by decide +kernel
theorem dX7_broken_48 : decode cX7_broken 48 = .ok (.iload 4, 2) := by decide +kernel
theorem dX7_broken_50 : decode cX7_broken 50 = .ok (.isub, 1) := by decide +kernel
theorem dX7_broken_51 : decode cX7_broken 51 = .ok (.invokestatic 178, 3) := by decide +kernel
theorem dX7_broken_54 : decode cX7_broken 54 = .ok (.istore 5, 2) := by decide +kernel
theorem dX7_broken_56 : decode cX7_broken 56 = .ok (.iconst 0, 1) := by decide +kernel
theorem dX7_broken_57 : decode cX7_broken 57 = .ok (.iload_n 2, 1) := by decide +kernel
theorem dX7_broken_58 : decode cX7_broken 58 = .ok (.iload 4, 2) := by decide +kernel
theorem dX7_broken_60 : decode cX7_broken 60 = .ok (.isub, 1) := by decide +kernel
theorem dX7_broken_61 : decode cX7_broken 61 = .ok (.iconst 1, 1) := by decide +kernel
theorem dX7_broken_62 : decode cX7_broken 62 = .ok (.iadd, 1) := by decide +kernel
theorem dX7_broken_63 : decode cX7_broken 63 = .ok (.invokestatic 181, 3) := by decide +kernel
theorem dX7_broken_66 : decode cX7_broken 66 = .ok (.istore 6, 2) := by decide +kernel
theorem dX7_broken_68 : decode cX7_broken 68 = .ok (.iload 6, 2) := by decide +kernel
theorem dX7_broken_70 : decode cX7_broken 70 = .ok (.iload 5, 2) := by decide +kernel
theorem dX7_broken_72 : decode cX7_broken 72 = .ok (.if_icmp .gt 30, 3) := by decide +kernel
theorem dX7_broken_75 : decode cX7_broken 75 = .ok (.aload_n 0, 1) := by decide +kernel
theorem dX7_broken_76 : decode cX7_broken 76 = .ok (.iload_n 1, 1) := by decide +kernel
theorem dX7_broken_77 : decode cX7_broken 77 = .ok (.iload_n 2, 1) := by decide +kernel
theorem dX7_broken_78 : decode cX7_broken 78 = .ok (.iload 6, 2) := by decide +kernel
theorem dX7_broken_80 : decode cX7_broken 80 = .ok (.iload 6, 2) := by decide +kernel
theorem dX7_broken_82 : decode cX7_broken 82 = .ok (.iload 4, 2) := by decide +kernel
theorem dX7_broken_84 : decode cX7_broken 84 = .ok (.iadd, 1) := by decide +kernel
theorem dX7_broken_85 : decode cX7_broken 85 = .ok (.iconst 1, 1) := by decide +kernel
theorem dX7_broken_86 : decode cX7_broken 86 = .ok (.isub, 1) := by decide +kernel
theorem dX7_broken_87 : decode cX7_broken 87 = .ok (.invokevirtual 184, 3) := by decide +kernel
theorem dX7_broken_90 : decode cX7_broken 90 = .ok (.ifCond .eq 6, 3) := by decide +kernel
theorem dX7_broken_93 : decode cX7_broken 93 = .ok (.iload 4, 2) := by decide +kernel
theorem dX7_broken_95 : decode cX7_broken 95 = .ok (.ireturn, 1) := by decide +kernel
theorem dX7_broken_96 : decode cX7_broken 96 = .ok (.iinc 6 1, 3) := by decide +kernel
theorem dX7_broken_99 : decode cX7_broken 99 = .ok (.goto (-31), 3) := by decide +kernel
theorem dX7_broken_102 : decode cX7_broken 102 = .ok (.iinc 4 1, 3) := by decide +kernel
theorem dX7_broken_105 : decode cX7_broken 105 = .ok (.goto (-65), 3) := by decide +kernel
theorem dX7_broken_108 : decode cX7_broken 108 = .ok (.bipush (-4), 2) := by decide +kernel
theorem dX7_broken_110 : decode cX7_broken 110 = .ok (.ireturn, 1) := by decide +kernel
set_option maxRecDepth 20000 in
theorem ggX7_by_X7_isShelf : GoodIn wsX7_by wsX7_isShelf := goodIn_r _ [16] (by decide +kernel) (by decide +kernel)
set_option maxRecDepth 20000 in
theorem gX7_by_X7_isShelf : GoodIn wsX7_by (wsV RX7 37 RX7 yX7_isShelf wsX7_isShelf) := goodIn_app (goodIn_of _ (by decide +kernel)) ggX7_by_X7_isShelf
set_option maxRecDepth 20000 in
theorem ggX7_by_X7_refusalOfOpen : GoodIn wsX7_by wsX7_refusalOfOpen := goodIn_r _ [20, 2, 21, 22, 23, 24, 15, 25, 26, 140, 141, 142, 143, 144, 145, 159, 160, 161, 162, 163, 164, 165, 166, 167] (by decide +kernel) (by decide +kernel)
set_option maxRecDepth 20000 in
theorem gX7_by_X7_refusalOfOpen : GoodIn wsX7_by (wsV RX7 121 RX7 yX7_refusalOfOpen wsX7_refusalOfOpen) := goodIn_app (goodIn_of _ (by decide +kernel)) ggX7_by_X7_refusalOfOpen
set_option maxRecDepth 20000 in
theorem ggX7_by_X7_refusalOfLaying : GoodIn wsX7_by wsX7_refusalOfLaying := goodIn_r _ [30, 6, 31, 7, 140, 141, 142, 143, 144, 145, 154, 155, 156, 157, 158] (by decide +kernel) (by decide +kernel)
set_option maxRecDepth 20000 in
theorem gX7_by_X7_refusalOfLaying : GoodIn wsX7_by (wsV RX7 188 RX7 yX7_refusalOfLaying wsX7_refusalOfLaying) := goodIn_app (goodIn_of _ (by decide +kernel)) ggX7_by_X7_refusalOfLaying
set_option maxRecDepth 20000 in
theorem ggX7_by_X3_takeOver : GoodIn wsX7_by wsX3_takeOver := goodIn_r _ [36, 37, 38, 39, 40, 41, 42, 43, 44, 45, 46, 47, 48, 49, 159, 160, 161, 162, 163, 164, 165, 166, 167] (by decide +kernel) (by decide +kernel)
set_option maxRecDepth 20000 in
theorem gX7_by_X3_takeOver : GoodIn wsX7_by (wsV RX7 48 RX3 yX3_takeOver wsX3_takeOver) := goodIn_app (goodIn_of _ (by decide +kernel)) ggX7_by_X3_takeOver
set_option maxRecDepth 20000 in
theorem ggX7_by_X0_init : GoodIn wsX7_by wsX0_init := goodIn_r _ [52, 53, 54, 55, 56, 57, 58, 59, 60, 61, 62, 63, 64, 146, 147, 148, 149, 150, 151, 152, 153, 159, 160, 161, 162, 163, 164, 165, 166, 167] (by decide +kernel) (by decide +kernel)
set_option maxRecDepth 20000 in
theorem gX7_by_X0_init : GoodIn wsX7_by (wsX0_init) := ggX7_by_X0_init
set_option maxRecDepth 20000 in
theorem ggX7_by_X0_comesToEnd : GoodIn wsX7_by wsX0_comesToEnd := goodIn_r _ [68, 56, 64, 61, 59, 69, 70, 57, 58, 71, 72, 73, 5, 74, 75, 76, 77, 78, 79, 60, 80, 81, 82, 83, 35, 84, 45, 37, 85, 86, 87, 88, 49, 89, 90, 91, 92, 46, 93, 94, 95, 96, 97, 98, 99, 100, 101, 102, 103, 104, 105, 106, 107, 108, 109, 110, 111, 112, 113, 114, 115, 116, 117, 118, 119, 120, 62, 121, 122, 123, 124, 125, 126, 127, 47, 42, 128, 129, 130, 131, 132, 133, 134, 135, 136, 137, 138, 139, 146, 147, 148, 149, 150, 151, 152, 153, 159, 160, 161, 162, 163, 164, 165, 166, 167, 168, 169] (by decide +kernel) (by decide +kernel)
set_option maxRecDepth 20000 in
theorem gX7_by_X0_comesToEnd : GoodIn wsX7_by (wsV RX7 200 RX0 yX0_comesToEnd wsX0_comesToEnd) := goodIn_app (goodIn_of _ (by decide +kernel)) ggX7_by_X0_comesToEnd
theorem dX7_by_0 : decode cX7_by 0 = .ok (.aload_n 0, 1) := by decide +kernel
theorem dX7_by_1 : decode cX7_by 1 = .ok (.iload_n 1, 1) := by decide +kernel
theorem dX7_by_2 : decode cX7_by 2 = .ok (.aload_n 0, 1) := by decide +kernel
theorem dX7_by_3 : decode cX7_by 3 = .ok (.iload_n 2, 1) := by decide +kernel
theorem dX7_by_4 : decode cX7_by 4 = .ok (.invokevirtual 37, 3) := by decide +kernel
theorem dX7_by_7 : decode cX7_by 7 = .ok (.ifCond .eq 18, 3) := by decide +kernel
theorem dX7_by_10 : decode cX7_by 10 = .ok (.iload 4, 2) := by decide +kernel
theorem dX7_by_12 : decode cX7_by 12 = .ok (.ifCond .lt 13, 3) := by decide +kernel
theorem dX7_by_15 : decode cX7_by 15 = .ok (.iload 4, 2) := by decide +kernel
theorem dX7_by_17 : decode cX7_by 17 = .ok (.iconst 2, 1) := by decide +kernel
theorem dX7_by_18 : decode cX7_by 18 = .ok (.if_icmp .gt 7, 3) := by decide +kernel
theorem dX7_by_21 : decode cX7_by 21 = .ok (.iconst 1, 1) := by decide +kernel
theorem dX7_by_22 : decode cX7_by 22 = .ok (.goto 4, 3) := by decide +kernel
theorem dX7_by_25 : decode cX7_by 25 = .ok (.iconst 0, 1) := by decide +kernel
theorem dX7_by_26 : decode cX7_by 26 = .ok (.invokevirtual 121, 3) := by decide +kernel
theorem dX7_by_29 : decode cX7_by 29 = .ok (.istore 5, 2) := by decide +kernel
theorem dX7_by_31 : decode cX7_by 31 = .ok (.iload 5, 2) := by decide +kernel
theorem dX7_by_33 : decode cX7_by 33 = .ok (.ifCond .ne 10, 3) := by decide +kernel
theorem dX7_by_36 : decode cX7_by 36 = .ok (.aload_n 0, 1) := by decide +kernel
theorem dX7_by_37 : decode cX7_by 37 = .ok (.iload_n 2, 1) := by decide +kernel
theorem dX7_by_38 : decode cX7_by 38 = .ok (.invokevirtual 188, 3) := by decide +kernel
theorem dX7_by_41 : decode cX7_by 41 = .ok (.istore 5, 2) := by decide +kernel
theorem dX7_by_43 : decode cX7_by 43 = .ok (.iload 5, 2) := by decide +kernel
theorem dX7_by_45 : decode cX7_by 45 = .ok (.ifCond .eq 6, 3) := by decide +kernel
theorem dX7_by_48 : decode cX7_by 48 = .ok (.iload 5, 2) := by decide +kernel
theorem dX7_by_50 : decode cX7_by 50 = .ok (.ireturn, 1) := by decide +kernel
theorem dX7_by_51 : decode cX7_by 51 = .ok (.aload_n 0, 1) := by decide +kernel
theorem dX7_by_52 : decode cX7_by 52 = .ok (.getfield 19, 3) := by decide +kernel
theorem dX7_by_55 : decode cX7_by 55 = .ok (.aload_n 0, 1) := by decide +kernel
theorem dX7_by_56 : decode cX7_by 56 = .ok (.getfield 10, 3) := by decide +kernel
theorem dX7_by_59 : decode cX7_by 59 = .ok (.invokevirtual 48, 3) := by decide +kernel
theorem dX7_by_62 : decode cX7_by 62 = .ok (.new 191, 3) := by decide +kernel
theorem dX7_by_65 : decode cX7_by 65 = .ok (.dup, 1) := by decide +kernel
theorem dX7_by_66 : decode cX7_by 66 = .ok (.aload_n 0, 1) := by decide +kernel
theorem dX7_by_67 : decode cX7_by 67 = .ok (.getfield 19, 3) := by decide +kernel
theorem dX7_by_70 : decode cX7_by 70 = .ok (.iload_n 1, 1) := by decide +kernel
theorem dX7_by_71 : decode cX7_by 71 = .ok (.aload_n 0, 1) := by decide +kernel
theorem dX7_by_72 : decode cX7_by 72 = .ok (.getfield 24, 3) := by decide +kernel
theorem dX7_by_75 : decode cX7_by 75 = .ok (.iload_n 2, 1) := by decide +kernel
theorem dX7_by_76 : decode cX7_by 76 = .ok (.aaload, 1) := by decide +kernel
theorem dX7_by_77 : decode cX7_by 77 = .ok (.getfield 193, 3) := by decide +kernel
theorem dX7_by_80 : decode cX7_by 80 = .ok (.iload_n 3, 1) := by decide +kernel
theorem dX7_by_81 : decode cX7_by 81 = .ok (.invokespecial 197, 3) := by decide +kernel
theorem dX7_by_84 : decode cX7_by 84 = .ok (.astore 6, 2) := by decide +kernel
theorem dX7_by_86 : decode cX7_by 86 = .ok (.aload 6, 2) := by decide +kernel
theorem dX7_by_88 : decode cX7_by 88 = .ok (.invokevirtual 200, 3) := by decide +kernel
theorem dX7_by_91 : decode cX7_by 91 = .ok (.ifCond .ne 6, 3) := by decide +kernel
theorem dX7_by_94 : decode cX7_by 94 = .ok (.bipush (-4), 2) := by decide +kernel
theorem dX7_by_96 : decode cX7_by 96 = .ok (.ireturn, 1) := by decide +kernel
theorem dX7_by_97 : decode cX7_by 97 = .ok (.iload 4, 2) := by decide +kernel
theorem dX7_by_99 : decode cX7_by 99 = .ok (.ifCond .ne 9, 3) := by decide +kernel
theorem dX7_by_102 : decode cX7_by 102 = .ok (.aload 6, 2) := by decide +kernel
theorem dX7_by_104 : decode cX7_by 104 = .ok (.getfield 203, 3) := by decide +kernel
theorem dX7_by_107 : decode cX7_by 107 = .ok (.ireturn, 1) := by decide +kernel
theorem dX7_by_108 : decode cX7_by 108 = .ok (.iload 4, 2) := by decide +kernel
theorem dX7_by_110 : decode cX7_by 110 = .ok (.iconst 1, 1) := by decide +kernel
theorem dX7_by_111 : decode cX7_by 111 = .ok (.if_icmp .ne 17, 3) := by decide +kernel
theorem dX7_by_114 : decode cX7_by 114 = .ok (.aload 6, 2) := by decide +kernel
theorem dX7_by_116 : decode cX7_by 116 = .ok (.getfield 204, 3) := by decide +kernel
theorem dX7_by_119 : decode cX7_by 119 = .ok (.aload 6, 2) := by decide +kernel
theorem dX7_by_121 : decode cX7_by 121 = .ok (.getfield 207, 3) := by decide +kernel
theorem dX7_by_124 : decode cX7_by 124 = .ok (.isub, 1) := by decide +kernel
theorem dX7_by_125 : decode cX7_by 125 = .ok (.goto 8, 3) := by decide +kernel
theorem dX7_by_128 : decode cX7_by 128 = .ok (.aload 6, 2) := by decide +kernel
theorem dX7_by_130 : decode cX7_by 130 = .ok (.getfield 210, 3) := by decide +kernel
theorem dX7_by_133 : decode cX7_by 133 = .ok (.ireturn, 1) := by decide +kernel
set_option maxRecDepth 20000 in
theorem ggX7_image_X3_takeOver : GoodIn wsX7_image wsX3_takeOver := goodIn_r _ [9, 10, 11, 12, 13, 14, 15, 16, 17, 18, 19, 20, 21, 22, 29, 30, 31, 32, 33, 34, 35, 36, 37] (by decide +kernel) (by decide +kernel)
set_option maxRecDepth 20000 in
theorem gX7_image_X3_takeOver : GoodIn wsX7_image (wsV RX7 48 RX3 yX3_takeOver wsX3_takeOver) := goodIn_app (goodIn_of _ (by decide +kernel)) ggX7_image_X3_takeOver
theorem dX7_image_0 : decode cX7_image 0 = .ok (.aload_n 0, 1) := by decide +kernel
theorem dX7_image_1 : decode cX7_image 1 = .ok (.getfield 16, 3) := by decide +kernel
theorem dX7_image_4 : decode cX7_image 4 = .ok (.aload_n 0, 1) := by decide +kernel
theorem dX7_image_5 : decode cX7_image 5 = .ok (.getfield 10, 3) := by decide +kernel
theorem dX7_image_8 : decode cX7_image 8 = .ok (.invokevirtual 48, 3) := by decide +kernel
theorem dX7_image_11 : decode cX7_image 11 = .ok (.aload_n 0, 1) := by decide +kernel
theorem dX7_image_12 : decode cX7_image 12 = .ok (.iconst 1, 1) := by decide +kernel
theorem dX7_image_13 : decode cX7_image 13 = .ok (.putfield 28, 3) := by decide +kernel
theorem dX7_image_16 : decode cX7_image 16 = .ok (.aload_n 0, 1) := by decide +kernel
theorem dX7_image_17 : decode cX7_image 17 = .ok (.getfield 16, 3) := by decide +kernel
theorem dX7_image_20 : decode cX7_image 20 = .ok (.getfield 166, 3) := by decide +kernel
theorem dX7_image_23 : decode cX7_image 23 = .ok (.ireturn, 1) := by decide +kernel
set_option maxRecDepth 20000 in
theorem ggX7_restore_X3_takeOver : GoodIn wsX7_restore wsX3_takeOver := goodIn_r _ [9, 10, 11, 12, 13, 14, 15, 16, 17, 18, 19, 20, 21, 22, 29, 30, 31, 32, 33, 34, 35, 36, 37] (by decide +kernel) (by decide +kernel)
set_option maxRecDepth 20000 in
theorem gX7_restore_X3_takeOver : GoodIn wsX7_restore (wsV RX7 48 RX3 yX3_takeOver wsX3_takeOver) := goodIn_app (goodIn_of _ (by decide +kernel)) ggX7_restore_X3_takeOver
theorem dX7_restore_0 : decode cX7_restore 0 = .ok (.aload_n 0, 1) := by decide +kernel
theorem dX7_restore_1 : decode cX7_restore 1 = .ok (.getfield 28, 3) := by decide +kernel
theorem dX7_restore_4 : decode cX7_restore 4 = .ok (.ifCond .ne 6, 3) := by decide +kernel
theorem dX7_restore_7 : decode cX7_restore 7 = .ok (.bipush (-3), 2) := by decide +kernel
theorem dX7_restore_9 : decode cX7_restore 9 = .ok (.ireturn, 1) := by decide +kernel
theorem dX7_restore_10 : decode cX7_restore 10 = .ok (.aload_n 0, 1) := by decide +kernel
theorem dX7_restore_11 : decode cX7_restore 11 = .ok (.getfield 10, 3) := by decide +kernel
theorem dX7_restore_14 : decode cX7_restore 14 = .ok (.aload_n 0, 1) := by decide +kernel
theorem dX7_restore_15 : decode cX7_restore 15 = .ok (.getfield 16, 3) := by decide +kernel
theorem dX7_restore_18 : decode cX7_restore 18 = .ok (.invokevirtual 48, 3) := by decide +kernel
theorem dX7_restore_21 : decode cX7_restore 21 = .ok (.aload_n 0, 1) := by decide +kernel
theorem dX7_restore_22 : decode cX7_restore 22 = .ok (.getfield 10, 3) := by decide +kernel
theorem dX7_restore_25 : decode cX7_restore 25 = .ok (.getfield 166, 3) := by decide +kernel
theorem dX7_restore_28 : decode cX7_restore 28 = .ok (.ireturn, 1) := by decide +kernel
set_option maxRecDepth 20000 in
theorem ggX7_count_X3_slatesInHeap : GoodIn wsX7_count wsX3_slatesInHeap := goodIn_r _ [9, 10, 11, 29, 30, 31, 32, 33, 34, 35, 36, 37] (by decide +kernel) (by decide +kernel)
set_option maxRecDepth 20000 in
theorem gX7_count_X3_slatesInHeap : GoodIn wsX7_count (wsV RX7 216 RX3 yX3_slatesInHeap wsX3_slatesInHeap) := goodIn_app (goodIn_of _ (by decide +kernel)) ggX7_count_X3_slatesInHeap
set_option maxRecDepth 20000 in
theorem ggX7_count_X3_rowsLaid : GoodIn wsX7_count wsX3_rowsLaid := goodIn_r _ [15, 16, 17, 29, 30, 31, 32, 33, 34, 35, 36, 37] (by decide +kernel) (by decide +kernel)
set_option maxRecDepth 20000 in
theorem gX7_count_X3_rowsLaid : GoodIn wsX7_count (wsV RX7 219 RX3 yX3_rowsLaid wsX3_rowsLaid) := goodIn_app (goodIn_of _ (by decide +kernel)) ggX7_count_X3_rowsLaid
set_option maxRecDepth 20000 in
theorem ggX7_count_X3_worthOfHeap : GoodIn wsX7_count wsX3_worthOfHeap := goodIn_r _ [21, 10, 11, 22, 29, 30, 31, 32, 33, 34, 35, 36, 37] (by decide +kernel) (by decide +kernel)
set_option maxRecDepth 20000 in
theorem gX7_count_X3_worthOfHeap : GoodIn wsX7_count (wsV RX7 175 RX3 yX3_worthOfHeap wsX3_worthOfHeap) := goodIn_app (goodIn_of _ (by decide +kernel)) ggX7_count_X3_worthOfHeap
theorem dX7_count_0 : decode cX7_count 0 = .ok (.iload_n 1, 1) := by decide +kernel
theorem dX7_count_1 : decode cX7_count 1 = .ok (.tableswitch 87 0 5 #[39, 47, 55, 63, 71, 79], 39) := by decide +kernel
theorem dX7_count_40 : decode cX7_count 40 = .ok (.aload_n 0, 1) := by decide +kernel
theorem dX7_count_41 : decode cX7_count 41 = .ok (.getfield 10, 3) := by decide +kernel
theorem dX7_count_44 : decode cX7_count 44 = .ok (.getfield 213, 3) := by decide +kernel
theorem dX7_count_47 : decode cX7_count 47 = .ok (.ireturn, 1) := by decide +kernel
theorem dX7_count_48 : decode cX7_count 48 = .ok (.aload_n 0, 1) := by decide +kernel
theorem dX7_count_49 : decode cX7_count 49 = .ok (.getfield 10, 3) := by decide +kernel
theorem dX7_count_52 : decode cX7_count 52 = .ok (.getfield 166, 3) := by decide +kernel
theorem dX7_count_55 : decode cX7_count 55 = .ok (.ireturn, 1) := by decide +kernel
theorem dX7_count_56 : decode cX7_count 56 = .ok (.aload_n 0, 1) := by decide +kernel
theorem dX7_count_57 : decode cX7_count 57 = .ok (.getfield 10, 3) := by decide +kernel
theorem dX7_count_60 : decode cX7_count 60 = .ok (.getfield 74, 3) := by decide +kernel
theorem dX7_count_63 : decode cX7_count 63 = .ok (.ireturn, 1) := by decide +kernel
theorem dX7_count_64 : decode cX7_count 64 = .ok (.aload_n 0, 1) := by decide +kernel
theorem dX7_count_65 : decode cX7_count 65 = .ok (.getfield 10, 3) := by decide +kernel
theorem dX7_count_68 : decode cX7_count 68 = .ok (.invokevirtual 216, 3) := by decide +kernel
theorem dX7_count_71 : decode cX7_count 71 = .ok (.ireturn, 1) := by decide +kernel
theorem dX7_count_72 : decode cX7_count 72 = .ok (.aload_n 0, 1) := by decide +kernel
theorem dX7_count_73 : decode cX7_count 73 = .ok (.getfield 10, 3) := by decide +kernel
theorem dX7_count_76 : decode cX7_count 76 = .ok (.invokevirtual 219, 3) := by decide +kernel
theorem dX7_count_79 : decode cX7_count 79 = .ok (.ireturn, 1) := by decide +kernel
theorem dX7_count_80 : decode cX7_count 80 = .ok (.aload_n 0, 1) := by decide +kernel
theorem dX7_count_81 : decode cX7_count 81 = .ok (.getfield 10, 3) := by decide +kernel
theorem dX7_count_84 : decode cX7_count 84 = .ok (.invokevirtual 175, 3) := by decide +kernel
theorem dX7_count_87 : decode cX7_count 87 = .ok (.ireturn, 1) := by decide +kernel
theorem dX7_count_88 : decode cX7_count 88 = .ok (.iconst (-1), 1) := by decide +kernel
theorem dX7_count_89 : decode cX7_count 89 = .ok (.ireturn, 1) := by decide +kernel
set_option maxRecDepth 20000 in
theorem ggX7_keep_X7_isShelf : GoodIn wsX7_keep wsX7_isShelf := goodIn_r _ [9] (by decide +kernel) (by decide +kernel)
set_option maxRecDepth 20000 in
theorem gX7_keep_X7_isShelf : GoodIn wsX7_keep (wsV RX7 37 RX7 yX7_isShelf wsX7_isShelf) := goodIn_app (goodIn_of _ (by decide +kernel)) ggX7_keep_X7_isShelf
set_option maxRecDepth 20000 in
theorem ggX7_keep_X4_holdNothing : GoodIn wsX7_keep wsX4_holdNothing := goodIn_r _ [14, 15, 16, 17, 38, 39, 40, 41, 42] (by decide +kernel) (by decide +kernel)
set_option maxRecDepth 20000 in
theorem gX7_keep_X4_holdNothing : GoodIn wsX7_keep (wsV RX7 222 RX4 yX4_holdNothing wsX4_holdNothing) := goodIn_app (goodIn_of _ (by decide +kernel)) ggX7_keep_X4_holdNothing
set_option maxRecDepth 20000 in
theorem ggX7_keep_X1_init : GoodIn wsX7_keep wsX1_init := goodIn_r _ [20, 21, 22, 23, 24, 25, 36, 37] (by decide +kernel) (by decide +kernel)
set_option maxRecDepth 20000 in
theorem gX7_keep_X1_init : GoodIn wsX7_keep (wsX1_init) := ggX7_keep_X1_init
set_option maxRecDepth 20000 in
theorem ggX7_keep_X4_holdLaying : GoodIn wsX7_keep wsX4_holdLaying := goodIn_r _ [29, 15, 16, 17, 38, 39, 40, 41, 42] (by decide +kernel) (by decide +kernel)
set_option maxRecDepth 20000 in
theorem gX7_keep_X4_holdLaying : GoodIn wsX7_keep (wsV RX7 230 RX4 yX4_holdLaying wsX4_holdLaying) := goodIn_app (goodIn_of _ (by decide +kernel)) ggX7_keep_X4_holdLaying
theorem dX7_keep_0 : decode cX7_keep 0 = .ok (.aload_n 0, 1) := by decide +kernel
theorem dX7_keep_1 : decode cX7_keep 1 = .ok (.iload_n 1, 1) := by decide +kernel
theorem dX7_keep_2 : decode cX7_keep 2 = .ok (.invokevirtual 37, 3) := by decide +kernel
theorem dX7_keep_5 : decode cX7_keep 5 = .ok (.ifCond .eq 12, 3) := by decide +kernel
theorem dX7_keep_8 : decode cX7_keep 8 = .ok (.iload_n 2, 1) := by decide +kernel
theorem dX7_keep_9 : decode cX7_keep 9 = .ok (.ifCond .lt 8, 3) := by decide +kernel
theorem dX7_keep_12 : decode cX7_keep 12 = .ok (.iload_n 2, 1) := by decide +kernel
theorem dX7_keep_13 : decode cX7_keep 13 = .ok (.iconst 1, 1) := by decide +kernel
theorem dX7_keep_14 : decode cX7_keep 14 = .ok (.if_icmp .le 5, 3) := by decide +kernel
theorem dX7_keep_17 : decode cX7_keep 17 = .ok (.iconst (-1), 1) := by decide +kernel
theorem dX7_keep_18 : decode cX7_keep 18 = .ok (.ireturn, 1) := by decide +kernel
theorem dX7_keep_19 : decode cX7_keep 19 = .ok (.iload_n 2, 1) := by decide +kernel
theorem dX7_keep_20 : decode cX7_keep 20 = .ok (.ifCond .ne 14, 3) := by decide +kernel
theorem dX7_keep_23 : decode cX7_keep 23 = .ok (.aload_n 0, 1) := by decide +kernel
theorem dX7_keep_24 : decode cX7_keep 24 = .ok (.getfield 24, 3) := by decide +kernel
theorem dX7_keep_27 : decode cX7_keep 27 = .ok (.iload_n 1, 1) := by decide +kernel
theorem dX7_keep_28 : decode cX7_keep 28 = .ok (.aaload, 1) := by decide +kernel
theorem dX7_keep_29 : decode cX7_keep 29 = .ok (.invokevirtual 222, 3) := by decide +kernel
theorem dX7_keep_32 : decode cX7_keep 32 = .ok (.iconst 0, 1) := by decide +kernel
theorem dX7_keep_33 : decode cX7_keep 33 = .ok (.ireturn, 1) := by decide +kernel
theorem dX7_keep_34 : decode cX7_keep 34 = .ok (.iload_n 3, 1) := by decide +kernel
theorem dX7_keep_35 : decode cX7_keep 35 = .ok (.ifCond .lt 21, 3) := by decide +kernel
theorem dX7_keep_38 : decode cX7_keep 38 = .ok (.iload_n 3, 1) := by decide +kernel
theorem dX7_keep_39 : decode cX7_keep 39 = .ok (.bipush 6, 2) := by decide +kernel
theorem dX7_keep_41 : decode cX7_keep 41 = .ok (.if_icmp .gt 15, 3) := by decide +kernel
theorem dX7_keep_44 : decode cX7_keep 44 = .ok (.iload 4, 2) := by decide +kernel
theorem dX7_keep_46 : decode cX7_keep 46 = .ok (.ifCond .lt 10, 3) := by decide +kernel
theorem dX7_keep_49 : decode cX7_keep 49 = .ok (.iload 4, 2) := by decide +kernel
theorem dX7_keep_51 : decode cX7_keep 51 = .ok (.bipush 9, 2) := by decide +kernel
theorem dX7_keep_53 : decode cX7_keep 53 = .ok (.if_icmp .le 5, 3) := by decide +kernel
theorem dX7_keep_56 : decode cX7_keep 56 = .ok (.iconst (-1), 1) := by decide +kernel
theorem dX7_keep_57 : decode cX7_keep 57 = .ok (.ireturn, 1) := by decide +kernel
theorem dX7_keep_58 : decode cX7_keep 58 = .ok (.aload_n 0, 1) := by decide +kernel
theorem dX7_keep_59 : decode cX7_keep 59 = .ok (.getfield 24, 3) := by decide +kernel
theorem dX7_keep_62 : decode cX7_keep 62 = .ok (.iload_n 1, 1) := by decide +kernel
theorem dX7_keep_63 : decode cX7_keep 63 = .ok (.aaload, 1) := by decide +kernel
theorem dX7_keep_64 : decode cX7_keep 64 = .ok (.new 225, 3) := by decide +kernel
theorem dX7_keep_67 : decode cX7_keep 67 = .ok (.dup, 1) := by decide +kernel
theorem dX7_keep_68 : decode cX7_keep 68 = .ok (.iload_n 3, 1) := by decide +kernel
theorem dX7_keep_69 : decode cX7_keep 69 = .ok (.iload 4, 2) := by decide +kernel
theorem dX7_keep_71 : decode cX7_keep 71 = .ok (.invokespecial 227, 3) := by decide +kernel
theorem dX7_keep_74 : decode cX7_keep 74 = .ok (.invokevirtual 230, 3) := by decide +kernel
theorem dX7_keep_77 : decode cX7_keep 77 = .ok (.iconst 0, 1) := by decide +kernel
theorem dX7_keep_78 : decode cX7_keep 78 = .ok (.ireturn, 1) := by decide +kernel
set_option maxRecDepth 20000 in
theorem ggX7_row_X7_isShelf : GoodIn wsX7_row wsX7_isShelf := goodIn_r _ [6] (by decide +kernel) (by decide +kernel)
set_option maxRecDepth 20000 in
theorem gX7_row_X7_isShelf : GoodIn wsX7_row (wsV RX7 37 RX7 yX7_isShelf wsX7_isShelf) := goodIn_app (goodIn_of _ (by decide +kernel)) ggX7_row_X7_isShelf
set_option maxRecDepth 20000 in
theorem ggX7_row_X4_holdNumbers : GoodIn wsX7_row wsX4_holdNumbers := goodIn_r _ [11, 12, 13, 14, 15, 16, 23, 24, 25, 26, 27] (by decide +kernel) (by decide +kernel)
set_option maxRecDepth 20000 in
theorem gX7_row_X4_holdNumbers : GoodIn wsX7_row (wsV RX7 234 RX4 yX4_holdNumbers wsX4_holdNumbers) := goodIn_app (goodIn_of _ (by decide +kernel)) ggX7_row_X4_holdNumbers
theorem dX7_row_0 : decode cX7_row 0 = .ok (.aload_n 0, 1) := by decide +kernel
theorem dX7_row_1 : decode cX7_row 1 = .ok (.iload_n 1, 1) := by decide +kernel
theorem dX7_row_2 : decode cX7_row 2 = .ok (.invokevirtual 37, 3) := by decide +kernel
theorem dX7_row_5 : decode cX7_row 5 = .ok (.ifCond .eq 18, 3) := by decide +kernel
theorem dX7_row_8 : decode cX7_row 8 = .ok (.iload_n 2, 1) := by decide +kernel
theorem dX7_row_9 : decode cX7_row 9 = .ok (.ifCond .lt 14, 3) := by decide +kernel
theorem dX7_row_12 : decode cX7_row 12 = .ok (.iload_n 2, 1) := by decide +kernel
theorem dX7_row_13 : decode cX7_row 13 = .ok (.iconst 2, 1) := by decide +kernel
theorem dX7_row_14 : decode cX7_row 14 = .ok (.if_icmp .gt 9, 3) := by decide +kernel
theorem dX7_row_17 : decode cX7_row 17 = .ok (.iload_n 3, 1) := by decide +kernel
theorem dX7_row_18 : decode cX7_row 18 = .ok (.bipush 100, 2) := by decide +kernel
theorem dX7_row_20 : decode cX7_row 20 = .ok (.if_icmp .le 5, 3) := by decide +kernel
theorem dX7_row_23 : decode cX7_row 23 = .ok (.iconst (-1), 1) := by decide +kernel
theorem dX7_row_24 : decode cX7_row 24 = .ok (.ireturn, 1) := by decide +kernel
theorem dX7_row_25 : decode cX7_row 25 = .ok (.iload_n 3, 1) := by decide +kernel
theorem dX7_row_26 : decode cX7_row 26 = .ok (.ifCond .ge 6, 3) := by decide +kernel
theorem dX7_row_29 : decode cX7_row 29 = .ok (.bipush (-14), 2) := by decide +kernel
theorem dX7_row_31 : decode cX7_row 31 = .ok (.ireturn, 1) := by decide +kernel
theorem dX7_row_32 : decode cX7_row 32 = .ok (.aload_n 0, 1) := by decide +kernel
theorem dX7_row_33 : decode cX7_row 33 = .ok (.getfield 24, 3) := by decide +kernel
theorem dX7_row_36 : decode cX7_row 36 = .ok (.iload_n 1, 1) := by decide +kernel
theorem dX7_row_37 : decode cX7_row 37 = .ok (.aaload, 1) := by decide +kernel
theorem dX7_row_38 : decode cX7_row 38 = .ok (.iload_n 2, 1) := by decide +kernel
theorem dX7_row_39 : decode cX7_row 39 = .ok (.iload_n 3, 1) := by decide +kernel
theorem dX7_row_40 : decode cX7_row 40 = .ok (.invokevirtual 234, 3) := by decide +kernel
theorem dX7_row_43 : decode cX7_row 43 = .ok (.iconst 0, 1) := by decide +kernel
theorem dX7_row_44 : decode cX7_row 44 = .ok (.ireturn, 1) := by decide +kernel
set_option maxRecDepth 20000 in
theorem ggX7_put_X7_isShelf : GoodIn wsX7_put wsX7_isShelf := goodIn_r _ [7] (by decide +kernel) (by decide +kernel)
set_option maxRecDepth 20000 in
theorem gX7_put_X7_isShelf : GoodIn wsX7_put (wsV RX7 37 RX7 yX7_isShelf wsX7_isShelf) := goodIn_app (goodIn_of _ (by decide +kernel)) ggX7_put_X7_isShelf
set_option maxRecDepth 20000 in
theorem ggX7_put_X7_refusalOfNumbers : GoodIn wsX7_put wsX7_refusalOfNumbers := goodIn_r _ [11, 1, 12, 24, 25, 26, 27, 28, 29, 30, 31, 32, 33, 34] (by decide +kernel) (by decide +kernel)
set_option maxRecDepth 20000 in
theorem gX7_put_X7_refusalOfNumbers : GoodIn wsX7_put (wsV RX7 237 RX7 yX7_refusalOfNumbers wsX7_refusalOfNumbers) := goodIn_app (goodIn_of _ (by decide +kernel)) ggX7_put_X7_refusalOfNumbers
set_option maxRecDepth 20000 in
theorem ggX7_put_X4_hasPlace : GoodIn wsX7_put wsX4_hasPlace := goodIn_r _ [17, 18, 30, 31, 32, 33, 34] (by decide +kernel) (by decide +kernel)
set_option maxRecDepth 20000 in
theorem gX7_put_X4_hasPlace : GoodIn wsX7_put (wsV RX7 240 RX4 yX4_hasPlace wsX4_hasPlace) := goodIn_app (goodIn_of _ (by decide +kernel)) ggX7_put_X4_hasPlace
set_option maxRecDepth 20000 in
theorem ggX7_put_X4_narrowed : GoodIn wsX7_put wsX4_narrowed := goodIn_r _ [22, 23, 30, 31, 32, 33, 34] (by decide +kernel) (by decide +kernel)
set_option maxRecDepth 20000 in
theorem gX7_put_X4_narrowed : GoodIn wsX7_put (wsV RX7 243 RX4 yX4_narrowed wsX4_narrowed) := goodIn_app (goodIn_of _ (by decide +kernel)) ggX7_put_X4_narrowed
theorem dX7_put_0 : decode cX7_put 0 = .ok (.aload_n 0, 1) := by decide +kernel
theorem dX7_put_1 : decode cX7_put 1 = .ok (.iload_n 1, 1) := by decide +kernel
theorem dX7_put_2 : decode cX7_put 2 = .ok (.invokevirtual 37, 3) := by decide +kernel
theorem dX7_put_5 : decode cX7_put 5 = .ok (.ifCond .ne 5, 3) := by decide +kernel
theorem dX7_put_8 : decode cX7_put 8 = .ok (.iconst (-1), 1) := by decide +kernel
theorem dX7_put_9 : decode cX7_put 9 = .ok (.ireturn, 1) := by decide +kernel
theorem dX7_put_10 : decode cX7_put 10 = .ok (.aload_n 0, 1) := by decide +kernel
theorem dX7_put_11 : decode cX7_put 11 = .ok (.iload_n 1, 1) := by decide +kernel
theorem dX7_put_12 : decode cX7_put 12 = .ok (.invokevirtual 237, 3) := by decide +kernel
theorem dX7_put_15 : decode cX7_put 15 = .ok (.istore 4, 2) := by decide +kernel
theorem dX7_put_17 : decode cX7_put 17 = .ok (.iload 4, 2) := by decide +kernel
theorem dX7_put_19 : decode cX7_put 19 = .ok (.ifCond .eq 6, 3) := by decide +kernel
theorem dX7_put_22 : decode cX7_put 22 = .ok (.iload 4, 2) := by decide +kernel
theorem dX7_put_24 : decode cX7_put 24 = .ok (.ireturn, 1) := by decide +kernel
theorem dX7_put_25 : decode cX7_put 25 = .ok (.aload_n 0, 1) := by decide +kernel
theorem dX7_put_26 : decode cX7_put 26 = .ok (.getfield 24, 3) := by decide +kernel
theorem dX7_put_29 : decode cX7_put 29 = .ok (.iload_n 1, 1) := by decide +kernel
theorem dX7_put_30 : decode cX7_put 30 = .ok (.aaload, 1) := by decide +kernel
theorem dX7_put_31 : decode cX7_put 31 = .ok (.iload_n 2, 1) := by decide +kernel
theorem dX7_put_32 : decode cX7_put 32 = .ok (.invokevirtual 240, 3) := by decide +kernel
theorem dX7_put_35 : decode cX7_put 35 = .ok (.ifCond .ne 6, 3) := by decide +kernel
theorem dX7_put_38 : decode cX7_put 38 = .ok (.bipush (-13), 2) := by decide +kernel
theorem dX7_put_40 : decode cX7_put 40 = .ok (.ireturn, 1) := by decide +kernel
theorem dX7_put_41 : decode cX7_put 41 = .ok (.aload_n 0, 1) := by decide +kernel
theorem dX7_put_42 : decode cX7_put 42 = .ok (.getfield 24, 3) := by decide +kernel
theorem dX7_put_45 : decode cX7_put 45 = .ok (.iload_n 1, 1) := by decide +kernel
theorem dX7_put_46 : decode cX7_put 46 = .ok (.aaload, 1) := by decide +kernel
theorem dX7_put_47 : decode cX7_put 47 = .ok (.getfield 108, 3) := by decide +kernel
theorem dX7_put_50 : decode cX7_put 50 = .ok (.iload_n 2, 1) := by decide +kernel
theorem dX7_put_51 : decode cX7_put 51 = .ok (.aload_n 0, 1) := by decide +kernel
theorem dX7_put_52 : decode cX7_put 52 = .ok (.getfield 24, 3) := by decide +kernel
theorem dX7_put_55 : decode cX7_put 55 = .ok (.iload_n 1, 1) := by decide +kernel
theorem dX7_put_56 : decode cX7_put 56 = .ok (.aaload, 1) := by decide +kernel
theorem dX7_put_57 : decode cX7_put 57 = .ok (.iload_n 3, 1) := by decide +kernel
theorem dX7_put_58 : decode cX7_put 58 = .ok (.invokevirtual 243, 3) := by decide +kernel
theorem dX7_put_61 : decode cX7_put 61 = .ok (.iastore, 1) := by decide +kernel
theorem dX7_put_62 : decode cX7_put 62 = .ok (.iconst 0, 1) := by decide +kernel
theorem dX7_put_63 : decode cX7_put 63 = .ok (.ireturn, 1) := by decide +kernel
set_option maxRecDepth 20000 in
theorem ggX7_element_X7_isShelf : GoodIn wsX7_element wsX7_isShelf := goodIn_r _ [12] (by decide +kernel) (by decide +kernel)
set_option maxRecDepth 20000 in
theorem gX7_element_X7_isShelf : GoodIn wsX7_element (wsV RX7 37 RX7 yX7_isShelf wsX7_isShelf) := goodIn_app (goodIn_of _ (by decide +kernel)) ggX7_element_X7_isShelf
set_option maxRecDepth 20000 in
theorem ggX7_element_X4_hasPlace : GoodIn wsX7_element wsX4_hasPlace := goodIn_r _ [17, 18, 25, 26, 27, 28, 29] (by decide +kernel) (by decide +kernel)
set_option maxRecDepth 20000 in
theorem gX7_element_X4_hasPlace : GoodIn wsX7_element (wsV RX7 240 RX4 yX4_hasPlace wsX4_hasPlace) := goodIn_app (goodIn_of _ (by decide +kernel)) ggX7_element_X4_hasPlace
theorem dX7_element_0 : decode cX7_element 0 = .ok (.aload_n 0, 1) := by decide +kernel
theorem dX7_element_1 : decode cX7_element 1 = .ok (.iload_n 1, 1) := by decide +kernel
theorem dX7_element_2 : decode cX7_element 2 = .ok (.invokevirtual 37, 3) := by decide +kernel
theorem dX7_element_5 : decode cX7_element 5 = .ok (.ifCond .ne 13, 3) := by decide +kernel
theorem dX7_element_8 : decode cX7_element 8 = .ok (.new 246, 3) := by decide +kernel
theorem dX7_element_11 : decode cX7_element 11 = .ok (.dup, 1) := by decide +kernel
theorem dX7_element_12 : decode cX7_element 12 = .ok (.ldc 248, 2) := by decide +kernel
theorem dX7_element_14 : decode cX7_element 14 = .ok (.invokespecial 250, 3) := by decide +kernel
theorem dX7_element_17 : decode cX7_element 17 = .ok (.athrow, 1) := by decide +kernel
theorem dX7_element_18 : decode cX7_element 18 = .ok (.aload_n 0, 1) := by decide +kernel
theorem dX7_element_19 : decode cX7_element 19 = .ok (.getfield 24, 3) := by decide +kernel
theorem dX7_element_22 : decode cX7_element 22 = .ok (.iload_n 1, 1) := by decide +kernel
theorem dX7_element_23 : decode cX7_element 23 = .ok (.aaload, 1) := by decide +kernel
theorem dX7_element_24 : decode cX7_element 24 = .ok (.astore_n 3, 1) := by decide +kernel
theorem dX7_element_25 : decode cX7_element 25 = .ok (.aload_n 3, 1) := by decide +kernel
theorem dX7_element_26 : decode cX7_element 26 = .ok (.getfield 41, 3) := by decide +kernel
theorem dX7_element_29 : decode cX7_element 29 = .ok (.iconst 2, 1) := by decide +kernel
theorem dX7_element_30 : decode cX7_element 30 = .ok (.if_icmp .ne 11, 3) := by decide +kernel
theorem dX7_element_33 : decode cX7_element 33 = .ok (.aload_n 3, 1) := by decide +kernel
theorem dX7_element_34 : decode cX7_element 34 = .ok (.iload_n 2, 1) := by decide +kernel
theorem dX7_element_35 : decode cX7_element 35 = .ok (.invokevirtual 240, 3) := by decide +kernel
theorem dX7_element_38 : decode cX7_element 38 = .ok (.ifCond .ne 13, 3) := by decide +kernel
theorem dX7_element_41 : decode cX7_element 41 = .ok (.new 253, 3) := by decide +kernel
theorem dX7_element_44 : decode cX7_element 44 = .ok (.dup, 1) := by decide +kernel
theorem dX7_element_45 : decode cX7_element 45 = .ok (.ldc 255, 2) := by decide +kernel
theorem dX7_element_47 : decode cX7_element 47 = .ok (.invokespecial 257, 3) := by decide +kernel
theorem dX7_element_50 : decode cX7_element 50 = .ok (.athrow, 1) := by decide +kernel
theorem dX7_element_51 : decode cX7_element 51 = .ok (.aload_n 3, 1) := by decide +kernel
theorem dX7_element_52 : decode cX7_element 52 = .ok (.getfield 108, 3) := by decide +kernel
theorem dX7_element_55 : decode cX7_element 55 = .ok (.iload_n 2, 1) := by decide +kernel
theorem dX7_element_56 : decode cX7_element 56 = .ok (.iaload, 1) := by decide +kernel
theorem dX7_element_57 : decode cX7_element 57 = .ok (.i2l, 1) := by decide +kernel
theorem dX7_element_58 : decode cX7_element 58 = .ok (.lreturn, 1) := by decide +kernel
set_option maxRecDepth 20000 in
theorem ggX7_copy_X7_isShelf : GoodIn wsX7_copy wsX7_isShelf := goodIn_r _ [13] (by decide +kernel) (by decide +kernel)
set_option maxRecDepth 20000 in
theorem gX7_copy_X7_isShelf : GoodIn wsX7_copy (wsV RX7 37 RX7 yX7_isShelf wsX7_isShelf) := goodIn_app (goodIn_of _ (by decide +kernel)) ggX7_copy_X7_isShelf
set_option maxRecDepth 20000 in
theorem ggX7_copy_X4_hasStretch : GoodIn wsX7_copy wsX4_hasStretch := goodIn_r _ [18, 19, 26, 27, 28, 29, 30] (by decide +kernel) (by decide +kernel)
set_option maxRecDepth 20000 in
theorem gX7_copy_X4_hasStretch : GoodIn wsX7_copy (wsV RX7 258 RX4 yX4_hasStretch wsX4_hasStretch) := goodIn_app (goodIn_of _ (by decide +kernel)) ggX7_copy_X4_hasStretch
theorem dX7_copy_0 : decode cX7_copy 0 = .ok (.aload_n 0, 1) := by decide +kernel
theorem dX7_copy_1 : decode cX7_copy 1 = .ok (.iload_n 1, 1) := by decide +kernel
theorem dX7_copy_2 : decode cX7_copy 2 = .ok (.invokevirtual 37, 3) := by decide +kernel
theorem dX7_copy_5 : decode cX7_copy 5 = .ok (.ifCond .eq 11, 3) := by decide +kernel
theorem dX7_copy_8 : decode cX7_copy 8 = .ok (.aload_n 0, 1) := by decide +kernel
theorem dX7_copy_9 : decode cX7_copy 9 = .ok (.iload_n 3, 1) := by decide +kernel
theorem dX7_copy_10 : decode cX7_copy 10 = .ok (.invokevirtual 37, 3) := by decide +kernel
theorem dX7_copy_13 : decode cX7_copy 13 = .ok (.ifCond .ne 5, 3) := by decide +kernel
theorem dX7_copy_16 : decode cX7_copy 16 = .ok (.iconst (-1), 1) := by decide +kernel
theorem dX7_copy_17 : decode cX7_copy 17 = .ok (.ireturn, 1) := by decide +kernel
theorem dX7_copy_18 : decode cX7_copy 18 = .ok (.aload_n 0, 1) := by decide +kernel
theorem dX7_copy_19 : decode cX7_copy 19 = .ok (.getfield 24, 3) := by decide +kernel
theorem dX7_copy_22 : decode cX7_copy 22 = .ok (.iload_n 1, 1) := by decide +kernel
theorem dX7_copy_23 : decode cX7_copy 23 = .ok (.aaload, 1) := by decide +kernel
theorem dX7_copy_24 : decode cX7_copy 24 = .ok (.astore 6, 2) := by decide +kernel
theorem dX7_copy_26 : decode cX7_copy 26 = .ok (.aload_n 0, 1) := by decide +kernel
theorem dX7_copy_27 : decode cX7_copy 27 = .ok (.getfield 24, 3) := by decide +kernel
theorem dX7_copy_30 : decode cX7_copy 30 = .ok (.iload_n 3, 1) := by decide +kernel
theorem dX7_copy_31 : decode cX7_copy 31 = .ok (.aaload, 1) := by decide +kernel
theorem dX7_copy_32 : decode cX7_copy 32 = .ok (.astore 7, 2) := by decide +kernel
theorem dX7_copy_34 : decode cX7_copy 34 = .ok (.aload 6, 2) := by decide +kernel
theorem dX7_copy_36 : decode cX7_copy 36 = .ok (.getfield 41, 3) := by decide +kernel
theorem dX7_copy_39 : decode cX7_copy 39 = .ok (.ifCond .eq 11, 3) := by decide +kernel
theorem dX7_copy_42 : decode cX7_copy 42 = .ok (.aload 7, 2) := by decide +kernel
theorem dX7_copy_44 : decode cX7_copy 44 = .ok (.getfield 41, 3) := by decide +kernel
theorem dX7_copy_47 : decode cX7_copy 47 = .ok (.ifCond .ne 6, 3) := by decide +kernel
theorem dX7_copy_50 : decode cX7_copy 50 = .ok (.bipush (-11), 2) := by decide +kernel
theorem dX7_copy_52 : decode cX7_copy 52 = .ok (.ireturn, 1) := by decide +kernel
theorem dX7_copy_53 : decode cX7_copy 53 = .ok (.aload 6, 2) := by decide +kernel
theorem dX7_copy_55 : decode cX7_copy 55 = .ok (.getfield 41, 3) := by decide +kernel
theorem dX7_copy_58 : decode cX7_copy 58 = .ok (.iconst 2, 1) := by decide +kernel
theorem dX7_copy_59 : decode cX7_copy 59 = .ok (.if_icmp .ne 25, 3) := by decide +kernel
theorem dX7_copy_62 : decode cX7_copy 62 = .ok (.aload 7, 2) := by decide +kernel
theorem dX7_copy_64 : decode cX7_copy 64 = .ok (.getfield 41, 3) := by decide +kernel
theorem dX7_copy_67 : decode cX7_copy 67 = .ok (.iconst 2, 1) := by decide +kernel
theorem dX7_copy_68 : decode cX7_copy 68 = .ok (.if_icmp .ne 16, 3) := by decide +kernel
theorem dX7_copy_71 : decode cX7_copy 71 = .ok (.aload 6, 2) := by decide +kernel
theorem dX7_copy_73 : decode cX7_copy 73 = .ok (.getfield 45, 3) := by decide +kernel
theorem dX7_copy_76 : decode cX7_copy 76 = .ok (.aload 7, 2) := by decide +kernel
theorem dX7_copy_78 : decode cX7_copy 78 = .ok (.getfield 45, 3) := by decide +kernel
theorem dX7_copy_81 : decode cX7_copy 81 = .ok (.if_icmp .eq 6, 3) := by decide +kernel
theorem dX7_copy_84 : decode cX7_copy 84 = .ok (.bipush (-12), 2) := by decide +kernel
theorem dX7_copy_86 : decode cX7_copy 86 = .ok (.ireturn, 1) := by decide +kernel
theorem dX7_copy_87 : decode cX7_copy 87 = .ok (.aload 6, 2) := by decide +kernel
theorem dX7_copy_89 : decode cX7_copy 89 = .ok (.iload_n 2, 1) := by decide +kernel
theorem dX7_copy_90 : decode cX7_copy 90 = .ok (.iload 5, 2) := by decide +kernel
theorem dX7_copy_92 : decode cX7_copy 92 = .ok (.invokevirtual 258, 3) := by decide +kernel
theorem dX7_copy_95 : decode cX7_copy 95 = .ok (.ifCond .eq 15, 3) := by decide +kernel
theorem dX7_copy_98 : decode cX7_copy 98 = .ok (.aload 7, 2) := by decide +kernel
theorem dX7_copy_100 : decode cX7_copy 100 = .ok (.iload 4, 2) := by decide +kernel
theorem dX7_copy_102 : decode cX7_copy 102 = .ok (.iload 5, 2) := by decide +kernel
theorem dX7_copy_104 : decode cX7_copy 104 = .ok (.invokevirtual 258, 3) := by decide +kernel
theorem dX7_copy_107 : decode cX7_copy 107 = .ok (.ifCond .ne 6, 3) := by decide +kernel
theorem dX7_copy_110 : decode cX7_copy 110 = .ok (.bipush (-13), 2) := by decide +kernel
theorem dX7_copy_112 : decode cX7_copy 112 = .ok (.ireturn, 1) := by decide +kernel
theorem dX7_copy_113 : decode cX7_copy 113 = .ok (.aload 6, 2) := by decide +kernel
theorem dX7_copy_115 : decode cX7_copy 115 = .ok (.getfield 108, 3) := by decide +kernel
theorem dX7_copy_118 : decode cX7_copy 118 = .ok (.iload_n 2, 1) := by decide +kernel
theorem dX7_copy_119 : decode cX7_copy 119 = .ok (.aload 7, 2) := by decide +kernel
theorem dX7_copy_121 : decode cX7_copy 121 = .ok (.getfield 108, 3) := by decide +kernel
theorem dX7_copy_124 : decode cX7_copy 124 = .ok (.iload 4, 2) := by decide +kernel
theorem dX7_copy_126 : decode cX7_copy 126 = .ok (.iload 5, 2) := by decide +kernel
theorem dX7_copy_128 : decode cX7_copy 128 = .ok (.invokestatic 261, 3) := by decide +kernel
theorem dX7_copy_131 : decode cX7_copy 131 = .ok (.iload 5, 2) := by decide +kernel
theorem dX7_copy_133 : decode cX7_copy 133 = .ok (.ireturn, 1) := by decide +kernel
set_option maxRecDepth 20000 in
theorem ggX7_toil_X7_isShelf : GoodIn wsX7_toil wsX7_isShelf := goodIn_r _ [8] (by decide +kernel) (by decide +kernel)
set_option maxRecDepth 20000 in
theorem gX7_toil_X7_isShelf : GoodIn wsX7_toil (wsV RX7 37 RX7 yX7_isShelf wsX7_isShelf) := goodIn_app (goodIn_of _ (by decide +kernel)) ggX7_toil_X7_isShelf
set_option maxRecDepth 20000 in
theorem ggX7_toil_X7_refusalOfLaying : GoodIn wsX7_toil wsX7_refusalOfLaying := goodIn_r _ [12, 1, 13, 2, 21, 22, 23, 24, 25, 26, 27, 28, 29, 30, 31] (by decide +kernel) (by decide +kernel)
set_option maxRecDepth 20000 in
theorem gX7_toil_X7_refusalOfLaying : GoodIn wsX7_toil (wsV RX7 188 RX7 yX7_refusalOfLaying wsX7_refusalOfLaying) := goodIn_app (goodIn_of _ (by decide +kernel)) ggX7_toil_X7_refusalOfLaying
set_option maxRecDepth 20000 in
theorem ggX7_toil_X1_effort : GoodIn wsX7_toil wsX1_effort := goodIn_r _ [18, 19, 20, 32, 33] (by decide +kernel) (by decide +kernel)
set_option maxRecDepth 20000 in
theorem gX7_toil_X1_effort : GoodIn wsX7_toil (wsV RX7 267 RX1 yX1_effort wsX1_effort) := goodIn_app (goodIn_of _ (by decide +kernel)) ggX7_toil_X1_effort
theorem dX7_toil_0 : decode cX7_toil 0 = .ok (.aload_n 0, 1) := by decide +kernel
theorem dX7_toil_1 : decode cX7_toil 1 = .ok (.iload_n 1, 1) := by decide +kernel
theorem dX7_toil_2 : decode cX7_toil 2 = .ok (.invokevirtual 37, 3) := by decide +kernel
theorem dX7_toil_5 : decode cX7_toil 5 = .ok (.ifCond .eq 11, 3) := by decide +kernel
theorem dX7_toil_8 : decode cX7_toil 8 = .ok (.aload_n 0, 1) := by decide +kernel
theorem dX7_toil_9 : decode cX7_toil 9 = .ok (.iload_n 1, 1) := by decide +kernel
theorem dX7_toil_10 : decode cX7_toil 10 = .ok (.invokevirtual 188, 3) := by decide +kernel
theorem dX7_toil_13 : decode cX7_toil 13 = .ok (.goto 4, 3) := by decide +kernel
theorem dX7_toil_16 : decode cX7_toil 16 = .ok (.iconst (-1), 1) := by decide +kernel
theorem dX7_toil_17 : decode cX7_toil 17 = .ok (.istore_n 2, 1) := by decide +kernel
theorem dX7_toil_18 : decode cX7_toil 18 = .ok (.iload_n 2, 1) := by decide +kernel
theorem dX7_toil_19 : decode cX7_toil 19 = .ok (.ifCond .ne 18, 3) := by decide +kernel
theorem dX7_toil_22 : decode cX7_toil 22 = .ok (.aload_n 0, 1) := by decide +kernel
theorem dX7_toil_23 : decode cX7_toil 23 = .ok (.getfield 24, 3) := by decide +kernel
theorem dX7_toil_26 : decode cX7_toil 26 = .ok (.iload_n 1, 1) := by decide +kernel
theorem dX7_toil_27 : decode cX7_toil 27 = .ok (.aaload, 1) := by decide +kernel
theorem dX7_toil_28 : decode cX7_toil 28 = .ok (.getfield 193, 3) := by decide +kernel
theorem dX7_toil_31 : decode cX7_toil 31 = .ok (.invokevirtual 267, 3) := by decide +kernel
theorem dX7_toil_34 : decode cX7_toil 34 = .ok (.goto 8, 3) := by decide +kernel
theorem dX7_toil_37 : decode cX7_toil 37 = .ok (.ldc_w 270, 3) := by decide +kernel
theorem dX7_toil_40 : decode cX7_toil 40 = .ok (.iload_n 2, 1) := by decide +kernel
theorem dX7_toil_41 : decode cX7_toil 41 = .ok (.iadd, 1) := by decide +kernel
theorem dX7_toil_42 : decode cX7_toil 42 = .ok (.ireturn, 1) := by decide +kernel
set_option maxRecDepth 20000 in
theorem ggX7_toss_X7_isShelf : GoodIn wsX7_toss wsX7_isShelf := goodIn_r _ [11] (by decide +kernel) (by decide +kernel)
set_option maxRecDepth 20000 in
theorem gX7_toss_X7_isShelf : GoodIn wsX7_toss (wsV RX7 37 RX7 yX7_isShelf wsX7_isShelf) := goodIn_app (goodIn_of _ (by decide +kernel)) ggX7_toss_X7_isShelf
set_option maxRecDepth 20000 in
theorem ggX7_toss_X7_refusalOfLaying : GoodIn wsX7_toss wsX7_refusalOfLaying := goodIn_r _ [15, 4, 16, 5, 38, 39, 40, 41, 42, 43, 44, 45, 46, 47, 48] (by decide +kernel) (by decide +kernel)
set_option maxRecDepth 20000 in
theorem gX7_toss_X7_refusalOfLaying : GoodIn wsX7_toss (wsV RX7 188 RX7 yX7_refusalOfLaying wsX7_refusalOfLaying) := goodIn_app (goodIn_of _ (by decide +kernel)) ggX7_toss_X7_refusalOfLaying
set_option maxRecDepth 20000 in
theorem ggX7_toss_X1_fail : GoodIn wsX7_toss wsX1_fail := goodIn_ca (goodIn_ca (goodIn_ca (goodIn_r _ [21, 22, 23, 24, 25, 26, 27, 28, 29, 30, 31, 32, 20, 33, 49, 50] (by decide +kernel) (by decide +kernel)) (goodIn_sub (fun _ h => List.mem_cons_of_mem _ (List.mem_append_left _ (List.mem_append_left _ (List.mem_append_right _ h)))) (by decide +kernel))) (goodIn_sub (fun _ h => List.mem_cons_of_mem _ (List.mem_append_left _ (List.mem_append_right _ h))) (by decide +kernel))) (goodIn_sub (fun _ h => List.mem_cons_of_mem _ (List.mem_append_right _ h)) (by decide +kernel))
set_option maxRecDepth 20000 in
theorem gX7_toss_X1_fail : GoodIn wsX7_toss (wsV RX7 271 RX1 yX1_fail wsX1_fail) := goodIn_app (goodIn_of _ (by decide +kernel)) ggX7_toss_X1_fail
set_option maxRecDepth 20000 in
theorem ggX7_toss_X1_effort : GoodIn wsX7_toss wsX1_effort := goodIn_r _ [37, 29, 28, 49, 50] (by decide +kernel) (by decide +kernel)
set_option maxRecDepth 20000 in
theorem gX7_toss_X1_effort : GoodIn wsX7_toss (wsV RX7 267 RX1 yX1_effort wsX1_effort) := goodIn_app (goodIn_of _ (by decide +kernel)) ggX7_toss_X1_effort
theorem dX7_toss_0 : decode cX7_toss 0 = .ok (.aload_n 0, 1) := by decide +kernel
theorem dX7_toss_1 : decode cX7_toss 1 = .ok (.iload_n 1, 1) := by decide +kernel
theorem dX7_toss_2 : decode cX7_toss 2 = .ok (.invokevirtual 37, 3) := by decide +kernel
theorem dX7_toss_5 : decode cX7_toss 5 = .ok (.ifCond .eq 11, 3) := by decide +kernel
theorem dX7_toss_8 : decode cX7_toss 8 = .ok (.aload_n 0, 1) := by decide +kernel
theorem dX7_toss_9 : decode cX7_toss 9 = .ok (.iload_n 1, 1) := by decide +kernel
theorem dX7_toss_10 : decode cX7_toss 10 = .ok (.invokevirtual 188, 3) := by decide +kernel
theorem dX7_toss_13 : decode cX7_toss 13 = .ok (.goto 4, 3) := by decide +kernel
theorem dX7_toss_16 : decode cX7_toss 16 = .ok (.iconst (-1), 1) := by decide +kernel
theorem dX7_toss_17 : decode cX7_toss 17 = .ok (.istore_n 2, 1) := by decide +kernel
theorem dX7_toss_18 : decode cX7_toss 18 = .ok (.iload_n 2, 1) := by decide +kernel
theorem dX7_toss_19 : decode cX7_toss 19 = .ok (.ifCond .eq 5, 3) := by decide +kernel
theorem dX7_toss_22 : decode cX7_toss 22 = .ok (.iload_n 2, 1) := by decide +kernel
theorem dX7_toss_23 : decode cX7_toss 23 = .ok (.ireturn, 1) := by decide +kernel
theorem dX7_toss_24 : decode cX7_toss 24 = .ok (.aload_n 0, 1) := by decide +kernel
theorem dX7_toss_25 : decode cX7_toss 25 = .ok (.getfield 24, 3) := by decide +kernel
theorem dX7_toss_28 : decode cX7_toss 28 = .ok (.iload_n 1, 1) := by decide +kernel
theorem dX7_toss_29 : decode cX7_toss 29 = .ok (.aaload, 1) := by decide +kernel
theorem dX7_toss_30 : decode cX7_toss 30 = .ok (.getfield 193, 3) := by decide +kernel
theorem dX7_toss_33 : decode cX7_toss 33 = .ok (.astore_n 3, 1) := by decide +kernel
theorem dX7_toss_34 : decode cX7_toss 34 = .ok (.aload_n 3, 1) := by decide +kernel
theorem dX7_toss_35 : decode cX7_toss 35 = .ok (.invokevirtual 271, 3) := by decide +kernel
theorem dX7_toss_38 : decode cX7_toss 38 = .ok (.goto 31, 3) := by decide +kernel
theorem dX7_toss_41 : decode cX7_toss 41 = .ok (.astore 4, 2) := by decide +kernel
theorem dX7_toss_43 : decode cX7_toss 43 = .ok (.sipush 200, 3) := by decide +kernel
theorem dX7_toss_46 : decode cX7_toss 46 = .ok (.aload_n 3, 1) := by decide +kernel
theorem dX7_toss_47 : decode cX7_toss 47 = .ok (.invokevirtual 267, 3) := by decide +kernel
theorem dX7_toss_50 : decode cX7_toss 50 = .ok (.iadd, 1) := by decide +kernel
theorem dX7_toss_51 : decode cX7_toss 51 = .ok (.ireturn, 1) := by decide +kernel
theorem dX7_toss_52 : decode cX7_toss 52 = .ok (.astore 4, 2) := by decide +kernel
theorem dX7_toss_54 : decode cX7_toss 54 = .ok (.bipush 100, 2) := by decide +kernel
theorem dX7_toss_56 : decode cX7_toss 56 = .ok (.aload_n 3, 1) := by decide +kernel
theorem dX7_toss_57 : decode cX7_toss 57 = .ok (.getfield 276, 3) := by decide +kernel
theorem dX7_toss_60 : decode cX7_toss 60 = .ok (.iadd, 1) := by decide +kernel
theorem dX7_toss_61 : decode cX7_toss 61 = .ok (.ireturn, 1) := by decide +kernel
theorem dX7_toss_62 : decode cX7_toss 62 = .ok (.astore 4, 2) := by decide +kernel
theorem dX7_toss_64 : decode cX7_toss 64 = .ok (.aload_n 3, 1) := by decide +kernel
theorem dX7_toss_65 : decode cX7_toss 65 = .ok (.getfield 276, 3) := by decide +kernel
theorem dX7_toss_68 : decode cX7_toss 68 = .ok (.ireturn, 1) := by decide +kernel
theorem dX7_toss_69 : decode cX7_toss 69 = .ok (.bipush (-15), 2) := by decide +kernel
theorem dX7_toss_71 : decode cX7_toss 71 = .ok (.ireturn, 1) := by decide +kernel
theorem dX7_isShelf_0 : decode cX7_isShelf 0 = .ok (.iload_n 1, 1) := by decide +kernel
theorem dX7_isShelf_1 : decode cX7_isShelf 1 = .ok (.ifCond .lt 13, 3) := by decide +kernel
theorem dX7_isShelf_4 : decode cX7_isShelf 4 = .ok (.iload_n 1, 1) := by decide +kernel
theorem dX7_isShelf_5 : decode cX7_isShelf 5 = .ok (.bipush 8, 2) := by decide +kernel
theorem dX7_isShelf_7 : decode cX7_isShelf 7 = .ok (.if_icmp .ge 7, 3) := by decide +kernel
theorem dX7_isShelf_10 : decode cX7_isShelf 10 = .ok (.iconst 1, 1) := by decide +kernel
theorem dX7_isShelf_11 : decode cX7_isShelf 11 = .ok (.goto 4, 3) := by decide +kernel
theorem dX7_isShelf_14 : decode cX7_isShelf 14 = .ok (.iconst 0, 1) := by decide +kernel
theorem dX7_isShelf_15 : decode cX7_isShelf 15 = .ok (.ireturn, 1) := by decide +kernel
theorem dX7_isRow_0 : decode cX7_isRow 0 = .ok (.iload_n 1, 1) := by decide +kernel
theorem dX7_isRow_1 : decode cX7_isRow 1 = .ok (.ifCond .lt 18, 3) := by decide +kernel
theorem dX7_isRow_4 : decode cX7_isRow 4 = .ok (.iload_n 1, 1) := by decide +kernel
theorem dX7_isRow_5 : decode cX7_isRow 5 = .ok (.aload_n 0, 1) := by decide +kernel
theorem dX7_isRow_6 : decode cX7_isRow 6 = .ok (.getfield 10, 3) := by decide +kernel
theorem dX7_isRow_9 : decode cX7_isRow 9 = .ok (.getfield 166, 3) := by decide +kernel
theorem dX7_isRow_12 : decode cX7_isRow 12 = .ok (.if_icmp .ge 7, 3) := by decide +kernel
theorem dX7_isRow_15 : decode cX7_isRow 15 = .ok (.iconst 1, 1) := by decide +kernel
theorem dX7_isRow_16 : decode cX7_isRow 16 = .ok (.goto 4, 3) := by decide +kernel
theorem dX7_isRow_19 : decode cX7_isRow 19 = .ok (.iconst 0, 1) := by decide +kernel
theorem dX7_isRow_20 : decode cX7_isRow 20 = .ok (.ireturn, 1) := by decide +kernel
theorem dX7_isWidth_0 : decode cX7_isWidth 0 = .ok (.iload_n 1, 1) := by decide +kernel
theorem dX7_isWidth_1 : decode cX7_isWidth 1 = .ok (.ifCond .lt 18, 3) := by decide +kernel
theorem dX7_isWidth_4 : decode cX7_isWidth 4 = .ok (.iload_n 1, 1) := by decide +kernel
theorem dX7_isWidth_5 : decode cX7_isWidth 5 = .ok (.aload_n 0, 1) := by decide +kernel
theorem dX7_isWidth_6 : decode cX7_isWidth 6 = .ok (.getfield 10, 3) := by decide +kernel
theorem dX7_isWidth_9 : decode cX7_isWidth 9 = .ok (.getfield 213, 3) := by decide +kernel
theorem dX7_isWidth_12 : decode cX7_isWidth 12 = .ok (.if_icmp .ge 7, 3) := by decide +kernel
theorem dX7_isWidth_15 : decode cX7_isWidth 15 = .ok (.iconst 1, 1) := by decide +kernel
theorem dX7_isWidth_16 : decode cX7_isWidth 16 = .ok (.goto 4, 3) := by decide +kernel
theorem dX7_isWidth_19 : decode cX7_isWidth 19 = .ok (.iconst 0, 1) := by decide +kernel
theorem dX7_isWidth_20 : decode cX7_isWidth 20 = .ok (.ireturn, 1) := by decide +kernel
set_option maxRecDepth 20000 in
theorem ggX7_refusalOfOpen_X7_isRow : GoodIn wsX7_refusalOfOpen wsX7_isRow := goodIn_r _ [7, 1, 8, 9, 10, 11, 12, 13, 14, 15, 16, 17, 18, 19, 20, 21, 22, 23] (by decide +kernel) (by decide +kernel)
set_option maxRecDepth 20000 in
theorem gX7_refusalOfOpen_X7_isRow : GoodIn wsX7_refusalOfOpen (wsV RX7 77 RX7 yX7_isRow wsX7_isRow) := goodIn_app (goodIn_of _ (by decide +kernel)) ggX7_refusalOfOpen_X7_isRow
theorem dX7_refusalOfOpen_0 : decode cX7_refusalOfOpen 0 = .ok (.aload_n 0, 1) := by decide +kernel
theorem dX7_refusalOfOpen_1 : decode cX7_refusalOfOpen 1 = .ok (.iload_n 1, 1) := by decide +kernel
theorem dX7_refusalOfOpen_2 : decode cX7_refusalOfOpen 2 = .ok (.invokevirtual 77, 3) := by decide +kernel
theorem dX7_refusalOfOpen_5 : decode cX7_refusalOfOpen 5 = .ok (.ifCond .eq 7, 3) := by decide +kernel
theorem dX7_refusalOfOpen_8 : decode cX7_refusalOfOpen 8 = .ok (.iload_n 2, 1) := by decide +kernel
theorem dX7_refusalOfOpen_9 : decode cX7_refusalOfOpen 9 = .ok (.ifCond .ne 5, 3) := by decide +kernel
theorem dX7_refusalOfOpen_12 : decode cX7_refusalOfOpen 12 = .ok (.iconst (-1), 1) := by decide +kernel
theorem dX7_refusalOfOpen_13 : decode cX7_refusalOfOpen 13 = .ok (.ireturn, 1) := by decide +kernel
theorem dX7_refusalOfOpen_14 : decode cX7_refusalOfOpen 14 = .ok (.aload_n 0, 1) := by decide +kernel
theorem dX7_refusalOfOpen_15 : decode cX7_refusalOfOpen 15 = .ok (.getfield 10, 3) := by decide +kernel
theorem dX7_refusalOfOpen_18 : decode cX7_refusalOfOpen 18 = .ok (.getfield 83, 3) := by decide +kernel
theorem dX7_refusalOfOpen_21 : decode cX7_refusalOfOpen 21 = .ok (.iload_n 1, 1) := by decide +kernel
theorem dX7_refusalOfOpen_22 : decode cX7_refusalOfOpen 22 = .ok (.iaload, 1) := by decide +kernel
theorem dX7_refusalOfOpen_23 : decode cX7_refusalOfOpen 23 = .ok (.ifCond .le 8, 3) := by decide +kernel
theorem dX7_refusalOfOpen_26 : decode cX7_refusalOfOpen 26 = .ok (.bipush (-3), 2) := by decide +kernel
theorem dX7_refusalOfOpen_28 : decode cX7_refusalOfOpen 28 = .ok (.goto 4, 3) := by decide +kernel
theorem dX7_refusalOfOpen_31 : decode cX7_refusalOfOpen 31 = .ok (.iconst 0, 1) := by decide +kernel
theorem dX7_refusalOfOpen_32 : decode cX7_refusalOfOpen 32 = .ok (.ireturn, 1) := by decide +kernel
set_option maxRecDepth 20000 in
theorem ggX7_refusalOfTold_X7_isShelf : GoodIn wsX7_refusalOfTold wsX7_isShelf := goodIn_r _ [5] (by decide +kernel) (by decide +kernel)
set_option maxRecDepth 20000 in
theorem gX7_refusalOfTold_X7_isShelf : GoodIn wsX7_refusalOfTold (wsV RX7 37 RX7 yX7_isShelf wsX7_isShelf) := goodIn_app (goodIn_of _ (by decide +kernel)) ggX7_refusalOfTold_X7_isShelf
set_option maxRecDepth 20000 in
theorem ggX7_refusalOfTold_X7_refusalOfOpen : GoodIn wsX7_refusalOfTold wsX7_refusalOfOpen := goodIn_r _ [9, 10, 11, 12, 13, 14, 4, 15, 16, 23, 24, 25, 26, 27, 28, 29, 30, 31, 32, 33, 34, 35, 36, 37] (by decide +kernel) (by decide +kernel)
set_option maxRecDepth 20000 in
theorem gX7_refusalOfTold_X7_refusalOfOpen : GoodIn wsX7_refusalOfTold (wsV RX7 121 RX7 yX7_refusalOfOpen wsX7_refusalOfOpen) := goodIn_app (goodIn_of _ (by decide +kernel)) ggX7_refusalOfTold_X7_refusalOfOpen
set_option maxRecDepth 20000 in
theorem ggX7_refusalOfTold_X7_refusalOfNumbers : GoodIn wsX7_refusalOfTold wsX7_refusalOfNumbers := goodIn_r _ [20, 21, 22, 23, 24, 25, 26, 27, 28, 38, 39, 40, 41, 42] (by decide +kernel) (by decide +kernel)
set_option maxRecDepth 20000 in
theorem gX7_refusalOfTold_X7_refusalOfNumbers : GoodIn wsX7_refusalOfTold (wsV RX7 237 RX7 yX7_refusalOfNumbers wsX7_refusalOfNumbers) := goodIn_app (goodIn_of _ (by decide +kernel)) ggX7_refusalOfTold_X7_refusalOfNumbers
theorem dX7_refusalOfTold_0 : decode cX7_refusalOfTold 0 = .ok (.aload_n 0, 1) := by decide +kernel
theorem dX7_refusalOfTold_1 : decode cX7_refusalOfTold 1 = .ok (.iload_n 1, 1) := by decide +kernel
theorem dX7_refusalOfTold_2 : decode cX7_refusalOfTold 2 = .ok (.aload_n 0, 1) := by decide +kernel
theorem dX7_refusalOfTold_3 : decode cX7_refusalOfTold 3 = .ok (.iload_n 2, 1) := by decide +kernel
theorem dX7_refusalOfTold_4 : decode cX7_refusalOfTold 4 = .ok (.invokevirtual 37, 3) := by decide +kernel
theorem dX7_refusalOfTold_7 : decode cX7_refusalOfTold 7 = .ok (.invokevirtual 121, 3) := by decide +kernel
theorem dX7_refusalOfTold_10 : decode cX7_refusalOfTold 10 = .ok (.istore_n 3, 1) := by decide +kernel
theorem dX7_refusalOfTold_11 : decode cX7_refusalOfTold 11 = .ok (.iload_n 3, 1) := by decide +kernel
theorem dX7_refusalOfTold_12 : decode cX7_refusalOfTold 12 = .ok (.ifCond .ne 11, 3) := by decide +kernel
theorem dX7_refusalOfTold_15 : decode cX7_refusalOfTold 15 = .ok (.aload_n 0, 1) := by decide +kernel
theorem dX7_refusalOfTold_16 : decode cX7_refusalOfTold 16 = .ok (.iload_n 2, 1) := by decide +kernel
theorem dX7_refusalOfTold_17 : decode cX7_refusalOfTold 17 = .ok (.invokevirtual 237, 3) := by decide +kernel
theorem dX7_refusalOfTold_20 : decode cX7_refusalOfTold 20 = .ok (.goto 4, 3) := by decide +kernel
theorem dX7_refusalOfTold_23 : decode cX7_refusalOfTold 23 = .ok (.iload_n 3, 1) := by decide +kernel
theorem dX7_refusalOfTold_24 : decode cX7_refusalOfTold 24 = .ok (.ireturn, 1) := by decide +kernel
theorem dX7_refusalOfNumbers_0 : decode cX7_refusalOfNumbers 0 = .ok (.aload_n 0, 1) := by decide +kernel
theorem dX7_refusalOfNumbers_1 : decode cX7_refusalOfNumbers 1 = .ok (.getfield 24, 3) := by decide +kernel
theorem dX7_refusalOfNumbers_4 : decode cX7_refusalOfNumbers 4 = .ok (.iload_n 1, 1) := by decide +kernel
theorem dX7_refusalOfNumbers_5 : decode cX7_refusalOfNumbers 5 = .ok (.aaload, 1) := by decide +kernel
theorem dX7_refusalOfNumbers_6 : decode cX7_refusalOfNumbers 6 = .ok (.getfield 41, 3) := by decide +kernel
theorem dX7_refusalOfNumbers_9 : decode cX7_refusalOfNumbers 9 = .ok (.ifCond .ne 6, 3) := by decide +kernel
theorem dX7_refusalOfNumbers_12 : decode cX7_refusalOfNumbers 12 = .ok (.bipush (-11), 2) := by decide +kernel
theorem dX7_refusalOfNumbers_14 : decode cX7_refusalOfNumbers 14 = .ok (.ireturn, 1) := by decide +kernel
theorem dX7_refusalOfNumbers_15 : decode cX7_refusalOfNumbers 15 = .ok (.aload_n 0, 1) := by decide +kernel
theorem dX7_refusalOfNumbers_16 : decode cX7_refusalOfNumbers 16 = .ok (.getfield 24, 3) := by decide +kernel
theorem dX7_refusalOfNumbers_19 : decode cX7_refusalOfNumbers 19 = .ok (.iload_n 1, 1) := by decide +kernel
theorem dX7_refusalOfNumbers_20 : decode cX7_refusalOfNumbers 20 = .ok (.aaload, 1) := by decide +kernel
theorem dX7_refusalOfNumbers_21 : decode cX7_refusalOfNumbers 21 = .ok (.getfield 41, 3) := by decide +kernel
theorem dX7_refusalOfNumbers_24 : decode cX7_refusalOfNumbers 24 = .ok (.iconst 2, 1) := by decide +kernel
theorem dX7_refusalOfNumbers_25 : decode cX7_refusalOfNumbers 25 = .ok (.if_icmp .ne 7, 3) := by decide +kernel
theorem dX7_refusalOfNumbers_28 : decode cX7_refusalOfNumbers 28 = .ok (.iconst 0, 1) := by decide +kernel
theorem dX7_refusalOfNumbers_29 : decode cX7_refusalOfNumbers 29 = .ok (.goto 5, 3) := by decide +kernel
theorem dX7_refusalOfNumbers_32 : decode cX7_refusalOfNumbers 32 = .ok (.bipush (-12), 2) := by decide +kernel
theorem dX7_refusalOfNumbers_34 : decode cX7_refusalOfNumbers 34 = .ok (.ireturn, 1) := by decide +kernel
theorem dX7_refusalOfLaying_0 : decode cX7_refusalOfLaying 0 = .ok (.aload_n 0, 1) := by decide +kernel
theorem dX7_refusalOfLaying_1 : decode cX7_refusalOfLaying 1 = .ok (.getfield 24, 3) := by decide +kernel
theorem dX7_refusalOfLaying_4 : decode cX7_refusalOfLaying 4 = .ok (.iload_n 1, 1) := by decide +kernel
theorem dX7_refusalOfLaying_5 : decode cX7_refusalOfLaying 5 = .ok (.aaload, 1) := by decide +kernel
theorem dX7_refusalOfLaying_6 : decode cX7_refusalOfLaying 6 = .ok (.getfield 41, 3) := by decide +kernel
theorem dX7_refusalOfLaying_9 : decode cX7_refusalOfLaying 9 = .ok (.ifCond .ne 6, 3) := by decide +kernel
theorem dX7_refusalOfLaying_12 : decode cX7_refusalOfLaying 12 = .ok (.bipush (-11), 2) := by decide +kernel
theorem dX7_refusalOfLaying_14 : decode cX7_refusalOfLaying 14 = .ok (.ireturn, 1) := by decide +kernel
theorem dX7_refusalOfLaying_15 : decode cX7_refusalOfLaying 15 = .ok (.aload_n 0, 1) := by decide +kernel
theorem dX7_refusalOfLaying_16 : decode cX7_refusalOfLaying 16 = .ok (.getfield 24, 3) := by decide +kernel
theorem dX7_refusalOfLaying_19 : decode cX7_refusalOfLaying 19 = .ok (.iload_n 1, 1) := by decide +kernel
theorem dX7_refusalOfLaying_20 : decode cX7_refusalOfLaying 20 = .ok (.aaload, 1) := by decide +kernel
theorem dX7_refusalOfLaying_21 : decode cX7_refusalOfLaying 21 = .ok (.getfield 41, 3) := by decide +kernel
theorem dX7_refusalOfLaying_24 : decode cX7_refusalOfLaying 24 = .ok (.iconst 1, 1) := by decide +kernel
theorem dX7_refusalOfLaying_25 : decode cX7_refusalOfLaying 25 = .ok (.if_icmp .ne 19, 3) := by decide +kernel
theorem dX7_refusalOfLaying_28 : decode cX7_refusalOfLaying 28 = .ok (.aload_n 0, 1) := by decide +kernel
theorem dX7_refusalOfLaying_29 : decode cX7_refusalOfLaying 29 = .ok (.getfield 24, 3) := by decide +kernel
theorem dX7_refusalOfLaying_32 : decode cX7_refusalOfLaying 32 = .ok (.iload_n 1, 1) := by decide +kernel
theorem dX7_refusalOfLaying_33 : decode cX7_refusalOfLaying 33 = .ok (.aaload, 1) := by decide +kernel
theorem dX7_refusalOfLaying_34 : decode cX7_refusalOfLaying 34 = .ok (.getfield 193, 3) := by decide +kernel
theorem dX7_refusalOfLaying_37 : decode cX7_refusalOfLaying 37 = .ok (.ifnull 7, 3) := by decide +kernel
theorem dX7_refusalOfLaying_40 : decode cX7_refusalOfLaying 40 = .ok (.iconst 0, 1) := by decide +kernel
theorem dX7_refusalOfLaying_41 : decode cX7_refusalOfLaying 41 = .ok (.goto 5, 3) := by decide +kernel
theorem dX7_refusalOfLaying_44 : decode cX7_refusalOfLaying 44 = .ok (.bipush (-12), 2) := by decide +kernel
theorem dX7_refusalOfLaying_46 : decode cX7_refusalOfLaying 46 = .ok (.ireturn, 1) := by decide +kernel
set_option maxRecDepth 20000 in
theorem ggX7_waysOf_X7_waysBetween : GoodIn wsX7_waysOf wsX7_waysBetween := goodIn_r _ [6, 7, 8, 9, 10, 11, 12, 13, 14, 15, 16, 17, 18, 19, 20, 21, 22, 23, 24, 25, 26, 27, 28, 29, 30, 31, 32, 33, 34, 35, 36, 37, 38, 39, 40, 41, 42, 43, 44, 45, 46, 47, 48, 49, 50, 51, 52, 53, 54, 55, 56, 57, 58, 59, 60, 61, 62, 63, 64, 65, 66, 67, 68, 69, 70, 71, 72, 73, 74, 75, 76, 77, 78, 79, 80, 81, 82, 92, 93, 94, 95, 96, 97, 98, 99, 100, 101, 102, 103, 104, 105, 106, 107, 108, 109, 110, 111, 83, 84, 85, 86, 87, 88, 89, 90, 91] (by decide +kernel) (by decide +kernel)
set_option maxRecDepth 20000 in
theorem gX7_waysOf_X7_waysBetween : GoodIn wsX7_waysOf (wsV RX7 279 RX7 yX7_waysBetween wsX7_waysBetween) := goodIn_app (goodIn_of _ (by decide +kernel)) ggX7_waysOf_X7_waysBetween
theorem dX7_waysOf_0 : decode cX7_waysOf 0 = .ok (.aload_n 0, 1) := by decide +kernel
theorem dX7_waysOf_1 : decode cX7_waysOf 1 = .ok (.aload_n 1, 1) := by decide +kernel
theorem dX7_waysOf_2 : decode cX7_waysOf 2 = .ok (.iload_n 2, 1) := by decide +kernel
theorem dX7_waysOf_3 : decode cX7_waysOf 3 = .ok (.iconst 0, 1) := by decide +kernel
theorem dX7_waysOf_4 : decode cX7_waysOf 4 = .ok (.aload_n 1, 1) := by decide +kernel
theorem dX7_waysOf_5 : decode cX7_waysOf 5 = .ok (.getfield 80, 3) := by decide +kernel
theorem dX7_waysOf_8 : decode cX7_waysOf 8 = .ok (.iload_n 2, 1) := by decide +kernel
theorem dX7_waysOf_9 : decode cX7_waysOf 9 = .ok (.iaload, 1) := by decide +kernel
theorem dX7_waysOf_10 : decode cX7_waysOf 10 = .ok (.invokevirtual 279, 3) := by decide +kernel
theorem dX7_waysOf_13 : decode cX7_waysOf 13 = .ok (.areturn, 1) := by decide +kernel
set_option maxRecDepth 20000 in
theorem ggX7_waysBetween_X6_init : GoodIn wsX7_waysBetween wsX6_init := goodIn_r _ [7, 8, 9, 10, 11, 12, 13, 14, 15, 16, 17, 18, 19, 20, 21, 22, 23, 24, 25, 26, 83, 84, 85, 86, 87, 88, 89, 90, 91, 92, 93, 94, 95, 96] (by decide +kernel) (by decide +kernel)
set_option maxRecDepth 20000 in
theorem gX7_waysBetween_X6_init : GoodIn wsX7_waysBetween (wsX6_init) := ggX7_waysBetween_X6_init
set_option maxRecDepth 20000 in
theorem ggX7_waysBetween_X6_spread : GoodIn wsX7_waysBetween wsX6_spread := goodIn_r _ [30, 26, 31, 32, 33, 34, 21, 12, 20, 35, 18, 36, 16, 14, 17, 37, 38, 39, 40, 41, 42, 43, 44, 45, 46, 47, 48, 49, 50, 51, 52, 53, 54, 55, 4, 56, 57, 58, 59, 60, 61, 15, 62, 63, 64, 65, 66, 67, 68, 69, 70, 71, 72, 73, 74, 75, 76, 83, 84, 85, 86, 87, 88, 89, 90, 91, 92, 93, 94, 95, 96, 97, 98, 99, 100, 101, 102, 103, 104, 105] (by decide +kernel) (by decide +kernel)
set_option maxRecDepth 20000 in
theorem gX7_waysBetween_X6_spread : GoodIn wsX7_waysBetween (wsV RX7 285 RX6 yX6_spread wsX6_spread) := goodIn_app (goodIn_of _ (by decide +kernel)) ggX7_waysBetween_X6_spread
theorem dX7_waysBetween_0 : decode cX7_waysBetween 0 = .ok (.aload_n 0, 1) := by decide +kernel
theorem dX7_waysBetween_1 : decode cX7_waysBetween 1 = .ok (.getfield 32, 3) := by decide +kernel
theorem dX7_waysBetween_4 : decode cX7_waysBetween 4 = .ok (.ifnonnull 15, 3) := by decide +kernel
theorem dX7_waysBetween_7 : decode cX7_waysBetween 7 = .ok (.aload_n 0, 1) := by decide +kernel
theorem dX7_waysBetween_8 : decode cX7_waysBetween 8 = .ok (.new 130, 3) := by decide +kernel
theorem dX7_waysBetween_11 : decode cX7_waysBetween 11 = .ok (.dup, 1) := by decide +kernel
theorem dX7_waysBetween_12 : decode cX7_waysBetween 12 = .ok (.aload_n 1, 1) := by decide +kernel
theorem dX7_waysBetween_13 : decode cX7_waysBetween 13 = .ok (.invokespecial 283, 3) := by decide +kernel
theorem dX7_waysBetween_16 : decode cX7_waysBetween 16 = .ok (.putfield 32, 3) := by decide +kernel
theorem dX7_waysBetween_19 : decode cX7_waysBetween 19 = .ok (.aload_n 0, 1) := by decide +kernel
theorem dX7_waysBetween_20 : decode cX7_waysBetween 20 = .ok (.getfield 32, 3) := by decide +kernel
theorem dX7_waysBetween_23 : decode cX7_waysBetween 23 = .ok (.aload_n 1, 1) := by decide +kernel
theorem dX7_waysBetween_24 : decode cX7_waysBetween 24 = .ok (.iload_n 2, 1) := by decide +kernel
theorem dX7_waysBetween_25 : decode cX7_waysBetween 25 = .ok (.iload_n 3, 1) := by decide +kernel
theorem dX7_waysBetween_26 : decode cX7_waysBetween 26 = .ok (.iload 4, 2) := by decide +kernel
theorem dX7_waysBetween_28 : decode cX7_waysBetween 28 = .ok (.invokevirtual 285, 3) := by decide +kernel
theorem dX7_waysBetween_31 : decode cX7_waysBetween 31 = .ok (.aload_n 0, 1) := by decide +kernel
theorem dX7_waysBetween_32 : decode cX7_waysBetween 32 = .ok (.getfield 32, 3) := by decide +kernel
theorem dX7_waysBetween_35 : decode cX7_waysBetween 35 = .ok (.areturn, 1) := by decide +kernel
set_option maxRecDepth 20000 in
theorem ggX7_leastTogether_X3_hasBoth : GoodIn wsX7_leastTogether wsX3_hasBoth := goodIn_r _ [11, 12, 13, 14, 15, 16, 17, 29, 30, 31, 32, 33, 34, 35, 36, 37] (by decide +kernel) (by decide +kernel)
set_option maxRecDepth 20000 in
theorem gX7_leastTogether_X3_hasBoth : GoodIn wsX7_leastTogether (wsV RX7 290 RX3 yX3_hasBoth wsX3_hasBoth) := goodIn_app (goodIn_of _ (by decide +kernel)) ggX7_leastTogether_X3_hasBoth
set_option maxRecDepth 20000 in
theorem ggX7_leastTogether_X3_worthOfTaken : GoodIn wsX7_leastTogether wsX3_worthOfTaken := goodIn_r _ [21, 12, 22, 14, 15, 16, 17, 29, 30, 31, 32, 33, 34, 35, 36, 37] (by decide +kernel) (by decide +kernel)
set_option maxRecDepth 20000 in
theorem gX7_leastTogether_X3_worthOfTaken : GoodIn wsX7_leastTogether (wsV RX7 293 RX3 yX3_worthOfTaken wsX3_worthOfTaken) := goodIn_app (goodIn_of _ (by decide +kernel)) ggX7_leastTogether_X3_worthOfTaken
theorem dX7_leastTogether_0 : decode cX7_leastTogether 0 = .ok (.ldc_w 289, 3) := by decide +kernel
theorem dX7_leastTogether_3 : decode cX7_leastTogether 3 = .ok (.istore_n 3, 1) := by decide +kernel
theorem dX7_leastTogether_4 : decode cX7_leastTogether 4 = .ok (.iconst 0, 1) := by decide +kernel
theorem dX7_leastTogether_5 : decode cX7_leastTogether 5 = .ok (.istore 4, 2) := by decide +kernel
theorem dX7_leastTogether_7 : decode cX7_leastTogether 7 = .ok (.iload 4, 2) := by decide +kernel
theorem dX7_leastTogether_9 : decode cX7_leastTogether 9 = .ok (.aload_n 1, 1) := by decide +kernel
theorem dX7_leastTogether_10 : decode cX7_leastTogether 10 = .ok (.arraylength, 1) := by decide +kernel
theorem dX7_leastTogether_11 : decode cX7_leastTogether 11 = .ok (.if_icmp .ge 71, 3) := by decide +kernel
theorem dX7_leastTogether_14 : decode cX7_leastTogether 14 = .ok (.iconst 0, 1) := by decide +kernel
theorem dX7_leastTogether_15 : decode cX7_leastTogether 15 = .ok (.istore 5, 2) := by decide +kernel
theorem dX7_leastTogether_17 : decode cX7_leastTogether 17 = .ok (.iload 5, 2) := by decide +kernel
theorem dX7_leastTogether_19 : decode cX7_leastTogether 19 = .ok (.aload_n 2, 1) := by decide +kernel
theorem dX7_leastTogether_20 : decode cX7_leastTogether 20 = .ok (.arraylength, 1) := by decide +kernel
theorem dX7_leastTogether_21 : decode cX7_leastTogether 21 = .ok (.if_icmp .ge 55, 3) := by decide +kernel
theorem dX7_leastTogether_24 : decode cX7_leastTogether 24 = .ok (.aload_n 0, 1) := by decide +kernel
theorem dX7_leastTogether_25 : decode cX7_leastTogether 25 = .ok (.getfield 10, 3) := by decide +kernel
theorem dX7_leastTogether_28 : decode cX7_leastTogether 28 = .ok (.aload_n 1, 1) := by decide +kernel
theorem dX7_leastTogether_29 : decode cX7_leastTogether 29 = .ok (.iload 4, 2) := by decide +kernel
theorem dX7_leastTogether_31 : decode cX7_leastTogether 31 = .ok (.iaload, 1) := by decide +kernel
theorem dX7_leastTogether_32 : decode cX7_leastTogether 32 = .ok (.aload_n 2, 1) := by decide +kernel
theorem dX7_leastTogether_33 : decode cX7_leastTogether 33 = .ok (.iload 5, 2) := by decide +kernel
theorem dX7_leastTogether_35 : decode cX7_leastTogether 35 = .ok (.iaload, 1) := by decide +kernel
theorem dX7_leastTogether_36 : decode cX7_leastTogether 36 = .ok (.invokevirtual 290, 3) := by decide +kernel
theorem dX7_leastTogether_39 : decode cX7_leastTogether 39 = .ok (.ifCond .eq 31, 3) := by decide +kernel
theorem dX7_leastTogether_42 : decode cX7_leastTogether 42 = .ok (.iload_n 3, 1) := by decide +kernel
theorem dX7_leastTogether_43 : decode cX7_leastTogether 43 = .ok (.aload_n 0, 1) := by decide +kernel
theorem dX7_leastTogether_44 : decode cX7_leastTogether 44 = .ok (.getfield 10, 3) := by decide +kernel
theorem dX7_leastTogether_47 : decode cX7_leastTogether 47 = .ok (.aload_n 1, 1) := by decide +kernel
theorem dX7_leastTogether_48 : decode cX7_leastTogether 48 = .ok (.iload 4, 2) := by decide +kernel
theorem dX7_leastTogether_50 : decode cX7_leastTogether 50 = .ok (.iaload, 1) := by decide +kernel
theorem dX7_leastTogether_51 : decode cX7_leastTogether 51 = .ok (.invokevirtual 293, 3) := by decide +kernel
theorem dX7_leastTogether_54 : decode cX7_leastTogether 54 = .ok (.aload_n 0, 1) := by decide +kernel
theorem dX7_leastTogether_55 : decode cX7_leastTogether 55 = .ok (.getfield 10, 3) := by decide +kernel
theorem dX7_leastTogether_58 : decode cX7_leastTogether 58 = .ok (.aload_n 2, 1) := by decide +kernel
theorem dX7_leastTogether_59 : decode cX7_leastTogether 59 = .ok (.iload 5, 2) := by decide +kernel
theorem dX7_leastTogether_61 : decode cX7_leastTogether 61 = .ok (.iaload, 1) := by decide +kernel
theorem dX7_leastTogether_62 : decode cX7_leastTogether 62 = .ok (.invokevirtual 293, 3) := by decide +kernel
theorem dX7_leastTogether_65 : decode cX7_leastTogether 65 = .ok (.iadd, 1) := by decide +kernel
theorem dX7_leastTogether_66 : decode cX7_leastTogether 66 = .ok (.invokestatic 178, 3) := by decide +kernel
theorem dX7_leastTogether_69 : decode cX7_leastTogether 69 = .ok (.istore_n 3, 1) := by decide +kernel
theorem dX7_leastTogether_70 : decode cX7_leastTogether 70 = .ok (.iinc 5 1, 3) := by decide +kernel
theorem dX7_leastTogether_73 : decode cX7_leastTogether 73 = .ok (.goto (-56), 3) := by decide +kernel
theorem dX7_leastTogether_76 : decode cX7_leastTogether 76 = .ok (.iinc 4 1, 3) := by decide +kernel
theorem dX7_leastTogether_79 : decode cX7_leastTogether 79 = .ok (.goto (-72), 3) := by decide +kernel
theorem dX7_leastTogether_82 : decode cX7_leastTogether 82 = .ok (.iload_n 3, 1) := by decide +kernel
theorem dX7_leastTogether_83 : decode cX7_leastTogether 83 = .ok (.ldc_w 289, 3) := by decide +kernel
theorem dX7_leastTogether_86 : decode cX7_leastTogether 86 = .ok (.if_icmp .ge 7, 3) := by decide +kernel
theorem dX7_leastTogether_89 : decode cX7_leastTogether 89 = .ok (.iload_n 3, 1) := by decide +kernel
theorem dX7_leastTogether_90 : decode cX7_leastTogether 90 = .ok (.goto 5, 3) := by decide +kernel
theorem dX7_leastTogether_93 : decode cX7_leastTogether 93 = .ok (.bipush (-4), 2) := by decide +kernel
theorem dX7_leastTogether_95 : decode cX7_leastTogether 95 = .ok (.ireturn, 1) := by decide +kernel
set_option maxRecDepth 20000 in
theorem ggX7_canMend_X3_takeOver : GoodIn wsX7_canMend wsX3_takeOver := goodIn_r _ [13, 14, 15, 16, 17, 18, 19, 20, 21, 22, 23, 24, 25, 26, 124, 125, 126, 127, 128, 129, 130, 131, 132] (by decide +kernel) (by decide +kernel)
set_option maxRecDepth 20000 in
theorem gX7_canMend_X3_takeOver : GoodIn wsX7_canMend (wsV RX7 48 RX3 yX3_takeOver wsX3_takeOver) := goodIn_app (goodIn_of _ (by decide +kernel)) ggX7_canMend_X3_takeOver
set_option maxRecDepth 20000 in
theorem ggX7_canMend_X3_wholeOnesOf : GoodIn wsX7_canMend wsX3_wholeOnesOf := goodIn_r _ [30, 22, 31, 32, 33, 12, 34, 21, 35, 36, 37, 38, 14, 39, 40, 41, 42, 23, 124, 125, 126, 127, 128, 129, 130, 131, 132] (by decide +kernel) (by decide +kernel)
set_option maxRecDepth 20000 in
theorem gX7_canMend_X3_wholeOnesOf : GoodIn wsX7_canMend (wsV RX7 296 RX3 yX3_wholeOnesOf wsX3_wholeOnesOf) := goodIn_app (goodIn_of _ (by decide +kernel)) ggX7_canMend_X3_wholeOnesOf
set_option maxRecDepth 20000 in
theorem ggX7_canMend_X3_slateAt : GoodIn wsX7_canMend wsX3_slateAt := goodIn_r _ [42, 23, 124, 125, 126, 127, 128, 129, 130, 131, 132] (by decide +kernel) (by decide +kernel)
set_option maxRecDepth 20000 in
theorem gX7_canMend_X3_slateAt : GoodIn wsX7_canMend (wsV RX7 90 RX3 yX3_slateAt wsX3_slateAt) := goodIn_app (goodIn_of _ (by decide +kernel)) ggX7_canMend_X3_slateAt
set_option maxRecDepth 20000 in
theorem ggX7_canMend_X3_endOf : GoodIn wsX7_canMend wsX3_endOf := goodIn_r _ [38, 22, 14, 39, 40, 41, 12, 42, 23, 124, 125, 126, 127, 128, 129, 130, 131, 132] (by decide +kernel) (by decide +kernel)
set_option maxRecDepth 20000 in
theorem gX7_canMend_X3_endOf : GoodIn wsX7_canMend (wsV RX7 94 RX3 yX3_endOf wsX3_endOf) := goodIn_app (goodIn_of _ (by decide +kernel)) ggX7_canMend_X3_endOf
set_option maxRecDepth 20000 in
theorem ggX7_canMend_X7_waysBetween : GoodIn wsX7_canMend wsX7_waysBetween := goodIn_r _ [49, 50, 51, 52, 53, 54, 55, 56, 57, 58, 59, 60, 61, 62, 63, 64, 65, 66, 67, 68, 69, 70, 71, 72, 73, 74, 75, 76, 77, 78, 79, 80, 6, 7, 8, 81, 82, 83, 84, 85, 12, 86, 22, 14, 87, 88, 89, 26, 39, 40, 41, 42, 23, 90, 91, 92, 93, 94, 95, 96, 97, 98, 99, 100, 101, 102, 103, 104, 105, 106, 107, 108, 109, 110, 111, 112, 113, 118, 119, 120, 121, 122, 123, 133, 134, 135, 136, 137, 138, 139, 140, 141, 142, 143, 144, 145, 146, 124, 125, 126, 127, 128, 129, 130, 131, 132] (by decide +kernel) (by decide +kernel)
set_option maxRecDepth 20000 in
theorem gX7_canMend_X7_waysBetween : GoodIn wsX7_canMend (wsV RX7 279 RX7 yX7_waysBetween wsX7_waysBetween) := goodIn_app (goodIn_of _ (by decide +kernel)) ggX7_canMend_X7_waysBetween
set_option maxRecDepth 20000 in
theorem ggX7_canMend_X6_hasFill : GoodIn wsX7_canMend wsX6_hasFill := goodIn_r _ [117, 69, 67, 70, 133, 134, 135, 136, 137, 138, 139, 140, 141, 142, 143, 144, 145, 146] (by decide +kernel) (by decide +kernel)
set_option maxRecDepth 20000 in
theorem gX7_canMend_X6_hasFill : GoodIn wsX7_canMend (wsV RX7 147 RX6 yX6_hasFill wsX6_hasFill) := goodIn_app (goodIn_of _ (by decide +kernel)) ggX7_canMend_X6_hasFill
theorem dX7_canMend_0 : decode cX7_canMend 0 = .ok (.aload_n 0, 1) := by decide +kernel
theorem dX7_canMend_1 : decode cX7_canMend 1 = .ok (.getfield 19, 3) := by decide +kernel
theorem dX7_canMend_4 : decode cX7_canMend 4 = .ok (.aload_n 0, 1) := by decide +kernel
theorem dX7_canMend_5 : decode cX7_canMend 5 = .ok (.getfield 10, 3) := by decide +kernel
theorem dX7_canMend_8 : decode cX7_canMend 8 = .ok (.invokevirtual 48, 3) := by decide +kernel
theorem dX7_canMend_11 : decode cX7_canMend 11 = .ok (.aload_n 0, 1) := by decide +kernel
theorem dX7_canMend_12 : decode cX7_canMend 12 = .ok (.getfield 10, 3) := by decide +kernel
theorem dX7_canMend_15 : decode cX7_canMend 15 = .ok (.iload_n 1, 1) := by decide +kernel
theorem dX7_canMend_16 : decode cX7_canMend 16 = .ok (.invokevirtual 296, 3) := by decide +kernel
theorem dX7_canMend_19 : decode cX7_canMend 19 = .ok (.istore 5, 2) := by decide +kernel
theorem dX7_canMend_21 : decode cX7_canMend 21 = .ok (.iload_n 3, 1) := by decide +kernel
theorem dX7_canMend_22 : decode cX7_canMend 22 = .ok (.istore 6, 2) := by decide +kernel
theorem dX7_canMend_24 : decode cX7_canMend 24 = .ok (.iload 6, 2) := by decide +kernel
theorem dX7_canMend_26 : decode cX7_canMend 26 = .ok (.iload 4, 2) := by decide +kernel
theorem dX7_canMend_28 : decode cX7_canMend 28 = .ok (.if_icmp .gt 44, 3) := by decide +kernel
theorem dX7_canMend_31 : decode cX7_canMend 31 = .ok (.iload 6, 2) := by decide +kernel
theorem dX7_canMend_33 : decode cX7_canMend 33 = .ok (.iload 5, 2) := by decide +kernel
theorem dX7_canMend_35 : decode cX7_canMend 35 = .ok (.if_icmp .ge 37, 3) := by decide +kernel
theorem dX7_canMend_38 : decode cX7_canMend 38 = .ok (.iload 6, 2) := by decide +kernel
theorem dX7_canMend_40 : decode cX7_canMend 40 = .ok (.iload_n 2, 1) := by decide +kernel
theorem dX7_canMend_41 : decode cX7_canMend 41 = .ok (.if_icmp .eq 25, 3) := by decide +kernel
theorem dX7_canMend_44 : decode cX7_canMend 44 = .ok (.aload_n 0, 1) := by decide +kernel
theorem dX7_canMend_45 : decode cX7_canMend 45 = .ok (.getfield 19, 3) := by decide +kernel
theorem dX7_canMend_48 : decode cX7_canMend 48 = .ok (.getfield 68, 3) := by decide +kernel
theorem dX7_canMend_51 : decode cX7_canMend 51 = .ok (.aload_n 0, 1) := by decide +kernel
theorem dX7_canMend_52 : decode cX7_canMend 52 = .ok (.getfield 10, 3) := by decide +kernel
theorem dX7_canMend_55 : decode cX7_canMend 55 = .ok (.iload_n 1, 1) := by decide +kernel
theorem dX7_canMend_56 : decode cX7_canMend 56 = .ok (.iload 6, 2) := by decide +kernel
theorem dX7_canMend_58 : decode cX7_canMend 58 = .ok (.invokevirtual 90, 3) := by decide +kernel
theorem dX7_canMend_61 : decode cX7_canMend 61 = .ok (.dup2, 1) := by decide +kernel
theorem dX7_canMend_62 : decode cX7_canMend 62 = .ok (.iaload, 1) := by decide +kernel
theorem dX7_canMend_63 : decode cX7_canMend 63 = .ok (.iconst 1, 1) := by decide +kernel
theorem dX7_canMend_64 : decode cX7_canMend 64 = .ok (.iadd, 1) := by decide +kernel
theorem dX7_canMend_65 : decode cX7_canMend 65 = .ok (.iastore, 1) := by decide +kernel
theorem dX7_canMend_66 : decode cX7_canMend 66 = .ok (.iinc 6 1, 3) := by decide +kernel
theorem dX7_canMend_69 : decode cX7_canMend 69 = .ok (.goto (-45), 3) := by decide +kernel
theorem dX7_canMend_72 : decode cX7_canMend 72 = .ok (.aload_n 0, 1) := by decide +kernel
theorem dX7_canMend_73 : decode cX7_canMend 73 = .ok (.getfield 10, 3) := by decide +kernel
theorem dX7_canMend_76 : decode cX7_canMend 76 = .ok (.iload_n 1, 1) := by decide +kernel
theorem dX7_canMend_77 : decode cX7_canMend 77 = .ok (.iload_n 3, 1) := by decide +kernel
theorem dX7_canMend_78 : decode cX7_canMend 78 = .ok (.iconst 1, 1) := by decide +kernel
theorem dX7_canMend_79 : decode cX7_canMend 79 = .ok (.isub, 1) := by decide +kernel
theorem dX7_canMend_80 : decode cX7_canMend 80 = .ok (.invokevirtual 94, 3) := by decide +kernel
theorem dX7_canMend_83 : decode cX7_canMend 83 = .ok (.istore 6, 2) := by decide +kernel
theorem dX7_canMend_85 : decode cX7_canMend 85 = .ok (.aload_n 0, 1) := by decide +kernel
theorem dX7_canMend_86 : decode cX7_canMend 86 = .ok (.getfield 10, 3) := by decide +kernel
theorem dX7_canMend_89 : decode cX7_canMend 89 = .ok (.iload_n 1, 1) := by decide +kernel
theorem dX7_canMend_90 : decode cX7_canMend 90 = .ok (.iload 4, 2) := by decide +kernel
theorem dX7_canMend_92 : decode cX7_canMend 92 = .ok (.invokevirtual 94, 3) := by decide +kernel
theorem dX7_canMend_95 : decode cX7_canMend 95 = .ok (.aload_n 0, 1) := by decide +kernel
theorem dX7_canMend_96 : decode cX7_canMend 96 = .ok (.getfield 10, 3) := by decide +kernel
theorem dX7_canMend_99 : decode cX7_canMend 99 = .ok (.getfield 80, 3) := by decide +kernel
theorem dX7_canMend_102 : decode cX7_canMend 102 = .ok (.iload_n 1, 1) := by decide +kernel
theorem dX7_canMend_103 : decode cX7_canMend 103 = .ok (.iaload, 1) := by decide +kernel
theorem dX7_canMend_104 : decode cX7_canMend 104 = .ok (.invokestatic 178, 3) := by decide +kernel
theorem dX7_canMend_107 : decode cX7_canMend 107 = .ok (.istore 7, 2) := by decide +kernel
theorem dX7_canMend_109 : decode cX7_canMend 109 = .ok (.aload_n 0, 1) := by decide +kernel
theorem dX7_canMend_110 : decode cX7_canMend 110 = .ok (.aload_n 0, 1) := by decide +kernel
theorem dX7_canMend_111 : decode cX7_canMend 111 = .ok (.getfield 19, 3) := by decide +kernel
theorem dX7_canMend_114 : decode cX7_canMend 114 = .ok (.iload_n 1, 1) := by decide +kernel
theorem dX7_canMend_115 : decode cX7_canMend 115 = .ok (.iload 6, 2) := by decide +kernel
theorem dX7_canMend_117 : decode cX7_canMend 117 = .ok (.iload 7, 2) := by decide +kernel
theorem dX7_canMend_119 : decode cX7_canMend 119 = .ok (.invokevirtual 279, 3) := by decide +kernel
theorem dX7_canMend_122 : decode cX7_canMend 122 = .ok (.invokevirtual 147, 3) := by decide +kernel
theorem dX7_canMend_125 : decode cX7_canMend 125 = .ok (.ireturn, 1) := by decide +kernel
