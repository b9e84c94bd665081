set_option maxRecDepth 20000 in
theorem ggX3_init_X1_init : GoodIn wsX3_init wsX1_init := goodIn_r _ [20, 21, 2, 3, 16, 22, 23, 24, 103, 104, 105, 106, 107] (by decide +kernel) (by decide +kernel)
set_option maxRecDepth 20000 in
theorem gX3_init_X1_init_n11 : GoodIn wsX3_init (wsX1_init) := ggX3_init_X1_init
set_option maxRecDepth 20000 in
theorem ggX3_init_X0_init : GoodIn wsX3_init wsX0_init := goodIn_r _ [27, 28, 2, 3, 16, 29, 30, 31, 32, 116, 117, 118, 119, 120] (by decide +kernel) (by decide +kernel)
set_option maxRecDepth 20000 in
theorem gX3_init_X0_init : GoodIn wsX3_init (wsX0_init) := ggX3_init_X0_init
set_option maxRecDepth 20000 in
theorem ggX3_init_X2_init : GoodIn wsX3_init wsX2_init := goodIn_r _ [34, 35, 2, 3, 16, 36, 37, 121, 122, 123, 124, 125] (by decide +kernel) (by decide +kernel)
set_option maxRecDepth 20000 in
theorem gX3_init_X2_init_n27 : GoodIn wsX3_init (wsX2_init) := ggX3_init_X2_init
set_option maxRecDepth 20000 in
theorem ggX3_init_X1_lay : GoodIn wsX3_init wsX1_lay := goodIn_r _ [41, 42, 43, 44, 45, 46, 47, 6, 48, 22, 24, 49, 50, 51, 52, 53, 54, 55, 56, 103, 104, 105, 106, 107] (by decide +kernel) (by decide +kernel)
set_option maxRecDepth 20000 in
theorem gX3_init_X1_lay : GoodIn wsX3_init (wsV RX3 39 RX1 yX1_lay wsX1_lay) := goodIn_app (goodIn_of _ (by decide +kernel)) ggX3_init_X1_lay
set_option maxRecDepth 20000 in
theorem ggX3_init_X3_tellNothing : GoodIn wsX3_init wsX3_tellNothing := goodIn_r _ [61, 11, 62, 63, 64, 65, 66, 10, 67, 68, 31, 69, 70, 71, 72, 73, 74, 75, 60, 76, 77, 7, 78, 17, 79, 80, 81, 82, 83, 84, 85, 86, 87, 88, 89, 90, 91, 92, 93, 94, 32, 95, 54, 55, 6, 56, 44, 96, 97, 98, 99, 100, 101, 102, 108, 109, 110, 111, 112, 113, 114, 115, 116, 117, 118, 119, 120, 103, 104, 105, 106, 107] (by decide +kernel) (by decide +kernel)
set_option maxRecDepth 20000 in
theorem gX3_init_X3_tellNothing : GoodIn wsX3_init (wsV RX3 43 RX3 yX3_tellNothing wsX3_tellNothing) := goodIn_app (goodIn_of _ (by decide +kernel)) ggX3_init_X3_tellNothing
theorem dX3_init_0 : decode cX3_init 0 = .ok (.aload_n 0, 1) := by decide +kernel
theorem dX3_init_1 : decode cX3_init 1 = .ok (.invokespecial 3, 3) := by decide +kernel
theorem dX3_init_4 : decode cX3_init 4 = .ok (.aload_n 0, 1) := by decide +kernel
theorem dX3_init_5 : decode cX3_init 5 = .ok (.new 9, 3) := by decide +kernel
theorem dX3_init_8 : decode cX3_init 8 = .ok (.dup, 1) := by decide +kernel
theorem dX3_init_9 : decode cX3_init 9 = .ok (.invokespecial 11, 3) := by decide +kernel
theorem dX3_init_12 : decode cX3_init 12 = .ok (.putfield 12, 3) := by decide +kernel
theorem dX3_init_15 : decode cX3_init 15 = .ok (.aload_n 0, 1) := by decide +kernel
theorem dX3_init_16 : decode cX3_init 16 = .ok (.new 16, 3) := by decide +kernel
theorem dX3_init_19 : decode cX3_init 19 = .ok (.dup, 1) := by decide +kernel
theorem dX3_init_20 : decode cX3_init 20 = .ok (.aload_n 0, 1) := by decide +kernel
theorem dX3_init_21 : decode cX3_init 21 = .ok (.getfield 12, 3) := by decide +kernel
theorem dX3_init_24 : decode cX3_init 24 = .ok (.invokespecial 18, 3) := by decide +kernel
theorem dX3_init_27 : decode cX3_init 27 = .ok (.putfield 21, 3) := by decide +kernel
theorem dX3_init_30 : decode cX3_init 30 = .ok (.aload_n 0, 1) := by decide +kernel
theorem dX3_init_31 : decode cX3_init 31 = .ok (.new 25, 3) := by decide +kernel
theorem dX3_init_34 : decode cX3_init 34 = .ok (.dup, 1) := by decide +kernel
theorem dX3_init_35 : decode cX3_init 35 = .ok (.invokespecial 27, 3) := by decide +kernel
theorem dX3_init_38 : decode cX3_init 38 = .ok (.putfield 28, 3) := by decide +kernel
theorem dX3_init_41 : decode cX3_init 41 = .ok (.aload_n 0, 1) := by decide +kernel
theorem dX3_init_42 : decode cX3_init 42 = .ok (.sipush 256, 3) := by decide +kernel
theorem dX3_init_45 : decode cX3_init 45 = .ok (.newarray .int, 2) := by decide +kernel
theorem dX3_init_47 : decode cX3_init 47 = .ok (.putfield 32, 3) := by decide +kernel
theorem dX3_init_50 : decode cX3_init 50 = .ok (.aload_n 0, 1) := by decide +kernel
theorem dX3_init_51 : decode cX3_init 51 = .ok (.sipush 300, 3) := by decide +kernel
theorem dX3_init_54 : decode cX3_init 54 = .ok (.newarray .int, 2) := by decide +kernel
theorem dX3_init_56 : decode cX3_init 56 = .ok (.putfield 36, 3) := by decide +kernel
theorem dX3_init_59 : decode cX3_init 59 = .ok (.aload_n 0, 1) := by decide +kernel
theorem dX3_init_60 : decode cX3_init 60 = .ok (.getfield 12, 3) := by decide +kernel
theorem dX3_init_63 : decode cX3_init 63 = .ok (.iconst 3, 1) := by decide +kernel
theorem dX3_init_64 : decode cX3_init 64 = .ok (.iconst 4, 1) := by decide +kernel
theorem dX3_init_65 : decode cX3_init 65 = .ok (.invokevirtual 39, 3) := by decide +kernel
theorem dX3_init_68 : decode cX3_init 68 = .ok (.pop, 1) := by decide +kernel
theorem dX3_init_69 : decode cX3_init 69 = .ok (.aload_n 0, 1) := by decide +kernel
theorem dX3_init_70 : decode cX3_init 70 = .ok (.invokevirtual 43, 3) := by decide +kernel
theorem dX3_init_73 : decode cX3_init 73 = .ok (.return_, 1) := by decide +kernel
set_option maxRecDepth 20000 in
theorem ggX3_begin_X1_lay : GoodIn wsX3_begin wsX1_lay := goodIn_r _ [9, 10, 11, 12, 13, 14, 15, 8, 16, 17, 18, 19, 20, 21, 22, 23, 24, 25, 26, 85, 86, 87, 88, 89] (by decide +kernel) (by decide +kernel)
set_option maxRecDepth 20000 in
theorem gX3_begin_X1_lay : GoodIn wsX3_begin (wsV RX3 39 RX1 yX1_lay wsX1_lay) := goodIn_app (goodIn_of _ (by decide +kernel)) ggX3_begin_X1_lay
set_option maxRecDepth 20000 in
theorem ggX3_begin_X3_tellNothing : GoodIn wsX3_begin wsX3_tellNothing := goodIn_r _ [31, 32, 33, 34, 35, 36, 37, 38, 39, 40, 41, 42, 43, 44, 45, 46, 47, 48, 30, 49, 50, 3, 4, 51, 52, 53, 54, 55, 56, 57, 58, 59, 60, 61, 62, 63, 64, 65, 66, 67, 68, 69, 24, 25, 8, 26, 12, 70, 71, 72, 73, 74, 75, 76, 77, 78, 79, 80, 81, 82, 83, 84, 90, 91, 92, 93, 94, 85, 86, 87, 88, 89] (by decide +kernel) (by decide +kernel)
set_option maxRecDepth 20000 in
theorem gX3_begin_X3_tellNothing : GoodIn wsX3_begin (wsV RX3 43 RX3 yX3_tellNothing wsX3_tellNothing) := goodIn_app (goodIn_of _ (by decide +kernel)) ggX3_begin_X3_tellNothing
theorem dX3_begin_0 : decode cX3_begin 0 = .ok (.aload_n 0, 1) := by decide +kernel
theorem dX3_begin_1 : decode cX3_begin 1 = .ok (.getfield 12, 3) := by decide +kernel
theorem dX3_begin_4 : decode cX3_begin 4 = .ok (.iload_n 1, 1) := by decide +kernel
theorem dX3_begin_5 : decode cX3_begin 5 = .ok (.iload_n 2, 1) := by decide +kernel
theorem dX3_begin_6 : decode cX3_begin 6 = .ok (.invokevirtual 39, 3) := by decide +kernel
theorem dX3_begin_9 : decode cX3_begin 9 = .ok (.ifCond .ne 13, 3) := by decide +kernel
theorem dX3_begin_12 : decode cX3_begin 12 = .ok (.new 46, 3) := by decide +kernel
theorem dX3_begin_15 : decode cX3_begin 15 = .ok (.dup, 1) := by decide +kernel
theorem dX3_begin_16 : decode cX3_begin 16 = .ok (.ldc 48, 2) := by decide +kernel
theorem dX3_begin_18 : decode cX3_begin 18 = .ok (.invokespecial 50, 3) := by decide +kernel
theorem dX3_begin_21 : decode cX3_begin 21 = .ok (.athrow, 1) := by decide +kernel
theorem dX3_begin_22 : decode cX3_begin 22 = .ok (.aload_n 0, 1) := by decide +kernel
theorem dX3_begin_23 : decode cX3_begin 23 = .ok (.invokevirtual 43, 3) := by decide +kernel
theorem dX3_begin_26 : decode cX3_begin 26 = .ok (.aload_n 0, 1) := by decide +kernel
theorem dX3_begin_27 : decode cX3_begin 27 = .ok (.getfield 12, 3) := by decide +kernel
theorem dX3_begin_30 : decode cX3_begin 30 = .ok (.getfield 53, 3) := by decide +kernel
theorem dX3_begin_33 : decode cX3_begin 33 = .ok (.ireturn, 1) := by decide +kernel
theorem dX3_rows_0 : decode cX3_rows 0 = .ok (.aload_n 0, 1) := by decide +kernel
theorem dX3_rows_1 : decode cX3_rows 1 = .ok (.getfield 12, 3) := by decide +kernel
theorem dX3_rows_4 : decode cX3_rows 4 = .ok (.getfield 53, 3) := by decide +kernel
theorem dX3_rows_7 : decode cX3_rows 7 = .ok (.ireturn, 1) := by decide +kernel
set_option maxRecDepth 20000 in
theorem ggX3_colourAt_X1_has : GoodIn wsX3_colourAt wsX1_has := goodIn_r _ [9, 10, 26, 27, 28, 29, 30] (by decide +kernel) (by decide +kernel)
set_option maxRecDepth 20000 in
theorem gX3_colourAt_X1_has : GoodIn wsX3_colourAt (wsV RX3 57 RX1 yX1_has wsX1_has) := goodIn_app (goodIn_of _ (by decide +kernel)) ggX3_colourAt_X1_has
set_option maxRecDepth 20000 in
theorem ggX3_colourAt_X1_colourOf : GoodIn wsX3_colourAt wsX1_colourOf := goodIn_r _ [14, 15, 16, 17, 6, 7, 8, 9, 10, 26, 27, 28, 29, 30] (by decide +kernel) (by decide +kernel)
set_option maxRecDepth 20000 in
theorem gX3_colourAt_X1_colourOf : GoodIn wsX3_colourAt (wsV RX3 69 RX1 yX1_colourOf wsX1_colourOf) := goodIn_app (goodIn_of _ (by decide +kernel)) ggX3_colourAt_X1_colourOf
theorem dX3_colourAt_0 : decode cX3_colourAt 0 = .ok (.aload_n 0, 1) := by decide +kernel
theorem dX3_colourAt_1 : decode cX3_colourAt 1 = .ok (.getfield 12, 3) := by decide +kernel
theorem dX3_colourAt_4 : decode cX3_colourAt 4 = .ok (.iload_n 1, 1) := by decide +kernel
theorem dX3_colourAt_5 : decode cX3_colourAt 5 = .ok (.invokevirtual 57, 3) := by decide +kernel
theorem dX3_colourAt_8 : decode cX3_colourAt 8 = .ok (.ifCond .eq 18, 3) := by decide +kernel
theorem dX3_colourAt_11 : decode cX3_colourAt 11 = .ok (.iload_n 2, 1) := by decide +kernel
theorem dX3_colourAt_12 : decode cX3_colourAt 12 = .ok (.ifCond .lt 14, 3) := by decide +kernel
theorem dX3_colourAt_15 : decode cX3_colourAt 15 = .ok (.iload_n 2, 1) := by decide +kernel
theorem dX3_colourAt_16 : decode cX3_colourAt 16 = .ok (.aload_n 0, 1) := by decide +kernel
theorem dX3_colourAt_17 : decode cX3_colourAt 17 = .ok (.getfield 12, 3) := by decide +kernel
theorem dX3_colourAt_20 : decode cX3_colourAt 20 = .ok (.getfield 61, 3) := by decide +kernel
theorem dX3_colourAt_23 : decode cX3_colourAt 23 = .ok (.if_icmp .lt 13, 3) := by decide +kernel
theorem dX3_colourAt_26 : decode cX3_colourAt 26 = .ok (.new 64, 3) := by decide +kernel
theorem dX3_colourAt_29 : decode cX3_colourAt 29 = .ok (.dup, 1) := by decide +kernel
theorem dX3_colourAt_30 : decode cX3_colourAt 30 = .ok (.ldc 66, 2) := by decide +kernel
theorem dX3_colourAt_32 : decode cX3_colourAt 32 = .ok (.invokespecial 68, 3) := by decide +kernel
theorem dX3_colourAt_35 : decode cX3_colourAt 35 = .ok (.athrow, 1) := by decide +kernel
theorem dX3_colourAt_36 : decode cX3_colourAt 36 = .ok (.aload_n 0, 1) := by decide +kernel
theorem dX3_colourAt_37 : decode cX3_colourAt 37 = .ok (.getfield 12, 3) := by decide +kernel
theorem dX3_colourAt_40 : decode cX3_colourAt 40 = .ok (.iload_n 1, 1) := by decide +kernel
theorem dX3_colourAt_41 : decode cX3_colourAt 41 = .ok (.iload_n 2, 1) := by decide +kernel
theorem dX3_colourAt_42 : decode cX3_colourAt 42 = .ok (.invokevirtual 69, 3) := by decide +kernel
theorem dX3_colourAt_45 : decode cX3_colourAt 45 = .ok (.ireturn, 1) := by decide +kernel
set_option maxRecDepth 20000 in
theorem ggX3_mark_X1_has : GoodIn wsX3_mark wsX1_has := goodIn_r _ [8, 9, 41, 42, 43, 44, 45] (by decide +kernel) (by decide +kernel)
set_option maxRecDepth 20000 in
theorem gX3_mark_X1_has : GoodIn wsX3_mark (wsV RX3 57 RX1 yX1_has wsX1_has) := goodIn_app (goodIn_of _ (by decide +kernel)) ggX3_mark_X1_has
set_option maxRecDepth 20000 in
theorem ggX3_mark_X1_compare : GoodIn wsX3_mark wsX1_compare := goodIn_r _ [13, 14, 15, 16, 17, 18, 5, 6, 7, 8, 9, 19, 20, 21, 22, 23, 24, 25, 26, 27, 28, 29, 30, 31, 32, 41, 42, 43, 44, 45] (by decide +kernel) (by decide +kernel)
set_option maxRecDepth 20000 in
theorem gX3_mark_X1_compare : GoodIn wsX3_mark (wsV RX3 75 RX1 yX1_compare wsX1_compare) := goodIn_app (goodIn_of _ (by decide +kernel)) ggX3_mark_X1_compare
theorem dX3_mark_0 : decode cX3_mark 0 = .ok (.aload_n 0, 1) := by decide +kernel
theorem dX3_mark_1 : decode cX3_mark 1 = .ok (.getfield 12, 3) := by decide +kernel
theorem dX3_mark_4 : decode cX3_mark 4 = .ok (.iload_n 1, 1) := by decide +kernel
theorem dX3_mark_5 : decode cX3_mark 5 = .ok (.invokevirtual 57, 3) := by decide +kernel
theorem dX3_mark_8 : decode cX3_mark 8 = .ok (.ifCond .eq 14, 3) := by decide +kernel
theorem dX3_mark_11 : decode cX3_mark 11 = .ok (.aload_n 0, 1) := by decide +kernel
theorem dX3_mark_12 : decode cX3_mark 12 = .ok (.getfield 12, 3) := by decide +kernel
theorem dX3_mark_15 : decode cX3_mark 15 = .ok (.iload_n 2, 1) := by decide +kernel
theorem dX3_mark_16 : decode cX3_mark 16 = .ok (.invokevirtual 57, 3) := by decide +kernel
theorem dX3_mark_19 : decode cX3_mark 19 = .ok (.ifCond .ne 13, 3) := by decide +kernel
theorem dX3_mark_22 : decode cX3_mark 22 = .ok (.new 64, 3) := by decide +kernel
theorem dX3_mark_25 : decode cX3_mark 25 = .ok (.dup, 1) := by decide +kernel
theorem dX3_mark_26 : decode cX3_mark 26 = .ok (.ldc 73, 2) := by decide +kernel
theorem dX3_mark_28 : decode cX3_mark 28 = .ok (.invokespecial 68, 3) := by decide +kernel
theorem dX3_mark_31 : decode cX3_mark 31 = .ok (.athrow, 1) := by decide +kernel
theorem dX3_mark_32 : decode cX3_mark 32 = .ok (.aload_n 0, 1) := by decide +kernel
theorem dX3_mark_33 : decode cX3_mark 33 = .ok (.getfield 12, 3) := by decide +kernel
theorem dX3_mark_36 : decode cX3_mark 36 = .ok (.iload_n 1, 1) := by decide +kernel
theorem dX3_mark_37 : decode cX3_mark 37 = .ok (.iload_n 2, 1) := by decide +kernel
theorem dX3_mark_38 : decode cX3_mark 38 = .ok (.invokevirtual 75, 3) := by decide +kernel
theorem dX3_mark_41 : decode cX3_mark 41 = .ok (.ireturn, 1) := by decide +kernel
set_option maxRecDepth 20000 in
theorem ggX3_allowLies_X0_countLies : GoodIn wsX3_allowLies wsX0_countLies := goodIn_r _ [12, 13, 14, 15, 11, 16, 17, 18, 19, 20, 21, 22, 23, 24, 25, 26, 27, 28, 29, 30, 31, 32, 33, 34, 35, 36, 58, 59, 60, 61, 62, 63, 64, 65, 66, 67] (by decide +kernel) (by decide +kernel)
set_option maxRecDepth 20000 in
theorem gX3_allowLies_X0_countLies : GoodIn wsX3_allowLies (wsV RX3 83 RX0 yX0_countLies wsX0_countLies) := goodIn_app (goodIn_of _ (by decide +kernel)) ggX3_allowLies_X0_countLies
set_option maxRecDepth 20000 in
theorem ggX3_allowLies_X3_listRowsLeft : GoodIn wsX3_allowLies wsX3_listRowsLeft := goodIn_r _ [41, 42, 43, 44, 45, 46, 47, 48, 40, 49, 6, 7, 8, 9, 10, 11, 12, 13, 14, 15, 16, 17, 18, 19, 20, 21, 22, 23, 24, 25, 26, 27, 28, 29, 30, 31, 32, 33, 34, 35, 36, 50, 51, 52, 53, 54, 55, 56, 57, 63, 64, 65, 66, 67, 58, 59, 60, 61, 62] (by decide +kernel) (by decide +kernel)
set_option maxRecDepth 20000 in
theorem gX3_allowLies_X3_listRowsLeft : GoodIn wsX3_allowLies (wsV RX3 95 RX3 yX3_listRowsLeft wsX3_listRowsLeft) := goodIn_app (goodIn_of _ (by decide +kernel)) ggX3_allowLies_X3_listRowsLeft
theorem dX3_allowLies_0 : decode cX3_allowLies 0 = .ok (.iload_n 1, 1) := by decide +kernel
theorem dX3_allowLies_1 : decode cX3_allowLies 1 = .ok (.ifCond .lt 8, 3) := by decide +kernel
theorem dX3_allowLies_4 : decode cX3_allowLies 4 = .ok (.iload_n 1, 1) := by decide +kernel
theorem dX3_allowLies_5 : decode cX3_allowLies 5 = .ok (.iconst 3, 1) := by decide +kernel
theorem dX3_allowLies_6 : decode cX3_allowLies 6 = .ok (.if_icmp .le 13, 3) := by decide +kernel
theorem dX3_allowLies_9 : decode cX3_allowLies 9 = .ok (.new 46, 3) := by decide +kernel
theorem dX3_allowLies_12 : decode cX3_allowLies 12 = .ok (.dup, 1) := by decide +kernel
theorem dX3_allowLies_13 : decode cX3_allowLies 13 = .ok (.ldc 78, 2) := by decide +kernel
theorem dX3_allowLies_15 : decode cX3_allowLies 15 = .ok (.invokespecial 50, 3) := by decide +kernel
theorem dX3_allowLies_18 : decode cX3_allowLies 18 = .ok (.athrow, 1) := by decide +kernel
theorem dX3_allowLies_19 : decode cX3_allowLies 19 = .ok (.aload_n 0, 1) := by decide +kernel
theorem dX3_allowLies_20 : decode cX3_allowLies 20 = .ok (.getfield 80, 3) := by decide +kernel
theorem dX3_allowLies_23 : decode cX3_allowLies 23 = .ok (.iconst (-1), 1) := by decide +kernel
theorem dX3_allowLies_24 : decode cX3_allowLies 24 = .ok (.if_icmp .eq 28, 3) := by decide +kernel
theorem dX3_allowLies_27 : decode cX3_allowLies 27 = .ok (.aload_n 0, 1) := by decide +kernel
theorem dX3_allowLies_28 : decode cX3_allowLies 28 = .ok (.getfield 21, 3) := by decide +kernel
theorem dX3_allowLies_31 : decode cX3_allowLies 31 = .ok (.aload_n 0, 1) := by decide +kernel
theorem dX3_allowLies_32 : decode cX3_allowLies 32 = .ok (.getfield 80, 3) := by decide +kernel
theorem dX3_allowLies_35 : decode cX3_allowLies 35 = .ok (.invokevirtual 83, 3) := by decide +kernel
theorem dX3_allowLies_38 : decode cX3_allowLies 38 = .ok (.iload_n 1, 1) := by decide +kernel
theorem dX3_allowLies_39 : decode cX3_allowLies 39 = .ok (.if_icmp .le 13, 3) := by decide +kernel
theorem dX3_allowLies_42 : decode cX3_allowLies 42 = .ok (.new 87, 3) := by decide +kernel
theorem dX3_allowLies_45 : decode cX3_allowLies 45 = .ok (.dup, 1) := by decide +kernel
theorem dX3_allowLies_46 : decode cX3_allowLies 46 = .ok (.ldc 89, 2) := by decide +kernel
theorem dX3_allowLies_48 : decode cX3_allowLies 48 = .ok (.invokespecial 91, 3) := by decide +kernel
theorem dX3_allowLies_51 : decode cX3_allowLies 51 = .ok (.athrow, 1) := by decide +kernel
theorem dX3_allowLies_52 : decode cX3_allowLies 52 = .ok (.aload_n 0, 1) := by decide +kernel
theorem dX3_allowLies_53 : decode cX3_allowLies 53 = .ok (.getfield 92, 3) := by decide +kernel
theorem dX3_allowLies_56 : decode cX3_allowLies 56 = .ok (.istore_n 2, 1) := by decide +kernel
theorem dX3_allowLies_57 : decode cX3_allowLies 57 = .ok (.aload_n 0, 1) := by decide +kernel
theorem dX3_allowLies_58 : decode cX3_allowLies 58 = .ok (.iload_n 1, 1) := by decide +kernel
theorem dX3_allowLies_59 : decode cX3_allowLies 59 = .ok (.putfield 92, 3) := by decide +kernel
theorem dX3_allowLies_62 : decode cX3_allowLies 62 = .ok (.aload_n 0, 1) := by decide +kernel
theorem dX3_allowLies_63 : decode cX3_allowLies 63 = .ok (.invokevirtual 95, 3) := by decide +kernel
theorem dX3_allowLies_66 : decode cX3_allowLies 66 = .ok (.iload_n 2, 1) := by decide +kernel
theorem dX3_allowLies_67 : decode cX3_allowLies 67 = .ok (.ireturn, 1) := by decide +kernel
set_option maxRecDepth 20000 in
theorem ggX3_tellNothing_X0_forgetAll : GoodIn wsX3_tellNothing wsX0_forgetAll := goodIn_r _ [8, 9, 10, 11, 12, 13, 14, 62, 63, 64, 65, 66] (by decide +kernel) (by decide +kernel)
set_option maxRecDepth 20000 in
theorem gX3_tellNothing_X0_forgetAll : GoodIn wsX3_tellNothing (wsV RX3 98 RX0 yX0_forgetAll wsX0_forgetAll) := goodIn_app (goodIn_of _ (by decide +kernel)) ggX3_tellNothing_X0_forgetAll
set_option maxRecDepth 20000 in
theorem ggX3_tellNothing_X3_listRowsLeft : GoodIn wsX3_tellNothing wsX3_listRowsLeft := goodIn_r _ [19, 20, 21, 22, 23, 24, 25, 26, 18, 27, 1, 2, 28, 29, 30, 7, 31, 32, 33, 34, 35, 9, 36, 37, 38, 39, 40, 10, 41, 42, 43, 44, 45, 46, 47, 48, 49, 50, 51, 52, 53, 54, 55, 56, 57, 58, 59, 60, 61, 67, 68, 69, 70, 71, 62, 63, 64, 65, 66] (by decide +kernel) (by decide +kernel)
set_option maxRecDepth 20000 in
theorem gX3_tellNothing_X3_listRowsLeft : GoodIn wsX3_tellNothing (wsV RX3 95 RX3 yX3_listRowsLeft wsX3_listRowsLeft) := goodIn_app (goodIn_of _ (by decide +kernel)) ggX3_tellNothing_X3_listRowsLeft
theorem dX3_tellNothing_0 : decode cX3_tellNothing 0 = .ok (.aload_n 0, 1) := by decide +kernel
theorem dX3_tellNothing_1 : decode cX3_tellNothing 1 = .ok (.getfield 21, 3) := by decide +kernel
theorem dX3_tellNothing_4 : decode cX3_tellNothing 4 = .ok (.invokevirtual 98, 3) := by decide +kernel
theorem dX3_tellNothing_7 : decode cX3_tellNothing 7 = .ok (.aload_n 0, 1) := by decide +kernel
theorem dX3_tellNothing_8 : decode cX3_tellNothing 8 = .ok (.iconst 0, 1) := by decide +kernel
theorem dX3_tellNothing_9 : decode cX3_tellNothing 9 = .ok (.putfield 92, 3) := by decide +kernel
theorem dX3_tellNothing_12 : decode cX3_tellNothing 12 = .ok (.aload_n 0, 1) := by decide +kernel
theorem dX3_tellNothing_13 : decode cX3_tellNothing 13 = .ok (.iconst (-1), 1) := by decide +kernel
theorem dX3_tellNothing_14 : decode cX3_tellNothing 14 = .ok (.putfield 80, 3) := by decide +kernel
theorem dX3_tellNothing_17 : decode cX3_tellNothing 17 = .ok (.aload_n 0, 1) := by decide +kernel
theorem dX3_tellNothing_18 : decode cX3_tellNothing 18 = .ok (.invokevirtual 95, 3) := by decide +kernel
theorem dX3_tellNothing_21 : decode cX3_tellNothing 21 = .ok (.return_, 1) := by decide +kernel
set_option maxRecDepth 20000 in
theorem ggX3_requireRow_X1_has : GoodIn wsX3_requireRow wsX1_has := goodIn_r _ [8, 9, 18, 19, 20, 21, 22] (by decide +kernel) (by decide +kernel)
set_option maxRecDepth 20000 in
theorem gX3_requireRow_X1_has : GoodIn wsX3_requireRow (wsV RX3 57 RX1 yX1_has wsX1_has) := goodIn_app (goodIn_of _ (by decide +kernel)) ggX3_requireRow_X1_has
theorem dX3_requireRow_0 : decode cX3_requireRow 0 = .ok (.aload_n 0, 1) := by decide +kernel
theorem dX3_requireRow_1 : decode cX3_requireRow 1 = .ok (.getfield 12, 3) := by decide +kernel
theorem dX3_requireRow_4 : decode cX3_requireRow 4 = .ok (.iload_n 1, 1) := by decide +kernel
theorem dX3_requireRow_5 : decode cX3_requireRow 5 = .ok (.invokevirtual 57, 3) := by decide +kernel
theorem dX3_requireRow_8 : decode cX3_requireRow 8 = .ok (.ifCond .ne 13, 3) := by decide +kernel
theorem dX3_requireRow_11 : decode cX3_requireRow 11 = .ok (.new 64, 3) := by decide +kernel
theorem dX3_requireRow_14 : decode cX3_requireRow 14 = .ok (.dup, 1) := by decide +kernel
theorem dX3_requireRow_15 : decode cX3_requireRow 15 = .ok (.ldc 73, 2) := by decide +kernel
theorem dX3_requireRow_17 : decode cX3_requireRow 17 = .ok (.invokespecial 68, 3) := by decide +kernel
theorem dX3_requireRow_20 : decode cX3_requireRow 20 = .ok (.athrow, 1) := by decide +kernel
theorem dX3_requireRow_21 : decode cX3_requireRow 21 = .ok (.return_, 1) := by decide +kernel
set_option maxRecDepth 20000 in
theorem ggX3_requirePossible_X1_allows : GoodIn wsX3_requirePossible wsX1_allows := goodIn_r _ [8, 9, 18, 19, 20, 21, 22] (by decide +kernel) (by decide +kernel)
set_option maxRecDepth 20000 in
theorem gX3_requirePossible_X1_allows : GoodIn wsX3_requirePossible (wsV RX3 101 RX1 yX1_allows wsX1_allows) := goodIn_app (goodIn_of _ (by decide +kernel)) ggX3_requirePossible_X1_allows
theorem dX3_requirePossible_0 : decode cX3_requirePossible 0 = .ok (.aload_n 0, 1) := by decide +kernel
theorem dX3_requirePossible_1 : decode cX3_requirePossible 1 = .ok (.getfield 12, 3) := by decide +kernel
theorem dX3_requirePossible_4 : decode cX3_requirePossible 4 = .ok (.iload_n 1, 1) := by decide +kernel
theorem dX3_requirePossible_5 : decode cX3_requirePossible 5 = .ok (.invokevirtual 101, 3) := by decide +kernel
theorem dX3_requirePossible_8 : decode cX3_requirePossible 8 = .ok (.ifCond .ne 13, 3) := by decide +kernel
theorem dX3_requirePossible_11 : decode cX3_requirePossible 11 = .ok (.new 46, 3) := by decide +kernel
theorem dX3_requirePossible_14 : decode cX3_requirePossible 14 = .ok (.dup, 1) := by decide +kernel
theorem dX3_requirePossible_15 : decode cX3_requirePossible 15 = .ok (.ldc 104, 2) := by decide +kernel
theorem dX3_requirePossible_17 : decode cX3_requirePossible 17 = .ok (.invokespecial 50, 3) := by decide +kernel
theorem dX3_requirePossible_20 : decode cX3_requirePossible 20 = .ok (.athrow, 1) := by decide +kernel
theorem dX3_requirePossible_21 : decode cX3_requirePossible 21 = .ok (.return_, 1) := by decide +kernel
set_option maxRecDepth 20000 in
theorem ggX3_hide_X3_requireRow : GoodIn wsX3_hide wsX3_requireRow := goodIn_ca (goodIn_r _ [8, 9, 10, 11, 12, 13, 14, 15, 16, 17, 48, 49, 50, 51, 52, 53, 54, 55, 56, 57, 58, 59, 60] (by decide +kernel) (by decide +kernel)) (goodIn_sub (fun _ h => List.mem_cons_of_mem _ (List.mem_append_right _ h)) (by decide +kernel))
set_option maxRecDepth 20000 in
theorem gX3_hide_X3_requireRow : GoodIn wsX3_hide (wsV RX3 106 RX3 yX3_requireRow wsX3_requireRow) := goodIn_app (goodIn_of _ (by decide +kernel)) ggX3_hide_X3_requireRow
set_option maxRecDepth 20000 in
theorem ggX3_hide_X3_remains : GoodIn wsX3_hide wsX3_remains := goodIn_r _ [21, 22, 23, 24, 25, 26, 27, 28, 29, 30, 31, 32, 33, 34, 35, 36, 37, 38, 39, 40, 13, 14, 15, 16, 17, 41, 42, 43, 44, 45, 46, 47, 48, 49, 50, 51, 52, 53, 54, 55, 61, 62, 63, 64, 65, 56, 57, 58, 59, 60] (by decide +kernel) (by decide +kernel)
set_option maxRecDepth 20000 in
theorem gX3_hide_X3_remains : GoodIn wsX3_hide (wsV RX3 110 RX3 yX3_remains wsX3_remains) := goodIn_app (goodIn_of _ (by decide +kernel)) ggX3_hide_X3_remains
theorem dX3_hide_0 : decode cX3_hide 0 = .ok (.aload_n 0, 1) := by decide +kernel
theorem dX3_hide_1 : decode cX3_hide 1 = .ok (.iload_n 1, 1) := by decide +kernel
theorem dX3_hide_2 : decode cX3_hide 2 = .ok (.invokevirtual 106, 3) := by decide +kernel
theorem dX3_hide_5 : decode cX3_hide 5 = .ok (.aload_n 0, 1) := by decide +kernel
theorem dX3_hide_6 : decode cX3_hide 6 = .ok (.iload_n 1, 1) := by decide +kernel
theorem dX3_hide_7 : decode cX3_hide 7 = .ok (.invokevirtual 110, 3) := by decide +kernel
theorem dX3_hide_10 : decode cX3_hide 10 = .ok (.ifCond .ne 13, 3) := by decide +kernel
theorem dX3_hide_13 : decode cX3_hide 13 = .ok (.new 87, 3) := by decide +kernel
theorem dX3_hide_16 : decode cX3_hide 16 = .ok (.dup, 1) := by decide +kernel
theorem dX3_hide_17 : decode cX3_hide 17 = .ok (.ldc 113, 2) := by decide +kernel
theorem dX3_hide_19 : decode cX3_hide 19 = .ok (.invokespecial 91, 3) := by decide +kernel
theorem dX3_hide_22 : decode cX3_hide 22 = .ok (.athrow, 1) := by decide +kernel
theorem dX3_hide_23 : decode cX3_hide 23 = .ok (.aload_n 0, 1) := by decide +kernel
theorem dX3_hide_24 : decode cX3_hide 24 = .ok (.getfield 80, 3) := by decide +kernel
theorem dX3_hide_27 : decode cX3_hide 27 = .ok (.iconst (-1), 1) := by decide +kernel
theorem dX3_hide_28 : decode cX3_hide 28 = .ok (.if_icmp .eq 7, 3) := by decide +kernel
theorem dX3_hide_31 : decode cX3_hide 31 = .ok (.iconst 1, 1) := by decide +kernel
theorem dX3_hide_32 : decode cX3_hide 32 = .ok (.goto 4, 3) := by decide +kernel
theorem dX3_hide_35 : decode cX3_hide 35 = .ok (.iconst 0, 1) := by decide +kernel
theorem dX3_hide_36 : decode cX3_hide 36 = .ok (.istore_n 2, 1) := by decide +kernel
theorem dX3_hide_37 : decode cX3_hide 37 = .ok (.aload_n 0, 1) := by decide +kernel
theorem dX3_hide_38 : decode cX3_hide 38 = .ok (.iload_n 1, 1) := by decide +kernel
theorem dX3_hide_39 : decode cX3_hide 39 = .ok (.putfield 80, 3) := by decide +kernel
theorem dX3_hide_42 : decode cX3_hide 42 = .ok (.iload_n 2, 1) := by decide +kernel
theorem dX3_hide_43 : decode cX3_hide 43 = .ok (.ireturn, 1) := by decide +kernel
set_option maxRecDepth 20000 in
theorem ggX3_guess_X3_requireRow : GoodIn wsX3_guess wsX3_requireRow := goodIn_ca (goodIn_r _ [10, 11, 12, 5, 13, 14, 15, 16, 17, 18, 89, 90, 91, 92, 93, 94, 95, 96, 97, 98, 99, 100, 101] (by decide +kernel) (by decide +kernel)) (goodIn_sub (fun _ h => List.mem_cons_of_mem _ (List.mem_append_right _ h)) (by decide +kernel))
set_option maxRecDepth 20000 in
theorem gX3_guess_X3_requireRow : GoodIn wsX3_guess (wsV RX3 106 RX3 yX3_requireRow wsX3_requireRow) := goodIn_app (goodIn_of _ (by decide +kernel)) ggX3_guess_X3_requireRow
set_option maxRecDepth 20000 in
theorem ggX3_guess_X0_isFull : GoodIn wsX3_guess wsX0_isFull := goodIn_r _ [23, 24, 102, 103, 104, 105, 106] (by decide +kernel) (by decide +kernel)
set_option maxRecDepth 20000 in
theorem gX3_guess_X0_isFull : GoodIn wsX3_guess (wsV RX3 115 RX0 yX0_isFull wsX0_isFull) := goodIn_app (goodIn_of _ (by decide +kernel)) ggX3_guess_X0_isFull
set_option maxRecDepth 20000 in
theorem ggX3_guess_X1_compare : GoodIn wsX3_guess wsX1_compare := goodIn_r _ [28, 29, 30, 31, 32, 33, 14, 15, 16, 17, 18, 34, 35, 36, 37, 38, 39, 40, 41, 42, 43, 44, 45, 46, 47, 97, 98, 99, 100, 101] (by decide +kernel) (by decide +kernel)
set_option maxRecDepth 20000 in
theorem gX3_guess_X1_compare : GoodIn wsX3_guess (wsV RX3 75 RX1 yX1_compare wsX1_compare) := goodIn_app (goodIn_of _ (by decide +kernel)) ggX3_guess_X1_compare
set_option maxRecDepth 20000 in
theorem ggX3_guess_X3_addEntry : GoodIn wsX3_guess wsX3_addEntry := goodIn_r _ [51, 4, 52, 53, 54, 22, 55, 24, 56, 57, 58, 59, 60, 61, 20, 21, 23, 62, 26, 27, 16, 28, 29, 30, 31, 32, 33, 14, 15, 17, 18, 34, 35, 36, 37, 38, 39, 40, 41, 42, 43, 44, 45, 46, 47, 63, 64, 65, 9, 66, 67, 5, 68, 69, 70, 71, 72, 73, 74, 75, 76, 77, 78, 79, 80, 81, 82, 83, 84, 85, 86, 87, 88, 89, 90, 91, 92, 93, 94, 95, 96, 102, 103, 104, 105, 106, 97, 98, 99, 100, 101] (by decide +kernel) (by decide +kernel)
set_option maxRecDepth 20000 in
theorem gX3_guess_X3_addEntry : GoodIn wsX3_guess (wsV RX3 121 RX3 yX3_addEntry wsX3_addEntry) := goodIn_app (goodIn_of _ (by decide +kernel)) ggX3_guess_X3_addEntry
theorem dX3_guess_0 : decode cX3_guess 0 = .ok (.aload_n 0, 1) := by decide +kernel
theorem dX3_guess_1 : decode cX3_guess 1 = .ok (.iload_n 1, 1) := by decide +kernel
theorem dX3_guess_2 : decode cX3_guess 2 = .ok (.invokevirtual 106, 3) := by decide +kernel
theorem dX3_guess_5 : decode cX3_guess 5 = .ok (.aload_n 0, 1) := by decide +kernel
theorem dX3_guess_6 : decode cX3_guess 6 = .ok (.getfield 80, 3) := by decide +kernel
theorem dX3_guess_9 : decode cX3_guess 9 = .ok (.iconst (-1), 1) := by decide +kernel
theorem dX3_guess_10 : decode cX3_guess 10 = .ok (.if_icmp .eq 13, 3) := by decide +kernel
theorem dX3_guess_13 : decode cX3_guess 13 = .ok (.aload_n 0, 1) := by decide +kernel
theorem dX3_guess_14 : decode cX3_guess 14 = .ok (.getfield 21, 3) := by decide +kernel
theorem dX3_guess_17 : decode cX3_guess 17 = .ok (.invokevirtual 115, 3) := by decide +kernel
theorem dX3_guess_20 : decode cX3_guess 20 = .ok (.ifCond .eq 13, 3) := by decide +kernel
theorem dX3_guess_23 : decode cX3_guess 23 = .ok (.new 87, 3) := by decide +kernel
theorem dX3_guess_26 : decode cX3_guess 26 = .ok (.dup, 1) := by decide +kernel
theorem dX3_guess_27 : decode cX3_guess 27 = .ok (.ldc 119, 2) := by decide +kernel
theorem dX3_guess_29 : decode cX3_guess 29 = .ok (.invokespecial 91, 3) := by decide +kernel
theorem dX3_guess_32 : decode cX3_guess 32 = .ok (.athrow, 1) := by decide +kernel
theorem dX3_guess_33 : decode cX3_guess 33 = .ok (.aload_n 0, 1) := by decide +kernel
theorem dX3_guess_34 : decode cX3_guess 34 = .ok (.getfield 12, 3) := by decide +kernel
theorem dX3_guess_37 : decode cX3_guess 37 = .ok (.iload_n 1, 1) := by decide +kernel
theorem dX3_guess_38 : decode cX3_guess 38 = .ok (.aload_n 0, 1) := by decide +kernel
theorem dX3_guess_39 : decode cX3_guess 39 = .ok (.getfield 80, 3) := by decide +kernel
theorem dX3_guess_42 : decode cX3_guess 42 = .ok (.invokevirtual 75, 3) := by decide +kernel
theorem dX3_guess_45 : decode cX3_guess 45 = .ok (.istore_n 2, 1) := by decide +kernel
theorem dX3_guess_46 : decode cX3_guess 46 = .ok (.aload_n 0, 1) := by decide +kernel
theorem dX3_guess_47 : decode cX3_guess 47 = .ok (.iload_n 1, 1) := by decide +kernel
theorem dX3_guess_48 : decode cX3_guess 48 = .ok (.iload_n 2, 1) := by decide +kernel
theorem dX3_guess_49 : decode cX3_guess 49 = .ok (.invokevirtual 121, 3) := by decide +kernel
theorem dX3_guess_52 : decode cX3_guess 52 = .ok (.iload_n 2, 1) := by decide +kernel
theorem dX3_guess_53 : decode cX3_guess 53 = .ok (.ireturn, 1) := by decide +kernel
set_option maxRecDepth 20000 in
theorem ggX3_tell_X3_requireRow : GoodIn wsX3_tell wsX3_requireRow := goodIn_ca (goodIn_r _ [9, 10, 11, 12, 13, 14, 15, 16, 17, 18, 103, 104, 105, 106, 107, 108, 109, 110, 111, 112, 113, 114, 115] (by decide +kernel) (by decide +kernel)) (goodIn_sub (fun _ h => List.mem_cons_of_mem _ (List.mem_append_left _ (List.mem_append_right _ h))) (by decide +kernel))
set_option maxRecDepth 20000 in
theorem gX3_tell_X3_requireRow : GoodIn wsX3_tell (wsV RX3 106 RX3 yX3_requireRow wsX3_requireRow) := goodIn_app (goodIn_of _ (by decide +kernel)) ggX3_tell_X3_requireRow
set_option maxRecDepth 20000 in
theorem ggX3_tell_X3_requirePossible : GoodIn wsX3_tell wsX3_requirePossible := goodIn_ca (goodIn_r _ [22, 23, 24, 12, 25, 26, 27, 16, 28, 29, 103, 104, 105, 106, 107, 108, 109, 110, 111, 112, 113, 114, 115] (by decide +kernel) (by decide +kernel)) (goodIn_sub (fun _ h => List.mem_cons_of_mem _ (List.mem_append_right _ h)) (by decide +kernel))
set_option maxRecDepth 20000 in
theorem gX3_tell_X3_requirePossible : GoodIn wsX3_tell (wsV RX3 125 RX3 yX3_requirePossible wsX3_requirePossible) := goodIn_app (goodIn_of _ (by decide +kernel)) ggX3_tell_X3_requirePossible
set_option maxRecDepth 20000 in
theorem ggX3_tell_X0_isFull : GoodIn wsX3_tell wsX0_isFull := goodIn_r _ [34, 35, 116, 117, 118, 119, 120] (by decide +kernel) (by decide +kernel)
set_option maxRecDepth 20000 in
theorem gX3_tell_X0_isFull : GoodIn wsX3_tell (wsV RX3 115 RX0 yX0_isFull wsX0_isFull) := goodIn_app (goodIn_of _ (by decide +kernel)) ggX3_tell_X0_isFull
set_option maxRecDepth 20000 in
theorem ggX3_tell_X3_wouldLoseHidden : GoodIn wsX3_tell wsX3_wouldLoseHidden := goodIn_r _ [39, 40, 12, 3, 41, 42, 43, 44, 16, 45, 46, 47, 29, 48, 49, 14, 15, 17, 18, 50, 51, 52, 53, 54, 55, 56, 57, 58, 59, 60, 61, 62, 63, 64, 65, 66, 33, 67, 68, 69, 70, 71, 35, 72, 73, 74, 75, 76, 77, 78, 79, 103, 104, 105, 106, 107, 108, 109, 110, 111, 112, 113, 114, 115, 116, 117, 118, 119, 120] (by decide +kernel) (by decide +kernel)
set_option maxRecDepth 20000 in
theorem gX3_tell_X3_wouldLoseHidden : GoodIn wsX3_tell (wsV RX3 128 RX3 yX3_wouldLoseHidden wsX3_wouldLoseHidden) := goodIn_app (goodIn_of _ (by decide +kernel)) ggX3_tell_X3_wouldLoseHidden
set_option maxRecDepth 20000 in
theorem ggX3_tell_X3_addEntry : GoodIn wsX3_tell wsX3_addEntry := goodIn_r _ [83, 3, 84, 85, 86, 33, 87, 35, 88, 89, 76, 90, 77, 91, 31, 32, 34, 92, 43, 44, 16, 45, 46, 47, 29, 48, 49, 14, 15, 17, 18, 50, 51, 52, 53, 54, 55, 56, 57, 58, 59, 60, 61, 62, 63, 93, 94, 95, 8, 96, 4, 12, 97, 98, 99, 100, 101, 102, 41, 64, 65, 66, 67, 68, 69, 70, 71, 72, 73, 74, 75, 78, 79, 103, 104, 105, 106, 107, 108, 109, 110, 116, 117, 118, 119, 120, 111, 112, 113, 114, 115] (by decide +kernel) (by decide +kernel)
set_option maxRecDepth 20000 in
theorem gX3_tell_X3_addEntry : GoodIn wsX3_tell (wsV RX3 121 RX3 yX3_addEntry wsX3_addEntry) := goodIn_app (goodIn_of _ (by decide +kernel)) ggX3_tell_X3_addEntry
theorem dX3_tell_0 : decode cX3_tell 0 = .ok (.aload_n 0, 1) := by decide +kernel
theorem dX3_tell_1 : decode cX3_tell 1 = .ok (.iload_n 1, 1) := by decide +kernel
theorem dX3_tell_2 : decode cX3_tell 2 = .ok (.invokevirtual 106, 3) := by decide +kernel
theorem dX3_tell_5 : decode cX3_tell 5 = .ok (.aload_n 0, 1) := by decide +kernel
theorem dX3_tell_6 : decode cX3_tell 6 = .ok (.iload_n 2, 1) := by decide +kernel
theorem dX3_tell_7 : decode cX3_tell 7 = .ok (.invokevirtual 125, 3) := by decide +kernel
theorem dX3_tell_10 : decode cX3_tell 10 = .ok (.aload_n 0, 1) := by decide +kernel
theorem dX3_tell_11 : decode cX3_tell 11 = .ok (.getfield 21, 3) := by decide +kernel
theorem dX3_tell_14 : decode cX3_tell 14 = .ok (.invokevirtual 115, 3) := by decide +kernel
theorem dX3_tell_17 : decode cX3_tell 17 = .ok (.ifCond .ne 12, 3) := by decide +kernel
theorem dX3_tell_20 : decode cX3_tell 20 = .ok (.aload_n 0, 1) := by decide +kernel
theorem dX3_tell_21 : decode cX3_tell 21 = .ok (.iload_n 1, 1) := by decide +kernel
theorem dX3_tell_22 : decode cX3_tell 22 = .ok (.iload_n 2, 1) := by decide +kernel
theorem dX3_tell_23 : decode cX3_tell 23 = .ok (.invokevirtual 128, 3) := by decide +kernel
theorem dX3_tell_26 : decode cX3_tell 26 = .ok (.ifCond .eq 13, 3) := by decide +kernel
theorem dX3_tell_29 : decode cX3_tell 29 = .ok (.new 87, 3) := by decide +kernel
theorem dX3_tell_32 : decode cX3_tell 32 = .ok (.dup, 1) := by decide +kernel
theorem dX3_tell_33 : decode cX3_tell 33 = .ok (.ldc 131, 2) := by decide +kernel
theorem dX3_tell_35 : decode cX3_tell 35 = .ok (.invokespecial 91, 3) := by decide +kernel
theorem dX3_tell_38 : decode cX3_tell 38 = .ok (.athrow, 1) := by decide +kernel
theorem dX3_tell_39 : decode cX3_tell 39 = .ok (.aload_n 0, 1) := by decide +kernel
theorem dX3_tell_40 : decode cX3_tell 40 = .ok (.iload_n 1, 1) := by decide +kernel
theorem dX3_tell_41 : decode cX3_tell 41 = .ok (.iload_n 2, 1) := by decide +kernel
theorem dX3_tell_42 : decode cX3_tell 42 = .ok (.invokevirtual 121, 3) := by decide +kernel
theorem dX3_tell_45 : decode cX3_tell 45 = .ok (.aload_n 0, 1) := by decide +kernel
theorem dX3_tell_46 : decode cX3_tell 46 = .ok (.getfield 133, 3) := by decide +kernel
theorem dX3_tell_49 : decode cX3_tell 49 = .ok (.ireturn, 1) := by decide +kernel
set_option maxRecDepth 20000 in
theorem ggX3_takeBack_X0_dropLatest : GoodIn wsX3_takeBack wsX0_dropLatest := goodIn_r _ [10, 11, 12, 13, 14, 61, 62, 63, 64, 65, 66, 67, 68, 69, 70] (by decide +kernel) (by decide +kernel)
set_option maxRecDepth 20000 in
theorem gX3_takeBack_X0_dropLatest : GoodIn wsX3_takeBack (wsV RX3 141 RX0 yX0_dropLatest wsX0_dropLatest) := goodIn_app (goodIn_of _ (by decide +kernel)) ggX3_takeBack_X0_dropLatest
set_option maxRecDepth 20000 in
theorem ggX3_takeBack_X3_listRowsLeft : GoodIn wsX3_takeBack wsX3_listRowsLeft := goodIn_r _ [19, 5, 20, 21, 22, 23, 24, 25, 18, 26, 3, 27, 28, 29, 30, 9, 31, 32, 33, 34, 35, 11, 36, 37, 38, 39, 12, 14, 40, 41, 42, 43, 44, 45, 46, 47, 48, 49, 50, 51, 52, 53, 54, 55, 56, 57, 58, 59, 60, 66, 67, 68, 69, 70, 61, 62, 63, 64, 65] (by decide +kernel) (by decide +kernel)
set_option maxRecDepth 20000 in
theorem gX3_takeBack_X3_listRowsLeft : GoodIn wsX3_takeBack (wsV RX3 95 RX3 yX3_listRowsLeft wsX3_listRowsLeft) := goodIn_app (goodIn_of _ (by decide +kernel)) ggX3_takeBack_X3_listRowsLeft
theorem dX3_takeBack_0 : decode cX3_takeBack 0 = .ok (.aload_n 0, 1) := by decide +kernel
theorem dX3_takeBack_1 : decode cX3_takeBack 1 = .ok (.getfield 21, 3) := by decide +kernel
theorem dX3_takeBack_4 : decode cX3_takeBack 4 = .ok (.getfield 136, 3) := by decide +kernel
theorem dX3_takeBack_7 : decode cX3_takeBack 7 = .ok (.ifCond .ne 13, 3) := by decide +kernel
theorem dX3_takeBack_10 : decode cX3_takeBack 10 = .ok (.new 87, 3) := by decide +kernel
theorem dX3_takeBack_13 : decode cX3_takeBack 13 = .ok (.dup, 1) := by decide +kernel
theorem dX3_takeBack_14 : decode cX3_takeBack 14 = .ok (.ldc 139, 2) := by decide +kernel
theorem dX3_takeBack_16 : decode cX3_takeBack 16 = .ok (.invokespecial 91, 3) := by decide +kernel
theorem dX3_takeBack_19 : decode cX3_takeBack 19 = .ok (.athrow, 1) := by decide +kernel
theorem dX3_takeBack_20 : decode cX3_takeBack 20 = .ok (.aload_n 0, 1) := by decide +kernel
theorem dX3_takeBack_21 : decode cX3_takeBack 21 = .ok (.getfield 21, 3) := by decide +kernel
theorem dX3_takeBack_24 : decode cX3_takeBack 24 = .ok (.invokevirtual 141, 3) := by decide +kernel
theorem dX3_takeBack_27 : decode cX3_takeBack 27 = .ok (.aload_n 0, 1) := by decide +kernel
theorem dX3_takeBack_28 : decode cX3_takeBack 28 = .ok (.invokevirtual 95, 3) := by decide +kernel
theorem dX3_takeBack_31 : decode cX3_takeBack 31 = .ok (.aload_n 0, 1) := by decide +kernel
theorem dX3_takeBack_32 : decode cX3_takeBack 32 = .ok (.getfield 133, 3) := by decide +kernel
theorem dX3_takeBack_35 : decode cX3_takeBack 35 = .ok (.ireturn, 1) := by decide +kernel
theorem dX3_entries_0 : decode cX3_entries 0 = .ok (.aload_n 0, 1) := by decide +kernel
theorem dX3_entries_1 : decode cX3_entries 1 = .ok (.getfield 21, 3) := by decide +kernel
theorem dX3_entries_4 : decode cX3_entries 4 = .ok (.getfield 136, 3) := by decide +kernel
theorem dX3_entries_7 : decode cX3_entries 7 = .ok (.ireturn, 1) := by decide +kernel
set_option maxRecDepth 20000 in
theorem ggX3_guessOf_X3_requireEntry : GoodIn wsX3_guessOf wsX3_requireEntry := goodIn_ca (goodIn_r _ [6, 7, 8, 1, 9, 10, 11, 12, 13, 14, 21, 22, 23, 24, 25, 26, 27, 28, 29, 30, 31, 32, 33] (by decide +kernel) (by decide +kernel)) (goodIn_sub (fun _ h => List.mem_cons_of_mem _ (List.mem_append_right _ h)) (by decide +kernel))
set_option maxRecDepth 20000 in
theorem gX3_guessOf_X3_requireEntry : GoodIn wsX3_guessOf (wsV RX3 144 RX3 yX3_requireEntry wsX3_requireEntry) := goodIn_app (goodIn_of _ (by decide +kernel)) ggX3_guessOf_X3_requireEntry
set_option maxRecDepth 20000 in
theorem ggX3_guessOf_X0_guessAt : GoodIn wsX3_guessOf wsX0_guessAt := goodIn_r _ [18, 19, 20, 10, 11, 12, 13, 14, 29, 30, 31, 32, 33] (by decide +kernel) (by decide +kernel)
set_option maxRecDepth 20000 in
theorem gX3_guessOf_X0_guessAt : GoodIn wsX3_guessOf (wsV RX3 147 RX0 yX0_guessAt wsX0_guessAt) := goodIn_app (goodIn_of _ (by decide +kernel)) ggX3_guessOf_X0_guessAt
theorem dX3_guessOf_0 : decode cX3_guessOf 0 = .ok (.aload_n 0, 1) := by decide +kernel
theorem dX3_guessOf_1 : decode cX3_guessOf 1 = .ok (.iload_n 1, 1) := by decide +kernel
theorem dX3_guessOf_2 : decode cX3_guessOf 2 = .ok (.invokevirtual 144, 3) := by decide +kernel
theorem dX3_guessOf_5 : decode cX3_guessOf 5 = .ok (.aload_n 0, 1) := by decide +kernel
theorem dX3_guessOf_6 : decode cX3_guessOf 6 = .ok (.getfield 21, 3) := by decide +kernel
theorem dX3_guessOf_9 : decode cX3_guessOf 9 = .ok (.iload_n 1, 1) := by decide +kernel
theorem dX3_guessOf_10 : decode cX3_guessOf 10 = .ok (.invokevirtual 147, 3) := by decide +kernel
theorem dX3_guessOf_13 : decode cX3_guessOf 13 = .ok (.ireturn, 1) := by decide +kernel
set_option maxRecDepth 20000 in
theorem ggX3_markOf_X3_requireEntry : GoodIn wsX3_markOf wsX3_requireEntry := goodIn_ca (goodIn_r _ [6, 7, 8, 1, 9, 10, 11, 12, 13, 14, 21, 22, 23, 24, 25, 26, 27, 28, 29, 30, 31, 32, 33] (by decide +kernel) (by decide +kernel)) (goodIn_sub (fun _ h => List.mem_cons_of_mem _ (List.mem_append_right _ h)) (by decide +kernel))
set_option maxRecDepth 20000 in
theorem gX3_markOf_X3_requireEntry : GoodIn wsX3_markOf (wsV RX3 144 RX3 yX3_requireEntry wsX3_requireEntry) := goodIn_app (goodIn_of _ (by decide +kernel)) ggX3_markOf_X3_requireEntry
set_option maxRecDepth 20000 in
theorem ggX3_markOf_X0_markAt : GoodIn wsX3_markOf wsX0_markAt := goodIn_r _ [18, 19, 20, 10, 11, 12, 13, 14, 29, 30, 31, 32, 33] (by decide +kernel) (by decide +kernel)
set_option maxRecDepth 20000 in
theorem gX3_markOf_X0_markAt : GoodIn wsX3_markOf (wsV RX3 150 RX0 yX0_markAt wsX0_markAt) := goodIn_app (goodIn_of _ (by decide +kernel)) ggX3_markOf_X0_markAt
theorem dX3_markOf_0 : decode cX3_markOf 0 = .ok (.aload_n 0, 1) := by decide +kernel
theorem dX3_markOf_1 : decode cX3_markOf 1 = .ok (.iload_n 1, 1) := by decide +kernel
theorem dX3_markOf_2 : decode cX3_markOf 2 = .ok (.invokevirtual 144, 3) := by decide +kernel
theorem dX3_markOf_5 : decode cX3_markOf 5 = .ok (.aload_n 0, 1) := by decide +kernel
theorem dX3_markOf_6 : decode cX3_markOf 6 = .ok (.getfield 21, 3) := by decide +kernel
theorem dX3_markOf_9 : decode cX3_markOf 9 = .ok (.iload_n 1, 1) := by decide +kernel
theorem dX3_markOf_10 : decode cX3_markOf 10 = .ok (.invokevirtual 150, 3) := by decide +kernel
theorem dX3_markOf_13 : decode cX3_markOf 13 = .ok (.ireturn, 1) := by decide +kernel
set_option maxRecDepth 20000 in
theorem ggX3_liesAbout_X3_requireRow : GoodIn wsX3_liesAbout wsX3_requireRow := goodIn_ca (goodIn_r _ [6, 7, 8, 9, 10, 11, 12, 13, 14, 15, 40, 41, 42, 43, 44, 45, 46, 47, 48, 49, 50, 51, 52] (by decide +kernel) (by decide +kernel)) (goodIn_sub (fun _ h => List.mem_cons_of_mem _ (List.mem_append_right _ h)) (by decide +kernel))
set_option maxRecDepth 20000 in
theorem gX3_liesAbout_X3_requireRow : GoodIn wsX3_liesAbout (wsV RX3 106 RX3 yX3_requireRow wsX3_requireRow) := goodIn_app (goodIn_of _ (by decide +kernel)) ggX3_liesAbout_X3_requireRow
set_option maxRecDepth 20000 in
theorem ggX3_liesAbout_X0_countLies : GoodIn wsX3_liesAbout wsX0_countLies := goodIn_r _ [20, 21, 22, 23, 19, 24, 25, 26, 27, 28, 29, 30, 31, 32, 11, 12, 13, 14, 15, 33, 34, 35, 36, 37, 38, 39, 53, 54, 55, 56, 57, 48, 49, 50, 51, 52] (by decide +kernel) (by decide +kernel)
set_option maxRecDepth 20000 in
theorem gX3_liesAbout_X0_countLies : GoodIn wsX3_liesAbout (wsV RX3 83 RX0 yX0_countLies wsX0_countLies) := goodIn_app (goodIn_of _ (by decide +kernel)) ggX3_liesAbout_X0_countLies
theorem dX3_liesAbout_0 : decode cX3_liesAbout 0 = .ok (.aload_n 0, 1) := by decide +kernel
theorem dX3_liesAbout_1 : decode cX3_liesAbout 1 = .ok (.iload_n 1, 1) := by decide +kernel
theorem dX3_liesAbout_2 : decode cX3_liesAbout 2 = .ok (.invokevirtual 106, 3) := by decide +kernel
theorem dX3_liesAbout_5 : decode cX3_liesAbout 5 = .ok (.aload_n 0, 1) := by decide +kernel
theorem dX3_liesAbout_6 : decode cX3_liesAbout 6 = .ok (.getfield 21, 3) := by decide +kernel
theorem dX3_liesAbout_9 : decode cX3_liesAbout 9 = .ok (.iload_n 1, 1) := by decide +kernel
theorem dX3_liesAbout_10 : decode cX3_liesAbout 10 = .ok (.invokevirtual 83, 3) := by decide +kernel
theorem dX3_liesAbout_13 : decode cX3_liesAbout 13 = .ok (.ireturn, 1) := by decide +kernel
set_option maxRecDepth 20000 in
theorem ggX3_requireEntry_X0_has : GoodIn wsX3_requireEntry wsX0_has := goodIn_r _ [8, 9, 18, 19, 20, 21, 22] (by decide +kernel) (by decide +kernel)
set_option maxRecDepth 20000 in
theorem gX3_requireEntry_X0_has : GoodIn wsX3_requireEntry (wsV RX3 153 RX0 yX0_has wsX0_has) := goodIn_app (goodIn_of _ (by decide +kernel)) ggX3_requireEntry_X0_has
theorem dX3_requireEntry_0 : decode cX3_requireEntry 0 = .ok (.aload_n 0, 1) := by decide +kernel
theorem dX3_requireEntry_1 : decode cX3_requireEntry 1 = .ok (.getfield 21, 3) := by decide +kernel
theorem dX3_requireEntry_4 : decode cX3_requireEntry 4 = .ok (.iload_n 1, 1) := by decide +kernel
theorem dX3_requireEntry_5 : decode cX3_requireEntry 5 = .ok (.invokevirtual 153, 3) := by decide +kernel
theorem dX3_requireEntry_8 : decode cX3_requireEntry 8 = .ok (.ifCond .ne 13, 3) := by decide +kernel
theorem dX3_requireEntry_11 : decode cX3_requireEntry 11 = .ok (.new 64, 3) := by decide +kernel
theorem dX3_requireEntry_14 : decode cX3_requireEntry 14 = .ok (.dup, 1) := by decide +kernel
theorem dX3_requireEntry_15 : decode cX3_requireEntry 15 = .ok (.ldc 154, 2) := by decide +kernel
theorem dX3_requireEntry_17 : decode cX3_requireEntry 17 = .ok (.invokespecial 68, 3) := by decide +kernel
theorem dX3_requireEntry_20 : decode cX3_requireEntry 20 = .ok (.athrow, 1) := by decide +kernel
theorem dX3_requireEntry_21 : decode cX3_requireEntry 21 = .ok (.return_, 1) := by decide +kernel
set_option maxRecDepth 20000 in
theorem ggX3_wouldLoseHidden_X1_compare : GoodIn wsX3_wouldLoseHidden wsX1_compare := goodIn_r _ [9, 10, 11, 12, 13, 14, 15, 16, 8, 17, 18, 19, 20, 21, 22, 23, 24, 25, 26, 27, 28, 29, 30, 31, 32, 59, 60, 61, 62, 63] (by decide +kernel) (by decide +kernel)
set_option maxRecDepth 20000 in
theorem gX3_wouldLoseHidden_X1_compare : GoodIn wsX3_wouldLoseHidden (wsV RX3 75 RX1 yX1_compare wsX1_compare) := goodIn_app (goodIn_of _ (by decide +kernel)) ggX3_wouldLoseHidden_X1_compare
set_option maxRecDepth 20000 in
theorem ggX3_wouldLoseHidden_X0_countLies : GoodIn wsX3_wouldLoseHidden wsX0_countLies := goodIn_r _ [37, 38, 39, 40, 36, 41, 42, 43, 44, 45, 46, 47, 48, 49, 15, 16, 8, 17, 18, 50, 20, 21, 22, 23, 24, 25, 64, 65, 66, 67, 68, 59, 60, 61, 62, 63] (by decide +kernel) (by decide +kernel)
set_option maxRecDepth 20000 in
theorem gX3_wouldLoseHidden_X0_countLies : GoodIn wsX3_wouldLoseHidden (wsV RX3 83 RX0 yX0_countLies wsX0_countLies) := goodIn_app (goodIn_of _ (by decide +kernel)) ggX3_wouldLoseHidden_X0_countLies
theorem dX3_wouldLoseHidden_0 : decode cX3_wouldLoseHidden 0 = .ok (.aload_n 0, 1) := by decide +kernel
theorem dX3_wouldLoseHidden_1 : decode cX3_wouldLoseHidden 1 = .ok (.getfield 80, 3) := by decide +kernel
theorem dX3_wouldLoseHidden_4 : decode cX3_wouldLoseHidden 4 = .ok (.iconst (-1), 1) := by decide +kernel
theorem dX3_wouldLoseHidden_5 : decode cX3_wouldLoseHidden 5 = .ok (.if_icmp .eq 41, 3) := by decide +kernel
theorem dX3_wouldLoseHidden_8 : decode cX3_wouldLoseHidden 8 = .ok (.aload_n 0, 1) := by decide +kernel
theorem dX3_wouldLoseHidden_9 : decode cX3_wouldLoseHidden 9 = .ok (.getfield 12, 3) := by decide +kernel
theorem dX3_wouldLoseHidden_12 : decode cX3_wouldLoseHidden 12 = .ok (.iload_n 1, 1) := by decide +kernel
theorem dX3_wouldLoseHidden_13 : decode cX3_wouldLoseHidden 13 = .ok (.aload_n 0, 1) := by decide +kernel
theorem dX3_wouldLoseHidden_14 : decode cX3_wouldLoseHidden 14 = .ok (.getfield 80, 3) := by decide +kernel
theorem dX3_wouldLoseHidden_17 : decode cX3_wouldLoseHidden 17 = .ok (.invokevirtual 75, 3) := by decide +kernel
theorem dX3_wouldLoseHidden_20 : decode cX3_wouldLoseHidden 20 = .ok (.iload_n 2, 1) := by decide +kernel
theorem dX3_wouldLoseHidden_21 : decode cX3_wouldLoseHidden 21 = .ok (.if_icmp .eq 25, 3) := by decide +kernel
theorem dX3_wouldLoseHidden_24 : decode cX3_wouldLoseHidden 24 = .ok (.aload_n 0, 1) := by decide +kernel
theorem dX3_wouldLoseHidden_25 : decode cX3_wouldLoseHidden 25 = .ok (.getfield 21, 3) := by decide +kernel
theorem dX3_wouldLoseHidden_28 : decode cX3_wouldLoseHidden 28 = .ok (.aload_n 0, 1) := by decide +kernel
theorem dX3_wouldLoseHidden_29 : decode cX3_wouldLoseHidden 29 = .ok (.getfield 80, 3) := by decide +kernel
theorem dX3_wouldLoseHidden_32 : decode cX3_wouldLoseHidden 32 = .ok (.invokevirtual 83, 3) := by decide +kernel
theorem dX3_wouldLoseHidden_35 : decode cX3_wouldLoseHidden 35 = .ok (.aload_n 0, 1) := by decide +kernel
theorem dX3_wouldLoseHidden_36 : decode cX3_wouldLoseHidden 36 = .ok (.getfield 92, 3) := by decide +kernel
theorem dX3_wouldLoseHidden_39 : decode cX3_wouldLoseHidden 39 = .ok (.if_icmp .lt 7, 3) := by decide +kernel
theorem dX3_wouldLoseHidden_42 : decode cX3_wouldLoseHidden 42 = .ok (.iconst 1, 1) := by decide +kernel
theorem dX3_wouldLoseHidden_43 : decode cX3_wouldLoseHidden 43 = .ok (.goto 4, 3) := by decide +kernel
theorem dX3_wouldLoseHidden_46 : decode cX3_wouldLoseHidden 46 = .ok (.iconst 0, 1) := by decide +kernel
theorem dX3_wouldLoseHidden_47 : decode cX3_wouldLoseHidden 47 = .ok (.ireturn, 1) := by decide +kernel
set_option maxRecDepth 20000 in
theorem ggX3_addEntry_X0_add : GoodIn wsX3_addEntry wsX0_add := goodIn_r _ [6, 7, 8, 9, 10, 11, 12, 13, 14, 15, 5, 16, 17, 18, 19, 20, 21, 22, 23, 24, 25, 26, 27, 28, 29, 30, 31, 32, 33, 34, 35, 36, 37, 38, 39, 40, 41, 42, 43, 44, 81, 82, 83, 84, 85, 86, 87, 88, 89, 90] (by decide +kernel) (by decide +kernel)
set_option maxRecDepth 20000 in
theorem gX3_addEntry_X0_add : GoodIn wsX3_addEntry (wsV RX3 156 RX0 yX0_add wsX0_add) := goodIn_app (goodIn_of _ (by decide +kernel)) ggX3_addEntry_X0_add
set_option maxRecDepth 20000 in
theorem ggX3_addEntry_X3_listRowsLeft : GoodIn wsX3_addEntry wsX3_listRowsLeft := goodIn_r _ [49, 50, 51, 52, 53, 54, 55, 56, 48, 57, 1, 58, 59, 60, 61, 5, 62, 63, 64, 65, 66, 7, 67, 68, 69, 70, 10, 12, 71, 27, 28, 20, 29, 30, 72, 32, 33, 34, 35, 36, 37, 73, 74, 75, 76, 77, 78, 79, 80, 86, 87, 88, 89, 90, 81, 82, 83, 84, 85] (by decide +kernel) (by decide +kernel)
set_option maxRecDepth 20000 in
theorem gX3_addEntry_X3_listRowsLeft : GoodIn wsX3_addEntry (wsV RX3 95 RX3 yX3_listRowsLeft wsX3_listRowsLeft) := goodIn_app (goodIn_of _ (by decide +kernel)) ggX3_addEntry_X3_listRowsLeft
theorem dX3_addEntry_0 : decode cX3_addEntry 0 = .ok (.aload_n 0, 1) := by decide +kernel
theorem dX3_addEntry_1 : decode cX3_addEntry 1 = .ok (.getfield 21, 3) := by decide +kernel
theorem dX3_addEntry_4 : decode cX3_addEntry 4 = .ok (.iload_n 1, 1) := by decide +kernel
theorem dX3_addEntry_5 : decode cX3_addEntry 5 = .ok (.iload_n 2, 1) := by decide +kernel
theorem dX3_addEntry_6 : decode cX3_addEntry 6 = .ok (.invokevirtual 156, 3) := by decide +kernel
theorem dX3_addEntry_9 : decode cX3_addEntry 9 = .ok (.aload_n 0, 1) := by decide +kernel
theorem dX3_addEntry_10 : decode cX3_addEntry 10 = .ok (.invokevirtual 95, 3) := by decide +kernel
theorem dX3_addEntry_13 : decode cX3_addEntry 13 = .ok (.return_, 1) := by decide +kernel
theorem dX3_left_0 : decode cX3_left 0 = .ok (.aload_n 0, 1) := by decide +kernel
theorem dX3_left_1 : decode cX3_left 1 = .ok (.getfield 133, 3) := by decide +kernel
theorem dX3_left_4 : decode cX3_left 4 = .ok (.ireturn, 1) := by decide +kernel
set_option maxRecDepth 20000 in
theorem ggX3_leftByAll_X0_countLiesAnew : GoodIn wsX3_leftByAll wsX0_countLiesAnew := goodIn_r _ [9, 10, 11, 12, 13, 14, 15, 16, 17, 18, 19, 20, 21, 22, 23, 24, 25, 26, 27, 28, 29, 30, 31, 32, 33, 34, 35, 36, 37, 38, 39, 40, 41, 55, 56, 57, 58, 59, 50, 51, 52, 53, 54] (by decide +kernel) (by decide +kernel)
set_option maxRecDepth 20000 in
theorem gX3_leftByAll_X0_countLiesAnew : GoodIn wsX3_leftByAll (wsV RX3 159 RX0 yX0_countLiesAnew wsX0_countLiesAnew) := goodIn_app (goodIn_of _ (by decide +kernel)) ggX3_leftByAll_X0_countLiesAnew
theorem dX3_leftByAll_0 : decode cX3_leftByAll 0 = .ok (.iconst 0, 1) := by decide +kernel
theorem dX3_leftByAll_1 : decode cX3_leftByAll 1 = .ok (.istore_n 1, 1) := by decide +kernel
theorem dX3_leftByAll_2 : decode cX3_leftByAll 2 = .ok (.iconst 0, 1) := by decide +kernel
theorem dX3_leftByAll_3 : decode cX3_leftByAll 3 = .ok (.istore_n 2, 1) := by decide +kernel
theorem dX3_leftByAll_4 : decode cX3_leftByAll 4 = .ok (.iload_n 2, 1) := by decide +kernel
theorem dX3_leftByAll_5 : decode cX3_leftByAll 5 = .ok (.aload_n 0, 1) := by decide +kernel
theorem dX3_leftByAll_6 : decode cX3_leftByAll 6 = .ok (.getfield 12, 3) := by decide +kernel
theorem dX3_leftByAll_9 : decode cX3_leftByAll 9 = .ok (.getfield 53, 3) := by decide +kernel
theorem dX3_leftByAll_12 : decode cX3_leftByAll 12 = .ok (.if_icmp .ge 27, 3) := by decide +kernel
theorem dX3_leftByAll_15 : decode cX3_leftByAll 15 = .ok (.aload_n 0, 1) := by decide +kernel
theorem dX3_leftByAll_16 : decode cX3_leftByAll 16 = .ok (.getfield 21, 3) := by decide +kernel
theorem dX3_leftByAll_19 : decode cX3_leftByAll 19 = .ok (.iload_n 2, 1) := by decide +kernel
theorem dX3_leftByAll_20 : decode cX3_leftByAll 20 = .ok (.invokevirtual 159, 3) := by decide +kernel
theorem dX3_leftByAll_23 : decode cX3_leftByAll 23 = .ok (.aload_n 0, 1) := by decide +kernel
theorem dX3_leftByAll_24 : decode cX3_leftByAll 24 = .ok (.getfield 92, 3) := by decide +kernel
theorem dX3_leftByAll_27 : decode cX3_leftByAll 27 = .ok (.if_icmp .gt 6, 3) := by decide +kernel
theorem dX3_leftByAll_30 : decode cX3_leftByAll 30 = .ok (.iinc 1 1, 3) := by decide +kernel
theorem dX3_leftByAll_33 : decode cX3_leftByAll 33 = .ok (.iinc 2 1, 3) := by decide +kernel
theorem dX3_leftByAll_36 : decode cX3_leftByAll 36 = .ok (.goto (-32), 3) := by decide +kernel
theorem dX3_leftByAll_39 : decode cX3_leftByAll 39 = .ok (.iload_n 1, 1) := by decide +kernel
theorem dX3_leftByAll_40 : decode cX3_leftByAll 40 = .ok (.ireturn, 1) := by decide +kernel
set_option maxRecDepth 20000 in
theorem ggX3_isLeft_X3_requireRow : GoodIn wsX3_isLeft wsX3_requireRow := goodIn_ca (goodIn_r _ [5, 6, 7, 8, 9, 10, 11, 12, 13, 14, 45, 46, 47, 48, 49, 50, 51, 52, 53, 54, 55, 56, 57] (by decide +kernel) (by decide +kernel)) (goodIn_sub (fun _ h => List.mem_cons_of_mem _ (List.mem_append_right _ h)) (by decide +kernel))
set_option maxRecDepth 20000 in
theorem gX3_isLeft_X3_requireRow : GoodIn wsX3_isLeft (wsV RX3 106 RX3 yX3_requireRow wsX3_requireRow) := goodIn_app (goodIn_of _ (by decide +kernel)) ggX3_isLeft_X3_requireRow
set_option maxRecDepth 20000 in
theorem ggX3_isLeft_X3_remains : GoodIn wsX3_isLeft wsX3_remains := goodIn_r _ [18, 19, 20, 21, 22, 23, 24, 25, 26, 27, 28, 29, 30, 31, 32, 33, 34, 35, 36, 37, 10, 11, 12, 13, 14, 38, 39, 40, 41, 42, 43, 44, 45, 46, 47, 48, 49, 50, 51, 52, 58, 59, 60, 61, 62, 53, 54, 55, 56, 57] (by decide +kernel) (by decide +kernel)
set_option maxRecDepth 20000 in
theorem gX3_isLeft_X3_remains : GoodIn wsX3_isLeft (wsV RX3 110 RX3 yX3_remains wsX3_remains) := goodIn_app (goodIn_of _ (by decide +kernel)) ggX3_isLeft_X3_remains
theorem dX3_isLeft_0 : decode cX3_isLeft 0 = .ok (.aload_n 0, 1) := by decide +kernel
theorem dX3_isLeft_1 : decode cX3_isLeft 1 = .ok (.iload_n 1, 1) := by decide +kernel
theorem dX3_isLeft_2 : decode cX3_isLeft 2 = .ok (.invokevirtual 106, 3) := by decide +kernel
theorem dX3_isLeft_5 : decode cX3_isLeft 5 = .ok (.aload_n 0, 1) := by decide +kernel
theorem dX3_isLeft_6 : decode cX3_isLeft 6 = .ok (.iload_n 1, 1) := by decide +kernel
theorem dX3_isLeft_7 : decode cX3_isLeft 7 = .ok (.invokevirtual 110, 3) := by decide +kernel
theorem dX3_isLeft_10 : decode cX3_isLeft 10 = .ok (.ireturn, 1) := by decide +kernel
theorem dX3_leftAt_0 : decode cX3_leftAt 0 = .ok (.iload_n 1, 1) := by decide +kernel
theorem dX3_leftAt_1 : decode cX3_leftAt 1 = .ok (.ifCond .lt 20, 3) := by decide +kernel
theorem dX3_leftAt_4 : decode cX3_leftAt 4 = .ok (.iload_n 1, 1) := by decide +kernel
theorem dX3_leftAt_5 : decode cX3_leftAt 5 = .ok (.aload_n 0, 1) := by decide +kernel
theorem dX3_leftAt_6 : decode cX3_leftAt 6 = .ok (.getfield 133, 3) := by decide +kernel
theorem dX3_leftAt_9 : decode cX3_leftAt 9 = .ok (.if_icmp .ge 12, 3) := by decide +kernel
theorem dX3_leftAt_12 : decode cX3_leftAt 12 = .ok (.iload_n 1, 1) := by decide +kernel
theorem dX3_leftAt_13 : decode cX3_leftAt 13 = .ok (.aload_n 0, 1) := by decide +kernel
theorem dX3_leftAt_14 : decode cX3_leftAt 14 = .ok (.getfield 32, 3) := by decide +kernel
theorem dX3_leftAt_17 : decode cX3_leftAt 17 = .ok (.arraylength, 1) := by decide +kernel
theorem dX3_leftAt_18 : decode cX3_leftAt 18 = .ok (.if_icmp .lt 13, 3) := by decide +kernel
theorem dX3_leftAt_21 : decode cX3_leftAt 21 = .ok (.new 64, 3) := by decide +kernel
theorem dX3_leftAt_24 : decode cX3_leftAt 24 = .ok (.dup, 1) := by decide +kernel
theorem dX3_leftAt_25 : decode cX3_leftAt 25 = .ok (.ldc 162, 2) := by decide +kernel
theorem dX3_leftAt_27 : decode cX3_leftAt 27 = .ok (.invokespecial 68, 3) := by decide +kernel
theorem dX3_leftAt_30 : decode cX3_leftAt 30 = .ok (.athrow, 1) := by decide +kernel
theorem dX3_leftAt_31 : decode cX3_leftAt 31 = .ok (.aload_n 0, 1) := by decide +kernel
theorem dX3_leftAt_32 : decode cX3_leftAt 32 = .ok (.getfield 32, 3) := by decide +kernel
theorem dX3_leftAt_35 : decode cX3_leftAt 35 = .ok (.iload_n 1, 1) := by decide +kernel
theorem dX3_leftAt_36 : decode cX3_leftAt 36 = .ok (.iaload, 1) := by decide +kernel
theorem dX3_leftAt_37 : decode cX3_leftAt 37 = .ok (.ireturn, 1) := by decide +kernel
set_option maxRecDepth 20000 in
theorem ggX3_remains_X0_countLies : GoodIn wsX3_remains wsX0_countLies := goodIn_r _ [7, 8, 9, 10, 6, 11, 12, 13, 14, 15, 16, 17, 18, 19, 20, 21, 22, 23, 24, 25, 26, 27, 28, 29, 30, 31, 40, 41, 42, 43, 44, 45, 46, 47, 48, 49] (by decide +kernel) (by decide +kernel)
set_option maxRecDepth 20000 in
theorem gX3_remains_X0_countLies : GoodIn wsX3_remains (wsV RX3 83 RX0 yX0_countLies wsX0_countLies) := goodIn_app (goodIn_of _ (by decide +kernel)) ggX3_remains_X0_countLies
theorem dX3_remains_0 : decode cX3_remains 0 = .ok (.aload_n 0, 1) := by decide +kernel
theorem dX3_remains_1 : decode cX3_remains 1 = .ok (.getfield 21, 3) := by decide +kernel
theorem dX3_remains_4 : decode cX3_remains 4 = .ok (.iload_n 1, 1) := by decide +kernel
theorem dX3_remains_5 : decode cX3_remains 5 = .ok (.invokevirtual 83, 3) := by decide +kernel
theorem dX3_remains_8 : decode cX3_remains 8 = .ok (.aload_n 0, 1) := by decide +kernel
theorem dX3_remains_9 : decode cX3_remains 9 = .ok (.getfield 92, 3) := by decide +kernel
theorem dX3_remains_12 : decode cX3_remains 12 = .ok (.if_icmp .gt 7, 3) := by decide +kernel
theorem dX3_remains_15 : decode cX3_remains 15 = .ok (.iconst 1, 1) := by decide +kernel
theorem dX3_remains_16 : decode cX3_remains 16 = .ok (.goto 4, 3) := by decide +kernel
theorem dX3_remains_19 : decode cX3_remains 19 = .ok (.iconst 0, 1) := by decide +kernel
theorem dX3_remains_20 : decode cX3_remains 20 = .ok (.ireturn, 1) := by decide +kernel
set_option maxRecDepth 20000 in
theorem ggX3_listRowsLeft_X3_remains : GoodIn wsX3_listRowsLeft wsX3_remains := goodIn_r _ [9, 10, 11, 12, 13, 14, 15, 16, 17, 18, 19, 20, 21, 22, 23, 24, 25, 26, 27, 28, 29, 30, 31, 32, 33, 34, 35, 36, 37, 38, 39, 40, 41, 42, 43, 44, 45, 46, 47, 48, 54, 55, 56, 57, 58, 49, 50, 51, 52, 53] (by decide +kernel) (by decide +kernel)
set_option maxRecDepth 20000 in
theorem gX3_listRowsLeft_X3_remains : GoodIn wsX3_listRowsLeft (wsV RX3 110 RX3 yX3_remains wsX3_remains) := goodIn_app (goodIn_of _ (by decide +kernel)) ggX3_listRowsLeft_X3_remains
theorem dX3_listRowsLeft_0 : decode cX3_listRowsLeft 0 = .ok (.aload_n 0, 1) := by decide +kernel
theorem dX3_listRowsLeft_1 : decode cX3_listRowsLeft 1 = .ok (.iconst 0, 1) := by decide +kernel
theorem dX3_listRowsLeft_2 : decode cX3_listRowsLeft 2 = .ok (.putfield 133, 3) := by decide +kernel
theorem dX3_listRowsLeft_5 : decode cX3_listRowsLeft 5 = .ok (.iconst 0, 1) := by decide +kernel
theorem dX3_listRowsLeft_6 : decode cX3_listRowsLeft 6 = .ok (.istore_n 1, 1) := by decide +kernel
theorem dX3_listRowsLeft_7 : decode cX3_listRowsLeft 7 = .ok (.iload_n 1, 1) := by decide +kernel
theorem dX3_listRowsLeft_8 : decode cX3_listRowsLeft 8 = .ok (.aload_n 0, 1) := by decide +kernel
theorem dX3_listRowsLeft_9 : decode cX3_listRowsLeft 9 = .ok (.getfield 12, 3) := by decide +kernel
theorem dX3_listRowsLeft_12 : decode cX3_listRowsLeft 12 = .ok (.getfield 53, 3) := by decide +kernel
theorem dX3_listRowsLeft_15 : decode cX3_listRowsLeft 15 = .ok (.if_icmp .ge 49, 3) := by decide +kernel
theorem dX3_listRowsLeft_18 : decode cX3_listRowsLeft 18 = .ok (.aload_n 0, 1) := by decide +kernel
theorem dX3_listRowsLeft_19 : decode cX3_listRowsLeft 19 = .ok (.iload_n 1, 1) := by decide +kernel
theorem dX3_listRowsLeft_20 : decode cX3_listRowsLeft 20 = .ok (.invokevirtual 110, 3) := by decide +kernel
theorem dX3_listRowsLeft_23 : decode cX3_listRowsLeft 23 = .ok (.ifCond .eq 35, 3) := by decide +kernel
theorem dX3_listRowsLeft_26 : decode cX3_listRowsLeft 26 = .ok (.aload_n 0, 1) := by decide +kernel
theorem dX3_listRowsLeft_27 : decode cX3_listRowsLeft 27 = .ok (.getfield 133, 3) := by decide +kernel
theorem dX3_listRowsLeft_30 : decode cX3_listRowsLeft 30 = .ok (.aload_n 0, 1) := by decide +kernel
theorem dX3_listRowsLeft_31 : decode cX3_listRowsLeft 31 = .ok (.getfield 32, 3) := by decide +kernel
theorem dX3_listRowsLeft_34 : decode cX3_listRowsLeft 34 = .ok (.arraylength, 1) := by decide +kernel
theorem dX3_listRowsLeft_35 : decode cX3_listRowsLeft 35 = .ok (.if_icmp .ge 23, 3) := by decide +kernel
theorem dX3_listRowsLeft_38 : decode cX3_listRowsLeft 38 = .ok (.aload_n 0, 1) := by decide +kernel
theorem dX3_listRowsLeft_39 : decode cX3_listRowsLeft 39 = .ok (.getfield 32, 3) := by decide +kernel
theorem dX3_listRowsLeft_42 : decode cX3_listRowsLeft 42 = .ok (.aload_n 0, 1) := by decide +kernel
theorem dX3_listRowsLeft_43 : decode cX3_listRowsLeft 43 = .ok (.getfield 133, 3) := by decide +kernel
theorem dX3_listRowsLeft_46 : decode cX3_listRowsLeft 46 = .ok (.iload_n 1, 1) := by decide +kernel
theorem dX3_listRowsLeft_47 : decode cX3_listRowsLeft 47 = .ok (.iastore, 1) := by decide +kernel
theorem dX3_listRowsLeft_48 : decode cX3_listRowsLeft 48 = .ok (.aload_n 0, 1) := by decide +kernel
theorem dX3_listRowsLeft_49 : decode cX3_listRowsLeft 49 = .ok (.dup, 1) := by decide +kernel
theorem dX3_listRowsLeft_50 : decode cX3_listRowsLeft 50 = .ok (.getfield 133, 3) := by decide +kernel
theorem dX3_listRowsLeft_53 : decode cX3_listRowsLeft 53 = .ok (.iconst 1, 1) := by decide +kernel
theorem dX3_listRowsLeft_54 : decode cX3_listRowsLeft 54 = .ok (.iadd, 1) := by decide +kernel
theorem dX3_listRowsLeft_55 : decode cX3_listRowsLeft 55 = .ok (.putfield 133, 3) := by decide +kernel
theorem dX3_listRowsLeft_58 : decode cX3_listRowsLeft 58 = .ok (.iinc 1 1, 3) := by decide +kernel
theorem dX3_listRowsLeft_61 : decode cX3_listRowsLeft 61 = .ok (.goto (-54), 3) := by decide +kernel
theorem dX3_listRowsLeft_64 : decode cX3_listRowsLeft 64 = .ok (.return_, 1) := by decide +kernel
set_option maxRecDepth 20000 in
theorem ggX3_parts_X3_requireRow : GoodIn wsX3_parts wsX3_requireRow := goodIn_ca (goodIn_r _ [7, 8, 9, 10, 11, 12, 13, 14, 15, 16, 72, 73, 74, 75, 76, 77, 78, 79, 85, 86, 87, 88, 89] (by decide +kernel) (by decide +kernel)) (goodIn_sub (fun _ h => List.mem_cons_of_mem _ (List.mem_append_right _ h)) (by decide +kernel))
set_option maxRecDepth 20000 in
theorem gX3_parts_X3_requireRow : GoodIn wsX3_parts (wsV RX3 106 RX3 yX3_requireRow wsX3_requireRow) := goodIn_app (goodIn_of _ (by decide +kernel)) ggX3_parts_X3_requireRow
set_option maxRecDepth 20000 in
theorem ggX3_parts_X3_partLeft : GoodIn wsX3_parts wsX3_partLeft := goodIn_r _ [20, 21, 22, 23, 24, 25, 6, 26, 1, 10, 27, 28, 29, 30, 31, 32, 33, 34, 35, 36, 37, 38, 39, 40, 41, 42, 14, 43, 44, 45, 46, 47, 48, 12, 13, 15, 16, 49, 50, 51, 52, 53, 54, 55, 56, 57, 58, 59, 60, 61, 62, 63, 64, 65, 66, 67, 68, 69, 70, 71, 72, 73, 74, 75, 76, 77, 78, 79, 80, 81, 82, 83, 84, 85, 86, 87, 88, 89] (by decide +kernel) (by decide +kernel)
set_option maxRecDepth 20000 in
theorem gX3_parts_X3_partLeft : GoodIn wsX3_parts (wsV RX3 164 RX3 yX3_partLeft wsX3_partLeft) := goodIn_app (goodIn_of _ (by decide +kernel)) ggX3_parts_X3_partLeft
theorem dX3_parts_0 : decode cX3_parts 0 = .ok (.aload_n 0, 1) := by decide +kernel
theorem dX3_parts_1 : decode cX3_parts 1 = .ok (.iload_n 1, 1) := by decide +kernel
theorem dX3_parts_2 : decode cX3_parts 2 = .ok (.invokevirtual 106, 3) := by decide +kernel
theorem dX3_parts_5 : decode cX3_parts 5 = .ok (.aload_n 0, 1) := by decide +kernel
theorem dX3_parts_6 : decode cX3_parts 6 = .ok (.iload_n 1, 1) := by decide +kernel
theorem dX3_parts_7 : decode cX3_parts 7 = .ok (.invokevirtual 164, 3) := by decide +kernel
theorem dX3_parts_10 : decode cX3_parts 10 = .ok (.aload_n 0, 1) := by decide +kernel
theorem dX3_parts_11 : decode cX3_parts 11 = .ok (.getfield 28, 3) := by decide +kernel
theorem dX3_parts_14 : decode cX3_parts 14 = .ok (.getfield 167, 3) := by decide +kernel
theorem dX3_parts_17 : decode cX3_parts 17 = .ok (.ireturn, 1) := by decide +kernel
set_option maxRecDepth 20000 in
theorem ggX3_partMark_X3_requireRow : GoodIn wsX3_partMark wsX3_requireRow := goodIn_ca (goodIn_r _ [8, 1, 2, 9, 10, 11, 12, 13, 14, 15, 80, 81, 82, 83, 84, 85, 86, 87, 88, 89, 90, 91, 92] (by decide +kernel) (by decide +kernel)) (goodIn_sub (fun _ h => List.mem_cons_of_mem _ (List.mem_append_right _ h)) (by decide +kernel))
set_option maxRecDepth 20000 in
theorem gX3_partMark_X3_requireRow : GoodIn wsX3_partMark (wsV RX3 106 RX3 yX3_requireRow wsX3_requireRow) := goodIn_app (goodIn_of _ (by decide +kernel)) ggX3_partMark_X3_requireRow
set_option maxRecDepth 20000 in
theorem ggX3_partMark_X3_partLeft : GoodIn wsX3_partMark wsX3_partLeft := goodIn_r _ [19, 20, 21, 22, 23, 24, 7, 25, 3, 9, 26, 27, 28, 29, 30, 31, 32, 33, 34, 35, 36, 37, 38, 39, 40, 41, 13, 42, 43, 44, 45, 46, 47, 11, 12, 14, 15, 48, 49, 50, 51, 52, 53, 54, 55, 56, 57, 58, 59, 60, 61, 62, 63, 64, 65, 66, 67, 68, 69, 70, 80, 81, 82, 83, 84, 85, 86, 87, 93, 94, 95, 96, 97, 88, 89, 90, 91, 92] (by decide +kernel) (by decide +kernel)
set_option maxRecDepth 20000 in
theorem gX3_partMark_X3_partLeft : GoodIn wsX3_partMark (wsV RX3 164 RX3 yX3_partLeft wsX3_partLeft) := goodIn_app (goodIn_of _ (by decide +kernel)) ggX3_partMark_X3_partLeft
set_option maxRecDepth 20000 in
theorem ggX3_partMark_X2_has : GoodIn wsX3_partMark wsX2_has := goodIn_r _ [74, 31, 66, 93, 94, 95, 96, 97] (by decide +kernel) (by decide +kernel)
set_option maxRecDepth 20000 in
theorem gX3_partMark_X2_has : GoodIn wsX3_partMark (wsV RX3 168 RX2 yX2_has wsX2_has) := goodIn_app (goodIn_of _ (by decide +kernel)) ggX3_partMark_X2_has
set_option maxRecDepth 20000 in
theorem ggX3_partMark_X2_markAt : GoodIn wsX3_partMark wsX2_markAt := goodIn_r _ [78, 66, 79, 72, 73, 29, 74, 31, 93, 94, 95, 96, 97] (by decide +kernel) (by decide +kernel)
set_option maxRecDepth 20000 in
theorem gX3_partMark_X2_markAt : GoodIn wsX3_partMark (wsV RX3 171 RX2 yX2_markAt wsX2_markAt) := goodIn_app (goodIn_of _ (by decide +kernel)) ggX3_partMark_X2_markAt
theorem dX3_partMark_0 : decode cX3_partMark 0 = .ok (.aload_n 0, 1) := by decide +kernel
theorem dX3_partMark_1 : decode cX3_partMark 1 = .ok (.iload_n 1, 1) := by decide +kernel
theorem dX3_partMark_2 : decode cX3_partMark 2 = .ok (.invokevirtual 106, 3) := by decide +kernel
theorem dX3_partMark_5 : decode cX3_partMark 5 = .ok (.aload_n 0, 1) := by decide +kernel
theorem dX3_partMark_6 : decode cX3_partMark 6 = .ok (.iload_n 1, 1) := by decide +kernel
theorem dX3_partMark_7 : decode cX3_partMark 7 = .ok (.invokevirtual 164, 3) := by decide +kernel
theorem dX3_partMark_10 : decode cX3_partMark 10 = .ok (.aload_n 0, 1) := by decide +kernel
theorem dX3_partMark_11 : decode cX3_partMark 11 = .ok (.getfield 28, 3) := by decide +kernel
theorem dX3_partMark_14 : decode cX3_partMark 14 = .ok (.iload_n 2, 1) := by decide +kernel
theorem dX3_partMark_15 : decode cX3_partMark 15 = .ok (.invokevirtual 168, 3) := by decide +kernel
theorem dX3_partMark_18 : decode cX3_partMark 18 = .ok (.ifCond .ne 13, 3) := by decide +kernel
theorem dX3_partMark_21 : decode cX3_partMark 21 = .ok (.new 64, 3) := by decide +kernel
theorem dX3_partMark_24 : decode cX3_partMark 24 = .ok (.dup, 1) := by decide +kernel
theorem dX3_partMark_25 : decode cX3_partMark 25 = .ok (.ldc 169, 2) := by decide +kernel
theorem dX3_partMark_27 : decode cX3_partMark 27 = .ok (.invokespecial 68, 3) := by decide +kernel
theorem dX3_partMark_30 : decode cX3_partMark 30 = .ok (.athrow, 1) := by decide +kernel
theorem dX3_partMark_31 : decode cX3_partMark 31 = .ok (.aload_n 0, 1) := by decide +kernel
theorem dX3_partMark_32 : decode cX3_partMark 32 = .ok (.getfield 28, 3) := by decide +kernel
theorem dX3_partMark_35 : decode cX3_partMark 35 = .ok (.iload_n 2, 1) := by decide +kernel
theorem dX3_partMark_36 : decode cX3_partMark 36 = .ok (.invokevirtual 171, 3) := by decide +kernel
theorem dX3_partMark_39 : decode cX3_partMark 39 = .ok (.ireturn, 1) := by decide +kernel
set_option maxRecDepth 20000 in
theorem ggX3_partSize_X3_requireRow : GoodIn wsX3_partSize wsX3_requireRow := goodIn_ca (goodIn_r _ [6, 7, 8, 9, 10, 11, 12, 13, 14, 15, 85, 86, 87, 88, 89, 90, 91, 92, 93, 94, 95, 96, 97] (by decide +kernel) (by decide +kernel)) (goodIn_sub (fun _ h => List.mem_cons_of_mem _ (List.mem_append_left _ (List.mem_append_right _ h))) (by decide +kernel))
set_option maxRecDepth 20000 in
theorem gX3_partSize_X3_requireRow : GoodIn wsX3_partSize (wsV RX3 106 RX3 yX3_requireRow wsX3_requireRow) := goodIn_app (goodIn_of _ (by decide +kernel)) ggX3_partSize_X3_requireRow
set_option maxRecDepth 20000 in
theorem ggX3_partSize_X3_requirePossible : GoodIn wsX3_partSize wsX3_requirePossible := goodIn_ca (goodIn_r _ [19, 20, 21, 9, 22, 23, 24, 13, 25, 26, 85, 86, 87, 88, 89, 90, 91, 92, 93, 94, 95, 96, 97] (by decide +kernel) (by decide +kernel)) (goodIn_sub (fun _ h => List.mem_cons_of_mem _ (List.mem_append_right _ h)) (by decide +kernel))
set_option maxRecDepth 20000 in
theorem gX3_partSize_X3_requirePossible : GoodIn wsX3_partSize (wsV RX3 125 RX3 yX3_requirePossible wsX3_requirePossible) := goodIn_app (goodIn_of _ (by decide +kernel)) ggX3_partSize_X3_requirePossible
set_option maxRecDepth 20000 in
theorem ggX3_partSize_X3_partLeft : GoodIn wsX3_partSize wsX3_partLeft := goodIn_r _ [30, 31, 32, 33, 34, 35, 5, 36, 1, 9, 37, 38, 39, 40, 41, 42, 43, 44, 45, 46, 47, 48, 49, 50, 51, 52, 13, 53, 54, 55, 26, 56, 57, 11, 12, 14, 15, 58, 59, 60, 61, 62, 63, 64, 65, 66, 67, 68, 69, 70, 71, 72, 73, 74, 75, 76, 77, 78, 79, 80, 85, 86, 87, 88, 89, 90, 91, 92, 98, 99, 100, 101, 102, 93, 94, 95, 96, 97] (by decide +kernel) (by decide +kernel)
set_option maxRecDepth 20000 in
theorem gX3_partSize_X3_partLeft : GoodIn wsX3_partSize (wsV RX3 164 RX3 yX3_partLeft wsX3_partLeft) := goodIn_app (goodIn_of _ (by decide +kernel)) ggX3_partSize_X3_partLeft
set_option maxRecDepth 20000 in
theorem ggX3_partSize_X2_sizeWith : GoodIn wsX3_partSize wsX2_sizeWith := goodIn_r _ [84, 45, 98, 99, 100, 101, 102] (by decide +kernel) (by decide +kernel)
set_option maxRecDepth 20000 in
theorem gX3_partSize_X2_sizeWith : GoodIn wsX3_partSize (wsV RX3 172 RX2 yX2_sizeWith wsX2_sizeWith) := goodIn_app (goodIn_of _ (by decide +kernel)) ggX3_partSize_X2_sizeWith
theorem dX3_partSize_0 : decode cX3_partSize 0 = .ok (.aload_n 0, 1) := by decide +kernel
theorem dX3_partSize_1 : decode cX3_partSize 1 = .ok (.iload_n 1, 1) := by decide +kernel
theorem dX3_partSize_2 : decode cX3_partSize 2 = .ok (.invokevirtual 106, 3) := by decide +kernel
theorem dX3_partSize_5 : decode cX3_partSize 5 = .ok (.aload_n 0, 1) := by decide +kernel
theorem dX3_partSize_6 : decode cX3_partSize 6 = .ok (.iload_n 2, 1) := by decide +kernel
theorem dX3_partSize_7 : decode cX3_partSize 7 = .ok (.invokevirtual 125, 3) := by decide +kernel
theorem dX3_partSize_10 : decode cX3_partSize 10 = .ok (.aload_n 0, 1) := by decide +kernel
theorem dX3_partSize_11 : decode cX3_partSize 11 = .ok (.iload_n 1, 1) := by decide +kernel
theorem dX3_partSize_12 : decode cX3_partSize 12 = .ok (.invokevirtual 164, 3) := by decide +kernel
theorem dX3_partSize_15 : decode cX3_partSize 15 = .ok (.aload_n 0, 1) := by decide +kernel
theorem dX3_partSize_16 : decode cX3_partSize 16 = .ok (.getfield 28, 3) := by decide +kernel
theorem dX3_partSize_19 : decode cX3_partSize 19 = .ok (.iload_n 2, 1) := by decide +kernel
theorem dX3_partSize_20 : decode cX3_partSize 20 = .ok (.invokevirtual 172, 3) := by decide +kernel
theorem dX3_partSize_23 : decode cX3_partSize 23 = .ok (.ireturn, 1) := by decide +kernel
set_option maxRecDepth 20000 in
theorem ggX3_worstCase_X3_requireRow : GoodIn wsX3_worstCase wsX3_requireRow := goodIn_ca (goodIn_r _ [7, 8, 9, 10, 11, 12, 13, 14, 15, 16, 72, 73, 74, 75, 76, 77, 78, 79, 85, 86, 87, 88, 89] (by decide +kernel) (by decide +kernel)) (goodIn_sub (fun _ h => List.mem_cons_of_mem _ (List.mem_append_right _ h)) (by decide +kernel))
set_option maxRecDepth 20000 in
theorem gX3_worstCase_X3_requireRow : GoodIn wsX3_worstCase (wsV RX3 106 RX3 yX3_requireRow wsX3_requireRow) := goodIn_app (goodIn_of _ (by decide +kernel)) ggX3_worstCase_X3_requireRow
set_option maxRecDepth 20000 in
theorem ggX3_worstCase_X3_partLeft : GoodIn wsX3_worstCase wsX3_partLeft := goodIn_r _ [20, 21, 22, 23, 24, 25, 6, 26, 1, 10, 27, 28, 29, 30, 31, 32, 33, 34, 35, 36, 37, 38, 39, 40, 41, 42, 14, 43, 44, 45, 46, 47, 48, 12, 13, 15, 16, 49, 50, 51, 52, 53, 54, 55, 56, 57, 58, 59, 60, 61, 62, 63, 64, 65, 66, 67, 68, 69, 70, 71, 72, 73, 74, 75, 76, 77, 78, 79, 80, 81, 82, 83, 84, 85, 86, 87, 88, 89] (by decide +kernel) (by decide +kernel)
set_option maxRecDepth 20000 in
theorem gX3_worstCase_X3_partLeft : GoodIn wsX3_worstCase (wsV RX3 164 RX3 yX3_partLeft wsX3_partLeft) := goodIn_app (goodIn_of _ (by decide +kernel)) ggX3_worstCase_X3_partLeft
theorem dX3_worstCase_0 : decode cX3_worstCase 0 = .ok (.aload_n 0, 1) := by decide +kernel
theorem dX3_worstCase_1 : decode cX3_worstCase 1 = .ok (.iload_n 1, 1) := by decide +kernel
theorem dX3_worstCase_2 : decode cX3_worstCase 2 = .ok (.invokevirtual 106, 3) := by decide +kernel
theorem dX3_worstCase_5 : decode cX3_worstCase 5 = .ok (.aload_n 0, 1) := by decide +kernel
theorem dX3_worstCase_6 : decode cX3_worstCase 6 = .ok (.iload_n 1, 1) := by decide +kernel
theorem dX3_worstCase_7 : decode cX3_worstCase 7 = .ok (.invokevirtual 164, 3) := by decide +kernel
theorem dX3_worstCase_10 : decode cX3_worstCase 10 = .ok (.aload_n 0, 1) := by decide +kernel
theorem dX3_worstCase_11 : decode cX3_worstCase 11 = .ok (.getfield 28, 3) := by decide +kernel
theorem dX3_worstCase_14 : decode cX3_worstCase 14 = .ok (.getfield 175, 3) := by decide +kernel
theorem dX3_worstCase_17 : decode cX3_worstCase 17 = .ok (.ireturn, 1) := by decide +kernel
set_option maxRecDepth 20000 in
theorem ggX3_weight_X3_requireRow : GoodIn wsX3_weight wsX3_requireRow := goodIn_ca (goodIn_r _ [7, 8, 9, 10, 11, 12, 13, 14, 15, 16, 72, 73, 74, 75, 76, 77, 78, 79, 85, 86, 87, 88, 89] (by decide +kernel) (by decide +kernel)) (goodIn_sub (fun _ h => List.mem_cons_of_mem _ (List.mem_append_right _ h)) (by decide +kernel))
set_option maxRecDepth 20000 in
theorem gX3_weight_X3_requireRow : GoodIn wsX3_weight (wsV RX3 106 RX3 yX3_requireRow wsX3_requireRow) := goodIn_app (goodIn_of _ (by decide +kernel)) ggX3_weight_X3_requireRow
set_option maxRecDepth 20000 in
theorem ggX3_weight_X3_partLeft : GoodIn wsX3_weight wsX3_partLeft := goodIn_r _ [20, 21, 22, 23, 24, 25, 6, 26, 1, 10, 27, 28, 29, 30, 31, 32, 33, 34, 35, 36, 37, 38, 39, 40, 41, 42, 14, 43, 44, 45, 46, 47, 48, 12, 13, 15, 16, 49, 50, 51, 52, 53, 54, 55, 56, 57, 58, 59, 60, 61, 62, 63, 64, 65, 66, 67, 68, 69, 70, 71, 72, 73, 74, 75, 76, 77, 78, 79, 80, 81, 82, 83, 84, 85, 86, 87, 88, 89] (by decide +kernel) (by decide +kernel)
set_option maxRecDepth 20000 in
theorem gX3_weight_X3_partLeft : GoodIn wsX3_weight (wsV RX3 164 RX3 yX3_partLeft wsX3_partLeft) := goodIn_app (goodIn_of _ (by decide +kernel)) ggX3_weight_X3_partLeft
theorem dX3_weight_0 : decode cX3_weight 0 = .ok (.aload_n 0, 1) := by decide +kernel
theorem dX3_weight_1 : decode cX3_weight 1 = .ok (.iload_n 1, 1) := by decide +kernel
theorem dX3_weight_2 : decode cX3_weight 2 = .ok (.invokevirtual 106, 3) := by decide +kernel
theorem dX3_weight_5 : decode cX3_weight 5 = .ok (.aload_n 0, 1) := by decide +kernel
theorem dX3_weight_6 : decode cX3_weight 6 = .ok (.iload_n 1, 1) := by decide +kernel
theorem dX3_weight_7 : decode cX3_weight 7 = .ok (.invokevirtual 164, 3) := by decide +kernel
theorem dX3_weight_10 : decode cX3_weight 10 = .ok (.aload_n 0, 1) := by decide +kernel
theorem dX3_weight_11 : decode cX3_weight 11 = .ok (.getfield 28, 3) := by decide +kernel
theorem dX3_weight_14 : decode cX3_weight 14 = .ok (.getfield 178, 3) := by decide +kernel
theorem dX3_weight_17 : decode cX3_weight 17 = .ok (.ireturn, 1) := by decide +kernel
set_option maxRecDepth 20000 in
theorem ggX3_bestGuess_X3_bestFor : GoodIn wsX3_bestGuess wsX3_bestFor := goodIn_r _ [11, 12, 13, 14, 15, 16, 17, 10, 18, 19, 20, 21, 22, 23, 24, 25, 26, 27, 28, 29, 30, 31, 32, 33, 34, 35, 36, 37, 38, 39, 40, 41, 42, 43, 44, 45, 46, 47, 48, 49, 50, 51, 52, 53, 54, 55, 56, 57, 58, 59, 60, 61, 62, 63, 64, 65, 66, 67, 68, 69, 70, 71, 72, 73, 74, 75, 76, 77, 78, 79, 80, 81, 82, 83, 84, 85, 86, 87, 88, 89, 90, 91, 92, 93, 94, 95, 96, 97, 98] (by decide +kernel) (by decide +kernel)
set_option maxRecDepth 20000 in
theorem gX3_bestGuess_X3_bestFor : GoodIn wsX3_bestGuess (wsV RX3 185 RX3 yX3_bestFor wsX3_bestFor) := goodIn_app (goodIn_of _ (by decide +kernel)) ggX3_bestGuess_X3_bestFor
theorem dX3_bestGuess_0 : decode cX3_bestGuess 0 = .ok (.iload_n 1, 1) := by decide +kernel
theorem dX3_bestGuess_1 : decode cX3_bestGuess 1 = .ok (.ifCond .lt 8, 3) := by decide +kernel
theorem dX3_bestGuess_4 : decode cX3_bestGuess 4 = .ok (.iload_n 1, 1) := by decide +kernel
theorem dX3_bestGuess_5 : decode cX3_bestGuess 5 = .ok (.iconst 2, 1) := by decide +kernel
theorem dX3_bestGuess_6 : decode cX3_bestGuess 6 = .ok (.if_icmp .le 13, 3) := by decide +kernel
theorem dX3_bestGuess_9 : decode cX3_bestGuess 9 = .ok (.new 46, 3) := by decide +kernel
theorem dX3_bestGuess_12 : decode cX3_bestGuess 12 = .ok (.dup, 1) := by decide +kernel
theorem dX3_bestGuess_13 : decode cX3_bestGuess 13 = .ok (.ldc 181, 2) := by decide +kernel
theorem dX3_bestGuess_15 : decode cX3_bestGuess 15 = .ok (.invokespecial 50, 3) := by decide +kernel
theorem dX3_bestGuess_18 : decode cX3_bestGuess 18 = .ok (.athrow, 1) := by decide +kernel
theorem dX3_bestGuess_19 : decode cX3_bestGuess 19 = .ok (.aload_n 0, 1) := by decide +kernel
theorem dX3_bestGuess_20 : decode cX3_bestGuess 20 = .ok (.getfield 133, 3) := by decide +kernel
theorem dX3_bestGuess_23 : decode cX3_bestGuess 23 = .ok (.ifCond .ne 13, 3) := by decide +kernel
theorem dX3_bestGuess_26 : decode cX3_bestGuess 26 = .ok (.new 87, 3) := by decide +kernel
theorem dX3_bestGuess_29 : decode cX3_bestGuess 29 = .ok (.dup, 1) := by decide +kernel
theorem dX3_bestGuess_30 : decode cX3_bestGuess 30 = .ok (.ldc 183, 2) := by decide +kernel
theorem dX3_bestGuess_32 : decode cX3_bestGuess 32 = .ok (.invokespecial 91, 3) := by decide +kernel
theorem dX3_bestGuess_35 : decode cX3_bestGuess 35 = .ok (.athrow, 1) := by decide +kernel
theorem dX3_bestGuess_36 : decode cX3_bestGuess 36 = .ok (.aload_n 0, 1) := by decide +kernel
theorem dX3_bestGuess_37 : decode cX3_bestGuess 37 = .ok (.iload_n 1, 1) := by decide +kernel
theorem dX3_bestGuess_38 : decode cX3_bestGuess 38 = .ok (.aload_n 0, 1) := by decide +kernel
theorem dX3_bestGuess_39 : decode cX3_bestGuess 39 = .ok (.getfield 32, 3) := by decide +kernel
theorem dX3_bestGuess_42 : decode cX3_bestGuess 42 = .ok (.iconst 0, 1) := by decide +kernel
theorem dX3_bestGuess_43 : decode cX3_bestGuess 43 = .ok (.aload_n 0, 1) := by decide +kernel
theorem dX3_bestGuess_44 : decode cX3_bestGuess 44 = .ok (.getfield 133, 3) := by decide +kernel
theorem dX3_bestGuess_47 : decode cX3_bestGuess 47 = .ok (.invokevirtual 185, 3) := by decide +kernel
theorem dX3_bestGuess_50 : decode cX3_bestGuess 50 = .ok (.ireturn, 1) := by decide +kernel
set_option maxRecDepth 20000 in
theorem ggX3_guessesNeeded_X3_guessesFor : GoodIn wsX3_guessesNeeded wsX3_guessesFor := goodIn_r _ [14, 5, 15, 16, 17, 18, 19, 20, 21, 22, 13, 23, 24, 25, 26, 27, 28, 29, 30, 31, 32, 33, 34, 35, 36, 37, 38, 39, 40, 41, 42, 43, 44, 45, 46, 47, 48, 49, 50, 51, 52, 53, 54, 55, 56, 57, 58, 59, 60, 61, 62, 63, 64, 65, 66, 67, 68, 69, 70, 71, 72, 73, 74, 75, 76, 77, 78, 79, 80, 81, 82, 83, 84, 85, 86, 87, 88, 89, 90, 91, 92, 93, 94, 95, 96, 10, 11, 12, 97, 98, 99, 100, 101, 102, 103, 104, 105, 106, 107, 108, 109, 110, 111, 112, 113, 114] (by decide +kernel) (by decide +kernel)
set_option maxRecDepth 20000 in
theorem gX3_guessesNeeded_X3_guessesFor : GoodIn wsX3_guessesNeeded (wsV RX3 197 RX3 yX3_guessesFor wsX3_guessesFor) := goodIn_app (goodIn_of _ (by decide +kernel)) ggX3_guessesNeeded_X3_guessesFor
theorem dX3_guessesNeeded_0 : decode cX3_guessesNeeded 0 = .ok (.aload_n 0, 1) := by decide +kernel
theorem dX3_guessesNeeded_1 : decode cX3_guessesNeeded 1 = .ok (.getfield 133, 3) := by decide +kernel
theorem dX3_guessesNeeded_4 : decode cX3_guessesNeeded 4 = .ok (.iconst 1, 1) := by decide +kernel
theorem dX3_guessesNeeded_5 : decode cX3_guessesNeeded 5 = .ok (.if_icmp .lt 12, 3) := by decide +kernel
theorem dX3_guessesNeeded_8 : decode cX3_guessesNeeded 8 = .ok (.aload_n 0, 1) := by decide +kernel
theorem dX3_guessesNeeded_9 : decode cX3_guessesNeeded 9 = .ok (.getfield 133, 3) := by decide +kernel
theorem dX3_guessesNeeded_12 : decode cX3_guessesNeeded 12 = .ok (.bipush 24, 2) := by decide +kernel
theorem dX3_guessesNeeded_14 : decode cX3_guessesNeeded 14 = .ok (.if_icmp .le 13, 3) := by decide +kernel
theorem dX3_guessesNeeded_17 : decode cX3_guessesNeeded 17 = .ok (.new 87, 3) := by decide +kernel
theorem dX3_guessesNeeded_20 : decode cX3_guessesNeeded 20 = .ok (.dup, 1) := by decide +kernel
theorem dX3_guessesNeeded_21 : decode cX3_guessesNeeded 21 = .ok (.ldc 189, 2) := by decide +kernel
theorem dX3_guessesNeeded_23 : decode cX3_guessesNeeded 23 = .ok (.invokespecial 91, 3) := by decide +kernel
theorem dX3_guessesNeeded_26 : decode cX3_guessesNeeded 26 = .ok (.athrow, 1) := by decide +kernel
theorem dX3_guessesNeeded_27 : decode cX3_guessesNeeded 27 = .ok (.aload_n 0, 1) := by decide +kernel
theorem dX3_guessesNeeded_28 : decode cX3_guessesNeeded 28 = .ok (.getfield 32, 3) := by decide +kernel
theorem dX3_guessesNeeded_31 : decode cX3_guessesNeeded 31 = .ok (.iconst 0, 1) := by decide +kernel
theorem dX3_guessesNeeded_32 : decode cX3_guessesNeeded 32 = .ok (.aload_n 0, 1) := by decide +kernel
theorem dX3_guessesNeeded_33 : decode cX3_guessesNeeded 33 = .ok (.getfield 36, 3) := by decide +kernel
theorem dX3_guessesNeeded_36 : decode cX3_guessesNeeded 36 = .ok (.iconst 0, 1) := by decide +kernel
theorem dX3_guessesNeeded_37 : decode cX3_guessesNeeded 37 = .ok (.aload_n 0, 1) := by decide +kernel
theorem dX3_guessesNeeded_38 : decode cX3_guessesNeeded 38 = .ok (.getfield 133, 3) := by decide +kernel
theorem dX3_guessesNeeded_41 : decode cX3_guessesNeeded 41 = .ok (.invokestatic 191, 3) := by decide +kernel
theorem dX3_guessesNeeded_44 : decode cX3_guessesNeeded 44 = .ok (.aload_n 0, 1) := by decide +kernel
theorem dX3_guessesNeeded_45 : decode cX3_guessesNeeded 45 = .ok (.iconst 0, 1) := by decide +kernel
theorem dX3_guessesNeeded_46 : decode cX3_guessesNeeded 46 = .ok (.aload_n 0, 1) := by decide +kernel
theorem dX3_guessesNeeded_47 : decode cX3_guessesNeeded 47 = .ok (.getfield 133, 3) := by decide +kernel
theorem dX3_guessesNeeded_50 : decode cX3_guessesNeeded 50 = .ok (.iconst 1, 1) := by decide +kernel
theorem dX3_guessesNeeded_51 : decode cX3_guessesNeeded 51 = .ok (.invokevirtual 197, 3) := by decide +kernel
theorem dX3_guessesNeeded_54 : decode cX3_guessesNeeded 54 = .ok (.ireturn, 1) := by decide +kernel
set_option maxRecDepth 20000 in
theorem ggX3_partLeft_X3_partRows : GoodIn wsX3_partLeft wsX3_partRows := goodIn_r _ [7, 8, 9, 10, 11, 12, 13, 14, 15, 16, 17, 18, 19, 20, 21, 22, 23, 24, 25, 26, 27, 28, 29, 30, 31, 32, 33, 34, 35, 36, 37, 38, 39, 40, 41, 42, 43, 44, 45, 46, 47, 48, 49, 50, 51, 52, 53, 54, 55, 56, 57, 58, 59, 60, 61, 62, 63, 64, 65, 66, 67, 68, 69, 70, 71, 72, 73, 74, 75, 76, 77] (by decide +kernel) (by decide +kernel)
set_option maxRecDepth 20000 in
theorem gX3_partLeft_X3_partRows : GoodIn wsX3_partLeft (wsV RX3 201 RX3 yX3_partRows wsX3_partRows) := goodIn_app (goodIn_of _ (by decide +kernel)) ggX3_partLeft_X3_partRows
theorem dX3_partLeft_0 : decode cX3_partLeft 0 = .ok (.aload_n 0, 1) := by decide +kernel
theorem dX3_partLeft_1 : decode cX3_partLeft 1 = .ok (.iload_n 1, 1) := by decide +kernel
theorem dX3_partLeft_2 : decode cX3_partLeft 2 = .ok (.aload_n 0, 1) := by decide +kernel
theorem dX3_partLeft_3 : decode cX3_partLeft 3 = .ok (.getfield 32, 3) := by decide +kernel
theorem dX3_partLeft_6 : decode cX3_partLeft 6 = .ok (.iconst 0, 1) := by decide +kernel
theorem dX3_partLeft_7 : decode cX3_partLeft 7 = .ok (.aload_n 0, 1) := by decide +kernel
theorem dX3_partLeft_8 : decode cX3_partLeft 8 = .ok (.getfield 133, 3) := by decide +kernel
theorem dX3_partLeft_11 : decode cX3_partLeft 11 = .ok (.invokevirtual 201, 3) := by decide +kernel
theorem dX3_partLeft_14 : decode cX3_partLeft 14 = .ok (.return_, 1) := by decide +kernel
set_option maxRecDepth 20000 in
theorem ggX3_partRows_X2_clear : GoodIn wsX3_partRows wsX2_clear := goodIn_r _ [7, 8, 9, 10, 11, 12, 13, 14, 15, 61, 62, 63, 64, 65] (by decide +kernel) (by decide +kernel)
set_option maxRecDepth 20000 in
theorem gX3_partRows_X2_clear : GoodIn wsX3_partRows (wsV RX3 205 RX2 yX2_clear wsX2_clear) := goodIn_app (goodIn_of _ (by decide +kernel)) ggX3_partRows_X2_clear
set_option maxRecDepth 20000 in
theorem ggX3_partRows_X1_compare : GoodIn wsX3_partRows wsX1_compare := goodIn_r _ [20, 21, 22, 23, 24, 25, 26, 27, 19, 28, 29, 30, 31, 32, 33, 34, 35, 36, 37, 38, 39, 40, 41, 42, 43, 66, 67, 68, 69, 70] (by decide +kernel) (by decide +kernel)
set_option maxRecDepth 20000 in
theorem gX3_partRows_X1_compare : GoodIn wsX3_partRows (wsV RX3 75 RX1 yX1_compare wsX1_compare) := goodIn_app (goodIn_of _ (by decide +kernel)) ggX3_partRows_X1_compare
set_option maxRecDepth 20000 in
theorem ggX3_partRows_X2_add : GoodIn wsX3_partRows wsX2_add := goodIn_r _ [47, 11, 8, 48, 9, 49, 50, 51, 52, 10, 61, 62, 63, 64, 65] (by decide +kernel) (by decide +kernel)
set_option maxRecDepth 20000 in
theorem gX3_partRows_X2_add : GoodIn wsX3_partRows (wsV RX3 208 RX2 yX2_add wsX2_add) := goodIn_app (goodIn_of _ (by decide +kernel)) ggX3_partRows_X2_add
theorem dX3_partRows_0 : decode cX3_partRows 0 = .ok (.aload_n 0, 1) := by decide +kernel
theorem dX3_partRows_1 : decode cX3_partRows 1 = .ok (.getfield 28, 3) := by decide +kernel
theorem dX3_partRows_4 : decode cX3_partRows 4 = .ok (.invokevirtual 205, 3) := by decide +kernel
theorem dX3_partRows_7 : decode cX3_partRows 7 = .ok (.iload_n 3, 1) := by decide +kernel
theorem dX3_partRows_8 : decode cX3_partRows 8 = .ok (.istore 5, 2) := by decide +kernel
theorem dX3_partRows_10 : decode cX3_partRows 10 = .ok (.iload 5, 2) := by decide +kernel
theorem dX3_partRows_12 : decode cX3_partRows 12 = .ok (.iload_n 3, 1) := by decide +kernel
theorem dX3_partRows_13 : decode cX3_partRows 13 = .ok (.iload 4, 2) := by decide +kernel
theorem dX3_partRows_15 : decode cX3_partRows 15 = .ok (.iadd, 1) := by decide +kernel
theorem dX3_partRows_16 : decode cX3_partRows 16 = .ok (.if_icmp .ge 35, 3) := by decide +kernel
theorem dX3_partRows_19 : decode cX3_partRows 19 = .ok (.iload 5, 2) := by decide +kernel
theorem dX3_partRows_21 : decode cX3_partRows 21 = .ok (.aload_n 2, 1) := by decide +kernel
theorem dX3_partRows_22 : decode cX3_partRows 22 = .ok (.arraylength, 1) := by decide +kernel
theorem dX3_partRows_23 : decode cX3_partRows 23 = .ok (.if_icmp .ge 28, 3) := by decide +kernel
theorem dX3_partRows_26 : decode cX3_partRows 26 = .ok (.aload_n 0, 1) := by decide +kernel
theorem dX3_partRows_27 : decode cX3_partRows 27 = .ok (.getfield 28, 3) := by decide +kernel
theorem dX3_partRows_30 : decode cX3_partRows 30 = .ok (.aload_n 0, 1) := by decide +kernel
theorem dX3_partRows_31 : decode cX3_partRows 31 = .ok (.getfield 12, 3) := by decide +kernel
theorem dX3_partRows_34 : decode cX3_partRows 34 = .ok (.iload_n 1, 1) := by decide +kernel
theorem dX3_partRows_35 : decode cX3_partRows 35 = .ok (.aload_n 2, 1) := by decide +kernel
theorem dX3_partRows_36 : decode cX3_partRows 36 = .ok (.iload 5, 2) := by decide +kernel
theorem dX3_partRows_38 : decode cX3_partRows 38 = .ok (.iaload, 1) := by decide +kernel
theorem dX3_partRows_39 : decode cX3_partRows 39 = .ok (.invokevirtual 75, 3) := by decide +kernel
theorem dX3_partRows_42 : decode cX3_partRows 42 = .ok (.invokevirtual 208, 3) := by decide +kernel
theorem dX3_partRows_45 : decode cX3_partRows 45 = .ok (.iinc 5 1, 3) := by decide +kernel
theorem dX3_partRows_48 : decode cX3_partRows 48 = .ok (.goto (-38), 3) := by decide +kernel
theorem dX3_partRows_51 : decode cX3_partRows 51 = .ok (.return_, 1) := by decide +kernel
set_option maxRecDepth 20000 in
theorem ggX3_bestFor_X3_partRows : GoodIn wsX3_bestFor wsX3_partRows := goodIn_r _ [8, 3, 1, 9, 10, 11, 12, 13, 14, 15, 16, 17, 18, 19, 20, 21, 22, 23, 24, 25, 26, 27, 28, 29, 30, 31, 32, 33, 34, 35, 36, 37, 38, 39, 40, 41, 42, 43, 44, 45, 46, 47, 48, 49, 50, 51, 52, 53, 54, 55, 56, 57, 58, 71, 72, 73, 74, 75, 76, 77, 78, 84, 85, 86, 87, 88, 79, 80, 81, 82, 83] (by decide +kernel) (by decide +kernel)
set_option maxRecDepth 20000 in
theorem gX3_bestFor_X3_partRows : GoodIn wsX3_bestFor (wsV RX3 201 RX3 yX3_partRows wsX3_partRows) := goodIn_app (goodIn_of _ (by decide +kernel)) ggX3_bestFor_X3_partRows
set_option maxRecDepth 20000 in
theorem ggX3_bestFor_X2_score : GoodIn wsX3_bestFor wsX2_score := goodIn_r _ [62, 15, 16, 14, 84, 85, 86, 87, 88] (by decide +kernel) (by decide +kernel)
set_option maxRecDepth 20000 in
theorem gX3_bestFor_X2_score : GoodIn wsX3_bestFor (wsV RX3 210 RX2 yX2_score wsX2_score) := goodIn_app (goodIn_of _ (by decide +kernel)) ggX3_bestFor_X2_score
set_option maxRecDepth 20000 in
theorem ggX3_bestFor_X1_allBlack : GoodIn wsX3_bestFor wsX1_allBlack := goodIn_r _ [66, 29, 79, 80, 81, 82, 83] (by decide +kernel) (by decide +kernel)
set_option maxRecDepth 20000 in
theorem gX3_bestFor_X1_allBlack : GoodIn wsX3_bestFor (wsV RX3 213 RX1 yX1_allBlack wsX1_allBlack) := goodIn_app (goodIn_of _ (by decide +kernel)) ggX3_bestFor_X1_allBlack
set_option maxRecDepth 20000 in
theorem ggX3_bestFor_X2_sizeWith : GoodIn wsX3_bestFor wsX2_sizeWith := goodIn_r _ [70, 17, 84, 85, 86, 87, 88] (by decide +kernel) (by decide +kernel)
set_option maxRecDepth 20000 in
theorem gX3_bestFor_X2_sizeWith : GoodIn wsX3_bestFor (wsV RX3 172 RX2 yX2_sizeWith wsX2_sizeWith) := goodIn_app (goodIn_of _ (by decide +kernel)) ggX3_bestFor_X2_sizeWith
theorem dX3_bestFor_0 : decode cX3_bestFor 0 = .ok (.iconst (-1), 1) := by decide +kernel
theorem dX3_bestFor_1 : decode cX3_bestFor 1 = .ok (.istore 5, 2) := by decide +kernel
theorem dX3_bestFor_3 : decode cX3_bestFor 3 = .ok (.iconst 0, 1) := by decide +kernel
theorem dX3_bestFor_4 : decode cX3_bestFor 4 = .ok (.istore 6, 2) := by decide +kernel
theorem dX3_bestFor_6 : decode cX3_bestFor 6 = .ok (.iconst 0, 1) := by decide +kernel
theorem dX3_bestFor_7 : decode cX3_bestFor 7 = .ok (.istore 7, 2) := by decide +kernel
theorem dX3_bestFor_9 : decode cX3_bestFor 9 = .ok (.iconst 0, 1) := by decide +kernel
theorem dX3_bestFor_10 : decode cX3_bestFor 10 = .ok (.istore 8, 2) := by decide +kernel
theorem dX3_bestFor_12 : decode cX3_bestFor 12 = .ok (.iload 8, 2) := by decide +kernel
theorem dX3_bestFor_14 : decode cX3_bestFor 14 = .ok (.aload_n 0, 1) := by decide +kernel
theorem dX3_bestFor_15 : decode cX3_bestFor 15 = .ok (.getfield 12, 3) := by decide +kernel
theorem dX3_bestFor_18 : decode cX3_bestFor 18 = .ok (.getfield 53, 3) := by decide +kernel
theorem dX3_bestFor_21 : decode cX3_bestFor 21 = .ok (.if_icmp .ge 107, 3) := by decide +kernel
theorem dX3_bestFor_24 : decode cX3_bestFor 24 = .ok (.aload_n 0, 1) := by decide +kernel
theorem dX3_bestFor_25 : decode cX3_bestFor 25 = .ok (.iload 8, 2) := by decide +kernel
theorem dX3_bestFor_27 : decode cX3_bestFor 27 = .ok (.aload_n 2, 1) := by decide +kernel
theorem dX3_bestFor_28 : decode cX3_bestFor 28 = .ok (.iload_n 3, 1) := by decide +kernel
theorem dX3_bestFor_29 : decode cX3_bestFor 29 = .ok (.iload 4, 2) := by decide +kernel
theorem dX3_bestFor_31 : decode cX3_bestFor 31 = .ok (.invokevirtual 201, 3) := by decide +kernel
theorem dX3_bestFor_34 : decode cX3_bestFor 34 = .ok (.aload_n 0, 1) := by decide +kernel
theorem dX3_bestFor_35 : decode cX3_bestFor 35 = .ok (.getfield 28, 3) := by decide +kernel
theorem dX3_bestFor_38 : decode cX3_bestFor 38 = .ok (.iload_n 1, 1) := by decide +kernel
theorem dX3_bestFor_39 : decode cX3_bestFor 39 = .ok (.invokevirtual 210, 3) := by decide +kernel
theorem dX3_bestFor_42 : decode cX3_bestFor 42 = .ok (.istore 9, 2) := by decide +kernel
theorem dX3_bestFor_44 : decode cX3_bestFor 44 = .ok (.aload_n 0, 1) := by decide +kernel
theorem dX3_bestFor_45 : decode cX3_bestFor 45 = .ok (.getfield 28, 3) := by decide +kernel
theorem dX3_bestFor_48 : decode cX3_bestFor 48 = .ok (.aload_n 0, 1) := by decide +kernel
theorem dX3_bestFor_49 : decode cX3_bestFor 49 = .ok (.getfield 12, 3) := by decide +kernel
theorem dX3_bestFor_52 : decode cX3_bestFor 52 = .ok (.invokevirtual 213, 3) := by decide +kernel
theorem dX3_bestFor_55 : decode cX3_bestFor 55 = .ok (.invokevirtual 172, 3) := by decide +kernel
theorem dX3_bestFor_58 : decode cX3_bestFor 58 = .ok (.ifCond .le 7, 3) := by decide +kernel
theorem dX3_bestFor_61 : decode cX3_bestFor 61 = .ok (.iconst 1, 1) := by decide +kernel
theorem dX3_bestFor_62 : decode cX3_bestFor 62 = .ok (.goto 4, 3) := by decide +kernel
theorem dX3_bestFor_65 : decode cX3_bestFor 65 = .ok (.iconst 0, 1) := by decide +kernel
theorem dX3_bestFor_66 : decode cX3_bestFor 66 = .ok (.istore 10, 2) := by decide +kernel
theorem dX3_bestFor_68 : decode cX3_bestFor 68 = .ok (.iload 9, 2) := by decide +kernel
theorem dX3_bestFor_70 : decode cX3_bestFor 70 = .ok (.iload 6, 2) := by decide +kernel
theorem dX3_bestFor_72 : decode cX3_bestFor 72 = .ok (.if_icmp .ne 17, 3) := by decide +kernel
theorem dX3_bestFor_75 : decode cX3_bestFor 75 = .ok (.iload 10, 2) := by decide +kernel
theorem dX3_bestFor_77 : decode cX3_bestFor 77 = .ok (.ifCond .eq 12, 3) := by decide +kernel
theorem dX3_bestFor_80 : decode cX3_bestFor 80 = .ok (.iload 7, 2) := by decide +kernel
theorem dX3_bestFor_82 : decode cX3_bestFor 82 = .ok (.ifCond .ne 7, 3) := by decide +kernel
theorem dX3_bestFor_85 : decode cX3_bestFor 85 = .ok (.iconst 1, 1) := by decide +kernel
theorem dX3_bestFor_86 : decode cX3_bestFor 86 = .ok (.goto 4, 3) := by decide +kernel
theorem dX3_bestFor_89 : decode cX3_bestFor 89 = .ok (.iconst 0, 1) := by decide +kernel
theorem dX3_bestFor_90 : decode cX3_bestFor 90 = .ok (.istore 11, 2) := by decide +kernel
theorem dX3_bestFor_92 : decode cX3_bestFor 92 = .ok (.iload 5, 2) := by decide +kernel
theorem dX3_bestFor_94 : decode cX3_bestFor 94 = .ok (.iconst (-1), 1) := by decide +kernel
theorem dX3_bestFor_95 : decode cX3_bestFor 95 = .ok (.if_icmp .eq 15, 3) := by decide +kernel
theorem dX3_bestFor_98 : decode cX3_bestFor 98 = .ok (.iload 9, 2) := by decide +kernel
theorem dX3_bestFor_100 : decode cX3_bestFor 100 = .ok (.iload 6, 2) := by decide +kernel
theorem dX3_bestFor_102 : decode cX3_bestFor 102 = .ok (.if_icmp .lt 8, 3) := by decide +kernel
theorem dX3_bestFor_105 : decode cX3_bestFor 105 = .ok (.iload 11, 2) := by decide +kernel
theorem dX3_bestFor_107 : decode cX3_bestFor 107 = .ok (.ifCond .eq 15, 3) := by decide +kernel
theorem dX3_bestFor_110 : decode cX3_bestFor 110 = .ok (.iload 8, 2) := by decide +kernel
theorem dX3_bestFor_112 : decode cX3_bestFor 112 = .ok (.istore 5, 2) := by decide +kernel
theorem dX3_bestFor_114 : decode cX3_bestFor 114 = .ok (.iload 9, 2) := by decide +kernel
theorem dX3_bestFor_116 : decode cX3_bestFor 116 = .ok (.istore 6, 2) := by decide +kernel
theorem dX3_bestFor_118 : decode cX3_bestFor 118 = .ok (.iload 10, 2) := by decide +kernel
theorem dX3_bestFor_120 : decode cX3_bestFor 120 = .ok (.istore 7, 2) := by decide +kernel
theorem dX3_bestFor_122 : decode cX3_bestFor 122 = .ok (.iinc 8 1, 3) := by decide +kernel
theorem dX3_bestFor_125 : decode cX3_bestFor 125 = .ok (.goto (-113), 3) := by decide +kernel
theorem dX3_bestFor_128 : decode cX3_bestFor 128 = .ok (.iload 5, 2) := by decide +kernel
theorem dX3_bestFor_130 : decode cX3_bestFor 130 = .ok (.ireturn, 1) := by decide +kernel
set_option maxRecDepth 20000 in
theorem ggX3_guessesFor_X3_bestFor : GoodIn wsX3_guessesFor wsX3_bestFor := goodIn_r _ [11, 2, 12, 13, 14, 15, 16, 10, 17, 18, 19, 20, 21, 22, 23, 24, 25, 26, 27, 28, 29, 30, 31, 32, 33, 34, 35, 36, 37, 38, 39, 40, 41, 42, 43, 44, 45, 46, 47, 48, 49, 50, 51, 52, 53, 54, 55, 56, 57, 58, 59, 60, 61, 62, 63, 64, 4, 5, 6, 65, 66, 67, 68, 69, 70, 71, 72, 73, 74, 75, 76, 88, 89, 90, 91, 92, 93, 94, 95, 96, 97, 98, 99, 100, 101, 102, 103, 104, 105] (by decide +kernel) (by decide +kernel)
set_option maxRecDepth 20000 in
theorem gX3_guessesFor_X3_bestFor : GoodIn wsX3_guessesFor (wsV RX3 185 RX3 yX3_bestFor wsX3_bestFor) := goodIn_app (goodIn_of _ (by decide +kernel)) ggX3_guessesFor_X3_bestFor
set_option maxRecDepth 20000 in
theorem ggX3_guessesFor_X3_opensPart : GoodIn wsX3_guessesFor wsX3_opensPart := goodIn_r _ [80, 2, 1, 31, 32, 33, 34, 35, 36, 37, 38, 39, 40, 41, 42, 43, 44, 45, 46, 47, 48, 49, 50, 51, 52, 53, 54, 55, 56, 57, 58, 88, 89, 90, 91, 92, 93, 94, 95, 96, 97, 98, 99, 100] (by decide +kernel) (by decide +kernel)
set_option maxRecDepth 20000 in
theorem gX3_guessesFor_X3_opensPart : GoodIn wsX3_guessesFor (wsV RX3 217 RX3 yX3_opensPart wsX3_opensPart) := goodIn_app (goodIn_of _ (by decide +kernel)) ggX3_guessesFor_X3_opensPart
set_option maxRecDepth 20000 in
theorem ggX3_guessesFor_X1_compare : GoodIn wsX3_guessesFor wsX1_compare := goodIn_r _ [35, 36, 37, 38, 39, 40, 41, 42, 34, 43, 44, 45, 46, 47, 48, 49, 50, 51, 52, 53, 54, 55, 56, 57, 58, 96, 97, 98, 99, 100] (by decide +kernel) (by decide +kernel)
set_option maxRecDepth 20000 in
theorem gX3_guessesFor_X1_compare : GoodIn wsX3_guessesFor (wsV RX3 75 RX1 yX1_compare wsX1_compare) := goodIn_app (goodIn_of _ (by decide +kernel)) ggX3_guessesFor_X1_compare
set_option maxRecDepth 20000 in
theorem ggX3_guessesFor_X3_guessesForPart : GoodIn wsX3_guessesFor wsX3_guessesForPart := goodIn_r _ [84, 1, 2, 31, 32, 33, 34, 35, 36, 37, 38, 39, 40, 41, 42, 43, 44, 45, 46, 47, 48, 49, 50, 51, 52, 53, 54, 55, 56, 57, 58, 85, 86, 87, 10, 0, 3, 4, 5, 6, 7, 8, 9, 11, 12, 13, 14, 15, 16, 17, 18, 19, 20, 21, 22, 23, 24, 25, 26, 27, 28, 29, 30, 59, 60, 61, 62, 63, 64, 65, 66, 67, 68, 69, 70, 71, 72, 73, 74, 75, 76, 77, 78, 79, 80, 81, 82, 83, 88, 89, 90, 91, 92, 93, 94, 95, 96, 97, 98, 99, 100, 101, 102, 103, 104, 105] (by decide +kernel) (by decide +kernel)
set_option maxRecDepth 20000 in
theorem gX3_guessesFor_X3_guessesForPart : GoodIn wsX3_guessesFor (wsV RX3 221 RX3 yX3_guessesForPart wsX3_guessesForPart) := goodIn_app (goodIn_of _ (by decide +kernel)) ggX3_guessesFor_X3_guessesForPart
theorem dX3_guessesFor_0 : decode cX3_guessesFor 0 = .ok (.iload_n 2, 1) := by decide +kernel
theorem dX3_guessesFor_1 : decode cX3_guessesFor 1 = .ok (.iconst 1, 1) := by decide +kernel
theorem dX3_guessesFor_2 : decode cX3_guessesFor 2 = .ok (.if_icmp .le 9, 3) := by decide +kernel
theorem dX3_guessesFor_5 : decode cX3_guessesFor 5 = .ok (.iload_n 3, 1) := by decide +kernel
theorem dX3_guessesFor_6 : decode cX3_guessesFor 6 = .ok (.bipush 24, 2) := by decide +kernel
theorem dX3_guessesFor_8 : decode cX3_guessesFor 8 = .ok (.if_icmp .lt 5, 3) := by decide +kernel
theorem dX3_guessesFor_11 : decode cX3_guessesFor 11 = .ok (.iconst 1, 1) := by decide +kernel
theorem dX3_guessesFor_12 : decode cX3_guessesFor 12 = .ok (.ireturn, 1) := by decide +kernel
theorem dX3_guessesFor_13 : decode cX3_guessesFor 13 = .ok (.aload_n 0, 1) := by decide +kernel
theorem dX3_guessesFor_14 : decode cX3_guessesFor 14 = .ok (.iconst 0, 1) := by decide +kernel
theorem dX3_guessesFor_15 : decode cX3_guessesFor 15 = .ok (.aload_n 0, 1) := by decide +kernel
theorem dX3_guessesFor_16 : decode cX3_guessesFor 16 = .ok (.getfield 36, 3) := by decide +kernel
theorem dX3_guessesFor_19 : decode cX3_guessesFor 19 = .ok (.iload_n 1, 1) := by decide +kernel
theorem dX3_guessesFor_20 : decode cX3_guessesFor 20 = .ok (.iload_n 2, 1) := by decide +kernel
theorem dX3_guessesFor_21 : decode cX3_guessesFor 21 = .ok (.invokevirtual 185, 3) := by decide +kernel
theorem dX3_guessesFor_24 : decode cX3_guessesFor 24 = .ok (.istore 4, 2) := by decide +kernel
theorem dX3_guessesFor_26 : decode cX3_guessesFor 26 = .ok (.iconst 0, 1) := by decide +kernel
theorem dX3_guessesFor_27 : decode cX3_guessesFor 27 = .ok (.istore 5, 2) := by decide +kernel
theorem dX3_guessesFor_29 : decode cX3_guessesFor 29 = .ok (.iload_n 1, 1) := by decide +kernel
theorem dX3_guessesFor_30 : decode cX3_guessesFor 30 = .ok (.istore 6, 2) := by decide +kernel
theorem dX3_guessesFor_32 : decode cX3_guessesFor 32 = .ok (.iload 6, 2) := by decide +kernel
theorem dX3_guessesFor_34 : decode cX3_guessesFor 34 = .ok (.iload_n 1, 1) := by decide +kernel
theorem dX3_guessesFor_35 : decode cX3_guessesFor 35 = .ok (.iload_n 2, 1) := by decide +kernel
theorem dX3_guessesFor_36 : decode cX3_guessesFor 36 = .ok (.iadd, 1) := by decide +kernel
theorem dX3_guessesFor_37 : decode cX3_guessesFor 37 = .ok (.if_icmp .ge 79, 3) := by decide +kernel
theorem dX3_guessesFor_40 : decode cX3_guessesFor 40 = .ok (.iload 6, 2) := by decide +kernel
theorem dX3_guessesFor_42 : decode cX3_guessesFor 42 = .ok (.aload_n 0, 1) := by decide +kernel
theorem dX3_guessesFor_43 : decode cX3_guessesFor 43 = .ok (.getfield 36, 3) := by decide +kernel
theorem dX3_guessesFor_46 : decode cX3_guessesFor 46 = .ok (.arraylength, 1) := by decide +kernel
theorem dX3_guessesFor_47 : decode cX3_guessesFor 47 = .ok (.if_icmp .ge 69, 3) := by decide +kernel
theorem dX3_guessesFor_50 : decode cX3_guessesFor 50 = .ok (.aload_n 0, 1) := by decide +kernel
theorem dX3_guessesFor_51 : decode cX3_guessesFor 51 = .ok (.getfield 36, 3) := by decide +kernel
theorem dX3_guessesFor_54 : decode cX3_guessesFor 54 = .ok (.iload 6, 2) := by decide +kernel
theorem dX3_guessesFor_56 : decode cX3_guessesFor 56 = .ok (.iaload, 1) := by decide +kernel
theorem dX3_guessesFor_57 : decode cX3_guessesFor 57 = .ok (.iload 4, 2) := by decide +kernel
theorem dX3_guessesFor_59 : decode cX3_guessesFor 59 = .ok (.if_icmp .eq 51, 3) := by decide +kernel
theorem dX3_guessesFor_62 : decode cX3_guessesFor 62 = .ok (.aload_n 0, 1) := by decide +kernel
theorem dX3_guessesFor_63 : decode cX3_guessesFor 63 = .ok (.iload 4, 2) := by decide +kernel
theorem dX3_guessesFor_65 : decode cX3_guessesFor 65 = .ok (.iload_n 1, 1) := by decide +kernel
theorem dX3_guessesFor_66 : decode cX3_guessesFor 66 = .ok (.iload 6, 2) := by decide +kernel
theorem dX3_guessesFor_68 : decode cX3_guessesFor 68 = .ok (.invokevirtual 217, 3) := by decide +kernel
theorem dX3_guessesFor_71 : decode cX3_guessesFor 71 = .ok (.ifCond .eq 39, 3) := by decide +kernel
theorem dX3_guessesFor_74 : decode cX3_guessesFor 74 = .ok (.aload_n 0, 1) := by decide +kernel
theorem dX3_guessesFor_75 : decode cX3_guessesFor 75 = .ok (.getfield 12, 3) := by decide +kernel
theorem dX3_guessesFor_78 : decode cX3_guessesFor 78 = .ok (.iload 4, 2) := by decide +kernel
theorem dX3_guessesFor_80 : decode cX3_guessesFor 80 = .ok (.aload_n 0, 1) := by decide +kernel
theorem dX3_guessesFor_81 : decode cX3_guessesFor 81 = .ok (.getfield 36, 3) := by decide +kernel
theorem dX3_guessesFor_84 : decode cX3_guessesFor 84 = .ok (.iload 6, 2) := by decide +kernel
theorem dX3_guessesFor_86 : decode cX3_guessesFor 86 = .ok (.iaload, 1) := by decide +kernel
theorem dX3_guessesFor_87 : decode cX3_guessesFor 87 = .ok (.invokevirtual 75, 3) := by decide +kernel
theorem dX3_guessesFor_90 : decode cX3_guessesFor 90 = .ok (.istore 7, 2) := by decide +kernel
theorem dX3_guessesFor_92 : decode cX3_guessesFor 92 = .ok (.iload 5, 2) := by decide +kernel
theorem dX3_guessesFor_94 : decode cX3_guessesFor 94 = .ok (.aload_n 0, 1) := by decide +kernel
theorem dX3_guessesFor_95 : decode cX3_guessesFor 95 = .ok (.iload 4, 2) := by decide +kernel
theorem dX3_guessesFor_97 : decode cX3_guessesFor 97 = .ok (.iload 7, 2) := by decide +kernel
theorem dX3_guessesFor_99 : decode cX3_guessesFor 99 = .ok (.iload_n 1, 1) := by decide +kernel
theorem dX3_guessesFor_100 : decode cX3_guessesFor 100 = .ok (.iload_n 2, 1) := by decide +kernel
theorem dX3_guessesFor_101 : decode cX3_guessesFor 101 = .ok (.iload_n 3, 1) := by decide +kernel
theorem dX3_guessesFor_102 : decode cX3_guessesFor 102 = .ok (.invokevirtual 221, 3) := by decide +kernel
theorem dX3_guessesFor_105 : decode cX3_guessesFor 105 = .ok (.invokestatic 225, 3) := by decide +kernel
theorem dX3_guessesFor_108 : decode cX3_guessesFor 108 = .ok (.istore 5, 2) := by decide +kernel
theorem dX3_guessesFor_110 : decode cX3_guessesFor 110 = .ok (.iinc 6 1, 3) := by decide +kernel
theorem dX3_guessesFor_113 : decode cX3_guessesFor 113 = .ok (.goto (-81), 3) := by decide +kernel
theorem dX3_guessesFor_116 : decode cX3_guessesFor 116 = .ok (.iconst 1, 1) := by decide +kernel
theorem dX3_guessesFor_117 : decode cX3_guessesFor 117 = .ok (.iload 5, 2) := by decide +kernel
theorem dX3_guessesFor_119 : decode cX3_guessesFor 119 = .ok (.iadd, 1) := by decide +kernel
theorem dX3_guessesFor_120 : decode cX3_guessesFor 120 = .ok (.ireturn, 1) := by decide +kernel
set_option maxRecDepth 20000 in
theorem ggX3_guessesForPart_X1_compare : GoodIn wsX3_guessesForPart wsX1_compare := goodIn_r _ [7, 8, 9, 10, 11, 12, 13, 14, 6, 15, 16, 17, 18, 19, 20, 21, 22, 23, 24, 25, 26, 27, 28, 29, 30, 96, 97, 98, 99, 100] (by decide +kernel) (by decide +kernel)
set_option maxRecDepth 20000 in
theorem gX3_guessesForPart_X1_compare : GoodIn wsX3_guessesForPart (wsV RX3 75 RX1 yX1_compare wsX1_compare) := goodIn_app (goodIn_of _ (by decide +kernel)) ggX3_guessesForPart_X1_compare
set_option maxRecDepth 20000 in
theorem ggX3_guessesForPart_X3_guessesFor : GoodIn wsX3_guessesForPart wsX3_guessesFor := goodIn_r _ [35, 1, 2, 36, 37, 38, 39, 40, 41, 42, 34, 43, 44, 45, 46, 47, 48, 49, 50, 51, 52, 53, 54, 55, 56, 57, 58, 59, 60, 61, 62, 3, 4, 5, 6, 7, 8, 9, 10, 11, 12, 13, 14, 15, 16, 17, 18, 19, 20, 21, 22, 23, 24, 25, 26, 27, 28, 29, 30, 63, 64, 65, 66, 67, 68, 69, 70, 71, 72, 73, 74, 75, 76, 77, 78, 79, 80, 81, 82, 83, 84, 85, 86, 87, 0, 31, 32, 33, 88, 89, 90, 91, 92, 93, 94, 95, 96, 97, 98, 99, 100, 101, 102, 103, 104, 105] (by decide +kernel) (by decide +kernel)
set_option maxRecDepth 20000 in
theorem gX3_guessesForPart_X3_guessesFor : GoodIn wsX3_guessesForPart (wsV RX3 197 RX3 yX3_guessesFor wsX3_guessesFor) := goodIn_app (goodIn_of _ (by decide +kernel)) ggX3_guessesForPart_X3_guessesFor
theorem dX3_guessesForPart_0 : decode cX3_guessesForPart 0 = .ok (.iload_n 3, 1) := by decide +kernel
theorem dX3_guessesForPart_1 : decode cX3_guessesForPart 1 = .ok (.iload 4, 2) := by decide +kernel
theorem dX3_guessesForPart_3 : decode cX3_guessesForPart 3 = .ok (.iadd, 1) := by decide +kernel
theorem dX3_guessesForPart_4 : decode cX3_guessesForPart 4 = .ok (.istore 6, 2) := by decide +kernel
theorem dX3_guessesForPart_6 : decode cX3_guessesForPart 6 = .ok (.iload 6, 2) := by decide +kernel
theorem dX3_guessesForPart_8 : decode cX3_guessesForPart 8 = .ok (.istore 7, 2) := by decide +kernel
theorem dX3_guessesForPart_10 : decode cX3_guessesForPart 10 = .ok (.iload_n 3, 1) := by decide +kernel
theorem dX3_guessesForPart_11 : decode cX3_guessesForPart 11 = .ok (.istore 8, 2) := by decide +kernel
theorem dX3_guessesForPart_13 : decode cX3_guessesForPart 13 = .ok (.iload 8, 2) := by decide +kernel
theorem dX3_guessesForPart_15 : decode cX3_guessesForPart 15 = .ok (.iload 6, 2) := by decide +kernel
theorem dX3_guessesForPart_17 : decode cX3_guessesForPart 17 = .ok (.if_icmp .ge 55, 3) := by decide +kernel
theorem dX3_guessesForPart_20 : decode cX3_guessesForPart 20 = .ok (.iload 7, 2) := by decide +kernel
theorem dX3_guessesForPart_22 : decode cX3_guessesForPart 22 = .ok (.aload_n 0, 1) := by decide +kernel
theorem dX3_guessesForPart_23 : decode cX3_guessesForPart 23 = .ok (.getfield 36, 3) := by decide +kernel
theorem dX3_guessesForPart_26 : decode cX3_guessesForPart 26 = .ok (.arraylength, 1) := by decide +kernel
theorem dX3_guessesForPart_27 : decode cX3_guessesForPart 27 = .ok (.if_icmp .ge 45, 3) := by decide +kernel
theorem dX3_guessesForPart_30 : decode cX3_guessesForPart 30 = .ok (.aload_n 0, 1) := by decide +kernel
theorem dX3_guessesForPart_31 : decode cX3_guessesForPart 31 = .ok (.getfield 12, 3) := by decide +kernel
theorem dX3_guessesForPart_34 : decode cX3_guessesForPart 34 = .ok (.iload_n 1, 1) := by decide +kernel
theorem dX3_guessesForPart_35 : decode cX3_guessesForPart 35 = .ok (.aload_n 0, 1) := by decide +kernel
theorem dX3_guessesForPart_36 : decode cX3_guessesForPart 36 = .ok (.getfield 36, 3) := by decide +kernel
theorem dX3_guessesForPart_39 : decode cX3_guessesForPart 39 = .ok (.iload 8, 2) := by decide +kernel
theorem dX3_guessesForPart_41 : decode cX3_guessesForPart 41 = .ok (.iaload, 1) := by decide +kernel
theorem dX3_guessesForPart_42 : decode cX3_guessesForPart 42 = .ok (.invokevirtual 75, 3) := by decide +kernel
theorem dX3_guessesForPart_45 : decode cX3_guessesForPart 45 = .ok (.iload_n 2, 1) := by decide +kernel
theorem dX3_guessesForPart_46 : decode cX3_guessesForPart 46 = .ok (.if_icmp .ne 20, 3) := by decide +kernel
theorem dX3_guessesForPart_49 : decode cX3_guessesForPart 49 = .ok (.aload_n 0, 1) := by decide +kernel
theorem dX3_guessesForPart_50 : decode cX3_guessesForPart 50 = .ok (.getfield 36, 3) := by decide +kernel
theorem dX3_guessesForPart_53 : decode cX3_guessesForPart 53 = .ok (.iload 7, 2) := by decide +kernel
theorem dX3_guessesForPart_55 : decode cX3_guessesForPart 55 = .ok (.aload_n 0, 1) := by decide +kernel
theorem dX3_guessesForPart_56 : decode cX3_guessesForPart 56 = .ok (.getfield 36, 3) := by decide +kernel
theorem dX3_guessesForPart_59 : decode cX3_guessesForPart 59 = .ok (.iload 8, 2) := by decide +kernel
theorem dX3_guessesForPart_61 : decode cX3_guessesForPart 61 = .ok (.iaload, 1) := by decide +kernel
theorem dX3_guessesForPart_62 : decode cX3_guessesForPart 62 = .ok (.iastore, 1) := by decide +kernel
theorem dX3_guessesForPart_63 : decode cX3_guessesForPart 63 = .ok (.iinc 7 1, 3) := by decide +kernel
theorem dX3_guessesForPart_66 : decode cX3_guessesForPart 66 = .ok (.iinc 8 1, 3) := by decide +kernel
theorem dX3_guessesForPart_69 : decode cX3_guessesForPart 69 = .ok (.goto (-56), 3) := by decide +kernel
theorem dX3_guessesForPart_72 : decode cX3_guessesForPart 72 = .ok (.aload_n 0, 1) := by decide +kernel
theorem dX3_guessesForPart_73 : decode cX3_guessesForPart 73 = .ok (.iload 6, 2) := by decide +kernel
theorem dX3_guessesForPart_75 : decode cX3_guessesForPart 75 = .ok (.iload 7, 2) := by decide +kernel
theorem dX3_guessesForPart_77 : decode cX3_guessesForPart 77 = .ok (.iload 6, 2) := by decide +kernel
theorem dX3_guessesForPart_79 : decode cX3_guessesForPart 79 = .ok (.isub, 1) := by decide +kernel
theorem dX3_guessesForPart_80 : decode cX3_guessesForPart 80 = .ok (.iload 5, 2) := by decide +kernel
theorem dX3_guessesForPart_82 : decode cX3_guessesForPart 82 = .ok (.iconst 1, 1) := by decide +kernel
theorem dX3_guessesForPart_83 : decode cX3_guessesForPart 83 = .ok (.iadd, 1) := by decide +kernel
theorem dX3_guessesForPart_84 : decode cX3_guessesForPart 84 = .ok (.invokevirtual 197, 3) := by decide +kernel
theorem dX3_guessesForPart_87 : decode cX3_guessesForPart 87 = .ok (.ireturn, 1) := by decide +kernel
set_option maxRecDepth 20000 in
theorem ggX3_opensPart_X1_compare : GoodIn wsX3_opensPart wsX1_compare := goodIn_r _ [7, 8, 9, 10, 11, 12, 13, 14, 6, 15, 16, 17, 18, 19, 20, 21, 22, 23, 24, 25, 26, 27, 28, 29, 30, 39, 40, 41, 42, 43] (by decide +kernel) (by decide +kernel)
set_option maxRecDepth 20000 in
theorem gX3_opensPart_X1_compare : GoodIn wsX3_opensPart (wsV RX3 75 RX1 yX1_compare wsX1_compare) := goodIn_app (goodIn_of _ (by decide +kernel)) ggX3_opensPart_X1_compare
theorem dX3_opensPart_0 : decode cX3_opensPart 0 = .ok (.aload_n 0, 1) := by decide +kernel
theorem dX3_opensPart_1 : decode cX3_opensPart 1 = .ok (.getfield 12, 3) := by decide +kernel
theorem dX3_opensPart_4 : decode cX3_opensPart 4 = .ok (.iload_n 1, 1) := by decide +kernel
theorem dX3_opensPart_5 : decode cX3_opensPart 5 = .ok (.aload_n 0, 1) := by decide +kernel
theorem dX3_opensPart_6 : decode cX3_opensPart 6 = .ok (.getfield 36, 3) := by decide +kernel
theorem dX3_opensPart_9 : decode cX3_opensPart 9 = .ok (.iload_n 3, 1) := by decide +kernel
theorem dX3_opensPart_10 : decode cX3_opensPart 10 = .ok (.iaload, 1) := by decide +kernel
theorem dX3_opensPart_11 : decode cX3_opensPart 11 = .ok (.invokevirtual 75, 3) := by decide +kernel
theorem dX3_opensPart_14 : decode cX3_opensPart 14 = .ok (.istore 4, 2) := by decide +kernel
theorem dX3_opensPart_16 : decode cX3_opensPart 16 = .ok (.iload_n 2, 1) := by decide +kernel
theorem dX3_opensPart_17 : decode cX3_opensPart 17 = .ok (.istore 5, 2) := by decide +kernel
theorem dX3_opensPart_19 : decode cX3_opensPart 19 = .ok (.iload 5, 2) := by decide +kernel
theorem dX3_opensPart_21 : decode cX3_opensPart 21 = .ok (.iload_n 3, 1) := by decide +kernel
theorem dX3_opensPart_22 : decode cX3_opensPart 22 = .ok (.if_icmp .ge 31, 3) := by decide +kernel
theorem dX3_opensPart_25 : decode cX3_opensPart 25 = .ok (.aload_n 0, 1) := by decide +kernel
theorem dX3_opensPart_26 : decode cX3_opensPart 26 = .ok (.getfield 12, 3) := by decide +kernel
theorem dX3_opensPart_29 : decode cX3_opensPart 29 = .ok (.iload_n 1, 1) := by decide +kernel
theorem dX3_opensPart_30 : decode cX3_opensPart 30 = .ok (.aload_n 0, 1) := by decide +kernel
theorem dX3_opensPart_31 : decode cX3_opensPart 31 = .ok (.getfield 36, 3) := by decide +kernel
theorem dX3_opensPart_34 : decode cX3_opensPart 34 = .ok (.iload 5, 2) := by decide +kernel
theorem dX3_opensPart_36 : decode cX3_opensPart 36 = .ok (.iaload, 1) := by decide +kernel
theorem dX3_opensPart_37 : decode cX3_opensPart 37 = .ok (.invokevirtual 75, 3) := by decide +kernel
theorem dX3_opensPart_40 : decode cX3_opensPart 40 = .ok (.iload 4, 2) := by decide +kernel
theorem dX3_opensPart_42 : decode cX3_opensPart 42 = .ok (.if_icmp .ne 5, 3) := by decide +kernel
theorem dX3_opensPart_45 : decode cX3_opensPart 45 = .ok (.iconst 0, 1) := by decide +kernel
theorem dX3_opensPart_46 : decode cX3_opensPart 46 = .ok (.ireturn, 1) := by decide +kernel
theorem dX3_opensPart_47 : decode cX3_opensPart 47 = .ok (.iinc 5 1, 3) := by decide +kernel
theorem dX3_opensPart_50 : decode cX3_opensPart 50 = .ok (.goto (-31), 3) := by decide +kernel
theorem dX3_opensPart_53 : decode cX3_opensPart 53 = .ok (.iconst 1, 1) := by decide +kernel
theorem dX3_opensPart_54 : decode cX3_opensPart 54 = .ok (.ireturn, 1) := by decide +kernel
set_option maxRecDepth 20000 in
theorem ggX3_proofSize_X3_shortestProof : GoodIn wsX3_proofSize wsX3_shortestProof := goodIn_r _ [6, 7, 8, 9, 10, 11, 12, 13, 14, 15, 16, 17, 18, 19, 20, 21, 22, 23, 5, 24, 25, 26, 27, 28, 29, 30, 31, 32, 33, 34, 35, 36, 37, 38, 39, 40, 41, 42, 43, 44, 45, 46, 47, 48, 49, 50, 51, 52, 53, 54, 55, 56, 57, 58] (by decide +kernel) (by decide +kernel)
set_option maxRecDepth 20000 in
theorem gX3_proofSize_X3_shortestProof : GoodIn wsX3_proofSize (wsV RX3 230 RX3 yX3_shortestProof wsX3_shortestProof) := goodIn_app (goodIn_of _ (by decide +kernel)) ggX3_proofSize_X3_shortestProof
set_option maxRecDepth 20000 in
theorem ggX3_proofSize_J6_bitCount_0f7a4 : GoodIn wsX3_proofSize wsJ6_bitCount_0f7a4 := goodIn_r _ [17, 18, 19, 20] (by decide +kernel) (by decide +kernel)
set_option maxRecDepth 20000 in
theorem gX3_proofSize_J6_bitCount_0f7a4 : GoodIn wsX3_proofSize (va_wsS RX3 233 yJ6_bitCount_0f7a4 wsJ6_bitCount_0f7a4) := goodIn_app (goodIn_of _ (by decide +kernel)) ggX3_proofSize_J6_bitCount_0f7a4
theorem dX3_proofSize_0 : decode cX3_proofSize 0 = .ok (.aload_n 0, 1) := by decide +kernel
theorem dX3_proofSize_1 : decode cX3_proofSize 1 = .ok (.getfield 133, 3) := by decide +kernel
theorem dX3_proofSize_4 : decode cX3_proofSize 4 = .ok (.iconst 1, 1) := by decide +kernel
theorem dX3_proofSize_5 : decode cX3_proofSize 5 = .ok (.if_icmp .ne 13, 3) := by decide +kernel
theorem dX3_proofSize_8 : decode cX3_proofSize 8 = .ok (.aload_n 0, 1) := by decide +kernel
theorem dX3_proofSize_9 : decode cX3_proofSize 9 = .ok (.invokevirtual 230, 3) := by decide +kernel
theorem dX3_proofSize_12 : decode cX3_proofSize 12 = .ok (.invokestatic 233, 3) := by decide +kernel
theorem dX3_proofSize_15 : decode cX3_proofSize 15 = .ok (.goto 4, 3) := by decide +kernel
theorem dX3_proofSize_18 : decode cX3_proofSize 18 = .ok (.iconst (-1), 1) := by decide +kernel
theorem dX3_proofSize_19 : decode cX3_proofSize 19 = .ok (.ireturn, 1) := by decide +kernel
set_option maxRecDepth 20000 in
theorem ggX3_isInProof_X3_requireEntry : GoodIn wsX3_isInProof wsX3_requireEntry := goodIn_ca (goodIn_r _ [9, 10, 11, 4, 12, 13, 14, 15, 16, 17, 58, 59, 60, 61, 62, 63, 64, 65, 66, 67, 68, 69, 70] (by decide +kernel) (by decide +kernel)) (goodIn_sub (fun _ h => List.mem_cons_of_mem _ (List.mem_append_right _ h)) (by decide +kernel))
set_option maxRecDepth 20000 in
theorem gX3_isInProof_X3_requireEntry : GoodIn wsX3_isInProof (wsV RX3 144 RX3 yX3_requireEntry wsX3_requireEntry) := goodIn_app (goodIn_of _ (by decide +kernel)) ggX3_isInProof_X3_requireEntry
set_option maxRecDepth 20000 in
theorem ggX3_isInProof_X3_shortestProof : GoodIn wsX3_isInProof wsX3_shortestProof := goodIn_r _ [21, 4, 22, 23, 24, 15, 25, 17, 26, 27, 28, 29, 30, 31, 32, 33, 34, 35, 8, 36, 37, 38, 39, 40, 41, 42, 43, 44, 45, 46, 47, 48, 49, 50, 51, 52, 58, 59, 60, 61, 62, 63, 64, 65, 66, 67, 68, 69, 70, 71, 72, 73, 74, 75] (by decide +kernel) (by decide +kernel)
set_option maxRecDepth 20000 in
theorem gX3_isInProof_X3_shortestProof : GoodIn wsX3_isInProof (wsV RX3 230 RX3 yX3_shortestProof wsX3_shortestProof) := goodIn_app (goodIn_of _ (by decide +kernel)) ggX3_isInProof_X3_shortestProof
set_option maxRecDepth 20000 in
theorem ggX3_isInProof_X0_bitOf : GoodIn wsX3_isInProof wsX0_bitOf := goodIn_r _ [56, 17, 57, 13, 14, 15, 16, 66, 67, 68, 69, 70] (by decide +kernel) (by decide +kernel)
set_option maxRecDepth 20000 in
theorem gX3_isInProof_X0_bitOf : GoodIn wsX3_isInProof (wsV RX3 240 RX0 yX0_bitOf wsX0_bitOf) := goodIn_app (goodIn_of _ (by decide +kernel)) ggX3_isInProof_X0_bitOf
theorem dX3_isInProof_0 : decode cX3_isInProof 0 = .ok (.aload_n 0, 1) := by decide +kernel
theorem dX3_isInProof_1 : decode cX3_isInProof 1 = .ok (.iload_n 1, 1) := by decide +kernel
theorem dX3_isInProof_2 : decode cX3_isInProof 2 = .ok (.invokevirtual 144, 3) := by decide +kernel
theorem dX3_isInProof_5 : decode cX3_isInProof 5 = .ok (.aload_n 0, 1) := by decide +kernel
theorem dX3_isInProof_6 : decode cX3_isInProof 6 = .ok (.getfield 133, 3) := by decide +kernel
theorem dX3_isInProof_9 : decode cX3_isInProof 9 = .ok (.iconst 1, 1) := by decide +kernel
theorem dX3_isInProof_10 : decode cX3_isInProof 10 = .ok (.if_icmp .eq 13, 3) := by decide +kernel
theorem dX3_isInProof_13 : decode cX3_isInProof 13 = .ok (.new 87, 3) := by decide +kernel
theorem dX3_isInProof_16 : decode cX3_isInProof 16 = .ok (.dup, 1) := by decide +kernel
theorem dX3_isInProof_17 : decode cX3_isInProof 17 = .ok (.ldc 238, 2) := by decide +kernel
theorem dX3_isInProof_19 : decode cX3_isInProof 19 = .ok (.invokespecial 91, 3) := by decide +kernel
theorem dX3_isInProof_22 : decode cX3_isInProof 22 = .ok (.athrow, 1) := by decide +kernel
theorem dX3_isInProof_23 : decode cX3_isInProof 23 = .ok (.aload_n 0, 1) := by decide +kernel
theorem dX3_isInProof_24 : decode cX3_isInProof 24 = .ok (.invokevirtual 230, 3) := by decide +kernel
theorem dX3_isInProof_27 : decode cX3_isInProof 27 = .ok (.aload_n 0, 1) := by decide +kernel
theorem dX3_isInProof_28 : decode cX3_isInProof 28 = .ok (.getfield 21, 3) := by decide +kernel
theorem dX3_isInProof_31 : decode cX3_isInProof 31 = .ok (.iload_n 1, 1) := by decide +kernel
theorem dX3_isInProof_32 : decode cX3_isInProof 32 = .ok (.invokevirtual 240, 3) := by decide +kernel
theorem dX3_isInProof_35 : decode cX3_isInProof 35 = .ok (.iand, 1) := by decide +kernel
theorem dX3_isInProof_36 : decode cX3_isInProof 36 = .ok (.ifCond .eq 7, 3) := by decide +kernel
theorem dX3_isInProof_39 : decode cX3_isInProof 39 = .ok (.iconst 1, 1) := by decide +kernel
theorem dX3_isInProof_40 : decode cX3_isInProof 40 = .ok (.goto 4, 3) := by decide +kernel
theorem dX3_isInProof_43 : decode cX3_isInProof 43 = .ok (.iconst 0, 1) := by decide +kernel
theorem dX3_isInProof_44 : decode cX3_isInProof 44 = .ok (.ireturn, 1) := by decide +kernel
set_option maxRecDepth 20000 in
theorem ggX3_shortestProof_X0_allBits : GoodIn wsX3_shortestProof wsX0_allBits := goodIn_r _ [6, 7, 44, 45, 46, 47, 48] (by decide +kernel) (by decide +kernel)
set_option maxRecDepth 20000 in
theorem gX3_shortestProof_X0_allBits : GoodIn wsX3_shortestProof (wsV RX3 243 RX0 yX0_allBits wsX0_allBits) := goodIn_app (goodIn_of _ (by decide +kernel)) ggX3_shortestProof_X0_allBits
set_option maxRecDepth 20000 in
theorem ggX3_shortestProof_J6_bitCount_0f7a4 : GoodIn wsX3_shortestProof wsJ6_bitCount_0f7a4 := goodIn_r _ [11, 12, 13, 14] (by decide +kernel) (by decide +kernel)
set_option maxRecDepth 20000 in
theorem gX3_shortestProof_J6_bitCount_0f7a4 : GoodIn wsX3_shortestProof (va_wsS RX3 233 yJ6_bitCount_0f7a4 wsJ6_bitCount_0f7a4) := goodIn_app (goodIn_of _ (by decide +kernel)) ggX3_shortestProof_J6_bitCount_0f7a4
set_option maxRecDepth 20000 in
theorem ggX3_shortestProof_X3_leavesOne : GoodIn wsX3_shortestProof wsX3_leavesOne := goodIn_r _ [19, 20, 21, 1, 22, 23, 24, 25, 5, 26, 27, 28, 29, 30, 31, 32, 33, 34, 35, 9, 10, 11, 12, 13, 14, 36, 37, 38, 39, 40, 41, 42, 43, 49, 50, 51, 52, 53, 44, 45, 46, 47, 48] (by decide +kernel) (by decide +kernel)
set_option maxRecDepth 20000 in
theorem gX3_shortestProof_X3_leavesOne : GoodIn wsX3_shortestProof (wsV RX3 246 RX3 yX3_leavesOne wsX3_leavesOne) := goodIn_app (goodIn_of _ (by decide +kernel)) ggX3_shortestProof_X3_leavesOne
theorem dX3_shortestProof_0 : decode cX3_shortestProof 0 = .ok (.aload_n 0, 1) := by decide +kernel
theorem dX3_shortestProof_1 : decode cX3_shortestProof 1 = .ok (.getfield 21, 3) := by decide +kernel
theorem dX3_shortestProof_4 : decode cX3_shortestProof 4 = .ok (.invokevirtual 243, 3) := by decide +kernel
theorem dX3_shortestProof_7 : decode cX3_shortestProof 7 = .ok (.istore_n 1, 1) := by decide +kernel
theorem dX3_shortestProof_8 : decode cX3_shortestProof 8 = .ok (.aload_n 0, 1) := by decide +kernel
theorem dX3_shortestProof_9 : decode cX3_shortestProof 9 = .ok (.getfield 21, 3) := by decide +kernel
theorem dX3_shortestProof_12 : decode cX3_shortestProof 12 = .ok (.invokevirtual 243, 3) := by decide +kernel
theorem dX3_shortestProof_15 : decode cX3_shortestProof 15 = .ok (.iconst 1, 1) := by decide +kernel
theorem dX3_shortestProof_16 : decode cX3_shortestProof 16 = .ok (.isub, 1) := by decide +kernel
theorem dX3_shortestProof_17 : decode cX3_shortestProof 17 = .ok (.istore_n 2, 1) := by decide +kernel
theorem dX3_shortestProof_18 : decode cX3_shortestProof 18 = .ok (.iload_n 2, 1) := by decide +kernel
theorem dX3_shortestProof_19 : decode cX3_shortestProof 19 = .ok (.ifCond .le 30, 3) := by decide +kernel
theorem dX3_shortestProof_22 : decode cX3_shortestProof 22 = .ok (.iload_n 2, 1) := by decide +kernel
theorem dX3_shortestProof_23 : decode cX3_shortestProof 23 = .ok (.invokestatic 233, 3) := by decide +kernel
theorem dX3_shortestProof_26 : decode cX3_shortestProof 26 = .ok (.iload_n 1, 1) := by decide +kernel
theorem dX3_shortestProof_27 : decode cX3_shortestProof 27 = .ok (.invokestatic 233, 3) := by decide +kernel
theorem dX3_shortestProof_30 : decode cX3_shortestProof 30 = .ok (.if_icmp .ge 13, 3) := by decide +kernel
theorem dX3_shortestProof_33 : decode cX3_shortestProof 33 = .ok (.aload_n 0, 1) := by decide +kernel
theorem dX3_shortestProof_34 : decode cX3_shortestProof 34 = .ok (.iload_n 2, 1) := by decide +kernel
theorem dX3_shortestProof_35 : decode cX3_shortestProof 35 = .ok (.invokevirtual 246, 3) := by decide +kernel
theorem dX3_shortestProof_38 : decode cX3_shortestProof 38 = .ok (.ifCond .eq 5, 3) := by decide +kernel
theorem dX3_shortestProof_41 : decode cX3_shortestProof 41 = .ok (.iload_n 2, 1) := by decide +kernel
theorem dX3_shortestProof_42 : decode cX3_shortestProof 42 = .ok (.istore_n 1, 1) := by decide +kernel
theorem dX3_shortestProof_43 : decode cX3_shortestProof 43 = .ok (.iinc 2 (-1), 3) := by decide +kernel
theorem dX3_shortestProof_46 : decode cX3_shortestProof 46 = .ok (.goto (-28), 3) := by decide +kernel
theorem dX3_shortestProof_49 : decode cX3_shortestProof 49 = .ok (.iload_n 1, 1) := by decide +kernel
theorem dX3_shortestProof_50 : decode cX3_shortestProof 50 = .ok (.ireturn, 1) := by decide +kernel
set_option maxRecDepth 20000 in
theorem ggX3_leavesOne_X0_countLiesIn : GoodIn wsX3_leavesOne wsX0_countLiesIn := goodIn_r _ [9, 10, 11, 12, 13, 14, 15, 16, 17, 18, 19, 20, 21, 22, 23, 24, 38, 39, 40, 41, 42, 33, 34, 35, 36, 37] (by decide +kernel) (by decide +kernel)
set_option maxRecDepth 20000 in
theorem gX3_leavesOne_X0_countLiesIn : GoodIn wsX3_leavesOne (wsV RX3 249 RX0 yX0_countLiesIn wsX0_countLiesIn) := goodIn_app (goodIn_of _ (by decide +kernel)) ggX3_leavesOne_X0_countLiesIn
theorem dX3_leavesOne_0 : decode cX3_leavesOne 0 = .ok (.iconst 0, 1) := by decide +kernel
theorem dX3_leavesOne_1 : decode cX3_leavesOne 1 = .ok (.istore_n 2, 1) := by decide +kernel
theorem dX3_leavesOne_2 : decode cX3_leavesOne 2 = .ok (.iconst 0, 1) := by decide +kernel
theorem dX3_leavesOne_3 : decode cX3_leavesOne 3 = .ok (.istore_n 3, 1) := by decide +kernel
theorem dX3_leavesOne_4 : decode cX3_leavesOne 4 = .ok (.iload_n 3, 1) := by decide +kernel
theorem dX3_leavesOne_5 : decode cX3_leavesOne 5 = .ok (.aload_n 0, 1) := by decide +kernel
theorem dX3_leavesOne_6 : decode cX3_leavesOne 6 = .ok (.getfield 12, 3) := by decide +kernel
theorem dX3_leavesOne_9 : decode cX3_leavesOne 9 = .ok (.getfield 53, 3) := by decide +kernel
theorem dX3_leavesOne_12 : decode cX3_leavesOne 12 = .ok (.if_icmp .ge 33, 3) := by decide +kernel
theorem dX3_leavesOne_15 : decode cX3_leavesOne 15 = .ok (.iload_n 2, 1) := by decide +kernel
theorem dX3_leavesOne_16 : decode cX3_leavesOne 16 = .ok (.iconst 2, 1) := by decide +kernel
theorem dX3_leavesOne_17 : decode cX3_leavesOne 17 = .ok (.if_icmp .ge 28, 3) := by decide +kernel
theorem dX3_leavesOne_20 : decode cX3_leavesOne 20 = .ok (.aload_n 0, 1) := by decide +kernel
theorem dX3_leavesOne_21 : decode cX3_leavesOne 21 = .ok (.getfield 21, 3) := by decide +kernel
theorem dX3_leavesOne_24 : decode cX3_leavesOne 24 = .ok (.iload_n 1, 1) := by decide +kernel
theorem dX3_leavesOne_25 : decode cX3_leavesOne 25 = .ok (.iload_n 3, 1) := by decide +kernel
theorem dX3_leavesOne_26 : decode cX3_leavesOne 26 = .ok (.invokevirtual 249, 3) := by decide +kernel
theorem dX3_leavesOne_29 : decode cX3_leavesOne 29 = .ok (.aload_n 0, 1) := by decide +kernel
theorem dX3_leavesOne_30 : decode cX3_leavesOne 30 = .ok (.getfield 92, 3) := by decide +kernel
theorem dX3_leavesOne_33 : decode cX3_leavesOne 33 = .ok (.if_icmp .gt 6, 3) := by decide +kernel
theorem dX3_leavesOne_36 : decode cX3_leavesOne 36 = .ok (.iinc 2 1, 3) := by decide +kernel
theorem dX3_leavesOne_39 : decode cX3_leavesOne 39 = .ok (.iinc 3 1, 3) := by decide +kernel
theorem dX3_leavesOne_42 : decode cX3_leavesOne 42 = .ok (.goto (-38), 3) := by decide +kernel
theorem dX3_leavesOne_45 : decode cX3_leavesOne 45 = .ok (.iload_n 2, 1) := by decide +kernel
theorem dX3_leavesOne_46 : decode cX3_leavesOne 46 = .ok (.iconst 1, 1) := by decide +kernel
theorem dX3_leavesOne_47 : decode cX3_leavesOne 47 = .ok (.if_icmp .ne 7, 3) := by decide +kernel
theorem dX3_leavesOne_50 : decode cX3_leavesOne 50 = .ok (.iconst 1, 1) := by decide +kernel
theorem dX3_leavesOne_51 : decode cX3_leavesOne 51 = .ok (.goto 4, 3) := by decide +kernel
theorem dX3_leavesOne_54 : decode cX3_leavesOne 54 = .ok (.iconst 0, 1) := by decide +kernel
theorem dX3_leavesOne_55 : decode cX3_leavesOne 55 = .ok (.ireturn, 1) := by decide +kernel
