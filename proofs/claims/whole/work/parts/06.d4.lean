theorem dX4_init_0 : decode cX4_init 0 = .ok (.aload_n 0, 1) := by decide +kernel
theorem dX4_init_1 : decode cX4_init 1 = .ok (.invokespecial 1, 3) := by decide +kernel
theorem dX4_init_4 : decode cX4_init 4 = .ok (.aload_n 0, 1) := by decide +kernel
theorem dX4_init_5 : decode cX4_init 5 = .ok (.iconst 3, 1) := by decide +kernel
theorem dX4_init_6 : decode cX4_init 6 = .ok (.putfield 7, 3) := by decide +kernel
theorem dX4_init_9 : decode cX4_init 9 = .ok (.aload_n 0, 1) := by decide +kernel
theorem dX4_init_10 : decode cX4_init 10 = .ok (.iconst 4, 1) := by decide +kernel
theorem dX4_init_11 : decode cX4_init 11 = .ok (.putfield 13, 3) := by decide +kernel
theorem dX4_init_14 : decode cX4_init 14 = .ok (.aload_n 0, 1) := by decide +kernel
theorem dX4_init_15 : decode cX4_init 15 = .ok (.bipush 64, 2) := by decide +kernel
theorem dX4_init_17 : decode cX4_init 17 = .ok (.putfield 16, 3) := by decide +kernel
theorem dX4_init_20 : decode cX4_init 20 = .ok (.aload_n 0, 1) := by decide +kernel
theorem dX4_init_21 : decode cX4_init 21 = .ok (.iconst (-1), 1) := by decide +kernel
theorem dX4_init_22 : decode cX4_init 22 = .ok (.putfield 19, 3) := by decide +kernel
theorem dX4_init_25 : decode cX4_init 25 = .ok (.aload_n 0, 1) := by decide +kernel
theorem dX4_init_26 : decode cX4_init 26 = .ok (.bipush 10, 2) := by decide +kernel
theorem dX4_init_28 : decode cX4_init 28 = .ok (.newarray .int, 2) := by decide +kernel
theorem dX4_init_30 : decode cX4_init 30 = .ok (.putfield 22, 3) := by decide +kernel
theorem dX4_init_33 : decode cX4_init 33 = .ok (.aload_n 0, 1) := by decide +kernel
theorem dX4_init_34 : decode cX4_init 34 = .ok (.bipush 10, 2) := by decide +kernel
theorem dX4_init_36 : decode cX4_init 36 = .ok (.newarray .int, 2) := by decide +kernel
theorem dX4_init_38 : decode cX4_init 38 = .ok (.putfield 26, 3) := by decide +kernel
theorem dX4_init_41 : decode cX4_init 41 = .ok (.aload_n 0, 1) := by decide +kernel
theorem dX4_init_42 : decode cX4_init 42 = .ok (.bipush 6, 2) := by decide +kernel
theorem dX4_init_44 : decode cX4_init 44 = .ok (.newarray .int, 2) := by decide +kernel
theorem dX4_init_46 : decode cX4_init 46 = .ok (.putfield 29, 3) := by decide +kernel
theorem dX4_init_49 : decode cX4_init 49 = .ok (.aload_n 0, 1) := by decide +kernel
theorem dX4_init_50 : decode cX4_init 50 = .ok (.bipush 100, 2) := by decide +kernel
theorem dX4_init_52 : decode cX4_init 52 = .ok (.newarray .int, 2) := by decide +kernel
theorem dX4_init_54 : decode cX4_init 54 = .ok (.putfield 32, 3) := by decide +kernel
theorem dX4_init_57 : decode cX4_init 57 = .ok (.aload_n 0, 1) := by decide +kernel
theorem dX4_init_58 : decode cX4_init 58 = .ok (.sipush 2048, 3) := by decide +kernel
theorem dX4_init_61 : decode cX4_init 61 = .ok (.newarray .int, 2) := by decide +kernel
theorem dX4_init_63 : decode cX4_init 63 = .ok (.putfield 35, 3) := by decide +kernel
theorem dX4_init_66 : decode cX4_init 66 = .ok (.aload_n 0, 1) := by decide +kernel
theorem dX4_init_67 : decode cX4_init 67 = .ok (.sipush 700, 3) := by decide +kernel
theorem dX4_init_70 : decode cX4_init 70 = .ok (.newarray .int, 2) := by decide +kernel
theorem dX4_init_72 : decode cX4_init 72 = .ok (.putfield 38, 3) := by decide +kernel
theorem dX4_init_75 : decode cX4_init 75 = .ok (.aload_n 0, 1) := by decide +kernel
theorem dX4_init_76 : decode cX4_init 76 = .ok (.sipush 700, 3) := by decide +kernel
theorem dX4_init_79 : decode cX4_init 79 = .ok (.newarray .int, 2) := by decide +kernel
theorem dX4_init_81 : decode cX4_init 81 = .ok (.putfield 41, 3) := by decide +kernel
theorem dX4_init_84 : decode cX4_init 84 = .ok (.aload_n 0, 1) := by decide +kernel
theorem dX4_init_85 : decode cX4_init 85 = .ok (.sipush 700, 3) := by decide +kernel
theorem dX4_init_88 : decode cX4_init 88 = .ok (.newarray .int, 2) := by decide +kernel
theorem dX4_init_90 : decode cX4_init 90 = .ok (.putfield 44, 3) := by decide +kernel
theorem dX4_init_93 : decode cX4_init 93 = .ok (.aload_n 0, 1) := by decide +kernel
theorem dX4_init_94 : decode cX4_init 94 = .ok (.sipush 256, 3) := by decide +kernel
theorem dX4_init_97 : decode cX4_init 97 = .ok (.newarray .int, 2) := by decide +kernel
theorem dX4_init_99 : decode cX4_init 99 = .ok (.putfield 47, 3) := by decide +kernel
theorem dX4_init_102 : decode cX4_init 102 = .ok (.return_, 1) := by decide +kernel
theorem dX4_thrown_0 : decode cX4_thrown 0 = .ok (.aload_n 0, 1) := by decide +kernel
theorem dX4_thrown_1 : decode cX4_thrown 1 = .ok (.getfield 50, 3) := by decide +kernel
theorem dX4_thrown_4 : decode cX4_thrown 4 = .ok (.ireturn, 1) := by decide +kernel
theorem dX4_in_0 : decode cX4_in 0 = .ok (.iload_n 0, 1) := by decide +kernel
theorem dX4_in_1 : decode cX4_in 1 = .ok (.iload_n 1, 1) := by decide +kernel
theorem dX4_in_2 : decode cX4_in 2 = .ok (.if_icmp .lt 12, 3) := by decide +kernel
theorem dX4_in_5 : decode cX4_in 5 = .ok (.iload_n 0, 1) := by decide +kernel
theorem dX4_in_6 : decode cX4_in 6 = .ok (.iload_n 2, 1) := by decide +kernel
theorem dX4_in_7 : decode cX4_in 7 = .ok (.if_icmp .gt 7, 3) := by decide +kernel
theorem dX4_in_10 : decode cX4_in 10 = .ok (.iconst 1, 1) := by decide +kernel
theorem dX4_in_11 : decode cX4_in 11 = .ok (.goto 4, 3) := by decide +kernel
theorem dX4_in_14 : decode cX4_in 14 = .ok (.iconst 0, 1) := by decide +kernel
theorem dX4_in_15 : decode cX4_in 15 = .ok (.ireturn, 1) := by decide +kernel
set_option maxRecDepth 20000 in
theorem ggX4_isRow_X4_in : GoodIn wsX4_isRow wsX4_in := goodIn_r _ [5] (by decide +kernel) (by decide +kernel)
set_option maxRecDepth 20000 in
theorem gX4_isRow_X4_in : GoodIn wsX4_isRow (va_wsS RX4 53 yX4_in wsX4_in) := goodIn_app (goodIn_of _ (by decide +kernel)) ggX4_isRow_X4_in
theorem dX4_isRow_0 : decode cX4_isRow 0 = .ok (.iload_n 1, 1) := by decide +kernel
theorem dX4_isRow_1 : decode cX4_isRow 1 = .ok (.iconst 0, 1) := by decide +kernel
theorem dX4_isRow_2 : decode cX4_isRow 2 = .ok (.aload_n 0, 1) := by decide +kernel
theorem dX4_isRow_3 : decode cX4_isRow 3 = .ok (.getfield 16, 3) := by decide +kernel
theorem dX4_isRow_6 : decode cX4_isRow 6 = .ok (.iconst 1, 1) := by decide +kernel
theorem dX4_isRow_7 : decode cX4_isRow 7 = .ok (.isub, 1) := by decide +kernel
theorem dX4_isRow_8 : decode cX4_isRow 8 = .ok (.invokestatic 53, 3) := by decide +kernel
theorem dX4_isRow_11 : decode cX4_isRow 11 = .ok (.ireturn, 1) := by decide +kernel
theorem dX4_power_0 : decode cX4_power 0 = .ok (.iconst 1, 1) := by decide +kernel
theorem dX4_power_1 : decode cX4_power 1 = .ok (.istore_n 2, 1) := by decide +kernel
theorem dX4_power_2 : decode cX4_power 2 = .ok (.iconst 0, 1) := by decide +kernel
theorem dX4_power_3 : decode cX4_power 3 = .ok (.istore_n 3, 1) := by decide +kernel
theorem dX4_power_4 : decode cX4_power 4 = .ok (.iload_n 3, 1) := by decide +kernel
theorem dX4_power_5 : decode cX4_power 5 = .ok (.iload_n 1, 1) := by decide +kernel
theorem dX4_power_6 : decode cX4_power 6 = .ok (.if_icmp .ge 13, 3) := by decide +kernel
theorem dX4_power_9 : decode cX4_power 9 = .ok (.iload_n 2, 1) := by decide +kernel
theorem dX4_power_10 : decode cX4_power 10 = .ok (.iload_n 0, 1) := by decide +kernel
theorem dX4_power_11 : decode cX4_power 11 = .ok (.imul, 1) := by decide +kernel
theorem dX4_power_12 : decode cX4_power 12 = .ok (.istore_n 2, 1) := by decide +kernel
theorem dX4_power_13 : decode cX4_power 13 = .ok (.iinc 3 1, 3) := by decide +kernel
theorem dX4_power_16 : decode cX4_power 16 = .ok (.goto (-12), 3) := by decide +kernel
theorem dX4_power_19 : decode cX4_power 19 = .ok (.iload_n 2, 1) := by decide +kernel
theorem dX4_power_20 : decode cX4_power 20 = .ok (.ireturn, 1) := by decide +kernel
set_option maxRecDepth 20000 in
theorem ggX4_begin_X4_in : GoodIn wsX4_begin wsX4_in := goodIn_r _ [11] (by decide +kernel) (by decide +kernel)
set_option maxRecDepth 20000 in
theorem gX4_begin_X4_in : GoodIn wsX4_begin (va_wsS RX4 53 yX4_in wsX4_in) := goodIn_app (goodIn_of _ (by decide +kernel)) ggX4_begin_X4_in
set_option maxRecDepth 20000 in
theorem ggX4_begin_X4_power : GoodIn wsX4_begin wsX4_power := goodIn_r _ [14] (by decide +kernel) (by decide +kernel)
set_option maxRecDepth 20000 in
theorem gX4_begin_X4_power : GoodIn wsX4_begin (va_wsS RX4 57 yX4_power wsX4_power) := goodIn_app (goodIn_of _ (by decide +kernel)) ggX4_begin_X4_power
theorem dX4_begin_0 : decode cX4_begin 0 = .ok (.aload_n 0, 1) := by decide +kernel
theorem dX4_begin_1 : decode cX4_begin 1 = .ok (.iload_n 1, 1) := by decide +kernel
theorem dX4_begin_2 : decode cX4_begin 2 = .ok (.iconst 1, 1) := by decide +kernel
theorem dX4_begin_3 : decode cX4_begin 3 = .ok (.bipush 8, 2) := by decide +kernel
theorem dX4_begin_5 : decode cX4_begin 5 = .ok (.invokestatic 53, 3) := by decide +kernel
theorem dX4_begin_8 : decode cX4_begin 8 = .ok (.ifCond .eq 28, 3) := by decide +kernel
theorem dX4_begin_11 : decode cX4_begin 11 = .ok (.iload_n 2, 1) := by decide +kernel
theorem dX4_begin_12 : decode cX4_begin 12 = .ok (.iconst 2, 1) := by decide +kernel
theorem dX4_begin_13 : decode cX4_begin 13 = .ok (.bipush 6, 2) := by decide +kernel
theorem dX4_begin_15 : decode cX4_begin 15 = .ok (.invokestatic 53, 3) := by decide +kernel
theorem dX4_begin_18 : decode cX4_begin 18 = .ok (.ifCond .eq 18, 3) := by decide +kernel
theorem dX4_begin_21 : decode cX4_begin 21 = .ok (.iload_n 2, 1) := by decide +kernel
theorem dX4_begin_22 : decode cX4_begin 22 = .ok (.iload_n 1, 1) := by decide +kernel
theorem dX4_begin_23 : decode cX4_begin 23 = .ok (.invokestatic 57, 3) := by decide +kernel
theorem dX4_begin_26 : decode cX4_begin 26 = .ok (.sipush 256, 3) := by decide +kernel
theorem dX4_begin_29 : decode cX4_begin 29 = .ok (.if_icmp .gt 7, 3) := by decide +kernel
theorem dX4_begin_32 : decode cX4_begin 32 = .ok (.iconst 0, 1) := by decide +kernel
theorem dX4_begin_33 : decode cX4_begin 33 = .ok (.goto 4, 3) := by decide +kernel
theorem dX4_begin_36 : decode cX4_begin 36 = .ok (.iconst 1, 1) := by decide +kernel
theorem dX4_begin_37 : decode cX4_begin 37 = .ok (.putfield 50, 3) := by decide +kernel
theorem dX4_begin_40 : decode cX4_begin 40 = .ok (.aload_n 0, 1) := by decide +kernel
theorem dX4_begin_41 : decode cX4_begin 41 = .ok (.getfield 50, 3) := by decide +kernel
theorem dX4_begin_44 : decode cX4_begin 44 = .ok (.ifCond .le 5, 3) := by decide +kernel
theorem dX4_begin_47 : decode cX4_begin 47 = .ok (.iconst 0, 1) := by decide +kernel
theorem dX4_begin_48 : decode cX4_begin 48 = .ok (.ireturn, 1) := by decide +kernel
theorem dX4_begin_49 : decode cX4_begin 49 = .ok (.aload_n 0, 1) := by decide +kernel
theorem dX4_begin_50 : decode cX4_begin 50 = .ok (.iload_n 1, 1) := by decide +kernel
theorem dX4_begin_51 : decode cX4_begin 51 = .ok (.putfield 7, 3) := by decide +kernel
theorem dX4_begin_54 : decode cX4_begin 54 = .ok (.aload_n 0, 1) := by decide +kernel
theorem dX4_begin_55 : decode cX4_begin 55 = .ok (.iload_n 2, 1) := by decide +kernel
theorem dX4_begin_56 : decode cX4_begin 56 = .ok (.putfield 13, 3) := by decide +kernel
theorem dX4_begin_59 : decode cX4_begin 59 = .ok (.aload_n 0, 1) := by decide +kernel
theorem dX4_begin_60 : decode cX4_begin 60 = .ok (.iload_n 2, 1) := by decide +kernel
theorem dX4_begin_61 : decode cX4_begin 61 = .ok (.iload_n 1, 1) := by decide +kernel
theorem dX4_begin_62 : decode cX4_begin 62 = .ok (.invokestatic 57, 3) := by decide +kernel
theorem dX4_begin_65 : decode cX4_begin 65 = .ok (.putfield 16, 3) := by decide +kernel
theorem dX4_begin_68 : decode cX4_begin 68 = .ok (.aload_n 0, 1) := by decide +kernel
theorem dX4_begin_69 : decode cX4_begin 69 = .ok (.iconst 0, 1) := by decide +kernel
theorem dX4_begin_70 : decode cX4_begin 70 = .ok (.putfield 61, 3) := by decide +kernel
theorem dX4_begin_73 : decode cX4_begin 73 = .ok (.aload_n 0, 1) := by decide +kernel
theorem dX4_begin_74 : decode cX4_begin 74 = .ok (.iconst (-1), 1) := by decide +kernel
theorem dX4_begin_75 : decode cX4_begin 75 = .ok (.putfield 19, 3) := by decide +kernel
theorem dX4_begin_78 : decode cX4_begin 78 = .ok (.aload_n 0, 1) := by decide +kernel
theorem dX4_begin_79 : decode cX4_begin 79 = .ok (.iconst 0, 1) := by decide +kernel
theorem dX4_begin_80 : decode cX4_begin 80 = .ok (.putfield 64, 3) := by decide +kernel
theorem dX4_begin_83 : decode cX4_begin 83 = .ok (.aload_n 0, 1) := by decide +kernel
theorem dX4_begin_84 : decode cX4_begin 84 = .ok (.getfield 16, 3) := by decide +kernel
theorem dX4_begin_87 : decode cX4_begin 87 = .ok (.ireturn, 1) := by decide +kernel
theorem dX4_rows_0 : decode cX4_rows 0 = .ok (.aload_n 0, 1) := by decide +kernel
theorem dX4_rows_1 : decode cX4_rows 1 = .ok (.iconst 0, 1) := by decide +kernel
theorem dX4_rows_2 : decode cX4_rows 2 = .ok (.putfield 50, 3) := by decide +kernel
theorem dX4_rows_5 : decode cX4_rows 5 = .ok (.aload_n 0, 1) := by decide +kernel
theorem dX4_rows_6 : decode cX4_rows 6 = .ok (.getfield 16, 3) := by decide +kernel
theorem dX4_rows_9 : decode cX4_rows 9 = .ok (.ireturn, 1) := by decide +kernel
set_option maxRecDepth 20000 in
theorem ggX4_colour_X4_power : GoodIn wsX4_colour wsX4_power := goodIn_r _ [6] (by decide +kernel) (by decide +kernel)
set_option maxRecDepth 20000 in
theorem gX4_colour_X4_power : GoodIn wsX4_colour (va_wsS RX4 57 yX4_power wsX4_power) := goodIn_app (goodIn_of _ (by decide +kernel)) ggX4_colour_X4_power
theorem dX4_colour_0 : decode cX4_colour 0 = .ok (.iload_n 1, 1) := by decide +kernel
theorem dX4_colour_1 : decode cX4_colour 1 = .ok (.aload_n 0, 1) := by decide +kernel
theorem dX4_colour_2 : decode cX4_colour 2 = .ok (.getfield 13, 3) := by decide +kernel
theorem dX4_colour_5 : decode cX4_colour 5 = .ok (.aload_n 0, 1) := by decide +kernel
theorem dX4_colour_6 : decode cX4_colour 6 = .ok (.getfield 7, 3) := by decide +kernel
theorem dX4_colour_9 : decode cX4_colour 9 = .ok (.iconst 1, 1) := by decide +kernel
theorem dX4_colour_10 : decode cX4_colour 10 = .ok (.isub, 1) := by decide +kernel
theorem dX4_colour_11 : decode cX4_colour 11 = .ok (.iload_n 2, 1) := by decide +kernel
theorem dX4_colour_12 : decode cX4_colour 12 = .ok (.isub, 1) := by decide +kernel
theorem dX4_colour_13 : decode cX4_colour 13 = .ok (.invokestatic 57, 3) := by decide +kernel
theorem dX4_colour_16 : decode cX4_colour 16 = .ok (.idiv, 1) := by decide +kernel
theorem dX4_colour_17 : decode cX4_colour 17 = .ok (.aload_n 0, 1) := by decide +kernel
theorem dX4_colour_18 : decode cX4_colour 18 = .ok (.getfield 13, 3) := by decide +kernel
theorem dX4_colour_21 : decode cX4_colour 21 = .ok (.irem, 1) := by decide +kernel
theorem dX4_colour_22 : decode cX4_colour 22 = .ok (.ireturn, 1) := by decide +kernel
set_option maxRecDepth 20000 in
theorem ggX4_colourAt_X4_isRow : GoodIn wsX4_colourAt wsX4_isRow := goodIn_r _ [7, 8, 9, 10, 6, 11, 20, 21, 22, 23, 24, 25, 26, 27, 28, 29, 30, 31, 32, 33, 34, 35] (by decide +kernel) (by decide +kernel)
set_option maxRecDepth 20000 in
theorem gX4_colourAt_X4_isRow : GoodIn wsX4_colourAt (wsV RX4 67 RX4 yX4_isRow wsX4_isRow) := goodIn_app (goodIn_of _ (by decide +kernel)) ggX4_colourAt_X4_isRow
set_option maxRecDepth 20000 in
theorem ggX4_colourAt_X4_in : GoodIn wsX4_colourAt wsX4_in := goodIn_r _ [11] (by decide +kernel) (by decide +kernel)
set_option maxRecDepth 20000 in
theorem gX4_colourAt_X4_in : GoodIn wsX4_colourAt (va_wsS RX4 53 yX4_in wsX4_in) := goodIn_app (goodIn_of _ (by decide +kernel)) ggX4_colourAt_X4_in
set_option maxRecDepth 20000 in
theorem ggX4_colourAt_X4_colour : GoodIn wsX4_colourAt wsX4_colour := goodIn_r _ [15, 16, 1, 17, 18, 6, 19, 20, 21, 22, 23, 24, 25, 26, 27, 28, 29, 30, 31, 32, 33, 34, 35] (by decide +kernel) (by decide +kernel)
set_option maxRecDepth 20000 in
theorem gX4_colourAt_X4_colour : GoodIn wsX4_colourAt (wsV RX4 71 RX4 yX4_colour wsX4_colour) := goodIn_app (goodIn_of _ (by decide +kernel)) ggX4_colourAt_X4_colour
theorem dX4_colourAt_0 : decode cX4_colourAt 0 = .ok (.aload_n 0, 1) := by decide +kernel
theorem dX4_colourAt_1 : decode cX4_colourAt 1 = .ok (.aload_n 0, 1) := by decide +kernel
theorem dX4_colourAt_2 : decode cX4_colourAt 2 = .ok (.iload_n 1, 1) := by decide +kernel
theorem dX4_colourAt_3 : decode cX4_colourAt 3 = .ok (.invokevirtual 67, 3) := by decide +kernel
theorem dX4_colourAt_6 : decode cX4_colourAt 6 = .ok (.ifCond .eq 21, 3) := by decide +kernel
theorem dX4_colourAt_9 : decode cX4_colourAt 9 = .ok (.iload_n 2, 1) := by decide +kernel
theorem dX4_colourAt_10 : decode cX4_colourAt 10 = .ok (.iconst 0, 1) := by decide +kernel
theorem dX4_colourAt_11 : decode cX4_colourAt 11 = .ok (.aload_n 0, 1) := by decide +kernel
theorem dX4_colourAt_12 : decode cX4_colourAt 12 = .ok (.getfield 7, 3) := by decide +kernel
theorem dX4_colourAt_15 : decode cX4_colourAt 15 = .ok (.iconst 1, 1) := by decide +kernel
theorem dX4_colourAt_16 : decode cX4_colourAt 16 = .ok (.isub, 1) := by decide +kernel
theorem dX4_colourAt_17 : decode cX4_colourAt 17 = .ok (.invokestatic 53, 3) := by decide +kernel
theorem dX4_colourAt_20 : decode cX4_colourAt 20 = .ok (.ifCond .eq 7, 3) := by decide +kernel
theorem dX4_colourAt_23 : decode cX4_colourAt 23 = .ok (.iconst 0, 1) := by decide +kernel
theorem dX4_colourAt_24 : decode cX4_colourAt 24 = .ok (.goto 4, 3) := by decide +kernel
theorem dX4_colourAt_27 : decode cX4_colourAt 27 = .ok (.iconst 1, 1) := by decide +kernel
theorem dX4_colourAt_28 : decode cX4_colourAt 28 = .ok (.putfield 50, 3) := by decide +kernel
theorem dX4_colourAt_31 : decode cX4_colourAt 31 = .ok (.aload_n 0, 1) := by decide +kernel
theorem dX4_colourAt_32 : decode cX4_colourAt 32 = .ok (.getfield 50, 3) := by decide +kernel
theorem dX4_colourAt_35 : decode cX4_colourAt 35 = .ok (.ifCond .le 7, 3) := by decide +kernel
theorem dX4_colourAt_38 : decode cX4_colourAt 38 = .ok (.iconst 0, 1) := by decide +kernel
theorem dX4_colourAt_39 : decode cX4_colourAt 39 = .ok (.goto 9, 3) := by decide +kernel
theorem dX4_colourAt_42 : decode cX4_colourAt 42 = .ok (.aload_n 0, 1) := by decide +kernel
theorem dX4_colourAt_43 : decode cX4_colourAt 43 = .ok (.iload_n 1, 1) := by decide +kernel
theorem dX4_colourAt_44 : decode cX4_colourAt 44 = .ok (.iload_n 2, 1) := by decide +kernel
theorem dX4_colourAt_45 : decode cX4_colourAt 45 = .ok (.invokevirtual 71, 3) := by decide +kernel
theorem dX4_colourAt_48 : decode cX4_colourAt 48 = .ok (.ireturn, 1) := by decide +kernel
theorem dX4_markOfRows_0 : decode cX4_markOfRows 0 = .ok (.iconst 0, 1) := by decide +kernel
theorem dX4_markOfRows_1 : decode cX4_markOfRows 1 = .ok (.istore_n 3, 1) := by decide +kernel
theorem dX4_markOfRows_2 : decode cX4_markOfRows 2 = .ok (.iload_n 3, 1) := by decide +kernel
theorem dX4_markOfRows_3 : decode cX4_markOfRows 3 = .ok (.aload_n 0, 1) := by decide +kernel
theorem dX4_markOfRows_4 : decode cX4_markOfRows 4 = .ok (.getfield 13, 3) := by decide +kernel
theorem dX4_markOfRows_7 : decode cX4_markOfRows 7 = .ok (.if_icmp .ge 16, 3) := by decide +kernel
theorem dX4_markOfRows_10 : decode cX4_markOfRows 10 = .ok (.aload_n 0, 1) := by decide +kernel
theorem dX4_markOfRows_11 : decode cX4_markOfRows 11 = .ok (.getfield 29, 3) := by decide +kernel
theorem dX4_markOfRows_14 : decode cX4_markOfRows 14 = .ok (.iload_n 3, 1) := by decide +kernel
theorem dX4_markOfRows_15 : decode cX4_markOfRows 15 = .ok (.iconst 0, 1) := by decide +kernel
theorem dX4_markOfRows_16 : decode cX4_markOfRows 16 = .ok (.iastore, 1) := by decide +kernel
theorem dX4_markOfRows_17 : decode cX4_markOfRows 17 = .ok (.iinc 3 1, 3) := by decide +kernel
theorem dX4_markOfRows_20 : decode cX4_markOfRows 20 = .ok (.goto (-18), 3) := by decide +kernel
theorem dX4_markOfRows_23 : decode cX4_markOfRows 23 = .ok (.iconst 0, 1) := by decide +kernel
theorem dX4_markOfRows_24 : decode cX4_markOfRows 24 = .ok (.istore_n 3, 1) := by decide +kernel
theorem dX4_markOfRows_25 : decode cX4_markOfRows 25 = .ok (.iconst 0, 1) := by decide +kernel
theorem dX4_markOfRows_26 : decode cX4_markOfRows 26 = .ok (.istore 4, 2) := by decide +kernel
theorem dX4_markOfRows_28 : decode cX4_markOfRows 28 = .ok (.iload_n 1, 1) := by decide +kernel
theorem dX4_markOfRows_29 : decode cX4_markOfRows 29 = .ok (.istore 5, 2) := by decide +kernel
theorem dX4_markOfRows_31 : decode cX4_markOfRows 31 = .ok (.iload_n 2, 1) := by decide +kernel
theorem dX4_markOfRows_32 : decode cX4_markOfRows 32 = .ok (.istore 6, 2) := by decide +kernel
theorem dX4_markOfRows_34 : decode cX4_markOfRows 34 = .ok (.iconst 0, 1) := by decide +kernel
theorem dX4_markOfRows_35 : decode cX4_markOfRows 35 = .ok (.istore 7, 2) := by decide +kernel
theorem dX4_markOfRows_37 : decode cX4_markOfRows 37 = .ok (.iload 7, 2) := by decide +kernel
theorem dX4_markOfRows_39 : decode cX4_markOfRows 39 = .ok (.aload_n 0, 1) := by decide +kernel
theorem dX4_markOfRows_40 : decode cX4_markOfRows 40 = .ok (.getfield 7, 3) := by decide +kernel
theorem dX4_markOfRows_43 : decode cX4_markOfRows 43 = .ok (.if_icmp .ge 68, 3) := by decide +kernel
theorem dX4_markOfRows_46 : decode cX4_markOfRows 46 = .ok (.iload_n 3, 1) := by decide +kernel
theorem dX4_markOfRows_47 : decode cX4_markOfRows 47 = .ok (.iload 5, 2) := by decide +kernel
theorem dX4_markOfRows_49 : decode cX4_markOfRows 49 = .ok (.aload_n 0, 1) := by decide +kernel
theorem dX4_markOfRows_50 : decode cX4_markOfRows 50 = .ok (.getfield 13, 3) := by decide +kernel
theorem dX4_markOfRows_53 : decode cX4_markOfRows 53 = .ok (.irem, 1) := by decide +kernel
theorem dX4_markOfRows_54 : decode cX4_markOfRows 54 = .ok (.iload 6, 2) := by decide +kernel
theorem dX4_markOfRows_56 : decode cX4_markOfRows 56 = .ok (.aload_n 0, 1) := by decide +kernel
theorem dX4_markOfRows_57 : decode cX4_markOfRows 57 = .ok (.getfield 13, 3) := by decide +kernel
theorem dX4_markOfRows_60 : decode cX4_markOfRows 60 = .ok (.irem, 1) := by decide +kernel
theorem dX4_markOfRows_61 : decode cX4_markOfRows 61 = .ok (.if_icmp .ne 7, 3) := by decide +kernel
theorem dX4_markOfRows_64 : decode cX4_markOfRows 64 = .ok (.iconst 1, 1) := by decide +kernel
theorem dX4_markOfRows_65 : decode cX4_markOfRows 65 = .ok (.goto 4, 3) := by decide +kernel
theorem dX4_markOfRows_68 : decode cX4_markOfRows 68 = .ok (.iconst 0, 1) := by decide +kernel
theorem dX4_markOfRows_69 : decode cX4_markOfRows 69 = .ok (.iadd, 1) := by decide +kernel
theorem dX4_markOfRows_70 : decode cX4_markOfRows 70 = .ok (.istore_n 3, 1) := by decide +kernel
theorem dX4_markOfRows_71 : decode cX4_markOfRows 71 = .ok (.aload_n 0, 1) := by decide +kernel
theorem dX4_markOfRows_72 : decode cX4_markOfRows 72 = .ok (.getfield 29, 3) := by decide +kernel
theorem dX4_markOfRows_75 : decode cX4_markOfRows 75 = .ok (.iload 5, 2) := by decide +kernel
theorem dX4_markOfRows_77 : decode cX4_markOfRows 77 = .ok (.aload_n 0, 1) := by decide +kernel
theorem dX4_markOfRows_78 : decode cX4_markOfRows 78 = .ok (.getfield 13, 3) := by decide +kernel
theorem dX4_markOfRows_81 : decode cX4_markOfRows 81 = .ok (.irem, 1) := by decide +kernel
theorem dX4_markOfRows_82 : decode cX4_markOfRows 82 = .ok (.dup2, 1) := by decide +kernel
theorem dX4_markOfRows_83 : decode cX4_markOfRows 83 = .ok (.iaload, 1) := by decide +kernel
theorem dX4_markOfRows_84 : decode cX4_markOfRows 84 = .ok (.iconst 1, 1) := by decide +kernel
theorem dX4_markOfRows_85 : decode cX4_markOfRows 85 = .ok (.iadd, 1) := by decide +kernel
theorem dX4_markOfRows_86 : decode cX4_markOfRows 86 = .ok (.iastore, 1) := by decide +kernel
theorem dX4_markOfRows_87 : decode cX4_markOfRows 87 = .ok (.iload 5, 2) := by decide +kernel
theorem dX4_markOfRows_89 : decode cX4_markOfRows 89 = .ok (.aload_n 0, 1) := by decide +kernel
theorem dX4_markOfRows_90 : decode cX4_markOfRows 90 = .ok (.getfield 13, 3) := by decide +kernel
theorem dX4_markOfRows_93 : decode cX4_markOfRows 93 = .ok (.idiv, 1) := by decide +kernel
theorem dX4_markOfRows_94 : decode cX4_markOfRows 94 = .ok (.istore 5, 2) := by decide +kernel
theorem dX4_markOfRows_96 : decode cX4_markOfRows 96 = .ok (.iload 6, 2) := by decide +kernel
theorem dX4_markOfRows_98 : decode cX4_markOfRows 98 = .ok (.aload_n 0, 1) := by decide +kernel
theorem dX4_markOfRows_99 : decode cX4_markOfRows 99 = .ok (.getfield 13, 3) := by decide +kernel
theorem dX4_markOfRows_102 : decode cX4_markOfRows 102 = .ok (.idiv, 1) := by decide +kernel
theorem dX4_markOfRows_103 : decode cX4_markOfRows 103 = .ok (.istore 6, 2) := by decide +kernel
theorem dX4_markOfRows_105 : decode cX4_markOfRows 105 = .ok (.iinc 7 1, 3) := by decide +kernel
theorem dX4_markOfRows_108 : decode cX4_markOfRows 108 = .ok (.goto (-71), 3) := by decide +kernel
theorem dX4_markOfRows_111 : decode cX4_markOfRows 111 = .ok (.iload_n 2, 1) := by decide +kernel
theorem dX4_markOfRows_112 : decode cX4_markOfRows 112 = .ok (.istore 6, 2) := by decide +kernel
theorem dX4_markOfRows_114 : decode cX4_markOfRows 114 = .ok (.iconst 0, 1) := by decide +kernel
theorem dX4_markOfRows_115 : decode cX4_markOfRows 115 = .ok (.istore 7, 2) := by decide +kernel
theorem dX4_markOfRows_117 : decode cX4_markOfRows 117 = .ok (.iload 7, 2) := by decide +kernel
theorem dX4_markOfRows_119 : decode cX4_markOfRows 119 = .ok (.aload_n 0, 1) := by decide +kernel
theorem dX4_markOfRows_120 : decode cX4_markOfRows 120 = .ok (.getfield 7, 3) := by decide +kernel
theorem dX4_markOfRows_123 : decode cX4_markOfRows 123 = .ok (.if_icmp .ge 52, 3) := by decide +kernel
theorem dX4_markOfRows_126 : decode cX4_markOfRows 126 = .ok (.aload_n 0, 1) := by decide +kernel
theorem dX4_markOfRows_127 : decode cX4_markOfRows 127 = .ok (.getfield 29, 3) := by decide +kernel
theorem dX4_markOfRows_130 : decode cX4_markOfRows 130 = .ok (.iload 6, 2) := by decide +kernel
theorem dX4_markOfRows_132 : decode cX4_markOfRows 132 = .ok (.aload_n 0, 1) := by decide +kernel
theorem dX4_markOfRows_133 : decode cX4_markOfRows 133 = .ok (.getfield 13, 3) := by decide +kernel
theorem dX4_markOfRows_136 : decode cX4_markOfRows 136 = .ok (.irem, 1) := by decide +kernel
theorem dX4_markOfRows_137 : decode cX4_markOfRows 137 = .ok (.iaload, 1) := by decide +kernel
theorem dX4_markOfRows_138 : decode cX4_markOfRows 138 = .ok (.ifCond .le 22, 3) := by decide +kernel
theorem dX4_markOfRows_141 : decode cX4_markOfRows 141 = .ok (.aload_n 0, 1) := by decide +kernel
theorem dX4_markOfRows_142 : decode cX4_markOfRows 142 = .ok (.getfield 29, 3) := by decide +kernel
theorem dX4_markOfRows_145 : decode cX4_markOfRows 145 = .ok (.iload 6, 2) := by decide +kernel
theorem dX4_markOfRows_147 : decode cX4_markOfRows 147 = .ok (.aload_n 0, 1) := by decide +kernel
theorem dX4_markOfRows_148 : decode cX4_markOfRows 148 = .ok (.getfield 13, 3) := by decide +kernel
theorem dX4_markOfRows_151 : decode cX4_markOfRows 151 = .ok (.irem, 1) := by decide +kernel
theorem dX4_markOfRows_152 : decode cX4_markOfRows 152 = .ok (.dup2, 1) := by decide +kernel
theorem dX4_markOfRows_153 : decode cX4_markOfRows 153 = .ok (.iaload, 1) := by decide +kernel
theorem dX4_markOfRows_154 : decode cX4_markOfRows 154 = .ok (.iconst 1, 1) := by decide +kernel
theorem dX4_markOfRows_155 : decode cX4_markOfRows 155 = .ok (.isub, 1) := by decide +kernel
theorem dX4_markOfRows_156 : decode cX4_markOfRows 156 = .ok (.iastore, 1) := by decide +kernel
theorem dX4_markOfRows_157 : decode cX4_markOfRows 157 = .ok (.iinc 4 1, 3) := by decide +kernel
theorem dX4_markOfRows_160 : decode cX4_markOfRows 160 = .ok (.iload 6, 2) := by decide +kernel
theorem dX4_markOfRows_162 : decode cX4_markOfRows 162 = .ok (.aload_n 0, 1) := by decide +kernel
theorem dX4_markOfRows_163 : decode cX4_markOfRows 163 = .ok (.getfield 13, 3) := by decide +kernel
theorem dX4_markOfRows_166 : decode cX4_markOfRows 166 = .ok (.idiv, 1) := by decide +kernel
theorem dX4_markOfRows_167 : decode cX4_markOfRows 167 = .ok (.istore 6, 2) := by decide +kernel
theorem dX4_markOfRows_169 : decode cX4_markOfRows 169 = .ok (.iinc 7 1, 3) := by decide +kernel
theorem dX4_markOfRows_172 : decode cX4_markOfRows 172 = .ok (.goto (-55), 3) := by decide +kernel
theorem dX4_markOfRows_175 : decode cX4_markOfRows 175 = .ok (.bipush 10, 2) := by decide +kernel
theorem dX4_markOfRows_177 : decode cX4_markOfRows 177 = .ok (.iload_n 3, 1) := by decide +kernel
theorem dX4_markOfRows_178 : decode cX4_markOfRows 178 = .ok (.imul, 1) := by decide +kernel
theorem dX4_markOfRows_179 : decode cX4_markOfRows 179 = .ok (.iload 4, 2) := by decide +kernel
theorem dX4_markOfRows_181 : decode cX4_markOfRows 181 = .ok (.iadd, 1) := by decide +kernel
theorem dX4_markOfRows_182 : decode cX4_markOfRows 182 = .ok (.iload_n 3, 1) := by decide +kernel
theorem dX4_markOfRows_183 : decode cX4_markOfRows 183 = .ok (.isub, 1) := by decide +kernel
theorem dX4_markOfRows_184 : decode cX4_markOfRows 184 = .ok (.ireturn, 1) := by decide +kernel
set_option maxRecDepth 20000 in
theorem ggX4_mark_X4_isRow : GoodIn wsX4_mark wsX4_isRow := goodIn_r _ [6, 7, 8, 9, 5, 10, 18, 19, 20, 21, 22, 23, 24, 25, 26, 27, 28, 29, 30, 31, 32, 33] (by decide +kernel) (by decide +kernel)
set_option maxRecDepth 20000 in
theorem gX4_mark_X4_isRow : GoodIn wsX4_mark (wsV RX4 67 RX4 yX4_isRow wsX4_isRow) := goodIn_app (goodIn_of _ (by decide +kernel)) ggX4_mark_X4_isRow
set_option maxRecDepth 20000 in
theorem ggX4_mark_X4_markOfRows : GoodIn wsX4_mark wsX4_markOfRows := goodIn_r _ [14, 15, 16, 17, 18, 19, 20, 21, 22, 23, 24, 25, 26, 27, 28, 29, 30, 31, 32, 33] (by decide +kernel) (by decide +kernel)
set_option maxRecDepth 20000 in
theorem gX4_mark_X4_markOfRows : GoodIn wsX4_mark (wsV RX4 74 RX4 yX4_markOfRows wsX4_markOfRows) := goodIn_app (goodIn_of _ (by decide +kernel)) ggX4_mark_X4_markOfRows
theorem dX4_mark_0 : decode cX4_mark 0 = .ok (.aload_n 0, 1) := by decide +kernel
theorem dX4_mark_1 : decode cX4_mark 1 = .ok (.aload_n 0, 1) := by decide +kernel
theorem dX4_mark_2 : decode cX4_mark 2 = .ok (.iload_n 1, 1) := by decide +kernel
theorem dX4_mark_3 : decode cX4_mark 3 = .ok (.invokevirtual 67, 3) := by decide +kernel
theorem dX4_mark_6 : decode cX4_mark 6 = .ok (.ifCond .eq 15, 3) := by decide +kernel
theorem dX4_mark_9 : decode cX4_mark 9 = .ok (.aload_n 0, 1) := by decide +kernel
theorem dX4_mark_10 : decode cX4_mark 10 = .ok (.iload_n 2, 1) := by decide +kernel
theorem dX4_mark_11 : decode cX4_mark 11 = .ok (.invokevirtual 67, 3) := by decide +kernel
theorem dX4_mark_14 : decode cX4_mark 14 = .ok (.ifCond .eq 7, 3) := by decide +kernel
theorem dX4_mark_17 : decode cX4_mark 17 = .ok (.iconst 0, 1) := by decide +kernel
theorem dX4_mark_18 : decode cX4_mark 18 = .ok (.goto 4, 3) := by decide +kernel
theorem dX4_mark_21 : decode cX4_mark 21 = .ok (.iconst 1, 1) := by decide +kernel
theorem dX4_mark_22 : decode cX4_mark 22 = .ok (.putfield 50, 3) := by decide +kernel
theorem dX4_mark_25 : decode cX4_mark 25 = .ok (.aload_n 0, 1) := by decide +kernel
theorem dX4_mark_26 : decode cX4_mark 26 = .ok (.getfield 50, 3) := by decide +kernel
theorem dX4_mark_29 : decode cX4_mark 29 = .ok (.ifCond .le 7, 3) := by decide +kernel
theorem dX4_mark_32 : decode cX4_mark 32 = .ok (.iconst 0, 1) := by decide +kernel
theorem dX4_mark_33 : decode cX4_mark 33 = .ok (.goto 9, 3) := by decide +kernel
theorem dX4_mark_36 : decode cX4_mark 36 = .ok (.aload_n 0, 1) := by decide +kernel
theorem dX4_mark_37 : decode cX4_mark 37 = .ok (.iload_n 1, 1) := by decide +kernel
theorem dX4_mark_38 : decode cX4_mark 38 = .ok (.iload_n 2, 1) := by decide +kernel
theorem dX4_mark_39 : decode cX4_mark 39 = .ok (.invokevirtual 74, 3) := by decide +kernel
theorem dX4_mark_42 : decode cX4_mark 42 = .ok (.ireturn, 1) := by decide +kernel
theorem dX4_isPossible_0 : decode cX4_isPossible 0 = .ok (.iload_n 1, 1) := by decide +kernel
theorem dX4_isPossible_1 : decode cX4_isPossible 1 = .ok (.bipush 10, 2) := by decide +kernel
theorem dX4_isPossible_3 : decode cX4_isPossible 3 = .ok (.idiv, 1) := by decide +kernel
theorem dX4_isPossible_4 : decode cX4_isPossible 4 = .ok (.istore_n 2, 1) := by decide +kernel
theorem dX4_isPossible_5 : decode cX4_isPossible 5 = .ok (.iload_n 1, 1) := by decide +kernel
theorem dX4_isPossible_6 : decode cX4_isPossible 6 = .ok (.bipush 10, 2) := by decide +kernel
theorem dX4_isPossible_8 : decode cX4_isPossible 8 = .ok (.irem, 1) := by decide +kernel
theorem dX4_isPossible_9 : decode cX4_isPossible 9 = .ok (.istore_n 3, 1) := by decide +kernel
theorem dX4_isPossible_10 : decode cX4_isPossible 10 = .ok (.iload_n 1, 1) := by decide +kernel
theorem dX4_isPossible_11 : decode cX4_isPossible 11 = .ok (.ifCond .lt 32, 3) := by decide +kernel
theorem dX4_isPossible_14 : decode cX4_isPossible 14 = .ok (.iload_n 2, 1) := by decide +kernel
theorem dX4_isPossible_15 : decode cX4_isPossible 15 = .ok (.iload_n 3, 1) := by decide +kernel
theorem dX4_isPossible_16 : decode cX4_isPossible 16 = .ok (.iadd, 1) := by decide +kernel
theorem dX4_isPossible_17 : decode cX4_isPossible 17 = .ok (.aload_n 0, 1) := by decide +kernel
theorem dX4_isPossible_18 : decode cX4_isPossible 18 = .ok (.getfield 7, 3) := by decide +kernel
theorem dX4_isPossible_21 : decode cX4_isPossible 21 = .ok (.if_icmp .gt 22, 3) := by decide +kernel
theorem dX4_isPossible_24 : decode cX4_isPossible 24 = .ok (.iload_n 3, 1) := by decide +kernel
theorem dX4_isPossible_25 : decode cX4_isPossible 25 = .ok (.iconst 1, 1) := by decide +kernel
theorem dX4_isPossible_26 : decode cX4_isPossible 26 = .ok (.if_icmp .ne 13, 3) := by decide +kernel
theorem dX4_isPossible_29 : decode cX4_isPossible 29 = .ok (.iload_n 2, 1) := by decide +kernel
theorem dX4_isPossible_30 : decode cX4_isPossible 30 = .ok (.aload_n 0, 1) := by decide +kernel
theorem dX4_isPossible_31 : decode cX4_isPossible 31 = .ok (.getfield 7, 3) := by decide +kernel
theorem dX4_isPossible_34 : decode cX4_isPossible 34 = .ok (.iconst 1, 1) := by decide +kernel
theorem dX4_isPossible_35 : decode cX4_isPossible 35 = .ok (.isub, 1) := by decide +kernel
theorem dX4_isPossible_36 : decode cX4_isPossible 36 = .ok (.if_icmp .eq 7, 3) := by decide +kernel
theorem dX4_isPossible_39 : decode cX4_isPossible 39 = .ok (.iconst 1, 1) := by decide +kernel
theorem dX4_isPossible_40 : decode cX4_isPossible 40 = .ok (.goto 4, 3) := by decide +kernel
theorem dX4_isPossible_43 : decode cX4_isPossible 43 = .ok (.iconst 0, 1) := by decide +kernel
theorem dX4_isPossible_44 : decode cX4_isPossible 44 = .ok (.ireturn, 1) := by decide +kernel
set_option maxRecDepth 20000 in
theorem ggX4_lies_X4_markOfRows : GoodIn wsX4_lies wsX4_markOfRows := goodIn_r _ [8, 9, 10, 11, 12, 13, 14, 15, 16, 17, 18, 19, 20, 21, 22, 23, 24, 25, 26, 27] (by decide +kernel) (by decide +kernel)
set_option maxRecDepth 20000 in
theorem gX4_lies_X4_markOfRows : GoodIn wsX4_lies (wsV RX4 74 RX4 yX4_markOfRows wsX4_markOfRows) := goodIn_app (goodIn_of _ (by decide +kernel)) ggX4_lies_X4_markOfRows
theorem dX4_lies_0 : decode cX4_lies 0 = .ok (.iconst 0, 1) := by decide +kernel
theorem dX4_lies_1 : decode cX4_lies 1 = .ok (.istore_n 2, 1) := by decide +kernel
theorem dX4_lies_2 : decode cX4_lies 2 = .ok (.iconst 0, 1) := by decide +kernel
theorem dX4_lies_3 : decode cX4_lies 3 = .ok (.istore_n 3, 1) := by decide +kernel
theorem dX4_lies_4 : decode cX4_lies 4 = .ok (.iload_n 3, 1) := by decide +kernel
theorem dX4_lies_5 : decode cX4_lies 5 = .ok (.aload_n 0, 1) := by decide +kernel
theorem dX4_lies_6 : decode cX4_lies 6 = .ok (.getfield 64, 3) := by decide +kernel
theorem dX4_lies_9 : decode cX4_lies 9 = .ok (.if_icmp .ge 37, 3) := by decide +kernel
theorem dX4_lies_12 : decode cX4_lies 12 = .ok (.iload_n 2, 1) := by decide +kernel
theorem dX4_lies_13 : decode cX4_lies 13 = .ok (.aload_n 0, 1) := by decide +kernel
theorem dX4_lies_14 : decode cX4_lies 14 = .ok (.aload_n 0, 1) := by decide +kernel
theorem dX4_lies_15 : decode cX4_lies 15 = .ok (.getfield 22, 3) := by decide +kernel
theorem dX4_lies_18 : decode cX4_lies 18 = .ok (.iload_n 3, 1) := by decide +kernel
theorem dX4_lies_19 : decode cX4_lies 19 = .ok (.iaload, 1) := by decide +kernel
theorem dX4_lies_20 : decode cX4_lies 20 = .ok (.iload_n 1, 1) := by decide +kernel
theorem dX4_lies_21 : decode cX4_lies 21 = .ok (.invokevirtual 74, 3) := by decide +kernel
theorem dX4_lies_24 : decode cX4_lies 24 = .ok (.aload_n 0, 1) := by decide +kernel
theorem dX4_lies_25 : decode cX4_lies 25 = .ok (.getfield 26, 3) := by decide +kernel
theorem dX4_lies_28 : decode cX4_lies 28 = .ok (.iload_n 3, 1) := by decide +kernel
theorem dX4_lies_29 : decode cX4_lies 29 = .ok (.iaload, 1) := by decide +kernel
theorem dX4_lies_30 : decode cX4_lies 30 = .ok (.if_icmp .ne 7, 3) := by decide +kernel
theorem dX4_lies_33 : decode cX4_lies 33 = .ok (.iconst 0, 1) := by decide +kernel
theorem dX4_lies_34 : decode cX4_lies 34 = .ok (.goto 4, 3) := by decide +kernel
theorem dX4_lies_37 : decode cX4_lies 37 = .ok (.iconst 1, 1) := by decide +kernel
theorem dX4_lies_38 : decode cX4_lies 38 = .ok (.iadd, 1) := by decide +kernel
theorem dX4_lies_39 : decode cX4_lies 39 = .ok (.istore_n 2, 1) := by decide +kernel
theorem dX4_lies_40 : decode cX4_lies 40 = .ok (.iinc 3 1, 3) := by decide +kernel
theorem dX4_lies_43 : decode cX4_lies 43 = .ok (.goto (-39), 3) := by decide +kernel
theorem dX4_lies_46 : decode cX4_lies 46 = .ok (.iload_n 2, 1) := by decide +kernel
theorem dX4_lies_47 : decode cX4_lies 47 = .ok (.ireturn, 1) := by decide +kernel
set_option maxRecDepth 20000 in
theorem ggX4_isStill_X4_lies : GoodIn wsX4_isStill wsX4_lies := goodIn_r _ [6, 7, 8, 9, 10, 11, 12, 5, 13, 14, 15, 16, 17, 18, 19, 20, 21, 22, 23, 24, 25, 26, 27, 28, 29, 30, 31, 32] (by decide +kernel) (by decide +kernel)
set_option maxRecDepth 20000 in
theorem gX4_isStill_X4_lies : GoodIn wsX4_isStill (wsV RX4 77 RX4 yX4_lies wsX4_lies) := goodIn_app (goodIn_of _ (by decide +kernel)) ggX4_isStill_X4_lies
theorem dX4_isStill_0 : decode cX4_isStill 0 = .ok (.aload_n 0, 1) := by decide +kernel
theorem dX4_isStill_1 : decode cX4_isStill 1 = .ok (.iload_n 1, 1) := by decide +kernel
theorem dX4_isStill_2 : decode cX4_isStill 2 = .ok (.invokevirtual 77, 3) := by decide +kernel
theorem dX4_isStill_5 : decode cX4_isStill 5 = .ok (.aload_n 0, 1) := by decide +kernel
theorem dX4_isStill_6 : decode cX4_isStill 6 = .ok (.getfield 61, 3) := by decide +kernel
theorem dX4_isStill_9 : decode cX4_isStill 9 = .ok (.if_icmp .gt 7, 3) := by decide +kernel
theorem dX4_isStill_12 : decode cX4_isStill 12 = .ok (.iconst 1, 1) := by decide +kernel
theorem dX4_isStill_13 : decode cX4_isStill 13 = .ok (.goto 4, 3) := by decide +kernel
theorem dX4_isStill_16 : decode cX4_isStill 16 = .ok (.iconst 0, 1) := by decide +kernel
theorem dX4_isStill_17 : decode cX4_isStill 17 = .ok (.ireturn, 1) := by decide +kernel
set_option maxRecDepth 20000 in
theorem ggX4_allowLies_X4_in : GoodIn wsX4_allowLies wsX4_in := goodIn_r _ [7] (by decide +kernel) (by decide +kernel)
set_option maxRecDepth 20000 in
theorem gX4_allowLies_X4_in : GoodIn wsX4_allowLies (va_wsS RX4 53 yX4_in wsX4_in) := goodIn_app (goodIn_of _ (by decide +kernel)) ggX4_allowLies_X4_in
set_option maxRecDepth 20000 in
theorem ggX4_allowLies_X4_lies : GoodIn wsX4_allowLies wsX4_lies := goodIn_r _ [11, 12, 13, 14, 15, 16, 17, 6, 18, 19, 20, 21, 22, 23, 24, 25, 26, 27, 28, 29, 30, 31, 32, 33, 34, 35, 36, 37] (by decide +kernel) (by decide +kernel)
set_option maxRecDepth 20000 in
theorem gX4_allowLies_X4_lies : GoodIn wsX4_allowLies (wsV RX4 77 RX4 yX4_lies wsX4_lies) := goodIn_app (goodIn_of _ (by decide +kernel)) ggX4_allowLies_X4_lies
theorem dX4_allowLies_0 : decode cX4_allowLies 0 = .ok (.aload_n 0, 1) := by decide +kernel
theorem dX4_allowLies_1 : decode cX4_allowLies 1 = .ok (.iload_n 1, 1) := by decide +kernel
theorem dX4_allowLies_2 : decode cX4_allowLies 2 = .ok (.iconst 0, 1) := by decide +kernel
theorem dX4_allowLies_3 : decode cX4_allowLies 3 = .ok (.iconst 3, 1) := by decide +kernel
theorem dX4_allowLies_4 : decode cX4_allowLies 4 = .ok (.invokestatic 53, 3) := by decide +kernel
theorem dX4_allowLies_7 : decode cX4_allowLies 7 = .ok (.ifCond .ne 7, 3) := by decide +kernel
theorem dX4_allowLies_10 : decode cX4_allowLies 10 = .ok (.iconst 1, 1) := by decide +kernel
theorem dX4_allowLies_11 : decode cX4_allowLies 11 = .ok (.goto 28, 3) := by decide +kernel
theorem dX4_allowLies_14 : decode cX4_allowLies 14 = .ok (.aload_n 0, 1) := by decide +kernel
theorem dX4_allowLies_15 : decode cX4_allowLies 15 = .ok (.getfield 19, 3) := by decide +kernel
theorem dX4_allowLies_18 : decode cX4_allowLies 18 = .ok (.iconst (-1), 1) := by decide +kernel
theorem dX4_allowLies_19 : decode cX4_allowLies 19 = .ok (.if_icmp .eq 19, 3) := by decide +kernel
theorem dX4_allowLies_22 : decode cX4_allowLies 22 = .ok (.aload_n 0, 1) := by decide +kernel
theorem dX4_allowLies_23 : decode cX4_allowLies 23 = .ok (.aload_n 0, 1) := by decide +kernel
theorem dX4_allowLies_24 : decode cX4_allowLies 24 = .ok (.getfield 19, 3) := by decide +kernel
theorem dX4_allowLies_27 : decode cX4_allowLies 27 = .ok (.invokevirtual 77, 3) := by decide +kernel
theorem dX4_allowLies_30 : decode cX4_allowLies 30 = .ok (.iload_n 1, 1) := by decide +kernel
theorem dX4_allowLies_31 : decode cX4_allowLies 31 = .ok (.if_icmp .le 7, 3) := by decide +kernel
theorem dX4_allowLies_34 : decode cX4_allowLies 34 = .ok (.iconst 2, 1) := by decide +kernel
theorem dX4_allowLies_35 : decode cX4_allowLies 35 = .ok (.goto 4, 3) := by decide +kernel
theorem dX4_allowLies_38 : decode cX4_allowLies 38 = .ok (.iconst 0, 1) := by decide +kernel
theorem dX4_allowLies_39 : decode cX4_allowLies 39 = .ok (.putfield 50, 3) := by decide +kernel
theorem dX4_allowLies_42 : decode cX4_allowLies 42 = .ok (.aload_n 0, 1) := by decide +kernel
theorem dX4_allowLies_43 : decode cX4_allowLies 43 = .ok (.getfield 50, 3) := by decide +kernel
theorem dX4_allowLies_46 : decode cX4_allowLies 46 = .ok (.ifCond .le 5, 3) := by decide +kernel
theorem dX4_allowLies_49 : decode cX4_allowLies 49 = .ok (.iconst 0, 1) := by decide +kernel
theorem dX4_allowLies_50 : decode cX4_allowLies 50 = .ok (.ireturn, 1) := by decide +kernel
theorem dX4_allowLies_51 : decode cX4_allowLies 51 = .ok (.aload_n 0, 1) := by decide +kernel
theorem dX4_allowLies_52 : decode cX4_allowLies 52 = .ok (.getfield 61, 3) := by decide +kernel
theorem dX4_allowLies_55 : decode cX4_allowLies 55 = .ok (.istore_n 2, 1) := by decide +kernel
theorem dX4_allowLies_56 : decode cX4_allowLies 56 = .ok (.aload_n 0, 1) := by decide +kernel
theorem dX4_allowLies_57 : decode cX4_allowLies 57 = .ok (.iload_n 1, 1) := by decide +kernel
theorem dX4_allowLies_58 : decode cX4_allowLies 58 = .ok (.putfield 61, 3) := by decide +kernel
theorem dX4_allowLies_61 : decode cX4_allowLies 61 = .ok (.iload_n 2, 1) := by decide +kernel
theorem dX4_allowLies_62 : decode cX4_allowLies 62 = .ok (.ireturn, 1) := by decide +kernel
set_option maxRecDepth 20000 in
theorem ggX4_hide_X4_isRow : GoodIn wsX4_hide wsX4_isRow := goodIn_r _ [7, 8, 9, 10, 6, 11, 31, 32, 33, 34, 35, 36, 37, 38, 39, 40, 41, 42, 43, 44, 45, 46] (by decide +kernel) (by decide +kernel)
set_option maxRecDepth 20000 in
theorem gX4_hide_X4_isRow : GoodIn wsX4_hide (wsV RX4 67 RX4 yX4_isRow wsX4_isRow) := goodIn_app (goodIn_of _ (by decide +kernel)) ggX4_hide_X4_isRow
set_option maxRecDepth 20000 in
theorem ggX4_hide_X4_isStill : GoodIn wsX4_hide wsX4_isStill := goodIn_r _ [15, 16, 17, 18, 19, 6, 20, 21, 22, 23, 24, 25, 26, 27, 28, 29, 30, 31, 32, 33, 34, 35, 36, 37, 38, 39, 40, 41, 42, 43, 44, 45, 46] (by decide +kernel) (by decide +kernel)
set_option maxRecDepth 20000 in
theorem gX4_hide_X4_isStill : GoodIn wsX4_hide (wsV RX4 81 RX4 yX4_isStill wsX4_isStill) := goodIn_app (goodIn_of _ (by decide +kernel)) ggX4_hide_X4_isStill
theorem dX4_hide_0 : decode cX4_hide 0 = .ok (.aload_n 0, 1) := by decide +kernel
theorem dX4_hide_1 : decode cX4_hide 1 = .ok (.aload_n 0, 1) := by decide +kernel
theorem dX4_hide_2 : decode cX4_hide 2 = .ok (.iload_n 1, 1) := by decide +kernel
theorem dX4_hide_3 : decode cX4_hide 3 = .ok (.invokevirtual 67, 3) := by decide +kernel
theorem dX4_hide_6 : decode cX4_hide 6 = .ok (.ifCond .ne 7, 3) := by decide +kernel
theorem dX4_hide_9 : decode cX4_hide 9 = .ok (.iconst 1, 1) := by decide +kernel
theorem dX4_hide_10 : decode cX4_hide 10 = .ok (.goto 16, 3) := by decide +kernel
theorem dX4_hide_13 : decode cX4_hide 13 = .ok (.aload_n 0, 1) := by decide +kernel
theorem dX4_hide_14 : decode cX4_hide 14 = .ok (.iload_n 1, 1) := by decide +kernel
theorem dX4_hide_15 : decode cX4_hide 15 = .ok (.invokevirtual 81, 3) := by decide +kernel
theorem dX4_hide_18 : decode cX4_hide 18 = .ok (.ifCond .eq 7, 3) := by decide +kernel
theorem dX4_hide_21 : decode cX4_hide 21 = .ok (.iconst 0, 1) := by decide +kernel
theorem dX4_hide_22 : decode cX4_hide 22 = .ok (.goto 4, 3) := by decide +kernel
theorem dX4_hide_25 : decode cX4_hide 25 = .ok (.iconst 2, 1) := by decide +kernel
theorem dX4_hide_26 : decode cX4_hide 26 = .ok (.putfield 50, 3) := by decide +kernel
theorem dX4_hide_29 : decode cX4_hide 29 = .ok (.aload_n 0, 1) := by decide +kernel
theorem dX4_hide_30 : decode cX4_hide 30 = .ok (.getfield 50, 3) := by decide +kernel
theorem dX4_hide_33 : decode cX4_hide 33 = .ok (.ifCond .le 5, 3) := by decide +kernel
theorem dX4_hide_36 : decode cX4_hide 36 = .ok (.iconst 0, 1) := by decide +kernel
theorem dX4_hide_37 : decode cX4_hide 37 = .ok (.ireturn, 1) := by decide +kernel
theorem dX4_hide_38 : decode cX4_hide 38 = .ok (.aload_n 0, 1) := by decide +kernel
theorem dX4_hide_39 : decode cX4_hide 39 = .ok (.getfield 19, 3) := by decide +kernel
theorem dX4_hide_42 : decode cX4_hide 42 = .ok (.iconst (-1), 1) := by decide +kernel
theorem dX4_hide_43 : decode cX4_hide 43 = .ok (.if_icmp .eq 7, 3) := by decide +kernel
theorem dX4_hide_46 : decode cX4_hide 46 = .ok (.iconst 1, 1) := by decide +kernel
theorem dX4_hide_47 : decode cX4_hide 47 = .ok (.goto 4, 3) := by decide +kernel
theorem dX4_hide_50 : decode cX4_hide 50 = .ok (.iconst 0, 1) := by decide +kernel
theorem dX4_hide_51 : decode cX4_hide 51 = .ok (.istore_n 2, 1) := by decide +kernel
theorem dX4_hide_52 : decode cX4_hide 52 = .ok (.aload_n 0, 1) := by decide +kernel
theorem dX4_hide_53 : decode cX4_hide 53 = .ok (.iload_n 1, 1) := by decide +kernel
theorem dX4_hide_54 : decode cX4_hide 54 = .ok (.putfield 19, 3) := by decide +kernel
theorem dX4_hide_57 : decode cX4_hide 57 = .ok (.iload_n 2, 1) := by decide +kernel
theorem dX4_hide_58 : decode cX4_hide 58 = .ok (.ireturn, 1) := by decide +kernel
theorem dX4_adds_0 : decode cX4_adds 0 = .ok (.aload_n 0, 1) := by decide +kernel
theorem dX4_adds_1 : decode cX4_adds 1 = .ok (.getfield 22, 3) := by decide +kernel
theorem dX4_adds_4 : decode cX4_adds 4 = .ok (.aload_n 0, 1) := by decide +kernel
theorem dX4_adds_5 : decode cX4_adds 5 = .ok (.getfield 64, 3) := by decide +kernel
theorem dX4_adds_8 : decode cX4_adds 8 = .ok (.iload_n 1, 1) := by decide +kernel
theorem dX4_adds_9 : decode cX4_adds 9 = .ok (.iastore, 1) := by decide +kernel
theorem dX4_adds_10 : decode cX4_adds 10 = .ok (.aload_n 0, 1) := by decide +kernel
theorem dX4_adds_11 : decode cX4_adds 11 = .ok (.getfield 26, 3) := by decide +kernel
theorem dX4_adds_14 : decode cX4_adds 14 = .ok (.aload_n 0, 1) := by decide +kernel
theorem dX4_adds_15 : decode cX4_adds 15 = .ok (.getfield 64, 3) := by decide +kernel
theorem dX4_adds_18 : decode cX4_adds 18 = .ok (.iload_n 2, 1) := by decide +kernel
theorem dX4_adds_19 : decode cX4_adds 19 = .ok (.iastore, 1) := by decide +kernel
theorem dX4_adds_20 : decode cX4_adds 20 = .ok (.aload_n 0, 1) := by decide +kernel
theorem dX4_adds_21 : decode cX4_adds 21 = .ok (.dup, 1) := by decide +kernel
theorem dX4_adds_22 : decode cX4_adds 22 = .ok (.getfield 64, 3) := by decide +kernel
theorem dX4_adds_25 : decode cX4_adds 25 = .ok (.iconst 1, 1) := by decide +kernel
theorem dX4_adds_26 : decode cX4_adds 26 = .ok (.iadd, 1) := by decide +kernel
theorem dX4_adds_27 : decode cX4_adds 27 = .ok (.putfield 64, 3) := by decide +kernel
theorem dX4_adds_30 : decode cX4_adds 30 = .ok (.return_, 1) := by decide +kernel
set_option maxRecDepth 20000 in
theorem ggX4_guess_X4_isRow : GoodIn wsX4_guess wsX4_isRow := goodIn_r _ [8, 9, 10, 11, 7, 12, 26, 27, 28, 29, 30, 31, 32, 33, 34, 35, 36, 37, 38, 39, 40, 41] (by decide +kernel) (by decide +kernel)
set_option maxRecDepth 20000 in
theorem gX4_guess_X4_isRow : GoodIn wsX4_guess (wsV RX4 67 RX4 yX4_isRow wsX4_isRow) := goodIn_app (goodIn_of _ (by decide +kernel)) ggX4_guess_X4_isRow
set_option maxRecDepth 20000 in
theorem ggX4_guess_X4_markOfRows : GoodIn wsX4_guess wsX4_markOfRows := goodIn_r _ [16, 17, 18, 19, 26, 27, 28, 29, 30, 31, 32, 33, 34, 35, 36, 37, 38, 39, 40, 41] (by decide +kernel) (by decide +kernel)
set_option maxRecDepth 20000 in
theorem gX4_guess_X4_markOfRows : GoodIn wsX4_guess (wsV RX4 74 RX4 yX4_markOfRows wsX4_markOfRows) := goodIn_app (goodIn_of _ (by decide +kernel)) ggX4_guess_X4_markOfRows
set_option maxRecDepth 20000 in
theorem ggX4_guess_X4_adds : GoodIn wsX4_guess wsX4_adds := goodIn_r _ [23, 24, 2, 25, 26, 27, 28, 29, 30, 31, 32, 33, 34, 35, 36, 37, 38, 39, 40, 41] (by decide +kernel) (by decide +kernel)
set_option maxRecDepth 20000 in
theorem gX4_guess_X4_adds : GoodIn wsX4_guess (wsV RX4 84 RX4 yX4_adds wsX4_adds) := goodIn_app (goodIn_of _ (by decide +kernel)) ggX4_guess_X4_adds
theorem dX4_guess_0 : decode cX4_guess 0 = .ok (.aload_n 0, 1) := by decide +kernel
theorem dX4_guess_1 : decode cX4_guess 1 = .ok (.aload_n 0, 1) := by decide +kernel
theorem dX4_guess_2 : decode cX4_guess 2 = .ok (.iload_n 1, 1) := by decide +kernel
theorem dX4_guess_3 : decode cX4_guess 3 = .ok (.invokevirtual 67, 3) := by decide +kernel
theorem dX4_guess_6 : decode cX4_guess 6 = .ok (.ifCond .ne 7, 3) := by decide +kernel
theorem dX4_guess_9 : decode cX4_guess 9 = .ok (.iconst 1, 1) := by decide +kernel
theorem dX4_guess_10 : decode cX4_guess 10 = .ok (.goto 25, 3) := by decide +kernel
theorem dX4_guess_13 : decode cX4_guess 13 = .ok (.aload_n 0, 1) := by decide +kernel
theorem dX4_guess_14 : decode cX4_guess 14 = .ok (.getfield 19, 3) := by decide +kernel
theorem dX4_guess_17 : decode cX4_guess 17 = .ok (.iconst (-1), 1) := by decide +kernel
theorem dX4_guess_18 : decode cX4_guess 18 = .ok (.if_icmp .eq 12, 3) := by decide +kernel
theorem dX4_guess_21 : decode cX4_guess 21 = .ok (.aload_n 0, 1) := by decide +kernel
theorem dX4_guess_22 : decode cX4_guess 22 = .ok (.getfield 64, 3) := by decide +kernel
theorem dX4_guess_25 : decode cX4_guess 25 = .ok (.bipush 10, 2) := by decide +kernel
theorem dX4_guess_27 : decode cX4_guess 27 = .ok (.if_icmp .ne 7, 3) := by decide +kernel
theorem dX4_guess_30 : decode cX4_guess 30 = .ok (.iconst 2, 1) := by decide +kernel
theorem dX4_guess_31 : decode cX4_guess 31 = .ok (.goto 4, 3) := by decide +kernel
theorem dX4_guess_34 : decode cX4_guess 34 = .ok (.iconst 0, 1) := by decide +kernel
theorem dX4_guess_35 : decode cX4_guess 35 = .ok (.putfield 50, 3) := by decide +kernel
theorem dX4_guess_38 : decode cX4_guess 38 = .ok (.aload_n 0, 1) := by decide +kernel
theorem dX4_guess_39 : decode cX4_guess 39 = .ok (.getfield 50, 3) := by decide +kernel
theorem dX4_guess_42 : decode cX4_guess 42 = .ok (.ifCond .le 5, 3) := by decide +kernel
theorem dX4_guess_45 : decode cX4_guess 45 = .ok (.iconst 0, 1) := by decide +kernel
theorem dX4_guess_46 : decode cX4_guess 46 = .ok (.ireturn, 1) := by decide +kernel
theorem dX4_guess_47 : decode cX4_guess 47 = .ok (.aload_n 0, 1) := by decide +kernel
theorem dX4_guess_48 : decode cX4_guess 48 = .ok (.iload_n 1, 1) := by decide +kernel
theorem dX4_guess_49 : decode cX4_guess 49 = .ok (.aload_n 0, 1) := by decide +kernel
theorem dX4_guess_50 : decode cX4_guess 50 = .ok (.getfield 19, 3) := by decide +kernel
theorem dX4_guess_53 : decode cX4_guess 53 = .ok (.invokevirtual 74, 3) := by decide +kernel
theorem dX4_guess_56 : decode cX4_guess 56 = .ok (.istore_n 2, 1) := by decide +kernel
theorem dX4_guess_57 : decode cX4_guess 57 = .ok (.aload_n 0, 1) := by decide +kernel
theorem dX4_guess_58 : decode cX4_guess 58 = .ok (.iload_n 1, 1) := by decide +kernel
theorem dX4_guess_59 : decode cX4_guess 59 = .ok (.iload_n 2, 1) := by decide +kernel
theorem dX4_guess_60 : decode cX4_guess 60 = .ok (.invokevirtual 84, 3) := by decide +kernel
theorem dX4_guess_63 : decode cX4_guess 63 = .ok (.iload_n 2, 1) := by decide +kernel
theorem dX4_guess_64 : decode cX4_guess 64 = .ok (.ireturn, 1) := by decide +kernel
set_option maxRecDepth 20000 in
theorem ggX4_manyLeft_X4_isStill : GoodIn wsX4_manyLeft wsX4_isStill := goodIn_r _ [6, 7, 8, 9, 10, 5, 11, 12, 13, 14, 15, 16, 17, 18, 19, 20, 21, 22, 23, 24, 25, 26, 27, 28, 29, 30, 31, 32, 33, 34, 35, 36, 37] (by decide +kernel) (by decide +kernel)
set_option maxRecDepth 20000 in
theorem gX4_manyLeft_X4_isStill : GoodIn wsX4_manyLeft (wsV RX4 81 RX4 yX4_isStill wsX4_isStill) := goodIn_app (goodIn_of _ (by decide +kernel)) ggX4_manyLeft_X4_isStill
theorem dX4_manyLeft_0 : decode cX4_manyLeft 0 = .ok (.iconst 0, 1) := by decide +kernel
theorem dX4_manyLeft_1 : decode cX4_manyLeft 1 = .ok (.istore_n 1, 1) := by decide +kernel
theorem dX4_manyLeft_2 : decode cX4_manyLeft 2 = .ok (.iconst 0, 1) := by decide +kernel
theorem dX4_manyLeft_3 : decode cX4_manyLeft 3 = .ok (.istore_n 2, 1) := by decide +kernel
theorem dX4_manyLeft_4 : decode cX4_manyLeft 4 = .ok (.iload_n 2, 1) := by decide +kernel
theorem dX4_manyLeft_5 : decode cX4_manyLeft 5 = .ok (.aload_n 0, 1) := by decide +kernel
theorem dX4_manyLeft_6 : decode cX4_manyLeft 6 = .ok (.getfield 16, 3) := by decide +kernel
theorem dX4_manyLeft_9 : decode cX4_manyLeft 9 = .ok (.if_icmp .ge 25, 3) := by decide +kernel
theorem dX4_manyLeft_12 : decode cX4_manyLeft 12 = .ok (.iload_n 1, 1) := by decide +kernel
theorem dX4_manyLeft_13 : decode cX4_manyLeft 13 = .ok (.aload_n 0, 1) := by decide +kernel
theorem dX4_manyLeft_14 : decode cX4_manyLeft 14 = .ok (.iload_n 2, 1) := by decide +kernel
theorem dX4_manyLeft_15 : decode cX4_manyLeft 15 = .ok (.invokevirtual 81, 3) := by decide +kernel
theorem dX4_manyLeft_18 : decode cX4_manyLeft 18 = .ok (.ifCond .eq 7, 3) := by decide +kernel
theorem dX4_manyLeft_21 : decode cX4_manyLeft 21 = .ok (.iconst 1, 1) := by decide +kernel
theorem dX4_manyLeft_22 : decode cX4_manyLeft 22 = .ok (.goto 4, 3) := by decide +kernel
theorem dX4_manyLeft_25 : decode cX4_manyLeft 25 = .ok (.iconst 0, 1) := by decide +kernel
theorem dX4_manyLeft_26 : decode cX4_manyLeft 26 = .ok (.iadd, 1) := by decide +kernel
theorem dX4_manyLeft_27 : decode cX4_manyLeft 27 = .ok (.istore_n 1, 1) := by decide +kernel
theorem dX4_manyLeft_28 : decode cX4_manyLeft 28 = .ok (.iinc 2 1, 3) := by decide +kernel
theorem dX4_manyLeft_31 : decode cX4_manyLeft 31 = .ok (.goto (-27), 3) := by decide +kernel
theorem dX4_manyLeft_34 : decode cX4_manyLeft 34 = .ok (.iload_n 1, 1) := by decide +kernel
theorem dX4_manyLeft_35 : decode cX4_manyLeft 35 = .ok (.ireturn, 1) := by decide +kernel
set_option maxRecDepth 20000 in
theorem ggX4_tell_X4_isRow : GoodIn wsX4_tell wsX4_isRow := goodIn_r _ [9, 10, 11, 12, 8, 13, 43, 44, 45, 46, 47, 48, 49, 50, 51, 52, 53, 54, 55, 56, 57, 58] (by decide +kernel) (by decide +kernel)
set_option maxRecDepth 20000 in
theorem gX4_tell_X4_isRow : GoodIn wsX4_tell (wsV RX4 67 RX4 yX4_isRow wsX4_isRow) := goodIn_app (goodIn_of _ (by decide +kernel)) ggX4_tell_X4_isRow
set_option maxRecDepth 20000 in
theorem ggX4_tell_X4_isPossible : GoodIn wsX4_tell wsX4_isPossible := goodIn_r _ [17, 18, 43, 44, 45, 46, 47, 48, 49, 50, 51, 52, 53, 54, 55, 56, 57, 58] (by decide +kernel) (by decide +kernel)
set_option maxRecDepth 20000 in
theorem gX4_tell_X4_isPossible : GoodIn wsX4_tell (wsV RX4 88 RX4 yX4_isPossible wsX4_isPossible) := goodIn_app (goodIn_of _ (by decide +kernel)) ggX4_tell_X4_isPossible
set_option maxRecDepth 20000 in
theorem ggX4_tell_X4_lies : GoodIn wsX4_tell wsX4_lies := goodIn_r _ [22, 1, 23, 24, 25, 26, 27, 8, 28, 29, 30, 18, 43, 44, 45, 46, 47, 48, 49, 50, 51, 52, 53, 54, 55, 56, 57, 58] (by decide +kernel) (by decide +kernel)
set_option maxRecDepth 20000 in
theorem gX4_tell_X4_lies : GoodIn wsX4_tell (wsV RX4 77 RX4 yX4_lies wsX4_lies) := goodIn_app (goodIn_of _ (by decide +kernel)) ggX4_tell_X4_lies
set_option maxRecDepth 20000 in
theorem ggX4_tell_X4_markOfRows : GoodIn wsX4_tell wsX4_markOfRows := goodIn_r _ [28, 29, 30, 18, 43, 44, 45, 46, 47, 48, 49, 50, 51, 52, 53, 54, 55, 56, 57, 58] (by decide +kernel) (by decide +kernel)
set_option maxRecDepth 20000 in
theorem gX4_tell_X4_markOfRows : GoodIn wsX4_tell (wsV RX4 74 RX4 yX4_markOfRows wsX4_markOfRows) := goodIn_app (goodIn_of _ (by decide +kernel)) ggX4_tell_X4_markOfRows
set_option maxRecDepth 20000 in
theorem ggX4_tell_X4_adds : GoodIn wsX4_tell wsX4_adds := goodIn_r _ [34, 23, 1, 24, 43, 44, 45, 46, 47, 48, 49, 50, 51, 52, 53, 54, 55, 56, 57, 58] (by decide +kernel) (by decide +kernel)
set_option maxRecDepth 20000 in
theorem gX4_tell_X4_adds : GoodIn wsX4_tell (wsV RX4 84 RX4 yX4_adds wsX4_adds) := goodIn_app (goodIn_of _ (by decide +kernel)) ggX4_tell_X4_adds
set_option maxRecDepth 20000 in
theorem ggX4_tell_X4_manyLeft : GoodIn wsX4_tell wsX4_manyLeft := goodIn_r _ [38, 10, 39, 40, 41, 8, 42, 4, 19, 20, 21, 22, 1, 23, 24, 25, 26, 27, 28, 29, 30, 18, 43, 44, 45, 46, 47, 48, 49, 50, 51, 52, 53, 54, 55, 56, 57, 58] (by decide +kernel) (by decide +kernel)
set_option maxRecDepth 20000 in
theorem gX4_tell_X4_manyLeft : GoodIn wsX4_tell (wsV RX4 91 RX4 yX4_manyLeft wsX4_manyLeft) := goodIn_app (goodIn_of _ (by decide +kernel)) ggX4_tell_X4_manyLeft
theorem dX4_tell_0 : decode cX4_tell 0 = .ok (.aload_n 0, 1) := by decide +kernel
theorem dX4_tell_1 : decode cX4_tell 1 = .ok (.aload_n 0, 1) := by decide +kernel
theorem dX4_tell_2 : decode cX4_tell 2 = .ok (.iload_n 1, 1) := by decide +kernel
theorem dX4_tell_3 : decode cX4_tell 3 = .ok (.invokevirtual 67, 3) := by decide +kernel
theorem dX4_tell_6 : decode cX4_tell 6 = .ok (.ifCond .ne 7, 3) := by decide +kernel
theorem dX4_tell_9 : decode cX4_tell 9 = .ok (.iconst 1, 1) := by decide +kernel
theorem dX4_tell_10 : decode cX4_tell 10 = .ok (.goto 29, 3) := by decide +kernel
theorem dX4_tell_13 : decode cX4_tell 13 = .ok (.aload_n 0, 1) := by decide +kernel
theorem dX4_tell_14 : decode cX4_tell 14 = .ok (.iload_n 2, 1) := by decide +kernel
theorem dX4_tell_15 : decode cX4_tell 15 = .ok (.invokevirtual 88, 3) := by decide +kernel
theorem dX4_tell_18 : decode cX4_tell 18 = .ok (.ifCond .ne 7, 3) := by decide +kernel
theorem dX4_tell_21 : decode cX4_tell 21 = .ok (.iconst 2, 1) := by decide +kernel
theorem dX4_tell_22 : decode cX4_tell 22 = .ok (.goto 17, 3) := by decide +kernel
theorem dX4_tell_25 : decode cX4_tell 25 = .ok (.aload_n 0, 1) := by decide +kernel
theorem dX4_tell_26 : decode cX4_tell 26 = .ok (.getfield 64, 3) := by decide +kernel
theorem dX4_tell_29 : decode cX4_tell 29 = .ok (.bipush 10, 2) := by decide +kernel
theorem dX4_tell_31 : decode cX4_tell 31 = .ok (.if_icmp .ne 7, 3) := by decide +kernel
theorem dX4_tell_34 : decode cX4_tell 34 = .ok (.iconst 3, 1) := by decide +kernel
theorem dX4_tell_35 : decode cX4_tell 35 = .ok (.goto 4, 3) := by decide +kernel
theorem dX4_tell_38 : decode cX4_tell 38 = .ok (.iconst 0, 1) := by decide +kernel
theorem dX4_tell_39 : decode cX4_tell 39 = .ok (.putfield 50, 3) := by decide +kernel
theorem dX4_tell_42 : decode cX4_tell 42 = .ok (.aload_n 0, 1) := by decide +kernel
theorem dX4_tell_43 : decode cX4_tell 43 = .ok (.getfield 50, 3) := by decide +kernel
theorem dX4_tell_46 : decode cX4_tell 46 = .ok (.ifCond .le 5, 3) := by decide +kernel
theorem dX4_tell_49 : decode cX4_tell 49 = .ok (.iconst 0, 1) := by decide +kernel
theorem dX4_tell_50 : decode cX4_tell 50 = .ok (.ireturn, 1) := by decide +kernel
theorem dX4_tell_51 : decode cX4_tell 51 = .ok (.aload_n 0, 1) := by decide +kernel
theorem dX4_tell_52 : decode cX4_tell 52 = .ok (.getfield 19, 3) := by decide +kernel
theorem dX4_tell_55 : decode cX4_tell 55 = .ok (.iconst (-1), 1) := by decide +kernel
theorem dX4_tell_56 : decode cX4_tell 56 = .ok (.if_icmp .eq 44, 3) := by decide +kernel
theorem dX4_tell_59 : decode cX4_tell 59 = .ok (.aload_n 0, 1) := by decide +kernel
theorem dX4_tell_60 : decode cX4_tell 60 = .ok (.aload_n 0, 1) := by decide +kernel
theorem dX4_tell_61 : decode cX4_tell 61 = .ok (.getfield 19, 3) := by decide +kernel
theorem dX4_tell_64 : decode cX4_tell 64 = .ok (.invokevirtual 77, 3) := by decide +kernel
theorem dX4_tell_67 : decode cX4_tell 67 = .ok (.aload_n 0, 1) := by decide +kernel
theorem dX4_tell_68 : decode cX4_tell 68 = .ok (.iload_n 1, 1) := by decide +kernel
theorem dX4_tell_69 : decode cX4_tell 69 = .ok (.aload_n 0, 1) := by decide +kernel
theorem dX4_tell_70 : decode cX4_tell 70 = .ok (.getfield 19, 3) := by decide +kernel
theorem dX4_tell_73 : decode cX4_tell 73 = .ok (.invokevirtual 74, 3) := by decide +kernel
theorem dX4_tell_76 : decode cX4_tell 76 = .ok (.iload_n 2, 1) := by decide +kernel
theorem dX4_tell_77 : decode cX4_tell 77 = .ok (.if_icmp .ne 7, 3) := by decide +kernel
theorem dX4_tell_80 : decode cX4_tell 80 = .ok (.iconst 0, 1) := by decide +kernel
theorem dX4_tell_81 : decode cX4_tell 81 = .ok (.goto 4, 3) := by decide +kernel
theorem dX4_tell_84 : decode cX4_tell 84 = .ok (.iconst 1, 1) := by decide +kernel
theorem dX4_tell_85 : decode cX4_tell 85 = .ok (.iadd, 1) := by decide +kernel
theorem dX4_tell_86 : decode cX4_tell 86 = .ok (.aload_n 0, 1) := by decide +kernel
theorem dX4_tell_87 : decode cX4_tell 87 = .ok (.getfield 61, 3) := by decide +kernel
theorem dX4_tell_90 : decode cX4_tell 90 = .ok (.if_icmp .le 10, 3) := by decide +kernel
theorem dX4_tell_93 : decode cX4_tell 93 = .ok (.aload_n 0, 1) := by decide +kernel
theorem dX4_tell_94 : decode cX4_tell 94 = .ok (.iconst 3, 1) := by decide +kernel
theorem dX4_tell_95 : decode cX4_tell 95 = .ok (.putfield 50, 3) := by decide +kernel
theorem dX4_tell_98 : decode cX4_tell 98 = .ok (.iconst 0, 1) := by decide +kernel
theorem dX4_tell_99 : decode cX4_tell 99 = .ok (.ireturn, 1) := by decide +kernel
theorem dX4_tell_100 : decode cX4_tell 100 = .ok (.aload_n 0, 1) := by decide +kernel
theorem dX4_tell_101 : decode cX4_tell 101 = .ok (.iload_n 1, 1) := by decide +kernel
theorem dX4_tell_102 : decode cX4_tell 102 = .ok (.iload_n 2, 1) := by decide +kernel
theorem dX4_tell_103 : decode cX4_tell 103 = .ok (.invokevirtual 84, 3) := by decide +kernel
theorem dX4_tell_106 : decode cX4_tell 106 = .ok (.aload_n 0, 1) := by decide +kernel
theorem dX4_tell_107 : decode cX4_tell 107 = .ok (.invokevirtual 91, 3) := by decide +kernel
theorem dX4_tell_110 : decode cX4_tell 110 = .ok (.ireturn, 1) := by decide +kernel
set_option maxRecDepth 20000 in
theorem ggX4_takeBack_X4_manyLeft : GoodIn wsX4_takeBack wsX4_manyLeft := goodIn_r _ [7, 8, 9, 10, 11, 6, 12, 13, 14, 15, 16, 17, 1, 18, 19, 20, 21, 22, 23, 24, 25, 26, 27, 28, 29, 30, 31, 32, 33, 34, 35, 36, 37, 38, 39, 40, 41, 42] (by decide +kernel) (by decide +kernel)
set_option maxRecDepth 20000 in
theorem gX4_takeBack_X4_manyLeft : GoodIn wsX4_takeBack (wsV RX4 91 RX4 yX4_manyLeft wsX4_manyLeft) := goodIn_app (goodIn_of _ (by decide +kernel)) ggX4_takeBack_X4_manyLeft
theorem dX4_takeBack_0 : decode cX4_takeBack 0 = .ok (.aload_n 0, 1) := by decide +kernel
theorem dX4_takeBack_1 : decode cX4_takeBack 1 = .ok (.aload_n 0, 1) := by decide +kernel
theorem dX4_takeBack_2 : decode cX4_takeBack 2 = .ok (.getfield 64, 3) := by decide +kernel
theorem dX4_takeBack_5 : decode cX4_takeBack 5 = .ok (.ifCond .ne 7, 3) := by decide +kernel
theorem dX4_takeBack_8 : decode cX4_takeBack 8 = .ok (.iconst 1, 1) := by decide +kernel
theorem dX4_takeBack_9 : decode cX4_takeBack 9 = .ok (.goto 4, 3) := by decide +kernel
theorem dX4_takeBack_12 : decode cX4_takeBack 12 = .ok (.iconst 0, 1) := by decide +kernel
theorem dX4_takeBack_13 : decode cX4_takeBack 13 = .ok (.putfield 50, 3) := by decide +kernel
theorem dX4_takeBack_16 : decode cX4_takeBack 16 = .ok (.aload_n 0, 1) := by decide +kernel
theorem dX4_takeBack_17 : decode cX4_takeBack 17 = .ok (.getfield 50, 3) := by decide +kernel
theorem dX4_takeBack_20 : decode cX4_takeBack 20 = .ok (.ifCond .le 5, 3) := by decide +kernel
theorem dX4_takeBack_23 : decode cX4_takeBack 23 = .ok (.iconst 0, 1) := by decide +kernel
theorem dX4_takeBack_24 : decode cX4_takeBack 24 = .ok (.ireturn, 1) := by decide +kernel
theorem dX4_takeBack_25 : decode cX4_takeBack 25 = .ok (.aload_n 0, 1) := by decide +kernel
theorem dX4_takeBack_26 : decode cX4_takeBack 26 = .ok (.dup, 1) := by decide +kernel
theorem dX4_takeBack_27 : decode cX4_takeBack 27 = .ok (.getfield 64, 3) := by decide +kernel
theorem dX4_takeBack_30 : decode cX4_takeBack 30 = .ok (.iconst 1, 1) := by decide +kernel
theorem dX4_takeBack_31 : decode cX4_takeBack 31 = .ok (.isub, 1) := by decide +kernel
theorem dX4_takeBack_32 : decode cX4_takeBack 32 = .ok (.putfield 64, 3) := by decide +kernel
theorem dX4_takeBack_35 : decode cX4_takeBack 35 = .ok (.aload_n 0, 1) := by decide +kernel
theorem dX4_takeBack_36 : decode cX4_takeBack 36 = .ok (.invokevirtual 91, 3) := by decide +kernel
theorem dX4_takeBack_39 : decode cX4_takeBack 39 = .ok (.ireturn, 1) := by decide +kernel
theorem dX4_entries_0 : decode cX4_entries 0 = .ok (.aload_n 0, 1) := by decide +kernel
theorem dX4_entries_1 : decode cX4_entries 1 = .ok (.iconst 0, 1) := by decide +kernel
theorem dX4_entries_2 : decode cX4_entries 2 = .ok (.putfield 50, 3) := by decide +kernel
theorem dX4_entries_5 : decode cX4_entries 5 = .ok (.aload_n 0, 1) := by decide +kernel
theorem dX4_entries_6 : decode cX4_entries 6 = .ok (.getfield 64, 3) := by decide +kernel
theorem dX4_entries_9 : decode cX4_entries 9 = .ok (.ireturn, 1) := by decide +kernel
set_option maxRecDepth 20000 in
theorem ggX4_isEntry_X4_in : GoodIn wsX4_isEntry wsX4_in := goodIn_r _ [5] (by decide +kernel) (by decide +kernel)
set_option maxRecDepth 20000 in
theorem gX4_isEntry_X4_in : GoodIn wsX4_isEntry (va_wsS RX4 53 yX4_in wsX4_in) := goodIn_app (goodIn_of _ (by decide +kernel)) ggX4_isEntry_X4_in
theorem dX4_isEntry_0 : decode cX4_isEntry 0 = .ok (.iload_n 1, 1) := by decide +kernel
theorem dX4_isEntry_1 : decode cX4_isEntry 1 = .ok (.iconst 0, 1) := by decide +kernel
theorem dX4_isEntry_2 : decode cX4_isEntry 2 = .ok (.aload_n 0, 1) := by decide +kernel
theorem dX4_isEntry_3 : decode cX4_isEntry 3 = .ok (.getfield 64, 3) := by decide +kernel
theorem dX4_isEntry_6 : decode cX4_isEntry 6 = .ok (.iconst 1, 1) := by decide +kernel
theorem dX4_isEntry_7 : decode cX4_isEntry 7 = .ok (.isub, 1) := by decide +kernel
theorem dX4_isEntry_8 : decode cX4_isEntry 8 = .ok (.invokestatic 53, 3) := by decide +kernel
theorem dX4_isEntry_11 : decode cX4_isEntry 11 = .ok (.ireturn, 1) := by decide +kernel
set_option maxRecDepth 20000 in
theorem ggX4_guessOf_X4_isEntry : GoodIn wsX4_guessOf wsX4_isEntry := goodIn_r _ [7, 8, 9, 10, 6, 11, 12, 13, 14, 15, 16, 17, 18, 19, 20, 21, 22, 23, 24, 25, 26, 27] (by decide +kernel) (by decide +kernel)
set_option maxRecDepth 20000 in
theorem gX4_guessOf_X4_isEntry : GoodIn wsX4_guessOf (wsV RX4 95 RX4 yX4_isEntry wsX4_isEntry) := goodIn_app (goodIn_of _ (by decide +kernel)) ggX4_guessOf_X4_isEntry
theorem dX4_guessOf_0 : decode cX4_guessOf 0 = .ok (.aload_n 0, 1) := by decide +kernel
theorem dX4_guessOf_1 : decode cX4_guessOf 1 = .ok (.aload_n 0, 1) := by decide +kernel
theorem dX4_guessOf_2 : decode cX4_guessOf 2 = .ok (.iload_n 1, 1) := by decide +kernel
theorem dX4_guessOf_3 : decode cX4_guessOf 3 = .ok (.invokevirtual 95, 3) := by decide +kernel
theorem dX4_guessOf_6 : decode cX4_guessOf 6 = .ok (.ifCond .eq 7, 3) := by decide +kernel
theorem dX4_guessOf_9 : decode cX4_guessOf 9 = .ok (.iconst 0, 1) := by decide +kernel
theorem dX4_guessOf_10 : decode cX4_guessOf 10 = .ok (.goto 4, 3) := by decide +kernel
theorem dX4_guessOf_13 : decode cX4_guessOf 13 = .ok (.iconst 1, 1) := by decide +kernel
theorem dX4_guessOf_14 : decode cX4_guessOf 14 = .ok (.putfield 50, 3) := by decide +kernel
theorem dX4_guessOf_17 : decode cX4_guessOf 17 = .ok (.aload_n 0, 1) := by decide +kernel
theorem dX4_guessOf_18 : decode cX4_guessOf 18 = .ok (.getfield 50, 3) := by decide +kernel
theorem dX4_guessOf_21 : decode cX4_guessOf 21 = .ok (.ifCond .le 7, 3) := by decide +kernel
theorem dX4_guessOf_24 : decode cX4_guessOf 24 = .ok (.iconst 0, 1) := by decide +kernel
theorem dX4_guessOf_25 : decode cX4_guessOf 25 = .ok (.goto 9, 3) := by decide +kernel
theorem dX4_guessOf_28 : decode cX4_guessOf 28 = .ok (.aload_n 0, 1) := by decide +kernel
theorem dX4_guessOf_29 : decode cX4_guessOf 29 = .ok (.getfield 22, 3) := by decide +kernel
theorem dX4_guessOf_32 : decode cX4_guessOf 32 = .ok (.iload_n 1, 1) := by decide +kernel
theorem dX4_guessOf_33 : decode cX4_guessOf 33 = .ok (.iaload, 1) := by decide +kernel
theorem dX4_guessOf_34 : decode cX4_guessOf 34 = .ok (.ireturn, 1) := by decide +kernel
set_option maxRecDepth 20000 in
theorem ggX4_markOf_X4_isEntry : GoodIn wsX4_markOf wsX4_isEntry := goodIn_r _ [7, 8, 9, 10, 6, 11, 12, 13, 14, 15, 16, 17, 18, 19, 20, 21, 22, 23, 24, 25, 26, 27] (by decide +kernel) (by decide +kernel)
set_option maxRecDepth 20000 in
theorem gX4_markOf_X4_isEntry : GoodIn wsX4_markOf (wsV RX4 95 RX4 yX4_isEntry wsX4_isEntry) := goodIn_app (goodIn_of _ (by decide +kernel)) ggX4_markOf_X4_isEntry
theorem dX4_markOf_0 : decode cX4_markOf 0 = .ok (.aload_n 0, 1) := by decide +kernel
theorem dX4_markOf_1 : decode cX4_markOf 1 = .ok (.aload_n 0, 1) := by decide +kernel
theorem dX4_markOf_2 : decode cX4_markOf 2 = .ok (.iload_n 1, 1) := by decide +kernel
theorem dX4_markOf_3 : decode cX4_markOf 3 = .ok (.invokevirtual 95, 3) := by decide +kernel
theorem dX4_markOf_6 : decode cX4_markOf 6 = .ok (.ifCond .eq 7, 3) := by decide +kernel
theorem dX4_markOf_9 : decode cX4_markOf 9 = .ok (.iconst 0, 1) := by decide +kernel
theorem dX4_markOf_10 : decode cX4_markOf 10 = .ok (.goto 4, 3) := by decide +kernel
theorem dX4_markOf_13 : decode cX4_markOf 13 = .ok (.iconst 1, 1) := by decide +kernel
theorem dX4_markOf_14 : decode cX4_markOf 14 = .ok (.putfield 50, 3) := by decide +kernel
theorem dX4_markOf_17 : decode cX4_markOf 17 = .ok (.aload_n 0, 1) := by decide +kernel
theorem dX4_markOf_18 : decode cX4_markOf 18 = .ok (.getfield 50, 3) := by decide +kernel
theorem dX4_markOf_21 : decode cX4_markOf 21 = .ok (.ifCond .le 7, 3) := by decide +kernel
theorem dX4_markOf_24 : decode cX4_markOf 24 = .ok (.iconst 0, 1) := by decide +kernel
theorem dX4_markOf_25 : decode cX4_markOf 25 = .ok (.goto 9, 3) := by decide +kernel
theorem dX4_markOf_28 : decode cX4_markOf 28 = .ok (.aload_n 0, 1) := by decide +kernel
theorem dX4_markOf_29 : decode cX4_markOf 29 = .ok (.getfield 26, 3) := by decide +kernel
theorem dX4_markOf_32 : decode cX4_markOf 32 = .ok (.iload_n 1, 1) := by decide +kernel
theorem dX4_markOf_33 : decode cX4_markOf 33 = .ok (.iaload, 1) := by decide +kernel
theorem dX4_markOf_34 : decode cX4_markOf 34 = .ok (.ireturn, 1) := by decide +kernel
set_option maxRecDepth 20000 in
theorem ggX4_liesAbout_X4_isRow : GoodIn wsX4_liesAbout wsX4_isRow := goodIn_r _ [6, 7, 8, 9, 5, 10, 25, 26, 27, 28, 29, 30, 31, 32, 33, 34, 35, 36, 37, 38, 39, 40] (by decide +kernel) (by decide +kernel)
set_option maxRecDepth 20000 in
theorem gX4_liesAbout_X4_isRow : GoodIn wsX4_liesAbout (wsV RX4 67 RX4 yX4_isRow wsX4_isRow) := goodIn_app (goodIn_of _ (by decide +kernel)) ggX4_liesAbout_X4_isRow
set_option maxRecDepth 20000 in
theorem ggX4_liesAbout_X4_lies : GoodIn wsX4_liesAbout wsX4_lies := goodIn_r _ [14, 15, 16, 17, 18, 19, 20, 5, 21, 22, 23, 24, 25, 26, 27, 28, 29, 30, 31, 32, 33, 34, 35, 36, 37, 38, 39, 40] (by decide +kernel) (by decide +kernel)
set_option maxRecDepth 20000 in
theorem gX4_liesAbout_X4_lies : GoodIn wsX4_liesAbout (wsV RX4 77 RX4 yX4_lies wsX4_lies) := goodIn_app (goodIn_of _ (by decide +kernel)) ggX4_liesAbout_X4_lies
theorem dX4_liesAbout_0 : decode cX4_liesAbout 0 = .ok (.aload_n 0, 1) := by decide +kernel
theorem dX4_liesAbout_1 : decode cX4_liesAbout 1 = .ok (.aload_n 0, 1) := by decide +kernel
theorem dX4_liesAbout_2 : decode cX4_liesAbout 2 = .ok (.iload_n 1, 1) := by decide +kernel
theorem dX4_liesAbout_3 : decode cX4_liesAbout 3 = .ok (.invokevirtual 67, 3) := by decide +kernel
theorem dX4_liesAbout_6 : decode cX4_liesAbout 6 = .ok (.ifCond .eq 7, 3) := by decide +kernel
theorem dX4_liesAbout_9 : decode cX4_liesAbout 9 = .ok (.iconst 0, 1) := by decide +kernel
theorem dX4_liesAbout_10 : decode cX4_liesAbout 10 = .ok (.goto 4, 3) := by decide +kernel
theorem dX4_liesAbout_13 : decode cX4_liesAbout 13 = .ok (.iconst 1, 1) := by decide +kernel
theorem dX4_liesAbout_14 : decode cX4_liesAbout 14 = .ok (.putfield 50, 3) := by decide +kernel
theorem dX4_liesAbout_17 : decode cX4_liesAbout 17 = .ok (.aload_n 0, 1) := by decide +kernel
theorem dX4_liesAbout_18 : decode cX4_liesAbout 18 = .ok (.getfield 50, 3) := by decide +kernel
theorem dX4_liesAbout_21 : decode cX4_liesAbout 21 = .ok (.ifCond .le 7, 3) := by decide +kernel
theorem dX4_liesAbout_24 : decode cX4_liesAbout 24 = .ok (.iconst 0, 1) := by decide +kernel
theorem dX4_liesAbout_25 : decode cX4_liesAbout 25 = .ok (.goto 8, 3) := by decide +kernel
theorem dX4_liesAbout_28 : decode cX4_liesAbout 28 = .ok (.aload_n 0, 1) := by decide +kernel
theorem dX4_liesAbout_29 : decode cX4_liesAbout 29 = .ok (.iload_n 1, 1) := by decide +kernel
theorem dX4_liesAbout_30 : decode cX4_liesAbout 30 = .ok (.invokevirtual 77, 3) := by decide +kernel
theorem dX4_liesAbout_33 : decode cX4_liesAbout 33 = .ok (.ireturn, 1) := by decide +kernel
set_option maxRecDepth 20000 in
theorem ggX4_left_X4_manyLeft : GoodIn wsX4_left wsX4_manyLeft := goodIn_r _ [6, 7, 8, 9, 10, 5, 11, 12, 13, 14, 15, 16, 17, 18, 19, 20, 21, 22, 23, 24, 25, 26, 27, 28, 29, 30, 31, 32, 33, 34, 35, 36, 37, 38, 39, 40, 41, 42] (by decide +kernel) (by decide +kernel)
set_option maxRecDepth 20000 in
theorem gX4_left_X4_manyLeft : GoodIn wsX4_left (wsV RX4 91 RX4 yX4_manyLeft wsX4_manyLeft) := goodIn_app (goodIn_of _ (by decide +kernel)) ggX4_left_X4_manyLeft
theorem dX4_left_0 : decode cX4_left 0 = .ok (.aload_n 0, 1) := by decide +kernel
theorem dX4_left_1 : decode cX4_left 1 = .ok (.iconst 0, 1) := by decide +kernel
theorem dX4_left_2 : decode cX4_left 2 = .ok (.putfield 50, 3) := by decide +kernel
theorem dX4_left_5 : decode cX4_left 5 = .ok (.aload_n 0, 1) := by decide +kernel
theorem dX4_left_6 : decode cX4_left 6 = .ok (.invokevirtual 91, 3) := by decide +kernel
theorem dX4_left_9 : decode cX4_left 9 = .ok (.ireturn, 1) := by decide +kernel
set_option maxRecDepth 20000 in
theorem ggX4_leftByAll_X4_manyLeft : GoodIn wsX4_leftByAll wsX4_manyLeft := goodIn_r _ [6, 7, 8, 9, 10, 5, 11, 12, 13, 14, 15, 16, 17, 18, 19, 20, 21, 22, 23, 24, 25, 26, 27, 28, 29, 30, 31, 32, 33, 34, 35, 36, 37, 38, 39, 40, 41, 42] (by decide +kernel) (by decide +kernel)
set_option maxRecDepth 20000 in
theorem gX4_leftByAll_X4_manyLeft : GoodIn wsX4_leftByAll (wsV RX4 91 RX4 yX4_manyLeft wsX4_manyLeft) := goodIn_app (goodIn_of _ (by decide +kernel)) ggX4_leftByAll_X4_manyLeft
theorem dX4_leftByAll_0 : decode cX4_leftByAll 0 = .ok (.aload_n 0, 1) := by decide +kernel
theorem dX4_leftByAll_1 : decode cX4_leftByAll 1 = .ok (.iconst 0, 1) := by decide +kernel
theorem dX4_leftByAll_2 : decode cX4_leftByAll 2 = .ok (.putfield 50, 3) := by decide +kernel
theorem dX4_leftByAll_5 : decode cX4_leftByAll 5 = .ok (.aload_n 0, 1) := by decide +kernel
theorem dX4_leftByAll_6 : decode cX4_leftByAll 6 = .ok (.invokevirtual 91, 3) := by decide +kernel
theorem dX4_leftByAll_9 : decode cX4_leftByAll 9 = .ok (.ireturn, 1) := by decide +kernel
set_option maxRecDepth 20000 in
theorem ggX4_isLeft_X4_isRow : GoodIn wsX4_isLeft wsX4_isRow := goodIn_r _ [6, 7, 8, 9, 5, 10, 30, 31, 32, 33, 34, 35, 36, 37, 38, 39, 40, 41, 42, 43, 44, 45] (by decide +kernel) (by decide +kernel)
set_option maxRecDepth 20000 in
theorem gX4_isLeft_X4_isRow : GoodIn wsX4_isLeft (wsV RX4 67 RX4 yX4_isRow wsX4_isRow) := goodIn_app (goodIn_of _ (by decide +kernel)) ggX4_isLeft_X4_isRow
set_option maxRecDepth 20000 in
theorem ggX4_isLeft_X4_isStill : GoodIn wsX4_isLeft wsX4_isStill := goodIn_r _ [14, 15, 16, 17, 18, 5, 19, 20, 21, 22, 23, 24, 25, 26, 27, 28, 29, 30, 31, 32, 33, 34, 35, 36, 37, 38, 39, 40, 41, 42, 43, 44, 45] (by decide +kernel) (by decide +kernel)
set_option maxRecDepth 20000 in
theorem gX4_isLeft_X4_isStill : GoodIn wsX4_isLeft (wsV RX4 81 RX4 yX4_isStill wsX4_isStill) := goodIn_app (goodIn_of _ (by decide +kernel)) ggX4_isLeft_X4_isStill
theorem dX4_isLeft_0 : decode cX4_isLeft 0 = .ok (.aload_n 0, 1) := by decide +kernel
theorem dX4_isLeft_1 : decode cX4_isLeft 1 = .ok (.aload_n 0, 1) := by decide +kernel
theorem dX4_isLeft_2 : decode cX4_isLeft 2 = .ok (.iload_n 1, 1) := by decide +kernel
theorem dX4_isLeft_3 : decode cX4_isLeft 3 = .ok (.invokevirtual 67, 3) := by decide +kernel
theorem dX4_isLeft_6 : decode cX4_isLeft 6 = .ok (.ifCond .eq 7, 3) := by decide +kernel
theorem dX4_isLeft_9 : decode cX4_isLeft 9 = .ok (.iconst 0, 1) := by decide +kernel
theorem dX4_isLeft_10 : decode cX4_isLeft 10 = .ok (.goto 4, 3) := by decide +kernel
theorem dX4_isLeft_13 : decode cX4_isLeft 13 = .ok (.iconst 1, 1) := by decide +kernel
theorem dX4_isLeft_14 : decode cX4_isLeft 14 = .ok (.putfield 50, 3) := by decide +kernel
theorem dX4_isLeft_17 : decode cX4_isLeft 17 = .ok (.aload_n 0, 1) := by decide +kernel
theorem dX4_isLeft_18 : decode cX4_isLeft 18 = .ok (.getfield 50, 3) := by decide +kernel
theorem dX4_isLeft_21 : decode cX4_isLeft 21 = .ok (.ifCond .ne 15, 3) := by decide +kernel
theorem dX4_isLeft_24 : decode cX4_isLeft 24 = .ok (.aload_n 0, 1) := by decide +kernel
theorem dX4_isLeft_25 : decode cX4_isLeft 25 = .ok (.iload_n 1, 1) := by decide +kernel
theorem dX4_isLeft_26 : decode cX4_isLeft 26 = .ok (.invokevirtual 81, 3) := by decide +kernel
theorem dX4_isLeft_29 : decode cX4_isLeft 29 = .ok (.ifCond .eq 7, 3) := by decide +kernel
theorem dX4_isLeft_32 : decode cX4_isLeft 32 = .ok (.iconst 1, 1) := by decide +kernel
theorem dX4_isLeft_33 : decode cX4_isLeft 33 = .ok (.goto 4, 3) := by decide +kernel
theorem dX4_isLeft_36 : decode cX4_isLeft 36 = .ok (.iconst 0, 1) := by decide +kernel
theorem dX4_isLeft_37 : decode cX4_isLeft 37 = .ok (.ireturn, 1) := by decide +kernel
set_option maxRecDepth 20000 in
theorem ggX4_laysLeft_X4_isStill : GoodIn wsX4_laysLeft wsX4_isStill := goodIn_r _ [7, 8, 9, 10, 11, 6, 12, 13, 14, 15, 16, 17, 18, 19, 20, 21, 22, 23, 24, 25, 26, 27, 28, 29, 30, 31, 32, 33, 34, 35, 36, 37, 38] (by decide +kernel) (by decide +kernel)
set_option maxRecDepth 20000 in
theorem gX4_laysLeft_X4_isStill : GoodIn wsX4_laysLeft (wsV RX4 81 RX4 yX4_isStill wsX4_isStill) := goodIn_app (goodIn_of _ (by decide +kernel)) ggX4_laysLeft_X4_isStill
theorem dX4_laysLeft_0 : decode cX4_laysLeft 0 = .ok (.iconst 0, 1) := by decide +kernel
theorem dX4_laysLeft_1 : decode cX4_laysLeft 1 = .ok (.istore_n 1, 1) := by decide +kernel
theorem dX4_laysLeft_2 : decode cX4_laysLeft 2 = .ok (.iconst 0, 1) := by decide +kernel
theorem dX4_laysLeft_3 : decode cX4_laysLeft 3 = .ok (.istore_n 2, 1) := by decide +kernel
theorem dX4_laysLeft_4 : decode cX4_laysLeft 4 = .ok (.iload_n 2, 1) := by decide +kernel
theorem dX4_laysLeft_5 : decode cX4_laysLeft 5 = .ok (.aload_n 0, 1) := by decide +kernel
theorem dX4_laysLeft_6 : decode cX4_laysLeft 6 = .ok (.getfield 16, 3) := by decide +kernel
theorem dX4_laysLeft_9 : decode cX4_laysLeft 9 = .ok (.if_icmp .ge 27, 3) := by decide +kernel
theorem dX4_laysLeft_12 : decode cX4_laysLeft 12 = .ok (.aload_n 0, 1) := by decide +kernel
theorem dX4_laysLeft_13 : decode cX4_laysLeft 13 = .ok (.iload_n 2, 1) := by decide +kernel
theorem dX4_laysLeft_14 : decode cX4_laysLeft 14 = .ok (.invokevirtual 81, 3) := by decide +kernel
theorem dX4_laysLeft_17 : decode cX4_laysLeft 17 = .ok (.ifCond .eq 13, 3) := by decide +kernel
theorem dX4_laysLeft_20 : decode cX4_laysLeft 20 = .ok (.aload_n 0, 1) := by decide +kernel
theorem dX4_laysLeft_21 : decode cX4_laysLeft 21 = .ok (.getfield 35, 3) := by decide +kernel
theorem dX4_laysLeft_24 : decode cX4_laysLeft 24 = .ok (.iload_n 1, 1) := by decide +kernel
theorem dX4_laysLeft_25 : decode cX4_laysLeft 25 = .ok (.iload_n 2, 1) := by decide +kernel
theorem dX4_laysLeft_26 : decode cX4_laysLeft 26 = .ok (.iastore, 1) := by decide +kernel
theorem dX4_laysLeft_27 : decode cX4_laysLeft 27 = .ok (.iinc 1 1, 3) := by decide +kernel
theorem dX4_laysLeft_30 : decode cX4_laysLeft 30 = .ok (.iinc 2 1, 3) := by decide +kernel
theorem dX4_laysLeft_33 : decode cX4_laysLeft 33 = .ok (.goto (-29), 3) := by decide +kernel
theorem dX4_laysLeft_36 : decode cX4_laysLeft 36 = .ok (.iload_n 1, 1) := by decide +kernel
theorem dX4_laysLeft_37 : decode cX4_laysLeft 37 = .ok (.ireturn, 1) := by decide +kernel
set_option maxRecDepth 20000 in
theorem ggX4_leftAt_X4_laysLeft : GoodIn wsX4_leftAt wsX4_laysLeft := goodIn_r _ [7, 8, 2, 9, 10, 11, 6, 12, 13, 14, 15, 16, 17, 18, 19, 20, 21, 22, 23, 24, 25, 26, 27, 31, 32, 33, 34, 35, 36, 37, 38, 39, 40, 41, 42, 43, 44, 45, 46] (by decide +kernel) (by decide +kernel)
set_option maxRecDepth 20000 in
theorem gX4_leftAt_X4_laysLeft : GoodIn wsX4_leftAt (wsV RX4 98 RX4 yX4_laysLeft wsX4_laysLeft) := goodIn_app (goodIn_of _ (by decide +kernel)) ggX4_leftAt_X4_laysLeft
set_option maxRecDepth 20000 in
theorem ggX4_leftAt_X4_in : GoodIn wsX4_leftAt wsX4_in := goodIn_r _ [30] (by decide +kernel) (by decide +kernel)
set_option maxRecDepth 20000 in
theorem gX4_leftAt_X4_in : GoodIn wsX4_leftAt (va_wsS RX4 53 yX4_in wsX4_in) := goodIn_app (goodIn_of _ (by decide +kernel)) ggX4_leftAt_X4_in
theorem dX4_leftAt_0 : decode cX4_leftAt 0 = .ok (.aload_n 0, 1) := by decide +kernel
theorem dX4_leftAt_1 : decode cX4_leftAt 1 = .ok (.invokevirtual 98, 3) := by decide +kernel
theorem dX4_leftAt_4 : decode cX4_leftAt 4 = .ok (.istore_n 2, 1) := by decide +kernel
theorem dX4_leftAt_5 : decode cX4_leftAt 5 = .ok (.aload_n 0, 1) := by decide +kernel
theorem dX4_leftAt_6 : decode cX4_leftAt 6 = .ok (.iload_n 1, 1) := by decide +kernel
theorem dX4_leftAt_7 : decode cX4_leftAt 7 = .ok (.iconst 0, 1) := by decide +kernel
theorem dX4_leftAt_8 : decode cX4_leftAt 8 = .ok (.iload_n 2, 1) := by decide +kernel
theorem dX4_leftAt_9 : decode cX4_leftAt 9 = .ok (.iconst 1, 1) := by decide +kernel
theorem dX4_leftAt_10 : decode cX4_leftAt 10 = .ok (.isub, 1) := by decide +kernel
theorem dX4_leftAt_11 : decode cX4_leftAt 11 = .ok (.invokestatic 53, 3) := by decide +kernel
theorem dX4_leftAt_14 : decode cX4_leftAt 14 = .ok (.ifCond .eq 7, 3) := by decide +kernel
theorem dX4_leftAt_17 : decode cX4_leftAt 17 = .ok (.iconst 0, 1) := by decide +kernel
theorem dX4_leftAt_18 : decode cX4_leftAt 18 = .ok (.goto 4, 3) := by decide +kernel
theorem dX4_leftAt_21 : decode cX4_leftAt 21 = .ok (.iconst 1, 1) := by decide +kernel
theorem dX4_leftAt_22 : decode cX4_leftAt 22 = .ok (.putfield 50, 3) := by decide +kernel
theorem dX4_leftAt_25 : decode cX4_leftAt 25 = .ok (.aload_n 0, 1) := by decide +kernel
theorem dX4_leftAt_26 : decode cX4_leftAt 26 = .ok (.getfield 50, 3) := by decide +kernel
theorem dX4_leftAt_29 : decode cX4_leftAt 29 = .ok (.ifCond .le 7, 3) := by decide +kernel
theorem dX4_leftAt_32 : decode cX4_leftAt 32 = .ok (.iconst 0, 1) := by decide +kernel
theorem dX4_leftAt_33 : decode cX4_leftAt 33 = .ok (.goto 9, 3) := by decide +kernel
theorem dX4_leftAt_36 : decode cX4_leftAt 36 = .ok (.aload_n 0, 1) := by decide +kernel
theorem dX4_leftAt_37 : decode cX4_leftAt 37 = .ok (.getfield 35, 3) := by decide +kernel
theorem dX4_leftAt_40 : decode cX4_leftAt 40 = .ok (.iload_n 1, 1) := by decide +kernel
theorem dX4_leftAt_41 : decode cX4_leftAt 41 = .ok (.iaload, 1) := by decide +kernel
theorem dX4_leftAt_42 : decode cX4_leftAt 42 = .ok (.ireturn, 1) := by decide +kernel
set_option maxRecDepth 20000 in
theorem ggX4_laysParts_X4_markOfRows : GoodIn wsX4_laysParts wsX4_markOfRows := goodIn_r _ [7, 8, 9, 10, 11, 12, 13, 14, 15, 16, 17, 18, 19, 20, 21, 22, 23, 24, 25, 26] (by decide +kernel) (by decide +kernel)
set_option maxRecDepth 20000 in
theorem gX4_laysParts_X4_markOfRows : GoodIn wsX4_laysParts (wsV RX4 74 RX4 yX4_markOfRows wsX4_markOfRows) := goodIn_app (goodIn_of _ (by decide +kernel)) ggX4_laysParts_X4_markOfRows
theorem dX4_laysParts_0 : decode cX4_laysParts 0 = .ok (.iconst 0, 1) := by decide +kernel
theorem dX4_laysParts_1 : decode cX4_laysParts 1 = .ok (.istore 4, 2) := by decide +kernel
theorem dX4_laysParts_3 : decode cX4_laysParts 3 = .ok (.iload 4, 2) := by decide +kernel
theorem dX4_laysParts_5 : decode cX4_laysParts 5 = .ok (.bipush 100, 2) := by decide +kernel
theorem dX4_laysParts_7 : decode cX4_laysParts 7 = .ok (.if_icmp .ge 17, 3) := by decide +kernel
theorem dX4_laysParts_10 : decode cX4_laysParts 10 = .ok (.aload_n 0, 1) := by decide +kernel
theorem dX4_laysParts_11 : decode cX4_laysParts 11 = .ok (.getfield 32, 3) := by decide +kernel
theorem dX4_laysParts_14 : decode cX4_laysParts 14 = .ok (.iload 4, 2) := by decide +kernel
theorem dX4_laysParts_16 : decode cX4_laysParts 16 = .ok (.iconst 0, 1) := by decide +kernel
theorem dX4_laysParts_17 : decode cX4_laysParts 17 = .ok (.iastore, 1) := by decide +kernel
theorem dX4_laysParts_18 : decode cX4_laysParts 18 = .ok (.iinc 4 1, 3) := by decide +kernel
theorem dX4_laysParts_21 : decode cX4_laysParts 21 = .ok (.goto (-18), 3) := by decide +kernel
theorem dX4_laysParts_24 : decode cX4_laysParts 24 = .ok (.iload_n 2, 1) := by decide +kernel
theorem dX4_laysParts_25 : decode cX4_laysParts 25 = .ok (.istore 4, 2) := by decide +kernel
theorem dX4_laysParts_27 : decode cX4_laysParts 27 = .ok (.iload 4, 2) := by decide +kernel
theorem dX4_laysParts_29 : decode cX4_laysParts 29 = .ok (.iload_n 2, 1) := by decide +kernel
theorem dX4_laysParts_30 : decode cX4_laysParts 30 = .ok (.iload_n 3, 1) := by decide +kernel
theorem dX4_laysParts_31 : decode cX4_laysParts 31 = .ok (.iadd, 1) := by decide +kernel
theorem dX4_laysParts_32 : decode cX4_laysParts 32 = .ok (.if_icmp .ge 30, 3) := by decide +kernel
theorem dX4_laysParts_35 : decode cX4_laysParts 35 = .ok (.aload_n 0, 1) := by decide +kernel
theorem dX4_laysParts_36 : decode cX4_laysParts 36 = .ok (.getfield 32, 3) := by decide +kernel
theorem dX4_laysParts_39 : decode cX4_laysParts 39 = .ok (.aload_n 0, 1) := by decide +kernel
theorem dX4_laysParts_40 : decode cX4_laysParts 40 = .ok (.iload_n 1, 1) := by decide +kernel
theorem dX4_laysParts_41 : decode cX4_laysParts 41 = .ok (.aload_n 0, 1) := by decide +kernel
theorem dX4_laysParts_42 : decode cX4_laysParts 42 = .ok (.getfield 35, 3) := by decide +kernel
theorem dX4_laysParts_45 : decode cX4_laysParts 45 = .ok (.iload 4, 2) := by decide +kernel
theorem dX4_laysParts_47 : decode cX4_laysParts 47 = .ok (.iaload, 1) := by decide +kernel
theorem dX4_laysParts_48 : decode cX4_laysParts 48 = .ok (.invokevirtual 74, 3) := by decide +kernel
theorem dX4_laysParts_51 : decode cX4_laysParts 51 = .ok (.dup2, 1) := by decide +kernel
theorem dX4_laysParts_52 : decode cX4_laysParts 52 = .ok (.iaload, 1) := by decide +kernel
theorem dX4_laysParts_53 : decode cX4_laysParts 53 = .ok (.iconst 1, 1) := by decide +kernel
theorem dX4_laysParts_54 : decode cX4_laysParts 54 = .ok (.iadd, 1) := by decide +kernel
theorem dX4_laysParts_55 : decode cX4_laysParts 55 = .ok (.iastore, 1) := by decide +kernel
theorem dX4_laysParts_56 : decode cX4_laysParts 56 = .ok (.iinc 4 1, 3) := by decide +kernel
theorem dX4_laysParts_59 : decode cX4_laysParts 59 = .ok (.goto (-32), 3) := by decide +kernel
theorem dX4_laysParts_62 : decode cX4_laysParts 62 = .ok (.return_, 1) := by decide +kernel
theorem dX4_worst_0 : decode cX4_worst 0 = .ok (.iconst 0, 1) := by decide +kernel
theorem dX4_worst_1 : decode cX4_worst 1 = .ok (.istore_n 1, 1) := by decide +kernel
theorem dX4_worst_2 : decode cX4_worst 2 = .ok (.iconst 0, 1) := by decide +kernel
theorem dX4_worst_3 : decode cX4_worst 3 = .ok (.istore_n 2, 1) := by decide +kernel
theorem dX4_worst_4 : decode cX4_worst 4 = .ok (.iload_n 2, 1) := by decide +kernel
theorem dX4_worst_5 : decode cX4_worst 5 = .ok (.bipush 100, 2) := by decide +kernel
theorem dX4_worst_7 : decode cX4_worst 7 = .ok (.if_icmp .ge 30, 3) := by decide +kernel
theorem dX4_worst_10 : decode cX4_worst 10 = .ok (.aload_n 0, 1) := by decide +kernel
theorem dX4_worst_11 : decode cX4_worst 11 = .ok (.getfield 32, 3) := by decide +kernel
theorem dX4_worst_14 : decode cX4_worst 14 = .ok (.iload_n 2, 1) := by decide +kernel
theorem dX4_worst_15 : decode cX4_worst 15 = .ok (.iaload, 1) := by decide +kernel
theorem dX4_worst_16 : decode cX4_worst 16 = .ok (.iload_n 1, 1) := by decide +kernel
theorem dX4_worst_17 : decode cX4_worst 17 = .ok (.if_icmp .le 12, 3) := by decide +kernel
theorem dX4_worst_20 : decode cX4_worst 20 = .ok (.aload_n 0, 1) := by decide +kernel
theorem dX4_worst_21 : decode cX4_worst 21 = .ok (.getfield 32, 3) := by decide +kernel
theorem dX4_worst_24 : decode cX4_worst 24 = .ok (.iload_n 2, 1) := by decide +kernel
theorem dX4_worst_25 : decode cX4_worst 25 = .ok (.iaload, 1) := by decide +kernel
theorem dX4_worst_26 : decode cX4_worst 26 = .ok (.goto 4, 3) := by decide +kernel
theorem dX4_worst_29 : decode cX4_worst 29 = .ok (.iload_n 1, 1) := by decide +kernel
theorem dX4_worst_30 : decode cX4_worst 30 = .ok (.istore_n 1, 1) := by decide +kernel
theorem dX4_worst_31 : decode cX4_worst 31 = .ok (.iinc 2 1, 3) := by decide +kernel
theorem dX4_worst_34 : decode cX4_worst 34 = .ok (.goto (-30), 3) := by decide +kernel
theorem dX4_worst_37 : decode cX4_worst 37 = .ok (.iload_n 1, 1) := by decide +kernel
theorem dX4_worst_38 : decode cX4_worst 38 = .ok (.ireturn, 1) := by decide +kernel
theorem dX4_squares_0 : decode cX4_squares 0 = .ok (.iconst 0, 1) := by decide +kernel
theorem dX4_squares_1 : decode cX4_squares 1 = .ok (.istore_n 1, 1) := by decide +kernel
theorem dX4_squares_2 : decode cX4_squares 2 = .ok (.iconst 0, 1) := by decide +kernel
theorem dX4_squares_3 : decode cX4_squares 3 = .ok (.istore_n 2, 1) := by decide +kernel
theorem dX4_squares_4 : decode cX4_squares 4 = .ok (.iload_n 2, 1) := by decide +kernel
theorem dX4_squares_5 : decode cX4_squares 5 = .ok (.bipush 100, 2) := by decide +kernel
theorem dX4_squares_7 : decode cX4_squares 7 = .ok (.if_icmp .ge 25, 3) := by decide +kernel
theorem dX4_squares_10 : decode cX4_squares 10 = .ok (.iload_n 1, 1) := by decide +kernel
theorem dX4_squares_11 : decode cX4_squares 11 = .ok (.aload_n 0, 1) := by decide +kernel
theorem dX4_squares_12 : decode cX4_squares 12 = .ok (.getfield 32, 3) := by decide +kernel
theorem dX4_squares_15 : decode cX4_squares 15 = .ok (.iload_n 2, 1) := by decide +kernel
theorem dX4_squares_16 : decode cX4_squares 16 = .ok (.iaload, 1) := by decide +kernel
theorem dX4_squares_17 : decode cX4_squares 17 = .ok (.aload_n 0, 1) := by decide +kernel
theorem dX4_squares_18 : decode cX4_squares 18 = .ok (.getfield 32, 3) := by decide +kernel
theorem dX4_squares_21 : decode cX4_squares 21 = .ok (.iload_n 2, 1) := by decide +kernel
theorem dX4_squares_22 : decode cX4_squares 22 = .ok (.iaload, 1) := by decide +kernel
theorem dX4_squares_23 : decode cX4_squares 23 = .ok (.imul, 1) := by decide +kernel
theorem dX4_squares_24 : decode cX4_squares 24 = .ok (.iadd, 1) := by decide +kernel
theorem dX4_squares_25 : decode cX4_squares 25 = .ok (.istore_n 1, 1) := by decide +kernel
theorem dX4_squares_26 : decode cX4_squares 26 = .ok (.iinc 2 1, 3) := by decide +kernel
theorem dX4_squares_29 : decode cX4_squares 29 = .ok (.goto (-25), 3) := by decide +kernel
theorem dX4_squares_32 : decode cX4_squares 32 = .ok (.iload_n 1, 1) := by decide +kernel
theorem dX4_squares_33 : decode cX4_squares 33 = .ok (.ireturn, 1) := by decide +kernel
theorem dX4_manyParts_0 : decode cX4_manyParts 0 = .ok (.iconst 0, 1) := by decide +kernel
theorem dX4_manyParts_1 : decode cX4_manyParts 1 = .ok (.istore_n 1, 1) := by decide +kernel
theorem dX4_manyParts_2 : decode cX4_manyParts 2 = .ok (.iconst 0, 1) := by decide +kernel
theorem dX4_manyParts_3 : decode cX4_manyParts 3 = .ok (.istore_n 2, 1) := by decide +kernel
theorem dX4_manyParts_4 : decode cX4_manyParts 4 = .ok (.iload_n 2, 1) := by decide +kernel
theorem dX4_manyParts_5 : decode cX4_manyParts 5 = .ok (.bipush 100, 2) := by decide +kernel
theorem dX4_manyParts_7 : decode cX4_manyParts 7 = .ok (.if_icmp .ge 26, 3) := by decide +kernel
theorem dX4_manyParts_10 : decode cX4_manyParts 10 = .ok (.iload_n 1, 1) := by decide +kernel
theorem dX4_manyParts_11 : decode cX4_manyParts 11 = .ok (.aload_n 0, 1) := by decide +kernel
theorem dX4_manyParts_12 : decode cX4_manyParts 12 = .ok (.getfield 32, 3) := by decide +kernel
theorem dX4_manyParts_15 : decode cX4_manyParts 15 = .ok (.iload_n 2, 1) := by decide +kernel
theorem dX4_manyParts_16 : decode cX4_manyParts 16 = .ok (.iaload, 1) := by decide +kernel
theorem dX4_manyParts_17 : decode cX4_manyParts 17 = .ok (.ifCond .le 7, 3) := by decide +kernel
theorem dX4_manyParts_20 : decode cX4_manyParts 20 = .ok (.iconst 1, 1) := by decide +kernel
theorem dX4_manyParts_21 : decode cX4_manyParts 21 = .ok (.goto 4, 3) := by decide +kernel
theorem dX4_manyParts_24 : decode cX4_manyParts 24 = .ok (.iconst 0, 1) := by decide +kernel
theorem dX4_manyParts_25 : decode cX4_manyParts 25 = .ok (.iadd, 1) := by decide +kernel
theorem dX4_manyParts_26 : decode cX4_manyParts 26 = .ok (.istore_n 1, 1) := by decide +kernel
theorem dX4_manyParts_27 : decode cX4_manyParts 27 = .ok (.iinc 2 1, 3) := by decide +kernel
theorem dX4_manyParts_30 : decode cX4_manyParts 30 = .ok (.goto (-26), 3) := by decide +kernel
theorem dX4_manyParts_33 : decode cX4_manyParts 33 = .ok (.iload_n 1, 1) := by decide +kernel
theorem dX4_manyParts_34 : decode cX4_manyParts 34 = .ok (.ireturn, 1) := by decide +kernel
set_option maxRecDepth 20000 in
theorem ggX4_asks_X4_isRow : GoodIn wsX4_asks wsX4_isRow := goodIn_r _ [6, 7, 8, 9, 5, 10, 40, 41, 42, 43, 44, 45, 46, 47, 48, 49, 50, 51, 52, 53, 54, 55] (by decide +kernel) (by decide +kernel)
set_option maxRecDepth 20000 in
theorem gX4_asks_X4_isRow : GoodIn wsX4_asks (wsV RX4 67 RX4 yX4_isRow wsX4_isRow) := goodIn_app (goodIn_of _ (by decide +kernel)) ggX4_asks_X4_isRow
set_option maxRecDepth 20000 in
theorem ggX4_asks_X4_laysLeft : GoodIn wsX4_asks wsX4_laysLeft := goodIn_r _ [14, 7, 15, 16, 17, 18, 5, 19, 20, 21, 22, 23, 24, 25, 26, 27, 28, 29, 30, 31, 32, 33, 34, 40, 41, 42, 43, 44, 45, 46, 47, 48, 49, 50, 51, 52, 53, 54, 55] (by decide +kernel) (by decide +kernel)
set_option maxRecDepth 20000 in
theorem gX4_asks_X4_laysLeft : GoodIn wsX4_asks (wsV RX4 98 RX4 yX4_laysLeft wsX4_laysLeft) := goodIn_app (goodIn_of _ (by decide +kernel)) ggX4_asks_X4_laysLeft
set_option maxRecDepth 20000 in
theorem ggX4_asks_X4_laysParts : GoodIn wsX4_asks wsX4_laysParts := goodIn_r _ [38, 39, 15, 28, 29, 30, 5, 31, 32, 33, 34, 40, 41, 42, 43, 44, 45, 46, 47, 48, 49, 50, 51, 52, 53, 54, 55] (by decide +kernel) (by decide +kernel)
set_option maxRecDepth 20000 in
theorem gX4_asks_X4_laysParts : GoodIn wsX4_asks (wsV RX4 101 RX4 yX4_laysParts wsX4_laysParts) := goodIn_app (goodIn_of _ (by decide +kernel)) ggX4_asks_X4_laysParts
theorem dX4_asks_0 : decode cX4_asks 0 = .ok (.aload_n 0, 1) := by decide +kernel
theorem dX4_asks_1 : decode cX4_asks 1 = .ok (.aload_n 0, 1) := by decide +kernel
theorem dX4_asks_2 : decode cX4_asks 2 = .ok (.iload_n 1, 1) := by decide +kernel
theorem dX4_asks_3 : decode cX4_asks 3 = .ok (.invokevirtual 67, 3) := by decide +kernel
theorem dX4_asks_6 : decode cX4_asks 6 = .ok (.ifCond .eq 7, 3) := by decide +kernel
theorem dX4_asks_9 : decode cX4_asks 9 = .ok (.iconst 0, 1) := by decide +kernel
theorem dX4_asks_10 : decode cX4_asks 10 = .ok (.goto 4, 3) := by decide +kernel
theorem dX4_asks_13 : decode cX4_asks 13 = .ok (.iconst 1, 1) := by decide +kernel
theorem dX4_asks_14 : decode cX4_asks 14 = .ok (.putfield 50, 3) := by decide +kernel
theorem dX4_asks_17 : decode cX4_asks 17 = .ok (.aload_n 0, 1) := by decide +kernel
theorem dX4_asks_18 : decode cX4_asks 18 = .ok (.getfield 50, 3) := by decide +kernel
theorem dX4_asks_21 : decode cX4_asks 21 = .ok (.ifCond .ne 15, 3) := by decide +kernel
theorem dX4_asks_24 : decode cX4_asks 24 = .ok (.aload_n 0, 1) := by decide +kernel
theorem dX4_asks_25 : decode cX4_asks 25 = .ok (.invokevirtual 98, 3) := by decide +kernel
theorem dX4_asks_28 : decode cX4_asks 28 = .ok (.istore_n 2, 1) := by decide +kernel
theorem dX4_asks_29 : decode cX4_asks 29 = .ok (.aload_n 0, 1) := by decide +kernel
theorem dX4_asks_30 : decode cX4_asks 30 = .ok (.iload_n 1, 1) := by decide +kernel
theorem dX4_asks_31 : decode cX4_asks 31 = .ok (.iconst 0, 1) := by decide +kernel
theorem dX4_asks_32 : decode cX4_asks 32 = .ok (.iload_n 2, 1) := by decide +kernel
theorem dX4_asks_33 : decode cX4_asks 33 = .ok (.invokevirtual 101, 3) := by decide +kernel
theorem dX4_asks_36 : decode cX4_asks 36 = .ok (.aload_n 0, 1) := by decide +kernel
theorem dX4_asks_37 : decode cX4_asks 37 = .ok (.getfield 50, 3) := by decide +kernel
theorem dX4_asks_40 : decode cX4_asks 40 = .ok (.ifCond .ne 7, 3) := by decide +kernel
theorem dX4_asks_43 : decode cX4_asks 43 = .ok (.iconst 1, 1) := by decide +kernel
theorem dX4_asks_44 : decode cX4_asks 44 = .ok (.goto 4, 3) := by decide +kernel
theorem dX4_asks_47 : decode cX4_asks 47 = .ok (.iconst 0, 1) := by decide +kernel
theorem dX4_asks_48 : decode cX4_asks 48 = .ok (.ireturn, 1) := by decide +kernel
set_option maxRecDepth 20000 in
theorem ggX4_parts_X4_asks : GoodIn wsX4_parts wsX4_asks := goodIn_r _ [5, 6, 7, 8, 9, 4, 10, 11, 12, 13, 14, 15, 16, 17, 18, 19, 20, 21, 22, 23, 24, 25, 26, 27, 28, 29, 30, 31, 32, 33, 34, 35, 36, 37, 38, 39, 40, 41, 42, 43, 48, 49, 50, 51, 52, 53, 54, 55, 56, 57, 58, 59, 60, 61, 62, 63] (by decide +kernel) (by decide +kernel)
set_option maxRecDepth 20000 in
theorem gX4_parts_X4_asks : GoodIn wsX4_parts (wsV RX4 105 RX4 yX4_asks wsX4_asks) := goodIn_app (goodIn_of _ (by decide +kernel)) ggX4_parts_X4_asks
set_option maxRecDepth 20000 in
theorem ggX4_parts_X4_manyParts : GoodIn wsX4_parts wsX4_manyParts := goodIn_r _ [47, 43, 48, 49, 50, 51, 52, 53, 54, 55, 56, 57, 58, 59, 60, 61, 62, 63] (by decide +kernel) (by decide +kernel)
set_option maxRecDepth 20000 in
theorem gX4_parts_X4_manyParts : GoodIn wsX4_parts (wsV RX4 108 RX4 yX4_manyParts wsX4_manyParts) := goodIn_app (goodIn_of _ (by decide +kernel)) ggX4_parts_X4_manyParts
theorem dX4_parts_0 : decode cX4_parts 0 = .ok (.aload_n 0, 1) := by decide +kernel
theorem dX4_parts_1 : decode cX4_parts 1 = .ok (.iload_n 1, 1) := by decide +kernel
theorem dX4_parts_2 : decode cX4_parts 2 = .ok (.invokevirtual 105, 3) := by decide +kernel
theorem dX4_parts_5 : decode cX4_parts 5 = .ok (.ifCond .eq 10, 3) := by decide +kernel
theorem dX4_parts_8 : decode cX4_parts 8 = .ok (.aload_n 0, 1) := by decide +kernel
theorem dX4_parts_9 : decode cX4_parts 9 = .ok (.invokevirtual 108, 3) := by decide +kernel
theorem dX4_parts_12 : decode cX4_parts 12 = .ok (.goto 4, 3) := by decide +kernel
theorem dX4_parts_15 : decode cX4_parts 15 = .ok (.iconst 0, 1) := by decide +kernel
theorem dX4_parts_16 : decode cX4_parts 16 = .ok (.ireturn, 1) := by decide +kernel
set_option maxRecDepth 20000 in
theorem ggX4_partMark_X4_asks : GoodIn wsX4_partMark wsX4_asks := goodIn_r _ [8, 3, 9, 10, 11, 7, 12, 13, 14, 15, 16, 17, 18, 19, 20, 1, 21, 22, 23, 24, 25, 26, 27, 28, 29, 30, 31, 32, 33, 34, 35, 36, 37, 38, 39, 40, 41, 42, 43, 2, 44, 45, 46, 47, 48, 49, 50, 51, 52, 53, 54, 55, 56, 57, 58, 59] (by decide +kernel) (by decide +kernel)
set_option maxRecDepth 20000 in
theorem gX4_partMark_X4_asks : GoodIn wsX4_partMark (wsV RX4 105 RX4 yX4_asks wsX4_asks) := goodIn_app (goodIn_of _ (by decide +kernel)) ggX4_partMark_X4_asks
set_option maxRecDepth 20000 in
theorem ggX4_partMark_X4_laysLeft : GoodIn wsX4_partMark wsX4_laysLeft := goodIn_r _ [20, 13, 1, 21, 22, 23, 7, 24, 25, 26, 27, 28, 29, 30, 31, 32, 33, 34, 35, 36, 37, 38, 39, 44, 45, 46, 47, 48, 49, 50, 51, 52, 53, 54, 55, 56, 57, 58, 59] (by decide +kernel) (by decide +kernel)
set_option maxRecDepth 20000 in
theorem gX4_partMark_X4_laysLeft : GoodIn wsX4_partMark (wsV RX4 98 RX4 yX4_laysLeft wsX4_laysLeft) := goodIn_app (goodIn_of _ (by decide +kernel)) ggX4_partMark_X4_laysLeft
set_option maxRecDepth 20000 in
theorem ggX4_partMark_X4_markOfRows : GoodIn wsX4_partMark wsX4_markOfRows := goodIn_r _ [36, 37, 38, 39, 44, 45, 46, 47, 48, 49, 50, 51, 52, 53, 54, 55, 56, 57, 58, 59] (by decide +kernel) (by decide +kernel)
set_option maxRecDepth 20000 in
theorem gX4_partMark_X4_markOfRows : GoodIn wsX4_partMark (wsV RX4 74 RX4 yX4_markOfRows wsX4_markOfRows) := goodIn_app (goodIn_of _ (by decide +kernel)) ggX4_partMark_X4_markOfRows
theorem dX4_partMark_0 : decode cX4_partMark 0 = .ok (.aload_n 0, 1) := by decide +kernel
theorem dX4_partMark_1 : decode cX4_partMark 1 = .ok (.iload_n 1, 1) := by decide +kernel
theorem dX4_partMark_2 : decode cX4_partMark 2 = .ok (.invokevirtual 105, 3) := by decide +kernel
theorem dX4_partMark_5 : decode cX4_partMark 5 = .ok (.ifCond .ne 5, 3) := by decide +kernel
theorem dX4_partMark_8 : decode cX4_partMark 8 = .ok (.iconst 0, 1) := by decide +kernel
theorem dX4_partMark_9 : decode cX4_partMark 9 = .ok (.ireturn, 1) := by decide +kernel
theorem dX4_partMark_10 : decode cX4_partMark 10 = .ok (.aload_n 0, 1) := by decide +kernel
theorem dX4_partMark_11 : decode cX4_partMark 11 = .ok (.invokevirtual 98, 3) := by decide +kernel
theorem dX4_partMark_14 : decode cX4_partMark 14 = .ok (.istore_n 3, 1) := by decide +kernel
theorem dX4_partMark_15 : decode cX4_partMark 15 = .ok (.iconst 0, 1) := by decide +kernel
theorem dX4_partMark_16 : decode cX4_partMark 16 = .ok (.istore 4, 2) := by decide +kernel
theorem dX4_partMark_18 : decode cX4_partMark 18 = .ok (.iconst (-1), 1) := by decide +kernel
theorem dX4_partMark_19 : decode cX4_partMark 19 = .ok (.istore 5, 2) := by decide +kernel
theorem dX4_partMark_21 : decode cX4_partMark 21 = .ok (.iconst 0, 1) := by decide +kernel
theorem dX4_partMark_22 : decode cX4_partMark 22 = .ok (.istore 6, 2) := by decide +kernel
theorem dX4_partMark_24 : decode cX4_partMark 24 = .ok (.iload 6, 2) := by decide +kernel
theorem dX4_partMark_26 : decode cX4_partMark 26 = .ok (.iload_n 3, 1) := by decide +kernel
theorem dX4_partMark_27 : decode cX4_partMark 27 = .ok (.if_icmp .ge 83, 3) := by decide +kernel
theorem dX4_partMark_30 : decode cX4_partMark 30 = .ok (.aload_n 0, 1) := by decide +kernel
theorem dX4_partMark_31 : decode cX4_partMark 31 = .ok (.iload_n 1, 1) := by decide +kernel
theorem dX4_partMark_32 : decode cX4_partMark 32 = .ok (.aload_n 0, 1) := by decide +kernel
theorem dX4_partMark_33 : decode cX4_partMark 33 = .ok (.getfield 35, 3) := by decide +kernel
theorem dX4_partMark_36 : decode cX4_partMark 36 = .ok (.iload 6, 2) := by decide +kernel
theorem dX4_partMark_38 : decode cX4_partMark 38 = .ok (.iaload, 1) := by decide +kernel
theorem dX4_partMark_39 : decode cX4_partMark 39 = .ok (.invokevirtual 74, 3) := by decide +kernel
theorem dX4_partMark_42 : decode cX4_partMark 42 = .ok (.istore 7, 2) := by decide +kernel
theorem dX4_partMark_44 : decode cX4_partMark 44 = .ok (.aload_n 0, 1) := by decide +kernel
theorem dX4_partMark_45 : decode cX4_partMark 45 = .ok (.getfield 32, 3) := by decide +kernel
theorem dX4_partMark_48 : decode cX4_partMark 48 = .ok (.iload 7, 2) := by decide +kernel
theorem dX4_partMark_50 : decode cX4_partMark 50 = .ok (.iaload, 1) := by decide +kernel
theorem dX4_partMark_51 : decode cX4_partMark 51 = .ok (.ifCond .le 7, 3) := by decide +kernel
theorem dX4_partMark_54 : decode cX4_partMark 54 = .ok (.iconst 1, 1) := by decide +kernel
theorem dX4_partMark_55 : decode cX4_partMark 55 = .ok (.goto 4, 3) := by decide +kernel
theorem dX4_partMark_58 : decode cX4_partMark 58 = .ok (.iconst 0, 1) := by decide +kernel
theorem dX4_partMark_59 : decode cX4_partMark 59 = .ok (.istore 8, 2) := by decide +kernel
theorem dX4_partMark_61 : decode cX4_partMark 61 = .ok (.aload_n 0, 1) := by decide +kernel
theorem dX4_partMark_62 : decode cX4_partMark 62 = .ok (.getfield 32, 3) := by decide +kernel
theorem dX4_partMark_65 : decode cX4_partMark 65 = .ok (.iload 7, 2) := by decide +kernel
theorem dX4_partMark_67 : decode cX4_partMark 67 = .ok (.iconst 0, 1) := by decide +kernel
theorem dX4_partMark_68 : decode cX4_partMark 68 = .ok (.iastore, 1) := by decide +kernel
theorem dX4_partMark_69 : decode cX4_partMark 69 = .ok (.iload 8, 2) := by decide +kernel
theorem dX4_partMark_71 : decode cX4_partMark 71 = .ok (.ifCond .eq 14, 3) := by decide +kernel
theorem dX4_partMark_74 : decode cX4_partMark 74 = .ok (.iload 4, 2) := by decide +kernel
theorem dX4_partMark_76 : decode cX4_partMark 76 = .ok (.iload_n 2, 1) := by decide +kernel
theorem dX4_partMark_77 : decode cX4_partMark 77 = .ok (.if_icmp .ne 8, 3) := by decide +kernel
theorem dX4_partMark_80 : decode cX4_partMark 80 = .ok (.iload 7, 2) := by decide +kernel
theorem dX4_partMark_82 : decode cX4_partMark 82 = .ok (.goto 5, 3) := by decide +kernel
theorem dX4_partMark_85 : decode cX4_partMark 85 = .ok (.iload 5, 2) := by decide +kernel
theorem dX4_partMark_87 : decode cX4_partMark 87 = .ok (.istore 5, 2) := by decide +kernel
theorem dX4_partMark_89 : decode cX4_partMark 89 = .ok (.iload 4, 2) := by decide +kernel
theorem dX4_partMark_91 : decode cX4_partMark 91 = .ok (.iload 8, 2) := by decide +kernel
theorem dX4_partMark_93 : decode cX4_partMark 93 = .ok (.ifCond .eq 7, 3) := by decide +kernel
theorem dX4_partMark_96 : decode cX4_partMark 96 = .ok (.iconst 1, 1) := by decide +kernel
theorem dX4_partMark_97 : decode cX4_partMark 97 = .ok (.goto 4, 3) := by decide +kernel
theorem dX4_partMark_100 : decode cX4_partMark 100 = .ok (.iconst 0, 1) := by decide +kernel
theorem dX4_partMark_101 : decode cX4_partMark 101 = .ok (.iadd, 1) := by decide +kernel
theorem dX4_partMark_102 : decode cX4_partMark 102 = .ok (.istore 4, 2) := by decide +kernel
theorem dX4_partMark_104 : decode cX4_partMark 104 = .ok (.iinc 6 1, 3) := by decide +kernel
theorem dX4_partMark_107 : decode cX4_partMark 107 = .ok (.goto (-83), 3) := by decide +kernel
theorem dX4_partMark_110 : decode cX4_partMark 110 = .ok (.aload_n 0, 1) := by decide +kernel
theorem dX4_partMark_111 : decode cX4_partMark 111 = .ok (.iload 5, 2) := by decide +kernel
theorem dX4_partMark_113 : decode cX4_partMark 113 = .ok (.iconst (-1), 1) := by decide +kernel
theorem dX4_partMark_114 : decode cX4_partMark 114 = .ok (.if_icmp .ne 7, 3) := by decide +kernel
theorem dX4_partMark_117 : decode cX4_partMark 117 = .ok (.iconst 1, 1) := by decide +kernel
theorem dX4_partMark_118 : decode cX4_partMark 118 = .ok (.goto 4, 3) := by decide +kernel
theorem dX4_partMark_121 : decode cX4_partMark 121 = .ok (.iconst 0, 1) := by decide +kernel
theorem dX4_partMark_122 : decode cX4_partMark 122 = .ok (.putfield 50, 3) := by decide +kernel
theorem dX4_partMark_125 : decode cX4_partMark 125 = .ok (.aload_n 0, 1) := by decide +kernel
theorem dX4_partMark_126 : decode cX4_partMark 126 = .ok (.getfield 50, 3) := by decide +kernel
theorem dX4_partMark_129 : decode cX4_partMark 129 = .ok (.ifCond .le 7, 3) := by decide +kernel
theorem dX4_partMark_132 : decode cX4_partMark 132 = .ok (.iconst 0, 1) := by decide +kernel
theorem dX4_partMark_133 : decode cX4_partMark 133 = .ok (.goto 5, 3) := by decide +kernel
theorem dX4_partMark_136 : decode cX4_partMark 136 = .ok (.iload 5, 2) := by decide +kernel
theorem dX4_partMark_138 : decode cX4_partMark 138 = .ok (.ireturn, 1) := by decide +kernel
set_option maxRecDepth 20000 in
theorem ggX4_partSize_X4_isRow : GoodIn wsX4_partSize wsX4_isRow := goodIn_r _ [7, 8, 9, 10, 6, 11, 48, 49, 50, 51, 52, 53, 54, 55, 56, 57, 58, 59, 60, 61, 62, 63] (by decide +kernel) (by decide +kernel)
set_option maxRecDepth 20000 in
theorem gX4_partSize_X4_isRow : GoodIn wsX4_partSize (wsV RX4 67 RX4 yX4_isRow wsX4_isRow) := goodIn_app (goodIn_of _ (by decide +kernel)) ggX4_partSize_X4_isRow
set_option maxRecDepth 20000 in
theorem ggX4_partSize_X4_isPossible : GoodIn wsX4_partSize wsX4_isPossible := goodIn_r _ [15, 16, 48, 49, 50, 51, 52, 53, 54, 55, 56, 57, 58, 59, 60, 61, 62, 63] (by decide +kernel) (by decide +kernel)
set_option maxRecDepth 20000 in
theorem gX4_partSize_X4_isPossible : GoodIn wsX4_partSize (wsV RX4 88 RX4 yX4_isPossible wsX4_isPossible) := goodIn_app (goodIn_of _ (by decide +kernel)) ggX4_partSize_X4_isPossible
set_option maxRecDepth 20000 in
theorem ggX4_partSize_X4_asks : GoodIn wsX4_partSize wsX4_asks := goodIn_r _ [20, 1, 3, 4, 5, 6, 7, 8, 9, 10, 11, 21, 22, 23, 24, 25, 26, 27, 28, 29, 30, 31, 32, 33, 34, 35, 36, 37, 38, 39, 40, 41, 42, 43, 16, 44, 45, 46, 47, 2, 48, 49, 50, 51, 52, 53, 54, 55, 56, 57, 58, 59, 60, 61, 62, 63] (by decide +kernel) (by decide +kernel)
set_option maxRecDepth 20000 in
theorem gX4_partSize_X4_asks : GoodIn wsX4_partSize (wsV RX4 105 RX4 yX4_asks wsX4_asks) := goodIn_app (goodIn_of _ (by decide +kernel)) ggX4_partSize_X4_asks
theorem dX4_partSize_0 : decode cX4_partSize 0 = .ok (.aload_n 0, 1) := by decide +kernel
theorem dX4_partSize_1 : decode cX4_partSize 1 = .ok (.aload_n 0, 1) := by decide +kernel
theorem dX4_partSize_2 : decode cX4_partSize 2 = .ok (.iload_n 1, 1) := by decide +kernel
theorem dX4_partSize_3 : decode cX4_partSize 3 = .ok (.invokevirtual 67, 3) := by decide +kernel
theorem dX4_partSize_6 : decode cX4_partSize 6 = .ok (.ifCond .ne 7, 3) := by decide +kernel
theorem dX4_partSize_9 : decode cX4_partSize 9 = .ok (.iconst 1, 1) := by decide +kernel
theorem dX4_partSize_10 : decode cX4_partSize 10 = .ok (.goto 16, 3) := by decide +kernel
theorem dX4_partSize_13 : decode cX4_partSize 13 = .ok (.aload_n 0, 1) := by decide +kernel
theorem dX4_partSize_14 : decode cX4_partSize 14 = .ok (.iload_n 2, 1) := by decide +kernel
theorem dX4_partSize_15 : decode cX4_partSize 15 = .ok (.invokevirtual 88, 3) := by decide +kernel
theorem dX4_partSize_18 : decode cX4_partSize 18 = .ok (.ifCond .eq 7, 3) := by decide +kernel
theorem dX4_partSize_21 : decode cX4_partSize 21 = .ok (.iconst 0, 1) := by decide +kernel
theorem dX4_partSize_22 : decode cX4_partSize 22 = .ok (.goto 4, 3) := by decide +kernel
theorem dX4_partSize_25 : decode cX4_partSize 25 = .ok (.iconst 2, 1) := by decide +kernel
theorem dX4_partSize_26 : decode cX4_partSize 26 = .ok (.putfield 50, 3) := by decide +kernel
theorem dX4_partSize_29 : decode cX4_partSize 29 = .ok (.aload_n 0, 1) := by decide +kernel
theorem dX4_partSize_30 : decode cX4_partSize 30 = .ok (.getfield 50, 3) := by decide +kernel
theorem dX4_partSize_33 : decode cX4_partSize 33 = .ok (.ifCond .ne 20, 3) := by decide +kernel
theorem dX4_partSize_36 : decode cX4_partSize 36 = .ok (.aload_n 0, 1) := by decide +kernel
theorem dX4_partSize_37 : decode cX4_partSize 37 = .ok (.iload_n 1, 1) := by decide +kernel
theorem dX4_partSize_38 : decode cX4_partSize 38 = .ok (.invokevirtual 105, 3) := by decide +kernel
theorem dX4_partSize_41 : decode cX4_partSize 41 = .ok (.ifCond .eq 12, 3) := by decide +kernel
theorem dX4_partSize_44 : decode cX4_partSize 44 = .ok (.aload_n 0, 1) := by decide +kernel
theorem dX4_partSize_45 : decode cX4_partSize 45 = .ok (.getfield 32, 3) := by decide +kernel
theorem dX4_partSize_48 : decode cX4_partSize 48 = .ok (.iload_n 2, 1) := by decide +kernel
theorem dX4_partSize_49 : decode cX4_partSize 49 = .ok (.iaload, 1) := by decide +kernel
theorem dX4_partSize_50 : decode cX4_partSize 50 = .ok (.goto 4, 3) := by decide +kernel
theorem dX4_partSize_53 : decode cX4_partSize 53 = .ok (.iconst 0, 1) := by decide +kernel
theorem dX4_partSize_54 : decode cX4_partSize 54 = .ok (.ireturn, 1) := by decide +kernel
set_option maxRecDepth 20000 in
theorem ggX4_worstCase_X4_asks : GoodIn wsX4_worstCase wsX4_asks := goodIn_r _ [5, 6, 7, 8, 9, 4, 10, 11, 12, 13, 14, 15, 16, 17, 18, 19, 20, 21, 22, 23, 24, 25, 26, 27, 28, 29, 30, 31, 32, 33, 34, 35, 36, 37, 38, 39, 40, 41, 42, 43, 48, 49, 50, 51, 52, 53, 54, 55, 56, 57, 58, 59, 60, 61, 62, 63] (by decide +kernel) (by decide +kernel)
set_option maxRecDepth 20000 in
theorem gX4_worstCase_X4_asks : GoodIn wsX4_worstCase (wsV RX4 105 RX4 yX4_asks wsX4_asks) := goodIn_app (goodIn_of _ (by decide +kernel)) ggX4_worstCase_X4_asks
set_option maxRecDepth 20000 in
theorem ggX4_worstCase_X4_worst : GoodIn wsX4_worstCase wsX4_worst := goodIn_r _ [47, 43, 48, 49, 50, 51, 52, 53, 54, 55, 56, 57, 58, 59, 60, 61, 62, 63] (by decide +kernel) (by decide +kernel)
set_option maxRecDepth 20000 in
theorem gX4_worstCase_X4_worst : GoodIn wsX4_worstCase (wsV RX4 111 RX4 yX4_worst wsX4_worst) := goodIn_app (goodIn_of _ (by decide +kernel)) ggX4_worstCase_X4_worst
theorem dX4_worstCase_0 : decode cX4_worstCase 0 = .ok (.aload_n 0, 1) := by decide +kernel
theorem dX4_worstCase_1 : decode cX4_worstCase 1 = .ok (.iload_n 1, 1) := by decide +kernel
theorem dX4_worstCase_2 : decode cX4_worstCase 2 = .ok (.invokevirtual 105, 3) := by decide +kernel
theorem dX4_worstCase_5 : decode cX4_worstCase 5 = .ok (.ifCond .eq 10, 3) := by decide +kernel
theorem dX4_worstCase_8 : decode cX4_worstCase 8 = .ok (.aload_n 0, 1) := by decide +kernel
theorem dX4_worstCase_9 : decode cX4_worstCase 9 = .ok (.invokevirtual 111, 3) := by decide +kernel
theorem dX4_worstCase_12 : decode cX4_worstCase 12 = .ok (.goto 4, 3) := by decide +kernel
theorem dX4_worstCase_15 : decode cX4_worstCase 15 = .ok (.iconst 0, 1) := by decide +kernel
theorem dX4_worstCase_16 : decode cX4_worstCase 16 = .ok (.ireturn, 1) := by decide +kernel
set_option maxRecDepth 20000 in
theorem ggX4_weight_X4_asks : GoodIn wsX4_weight wsX4_asks := goodIn_r _ [5, 6, 7, 8, 9, 4, 10, 11, 12, 13, 14, 15, 16, 17, 18, 19, 20, 21, 22, 23, 24, 25, 26, 27, 28, 29, 30, 31, 32, 33, 34, 35, 36, 37, 38, 39, 40, 41, 42, 43, 48, 49, 50, 51, 52, 53, 54, 55, 56, 57, 58, 59, 60, 61, 62, 63] (by decide +kernel) (by decide +kernel)
set_option maxRecDepth 20000 in
theorem gX4_weight_X4_asks : GoodIn wsX4_weight (wsV RX4 105 RX4 yX4_asks wsX4_asks) := goodIn_app (goodIn_of _ (by decide +kernel)) ggX4_weight_X4_asks
set_option maxRecDepth 20000 in
theorem ggX4_weight_X4_squares : GoodIn wsX4_weight wsX4_squares := goodIn_r _ [47, 43, 48, 49, 50, 51, 52, 53, 54, 55, 56, 57, 58, 59, 60, 61, 62, 63] (by decide +kernel) (by decide +kernel)
set_option maxRecDepth 20000 in
theorem gX4_weight_X4_squares : GoodIn wsX4_weight (wsV RX4 114 RX4 yX4_squares wsX4_squares) := goodIn_app (goodIn_of _ (by decide +kernel)) ggX4_weight_X4_squares
theorem dX4_weight_0 : decode cX4_weight 0 = .ok (.aload_n 0, 1) := by decide +kernel
theorem dX4_weight_1 : decode cX4_weight 1 = .ok (.iload_n 1, 1) := by decide +kernel
theorem dX4_weight_2 : decode cX4_weight 2 = .ok (.invokevirtual 105, 3) := by decide +kernel
theorem dX4_weight_5 : decode cX4_weight 5 = .ok (.ifCond .eq 10, 3) := by decide +kernel
theorem dX4_weight_8 : decode cX4_weight 8 = .ok (.aload_n 0, 1) := by decide +kernel
theorem dX4_weight_9 : decode cX4_weight 9 = .ok (.invokevirtual 114, 3) := by decide +kernel
theorem dX4_weight_12 : decode cX4_weight 12 = .ok (.goto 4, 3) := by decide +kernel
theorem dX4_weight_15 : decode cX4_weight 15 = .ok (.iconst 0, 1) := by decide +kernel
theorem dX4_weight_16 : decode cX4_weight 16 = .ok (.ireturn, 1) := by decide +kernel
theorem dX4_isAmong_0 : decode cX4_isAmong 0 = .ok (.iconst 0, 1) := by decide +kernel
theorem dX4_isAmong_1 : decode cX4_isAmong 1 = .ok (.istore 4, 2) := by decide +kernel
theorem dX4_isAmong_3 : decode cX4_isAmong 3 = .ok (.iload_n 2, 1) := by decide +kernel
theorem dX4_isAmong_4 : decode cX4_isAmong 4 = .ok (.istore 5, 2) := by decide +kernel
theorem dX4_isAmong_6 : decode cX4_isAmong 6 = .ok (.iload 5, 2) := by decide +kernel
theorem dX4_isAmong_8 : decode cX4_isAmong 8 = .ok (.iload_n 2, 1) := by decide +kernel
theorem dX4_isAmong_9 : decode cX4_isAmong 9 = .ok (.iload_n 3, 1) := by decide +kernel
theorem dX4_isAmong_10 : decode cX4_isAmong 10 = .ok (.iadd, 1) := by decide +kernel
theorem dX4_isAmong_11 : decode cX4_isAmong 11 = .ok (.if_icmp .ge 32, 3) := by decide +kernel
theorem dX4_isAmong_14 : decode cX4_isAmong 14 = .ok (.iload 4, 2) := by decide +kernel
theorem dX4_isAmong_16 : decode cX4_isAmong 16 = .ok (.ifCond .ne 14, 3) := by decide +kernel
theorem dX4_isAmong_19 : decode cX4_isAmong 19 = .ok (.aload_n 0, 1) := by decide +kernel
theorem dX4_isAmong_20 : decode cX4_isAmong 20 = .ok (.getfield 35, 3) := by decide +kernel
theorem dX4_isAmong_23 : decode cX4_isAmong 23 = .ok (.iload 5, 2) := by decide +kernel
theorem dX4_isAmong_25 : decode cX4_isAmong 25 = .ok (.iaload, 1) := by decide +kernel
theorem dX4_isAmong_26 : decode cX4_isAmong 26 = .ok (.iload_n 1, 1) := by decide +kernel
theorem dX4_isAmong_27 : decode cX4_isAmong 27 = .ok (.if_icmp .ne 7, 3) := by decide +kernel
theorem dX4_isAmong_30 : decode cX4_isAmong 30 = .ok (.iconst 1, 1) := by decide +kernel
theorem dX4_isAmong_31 : decode cX4_isAmong 31 = .ok (.goto 4, 3) := by decide +kernel
theorem dX4_isAmong_34 : decode cX4_isAmong 34 = .ok (.iconst 0, 1) := by decide +kernel
theorem dX4_isAmong_35 : decode cX4_isAmong 35 = .ok (.istore 4, 2) := by decide +kernel
theorem dX4_isAmong_37 : decode cX4_isAmong 37 = .ok (.iinc 5 1, 3) := by decide +kernel
theorem dX4_isAmong_40 : decode cX4_isAmong 40 = .ok (.goto (-34), 3) := by decide +kernel
theorem dX4_isAmong_43 : decode cX4_isAmong 43 = .ok (.iload 4, 2) := by decide +kernel
theorem dX4_isAmong_45 : decode cX4_isAmong 45 = .ok (.ireturn, 1) := by decide +kernel
set_option maxRecDepth 20000 in
theorem ggX4_best_X4_laysParts : GoodIn wsX4_best wsX4_laysParts := goodIn_r _ [6, 7, 8, 9, 10, 11, 5, 12, 13, 14, 15, 32, 33, 34, 35, 36, 37, 38, 39, 40, 41, 42, 43, 44, 45, 46, 47] (by decide +kernel) (by decide +kernel)
set_option maxRecDepth 20000 in
theorem gX4_best_X4_laysParts : GoodIn wsX4_best (wsV RX4 101 RX4 yX4_laysParts wsX4_laysParts) := goodIn_app (goodIn_of _ (by decide +kernel)) ggX4_best_X4_laysParts
set_option maxRecDepth 20000 in
theorem ggX4_best_X4_worst : GoodIn wsX4_best wsX4_worst := goodIn_r _ [19, 7, 32, 33, 34, 35, 36, 37, 38, 39, 40, 41, 42, 43, 44, 45, 46, 47] (by decide +kernel) (by decide +kernel)
set_option maxRecDepth 20000 in
theorem gX4_best_X4_worst : GoodIn wsX4_best (wsV RX4 111 RX4 yX4_worst wsX4_worst) := goodIn_app (goodIn_of _ (by decide +kernel)) ggX4_best_X4_worst
set_option maxRecDepth 20000 in
theorem ggX4_best_X4_squares : GoodIn wsX4_best wsX4_squares := goodIn_r _ [23, 7, 32, 33, 34, 35, 36, 37, 38, 39, 40, 41, 42, 43, 44, 45, 46, 47] (by decide +kernel) (by decide +kernel)
set_option maxRecDepth 20000 in
theorem gX4_best_X4_squares : GoodIn wsX4_best (wsV RX4 114 RX4 yX4_squares wsX4_squares) := goodIn_app (goodIn_of _ (by decide +kernel)) ggX4_best_X4_squares
set_option maxRecDepth 20000 in
theorem ggX4_best_X4_manyParts : GoodIn wsX4_best wsX4_manyParts := goodIn_r _ [27, 7, 32, 33, 34, 35, 36, 37, 38, 39, 40, 41, 42, 43, 44, 45, 46, 47] (by decide +kernel) (by decide +kernel)
set_option maxRecDepth 20000 in
theorem gX4_best_X4_manyParts : GoodIn wsX4_best (wsV RX4 108 RX4 yX4_manyParts wsX4_manyParts) := goodIn_app (goodIn_of _ (by decide +kernel)) ggX4_best_X4_manyParts
set_option maxRecDepth 20000 in
theorem ggX4_best_X4_isAmong : GoodIn wsX4_best wsX4_isAmong := goodIn_r _ [31, 8, 32, 33, 34, 35, 36, 37, 38, 39, 40, 41, 42, 43, 44, 45, 46, 47] (by decide +kernel) (by decide +kernel)
set_option maxRecDepth 20000 in
theorem gX4_best_X4_isAmong : GoodIn wsX4_best (wsV RX4 117 RX4 yX4_isAmong wsX4_isAmong) := goodIn_app (goodIn_of _ (by decide +kernel)) ggX4_best_X4_isAmong
theorem dX4_best_0 : decode cX4_best 0 = .ok (.iconst (-1), 1) := by decide +kernel
theorem dX4_best_1 : decode cX4_best 1 = .ok (.istore 4, 2) := by decide +kernel
theorem dX4_best_3 : decode cX4_best 3 = .ok (.iconst 0, 1) := by decide +kernel
theorem dX4_best_4 : decode cX4_best 4 = .ok (.istore 5, 2) := by decide +kernel
theorem dX4_best_6 : decode cX4_best 6 = .ok (.iconst 0, 1) := by decide +kernel
theorem dX4_best_7 : decode cX4_best 7 = .ok (.istore 6, 2) := by decide +kernel
theorem dX4_best_9 : decode cX4_best 9 = .ok (.iload 6, 2) := by decide +kernel
theorem dX4_best_11 : decode cX4_best 11 = .ok (.aload_n 0, 1) := by decide +kernel
theorem dX4_best_12 : decode cX4_best 12 = .ok (.getfield 16, 3) := by decide +kernel
theorem dX4_best_15 : decode cX4_best 15 = .ok (.if_icmp .ge 91, 3) := by decide +kernel
theorem dX4_best_18 : decode cX4_best 18 = .ok (.aload_n 0, 1) := by decide +kernel
theorem dX4_best_19 : decode cX4_best 19 = .ok (.iload 6, 2) := by decide +kernel
theorem dX4_best_21 : decode cX4_best 21 = .ok (.iload_n 2, 1) := by decide +kernel
theorem dX4_best_22 : decode cX4_best 22 = .ok (.iload_n 3, 1) := by decide +kernel
theorem dX4_best_23 : decode cX4_best 23 = .ok (.invokevirtual 101, 3) := by decide +kernel
theorem dX4_best_26 : decode cX4_best 26 = .ok (.iload_n 1, 1) := by decide +kernel
theorem dX4_best_27 : decode cX4_best 27 = .ok (.ifCond .ne 10, 3) := by decide +kernel
theorem dX4_best_30 : decode cX4_best 30 = .ok (.aload_n 0, 1) := by decide +kernel
theorem dX4_best_31 : decode cX4_best 31 = .ok (.invokevirtual 111, 3) := by decide +kernel
theorem dX4_best_34 : decode cX4_best 34 = .ok (.goto 20, 3) := by decide +kernel
theorem dX4_best_37 : decode cX4_best 37 = .ok (.iload_n 1, 1) := by decide +kernel
theorem dX4_best_38 : decode cX4_best 38 = .ok (.iconst 1, 1) := by decide +kernel
theorem dX4_best_39 : decode cX4_best 39 = .ok (.if_icmp .ne 10, 3) := by decide +kernel
theorem dX4_best_42 : decode cX4_best 42 = .ok (.aload_n 0, 1) := by decide +kernel
theorem dX4_best_43 : decode cX4_best 43 = .ok (.invokevirtual 114, 3) := by decide +kernel
theorem dX4_best_46 : decode cX4_best 46 = .ok (.goto 8, 3) := by decide +kernel
theorem dX4_best_49 : decode cX4_best 49 = .ok (.aload_n 0, 1) := by decide +kernel
theorem dX4_best_50 : decode cX4_best 50 = .ok (.invokevirtual 108, 3) := by decide +kernel
theorem dX4_best_53 : decode cX4_best 53 = .ok (.ineg, 1) := by decide +kernel
theorem dX4_best_54 : decode cX4_best 54 = .ok (.istore 7, 2) := by decide +kernel
theorem dX4_best_56 : decode cX4_best 56 = .ok (.iconst 2, 1) := by decide +kernel
theorem dX4_best_57 : decode cX4_best 57 = .ok (.iload 7, 2) := by decide +kernel
theorem dX4_best_59 : decode cX4_best 59 = .ok (.imul, 1) := by decide +kernel
theorem dX4_best_60 : decode cX4_best 60 = .ok (.aload_n 0, 1) := by decide +kernel
theorem dX4_best_61 : decode cX4_best 61 = .ok (.iload 6, 2) := by decide +kernel
theorem dX4_best_63 : decode cX4_best 63 = .ok (.iload_n 2, 1) := by decide +kernel
theorem dX4_best_64 : decode cX4_best 64 = .ok (.iload_n 3, 1) := by decide +kernel
theorem dX4_best_65 : decode cX4_best 65 = .ok (.invokevirtual 117, 3) := by decide +kernel
theorem dX4_best_68 : decode cX4_best 68 = .ok (.ifCond .eq 7, 3) := by decide +kernel
theorem dX4_best_71 : decode cX4_best 71 = .ok (.iconst 1, 1) := by decide +kernel
theorem dX4_best_72 : decode cX4_best 72 = .ok (.goto 4, 3) := by decide +kernel
theorem dX4_best_75 : decode cX4_best 75 = .ok (.iconst 0, 1) := by decide +kernel
theorem dX4_best_76 : decode cX4_best 76 = .ok (.isub, 1) := by decide +kernel
theorem dX4_best_77 : decode cX4_best 77 = .ok (.istore 8, 2) := by decide +kernel
theorem dX4_best_79 : decode cX4_best 79 = .ok (.iload 4, 2) := by decide +kernel
theorem dX4_best_81 : decode cX4_best 81 = .ok (.iconst (-1), 1) := by decide +kernel
theorem dX4_best_82 : decode cX4_best 82 = .ok (.if_icmp .eq 10, 3) := by decide +kernel
theorem dX4_best_85 : decode cX4_best 85 = .ok (.iload 8, 2) := by decide +kernel
theorem dX4_best_87 : decode cX4_best 87 = .ok (.iload 5, 2) := by decide +kernel
theorem dX4_best_89 : decode cX4_best 89 = .ok (.if_icmp .ge 11, 3) := by decide +kernel
theorem dX4_best_92 : decode cX4_best 92 = .ok (.iload 6, 2) := by decide +kernel
theorem dX4_best_94 : decode cX4_best 94 = .ok (.istore 4, 2) := by decide +kernel
theorem dX4_best_96 : decode cX4_best 96 = .ok (.iload 8, 2) := by decide +kernel
theorem dX4_best_98 : decode cX4_best 98 = .ok (.istore 5, 2) := by decide +kernel
theorem dX4_best_100 : decode cX4_best 100 = .ok (.iinc 6 1, 3) := by decide +kernel
theorem dX4_best_103 : decode cX4_best 103 = .ok (.goto (-94), 3) := by decide +kernel
theorem dX4_best_106 : decode cX4_best 106 = .ok (.iload 4, 2) := by decide +kernel
theorem dX4_best_108 : decode cX4_best 108 = .ok (.ireturn, 1) := by decide +kernel
set_option maxRecDepth 20000 in
theorem ggX4_bestGuess_X4_laysLeft : GoodIn wsX4_bestGuess wsX4_laysLeft := goodIn_r _ [6, 7, 8, 9, 10, 11, 5, 12, 13, 14, 15, 16, 17, 18, 19, 20, 21, 22, 23, 24, 25, 26, 27, 56, 57, 58, 59, 60, 61, 62, 63, 64, 65, 66, 67, 68, 69, 70, 71] (by decide +kernel) (by decide +kernel)
set_option maxRecDepth 20000 in
theorem gX4_bestGuess_X4_laysLeft : GoodIn wsX4_bestGuess (wsV RX4 98 RX4 yX4_laysLeft wsX4_laysLeft) := goodIn_app (goodIn_of _ (by decide +kernel)) ggX4_bestGuess_X4_laysLeft
set_option maxRecDepth 20000 in
theorem ggX4_bestGuess_X4_in : GoodIn wsX4_bestGuess wsX4_in := goodIn_r _ [30] (by decide +kernel) (by decide +kernel)
set_option maxRecDepth 20000 in
theorem gX4_bestGuess_X4_in : GoodIn wsX4_bestGuess (va_wsS RX4 53 yX4_in wsX4_in) := goodIn_app (goodIn_of _ (by decide +kernel)) ggX4_bestGuess_X4_in
set_option maxRecDepth 20000 in
theorem ggX4_bestGuess_X4_best : GoodIn wsX4_bestGuess wsX4_best := goodIn_r _ [34, 7, 35, 36, 37, 5, 38, 39, 8, 21, 22, 23, 24, 25, 26, 27, 40, 41, 42, 43, 44, 45, 46, 47, 48, 49, 50, 51, 52, 53, 54, 55, 56, 57, 58, 59, 60, 61, 62, 63, 64, 65, 66, 67, 68, 69, 70, 71] (by decide +kernel) (by decide +kernel)
set_option maxRecDepth 20000 in
theorem gX4_bestGuess_X4_best : GoodIn wsX4_bestGuess (wsV RX4 120 RX4 yX4_best wsX4_best) := goodIn_app (goodIn_of _ (by decide +kernel)) ggX4_bestGuess_X4_best
theorem dX4_bestGuess_0 : decode cX4_bestGuess 0 = .ok (.aload_n 0, 1) := by decide +kernel
theorem dX4_bestGuess_1 : decode cX4_bestGuess 1 = .ok (.invokevirtual 98, 3) := by decide +kernel
theorem dX4_bestGuess_4 : decode cX4_bestGuess 4 = .ok (.istore_n 2, 1) := by decide +kernel
theorem dX4_bestGuess_5 : decode cX4_bestGuess 5 = .ok (.aload_n 0, 1) := by decide +kernel
theorem dX4_bestGuess_6 : decode cX4_bestGuess 6 = .ok (.iload_n 1, 1) := by decide +kernel
theorem dX4_bestGuess_7 : decode cX4_bestGuess 7 = .ok (.iconst 0, 1) := by decide +kernel
theorem dX4_bestGuess_8 : decode cX4_bestGuess 8 = .ok (.iconst 2, 1) := by decide +kernel
theorem dX4_bestGuess_9 : decode cX4_bestGuess 9 = .ok (.invokestatic 53, 3) := by decide +kernel
theorem dX4_bestGuess_12 : decode cX4_bestGuess 12 = .ok (.ifCond .ne 7, 3) := by decide +kernel
theorem dX4_bestGuess_15 : decode cX4_bestGuess 15 = .ok (.iconst 1, 1) := by decide +kernel
theorem dX4_bestGuess_16 : decode cX4_bestGuess 16 = .ok (.goto 12, 3) := by decide +kernel
theorem dX4_bestGuess_19 : decode cX4_bestGuess 19 = .ok (.iload_n 2, 1) := by decide +kernel
theorem dX4_bestGuess_20 : decode cX4_bestGuess 20 = .ok (.ifCond .ne 7, 3) := by decide +kernel
theorem dX4_bestGuess_23 : decode cX4_bestGuess 23 = .ok (.iconst 2, 1) := by decide +kernel
theorem dX4_bestGuess_24 : decode cX4_bestGuess 24 = .ok (.goto 4, 3) := by decide +kernel
theorem dX4_bestGuess_27 : decode cX4_bestGuess 27 = .ok (.iconst 0, 1) := by decide +kernel
theorem dX4_bestGuess_28 : decode cX4_bestGuess 28 = .ok (.putfield 50, 3) := by decide +kernel
theorem dX4_bestGuess_31 : decode cX4_bestGuess 31 = .ok (.aload_n 0, 1) := by decide +kernel
theorem dX4_bestGuess_32 : decode cX4_bestGuess 32 = .ok (.getfield 50, 3) := by decide +kernel
theorem dX4_bestGuess_35 : decode cX4_bestGuess 35 = .ok (.ifCond .le 7, 3) := by decide +kernel
theorem dX4_bestGuess_38 : decode cX4_bestGuess 38 = .ok (.iconst 0, 1) := by decide +kernel
theorem dX4_bestGuess_39 : decode cX4_bestGuess 39 = .ok (.goto 10, 3) := by decide +kernel
theorem dX4_bestGuess_42 : decode cX4_bestGuess 42 = .ok (.aload_n 0, 1) := by decide +kernel
theorem dX4_bestGuess_43 : decode cX4_bestGuess 43 = .ok (.iload_n 1, 1) := by decide +kernel
theorem dX4_bestGuess_44 : decode cX4_bestGuess 44 = .ok (.iconst 0, 1) := by decide +kernel
theorem dX4_bestGuess_45 : decode cX4_bestGuess 45 = .ok (.iload_n 2, 1) := by decide +kernel
theorem dX4_bestGuess_46 : decode cX4_bestGuess 46 = .ok (.invokevirtual 120, 3) := by decide +kernel
theorem dX4_bestGuess_49 : decode cX4_bestGuess 49 = .ok (.ireturn, 1) := by decide +kernel
set_option maxRecDepth 20000 in
theorem ggX4_guessesNeeded_X4_laysLeft : GoodIn wsX4_guessesNeeded wsX4_laysLeft := goodIn_r _ [11, 12, 6, 13, 14, 15, 10, 16, 17, 18, 19, 20, 21, 22, 23, 24, 25, 26, 27, 28, 29, 30, 5, 56, 57, 58, 59, 60, 61, 62, 63, 64, 65, 66, 67, 68, 69, 70, 71] (by decide +kernel) (by decide +kernel)
set_option maxRecDepth 20000 in
theorem gX4_guessesNeeded_X4_laysLeft : GoodIn wsX4_guessesNeeded (wsV RX4 98 RX4 yX4_laysLeft wsX4_laysLeft) := goodIn_app (goodIn_of _ (by decide +kernel)) ggX4_guessesNeeded_X4_laysLeft
set_option maxRecDepth 20000 in
theorem ggX4_guessesNeeded_X4_best : GoodIn wsX4_guessesNeeded wsX4_best := goodIn_r _ [34, 12, 35, 36, 37, 10, 38, 39, 6, 25, 26, 27, 28, 29, 30, 5, 40, 41, 42, 43, 44, 45, 46, 47, 48, 49, 50, 51, 52, 53, 54, 55, 56, 57, 58, 59, 60, 61, 62, 63, 64, 65, 66, 67, 68, 69, 70, 71] (by decide +kernel) (by decide +kernel)
set_option maxRecDepth 20000 in
theorem gX4_guessesNeeded_X4_best : GoodIn wsX4_guessesNeeded (wsV RX4 120 RX4 yX4_best wsX4_best) := goodIn_app (goodIn_of _ (by decide +kernel)) ggX4_guessesNeeded_X4_best
set_option maxRecDepth 20000 in
theorem ggX4_guessesNeeded_X4_markOfRows : GoodIn wsX4_guessesNeeded wsX4_markOfRows := goodIn_r _ [28, 29, 30, 5, 56, 57, 58, 59, 60, 61, 62, 63, 64, 65, 66, 67, 68, 69, 70, 71] (by decide +kernel) (by decide +kernel)
set_option maxRecDepth 20000 in
theorem gX4_guessesNeeded_X4_markOfRows : GoodIn wsX4_guessesNeeded (wsV RX4 74 RX4 yX4_markOfRows wsX4_markOfRows) := goodIn_app (goodIn_of _ (by decide +kernel)) ggX4_guessesNeeded_X4_markOfRows
theorem dX4_guessesNeeded_0 : decode cX4_guessesNeeded 0 = .ok (.aload_n 0, 1) := by decide +kernel
theorem dX4_guessesNeeded_1 : decode cX4_guessesNeeded 1 = .ok (.invokevirtual 98, 3) := by decide +kernel
theorem dX4_guessesNeeded_4 : decode cX4_guessesNeeded 4 = .ok (.istore_n 1, 1) := by decide +kernel
theorem dX4_guessesNeeded_5 : decode cX4_guessesNeeded 5 = .ok (.aload_n 0, 1) := by decide +kernel
theorem dX4_guessesNeeded_6 : decode cX4_guessesNeeded 6 = .ok (.iload_n 1, 1) := by decide +kernel
theorem dX4_guessesNeeded_7 : decode cX4_guessesNeeded 7 = .ok (.ifCond .eq 9, 3) := by decide +kernel
theorem dX4_guessesNeeded_10 : decode cX4_guessesNeeded 10 = .ok (.iload_n 1, 1) := by decide +kernel
theorem dX4_guessesNeeded_11 : decode cX4_guessesNeeded 11 = .ok (.bipush 24, 2) := by decide +kernel
theorem dX4_guessesNeeded_13 : decode cX4_guessesNeeded 13 = .ok (.if_icmp .le 7, 3) := by decide +kernel
theorem dX4_guessesNeeded_16 : decode cX4_guessesNeeded 16 = .ok (.iconst 1, 1) := by decide +kernel
theorem dX4_guessesNeeded_17 : decode cX4_guessesNeeded 17 = .ok (.goto 4, 3) := by decide +kernel
theorem dX4_guessesNeeded_20 : decode cX4_guessesNeeded 20 = .ok (.iconst 0, 1) := by decide +kernel
theorem dX4_guessesNeeded_21 : decode cX4_guessesNeeded 21 = .ok (.putfield 50, 3) := by decide +kernel
theorem dX4_guessesNeeded_24 : decode cX4_guessesNeeded 24 = .ok (.aload_n 0, 1) := by decide +kernel
theorem dX4_guessesNeeded_25 : decode cX4_guessesNeeded 25 = .ok (.getfield 50, 3) := by decide +kernel
theorem dX4_guessesNeeded_28 : decode cX4_guessesNeeded 28 = .ok (.ifCond .le 5, 3) := by decide +kernel
theorem dX4_guessesNeeded_31 : decode cX4_guessesNeeded 31 = .ok (.iconst 0, 1) := by decide +kernel
theorem dX4_guessesNeeded_32 : decode cX4_guessesNeeded 32 = .ok (.ireturn, 1) := by decide +kernel
theorem dX4_guessesNeeded_33 : decode cX4_guessesNeeded 33 = .ok (.aload_n 0, 1) := by decide +kernel
theorem dX4_guessesNeeded_34 : decode cX4_guessesNeeded 34 = .ok (.getfield 38, 3) := by decide +kernel
theorem dX4_guessesNeeded_37 : decode cX4_guessesNeeded 37 = .ok (.iconst 0, 1) := by decide +kernel
theorem dX4_guessesNeeded_38 : decode cX4_guessesNeeded 38 = .ok (.iconst 0, 1) := by decide +kernel
theorem dX4_guessesNeeded_39 : decode cX4_guessesNeeded 39 = .ok (.iastore, 1) := by decide +kernel
theorem dX4_guessesNeeded_40 : decode cX4_guessesNeeded 40 = .ok (.aload_n 0, 1) := by decide +kernel
theorem dX4_guessesNeeded_41 : decode cX4_guessesNeeded 41 = .ok (.getfield 41, 3) := by decide +kernel
theorem dX4_guessesNeeded_44 : decode cX4_guessesNeeded 44 = .ok (.iconst 0, 1) := by decide +kernel
theorem dX4_guessesNeeded_45 : decode cX4_guessesNeeded 45 = .ok (.iload_n 1, 1) := by decide +kernel
theorem dX4_guessesNeeded_46 : decode cX4_guessesNeeded 46 = .ok (.iastore, 1) := by decide +kernel
theorem dX4_guessesNeeded_47 : decode cX4_guessesNeeded 47 = .ok (.aload_n 0, 1) := by decide +kernel
theorem dX4_guessesNeeded_48 : decode cX4_guessesNeeded 48 = .ok (.getfield 44, 3) := by decide +kernel
theorem dX4_guessesNeeded_51 : decode cX4_guessesNeeded 51 = .ok (.iconst 0, 1) := by decide +kernel
theorem dX4_guessesNeeded_52 : decode cX4_guessesNeeded 52 = .ok (.iconst 1, 1) := by decide +kernel
theorem dX4_guessesNeeded_53 : decode cX4_guessesNeeded 53 = .ok (.iastore, 1) := by decide +kernel
theorem dX4_guessesNeeded_54 : decode cX4_guessesNeeded 54 = .ok (.iload_n 1, 1) := by decide +kernel
theorem dX4_guessesNeeded_55 : decode cX4_guessesNeeded 55 = .ok (.istore_n 2, 1) := by decide +kernel
theorem dX4_guessesNeeded_56 : decode cX4_guessesNeeded 56 = .ok (.iconst 1, 1) := by decide +kernel
theorem dX4_guessesNeeded_57 : decode cX4_guessesNeeded 57 = .ok (.istore_n 3, 1) := by decide +kernel
theorem dX4_guessesNeeded_58 : decode cX4_guessesNeeded 58 = .ok (.iconst 0, 1) := by decide +kernel
theorem dX4_guessesNeeded_59 : decode cX4_guessesNeeded 59 = .ok (.istore 4, 2) := by decide +kernel
theorem dX4_guessesNeeded_61 : decode cX4_guessesNeeded 61 = .ok (.iconst 0, 1) := by decide +kernel
theorem dX4_guessesNeeded_62 : decode cX4_guessesNeeded 62 = .ok (.istore 5, 2) := by decide +kernel
theorem dX4_guessesNeeded_64 : decode cX4_guessesNeeded 64 = .ok (.iload 5, 2) := by decide +kernel
theorem dX4_guessesNeeded_66 : decode cX4_guessesNeeded 66 = .ok (.iload_n 3, 1) := by decide +kernel
theorem dX4_guessesNeeded_67 : decode cX4_guessesNeeded 67 = .ok (.if_icmp .ge 191, 3) := by decide +kernel
theorem dX4_guessesNeeded_70 : decode cX4_guessesNeeded 70 = .ok (.aload_n 0, 1) := by decide +kernel
theorem dX4_guessesNeeded_71 : decode cX4_guessesNeeded 71 = .ok (.iconst 0, 1) := by decide +kernel
theorem dX4_guessesNeeded_72 : decode cX4_guessesNeeded 72 = .ok (.aload_n 0, 1) := by decide +kernel
theorem dX4_guessesNeeded_73 : decode cX4_guessesNeeded 73 = .ok (.getfield 38, 3) := by decide +kernel
theorem dX4_guessesNeeded_76 : decode cX4_guessesNeeded 76 = .ok (.iload 5, 2) := by decide +kernel
theorem dX4_guessesNeeded_78 : decode cX4_guessesNeeded 78 = .ok (.iaload, 1) := by decide +kernel
theorem dX4_guessesNeeded_79 : decode cX4_guessesNeeded 79 = .ok (.aload_n 0, 1) := by decide +kernel
theorem dX4_guessesNeeded_80 : decode cX4_guessesNeeded 80 = .ok (.getfield 41, 3) := by decide +kernel
theorem dX4_guessesNeeded_83 : decode cX4_guessesNeeded 83 = .ok (.iload 5, 2) := by decide +kernel
theorem dX4_guessesNeeded_85 : decode cX4_guessesNeeded 85 = .ok (.iaload, 1) := by decide +kernel
theorem dX4_guessesNeeded_86 : decode cX4_guessesNeeded 86 = .ok (.invokevirtual 120, 3) := by decide +kernel
theorem dX4_guessesNeeded_89 : decode cX4_guessesNeeded 89 = .ok (.istore 6, 2) := by decide +kernel
theorem dX4_guessesNeeded_91 : decode cX4_guessesNeeded 91 = .ok (.aload_n 0, 1) := by decide +kernel
theorem dX4_guessesNeeded_92 : decode cX4_guessesNeeded 92 = .ok (.getfield 44, 3) := by decide +kernel
theorem dX4_guessesNeeded_95 : decode cX4_guessesNeeded 95 = .ok (.iload 5, 2) := by decide +kernel
theorem dX4_guessesNeeded_97 : decode cX4_guessesNeeded 97 = .ok (.iaload, 1) := by decide +kernel
theorem dX4_guessesNeeded_98 : decode cX4_guessesNeeded 98 = .ok (.iload 4, 2) := by decide +kernel
theorem dX4_guessesNeeded_100 : decode cX4_guessesNeeded 100 = .ok (.if_icmp .le 13, 3) := by decide +kernel
theorem dX4_guessesNeeded_103 : decode cX4_guessesNeeded 103 = .ok (.aload_n 0, 1) := by decide +kernel
theorem dX4_guessesNeeded_104 : decode cX4_guessesNeeded 104 = .ok (.getfield 44, 3) := by decide +kernel
theorem dX4_guessesNeeded_107 : decode cX4_guessesNeeded 107 = .ok (.iload 5, 2) := by decide +kernel
theorem dX4_guessesNeeded_109 : decode cX4_guessesNeeded 109 = .ok (.iaload, 1) := by decide +kernel
theorem dX4_guessesNeeded_110 : decode cX4_guessesNeeded 110 = .ok (.goto 5, 3) := by decide +kernel
theorem dX4_guessesNeeded_113 : decode cX4_guessesNeeded 113 = .ok (.iload 4, 2) := by decide +kernel
theorem dX4_guessesNeeded_115 : decode cX4_guessesNeeded 115 = .ok (.istore 4, 2) := by decide +kernel
theorem dX4_guessesNeeded_117 : decode cX4_guessesNeeded 117 = .ok (.iconst 0, 1) := by decide +kernel
theorem dX4_guessesNeeded_118 : decode cX4_guessesNeeded 118 = .ok (.istore 7, 2) := by decide +kernel
theorem dX4_guessesNeeded_120 : decode cX4_guessesNeeded 120 = .ok (.iload 7, 2) := by decide +kernel
theorem dX4_guessesNeeded_122 : decode cX4_guessesNeeded 122 = .ok (.bipush 10, 2) := by decide +kernel
theorem dX4_guessesNeeded_124 : decode cX4_guessesNeeded 124 = .ok (.aload_n 0, 1) := by decide +kernel
theorem dX4_guessesNeeded_125 : decode cX4_guessesNeeded 125 = .ok (.getfield 7, 3) := by decide +kernel
theorem dX4_guessesNeeded_128 : decode cX4_guessesNeeded 128 = .ok (.imul, 1) := by decide +kernel
theorem dX4_guessesNeeded_129 : decode cX4_guessesNeeded 129 = .ok (.if_icmp .ge 123, 3) := by decide +kernel
theorem dX4_guessesNeeded_132 : decode cX4_guessesNeeded 132 = .ok (.iload_n 2, 1) := by decide +kernel
theorem dX4_guessesNeeded_133 : decode cX4_guessesNeeded 133 = .ok (.istore 8, 2) := by decide +kernel
theorem dX4_guessesNeeded_135 : decode cX4_guessesNeeded 135 = .ok (.aload_n 0, 1) := by decide +kernel
theorem dX4_guessesNeeded_136 : decode cX4_guessesNeeded 136 = .ok (.getfield 38, 3) := by decide +kernel
theorem dX4_guessesNeeded_139 : decode cX4_guessesNeeded 139 = .ok (.iload 5, 2) := by decide +kernel
theorem dX4_guessesNeeded_141 : decode cX4_guessesNeeded 141 = .ok (.iaload, 1) := by decide +kernel
theorem dX4_guessesNeeded_142 : decode cX4_guessesNeeded 142 = .ok (.istore 9, 2) := by decide +kernel
theorem dX4_guessesNeeded_144 : decode cX4_guessesNeeded 144 = .ok (.iload 9, 2) := by decide +kernel
theorem dX4_guessesNeeded_146 : decode cX4_guessesNeeded 146 = .ok (.aload_n 0, 1) := by decide +kernel
theorem dX4_guessesNeeded_147 : decode cX4_guessesNeeded 147 = .ok (.getfield 38, 3) := by decide +kernel
theorem dX4_guessesNeeded_150 : decode cX4_guessesNeeded 150 = .ok (.iload 5, 2) := by decide +kernel
theorem dX4_guessesNeeded_152 : decode cX4_guessesNeeded 152 = .ok (.iaload, 1) := by decide +kernel
theorem dX4_guessesNeeded_153 : decode cX4_guessesNeeded 153 = .ok (.aload_n 0, 1) := by decide +kernel
theorem dX4_guessesNeeded_154 : decode cX4_guessesNeeded 154 = .ok (.getfield 41, 3) := by decide +kernel
theorem dX4_guessesNeeded_157 : decode cX4_guessesNeeded 157 = .ok (.iload 5, 2) := by decide +kernel
theorem dX4_guessesNeeded_159 : decode cX4_guessesNeeded 159 = .ok (.iaload, 1) := by decide +kernel
theorem dX4_guessesNeeded_160 : decode cX4_guessesNeeded 160 = .ok (.iadd, 1) := by decide +kernel
theorem dX4_guessesNeeded_161 : decode cX4_guessesNeeded 161 = .ok (.if_icmp .ge 43, 3) := by decide +kernel
theorem dX4_guessesNeeded_164 : decode cX4_guessesNeeded 164 = .ok (.aload_n 0, 1) := by decide +kernel
theorem dX4_guessesNeeded_165 : decode cX4_guessesNeeded 165 = .ok (.iload 6, 2) := by decide +kernel
theorem dX4_guessesNeeded_167 : decode cX4_guessesNeeded 167 = .ok (.aload_n 0, 1) := by decide +kernel
theorem dX4_guessesNeeded_168 : decode cX4_guessesNeeded 168 = .ok (.getfield 35, 3) := by decide +kernel
theorem dX4_guessesNeeded_171 : decode cX4_guessesNeeded 171 = .ok (.iload 9, 2) := by decide +kernel
theorem dX4_guessesNeeded_173 : decode cX4_guessesNeeded 173 = .ok (.iaload, 1) := by decide +kernel
theorem dX4_guessesNeeded_174 : decode cX4_guessesNeeded 174 = .ok (.invokevirtual 74, 3) := by decide +kernel
theorem dX4_guessesNeeded_177 : decode cX4_guessesNeeded 177 = .ok (.iload 7, 2) := by decide +kernel
theorem dX4_guessesNeeded_179 : decode cX4_guessesNeeded 179 = .ok (.if_icmp .ne 19, 3) := by decide +kernel
theorem dX4_guessesNeeded_182 : decode cX4_guessesNeeded 182 = .ok (.aload_n 0, 1) := by decide +kernel
theorem dX4_guessesNeeded_183 : decode cX4_guessesNeeded 183 = .ok (.getfield 35, 3) := by decide +kernel
theorem dX4_guessesNeeded_186 : decode cX4_guessesNeeded 186 = .ok (.iload_n 2, 1) := by decide +kernel
theorem dX4_guessesNeeded_187 : decode cX4_guessesNeeded 187 = .ok (.aload_n 0, 1) := by decide +kernel
theorem dX4_guessesNeeded_188 : decode cX4_guessesNeeded 188 = .ok (.getfield 35, 3) := by decide +kernel
theorem dX4_guessesNeeded_191 : decode cX4_guessesNeeded 191 = .ok (.iload 9, 2) := by decide +kernel
theorem dX4_guessesNeeded_193 : decode cX4_guessesNeeded 193 = .ok (.iaload, 1) := by decide +kernel
theorem dX4_guessesNeeded_194 : decode cX4_guessesNeeded 194 = .ok (.iastore, 1) := by decide +kernel
theorem dX4_guessesNeeded_195 : decode cX4_guessesNeeded 195 = .ok (.iinc 2 1, 3) := by decide +kernel
theorem dX4_guessesNeeded_198 : decode cX4_guessesNeeded 198 = .ok (.iinc 9 1, 3) := by decide +kernel
theorem dX4_guessesNeeded_201 : decode cX4_guessesNeeded 201 = .ok (.goto (-57), 3) := by decide +kernel
theorem dX4_guessesNeeded_204 : decode cX4_guessesNeeded 204 = .ok (.iload_n 2, 1) := by decide +kernel
theorem dX4_guessesNeeded_205 : decode cX4_guessesNeeded 205 = .ok (.iload 8, 2) := by decide +kernel
theorem dX4_guessesNeeded_207 : decode cX4_guessesNeeded 207 = .ok (.if_icmp .le 39, 3) := by decide +kernel
theorem dX4_guessesNeeded_210 : decode cX4_guessesNeeded 210 = .ok (.aload_n 0, 1) := by decide +kernel
theorem dX4_guessesNeeded_211 : decode cX4_guessesNeeded 211 = .ok (.getfield 38, 3) := by decide +kernel
theorem dX4_guessesNeeded_214 : decode cX4_guessesNeeded 214 = .ok (.iload_n 3, 1) := by decide +kernel
theorem dX4_guessesNeeded_215 : decode cX4_guessesNeeded 215 = .ok (.iload 8, 2) := by decide +kernel
theorem dX4_guessesNeeded_217 : decode cX4_guessesNeeded 217 = .ok (.iastore, 1) := by decide +kernel
theorem dX4_guessesNeeded_218 : decode cX4_guessesNeeded 218 = .ok (.aload_n 0, 1) := by decide +kernel
theorem dX4_guessesNeeded_219 : decode cX4_guessesNeeded 219 = .ok (.getfield 41, 3) := by decide +kernel
theorem dX4_guessesNeeded_222 : decode cX4_guessesNeeded 222 = .ok (.iload_n 3, 1) := by decide +kernel
theorem dX4_guessesNeeded_223 : decode cX4_guessesNeeded 223 = .ok (.iload_n 2, 1) := by decide +kernel
theorem dX4_guessesNeeded_224 : decode cX4_guessesNeeded 224 = .ok (.iload 8, 2) := by decide +kernel
theorem dX4_guessesNeeded_226 : decode cX4_guessesNeeded 226 = .ok (.isub, 1) := by decide +kernel
theorem dX4_guessesNeeded_227 : decode cX4_guessesNeeded 227 = .ok (.iastore, 1) := by decide +kernel
theorem dX4_guessesNeeded_228 : decode cX4_guessesNeeded 228 = .ok (.aload_n 0, 1) := by decide +kernel
theorem dX4_guessesNeeded_229 : decode cX4_guessesNeeded 229 = .ok (.getfield 44, 3) := by decide +kernel
theorem dX4_guessesNeeded_232 : decode cX4_guessesNeeded 232 = .ok (.iload_n 3, 1) := by decide +kernel
theorem dX4_guessesNeeded_233 : decode cX4_guessesNeeded 233 = .ok (.aload_n 0, 1) := by decide +kernel
theorem dX4_guessesNeeded_234 : decode cX4_guessesNeeded 234 = .ok (.getfield 44, 3) := by decide +kernel
theorem dX4_guessesNeeded_237 : decode cX4_guessesNeeded 237 = .ok (.iload 5, 2) := by decide +kernel
theorem dX4_guessesNeeded_239 : decode cX4_guessesNeeded 239 = .ok (.iaload, 1) := by decide +kernel
theorem dX4_guessesNeeded_240 : decode cX4_guessesNeeded 240 = .ok (.iconst 1, 1) := by decide +kernel
theorem dX4_guessesNeeded_241 : decode cX4_guessesNeeded 241 = .ok (.iadd, 1) := by decide +kernel
theorem dX4_guessesNeeded_242 : decode cX4_guessesNeeded 242 = .ok (.iastore, 1) := by decide +kernel
theorem dX4_guessesNeeded_243 : decode cX4_guessesNeeded 243 = .ok (.iinc 3 1, 3) := by decide +kernel
theorem dX4_guessesNeeded_246 : decode cX4_guessesNeeded 246 = .ok (.iinc 7 1, 3) := by decide +kernel
theorem dX4_guessesNeeded_249 : decode cX4_guessesNeeded 249 = .ok (.goto (-129), 3) := by decide +kernel
theorem dX4_guessesNeeded_252 : decode cX4_guessesNeeded 252 = .ok (.iinc 5 1, 3) := by decide +kernel
theorem dX4_guessesNeeded_255 : decode cX4_guessesNeeded 255 = .ok (.goto (-191), 3) := by decide +kernel
theorem dX4_guessesNeeded_258 : decode cX4_guessesNeeded 258 = .ok (.iload 4, 2) := by decide +kernel
theorem dX4_guessesNeeded_260 : decode cX4_guessesNeeded 260 = .ok (.ireturn, 1) := by decide +kernel
set_option maxRecDepth 20000 in
theorem ggX4_laysLies_X4_markOfRows : GoodIn wsX4_laysLies wsX4_markOfRows := goodIn_r _ [10, 11, 12, 13, 14, 15, 16, 17, 18, 19, 20, 21, 22, 23, 24, 25, 26, 27, 28, 29] (by decide +kernel) (by decide +kernel)
set_option maxRecDepth 20000 in
theorem gX4_laysLies_X4_markOfRows : GoodIn wsX4_laysLies (wsV RX4 74 RX4 yX4_markOfRows wsX4_markOfRows) := goodIn_app (goodIn_of _ (by decide +kernel)) ggX4_laysLies_X4_markOfRows
theorem dX4_laysLies_0 : decode cX4_laysLies 0 = .ok (.iconst 0, 1) := by decide +kernel
theorem dX4_laysLies_1 : decode cX4_laysLies 1 = .ok (.istore_n 1, 1) := by decide +kernel
theorem dX4_laysLies_2 : decode cX4_laysLies 2 = .ok (.iload_n 1, 1) := by decide +kernel
theorem dX4_laysLies_3 : decode cX4_laysLies 3 = .ok (.aload_n 0, 1) := by decide +kernel
theorem dX4_laysLies_4 : decode cX4_laysLies 4 = .ok (.getfield 16, 3) := by decide +kernel
theorem dX4_laysLies_7 : decode cX4_laysLies 7 = .ok (.if_icmp .ge 68, 3) := by decide +kernel
theorem dX4_laysLies_10 : decode cX4_laysLies 10 = .ok (.aload_n 0, 1) := by decide +kernel
theorem dX4_laysLies_11 : decode cX4_laysLies 11 = .ok (.getfield 47, 3) := by decide +kernel
theorem dX4_laysLies_14 : decode cX4_laysLies 14 = .ok (.iload_n 1, 1) := by decide +kernel
theorem dX4_laysLies_15 : decode cX4_laysLies 15 = .ok (.iconst 0, 1) := by decide +kernel
theorem dX4_laysLies_16 : decode cX4_laysLies 16 = .ok (.iastore, 1) := by decide +kernel
theorem dX4_laysLies_17 : decode cX4_laysLies 17 = .ok (.iconst 0, 1) := by decide +kernel
theorem dX4_laysLies_18 : decode cX4_laysLies 18 = .ok (.istore_n 2, 1) := by decide +kernel
theorem dX4_laysLies_19 : decode cX4_laysLies 19 = .ok (.iload_n 2, 1) := by decide +kernel
theorem dX4_laysLies_20 : decode cX4_laysLies 20 = .ok (.aload_n 0, 1) := by decide +kernel
theorem dX4_laysLies_21 : decode cX4_laysLies 21 = .ok (.getfield 64, 3) := by decide +kernel
theorem dX4_laysLies_24 : decode cX4_laysLies 24 = .ok (.if_icmp .ge 45, 3) := by decide +kernel
theorem dX4_laysLies_27 : decode cX4_laysLies 27 = .ok (.aload_n 0, 1) := by decide +kernel
theorem dX4_laysLies_28 : decode cX4_laysLies 28 = .ok (.getfield 47, 3) := by decide +kernel
theorem dX4_laysLies_31 : decode cX4_laysLies 31 = .ok (.iload_n 1, 1) := by decide +kernel
theorem dX4_laysLies_32 : decode cX4_laysLies 32 = .ok (.dup2, 1) := by decide +kernel
theorem dX4_laysLies_33 : decode cX4_laysLies 33 = .ok (.iaload, 1) := by decide +kernel
theorem dX4_laysLies_34 : decode cX4_laysLies 34 = .ok (.aload_n 0, 1) := by decide +kernel
theorem dX4_laysLies_35 : decode cX4_laysLies 35 = .ok (.aload_n 0, 1) := by decide +kernel
theorem dX4_laysLies_36 : decode cX4_laysLies 36 = .ok (.getfield 22, 3) := by decide +kernel
theorem dX4_laysLies_39 : decode cX4_laysLies 39 = .ok (.iload_n 2, 1) := by decide +kernel
theorem dX4_laysLies_40 : decode cX4_laysLies 40 = .ok (.iaload, 1) := by decide +kernel
theorem dX4_laysLies_41 : decode cX4_laysLies 41 = .ok (.iload_n 1, 1) := by decide +kernel
theorem dX4_laysLies_42 : decode cX4_laysLies 42 = .ok (.invokevirtual 74, 3) := by decide +kernel
theorem dX4_laysLies_45 : decode cX4_laysLies 45 = .ok (.aload_n 0, 1) := by decide +kernel
theorem dX4_laysLies_46 : decode cX4_laysLies 46 = .ok (.getfield 26, 3) := by decide +kernel
theorem dX4_laysLies_49 : decode cX4_laysLies 49 = .ok (.iload_n 2, 1) := by decide +kernel
theorem dX4_laysLies_50 : decode cX4_laysLies 50 = .ok (.iaload, 1) := by decide +kernel
theorem dX4_laysLies_51 : decode cX4_laysLies 51 = .ok (.if_icmp .eq 9, 3) := by decide +kernel
theorem dX4_laysLies_54 : decode cX4_laysLies 54 = .ok (.iconst 1, 1) := by decide +kernel
theorem dX4_laysLies_55 : decode cX4_laysLies 55 = .ok (.iload_n 2, 1) := by decide +kernel
theorem dX4_laysLies_56 : decode cX4_laysLies 56 = .ok (.ishl, 1) := by decide +kernel
theorem dX4_laysLies_57 : decode cX4_laysLies 57 = .ok (.goto 4, 3) := by decide +kernel
theorem dX4_laysLies_60 : decode cX4_laysLies 60 = .ok (.iconst 0, 1) := by decide +kernel
theorem dX4_laysLies_61 : decode cX4_laysLies 61 = .ok (.ior, 1) := by decide +kernel
theorem dX4_laysLies_62 : decode cX4_laysLies 62 = .ok (.iastore, 1) := by decide +kernel
theorem dX4_laysLies_63 : decode cX4_laysLies 63 = .ok (.iinc 2 1, 3) := by decide +kernel
theorem dX4_laysLies_66 : decode cX4_laysLies 66 = .ok (.goto (-47), 3) := by decide +kernel
theorem dX4_laysLies_69 : decode cX4_laysLies 69 = .ok (.iinc 1 1, 3) := by decide +kernel
theorem dX4_laysLies_72 : decode cX4_laysLies 72 = .ok (.goto (-70), 3) := by decide +kernel
theorem dX4_laysLies_75 : decode cX4_laysLies 75 = .ok (.return_, 1) := by decide +kernel
set_option maxRecDepth 20000 in
theorem ggX4_isProof_X4_bits : GoodIn wsX4_isProof wsX4_bits := goodIn_r _ [7] (by decide +kernel) (by decide +kernel)
set_option maxRecDepth 20000 in
theorem gX4_isProof_X4_bits : GoodIn wsX4_isProof (va_wsS RX4 124 yX4_bits wsX4_bits) := goodIn_app (goodIn_of _ (by decide +kernel)) ggX4_isProof_X4_bits
theorem dX4_isProof_0 : decode cX4_isProof 0 = .ok (.iconst 0, 1) := by decide +kernel
theorem dX4_isProof_1 : decode cX4_isProof 1 = .ok (.istore_n 2, 1) := by decide +kernel
theorem dX4_isProof_2 : decode cX4_isProof 2 = .ok (.iconst 0, 1) := by decide +kernel
theorem dX4_isProof_3 : decode cX4_isProof 3 = .ok (.istore_n 3, 1) := by decide +kernel
theorem dX4_isProof_4 : decode cX4_isProof 4 = .ok (.iload_n 3, 1) := by decide +kernel
theorem dX4_isProof_5 : decode cX4_isProof 5 = .ok (.aload_n 0, 1) := by decide +kernel
theorem dX4_isProof_6 : decode cX4_isProof 6 = .ok (.getfield 16, 3) := by decide +kernel
theorem dX4_isProof_9 : decode cX4_isProof 9 = .ok (.if_icmp .ge 35, 3) := by decide +kernel
theorem dX4_isProof_12 : decode cX4_isProof 12 = .ok (.iload_n 2, 1) := by decide +kernel
theorem dX4_isProof_13 : decode cX4_isProof 13 = .ok (.iload_n 1, 1) := by decide +kernel
theorem dX4_isProof_14 : decode cX4_isProof 14 = .ok (.aload_n 0, 1) := by decide +kernel
theorem dX4_isProof_15 : decode cX4_isProof 15 = .ok (.getfield 47, 3) := by decide +kernel
theorem dX4_isProof_18 : decode cX4_isProof 18 = .ok (.iload_n 3, 1) := by decide +kernel
theorem dX4_isProof_19 : decode cX4_isProof 19 = .ok (.iaload, 1) := by decide +kernel
theorem dX4_isProof_20 : decode cX4_isProof 20 = .ok (.iand, 1) := by decide +kernel
theorem dX4_isProof_21 : decode cX4_isProof 21 = .ok (.invokestatic 124, 3) := by decide +kernel
theorem dX4_isProof_24 : decode cX4_isProof 24 = .ok (.aload_n 0, 1) := by decide +kernel
theorem dX4_isProof_25 : decode cX4_isProof 25 = .ok (.getfield 61, 3) := by decide +kernel
theorem dX4_isProof_28 : decode cX4_isProof 28 = .ok (.if_icmp .gt 7, 3) := by decide +kernel
theorem dX4_isProof_31 : decode cX4_isProof 31 = .ok (.iconst 1, 1) := by decide +kernel
theorem dX4_isProof_32 : decode cX4_isProof 32 = .ok (.goto 4, 3) := by decide +kernel
theorem dX4_isProof_35 : decode cX4_isProof 35 = .ok (.iconst 0, 1) := by decide +kernel
theorem dX4_isProof_36 : decode cX4_isProof 36 = .ok (.iadd, 1) := by decide +kernel
theorem dX4_isProof_37 : decode cX4_isProof 37 = .ok (.istore_n 2, 1) := by decide +kernel
theorem dX4_isProof_38 : decode cX4_isProof 38 = .ok (.iinc 3 1, 3) := by decide +kernel
theorem dX4_isProof_41 : decode cX4_isProof 41 = .ok (.goto (-37), 3) := by decide +kernel
theorem dX4_isProof_44 : decode cX4_isProof 44 = .ok (.iload_n 2, 1) := by decide +kernel
theorem dX4_isProof_45 : decode cX4_isProof 45 = .ok (.iconst 1, 1) := by decide +kernel
theorem dX4_isProof_46 : decode cX4_isProof 46 = .ok (.if_icmp .ne 7, 3) := by decide +kernel
theorem dX4_isProof_49 : decode cX4_isProof 49 = .ok (.iconst 1, 1) := by decide +kernel
theorem dX4_isProof_50 : decode cX4_isProof 50 = .ok (.goto 4, 3) := by decide +kernel
theorem dX4_isProof_53 : decode cX4_isProof 53 = .ok (.iconst 0, 1) := by decide +kernel
theorem dX4_isProof_54 : decode cX4_isProof 54 = .ok (.ireturn, 1) := by decide +kernel
theorem dX4_bits_0 : decode cX4_bits 0 = .ok (.iconst 0, 1) := by decide +kernel
theorem dX4_bits_1 : decode cX4_bits 1 = .ok (.istore_n 1, 1) := by decide +kernel
theorem dX4_bits_2 : decode cX4_bits 2 = .ok (.iload_n 0, 1) := by decide +kernel
theorem dX4_bits_3 : decode cX4_bits 3 = .ok (.istore_n 2, 1) := by decide +kernel
theorem dX4_bits_4 : decode cX4_bits 4 = .ok (.iload_n 2, 1) := by decide +kernel
theorem dX4_bits_5 : decode cX4_bits 5 = .ok (.ifCond .le 16, 3) := by decide +kernel
theorem dX4_bits_8 : decode cX4_bits 8 = .ok (.iload_n 1, 1) := by decide +kernel
theorem dX4_bits_9 : decode cX4_bits 9 = .ok (.iload_n 2, 1) := by decide +kernel
theorem dX4_bits_10 : decode cX4_bits 10 = .ok (.iconst 2, 1) := by decide +kernel
theorem dX4_bits_11 : decode cX4_bits 11 = .ok (.irem, 1) := by decide +kernel
theorem dX4_bits_12 : decode cX4_bits 12 = .ok (.iadd, 1) := by decide +kernel
theorem dX4_bits_13 : decode cX4_bits 13 = .ok (.istore_n 1, 1) := by decide +kernel
theorem dX4_bits_14 : decode cX4_bits 14 = .ok (.iload_n 2, 1) := by decide +kernel
theorem dX4_bits_15 : decode cX4_bits 15 = .ok (.iconst 2, 1) := by decide +kernel
theorem dX4_bits_16 : decode cX4_bits 16 = .ok (.idiv, 1) := by decide +kernel
theorem dX4_bits_17 : decode cX4_bits 17 = .ok (.istore_n 2, 1) := by decide +kernel
theorem dX4_bits_18 : decode cX4_bits 18 = .ok (.goto (-14), 3) := by decide +kernel
theorem dX4_bits_21 : decode cX4_bits 21 = .ok (.iload_n 1, 1) := by decide +kernel
theorem dX4_bits_22 : decode cX4_bits 22 = .ok (.ireturn, 1) := by decide +kernel
set_option maxRecDepth 20000 in
theorem ggX4_isAhead_X4_bits : GoodIn wsX4_isAhead wsX4_bits := goodIn_r _ [4] (by decide +kernel) (by decide +kernel)
set_option maxRecDepth 20000 in
theorem gX4_isAhead_X4_bits : GoodIn wsX4_isAhead (va_wsS RX4 124 yX4_bits wsX4_bits) := goodIn_app (goodIn_of _ (by decide +kernel)) ggX4_isAhead_X4_bits
theorem dX4_isAhead_0 : decode cX4_isAhead 0 = .ok (.iload_n 0, 1) := by decide +kernel
theorem dX4_isAhead_1 : decode cX4_isAhead 1 = .ok (.iload_n 1, 1) := by decide +kernel
theorem dX4_isAhead_2 : decode cX4_isAhead 2 = .ok (.ixor, 1) := by decide +kernel
theorem dX4_isAhead_3 : decode cX4_isAhead 3 = .ok (.istore_n 2, 1) := by decide +kernel
theorem dX4_isAhead_4 : decode cX4_isAhead 4 = .ok (.iload_n 2, 1) := by decide +kernel
theorem dX4_isAhead_5 : decode cX4_isAhead 5 = .ok (.iload_n 2, 1) := by decide +kernel
theorem dX4_isAhead_6 : decode cX4_isAhead 6 = .ok (.ineg, 1) := by decide +kernel
theorem dX4_isAhead_7 : decode cX4_isAhead 7 = .ok (.iand, 1) := by decide +kernel
theorem dX4_isAhead_8 : decode cX4_isAhead 8 = .ok (.istore_n 3, 1) := by decide +kernel
theorem dX4_isAhead_9 : decode cX4_isAhead 9 = .ok (.iload_n 0, 1) := by decide +kernel
theorem dX4_isAhead_10 : decode cX4_isAhead 10 = .ok (.invokestatic 124, 3) := by decide +kernel
theorem dX4_isAhead_13 : decode cX4_isAhead 13 = .ok (.iload_n 1, 1) := by decide +kernel
theorem dX4_isAhead_14 : decode cX4_isAhead 14 = .ok (.invokestatic 124, 3) := by decide +kernel
theorem dX4_isAhead_17 : decode cX4_isAhead 17 = .ok (.if_icmp .lt 20, 3) := by decide +kernel
theorem dX4_isAhead_20 : decode cX4_isAhead 20 = .ok (.iload_n 0, 1) := by decide +kernel
theorem dX4_isAhead_21 : decode cX4_isAhead 21 = .ok (.invokestatic 124, 3) := by decide +kernel
theorem dX4_isAhead_24 : decode cX4_isAhead 24 = .ok (.iload_n 1, 1) := by decide +kernel
theorem dX4_isAhead_25 : decode cX4_isAhead 25 = .ok (.invokestatic 124, 3) := by decide +kernel
theorem dX4_isAhead_28 : decode cX4_isAhead 28 = .ok (.if_icmp .ne 13, 3) := by decide +kernel
theorem dX4_isAhead_31 : decode cX4_isAhead 31 = .ok (.iload_n 0, 1) := by decide +kernel
theorem dX4_isAhead_32 : decode cX4_isAhead 32 = .ok (.iload_n 3, 1) := by decide +kernel
theorem dX4_isAhead_33 : decode cX4_isAhead 33 = .ok (.iand, 1) := by decide +kernel
theorem dX4_isAhead_34 : decode cX4_isAhead 34 = .ok (.ifCond .eq 7, 3) := by decide +kernel
theorem dX4_isAhead_37 : decode cX4_isAhead 37 = .ok (.iconst 1, 1) := by decide +kernel
theorem dX4_isAhead_38 : decode cX4_isAhead 38 = .ok (.goto 4, 3) := by decide +kernel
theorem dX4_isAhead_41 : decode cX4_isAhead 41 = .ok (.iconst 0, 1) := by decide +kernel
theorem dX4_isAhead_42 : decode cX4_isAhead 42 = .ok (.ireturn, 1) := by decide +kernel
set_option maxRecDepth 20000 in
theorem ggX4_proof_X4_laysLies : GoodIn wsX4_proof wsX4_laysLies := goodIn_r _ [6, 7, 8, 1, 9, 10, 11, 12, 13, 5, 14, 15, 16, 17, 29, 30, 31, 32, 33, 34, 35, 36, 37, 38, 39, 40, 41, 42, 43, 44] (by decide +kernel) (by decide +kernel)
set_option maxRecDepth 20000 in
theorem gX4_proof_X4_laysLies : GoodIn wsX4_proof (wsV RX4 127 RX4 yX4_laysLies wsX4_laysLies) := goodIn_app (goodIn_of _ (by decide +kernel)) ggX4_proof_X4_laysLies
set_option maxRecDepth 20000 in
theorem ggX4_proof_X4_isAhead : GoodIn wsX4_proof wsX4_isAhead := goodIn_r _ [20, 21, 22, 5, 23] (by decide +kernel) (by decide +kernel)
set_option maxRecDepth 20000 in
theorem gX4_proof_X4_isAhead : GoodIn wsX4_proof (va_wsS RX4 130 yX4_isAhead wsX4_isAhead) := goodIn_app (goodIn_of _ (by decide +kernel)) ggX4_proof_X4_isAhead
set_option maxRecDepth 20000 in
theorem ggX4_proof_X4_isProof : GoodIn wsX4_proof wsX4_isProof := goodIn_r _ [27, 7, 8, 28, 21, 22, 5, 23, 29, 30, 31, 32, 33, 34, 35, 36, 37, 38, 39, 40, 41, 42, 43, 44] (by decide +kernel) (by decide +kernel)
set_option maxRecDepth 20000 in
theorem gX4_proof_X4_isProof : GoodIn wsX4_proof (wsV RX4 134 RX4 yX4_isProof wsX4_isProof) := goodIn_app (goodIn_of _ (by decide +kernel)) ggX4_proof_X4_isProof
theorem dX4_proof_0 : decode cX4_proof 0 = .ok (.aload_n 0, 1) := by decide +kernel
theorem dX4_proof_1 : decode cX4_proof 1 = .ok (.invokevirtual 127, 3) := by decide +kernel
theorem dX4_proof_4 : decode cX4_proof 4 = .ok (.iconst 1, 1) := by decide +kernel
theorem dX4_proof_5 : decode cX4_proof 5 = .ok (.aload_n 0, 1) := by decide +kernel
theorem dX4_proof_6 : decode cX4_proof 6 = .ok (.getfield 64, 3) := by decide +kernel
theorem dX4_proof_9 : decode cX4_proof 9 = .ok (.ishl, 1) := by decide +kernel
theorem dX4_proof_10 : decode cX4_proof 10 = .ok (.iconst 1, 1) := by decide +kernel
theorem dX4_proof_11 : decode cX4_proof 11 = .ok (.isub, 1) := by decide +kernel
theorem dX4_proof_12 : decode cX4_proof 12 = .ok (.istore_n 1, 1) := by decide +kernel
theorem dX4_proof_13 : decode cX4_proof 13 = .ok (.iconst 0, 1) := by decide +kernel
theorem dX4_proof_14 : decode cX4_proof 14 = .ok (.istore_n 2, 1) := by decide +kernel
theorem dX4_proof_15 : decode cX4_proof 15 = .ok (.iload_n 2, 1) := by decide +kernel
theorem dX4_proof_16 : decode cX4_proof 16 = .ok (.iconst 1, 1) := by decide +kernel
theorem dX4_proof_17 : decode cX4_proof 17 = .ok (.aload_n 0, 1) := by decide +kernel
theorem dX4_proof_18 : decode cX4_proof 18 = .ok (.getfield 64, 3) := by decide +kernel
theorem dX4_proof_21 : decode cX4_proof 21 = .ok (.ishl, 1) := by decide +kernel
theorem dX4_proof_22 : decode cX4_proof 22 = .ok (.if_icmp .ge 27, 3) := by decide +kernel
theorem dX4_proof_25 : decode cX4_proof 25 = .ok (.iload_n 2, 1) := by decide +kernel
theorem dX4_proof_26 : decode cX4_proof 26 = .ok (.iload_n 1, 1) := by decide +kernel
theorem dX4_proof_27 : decode cX4_proof 27 = .ok (.invokestatic 130, 3) := by decide +kernel
theorem dX4_proof_30 : decode cX4_proof 30 = .ok (.ifCond .eq 13, 3) := by decide +kernel
theorem dX4_proof_33 : decode cX4_proof 33 = .ok (.aload_n 0, 1) := by decide +kernel
theorem dX4_proof_34 : decode cX4_proof 34 = .ok (.iload_n 2, 1) := by decide +kernel
theorem dX4_proof_35 : decode cX4_proof 35 = .ok (.invokevirtual 134, 3) := by decide +kernel
theorem dX4_proof_38 : decode cX4_proof 38 = .ok (.ifCond .eq 5, 3) := by decide +kernel
theorem dX4_proof_41 : decode cX4_proof 41 = .ok (.iload_n 2, 1) := by decide +kernel
theorem dX4_proof_42 : decode cX4_proof 42 = .ok (.istore_n 1, 1) := by decide +kernel
theorem dX4_proof_43 : decode cX4_proof 43 = .ok (.iinc 2 1, 3) := by decide +kernel
theorem dX4_proof_46 : decode cX4_proof 46 = .ok (.goto (-31), 3) := by decide +kernel
theorem dX4_proof_49 : decode cX4_proof 49 = .ok (.iload_n 1, 1) := by decide +kernel
theorem dX4_proof_50 : decode cX4_proof 50 = .ok (.ireturn, 1) := by decide +kernel
set_option maxRecDepth 20000 in
theorem ggX4_proofSize_X4_manyLeft : GoodIn wsX4_proofSize wsX4_manyLeft := goodIn_r _ [6, 7, 8, 9, 10, 5, 11, 12, 13, 14, 15, 16, 17, 18, 19, 20, 21, 22, 23, 24, 25, 26, 46, 47, 48, 49, 50, 51, 52, 53, 54, 55, 56, 57, 58, 59, 60, 61] (by decide +kernel) (by decide +kernel)
set_option maxRecDepth 20000 in
theorem gX4_proofSize_X4_manyLeft : GoodIn wsX4_proofSize (wsV RX4 91 RX4 yX4_manyLeft wsX4_manyLeft) := goodIn_app (goodIn_of _ (by decide +kernel)) ggX4_proofSize_X4_manyLeft
set_option maxRecDepth 20000 in
theorem ggX4_proofSize_X4_proof : GoodIn wsX4_proofSize wsX4_proof := goodIn_r _ [30, 17, 31, 32, 33, 5, 34, 7, 35, 18, 19, 20, 21, 22, 23, 24, 25, 26, 36, 37, 38, 39, 40, 41, 42, 43, 44, 45, 12, 46, 47, 48, 49, 50, 51, 52, 53, 54, 55, 56, 57, 58, 59, 60, 61] (by decide +kernel) (by decide +kernel)
set_option maxRecDepth 20000 in
theorem gX4_proofSize_X4_proof : GoodIn wsX4_proofSize (wsV RX4 137 RX4 yX4_proof wsX4_proof) := goodIn_app (goodIn_of _ (by decide +kernel)) ggX4_proofSize_X4_proof
set_option maxRecDepth 20000 in
theorem ggX4_proofSize_X4_bits : GoodIn wsX4_proofSize wsX4_bits := goodIn_r _ [41] (by decide +kernel) (by decide +kernel)
set_option maxRecDepth 20000 in
theorem gX4_proofSize_X4_bits : GoodIn wsX4_proofSize (va_wsS RX4 124 yX4_bits wsX4_bits) := goodIn_app (goodIn_of _ (by decide +kernel)) ggX4_proofSize_X4_bits
theorem dX4_proofSize_0 : decode cX4_proofSize 0 = .ok (.aload_n 0, 1) := by decide +kernel
theorem dX4_proofSize_1 : decode cX4_proofSize 1 = .ok (.iconst 0, 1) := by decide +kernel
theorem dX4_proofSize_2 : decode cX4_proofSize 2 = .ok (.putfield 50, 3) := by decide +kernel
theorem dX4_proofSize_5 : decode cX4_proofSize 5 = .ok (.aload_n 0, 1) := by decide +kernel
theorem dX4_proofSize_6 : decode cX4_proofSize 6 = .ok (.invokevirtual 91, 3) := by decide +kernel
theorem dX4_proofSize_9 : decode cX4_proofSize 9 = .ok (.iconst 1, 1) := by decide +kernel
theorem dX4_proofSize_10 : decode cX4_proofSize 10 = .ok (.if_icmp .ne 13, 3) := by decide +kernel
theorem dX4_proofSize_13 : decode cX4_proofSize 13 = .ok (.aload_n 0, 1) := by decide +kernel
theorem dX4_proofSize_14 : decode cX4_proofSize 14 = .ok (.invokevirtual 137, 3) := by decide +kernel
theorem dX4_proofSize_17 : decode cX4_proofSize 17 = .ok (.invokestatic 124, 3) := by decide +kernel
theorem dX4_proofSize_20 : decode cX4_proofSize 20 = .ok (.goto 4, 3) := by decide +kernel
theorem dX4_proofSize_23 : decode cX4_proofSize 23 = .ok (.iconst (-1), 1) := by decide +kernel
theorem dX4_proofSize_24 : decode cX4_proofSize 24 = .ok (.ireturn, 1) := by decide +kernel
set_option maxRecDepth 20000 in
theorem ggX4_isInProof_X4_isEntry : GoodIn wsX4_isInProof wsX4_isEntry := goodIn_r _ [6, 7, 8, 9, 5, 10, 53, 54, 55, 56, 57, 58, 59, 60, 61, 62, 63, 64, 65, 66, 67, 68] (by decide +kernel) (by decide +kernel)
set_option maxRecDepth 20000 in
theorem gX4_isInProof_X4_isEntry : GoodIn wsX4_isInProof (wsV RX4 95 RX4 yX4_isEntry wsX4_isEntry) := goodIn_app (goodIn_of _ (by decide +kernel)) ggX4_isInProof_X4_isEntry
set_option maxRecDepth 20000 in
theorem ggX4_isInProof_X4_manyLeft : GoodIn wsX4_isInProof wsX4_manyLeft := goodIn_r _ [14, 15, 16, 17, 18, 5, 19, 20, 21, 22, 23, 24, 7, 25, 26, 27, 28, 29, 30, 31, 32, 33, 53, 54, 55, 56, 57, 58, 59, 60, 61, 62, 63, 64, 65, 66, 67, 68] (by decide +kernel) (by decide +kernel)
set_option maxRecDepth 20000 in
theorem gX4_isInProof_X4_manyLeft : GoodIn wsX4_isInProof (wsV RX4 91 RX4 yX4_manyLeft wsX4_manyLeft) := goodIn_app (goodIn_of _ (by decide +kernel)) ggX4_isInProof_X4_manyLeft
set_option maxRecDepth 20000 in
theorem ggX4_isInProof_X4_proof : GoodIn wsX4_isInProof wsX4_proof := goodIn_r _ [37, 7, 38, 39, 40, 5, 41, 15, 42, 25, 26, 27, 28, 29, 30, 31, 32, 33, 43, 44, 45, 46, 47, 48, 49, 50, 51, 52, 20, 53, 54, 55, 56, 57, 58, 59, 60, 61, 62, 63, 64, 65, 66, 67, 68] (by decide +kernel) (by decide +kernel)
set_option maxRecDepth 20000 in
theorem gX4_isInProof_X4_proof : GoodIn wsX4_isInProof (wsV RX4 137 RX4 yX4_proof wsX4_proof) := goodIn_app (goodIn_of _ (by decide +kernel)) ggX4_isInProof_X4_proof
theorem dX4_isInProof_0 : decode cX4_isInProof 0 = .ok (.aload_n 0, 1) := by decide +kernel
theorem dX4_isInProof_1 : decode cX4_isInProof 1 = .ok (.aload_n 0, 1) := by decide +kernel
theorem dX4_isInProof_2 : decode cX4_isInProof 2 = .ok (.iload_n 1, 1) := by decide +kernel
theorem dX4_isInProof_3 : decode cX4_isInProof 3 = .ok (.invokevirtual 95, 3) := by decide +kernel
theorem dX4_isInProof_6 : decode cX4_isInProof 6 = .ok (.ifCond .ne 7, 3) := by decide +kernel
theorem dX4_isInProof_9 : decode cX4_isInProof 9 = .ok (.iconst 1, 1) := by decide +kernel
theorem dX4_isInProof_10 : decode cX4_isInProof 10 = .ok (.goto 16, 3) := by decide +kernel
theorem dX4_isInProof_13 : decode cX4_isInProof 13 = .ok (.aload_n 0, 1) := by decide +kernel
theorem dX4_isInProof_14 : decode cX4_isInProof 14 = .ok (.invokevirtual 91, 3) := by decide +kernel
theorem dX4_isInProof_17 : decode cX4_isInProof 17 = .ok (.iconst 1, 1) := by decide +kernel
theorem dX4_isInProof_18 : decode cX4_isInProof 18 = .ok (.if_icmp .ne 7, 3) := by decide +kernel
theorem dX4_isInProof_21 : decode cX4_isInProof 21 = .ok (.iconst 0, 1) := by decide +kernel
theorem dX4_isInProof_22 : decode cX4_isInProof 22 = .ok (.goto 4, 3) := by decide +kernel
theorem dX4_isInProof_25 : decode cX4_isInProof 25 = .ok (.iconst 2, 1) := by decide +kernel
theorem dX4_isInProof_26 : decode cX4_isInProof 26 = .ok (.putfield 50, 3) := by decide +kernel
theorem dX4_isInProof_29 : decode cX4_isInProof 29 = .ok (.aload_n 0, 1) := by decide +kernel
theorem dX4_isInProof_30 : decode cX4_isInProof 30 = .ok (.getfield 50, 3) := by decide +kernel
theorem dX4_isInProof_33 : decode cX4_isInProof 33 = .ok (.ifCond .ne 19, 3) := by decide +kernel
theorem dX4_isInProof_36 : decode cX4_isInProof 36 = .ok (.aload_n 0, 1) := by decide +kernel
theorem dX4_isInProof_37 : decode cX4_isInProof 37 = .ok (.invokevirtual 137, 3) := by decide +kernel
theorem dX4_isInProof_40 : decode cX4_isInProof 40 = .ok (.iload_n 1, 1) := by decide +kernel
theorem dX4_isInProof_41 : decode cX4_isInProof 41 = .ok (.ishr, 1) := by decide +kernel
theorem dX4_isInProof_42 : decode cX4_isInProof 42 = .ok (.iconst 1, 1) := by decide +kernel
theorem dX4_isInProof_43 : decode cX4_isInProof 43 = .ok (.iand, 1) := by decide +kernel
theorem dX4_isInProof_44 : decode cX4_isInProof 44 = .ok (.iconst 1, 1) := by decide +kernel
theorem dX4_isInProof_45 : decode cX4_isInProof 45 = .ok (.if_icmp .ne 7, 3) := by decide +kernel
theorem dX4_isInProof_48 : decode cX4_isInProof 48 = .ok (.iconst 1, 1) := by decide +kernel
theorem dX4_isInProof_49 : decode cX4_isInProof 49 = .ok (.goto 4, 3) := by decide +kernel
theorem dX4_isInProof_52 : decode cX4_isInProof 52 = .ok (.iconst 0, 1) := by decide +kernel
theorem dX4_isInProof_53 : decode cX4_isInProof 53 = .ok (.ireturn, 1) := by decide +kernel
