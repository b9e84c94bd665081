theorem dX0_init_0 : decode cX0_init 0 = .ok (.aload_n 0, 1) := by decide +kernel
theorem dX0_init_1 : decode cX0_init 1 = .ok (.invokespecial 3, 3) := by decide +kernel
theorem dX0_init_4 : decode cX0_init 4 = .ok (.aload_n 0, 1) := by decide +kernel
theorem dX0_init_5 : decode cX0_init 5 = .ok (.bipush 10, 2) := by decide +kernel
theorem dX0_init_7 : decode cX0_init 7 = .ok (.newarray .int, 2) := by decide +kernel
theorem dX0_init_9 : decode cX0_init 9 = .ok (.putfield 9, 3) := by decide +kernel
theorem dX0_init_12 : decode cX0_init 12 = .ok (.aload_n 0, 1) := by decide +kernel
theorem dX0_init_13 : decode cX0_init 13 = .ok (.bipush 10, 2) := by decide +kernel
theorem dX0_init_15 : decode cX0_init 15 = .ok (.newarray .int, 2) := by decide +kernel
theorem dX0_init_17 : decode cX0_init 17 = .ok (.putfield 15, 3) := by decide +kernel
theorem dX0_init_20 : decode cX0_init 20 = .ok (.aload_n 0, 1) := by decide +kernel
theorem dX0_init_21 : decode cX0_init 21 = .ok (.sipush 256, 3) := by decide +kernel
theorem dX0_init_24 : decode cX0_init 24 = .ok (.newarray .int, 2) := by decide +kernel
theorem dX0_init_26 : decode cX0_init 26 = .ok (.putfield 18, 3) := by decide +kernel
theorem dX0_init_29 : decode cX0_init 29 = .ok (.aload_n 0, 1) := by decide +kernel
theorem dX0_init_30 : decode cX0_init 30 = .ok (.aload_n 1, 1) := by decide +kernel
theorem dX0_init_31 : decode cX0_init 31 = .ok (.putfield 21, 3) := by decide +kernel
theorem dX0_init_34 : decode cX0_init 34 = .ok (.return_, 1) := by decide +kernel
set_option maxRecDepth 20000 in
theorem ggX0_forgetAll_J7_fill_53178 : GoodIn wsX0_forgetAll wsJ7_fill_53178 := goodIn_r _ [6] (by decide +kernel) (by decide +kernel)
set_option maxRecDepth 20000 in
theorem gX0_forgetAll_J7_fill_53178 : GoodIn wsX0_forgetAll (va_wsS RX0 29 yJ7_fill_53178 wsJ7_fill_53178) := goodIn_app (goodIn_of _ (by decide +kernel)) ggX0_forgetAll_J7_fill_53178
theorem dX0_forgetAll_0 : decode cX0_forgetAll 0 = .ok (.aload_n 0, 1) := by decide +kernel
theorem dX0_forgetAll_1 : decode cX0_forgetAll 1 = .ok (.iconst 0, 1) := by decide +kernel
theorem dX0_forgetAll_2 : decode cX0_forgetAll 2 = .ok (.putfield 25, 3) := by decide +kernel
theorem dX0_forgetAll_5 : decode cX0_forgetAll 5 = .ok (.aload_n 0, 1) := by decide +kernel
theorem dX0_forgetAll_6 : decode cX0_forgetAll 6 = .ok (.getfield 18, 3) := by decide +kernel
theorem dX0_forgetAll_9 : decode cX0_forgetAll 9 = .ok (.iconst 0, 1) := by decide +kernel
theorem dX0_forgetAll_10 : decode cX0_forgetAll 10 = .ok (.invokestatic 29, 3) := by decide +kernel
theorem dX0_forgetAll_13 : decode cX0_forgetAll 13 = .ok (.return_, 1) := by decide +kernel
theorem dX0_isFull_0 : decode cX0_isFull 0 = .ok (.aload_n 0, 1) := by decide +kernel
theorem dX0_isFull_1 : decode cX0_isFull 1 = .ok (.getfield 25, 3) := by decide +kernel
theorem dX0_isFull_4 : decode cX0_isFull 4 = .ok (.bipush 10, 2) := by decide +kernel
theorem dX0_isFull_6 : decode cX0_isFull 6 = .ok (.if_icmp .lt 7, 3) := by decide +kernel
theorem dX0_isFull_9 : decode cX0_isFull 9 = .ok (.iconst 1, 1) := by decide +kernel
theorem dX0_isFull_10 : decode cX0_isFull 10 = .ok (.goto 4, 3) := by decide +kernel
theorem dX0_isFull_13 : decode cX0_isFull 13 = .ok (.iconst 0, 1) := by decide +kernel
theorem dX0_isFull_14 : decode cX0_isFull 14 = .ok (.ireturn, 1) := by decide +kernel
theorem dX0_has_0 : decode cX0_has 0 = .ok (.iload_n 1, 1) := by decide +kernel
theorem dX0_has_1 : decode cX0_has 1 = .ok (.ifCond .lt 21, 3) := by decide +kernel
theorem dX0_has_4 : decode cX0_has 4 = .ok (.iload_n 1, 1) := by decide +kernel
theorem dX0_has_5 : decode cX0_has 5 = .ok (.aload_n 0, 1) := by decide +kernel
theorem dX0_has_6 : decode cX0_has 6 = .ok (.getfield 25, 3) := by decide +kernel
theorem dX0_has_9 : decode cX0_has 9 = .ok (.if_icmp .ge 13, 3) := by decide +kernel
theorem dX0_has_12 : decode cX0_has 12 = .ok (.iload_n 1, 1) := by decide +kernel
theorem dX0_has_13 : decode cX0_has 13 = .ok (.bipush 10, 2) := by decide +kernel
theorem dX0_has_15 : decode cX0_has 15 = .ok (.if_icmp .ge 7, 3) := by decide +kernel
theorem dX0_has_18 : decode cX0_has 18 = .ok (.iconst 1, 1) := by decide +kernel
theorem dX0_has_19 : decode cX0_has 19 = .ok (.goto 4, 3) := by decide +kernel
theorem dX0_has_22 : decode cX0_has 22 = .ok (.iconst 0, 1) := by decide +kernel
theorem dX0_has_23 : decode cX0_has 23 = .ok (.ireturn, 1) := by decide +kernel
set_option maxRecDepth 20000 in
theorem ggX0_guessAt_X0_has : GoodIn wsX0_guessAt wsX0_has := goodIn_r _ [6, 7, 8, 9, 10, 11, 12] (by decide +kernel) (by decide +kernel)
set_option maxRecDepth 20000 in
theorem gX0_guessAt_X0_has : GoodIn wsX0_guessAt (wsV RX0 35 RX0 yX0_has wsX0_has) := goodIn_app (goodIn_of _ (by decide +kernel)) ggX0_guessAt_X0_has
theorem dX0_guessAt_0 : decode cX0_guessAt 0 = .ok (.aload_n 0, 1) := by decide +kernel
theorem dX0_guessAt_1 : decode cX0_guessAt 1 = .ok (.iload_n 1, 1) := by decide +kernel
theorem dX0_guessAt_2 : decode cX0_guessAt 2 = .ok (.invokevirtual 35, 3) := by decide +kernel
theorem dX0_guessAt_5 : decode cX0_guessAt 5 = .ok (.ifCond .eq 12, 3) := by decide +kernel
theorem dX0_guessAt_8 : decode cX0_guessAt 8 = .ok (.aload_n 0, 1) := by decide +kernel
theorem dX0_guessAt_9 : decode cX0_guessAt 9 = .ok (.getfield 9, 3) := by decide +kernel
theorem dX0_guessAt_12 : decode cX0_guessAt 12 = .ok (.iload_n 1, 1) := by decide +kernel
theorem dX0_guessAt_13 : decode cX0_guessAt 13 = .ok (.iaload, 1) := by decide +kernel
theorem dX0_guessAt_14 : decode cX0_guessAt 14 = .ok (.goto 4, 3) := by decide +kernel
theorem dX0_guessAt_17 : decode cX0_guessAt 17 = .ok (.iconst 0, 1) := by decide +kernel
theorem dX0_guessAt_18 : decode cX0_guessAt 18 = .ok (.ireturn, 1) := by decide +kernel
set_option maxRecDepth 20000 in
theorem ggX0_markAt_X0_has : GoodIn wsX0_markAt wsX0_has := goodIn_r _ [6, 7, 8, 9, 10, 11, 12] (by decide +kernel) (by decide +kernel)
set_option maxRecDepth 20000 in
theorem gX0_markAt_X0_has : GoodIn wsX0_markAt (wsV RX0 35 RX0 yX0_has wsX0_has) := goodIn_app (goodIn_of _ (by decide +kernel)) ggX0_markAt_X0_has
theorem dX0_markAt_0 : decode cX0_markAt 0 = .ok (.aload_n 0, 1) := by decide +kernel
theorem dX0_markAt_1 : decode cX0_markAt 1 = .ok (.iload_n 1, 1) := by decide +kernel
theorem dX0_markAt_2 : decode cX0_markAt 2 = .ok (.invokevirtual 35, 3) := by decide +kernel
theorem dX0_markAt_5 : decode cX0_markAt 5 = .ok (.ifCond .eq 12, 3) := by decide +kernel
theorem dX0_markAt_8 : decode cX0_markAt 8 = .ok (.aload_n 0, 1) := by decide +kernel
theorem dX0_markAt_9 : decode cX0_markAt 9 = .ok (.getfield 15, 3) := by decide +kernel
theorem dX0_markAt_12 : decode cX0_markAt 12 = .ok (.iload_n 1, 1) := by decide +kernel
theorem dX0_markAt_13 : decode cX0_markAt 13 = .ok (.iaload, 1) := by decide +kernel
theorem dX0_markAt_14 : decode cX0_markAt 14 = .ok (.goto 4, 3) := by decide +kernel
theorem dX0_markAt_17 : decode cX0_markAt 17 = .ok (.iconst 0, 1) := by decide +kernel
theorem dX0_markAt_18 : decode cX0_markAt 18 = .ok (.ireturn, 1) := by decide +kernel
set_option maxRecDepth 20000 in
theorem ggX0_add_X0_isFull : GoodIn wsX0_add wsX0_isFull := goodIn_r _ [11, 1, 40, 41, 42, 43, 44] (by decide +kernel) (by decide +kernel)
set_option maxRecDepth 20000 in
theorem gX0_add_X0_isFull : GoodIn wsX0_add (wsV RX0 39 RX0 yX0_isFull wsX0_isFull) := goodIn_app (goodIn_of _ (by decide +kernel)) ggX0_add_X0_isFull
set_option maxRecDepth 20000 in
theorem ggX0_add_X1_compare : GoodIn wsX0_add wsX1_compare := goodIn_r _ [16, 17, 18, 19, 20, 21, 22, 23, 15, 24, 25, 26, 27, 28, 29, 30, 31, 32, 33, 34, 35, 36, 37, 38, 39, 45, 46, 47, 48, 49] (by decide +kernel) (by decide +kernel)
set_option maxRecDepth 20000 in
theorem gX0_add_X1_compare : GoodIn wsX0_add (wsV RX0 48 RX1 yX1_compare wsX1_compare) := goodIn_app (goodIn_of _ (by decide +kernel)) ggX0_add_X1_compare
theorem dX0_add_0 : decode cX0_add 0 = .ok (.aload_n 0, 1) := by decide +kernel
theorem dX0_add_1 : decode cX0_add 1 = .ok (.getfield 25, 3) := by decide +kernel
theorem dX0_add_4 : decode cX0_add 4 = .ok (.ifCond .lt 10, 3) := by decide +kernel
theorem dX0_add_7 : decode cX0_add 7 = .ok (.aload_n 0, 1) := by decide +kernel
theorem dX0_add_8 : decode cX0_add 8 = .ok (.invokevirtual 39, 3) := by decide +kernel
theorem dX0_add_11 : decode cX0_add 11 = .ok (.ifCond .eq 4, 3) := by decide +kernel
theorem dX0_add_14 : decode cX0_add 14 = .ok (.return_, 1) := by decide +kernel
theorem dX0_add_15 : decode cX0_add 15 = .ok (.aload_n 0, 1) := by decide +kernel
theorem dX0_add_16 : decode cX0_add 16 = .ok (.getfield 9, 3) := by decide +kernel
theorem dX0_add_19 : decode cX0_add 19 = .ok (.aload_n 0, 1) := by decide +kernel
theorem dX0_add_20 : decode cX0_add 20 = .ok (.getfield 25, 3) := by decide +kernel
theorem dX0_add_23 : decode cX0_add 23 = .ok (.iload_n 1, 1) := by decide +kernel
theorem dX0_add_24 : decode cX0_add 24 = .ok (.iastore, 1) := by decide +kernel
theorem dX0_add_25 : decode cX0_add 25 = .ok (.aload_n 0, 1) := by decide +kernel
theorem dX0_add_26 : decode cX0_add 26 = .ok (.getfield 15, 3) := by decide +kernel
theorem dX0_add_29 : decode cX0_add 29 = .ok (.aload_n 0, 1) := by decide +kernel
theorem dX0_add_30 : decode cX0_add 30 = .ok (.getfield 25, 3) := by decide +kernel
theorem dX0_add_33 : decode cX0_add 33 = .ok (.iload_n 2, 1) := by decide +kernel
theorem dX0_add_34 : decode cX0_add 34 = .ok (.iastore, 1) := by decide +kernel
theorem dX0_add_35 : decode cX0_add 35 = .ok (.aload_n 0, 1) := by decide +kernel
theorem dX0_add_36 : decode cX0_add 36 = .ok (.dup, 1) := by decide +kernel
theorem dX0_add_37 : decode cX0_add 37 = .ok (.getfield 25, 3) := by decide +kernel
theorem dX0_add_40 : decode cX0_add 40 = .ok (.iconst 1, 1) := by decide +kernel
theorem dX0_add_41 : decode cX0_add 41 = .ok (.iadd, 1) := by decide +kernel
theorem dX0_add_42 : decode cX0_add 42 = .ok (.putfield 25, 3) := by decide +kernel
theorem dX0_add_45 : decode cX0_add 45 = .ok (.iconst 0, 1) := by decide +kernel
theorem dX0_add_46 : decode cX0_add 46 = .ok (.istore_n 3, 1) := by decide +kernel
theorem dX0_add_47 : decode cX0_add 47 = .ok (.iload_n 3, 1) := by decide +kernel
theorem dX0_add_48 : decode cX0_add 48 = .ok (.aload_n 0, 1) := by decide +kernel
theorem dX0_add_49 : decode cX0_add 49 = .ok (.getfield 21, 3) := by decide +kernel
theorem dX0_add_52 : decode cX0_add 52 = .ok (.getfield 43, 3) := by decide +kernel
theorem dX0_add_55 : decode cX0_add 55 = .ok (.if_icmp .ge 53, 3) := by decide +kernel
theorem dX0_add_58 : decode cX0_add 58 = .ok (.iload_n 3, 1) := by decide +kernel
theorem dX0_add_59 : decode cX0_add 59 = .ok (.sipush 256, 3) := by decide +kernel
theorem dX0_add_62 : decode cX0_add 62 = .ok (.if_icmp .ge 46, 3) := by decide +kernel
theorem dX0_add_65 : decode cX0_add 65 = .ok (.aload_n 0, 1) := by decide +kernel
theorem dX0_add_66 : decode cX0_add 66 = .ok (.getfield 21, 3) := by decide +kernel
theorem dX0_add_69 : decode cX0_add 69 = .ok (.iload_n 1, 1) := by decide +kernel
theorem dX0_add_70 : decode cX0_add 70 = .ok (.iload_n 3, 1) := by decide +kernel
theorem dX0_add_71 : decode cX0_add 71 = .ok (.invokevirtual 48, 3) := by decide +kernel
theorem dX0_add_74 : decode cX0_add 74 = .ok (.iload_n 2, 1) := by decide +kernel
theorem dX0_add_75 : decode cX0_add 75 = .ok (.if_icmp .ne 7, 3) := by decide +kernel
theorem dX0_add_78 : decode cX0_add 78 = .ok (.iconst 0, 1) := by decide +kernel
theorem dX0_add_79 : decode cX0_add 79 = .ok (.goto 4, 3) := by decide +kernel
theorem dX0_add_82 : decode cX0_add 82 = .ok (.iconst 1, 1) := by decide +kernel
theorem dX0_add_83 : decode cX0_add 83 = .ok (.istore 4, 2) := by decide +kernel
theorem dX0_add_85 : decode cX0_add 85 = .ok (.aload_n 0, 1) := by decide +kernel
theorem dX0_add_86 : decode cX0_add 86 = .ok (.getfield 18, 3) := by decide +kernel
theorem dX0_add_89 : decode cX0_add 89 = .ok (.iload_n 3, 1) := by decide +kernel
theorem dX0_add_90 : decode cX0_add 90 = .ok (.aload_n 0, 1) := by decide +kernel
theorem dX0_add_91 : decode cX0_add 91 = .ok (.getfield 18, 3) := by decide +kernel
theorem dX0_add_94 : decode cX0_add 94 = .ok (.iload_n 3, 1) := by decide +kernel
theorem dX0_add_95 : decode cX0_add 95 = .ok (.iaload, 1) := by decide +kernel
theorem dX0_add_96 : decode cX0_add 96 = .ok (.iconst 1, 1) := by decide +kernel
theorem dX0_add_97 : decode cX0_add 97 = .ok (.ishl, 1) := by decide +kernel
theorem dX0_add_98 : decode cX0_add 98 = .ok (.iload 4, 2) := by decide +kernel
theorem dX0_add_100 : decode cX0_add 100 = .ok (.ior, 1) := by decide +kernel
theorem dX0_add_101 : decode cX0_add 101 = .ok (.iastore, 1) := by decide +kernel
theorem dX0_add_102 : decode cX0_add 102 = .ok (.iinc 3 1, 3) := by decide +kernel
theorem dX0_add_105 : decode cX0_add 105 = .ok (.goto (-58), 3) := by decide +kernel
theorem dX0_add_108 : decode cX0_add 108 = .ok (.return_, 1) := by decide +kernel
theorem dX0_dropLatest_0 : decode cX0_dropLatest 0 = .ok (.aload_n 0, 1) := by decide +kernel
theorem dX0_dropLatest_1 : decode cX0_dropLatest 1 = .ok (.dup, 1) := by decide +kernel
theorem dX0_dropLatest_2 : decode cX0_dropLatest 2 = .ok (.getfield 25, 3) := by decide +kernel
theorem dX0_dropLatest_5 : decode cX0_dropLatest 5 = .ok (.iconst 1, 1) := by decide +kernel
theorem dX0_dropLatest_6 : decode cX0_dropLatest 6 = .ok (.isub, 1) := by decide +kernel
theorem dX0_dropLatest_7 : decode cX0_dropLatest 7 = .ok (.putfield 25, 3) := by decide +kernel
theorem dX0_dropLatest_10 : decode cX0_dropLatest 10 = .ok (.iconst 0, 1) := by decide +kernel
theorem dX0_dropLatest_11 : decode cX0_dropLatest 11 = .ok (.istore_n 1, 1) := by decide +kernel
theorem dX0_dropLatest_12 : decode cX0_dropLatest 12 = .ok (.iload_n 1, 1) := by decide +kernel
theorem dX0_dropLatest_13 : decode cX0_dropLatest 13 = .ok (.aload_n 0, 1) := by decide +kernel
theorem dX0_dropLatest_14 : decode cX0_dropLatest 14 = .ok (.getfield 21, 3) := by decide +kernel
theorem dX0_dropLatest_17 : decode cX0_dropLatest 17 = .ok (.getfield 43, 3) := by decide +kernel
theorem dX0_dropLatest_20 : decode cX0_dropLatest 20 = .ok (.if_icmp .ge 26, 3) := by decide +kernel
theorem dX0_dropLatest_23 : decode cX0_dropLatest 23 = .ok (.iload_n 1, 1) := by decide +kernel
theorem dX0_dropLatest_24 : decode cX0_dropLatest 24 = .ok (.sipush 256, 3) := by decide +kernel
theorem dX0_dropLatest_27 : decode cX0_dropLatest 27 = .ok (.if_icmp .ge 19, 3) := by decide +kernel
theorem dX0_dropLatest_30 : decode cX0_dropLatest 30 = .ok (.aload_n 0, 1) := by decide +kernel
theorem dX0_dropLatest_31 : decode cX0_dropLatest 31 = .ok (.getfield 18, 3) := by decide +kernel
theorem dX0_dropLatest_34 : decode cX0_dropLatest 34 = .ok (.iload_n 1, 1) := by decide +kernel
theorem dX0_dropLatest_35 : decode cX0_dropLatest 35 = .ok (.dup2, 1) := by decide +kernel
theorem dX0_dropLatest_36 : decode cX0_dropLatest 36 = .ok (.iaload, 1) := by decide +kernel
theorem dX0_dropLatest_37 : decode cX0_dropLatest 37 = .ok (.iconst 1, 1) := by decide +kernel
theorem dX0_dropLatest_38 : decode cX0_dropLatest 38 = .ok (.ishr, 1) := by decide +kernel
theorem dX0_dropLatest_39 : decode cX0_dropLatest 39 = .ok (.iastore, 1) := by decide +kernel
theorem dX0_dropLatest_40 : decode cX0_dropLatest 40 = .ok (.iinc 1 1, 3) := by decide +kernel
theorem dX0_dropLatest_43 : decode cX0_dropLatest 43 = .ok (.goto (-31), 3) := by decide +kernel
theorem dX0_dropLatest_46 : decode cX0_dropLatest 46 = .ok (.return_, 1) := by decide +kernel
theorem dX0_allBits_0 : decode cX0_allBits 0 = .ok (.iconst 1, 1) := by decide +kernel
theorem dX0_allBits_1 : decode cX0_allBits 1 = .ok (.aload_n 0, 1) := by decide +kernel
theorem dX0_allBits_2 : decode cX0_allBits 2 = .ok (.getfield 25, 3) := by decide +kernel
theorem dX0_allBits_5 : decode cX0_allBits 5 = .ok (.ishl, 1) := by decide +kernel
theorem dX0_allBits_6 : decode cX0_allBits 6 = .ok (.iconst 1, 1) := by decide +kernel
theorem dX0_allBits_7 : decode cX0_allBits 7 = .ok (.isub, 1) := by decide +kernel
theorem dX0_allBits_8 : decode cX0_allBits 8 = .ok (.ireturn, 1) := by decide +kernel
set_option maxRecDepth 20000 in
theorem ggX0_bitOf_X0_has : GoodIn wsX0_bitOf wsX0_has := goodIn_r _ [6, 1, 7, 8, 9, 10, 11] (by decide +kernel) (by decide +kernel)
set_option maxRecDepth 20000 in
theorem gX0_bitOf_X0_has : GoodIn wsX0_bitOf (wsV RX0 35 RX0 yX0_has wsX0_has) := goodIn_app (goodIn_of _ (by decide +kernel)) ggX0_bitOf_X0_has
theorem dX0_bitOf_0 : decode cX0_bitOf 0 = .ok (.aload_n 0, 1) := by decide +kernel
theorem dX0_bitOf_1 : decode cX0_bitOf 1 = .ok (.iload_n 1, 1) := by decide +kernel
theorem dX0_bitOf_2 : decode cX0_bitOf 2 = .ok (.invokevirtual 35, 3) := by decide +kernel
theorem dX0_bitOf_5 : decode cX0_bitOf 5 = .ok (.ifCond .eq 16, 3) := by decide +kernel
theorem dX0_bitOf_8 : decode cX0_bitOf 8 = .ok (.iconst 1, 1) := by decide +kernel
theorem dX0_bitOf_9 : decode cX0_bitOf 9 = .ok (.aload_n 0, 1) := by decide +kernel
theorem dX0_bitOf_10 : decode cX0_bitOf 10 = .ok (.getfield 25, 3) := by decide +kernel
theorem dX0_bitOf_13 : decode cX0_bitOf 13 = .ok (.iconst 1, 1) := by decide +kernel
theorem dX0_bitOf_14 : decode cX0_bitOf 14 = .ok (.isub, 1) := by decide +kernel
theorem dX0_bitOf_15 : decode cX0_bitOf 15 = .ok (.iload_n 1, 1) := by decide +kernel
theorem dX0_bitOf_16 : decode cX0_bitOf 16 = .ok (.isub, 1) := by decide +kernel
theorem dX0_bitOf_17 : decode cX0_bitOf 17 = .ok (.ishl, 1) := by decide +kernel
theorem dX0_bitOf_18 : decode cX0_bitOf 18 = .ok (.goto 4, 3) := by decide +kernel
theorem dX0_bitOf_21 : decode cX0_bitOf 21 = .ok (.iconst 0, 1) := by decide +kernel
theorem dX0_bitOf_22 : decode cX0_bitOf 22 = .ok (.ireturn, 1) := by decide +kernel
set_option maxRecDepth 20000 in
theorem ggX0_countLies_X0_allBits : GoodIn wsX0_countLies wsX0_allBits := goodIn_r _ [5, 6, 26, 27, 28, 29, 30] (by decide +kernel) (by decide +kernel)
set_option maxRecDepth 20000 in
theorem gX0_countLies_X0_allBits : GoodIn wsX0_countLies (wsV RX0 52 RX0 yX0_allBits wsX0_allBits) := goodIn_app (goodIn_of _ (by decide +kernel)) ggX0_countLies_X0_allBits
set_option maxRecDepth 20000 in
theorem ggX0_countLies_X0_countLiesIn : GoodIn wsX0_countLies wsX0_countLiesIn := goodIn_r _ [10, 11, 12, 13, 14, 15, 16, 17, 18, 19, 20, 21, 22, 23, 24, 25, 26, 27, 28, 29, 30, 31, 32, 33, 34, 35] (by decide +kernel) (by decide +kernel)
set_option maxRecDepth 20000 in
theorem gX0_countLies_X0_countLiesIn : GoodIn wsX0_countLies (wsV RX0 56 RX0 yX0_countLiesIn wsX0_countLiesIn) := goodIn_app (goodIn_of _ (by decide +kernel)) ggX0_countLies_X0_countLiesIn
theorem dX0_countLies_0 : decode cX0_countLies 0 = .ok (.aload_n 0, 1) := by decide +kernel
theorem dX0_countLies_1 : decode cX0_countLies 1 = .ok (.aload_n 0, 1) := by decide +kernel
theorem dX0_countLies_2 : decode cX0_countLies 2 = .ok (.invokevirtual 52, 3) := by decide +kernel
theorem dX0_countLies_5 : decode cX0_countLies 5 = .ok (.iload_n 1, 1) := by decide +kernel
theorem dX0_countLies_6 : decode cX0_countLies 6 = .ok (.invokevirtual 56, 3) := by decide +kernel
theorem dX0_countLies_9 : decode cX0_countLies 9 = .ok (.ireturn, 1) := by decide +kernel
set_option maxRecDepth 20000 in
theorem ggX0_countLiesIn_X1_has : GoodIn wsX0_countLiesIn wsX1_has := goodIn_r _ [7, 8, 21, 22, 23, 24, 25] (by decide +kernel) (by decide +kernel)
set_option maxRecDepth 20000 in
theorem gX0_countLiesIn_X1_has : GoodIn wsX0_countLiesIn (wsV RX0 59 RX1 yX1_has wsX1_has) := goodIn_app (goodIn_of _ (by decide +kernel)) ggX0_countLiesIn_X1_has
set_option maxRecDepth 20000 in
theorem ggX0_countLiesIn_J6_bitCount_0f7a4 : GoodIn wsX0_countLiesIn wsJ6_bitCount_0f7a4 := goodIn_r _ [12, 13, 14, 15] (by decide +kernel) (by decide +kernel)
set_option maxRecDepth 20000 in
theorem gX0_countLiesIn_J6_bitCount_0f7a4 : GoodIn wsX0_countLiesIn (va_wsS RX0 60 yJ6_bitCount_0f7a4 wsJ6_bitCount_0f7a4) := goodIn_app (goodIn_of _ (by decide +kernel)) ggX0_countLiesIn_J6_bitCount_0f7a4
theorem dX0_countLiesIn_0 : decode cX0_countLiesIn 0 = .ok (.aload_n 0, 1) := by decide +kernel
theorem dX0_countLiesIn_1 : decode cX0_countLiesIn 1 = .ok (.getfield 21, 3) := by decide +kernel
theorem dX0_countLiesIn_4 : decode cX0_countLiesIn 4 = .ok (.iload_n 2, 1) := by decide +kernel
theorem dX0_countLiesIn_5 : decode cX0_countLiesIn 5 = .ok (.invokevirtual 59, 3) := by decide +kernel
theorem dX0_countLiesIn_8 : decode cX0_countLiesIn 8 = .ok (.ifCond .eq 17, 3) := by decide +kernel
theorem dX0_countLiesIn_11 : decode cX0_countLiesIn 11 = .ok (.aload_n 0, 1) := by decide +kernel
theorem dX0_countLiesIn_12 : decode cX0_countLiesIn 12 = .ok (.getfield 18, 3) := by decide +kernel
theorem dX0_countLiesIn_15 : decode cX0_countLiesIn 15 = .ok (.iload_n 2, 1) := by decide +kernel
theorem dX0_countLiesIn_16 : decode cX0_countLiesIn 16 = .ok (.iaload, 1) := by decide +kernel
theorem dX0_countLiesIn_17 : decode cX0_countLiesIn 17 = .ok (.iload_n 1, 1) := by decide +kernel
theorem dX0_countLiesIn_18 : decode cX0_countLiesIn 18 = .ok (.iand, 1) := by decide +kernel
theorem dX0_countLiesIn_19 : decode cX0_countLiesIn 19 = .ok (.invokestatic 60, 3) := by decide +kernel
theorem dX0_countLiesIn_22 : decode cX0_countLiesIn 22 = .ok (.goto 4, 3) := by decide +kernel
theorem dX0_countLiesIn_25 : decode cX0_countLiesIn 25 = .ok (.iconst 0, 1) := by decide +kernel
theorem dX0_countLiesIn_26 : decode cX0_countLiesIn 26 = .ok (.ireturn, 1) := by decide +kernel
set_option maxRecDepth 20000 in
theorem ggX0_countLiesAnew_X1_compare : GoodIn wsX0_countLiesAnew wsX1_compare := goodIn_r _ [9, 10, 11, 12, 13, 14, 15, 16, 8, 17, 18, 19, 20, 21, 22, 23, 24, 25, 26, 27, 28, 29, 30, 31, 32, 38, 39, 40, 41, 42] (by decide +kernel) (by decide +kernel)
set_option maxRecDepth 20000 in
theorem gX0_countLiesAnew_X1_compare : GoodIn wsX0_countLiesAnew (wsV RX0 48 RX1 yX1_compare wsX1_compare) := goodIn_app (goodIn_of _ (by decide +kernel)) ggX0_countLiesAnew_X1_compare
theorem dX0_countLiesAnew_0 : decode cX0_countLiesAnew 0 = .ok (.iconst 0, 1) := by decide +kernel
theorem dX0_countLiesAnew_1 : decode cX0_countLiesAnew 1 = .ok (.istore_n 2, 1) := by decide +kernel
theorem dX0_countLiesAnew_2 : decode cX0_countLiesAnew 2 = .ok (.iconst 0, 1) := by decide +kernel
theorem dX0_countLiesAnew_3 : decode cX0_countLiesAnew 3 = .ok (.istore_n 3, 1) := by decide +kernel
theorem dX0_countLiesAnew_4 : decode cX0_countLiesAnew 4 = .ok (.iload_n 3, 1) := by decide +kernel
theorem dX0_countLiesAnew_5 : decode cX0_countLiesAnew 5 = .ok (.aload_n 0, 1) := by decide +kernel
theorem dX0_countLiesAnew_6 : decode cX0_countLiesAnew 6 = .ok (.getfield 25, 3) := by decide +kernel
theorem dX0_countLiesAnew_9 : decode cX0_countLiesAnew 9 = .ok (.if_icmp .ge 41, 3) := by decide +kernel
theorem dX0_countLiesAnew_12 : decode cX0_countLiesAnew 12 = .ok (.iload_n 3, 1) := by decide +kernel
theorem dX0_countLiesAnew_13 : decode cX0_countLiesAnew 13 = .ok (.bipush 10, 2) := by decide +kernel
theorem dX0_countLiesAnew_15 : decode cX0_countLiesAnew 15 = .ok (.if_icmp .ge 35, 3) := by decide +kernel
theorem dX0_countLiesAnew_18 : decode cX0_countLiesAnew 18 = .ok (.aload_n 0, 1) := by decide +kernel
theorem dX0_countLiesAnew_19 : decode cX0_countLiesAnew 19 = .ok (.getfield 21, 3) := by decide +kernel
theorem dX0_countLiesAnew_22 : decode cX0_countLiesAnew 22 = .ok (.aload_n 0, 1) := by decide +kernel
theorem dX0_countLiesAnew_23 : decode cX0_countLiesAnew 23 = .ok (.getfield 9, 3) := by decide +kernel
theorem dX0_countLiesAnew_26 : decode cX0_countLiesAnew 26 = .ok (.iload_n 3, 1) := by decide +kernel
theorem dX0_countLiesAnew_27 : decode cX0_countLiesAnew 27 = .ok (.iaload, 1) := by decide +kernel
theorem dX0_countLiesAnew_28 : decode cX0_countLiesAnew 28 = .ok (.iload_n 1, 1) := by decide +kernel
theorem dX0_countLiesAnew_29 : decode cX0_countLiesAnew 29 = .ok (.invokevirtual 48, 3) := by decide +kernel
theorem dX0_countLiesAnew_32 : decode cX0_countLiesAnew 32 = .ok (.aload_n 0, 1) := by decide +kernel
theorem dX0_countLiesAnew_33 : decode cX0_countLiesAnew 33 = .ok (.getfield 15, 3) := by decide +kernel
theorem dX0_countLiesAnew_36 : decode cX0_countLiesAnew 36 = .ok (.iload_n 3, 1) := by decide +kernel
theorem dX0_countLiesAnew_37 : decode cX0_countLiesAnew 37 = .ok (.iaload, 1) := by decide +kernel
theorem dX0_countLiesAnew_38 : decode cX0_countLiesAnew 38 = .ok (.if_icmp .eq 6, 3) := by decide +kernel
theorem dX0_countLiesAnew_41 : decode cX0_countLiesAnew 41 = .ok (.iinc 2 1, 3) := by decide +kernel
theorem dX0_countLiesAnew_44 : decode cX0_countLiesAnew 44 = .ok (.iinc 3 1, 3) := by decide +kernel
theorem dX0_countLiesAnew_47 : decode cX0_countLiesAnew 47 = .ok (.goto (-43), 3) := by decide +kernel
theorem dX0_countLiesAnew_50 : decode cX0_countLiesAnew 50 = .ok (.iload_n 2, 1) := by decide +kernel
theorem dX0_countLiesAnew_51 : decode cX0_countLiesAnew 51 = .ok (.ireturn, 1) := by decide +kernel
theorem dX1_init_0 : decode cX1_init 0 = .ok (.aload_n 0, 1) := by decide +kernel
theorem dX1_init_1 : decode cX1_init 1 = .ok (.invokespecial 3, 3) := by decide +kernel
theorem dX1_init_4 : decode cX1_init 4 = .ok (.aload_n 0, 1) := by decide +kernel
theorem dX1_init_5 : decode cX1_init 5 = .ok (.sipush 256, 3) := by decide +kernel
theorem dX1_init_8 : decode cX1_init 8 = .ok (.newarray .int, 2) := by decide +kernel
theorem dX1_init_10 : decode cX1_init 10 = .ok (.putfield 9, 3) := by decide +kernel
theorem dX1_init_13 : decode cX1_init 13 = .ok (.aload_n 0, 1) := by decide +kernel
theorem dX1_init_14 : decode cX1_init 14 = .ok (.sipush 256, 3) := by decide +kernel
theorem dX1_init_17 : decode cX1_init 17 = .ok (.newarray .long, 2) := by decide +kernel
theorem dX1_init_19 : decode cX1_init 19 = .ok (.putfield 15, 3) := by decide +kernel
theorem dX1_init_22 : decode cX1_init 22 = .ok (.return_, 1) := by decide +kernel
set_option maxRecDepth 20000 in
theorem ggX1_lay_X1_layRow : GoodIn wsX1_lay wsX1_layRow := goodIn_r _ [8, 1, 2, 9, 10, 11, 12, 7, 13, 14, 15, 16, 17, 18, 3, 19, 20, 21, 22, 23] (by decide +kernel) (by decide +kernel)
set_option maxRecDepth 20000 in
theorem gX1_lay_X1_layRow : GoodIn wsX1_lay (wsV RX1 29 RX1 yX1_layRow wsX1_layRow) := goodIn_app (goodIn_of _ (by decide +kernel)) ggX1_lay_X1_layRow
theorem dX1_lay_0 : decode cX1_lay 0 = .ok (.iload_n 1, 1) := by decide +kernel
theorem dX1_lay_1 : decode cX1_lay 1 = .ok (.iconst 1, 1) := by decide +kernel
theorem dX1_lay_2 : decode cX1_lay 2 = .ok (.if_icmp .lt 20, 3) := by decide +kernel
theorem dX1_lay_5 : decode cX1_lay 5 = .ok (.iload_n 1, 1) := by decide +kernel
theorem dX1_lay_6 : decode cX1_lay 6 = .ok (.bipush 8, 2) := by decide +kernel
theorem dX1_lay_8 : decode cX1_lay 8 = .ok (.if_icmp .gt 14, 3) := by decide +kernel
theorem dX1_lay_11 : decode cX1_lay 11 = .ok (.iload_n 2, 1) := by decide +kernel
theorem dX1_lay_12 : decode cX1_lay 12 = .ok (.iconst 2, 1) := by decide +kernel
theorem dX1_lay_13 : decode cX1_lay 13 = .ok (.if_icmp .lt 9, 3) := by decide +kernel
theorem dX1_lay_16 : decode cX1_lay 16 = .ok (.iload_n 2, 1) := by decide +kernel
theorem dX1_lay_17 : decode cX1_lay 17 = .ok (.bipush 6, 2) := by decide +kernel
theorem dX1_lay_19 : decode cX1_lay 19 = .ok (.if_icmp .le 5, 3) := by decide +kernel
theorem dX1_lay_22 : decode cX1_lay 22 = .ok (.iconst 0, 1) := by decide +kernel
theorem dX1_lay_23 : decode cX1_lay 23 = .ok (.ireturn, 1) := by decide +kernel
theorem dX1_lay_24 : decode cX1_lay 24 = .ok (.iconst 1, 1) := by decide +kernel
theorem dX1_lay_25 : decode cX1_lay 25 = .ok (.istore_n 3, 1) := by decide +kernel
theorem dX1_lay_26 : decode cX1_lay 26 = .ok (.iconst 0, 1) := by decide +kernel
theorem dX1_lay_27 : decode cX1_lay 27 = .ok (.istore 4, 2) := by decide +kernel
theorem dX1_lay_29 : decode cX1_lay 29 = .ok (.iload 4, 2) := by decide +kernel
theorem dX1_lay_31 : decode cX1_lay 31 = .ok (.iload_n 1, 1) := by decide +kernel
theorem dX1_lay_32 : decode cX1_lay 32 = .ok (.if_icmp .ge 13, 3) := by decide +kernel
theorem dX1_lay_35 : decode cX1_lay 35 = .ok (.iload_n 3, 1) := by decide +kernel
theorem dX1_lay_36 : decode cX1_lay 36 = .ok (.iload_n 2, 1) := by decide +kernel
theorem dX1_lay_37 : decode cX1_lay 37 = .ok (.imul, 1) := by decide +kernel
theorem dX1_lay_38 : decode cX1_lay 38 = .ok (.istore_n 3, 1) := by decide +kernel
theorem dX1_lay_39 : decode cX1_lay 39 = .ok (.iinc 4 1, 3) := by decide +kernel
theorem dX1_lay_42 : decode cX1_lay 42 = .ok (.goto (-13), 3) := by decide +kernel
theorem dX1_lay_45 : decode cX1_lay 45 = .ok (.iload_n 3, 1) := by decide +kernel
theorem dX1_lay_46 : decode cX1_lay 46 = .ok (.sipush 256, 3) := by decide +kernel
theorem dX1_lay_49 : decode cX1_lay 49 = .ok (.if_icmp .le 5, 3) := by decide +kernel
theorem dX1_lay_52 : decode cX1_lay 52 = .ok (.iconst 0, 1) := by decide +kernel
theorem dX1_lay_53 : decode cX1_lay 53 = .ok (.ireturn, 1) := by decide +kernel
theorem dX1_lay_54 : decode cX1_lay 54 = .ok (.aload_n 0, 1) := by decide +kernel
theorem dX1_lay_55 : decode cX1_lay 55 = .ok (.iload_n 1, 1) := by decide +kernel
theorem dX1_lay_56 : decode cX1_lay 56 = .ok (.putfield 19, 3) := by decide +kernel
theorem dX1_lay_59 : decode cX1_lay 59 = .ok (.aload_n 0, 1) := by decide +kernel
theorem dX1_lay_60 : decode cX1_lay 60 = .ok (.iload_n 2, 1) := by decide +kernel
theorem dX1_lay_61 : decode cX1_lay 61 = .ok (.putfield 23, 3) := by decide +kernel
theorem dX1_lay_64 : decode cX1_lay 64 = .ok (.aload_n 0, 1) := by decide +kernel
theorem dX1_lay_65 : decode cX1_lay 65 = .ok (.iload_n 3, 1) := by decide +kernel
theorem dX1_lay_66 : decode cX1_lay 66 = .ok (.putfield 26, 3) := by decide +kernel
theorem dX1_lay_69 : decode cX1_lay 69 = .ok (.iconst 0, 1) := by decide +kernel
theorem dX1_lay_70 : decode cX1_lay 70 = .ok (.istore 4, 2) := by decide +kernel
theorem dX1_lay_72 : decode cX1_lay 72 = .ok (.iload 4, 2) := by decide +kernel
theorem dX1_lay_74 : decode cX1_lay 74 = .ok (.iload_n 3, 1) := by decide +kernel
theorem dX1_lay_75 : decode cX1_lay 75 = .ok (.if_icmp .ge 15, 3) := by decide +kernel
theorem dX1_lay_78 : decode cX1_lay 78 = .ok (.aload_n 0, 1) := by decide +kernel
theorem dX1_lay_79 : decode cX1_lay 79 = .ok (.iload 4, 2) := by decide +kernel
theorem dX1_lay_81 : decode cX1_lay 81 = .ok (.invokevirtual 29, 3) := by decide +kernel
theorem dX1_lay_84 : decode cX1_lay 84 = .ok (.iinc 4 1, 3) := by decide +kernel
theorem dX1_lay_87 : decode cX1_lay 87 = .ok (.goto (-15), 3) := by decide +kernel
theorem dX1_lay_90 : decode cX1_lay 90 = .ok (.iconst 1, 1) := by decide +kernel
theorem dX1_lay_91 : decode cX1_lay 91 = .ok (.ireturn, 1) := by decide +kernel
set_option maxRecDepth 20000 in
theorem ggX1_layRow_X1_withPin : GoodIn wsX1_layRow wsX1_withPin := goodIn_r _ [8, 9] (by decide +kernel) (by decide +kernel)
set_option maxRecDepth 20000 in
theorem gX1_layRow_X1_withPin : GoodIn wsX1_layRow (va_wsS RX1 33 yX1_withPin wsX1_withPin) := goodIn_app (goodIn_of _ (by decide +kernel)) ggX1_layRow_X1_withPin
set_option maxRecDepth 20000 in
theorem ggX1_layRow_X1_has : GoodIn wsX1_layRow wsX1_has := goodIn_r _ [13, 14, 15, 16, 17, 18, 19] (by decide +kernel) (by decide +kernel)
set_option maxRecDepth 20000 in
theorem gX1_layRow_X1_has : GoodIn wsX1_layRow (wsV RX1 37 RX1 yX1_has wsX1_has) := goodIn_app (goodIn_of _ (by decide +kernel)) ggX1_layRow_X1_has
theorem dX1_layRow_0 : decode cX1_layRow 0 = .ok (.iconst 0, 1) := by decide +kernel
theorem dX1_layRow_1 : decode cX1_layRow 1 = .ok (.istore_n 2, 1) := by decide +kernel
theorem dX1_layRow_2 : decode cX1_layRow 2 = .ok (.lconst 0, 1) := by decide +kernel
theorem dX1_layRow_3 : decode cX1_layRow 3 = .ok (.lstore_n 3, 1) := by decide +kernel
theorem dX1_layRow_4 : decode cX1_layRow 4 = .ok (.iload_n 1, 1) := by decide +kernel
theorem dX1_layRow_5 : decode cX1_layRow 5 = .ok (.istore 5, 2) := by decide +kernel
theorem dX1_layRow_7 : decode cX1_layRow 7 = .ok (.iconst 0, 1) := by decide +kernel
theorem dX1_layRow_8 : decode cX1_layRow 8 = .ok (.istore 6, 2) := by decide +kernel
theorem dX1_layRow_10 : decode cX1_layRow 10 = .ok (.iload 6, 2) := by decide +kernel
theorem dX1_layRow_12 : decode cX1_layRow 12 = .ok (.aload_n 0, 1) := by decide +kernel
theorem dX1_layRow_13 : decode cX1_layRow 13 = .ok (.getfield 19, 3) := by decide +kernel
theorem dX1_layRow_16 : decode cX1_layRow 16 = .ok (.if_icmp .ge 51, 3) := by decide +kernel
theorem dX1_layRow_19 : decode cX1_layRow 19 = .ok (.aload_n 0, 1) := by decide +kernel
theorem dX1_layRow_20 : decode cX1_layRow 20 = .ok (.getfield 23, 3) := by decide +kernel
theorem dX1_layRow_23 : decode cX1_layRow 23 = .ok (.ifCond .le 44, 3) := by decide +kernel
theorem dX1_layRow_26 : decode cX1_layRow 26 = .ok (.iload 5, 2) := by decide +kernel
theorem dX1_layRow_28 : decode cX1_layRow 28 = .ok (.aload_n 0, 1) := by decide +kernel
theorem dX1_layRow_29 : decode cX1_layRow 29 = .ok (.getfield 23, 3) := by decide +kernel
theorem dX1_layRow_32 : decode cX1_layRow 32 = .ok (.irem, 1) := by decide +kernel
theorem dX1_layRow_33 : decode cX1_layRow 33 = .ok (.istore 7, 2) := by decide +kernel
theorem dX1_layRow_35 : decode cX1_layRow 35 = .ok (.iload 5, 2) := by decide +kernel
theorem dX1_layRow_37 : decode cX1_layRow 37 = .ok (.aload_n 0, 1) := by decide +kernel
theorem dX1_layRow_38 : decode cX1_layRow 38 = .ok (.getfield 23, 3) := by decide +kernel
theorem dX1_layRow_41 : decode cX1_layRow 41 = .ok (.idiv, 1) := by decide +kernel
theorem dX1_layRow_42 : decode cX1_layRow 42 = .ok (.istore 5, 2) := by decide +kernel
theorem dX1_layRow_44 : decode cX1_layRow 44 = .ok (.iload_n 2, 1) := by decide +kernel
theorem dX1_layRow_45 : decode cX1_layRow 45 = .ok (.iload 7, 2) := by decide +kernel
theorem dX1_layRow_47 : decode cX1_layRow 47 = .ok (.iconst 3, 1) := by decide +kernel
theorem dX1_layRow_48 : decode cX1_layRow 48 = .ok (.iload 6, 2) := by decide +kernel
theorem dX1_layRow_50 : decode cX1_layRow 50 = .ok (.imul, 1) := by decide +kernel
theorem dX1_layRow_51 : decode cX1_layRow 51 = .ok (.ishl, 1) := by decide +kernel
theorem dX1_layRow_52 : decode cX1_layRow 52 = .ok (.ior, 1) := by decide +kernel
theorem dX1_layRow_53 : decode cX1_layRow 53 = .ok (.istore_n 2, 1) := by decide +kernel
theorem dX1_layRow_54 : decode cX1_layRow 54 = .ok (.lload_n 3, 1) := by decide +kernel
theorem dX1_layRow_55 : decode cX1_layRow 55 = .ok (.iload 7, 2) := by decide +kernel
theorem dX1_layRow_57 : decode cX1_layRow 57 = .ok (.invokestatic 33, 3) := by decide +kernel
theorem dX1_layRow_60 : decode cX1_layRow 60 = .ok (.lstore_n 3, 1) := by decide +kernel
theorem dX1_layRow_61 : decode cX1_layRow 61 = .ok (.iinc 6 1, 3) := by decide +kernel
theorem dX1_layRow_64 : decode cX1_layRow 64 = .ok (.goto (-54), 3) := by decide +kernel
theorem dX1_layRow_67 : decode cX1_layRow 67 = .ok (.aload_n 0, 1) := by decide +kernel
theorem dX1_layRow_68 : decode cX1_layRow 68 = .ok (.iload_n 1, 1) := by decide +kernel
theorem dX1_layRow_69 : decode cX1_layRow 69 = .ok (.invokevirtual 37, 3) := by decide +kernel
theorem dX1_layRow_72 : decode cX1_layRow 72 = .ok (.ifCond .eq 17, 3) := by decide +kernel
theorem dX1_layRow_75 : decode cX1_layRow 75 = .ok (.aload_n 0, 1) := by decide +kernel
theorem dX1_layRow_76 : decode cX1_layRow 76 = .ok (.getfield 9, 3) := by decide +kernel
theorem dX1_layRow_79 : decode cX1_layRow 79 = .ok (.iload_n 1, 1) := by decide +kernel
theorem dX1_layRow_80 : decode cX1_layRow 80 = .ok (.iload_n 2, 1) := by decide +kernel
theorem dX1_layRow_81 : decode cX1_layRow 81 = .ok (.iastore, 1) := by decide +kernel
theorem dX1_layRow_82 : decode cX1_layRow 82 = .ok (.aload_n 0, 1) := by decide +kernel
theorem dX1_layRow_83 : decode cX1_layRow 83 = .ok (.getfield 15, 3) := by decide +kernel
theorem dX1_layRow_86 : decode cX1_layRow 86 = .ok (.iload_n 1, 1) := by decide +kernel
theorem dX1_layRow_87 : decode cX1_layRow 87 = .ok (.lload_n 3, 1) := by decide +kernel
theorem dX1_layRow_88 : decode cX1_layRow 88 = .ok (.lastore, 1) := by decide +kernel
theorem dX1_layRow_89 : decode cX1_layRow 89 = .ok (.return_, 1) := by decide +kernel
theorem dX1_withPin_0 : decode cX1_withPin 0 = .ok (.bipush 8, 2) := by decide +kernel
theorem dX1_withPin_2 : decode cX1_withPin 2 = .ok (.iload_n 2, 1) := by decide +kernel
theorem dX1_withPin_3 : decode cX1_withPin 3 = .ok (.imul, 1) := by decide +kernel
theorem dX1_withPin_4 : decode cX1_withPin 4 = .ok (.istore_n 3, 1) := by decide +kernel
theorem dX1_withPin_5 : decode cX1_withPin 5 = .ok (.lload_n 0, 1) := by decide +kernel
theorem dX1_withPin_6 : decode cX1_withPin 6 = .ok (.iload_n 3, 1) := by decide +kernel
theorem dX1_withPin_7 : decode cX1_withPin 7 = .ok (.lshr, 1) := by decide +kernel
theorem dX1_withPin_8 : decode cX1_withPin 8 = .ok (.ldc2_w 41, 3) := by decide +kernel
theorem dX1_withPin_11 : decode cX1_withPin 11 = .ok (.land, 1) := by decide +kernel
theorem dX1_withPin_12 : decode cX1_withPin 12 = .ok (.lstore 4, 2) := by decide +kernel
theorem dX1_withPin_14 : decode cX1_withPin 14 = .ok (.lload_n 0, 1) := by decide +kernel
theorem dX1_withPin_15 : decode cX1_withPin 15 = .ok (.lload 4, 2) := by decide +kernel
theorem dX1_withPin_17 : decode cX1_withPin 17 = .ok (.iconst 1, 1) := by decide +kernel
theorem dX1_withPin_18 : decode cX1_withPin 18 = .ok (.lshl, 1) := by decide +kernel
theorem dX1_withPin_19 : decode cX1_withPin 19 = .ok (.lconst 1, 1) := by decide +kernel
theorem dX1_withPin_20 : decode cX1_withPin 20 = .ok (.lor, 1) := by decide +kernel
theorem dX1_withPin_21 : decode cX1_withPin 21 = .ok (.iload_n 3, 1) := by decide +kernel
theorem dX1_withPin_22 : decode cX1_withPin 22 = .ok (.lshl, 1) := by decide +kernel
theorem dX1_withPin_23 : decode cX1_withPin 23 = .ok (.lor, 1) := by decide +kernel
theorem dX1_withPin_24 : decode cX1_withPin 24 = .ok (.lreturn, 1) := by decide +kernel
theorem dX1_has_0 : decode cX1_has 0 = .ok (.iload_n 1, 1) := by decide +kernel
theorem dX1_has_1 : decode cX1_has 1 = .ok (.ifCond .lt 22, 3) := by decide +kernel
theorem dX1_has_4 : decode cX1_has 4 = .ok (.iload_n 1, 1) := by decide +kernel
theorem dX1_has_5 : decode cX1_has 5 = .ok (.aload_n 0, 1) := by decide +kernel
theorem dX1_has_6 : decode cX1_has 6 = .ok (.getfield 26, 3) := by decide +kernel
theorem dX1_has_9 : decode cX1_has 9 = .ok (.if_icmp .ge 14, 3) := by decide +kernel
theorem dX1_has_12 : decode cX1_has 12 = .ok (.iload_n 1, 1) := by decide +kernel
theorem dX1_has_13 : decode cX1_has 13 = .ok (.sipush 256, 3) := by decide +kernel
theorem dX1_has_16 : decode cX1_has 16 = .ok (.if_icmp .ge 7, 3) := by decide +kernel
theorem dX1_has_19 : decode cX1_has 19 = .ok (.iconst 1, 1) := by decide +kernel
theorem dX1_has_20 : decode cX1_has 20 = .ok (.goto 4, 3) := by decide +kernel
theorem dX1_has_23 : decode cX1_has 23 = .ok (.iconst 0, 1) := by decide +kernel
theorem dX1_has_24 : decode cX1_has 24 = .ok (.ireturn, 1) := by decide +kernel
set_option maxRecDepth 20000 in
theorem ggX1_colourOf_X1_has : GoodIn wsX1_colourOf wsX1_has := goodIn_r _ [7, 8, 9, 10, 11, 12, 13] (by decide +kernel) (by decide +kernel)
set_option maxRecDepth 20000 in
theorem gX1_colourOf_X1_has : GoodIn wsX1_colourOf (wsV RX1 37 RX1 yX1_has wsX1_has) := goodIn_app (goodIn_of _ (by decide +kernel)) ggX1_colourOf_X1_has
theorem dX1_colourOf_0 : decode cX1_colourOf 0 = .ok (.aload_n 0, 1) := by decide +kernel
theorem dX1_colourOf_1 : decode cX1_colourOf 1 = .ok (.iload_n 1, 1) := by decide +kernel
theorem dX1_colourOf_2 : decode cX1_colourOf 2 = .ok (.invokevirtual 37, 3) := by decide +kernel
theorem dX1_colourOf_5 : decode cX1_colourOf 5 = .ok (.ifCond .ne 5, 3) := by decide +kernel
theorem dX1_colourOf_8 : decode cX1_colourOf 8 = .ok (.iconst 0, 1) := by decide +kernel
theorem dX1_colourOf_9 : decode cX1_colourOf 9 = .ok (.ireturn, 1) := by decide +kernel
theorem dX1_colourOf_10 : decode cX1_colourOf 10 = .ok (.aload_n 0, 1) := by decide +kernel
theorem dX1_colourOf_11 : decode cX1_colourOf 11 = .ok (.getfield 9, 3) := by decide +kernel
theorem dX1_colourOf_14 : decode cX1_colourOf 14 = .ok (.iload_n 1, 1) := by decide +kernel
theorem dX1_colourOf_15 : decode cX1_colourOf 15 = .ok (.iaload, 1) := by decide +kernel
theorem dX1_colourOf_16 : decode cX1_colourOf 16 = .ok (.iconst 3, 1) := by decide +kernel
theorem dX1_colourOf_17 : decode cX1_colourOf 17 = .ok (.aload_n 0, 1) := by decide +kernel
theorem dX1_colourOf_18 : decode cX1_colourOf 18 = .ok (.getfield 19, 3) := by decide +kernel
theorem dX1_colourOf_21 : decode cX1_colourOf 21 = .ok (.iconst 1, 1) := by decide +kernel
theorem dX1_colourOf_22 : decode cX1_colourOf 22 = .ok (.isub, 1) := by decide +kernel
theorem dX1_colourOf_23 : decode cX1_colourOf 23 = .ok (.iload_n 2, 1) := by decide +kernel
theorem dX1_colourOf_24 : decode cX1_colourOf 24 = .ok (.isub, 1) := by decide +kernel
theorem dX1_colourOf_25 : decode cX1_colourOf 25 = .ok (.imul, 1) := by decide +kernel
theorem dX1_colourOf_26 : decode cX1_colourOf 26 = .ok (.ishr, 1) := by decide +kernel
theorem dX1_colourOf_27 : decode cX1_colourOf 27 = .ok (.bipush 7, 2) := by decide +kernel
theorem dX1_colourOf_29 : decode cX1_colourOf 29 = .ok (.iand, 1) := by decide +kernel
theorem dX1_colourOf_30 : decode cX1_colourOf 30 = .ok (.ireturn, 1) := by decide +kernel
theorem dX1_allBlack_0 : decode cX1_allBlack 0 = .ok (.bipush 10, 2) := by decide +kernel
theorem dX1_allBlack_2 : decode cX1_allBlack 2 = .ok (.aload_n 0, 1) := by decide +kernel
theorem dX1_allBlack_3 : decode cX1_allBlack 3 = .ok (.getfield 19, 3) := by decide +kernel
theorem dX1_allBlack_6 : decode cX1_allBlack 6 = .ok (.imul, 1) := by decide +kernel
theorem dX1_allBlack_7 : decode cX1_allBlack 7 = .ok (.ireturn, 1) := by decide +kernel
theorem dX1_allows_0 : decode cX1_allows 0 = .ok (.iload_n 1, 1) := by decide +kernel
theorem dX1_allows_1 : decode cX1_allows 1 = .ok (.ifCond .ge 5, 3) := by decide +kernel
theorem dX1_allows_4 : decode cX1_allows 4 = .ok (.iconst 0, 1) := by decide +kernel
theorem dX1_allows_5 : decode cX1_allows 5 = .ok (.ireturn, 1) := by decide +kernel
theorem dX1_allows_6 : decode cX1_allows 6 = .ok (.iload_n 1, 1) := by decide +kernel
theorem dX1_allows_7 : decode cX1_allows 7 = .ok (.bipush 10, 2) := by decide +kernel
theorem dX1_allows_9 : decode cX1_allows 9 = .ok (.idiv, 1) := by decide +kernel
theorem dX1_allows_10 : decode cX1_allows 10 = .ok (.istore_n 2, 1) := by decide +kernel
theorem dX1_allows_11 : decode cX1_allows 11 = .ok (.iload_n 1, 1) := by decide +kernel
theorem dX1_allows_12 : decode cX1_allows 12 = .ok (.bipush 10, 2) := by decide +kernel
theorem dX1_allows_14 : decode cX1_allows 14 = .ok (.irem, 1) := by decide +kernel
theorem dX1_allows_15 : decode cX1_allows 15 = .ok (.istore_n 3, 1) := by decide +kernel
theorem dX1_allows_16 : decode cX1_allows 16 = .ok (.iload_n 3, 1) := by decide +kernel
theorem dX1_allows_17 : decode cX1_allows 17 = .ok (.iconst 1, 1) := by decide +kernel
theorem dX1_allows_18 : decode cX1_allows 18 = .ok (.if_icmp .ne 17, 3) := by decide +kernel
theorem dX1_allows_21 : decode cX1_allows 21 = .ok (.iload_n 2, 1) := by decide +kernel
theorem dX1_allows_22 : decode cX1_allows 22 = .ok (.aload_n 0, 1) := by decide +kernel
theorem dX1_allows_23 : decode cX1_allows 23 = .ok (.getfield 19, 3) := by decide +kernel
theorem dX1_allows_26 : decode cX1_allows 26 = .ok (.iconst 1, 1) := by decide +kernel
theorem dX1_allows_27 : decode cX1_allows 27 = .ok (.isub, 1) := by decide +kernel
theorem dX1_allows_28 : decode cX1_allows 28 = .ok (.if_icmp .ne 7, 3) := by decide +kernel
theorem dX1_allows_31 : decode cX1_allows 31 = .ok (.iconst 1, 1) := by decide +kernel
theorem dX1_allows_32 : decode cX1_allows 32 = .ok (.goto 4, 3) := by decide +kernel
theorem dX1_allows_35 : decode cX1_allows 35 = .ok (.iconst 0, 1) := by decide +kernel
theorem dX1_allows_36 : decode cX1_allows 36 = .ok (.istore 4, 2) := by decide +kernel
theorem dX1_allows_38 : decode cX1_allows 38 = .ok (.iload_n 2, 1) := by decide +kernel
theorem dX1_allows_39 : decode cX1_allows 39 = .ok (.iload_n 3, 1) := by decide +kernel
theorem dX1_allows_40 : decode cX1_allows 40 = .ok (.iadd, 1) := by decide +kernel
theorem dX1_allows_41 : decode cX1_allows 41 = .ok (.aload_n 0, 1) := by decide +kernel
theorem dX1_allows_42 : decode cX1_allows 42 = .ok (.getfield 19, 3) := by decide +kernel
theorem dX1_allows_45 : decode cX1_allows 45 = .ok (.if_icmp .gt 12, 3) := by decide +kernel
theorem dX1_allows_48 : decode cX1_allows 48 = .ok (.iload 4, 2) := by decide +kernel
theorem dX1_allows_50 : decode cX1_allows 50 = .ok (.ifCond .ne 7, 3) := by decide +kernel
theorem dX1_allows_53 : decode cX1_allows 53 = .ok (.iconst 1, 1) := by decide +kernel
theorem dX1_allows_54 : decode cX1_allows 54 = .ok (.goto 4, 3) := by decide +kernel
theorem dX1_allows_57 : decode cX1_allows 57 = .ok (.iconst 0, 1) := by decide +kernel
theorem dX1_allows_58 : decode cX1_allows 58 = .ok (.ireturn, 1) := by decide +kernel
set_option maxRecDepth 20000 in
theorem ggX1_compare_X1_has : GoodIn wsX1_compare wsX1_has := goodIn_r _ [9, 10, 25, 26, 27, 28, 29] (by decide +kernel) (by decide +kernel)
set_option maxRecDepth 20000 in
theorem gX1_compare_X1_has : GoodIn wsX1_compare (wsV RX1 37 RX1 yX1_has wsX1_has) := goodIn_app (goodIn_of _ (by decide +kernel)) ggX1_compare_X1_has
set_option maxRecDepth 20000 in
theorem ggX1_compare_J6_bitCount_0f7a4 : GoodIn wsX1_compare wsJ6_bitCount_0f7a4 := goodIn_r _ [14, 15, 16, 17] (by decide +kernel) (by decide +kernel)
set_option maxRecDepth 20000 in
theorem gX1_compare_J6_bitCount_0f7a4 : GoodIn wsX1_compare (va_wsS RX1 44 yJ6_bitCount_0f7a4 wsJ6_bitCount_0f7a4) := goodIn_app (goodIn_of _ (by decide +kernel)) ggX1_compare_J6_bitCount_0f7a4
set_option maxRecDepth 20000 in
theorem ggX1_compare_J13_bitCount_95d88 : GoodIn wsX1_compare wsJ13_bitCount_95d88 := goodIn_r _ [21, 22, 23, 24] (by decide +kernel) (by decide +kernel)
set_option maxRecDepth 20000 in
theorem gX1_compare_J13_bitCount_95d88 : GoodIn wsX1_compare (va_wsS RX1 50 yJ13_bitCount_95d88 wsJ13_bitCount_95d88) := goodIn_app (goodIn_of _ (by decide +kernel)) ggX1_compare_J13_bitCount_95d88
theorem dX1_compare_0 : decode cX1_compare 0 = .ok (.aload_n 0, 1) := by decide +kernel
theorem dX1_compare_1 : decode cX1_compare 1 = .ok (.iload_n 1, 1) := by decide +kernel
theorem dX1_compare_2 : decode cX1_compare 2 = .ok (.invokevirtual 37, 3) := by decide +kernel
theorem dX1_compare_5 : decode cX1_compare 5 = .ok (.ifCond .eq 11, 3) := by decide +kernel
theorem dX1_compare_8 : decode cX1_compare 8 = .ok (.aload_n 0, 1) := by decide +kernel
theorem dX1_compare_9 : decode cX1_compare 9 = .ok (.iload_n 2, 1) := by decide +kernel
theorem dX1_compare_10 : decode cX1_compare 10 = .ok (.invokevirtual 37, 3) := by decide +kernel
theorem dX1_compare_13 : decode cX1_compare 13 = .ok (.ifCond .ne 5, 3) := by decide +kernel
theorem dX1_compare_16 : decode cX1_compare 16 = .ok (.iconst 0, 1) := by decide +kernel
theorem dX1_compare_17 : decode cX1_compare 17 = .ok (.ireturn, 1) := by decide +kernel
theorem dX1_compare_18 : decode cX1_compare 18 = .ok (.aload_n 0, 1) := by decide +kernel
theorem dX1_compare_19 : decode cX1_compare 19 = .ok (.getfield 9, 3) := by decide +kernel
theorem dX1_compare_22 : decode cX1_compare 22 = .ok (.iload_n 1, 1) := by decide +kernel
theorem dX1_compare_23 : decode cX1_compare 23 = .ok (.iaload, 1) := by decide +kernel
theorem dX1_compare_24 : decode cX1_compare 24 = .ok (.aload_n 0, 1) := by decide +kernel
theorem dX1_compare_25 : decode cX1_compare 25 = .ok (.getfield 9, 3) := by decide +kernel
theorem dX1_compare_28 : decode cX1_compare 28 = .ok (.iload_n 2, 1) := by decide +kernel
theorem dX1_compare_29 : decode cX1_compare 29 = .ok (.iaload, 1) := by decide +kernel
theorem dX1_compare_30 : decode cX1_compare 30 = .ok (.ixor, 1) := by decide +kernel
theorem dX1_compare_31 : decode cX1_compare 31 = .ok (.istore_n 3, 1) := by decide +kernel
theorem dX1_compare_32 : decode cX1_compare 32 = .ok (.iload_n 3, 1) := by decide +kernel
theorem dX1_compare_33 : decode cX1_compare 33 = .ok (.iload_n 3, 1) := by decide +kernel
theorem dX1_compare_34 : decode cX1_compare 34 = .ok (.iconst 1, 1) := by decide +kernel
theorem dX1_compare_35 : decode cX1_compare 35 = .ok (.ishr, 1) := by decide +kernel
theorem dX1_compare_36 : decode cX1_compare 36 = .ok (.ior, 1) := by decide +kernel
theorem dX1_compare_37 : decode cX1_compare 37 = .ok (.iload_n 3, 1) := by decide +kernel
theorem dX1_compare_38 : decode cX1_compare 38 = .ok (.iconst 2, 1) := by decide +kernel
theorem dX1_compare_39 : decode cX1_compare 39 = .ok (.ishr, 1) := by decide +kernel
theorem dX1_compare_40 : decode cX1_compare 40 = .ok (.ior, 1) := by decide +kernel
theorem dX1_compare_41 : decode cX1_compare 41 = .ok (.ldc 43, 2) := by decide +kernel
theorem dX1_compare_43 : decode cX1_compare 43 = .ok (.iand, 1) := by decide +kernel
theorem dX1_compare_44 : decode cX1_compare 44 = .ok (.istore 4, 2) := by decide +kernel
theorem dX1_compare_46 : decode cX1_compare 46 = .ok (.aload_n 0, 1) := by decide +kernel
theorem dX1_compare_47 : decode cX1_compare 47 = .ok (.getfield 19, 3) := by decide +kernel
theorem dX1_compare_50 : decode cX1_compare 50 = .ok (.iload 4, 2) := by decide +kernel
theorem dX1_compare_52 : decode cX1_compare 52 = .ok (.invokestatic 44, 3) := by decide +kernel
theorem dX1_compare_55 : decode cX1_compare 55 = .ok (.isub, 1) := by decide +kernel
theorem dX1_compare_56 : decode cX1_compare 56 = .ok (.istore 5, 2) := by decide +kernel
theorem dX1_compare_58 : decode cX1_compare 58 = .ok (.aload_n 0, 1) := by decide +kernel
theorem dX1_compare_59 : decode cX1_compare 59 = .ok (.getfield 15, 3) := by decide +kernel
theorem dX1_compare_62 : decode cX1_compare 62 = .ok (.iload_n 1, 1) := by decide +kernel
theorem dX1_compare_63 : decode cX1_compare 63 = .ok (.laload, 1) := by decide +kernel
theorem dX1_compare_64 : decode cX1_compare 64 = .ok (.aload_n 0, 1) := by decide +kernel
theorem dX1_compare_65 : decode cX1_compare 65 = .ok (.getfield 15, 3) := by decide +kernel
theorem dX1_compare_68 : decode cX1_compare 68 = .ok (.iload_n 2, 1) := by decide +kernel
theorem dX1_compare_69 : decode cX1_compare 69 = .ok (.laload, 1) := by decide +kernel
theorem dX1_compare_70 : decode cX1_compare 70 = .ok (.land, 1) := by decide +kernel
theorem dX1_compare_71 : decode cX1_compare 71 = .ok (.invokestatic 50, 3) := by decide +kernel
theorem dX1_compare_74 : decode cX1_compare 74 = .ok (.istore 6, 2) := by decide +kernel
theorem dX1_compare_76 : decode cX1_compare 76 = .ok (.bipush 10, 2) := by decide +kernel
theorem dX1_compare_78 : decode cX1_compare 78 = .ok (.iload 5, 2) := by decide +kernel
theorem dX1_compare_80 : decode cX1_compare 80 = .ok (.imul, 1) := by decide +kernel
theorem dX1_compare_81 : decode cX1_compare 81 = .ok (.iload 6, 2) := by decide +kernel
theorem dX1_compare_83 : decode cX1_compare 83 = .ok (.iload 5, 2) := by decide +kernel
theorem dX1_compare_85 : decode cX1_compare 85 = .ok (.isub, 1) := by decide +kernel
theorem dX1_compare_86 : decode cX1_compare 86 = .ok (.iadd, 1) := by decide +kernel
theorem dX1_compare_87 : decode cX1_compare 87 = .ok (.ireturn, 1) := by decide +kernel
theorem dX2_init_0 : decode cX2_init 0 = .ok (.aload_n 0, 1) := by decide +kernel
theorem dX2_init_1 : decode cX2_init 1 = .ok (.invokespecial 3, 3) := by decide +kernel
theorem dX2_init_4 : decode cX2_init 4 = .ok (.aload_n 0, 1) := by decide +kernel
theorem dX2_init_5 : decode cX2_init 5 = .ok (.bipush 81, 2) := by decide +kernel
theorem dX2_init_7 : decode cX2_init 7 = .ok (.newarray .int, 2) := by decide +kernel
theorem dX2_init_9 : decode cX2_init 9 = .ok (.putfield 9, 3) := by decide +kernel
theorem dX2_init_12 : decode cX2_init 12 = .ok (.aload_n 0, 1) := by decide +kernel
theorem dX2_init_13 : decode cX2_init 13 = .ok (.bipush 81, 2) := by decide +kernel
theorem dX2_init_15 : decode cX2_init 15 = .ok (.newarray .int, 2) := by decide +kernel
theorem dX2_init_17 : decode cX2_init 17 = .ok (.putfield 15, 3) := by decide +kernel
theorem dX2_init_20 : decode cX2_init 20 = .ok (.return_, 1) := by decide +kernel
set_option maxRecDepth 20000 in
theorem ggX2_clear_J7_fill_53178 : GoodIn wsX2_clear wsJ7_fill_53178 := goodIn_r _ [8] (by decide +kernel) (by decide +kernel)
set_option maxRecDepth 20000 in
theorem gX2_clear_J7_fill_53178 : GoodIn wsX2_clear (va_wsS RX2 28 yJ7_fill_53178 wsJ7_fill_53178) := goodIn_app (goodIn_of _ (by decide +kernel)) ggX2_clear_J7_fill_53178
theorem dX2_clear_0 : decode cX2_clear 0 = .ok (.aload_n 0, 1) := by decide +kernel
theorem dX2_clear_1 : decode cX2_clear 1 = .ok (.iconst 0, 1) := by decide +kernel
theorem dX2_clear_2 : decode cX2_clear 2 = .ok (.putfield 18, 3) := by decide +kernel
theorem dX2_clear_5 : decode cX2_clear 5 = .ok (.aload_n 0, 1) := by decide +kernel
theorem dX2_clear_6 : decode cX2_clear 6 = .ok (.iconst 0, 1) := by decide +kernel
theorem dX2_clear_7 : decode cX2_clear 7 = .ok (.putfield 22, 3) := by decide +kernel
theorem dX2_clear_10 : decode cX2_clear 10 = .ok (.aload_n 0, 1) := by decide +kernel
theorem dX2_clear_11 : decode cX2_clear 11 = .ok (.iconst 0, 1) := by decide +kernel
theorem dX2_clear_12 : decode cX2_clear 12 = .ok (.putfield 25, 3) := by decide +kernel
theorem dX2_clear_15 : decode cX2_clear 15 = .ok (.aload_n 0, 1) := by decide +kernel
theorem dX2_clear_16 : decode cX2_clear 16 = .ok (.getfield 15, 3) := by decide +kernel
theorem dX2_clear_19 : decode cX2_clear 19 = .ok (.iconst 0, 1) := by decide +kernel
theorem dX2_clear_20 : decode cX2_clear 20 = .ok (.invokestatic 28, 3) := by decide +kernel
theorem dX2_clear_23 : decode cX2_clear 23 = .ok (.return_, 1) := by decide +kernel
theorem dX2_add_0 : decode cX2_add 0 = .ok (.iload_n 1, 1) := by decide +kernel
theorem dX2_add_1 : decode cX2_add 1 = .ok (.ifCond .lt 9, 3) := by decide +kernel
theorem dX2_add_4 : decode cX2_add 4 = .ok (.iload_n 1, 1) := by decide +kernel
theorem dX2_add_5 : decode cX2_add 5 = .ok (.bipush 80, 2) := by decide +kernel
theorem dX2_add_7 : decode cX2_add 7 = .ok (.if_icmp .le 4, 3) := by decide +kernel
theorem dX2_add_10 : decode cX2_add 10 = .ok (.return_, 1) := by decide +kernel
theorem dX2_add_11 : decode cX2_add 11 = .ok (.aload_n 0, 1) := by decide +kernel
theorem dX2_add_12 : decode cX2_add 12 = .ok (.getfield 15, 3) := by decide +kernel
theorem dX2_add_15 : decode cX2_add 15 = .ok (.iload_n 1, 1) := by decide +kernel
theorem dX2_add_16 : decode cX2_add 16 = .ok (.iaload, 1) := by decide +kernel
theorem dX2_add_17 : decode cX2_add 17 = .ok (.ifCond .ne 42, 3) := by decide +kernel
theorem dX2_add_20 : decode cX2_add 20 = .ok (.aload_n 0, 1) := by decide +kernel
theorem dX2_add_21 : decode cX2_add 21 = .ok (.getfield 18, 3) := by decide +kernel
theorem dX2_add_24 : decode cX2_add 24 = .ok (.ifCond .lt 35, 3) := by decide +kernel
theorem dX2_add_27 : decode cX2_add 27 = .ok (.aload_n 0, 1) := by decide +kernel
theorem dX2_add_28 : decode cX2_add 28 = .ok (.getfield 18, 3) := by decide +kernel
theorem dX2_add_31 : decode cX2_add 31 = .ok (.aload_n 0, 1) := by decide +kernel
theorem dX2_add_32 : decode cX2_add 32 = .ok (.getfield 9, 3) := by decide +kernel
theorem dX2_add_35 : decode cX2_add 35 = .ok (.arraylength, 1) := by decide +kernel
theorem dX2_add_36 : decode cX2_add 36 = .ok (.if_icmp .ge 23, 3) := by decide +kernel
theorem dX2_add_39 : decode cX2_add 39 = .ok (.aload_n 0, 1) := by decide +kernel
theorem dX2_add_40 : decode cX2_add 40 = .ok (.getfield 9, 3) := by decide +kernel
theorem dX2_add_43 : decode cX2_add 43 = .ok (.aload_n 0, 1) := by decide +kernel
theorem dX2_add_44 : decode cX2_add 44 = .ok (.getfield 18, 3) := by decide +kernel
theorem dX2_add_47 : decode cX2_add 47 = .ok (.iload_n 1, 1) := by decide +kernel
theorem dX2_add_48 : decode cX2_add 48 = .ok (.iastore, 1) := by decide +kernel
theorem dX2_add_49 : decode cX2_add 49 = .ok (.aload_n 0, 1) := by decide +kernel
theorem dX2_add_50 : decode cX2_add 50 = .ok (.dup, 1) := by decide +kernel
theorem dX2_add_51 : decode cX2_add 51 = .ok (.getfield 18, 3) := by decide +kernel
theorem dX2_add_54 : decode cX2_add 54 = .ok (.iconst 1, 1) := by decide +kernel
theorem dX2_add_55 : decode cX2_add 55 = .ok (.iadd, 1) := by decide +kernel
theorem dX2_add_56 : decode cX2_add 56 = .ok (.putfield 18, 3) := by decide +kernel
theorem dX2_add_59 : decode cX2_add 59 = .ok (.aload_n 0, 1) := by decide +kernel
theorem dX2_add_60 : decode cX2_add 60 = .ok (.getfield 15, 3) := by decide +kernel
theorem dX2_add_63 : decode cX2_add 63 = .ok (.iload_n 1, 1) := by decide +kernel
theorem dX2_add_64 : decode cX2_add 64 = .ok (.iaload, 1) := by decide +kernel
theorem dX2_add_65 : decode cX2_add 65 = .ok (.iconst 1, 1) := by decide +kernel
theorem dX2_add_66 : decode cX2_add 66 = .ok (.iadd, 1) := by decide +kernel
theorem dX2_add_67 : decode cX2_add 67 = .ok (.istore_n 2, 1) := by decide +kernel
theorem dX2_add_68 : decode cX2_add 68 = .ok (.aload_n 0, 1) := by decide +kernel
theorem dX2_add_69 : decode cX2_add 69 = .ok (.getfield 15, 3) := by decide +kernel
theorem dX2_add_72 : decode cX2_add 72 = .ok (.iload_n 1, 1) := by decide +kernel
theorem dX2_add_73 : decode cX2_add 73 = .ok (.iload_n 2, 1) := by decide +kernel
theorem dX2_add_74 : decode cX2_add 74 = .ok (.iastore, 1) := by decide +kernel
theorem dX2_add_75 : decode cX2_add 75 = .ok (.aload_n 0, 1) := by decide +kernel
theorem dX2_add_76 : decode cX2_add 76 = .ok (.aload_n 0, 1) := by decide +kernel
theorem dX2_add_77 : decode cX2_add 77 = .ok (.getfield 22, 3) := by decide +kernel
theorem dX2_add_80 : decode cX2_add 80 = .ok (.iload_n 2, 1) := by decide +kernel
theorem dX2_add_81 : decode cX2_add 81 = .ok (.invokestatic 34, 3) := by decide +kernel
theorem dX2_add_84 : decode cX2_add 84 = .ok (.putfield 22, 3) := by decide +kernel
theorem dX2_add_87 : decode cX2_add 87 = .ok (.aload_n 0, 1) := by decide +kernel
theorem dX2_add_88 : decode cX2_add 88 = .ok (.dup, 1) := by decide +kernel
theorem dX2_add_89 : decode cX2_add 89 = .ok (.getfield 25, 3) := by decide +kernel
theorem dX2_add_92 : decode cX2_add 92 = .ok (.iconst 2, 1) := by decide +kernel
theorem dX2_add_93 : decode cX2_add 93 = .ok (.iload_n 2, 1) := by decide +kernel
theorem dX2_add_94 : decode cX2_add 94 = .ok (.imul, 1) := by decide +kernel
theorem dX2_add_95 : decode cX2_add 95 = .ok (.iconst 1, 1) := by decide +kernel
theorem dX2_add_96 : decode cX2_add 96 = .ok (.isub, 1) := by decide +kernel
theorem dX2_add_97 : decode cX2_add 97 = .ok (.iadd, 1) := by decide +kernel
theorem dX2_add_98 : decode cX2_add 98 = .ok (.putfield 25, 3) := by decide +kernel
theorem dX2_add_101 : decode cX2_add 101 = .ok (.return_, 1) := by decide +kernel
theorem dX2_has_0 : decode cX2_has 0 = .ok (.iload_n 1, 1) := by decide +kernel
theorem dX2_has_1 : decode cX2_has 1 = .ok (.ifCond .lt 24, 3) := by decide +kernel
theorem dX2_has_4 : decode cX2_has 4 = .ok (.iload_n 1, 1) := by decide +kernel
theorem dX2_has_5 : decode cX2_has 5 = .ok (.aload_n 0, 1) := by decide +kernel
theorem dX2_has_6 : decode cX2_has 6 = .ok (.getfield 18, 3) := by decide +kernel
theorem dX2_has_9 : decode cX2_has 9 = .ok (.if_icmp .ge 16, 3) := by decide +kernel
theorem dX2_has_12 : decode cX2_has 12 = .ok (.iload_n 1, 1) := by decide +kernel
theorem dX2_has_13 : decode cX2_has 13 = .ok (.aload_n 0, 1) := by decide +kernel
theorem dX2_has_14 : decode cX2_has 14 = .ok (.getfield 9, 3) := by decide +kernel
theorem dX2_has_17 : decode cX2_has 17 = .ok (.arraylength, 1) := by decide +kernel
theorem dX2_has_18 : decode cX2_has 18 = .ok (.if_icmp .ge 7, 3) := by decide +kernel
theorem dX2_has_21 : decode cX2_has 21 = .ok (.iconst 1, 1) := by decide +kernel
theorem dX2_has_22 : decode cX2_has 22 = .ok (.goto 4, 3) := by decide +kernel
theorem dX2_has_25 : decode cX2_has 25 = .ok (.iconst 0, 1) := by decide +kernel
theorem dX2_has_26 : decode cX2_has 26 = .ok (.ireturn, 1) := by decide +kernel
set_option maxRecDepth 20000 in
theorem ggX2_markAt_X2_has : GoodIn wsX2_markAt wsX2_has := goodIn_r _ [6, 7, 1, 8, 9, 10, 11, 12] (by decide +kernel) (by decide +kernel)
set_option maxRecDepth 20000 in
theorem gX2_markAt_X2_has : GoodIn wsX2_markAt (wsV RX2 40 RX2 yX2_has wsX2_has) := goodIn_app (goodIn_of _ (by decide +kernel)) ggX2_markAt_X2_has
theorem dX2_markAt_0 : decode cX2_markAt 0 = .ok (.aload_n 0, 1) := by decide +kernel
theorem dX2_markAt_1 : decode cX2_markAt 1 = .ok (.iload_n 1, 1) := by decide +kernel
theorem dX2_markAt_2 : decode cX2_markAt 2 = .ok (.invokevirtual 40, 3) := by decide +kernel
theorem dX2_markAt_5 : decode cX2_markAt 5 = .ok (.ifCond .eq 12, 3) := by decide +kernel
theorem dX2_markAt_8 : decode cX2_markAt 8 = .ok (.aload_n 0, 1) := by decide +kernel
theorem dX2_markAt_9 : decode cX2_markAt 9 = .ok (.getfield 9, 3) := by decide +kernel
theorem dX2_markAt_12 : decode cX2_markAt 12 = .ok (.iload_n 1, 1) := by decide +kernel
theorem dX2_markAt_13 : decode cX2_markAt 13 = .ok (.iaload, 1) := by decide +kernel
theorem dX2_markAt_14 : decode cX2_markAt 14 = .ok (.goto 4, 3) := by decide +kernel
theorem dX2_markAt_17 : decode cX2_markAt 17 = .ok (.iconst 0, 1) := by decide +kernel
theorem dX2_markAt_18 : decode cX2_markAt 18 = .ok (.ireturn, 1) := by decide +kernel
theorem dX2_sizeWith_0 : decode cX2_sizeWith 0 = .ok (.iload_n 1, 1) := by decide +kernel
theorem dX2_sizeWith_1 : decode cX2_sizeWith 1 = .ok (.ifCond .lt 18, 3) := by decide +kernel
theorem dX2_sizeWith_4 : decode cX2_sizeWith 4 = .ok (.iload_n 1, 1) := by decide +kernel
theorem dX2_sizeWith_5 : decode cX2_sizeWith 5 = .ok (.bipush 80, 2) := by decide +kernel
theorem dX2_sizeWith_7 : decode cX2_sizeWith 7 = .ok (.if_icmp .gt 12, 3) := by decide +kernel
theorem dX2_sizeWith_10 : decode cX2_sizeWith 10 = .ok (.aload_n 0, 1) := by decide +kernel
theorem dX2_sizeWith_11 : decode cX2_sizeWith 11 = .ok (.getfield 15, 3) := by decide +kernel
theorem dX2_sizeWith_14 : decode cX2_sizeWith 14 = .ok (.iload_n 1, 1) := by decide +kernel
theorem dX2_sizeWith_15 : decode cX2_sizeWith 15 = .ok (.iaload, 1) := by decide +kernel
theorem dX2_sizeWith_16 : decode cX2_sizeWith 16 = .ok (.goto 4, 3) := by decide +kernel
theorem dX2_sizeWith_19 : decode cX2_sizeWith 19 = .ok (.iconst 0, 1) := by decide +kernel
theorem dX2_sizeWith_20 : decode cX2_sizeWith 20 = .ok (.ireturn, 1) := by decide +kernel
theorem dX2_score_0 : decode cX2_score 0 = .ok (.iload_n 1, 1) := by decide +kernel
theorem dX2_score_1 : decode cX2_score 1 = .ok (.ifCond .ne 8, 3) := by decide +kernel
theorem dX2_score_4 : decode cX2_score 4 = .ok (.aload_n 0, 1) := by decide +kernel
theorem dX2_score_5 : decode cX2_score 5 = .ok (.getfield 22, 3) := by decide +kernel
theorem dX2_score_8 : decode cX2_score 8 = .ok (.ireturn, 1) := by decide +kernel
theorem dX2_score_9 : decode cX2_score 9 = .ok (.iload_n 1, 1) := by decide +kernel
theorem dX2_score_10 : decode cX2_score 10 = .ok (.iconst 1, 1) := by decide +kernel
theorem dX2_score_11 : decode cX2_score 11 = .ok (.if_icmp .ne 10, 3) := by decide +kernel
theorem dX2_score_14 : decode cX2_score 14 = .ok (.aload_n 0, 1) := by decide +kernel
theorem dX2_score_15 : decode cX2_score 15 = .ok (.getfield 25, 3) := by decide +kernel
theorem dX2_score_18 : decode cX2_score 18 = .ok (.goto 8, 3) := by decide +kernel
theorem dX2_score_21 : decode cX2_score 21 = .ok (.aload_n 0, 1) := by decide +kernel
theorem dX2_score_22 : decode cX2_score 22 = .ok (.getfield 18, 3) := by decide +kernel
theorem dX2_score_25 : decode cX2_score 25 = .ok (.ineg, 1) := by decide +kernel
theorem dX2_score_26 : decode cX2_score 26 = .ok (.ireturn, 1) := by decide +kernel
