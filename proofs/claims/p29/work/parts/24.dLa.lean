theorem dL_cell_0 : decode cL_cell 0 = .ok (.iload_n 1, 1) := by decide +kernel
theorem dL_cell_1 : decode cL_cell 1 = .ok (.aload_n 0, 1) := by decide +kernel
theorem dL_cell_2 : decode cL_cell 2 = .ok (.arraylength, 1) := by decide +kernel
theorem dL_cell_3 : decode cL_cell 3 = .ok (.if_icmp .ge 9, 3) := by decide +kernel
theorem dL_cell_6 : decode cL_cell 6 = .ok (.aload_n 0, 1) := by decide +kernel
theorem dL_cell_7 : decode cL_cell 7 = .ok (.iload_n 1, 1) := by decide +kernel
theorem dL_cell_8 : decode cL_cell 8 = .ok (.iaload, 1) := by decide +kernel
theorem dL_cell_9 : decode cL_cell 9 = .ok (.goto 9, 3) := by decide +kernel
theorem dL_cell_12 : decode cL_cell 12 = .ok (.ldc 7, 2) := by decide +kernel
theorem dL_cell_14 : decode cL_cell 14 = .ok (.iload_n 1, 1) := by decide +kernel
theorem dL_cell_15 : decode cL_cell 15 = .ok (.iconst 2, 1) := by decide +kernel
theorem dL_cell_16 : decode cL_cell 16 = .ok (.iadd, 1) := by decide +kernel
theorem dL_cell_17 : decode cL_cell 17 = .ok (.imul, 1) := by decide +kernel
theorem dL_cell_18 : decode cL_cell 18 = .ok (.ireturn, 1) := by decide +kernel
theorem dL_low_0 : decode cL_low 0 = .ok (.iload_n 0, 1) := by decide +kernel
theorem dL_low_1 : decode cL_low 1 = .ok (.iconst 1, 1) := by decide +kernel
theorem dL_low_2 : decode cL_low 2 = .ok (.iushr, 1) := by decide +kernel
theorem dL_low_3 : decode cL_low 3 = .ok (.iload_n 1, 1) := by decide +kernel
theorem dL_low_4 : decode cL_low 4 = .ok (.irem, 1) := by decide +kernel
theorem dL_low_5 : decode cL_low 5 = .ok (.ireturn, 1) := by decide +kernel
set_option maxRecDepth 20000 in
theorem ggL_begin_X3_begin : GoodIn wsL_begin wsX3_begin := goodIn_ca (goodIn_r _ [6, 7, 8, 9, 10, 11, 12, 13, 14, 15, 16, 17, 18, 19, 20, 21, 22, 23, 24, 25, 26, 27, 28, 29, 30, 31, 32, 33, 34, 35, 5, 36, 37, 38, 39, 40, 41, 42, 43, 44, 45, 46, 47, 48, 49, 50, 51, 52, 53, 54, 55, 56, 57, 58, 59, 60, 61, 62, 63, 64, 65, 66, 67, 68, 69, 70, 71, 72, 73, 74, 75, 76, 77, 78, 79, 80, 81, 82, 83, 84, 85, 86, 87, 88, 89, 90, 91, 92, 93, 94, 95, 96, 97, 98, 99] (by decide +kernel) (by decide +kernel)) (goodIn_sub (fun _ h => List.mem_cons_of_mem _ (List.mem_append_right _ h)) (by decide +kernel))
set_option maxRecDepth 20000 in
theorem gL_begin_X3_begin : GoodIn wsL_begin (wsV RL 8 RX3 yX3_begin wsX3_begin) := goodIn_app (goodIn_of _ (by decide +kernel)) ggL_begin_X3_begin
theorem dL_begin_0 : decode cL_begin 0 = .ok (.aload_n 0, 1) := by decide +kernel
theorem dL_begin_1 : decode cL_begin 1 = .ok (.iload_n 1, 1) := by decide +kernel
theorem dL_begin_2 : decode cL_begin 2 = .ok (.iload_n 2, 1) := by decide +kernel
theorem dL_begin_3 : decode cL_begin 3 = .ok (.invokevirtual 8, 3) := by decide +kernel
theorem dL_begin_6 : decode cL_begin 6 = .ok (.istore_n 3, 1) := by decide +kernel
theorem dL_begin_7 : decode cL_begin 7 = .ok (.goto 8, 3) := by decide +kernel
theorem dL_begin_10 : decode cL_begin 10 = .ok (.astore 4, 2) := by decide +kernel
theorem dL_begin_12 : decode cL_begin 12 = .ok (.bipush (-72), 2) := by decide +kernel
theorem dL_begin_14 : decode cL_begin 14 = .ok (.ireturn, 1) := by decide +kernel
theorem dL_begin_15 : decode cL_begin 15 = .ok (.iload_n 3, 1) := by decide +kernel
theorem dL_begin_16 : decode cL_begin 16 = .ok (.ireturn, 1) := by decide +kernel
set_option maxRecDepth 20000 in
theorem ggL_colourAt_X3_colourAt : GoodIn wsL_colourAt wsX3_colourAt := goodIn_ca (goodIn_r _ [6, 7, 8, 9, 10, 11, 12, 13, 14, 15, 16, 17, 18, 19, 20, 21, 22, 23, 24, 25, 26, 27, 28, 29, 30, 31, 32, 33, 34, 35, 36] (by decide +kernel) (by decide +kernel)) (goodIn_sub (fun _ h => List.mem_cons_of_mem _ (List.mem_append_right _ h)) (by decide +kernel))
set_option maxRecDepth 20000 in
theorem gL_colourAt_X3_colourAt : GoodIn wsL_colourAt (wsV RL 16 RX3 yX3_colourAt wsX3_colourAt) := goodIn_app (goodIn_of _ (by decide +kernel)) ggL_colourAt_X3_colourAt
theorem dL_colourAt_0 : decode cL_colourAt 0 = .ok (.aload_n 0, 1) := by decide +kernel
theorem dL_colourAt_1 : decode cL_colourAt 1 = .ok (.iload_n 1, 1) := by decide +kernel
theorem dL_colourAt_2 : decode cL_colourAt 2 = .ok (.iload_n 2, 1) := by decide +kernel
theorem dL_colourAt_3 : decode cL_colourAt 3 = .ok (.invokevirtual 16, 3) := by decide +kernel
theorem dL_colourAt_6 : decode cL_colourAt 6 = .ok (.istore_n 3, 1) := by decide +kernel
theorem dL_colourAt_7 : decode cL_colourAt 7 = .ok (.goto 8, 3) := by decide +kernel
theorem dL_colourAt_10 : decode cL_colourAt 10 = .ok (.astore 4, 2) := by decide +kernel
theorem dL_colourAt_12 : decode cL_colourAt 12 = .ok (.bipush (-71), 2) := by decide +kernel
theorem dL_colourAt_14 : decode cL_colourAt 14 = .ok (.ireturn, 1) := by decide +kernel
theorem dL_colourAt_15 : decode cL_colourAt 15 = .ok (.iload_n 3, 1) := by decide +kernel
theorem dL_colourAt_16 : decode cL_colourAt 16 = .ok (.ireturn, 1) := by decide +kernel
set_option maxRecDepth 20000 in
theorem ggL_mark_X3_mark : GoodIn wsL_mark wsX3_mark := goodIn_ca (goodIn_r _ [6, 7, 8, 9, 10, 11, 12, 13, 14, 15, 16, 17, 18, 19, 20, 21, 22, 23, 24, 25, 26, 27, 28, 29, 30, 31, 32, 33, 34, 35, 36, 37, 38, 39, 40, 41, 42, 43, 44, 45, 46, 47, 48, 49, 50, 51] (by decide +kernel) (by decide +kernel)) (goodIn_sub (fun _ h => List.mem_cons_of_mem _ (List.mem_append_right _ h)) (by decide +kernel))
set_option maxRecDepth 20000 in
theorem gL_mark_X3_mark : GoodIn wsL_mark (wsV RL 21 RX3 yX3_mark wsX3_mark) := goodIn_app (goodIn_of _ (by decide +kernel)) ggL_mark_X3_mark
theorem dL_mark_0 : decode cL_mark 0 = .ok (.aload_n 0, 1) := by decide +kernel
theorem dL_mark_1 : decode cL_mark 1 = .ok (.iload_n 1, 1) := by decide +kernel
theorem dL_mark_2 : decode cL_mark 2 = .ok (.iload_n 2, 1) := by decide +kernel
theorem dL_mark_3 : decode cL_mark 3 = .ok (.invokevirtual 21, 3) := by decide +kernel
theorem dL_mark_6 : decode cL_mark 6 = .ok (.istore_n 3, 1) := by decide +kernel
theorem dL_mark_7 : decode cL_mark 7 = .ok (.goto 8, 3) := by decide +kernel
theorem dL_mark_10 : decode cL_mark 10 = .ok (.astore 4, 2) := by decide +kernel
theorem dL_mark_12 : decode cL_mark 12 = .ok (.bipush (-71), 2) := by decide +kernel
theorem dL_mark_14 : decode cL_mark 14 = .ok (.ireturn, 1) := by decide +kernel
theorem dL_mark_15 : decode cL_mark 15 = .ok (.iload_n 3, 1) := by decide +kernel
theorem dL_mark_16 : decode cL_mark 16 = .ok (.ireturn, 1) := by decide +kernel
set_option maxRecDepth 20000 in
theorem ggL_allowLies_X3_allowLies : GoodIn wsL_allowLies wsX3_allowLies := goodIn_ca (goodIn_ca (goodIn_r _ [7, 8, 9, 10, 11, 12, 13, 14, 15, 16, 17, 18, 19, 20, 21, 22, 23, 24, 25, 26, 27, 28, 29, 30, 31, 32, 33, 34, 35, 36, 37, 38, 39, 40, 41, 42, 43, 44, 45, 46, 6, 47, 48, 49, 50, 51, 52, 53, 54, 55, 56, 57, 58, 59, 60, 61, 62, 63, 64, 65, 66, 67, 68, 69, 70, 71, 72, 73] (by decide +kernel) (by decide +kernel)) (goodIn_sub (fun _ h => List.mem_cons_of_mem _ (List.mem_append_left _ (List.mem_append_right _ h))) (by decide +kernel))) (goodIn_sub (fun _ h => List.mem_cons_of_mem _ (List.mem_append_right _ h)) (by decide +kernel))
set_option maxRecDepth 20000 in
theorem gL_allowLies_X3_allowLies : GoodIn wsL_allowLies (wsV RL 24 RX3 yX3_allowLies wsX3_allowLies) := goodIn_app (goodIn_of _ (by decide +kernel)) ggL_allowLies_X3_allowLies
theorem dL_allowLies_0 : decode cL_allowLies 0 = .ok (.aload_n 0, 1) := by decide +kernel
theorem dL_allowLies_1 : decode cL_allowLies 1 = .ok (.iload_n 1, 1) := by decide +kernel
theorem dL_allowLies_2 : decode cL_allowLies 2 = .ok (.invokevirtual 24, 3) := by decide +kernel
theorem dL_allowLies_5 : decode cL_allowLies 5 = .ok (.istore_n 2, 1) := by decide +kernel
theorem dL_allowLies_6 : decode cL_allowLies 6 = .ok (.goto 11, 3) := by decide +kernel
theorem dL_allowLies_9 : decode cL_allowLies 9 = .ok (.astore_n 3, 1) := by decide +kernel
theorem dL_allowLies_10 : decode cL_allowLies 10 = .ok (.bipush (-72), 2) := by decide +kernel
theorem dL_allowLies_12 : decode cL_allowLies 12 = .ok (.ireturn, 1) := by decide +kernel
theorem dL_allowLies_13 : decode cL_allowLies 13 = .ok (.astore_n 3, 1) := by decide +kernel
theorem dL_allowLies_14 : decode cL_allowLies 14 = .ok (.bipush (-73), 2) := by decide +kernel
theorem dL_allowLies_16 : decode cL_allowLies 16 = .ok (.ireturn, 1) := by decide +kernel
theorem dL_allowLies_17 : decode cL_allowLies 17 = .ok (.iload_n 2, 1) := by decide +kernel
theorem dL_allowLies_18 : decode cL_allowLies 18 = .ok (.ireturn, 1) := by decide +kernel
set_option maxRecDepth 20000 in
theorem ggL_hide_X3_hide : GoodIn wsL_hide wsX3_hide := goodIn_ca (goodIn_ca (goodIn_r _ [7, 8, 9, 10, 11, 12, 13, 6, 14, 15, 16, 17, 18, 19, 20, 21, 22, 23, 24, 25, 26, 27, 28, 29, 30, 31, 32, 33, 34, 35, 36, 37, 38, 39, 40, 41, 42, 43, 44, 45, 46, 47, 48, 49, 50, 51, 52, 53, 54, 55, 56, 57, 58, 59, 60, 61, 62, 63, 64, 65, 66, 67, 68, 69, 70, 71] (by decide +kernel) (by decide +kernel)) (goodIn_sub (fun _ h => List.mem_cons_of_mem _ (List.mem_append_left _ (List.mem_append_right _ h))) (by decide +kernel))) (goodIn_sub (fun _ h => List.mem_cons_of_mem _ (List.mem_append_right _ h)) (by decide +kernel))
set_option maxRecDepth 20000 in
theorem gL_hide_X3_hide : GoodIn wsL_hide (wsV RL 30 RX3 yX3_hide wsX3_hide) := goodIn_app (goodIn_of _ (by decide +kernel)) ggL_hide_X3_hide
theorem dL_hide_0 : decode cL_hide 0 = .ok (.aload_n 0, 1) := by decide +kernel
theorem dL_hide_1 : decode cL_hide 1 = .ok (.iload_n 1, 1) := by decide +kernel
theorem dL_hide_2 : decode cL_hide 2 = .ok (.invokevirtual 30, 3) := by decide +kernel
theorem dL_hide_5 : decode cL_hide 5 = .ok (.istore_n 2, 1) := by decide +kernel
theorem dL_hide_6 : decode cL_hide 6 = .ok (.goto 11, 3) := by decide +kernel
theorem dL_hide_9 : decode cL_hide 9 = .ok (.astore_n 3, 1) := by decide +kernel
theorem dL_hide_10 : decode cL_hide 10 = .ok (.bipush (-71), 2) := by decide +kernel
theorem dL_hide_12 : decode cL_hide 12 = .ok (.ireturn, 1) := by decide +kernel
theorem dL_hide_13 : decode cL_hide 13 = .ok (.astore_n 3, 1) := by decide +kernel
theorem dL_hide_14 : decode cL_hide 14 = .ok (.bipush (-73), 2) := by decide +kernel
theorem dL_hide_16 : decode cL_hide 16 = .ok (.ireturn, 1) := by decide +kernel
theorem dL_hide_17 : decode cL_hide 17 = .ok (.iload_n 2, 1) := by decide +kernel
theorem dL_hide_18 : decode cL_hide 18 = .ok (.ifCond .eq 7, 3) := by decide +kernel
theorem dL_hide_21 : decode cL_hide 21 = .ok (.iconst 1, 1) := by decide +kernel
theorem dL_hide_22 : decode cL_hide 22 = .ok (.goto 4, 3) := by decide +kernel
theorem dL_hide_25 : decode cL_hide 25 = .ok (.iconst 0, 1) := by decide +kernel
theorem dL_hide_26 : decode cL_hide 26 = .ok (.ireturn, 1) := by decide +kernel
set_option maxRecDepth 20000 in
theorem ggL_guess_X3_guess : GoodIn wsL_guess wsX3_guess := goodIn_ca (goodIn_ca (goodIn_r _ [7, 8, 9, 10, 11, 12, 13, 14, 15, 6, 16, 17, 18, 19, 20, 21, 22, 23, 24, 25, 26, 27, 28, 29, 30, 31, 32, 33, 34, 35, 36, 37, 38, 39, 40, 41, 42, 43, 44, 45, 46, 47, 48, 49, 50, 51, 52, 53, 54, 55, 56, 57, 58, 59, 60, 61, 62, 63, 64, 65, 66, 67, 68, 69, 70, 71, 72, 73, 74, 75, 76, 77, 78, 79, 80, 81, 82, 83, 84, 85, 86, 87, 88, 89, 90, 91, 92, 93, 94, 95, 96, 97, 98, 99, 100, 101, 102, 103, 104, 105, 106, 107, 108, 109, 110, 111, 112] (by decide +kernel) (by decide +kernel)) (goodIn_sub (fun _ h => List.mem_cons_of_mem _ (List.mem_append_left _ (List.mem_append_right _ h))) (by decide +kernel))) (goodIn_sub (fun _ h => List.mem_cons_of_mem _ (List.mem_append_right _ h)) (by decide +kernel))
set_option maxRecDepth 20000 in
theorem gL_guess_X3_guess : GoodIn wsL_guess (wsV RL 34 RX3 yX3_guess wsX3_guess) := goodIn_app (goodIn_of _ (by decide +kernel)) ggL_guess_X3_guess
theorem dL_guess_0 : decode cL_guess 0 = .ok (.aload_n 0, 1) := by decide +kernel
theorem dL_guess_1 : decode cL_guess 1 = .ok (.iload_n 1, 1) := by decide +kernel
theorem dL_guess_2 : decode cL_guess 2 = .ok (.invokevirtual 34, 3) := by decide +kernel
theorem dL_guess_5 : decode cL_guess 5 = .ok (.istore_n 2, 1) := by decide +kernel
theorem dL_guess_6 : decode cL_guess 6 = .ok (.goto 11, 3) := by decide +kernel
theorem dL_guess_9 : decode cL_guess 9 = .ok (.astore_n 3, 1) := by decide +kernel
theorem dL_guess_10 : decode cL_guess 10 = .ok (.bipush (-71), 2) := by decide +kernel
theorem dL_guess_12 : decode cL_guess 12 = .ok (.ireturn, 1) := by decide +kernel
theorem dL_guess_13 : decode cL_guess 13 = .ok (.astore_n 3, 1) := by decide +kernel
theorem dL_guess_14 : decode cL_guess 14 = .ok (.bipush (-73), 2) := by decide +kernel
theorem dL_guess_16 : decode cL_guess 16 = .ok (.ireturn, 1) := by decide +kernel
theorem dL_guess_17 : decode cL_guess 17 = .ok (.iload_n 2, 1) := by decide +kernel
theorem dL_guess_18 : decode cL_guess 18 = .ok (.ireturn, 1) := by decide +kernel
set_option maxRecDepth 20000 in
theorem ggL_tell_X3_tell : GoodIn wsL_tell wsX3_tell := goodIn_ca (goodIn_ca (goodIn_ca (goodIn_r _ [8, 9, 10, 11, 12, 13, 14, 15, 7, 16, 17, 18, 19, 20, 21, 22, 23, 24, 25, 26, 27, 28, 29, 30, 31, 32, 33, 34, 35, 36, 37, 38, 39, 40, 41, 42, 43, 44, 45, 46, 47, 48, 49, 50, 51, 52, 53, 54, 55, 56, 57, 58, 59, 60, 61, 62, 63, 64, 65, 66, 67, 68, 69, 70, 71, 72, 73, 74, 75, 76, 77, 78, 79, 80, 81, 82, 83, 84, 85, 86, 87, 88, 89, 90, 91, 92, 93, 94, 95, 96, 97, 98, 99, 100, 101, 102, 103, 104, 105, 106, 107, 108, 109, 110, 111, 112, 113, 114, 115, 116, 117, 118, 119, 120, 121, 122, 123, 124, 125, 126, 127] (by decide +kernel) (by decide +kernel)) (goodIn_sub (fun _ h => List.mem_cons_of_mem _ (List.mem_append_left _ (List.mem_append_left _ (List.mem_append_right _ h)))) (by decide +kernel))) (goodIn_sub (fun _ h => List.mem_cons_of_mem _ (List.mem_append_left _ (List.mem_append_right _ h))) (by decide +kernel))) (goodIn_sub (fun _ h => List.mem_cons_of_mem _ (List.mem_append_right _ h)) (by decide +kernel))
set_option maxRecDepth 20000 in
theorem gL_tell_X3_tell : GoodIn wsL_tell (wsV RL 37 RX3 yX3_tell wsX3_tell) := goodIn_app (goodIn_of _ (by decide +kernel)) ggL_tell_X3_tell
theorem dL_tell_0 : decode cL_tell 0 = .ok (.aload_n 0, 1) := by decide +kernel
theorem dL_tell_1 : decode cL_tell 1 = .ok (.iload_n 1, 1) := by decide +kernel
theorem dL_tell_2 : decode cL_tell 2 = .ok (.iload_n 2, 1) := by decide +kernel
theorem dL_tell_3 : decode cL_tell 3 = .ok (.invokevirtual 37, 3) := by decide +kernel
theorem dL_tell_6 : decode cL_tell 6 = .ok (.istore_n 3, 1) := by decide +kernel
theorem dL_tell_7 : decode cL_tell 7 = .ok (.goto 18, 3) := by decide +kernel
theorem dL_tell_10 : decode cL_tell 10 = .ok (.astore 4, 2) := by decide +kernel
theorem dL_tell_12 : decode cL_tell 12 = .ok (.bipush (-71), 2) := by decide +kernel
theorem dL_tell_14 : decode cL_tell 14 = .ok (.ireturn, 1) := by decide +kernel
theorem dL_tell_15 : decode cL_tell 15 = .ok (.astore 4, 2) := by decide +kernel
theorem dL_tell_17 : decode cL_tell 17 = .ok (.bipush (-72), 2) := by decide +kernel
theorem dL_tell_19 : decode cL_tell 19 = .ok (.ireturn, 1) := by decide +kernel
theorem dL_tell_20 : decode cL_tell 20 = .ok (.astore 4, 2) := by decide +kernel
theorem dL_tell_22 : decode cL_tell 22 = .ok (.bipush (-73), 2) := by decide +kernel
theorem dL_tell_24 : decode cL_tell 24 = .ok (.ireturn, 1) := by decide +kernel
theorem dL_tell_25 : decode cL_tell 25 = .ok (.iload_n 3, 1) := by decide +kernel
theorem dL_tell_26 : decode cL_tell 26 = .ok (.ireturn, 1) := by decide +kernel
set_option maxRecDepth 20000 in
theorem ggL_takeBack_X3_takeBack : GoodIn wsL_takeBack wsX3_takeBack := goodIn_ca (goodIn_r _ [6, 7, 8, 9, 10, 11, 12, 13, 14, 15, 16, 17, 18, 19, 20, 21, 22, 23, 5, 24, 25, 26, 27, 28, 29, 30, 31, 32, 33, 34, 35, 36, 37, 38, 39, 40, 41, 42, 43, 44, 45, 46, 47, 48, 49, 50, 51, 52, 53, 54, 55, 56, 57, 58, 59, 60, 61, 62, 63, 64, 65, 66, 67, 68, 69, 70, 71, 72, 73, 74, 75] (by decide +kernel) (by decide +kernel)) (goodIn_sub (fun _ h => List.mem_cons_of_mem _ (List.mem_append_right _ h)) (by decide +kernel))
set_option maxRecDepth 20000 in
theorem gL_takeBack_X3_takeBack : GoodIn wsL_takeBack (wsV RL 40 RX3 yX3_takeBack wsX3_takeBack) := goodIn_app (goodIn_of _ (by decide +kernel)) ggL_takeBack_X3_takeBack
theorem dL_takeBack_0 : decode cL_takeBack 0 = .ok (.aload_n 0, 1) := by decide +kernel
theorem dL_takeBack_1 : decode cL_takeBack 1 = .ok (.invokevirtual 40, 3) := by decide +kernel
theorem dL_takeBack_4 : decode cL_takeBack 4 = .ok (.istore_n 1, 1) := by decide +kernel
theorem dL_takeBack_5 : decode cL_takeBack 5 = .ok (.goto 7, 3) := by decide +kernel
theorem dL_takeBack_8 : decode cL_takeBack 8 = .ok (.astore_n 2, 1) := by decide +kernel
theorem dL_takeBack_9 : decode cL_takeBack 9 = .ok (.bipush (-73), 2) := by decide +kernel
theorem dL_takeBack_11 : decode cL_takeBack 11 = .ok (.ireturn, 1) := by decide +kernel
theorem dL_takeBack_12 : decode cL_takeBack 12 = .ok (.iload_n 1, 1) := by decide +kernel
theorem dL_takeBack_13 : decode cL_takeBack 13 = .ok (.ireturn, 1) := by decide +kernel
set_option maxRecDepth 20000 in
theorem ggL_leftAt_X3_leftAt : GoodIn wsL_leftAt wsX3_leftAt := goodIn_ca (goodIn_r _ [6, 7, 8, 9, 10, 11, 12, 13, 14, 15, 16, 17, 18] (by decide +kernel) (by decide +kernel)) (goodIn_sub (fun _ h => List.mem_cons_of_mem _ (List.mem_append_right _ h)) (by decide +kernel))
set_option maxRecDepth 20000 in
theorem gL_leftAt_X3_leftAt : GoodIn wsL_leftAt (wsV RL 44 RX3 yX3_leftAt wsX3_leftAt) := goodIn_app (goodIn_of _ (by decide +kernel)) ggL_leftAt_X3_leftAt
theorem dL_leftAt_0 : decode cL_leftAt 0 = .ok (.aload_n 0, 1) := by decide +kernel
theorem dL_leftAt_1 : decode cL_leftAt 1 = .ok (.iload_n 1, 1) := by decide +kernel
theorem dL_leftAt_2 : decode cL_leftAt 2 = .ok (.invokevirtual 44, 3) := by decide +kernel
theorem dL_leftAt_5 : decode cL_leftAt 5 = .ok (.istore_n 2, 1) := by decide +kernel
theorem dL_leftAt_6 : decode cL_leftAt 6 = .ok (.goto 7, 3) := by decide +kernel
theorem dL_leftAt_9 : decode cL_leftAt 9 = .ok (.astore_n 3, 1) := by decide +kernel
theorem dL_leftAt_10 : decode cL_leftAt 10 = .ok (.bipush (-71), 2) := by decide +kernel
theorem dL_leftAt_12 : decode cL_leftAt 12 = .ok (.ireturn, 1) := by decide +kernel
theorem dL_leftAt_13 : decode cL_leftAt 13 = .ok (.iload_n 2, 1) := by decide +kernel
theorem dL_leftAt_14 : decode cL_leftAt 14 = .ok (.ireturn, 1) := by decide +kernel
set_option maxRecDepth 20000 in
theorem ggL_markOf_X3_markOf : GoodIn wsL_markOf wsX3_markOf := goodIn_ca (goodIn_r _ [6, 7, 8, 9, 10, 5, 11, 12, 13, 14, 15, 16, 17, 18, 19, 20, 21, 22, 23, 24, 25, 26, 27, 28, 29, 30, 31, 32, 33, 34, 35, 36, 37, 38] (by decide +kernel) (by decide +kernel)) (goodIn_sub (fun _ h => List.mem_cons_of_mem _ (List.mem_append_right _ h)) (by decide +kernel))
set_option maxRecDepth 20000 in
theorem gL_markOf_X3_markOf : GoodIn wsL_markOf (wsV RL 47 RX3 yX3_markOf wsX3_markOf) := goodIn_app (goodIn_of _ (by decide +kernel)) ggL_markOf_X3_markOf
theorem dL_markOf_0 : decode cL_markOf 0 = .ok (.aload_n 0, 1) := by decide +kernel
theorem dL_markOf_1 : decode cL_markOf 1 = .ok (.iload_n 1, 1) := by decide +kernel
theorem dL_markOf_2 : decode cL_markOf 2 = .ok (.invokevirtual 47, 3) := by decide +kernel
theorem dL_markOf_5 : decode cL_markOf 5 = .ok (.istore_n 2, 1) := by decide +kernel
theorem dL_markOf_6 : decode cL_markOf 6 = .ok (.goto 7, 3) := by decide +kernel
theorem dL_markOf_9 : decode cL_markOf 9 = .ok (.astore_n 3, 1) := by decide +kernel
theorem dL_markOf_10 : decode cL_markOf 10 = .ok (.bipush (-71), 2) := by decide +kernel
theorem dL_markOf_12 : decode cL_markOf 12 = .ok (.ireturn, 1) := by decide +kernel
theorem dL_markOf_13 : decode cL_markOf 13 = .ok (.iload_n 2, 1) := by decide +kernel
theorem dL_markOf_14 : decode cL_markOf 14 = .ok (.ireturn, 1) := by decide +kernel
set_option maxRecDepth 20000 in
theorem ggL_partMark_X3_partMark : GoodIn wsL_partMark wsX3_partMark := goodIn_ca (goodIn_r _ [6, 7, 8, 9, 10, 11, 12, 5, 13, 14, 15, 16, 17, 18, 19, 20, 21, 22, 23, 24, 25, 26, 27, 28, 29, 30, 31, 32, 33, 34, 35, 36, 37, 38, 39, 40, 41, 42, 43, 44, 45, 46, 47, 48, 49, 50, 51, 52, 53, 54, 55, 56, 57, 58, 59, 60, 61, 62, 63, 64, 65, 66, 67, 68, 69, 70, 71, 72, 73, 74, 75, 76, 77, 78, 79, 80, 81, 82, 83, 84, 85, 86, 87, 88, 89, 90, 91, 92, 93, 94, 95, 96, 97, 98, 99, 100, 101, 102] (by decide +kernel) (by decide +kernel)) (goodIn_sub (fun _ h => List.mem_cons_of_mem _ (List.mem_append_right _ h)) (by decide +kernel))
set_option maxRecDepth 20000 in
theorem gL_partMark_X3_partMark : GoodIn wsL_partMark (wsV RL 50 RX3 yX3_partMark wsX3_partMark) := goodIn_app (goodIn_of _ (by decide +kernel)) ggL_partMark_X3_partMark
theorem dL_partMark_0 : decode cL_partMark 0 = .ok (.aload_n 0, 1) := by decide +kernel
theorem dL_partMark_1 : decode cL_partMark 1 = .ok (.iload_n 1, 1) := by decide +kernel
theorem dL_partMark_2 : decode cL_partMark 2 = .ok (.iload_n 2, 1) := by decide +kernel
theorem dL_partMark_3 : decode cL_partMark 3 = .ok (.invokevirtual 50, 3) := by decide +kernel
theorem dL_partMark_6 : decode cL_partMark 6 = .ok (.istore_n 3, 1) := by decide +kernel
theorem dL_partMark_7 : decode cL_partMark 7 = .ok (.goto 8, 3) := by decide +kernel
theorem dL_partMark_10 : decode cL_partMark 10 = .ok (.astore 4, 2) := by decide +kernel
theorem dL_partMark_12 : decode cL_partMark 12 = .ok (.bipush (-71), 2) := by decide +kernel
theorem dL_partMark_14 : decode cL_partMark 14 = .ok (.ireturn, 1) := by decide +kernel
theorem dL_partMark_15 : decode cL_partMark 15 = .ok (.iload_n 3, 1) := by decide +kernel
theorem dL_partMark_16 : decode cL_partMark 16 = .ok (.ireturn, 1) := by decide +kernel
set_option maxRecDepth 20000 in
theorem ggL_partSize_X3_partSize : GoodIn wsL_partSize wsX3_partSize := goodIn_ca (goodIn_ca (goodIn_r _ [7, 8, 9, 10, 11, 6, 12, 13, 14, 15, 16, 17, 18, 19, 20, 21, 22, 23, 24, 25, 26, 27, 28, 29, 30, 31, 32, 33, 34, 35, 36, 37, 38, 39, 40, 41, 42, 43, 44, 45, 46, 47, 48, 49, 50, 51, 52, 53, 54, 55, 56, 57, 58, 59, 60, 61, 62, 63, 64, 65, 66, 67, 68, 69, 70, 71, 72, 73, 74, 75, 76, 77, 78, 79, 80, 81, 82, 83, 84, 85, 86, 87, 88, 89, 90, 91, 92, 93, 94, 95, 96, 97, 98, 99, 100, 101, 102, 103, 104, 105, 106, 107, 108] (by decide +kernel) (by decide +kernel)) (goodIn_sub (fun _ h => List.mem_cons_of_mem _ (List.mem_append_left _ (List.mem_append_right _ h))) (by decide +kernel))) (goodIn_sub (fun _ h => List.mem_cons_of_mem _ (List.mem_append_right _ h)) (by decide +kernel))
set_option maxRecDepth 20000 in
theorem gL_partSize_X3_partSize : GoodIn wsL_partSize (wsV RL 53 RX3 yX3_partSize wsX3_partSize) := goodIn_app (goodIn_of _ (by decide +kernel)) ggL_partSize_X3_partSize
theorem dL_partSize_0 : decode cL_partSize 0 = .ok (.aload_n 0, 1) := by decide +kernel
theorem dL_partSize_1 : decode cL_partSize 1 = .ok (.iload_n 1, 1) := by decide +kernel
theorem dL_partSize_2 : decode cL_partSize 2 = .ok (.iload_n 2, 1) := by decide +kernel
theorem dL_partSize_3 : decode cL_partSize 3 = .ok (.invokevirtual 53, 3) := by decide +kernel
theorem dL_partSize_6 : decode cL_partSize 6 = .ok (.istore_n 3, 1) := by decide +kernel
theorem dL_partSize_7 : decode cL_partSize 7 = .ok (.goto 13, 3) := by decide +kernel
theorem dL_partSize_10 : decode cL_partSize 10 = .ok (.astore 4, 2) := by decide +kernel
theorem dL_partSize_12 : decode cL_partSize 12 = .ok (.bipush (-71), 2) := by decide +kernel
theorem dL_partSize_14 : decode cL_partSize 14 = .ok (.ireturn, 1) := by decide +kernel
theorem dL_partSize_15 : decode cL_partSize 15 = .ok (.astore 4, 2) := by decide +kernel
theorem dL_partSize_17 : decode cL_partSize 17 = .ok (.bipush (-72), 2) := by decide +kernel
theorem dL_partSize_19 : decode cL_partSize 19 = .ok (.ireturn, 1) := by decide +kernel
theorem dL_partSize_20 : decode cL_partSize 20 = .ok (.iload_n 3, 1) := by decide +kernel
theorem dL_partSize_21 : decode cL_partSize 21 = .ok (.ireturn, 1) := by decide +kernel
set_option maxRecDepth 20000 in
theorem ggL_bestGuess_X3_bestGuess : GoodIn wsL_bestGuess wsX3_bestGuess := goodIn_ca (goodIn_ca (goodIn_r _ [7, 8, 9, 10, 11, 12, 13, 14, 15, 16, 6, 17, 18, 19, 20, 21, 22, 23, 24, 25, 26, 27, 28, 29, 30, 31, 32, 33, 34, 35, 36, 37, 38, 39, 40, 41, 42, 43, 44, 45, 46, 47, 48, 49, 50, 51, 52, 53, 54, 55, 56, 57, 58, 59, 60, 61, 62, 63, 64, 65, 66, 67, 68, 69, 70, 71, 72, 73, 74, 75, 76, 77, 78, 79, 80, 81, 82, 83, 84, 85, 86, 87, 88, 89, 90, 91, 92, 93, 94, 95, 96, 97, 98, 99, 100, 101, 102, 103, 104] (by decide +kernel) (by decide +kernel)) (goodIn_sub (fun _ h => List.mem_cons_of_mem _ (List.mem_append_left _ (List.mem_append_right _ h))) (by decide +kernel))) (goodIn_sub (fun _ h => List.mem_cons_of_mem _ (List.mem_append_right _ h)) (by decide +kernel))
set_option maxRecDepth 20000 in
theorem gL_bestGuess_X3_bestGuess : GoodIn wsL_bestGuess (wsV RL 56 RX3 yX3_bestGuess wsX3_bestGuess) := goodIn_app (goodIn_of _ (by decide +kernel)) ggL_bestGuess_X3_bestGuess
theorem dL_bestGuess_0 : decode cL_bestGuess 0 = .ok (.aload_n 0, 1) := by decide +kernel
theorem dL_bestGuess_1 : decode cL_bestGuess 1 = .ok (.iload_n 1, 1) := by decide +kernel
theorem dL_bestGuess_2 : decode cL_bestGuess 2 = .ok (.invokevirtual 56, 3) := by decide +kernel
theorem dL_bestGuess_5 : decode cL_bestGuess 5 = .ok (.istore_n 2, 1) := by decide +kernel
theorem dL_bestGuess_6 : decode cL_bestGuess 6 = .ok (.goto 11, 3) := by decide +kernel
theorem dL_bestGuess_9 : decode cL_bestGuess 9 = .ok (.astore_n 3, 1) := by decide +kernel
theorem dL_bestGuess_10 : decode cL_bestGuess 10 = .ok (.bipush (-72), 2) := by decide +kernel
theorem dL_bestGuess_12 : decode cL_bestGuess 12 = .ok (.ireturn, 1) := by decide +kernel
theorem dL_bestGuess_13 : decode cL_bestGuess 13 = .ok (.astore_n 3, 1) := by decide +kernel
theorem dL_bestGuess_14 : decode cL_bestGuess 14 = .ok (.bipush (-73), 2) := by decide +kernel
theorem dL_bestGuess_16 : decode cL_bestGuess 16 = .ok (.ireturn, 1) := by decide +kernel
theorem dL_bestGuess_17 : decode cL_bestGuess 17 = .ok (.iload_n 2, 1) := by decide +kernel
theorem dL_bestGuess_18 : decode cL_bestGuess 18 = .ok (.ireturn, 1) := by decide +kernel
set_option maxRecDepth 20000 in
theorem ggL_guessesNeeded_X3_guessesNeeded : GoodIn wsL_guessesNeeded wsX3_guessesNeeded := goodIn_ca (goodIn_r _ [6, 7, 8, 9, 10, 11, 12, 13, 14, 15, 16, 17, 18, 5, 19, 20, 21, 22, 23, 24, 25, 26, 27, 28, 29, 30, 31, 32, 33, 34, 35, 36, 37, 38, 39, 40, 41, 42, 43, 44, 45, 46, 47, 48, 49, 50, 51, 52, 53, 54, 55, 56, 57, 58, 59, 60, 61, 62, 63, 64, 65, 66, 67, 68, 69, 70, 71, 72, 73, 74, 75, 76, 77, 78, 79, 80, 81, 82, 83, 84, 85, 86, 87, 88, 89, 90, 91, 92, 93, 94, 95, 96, 97, 98, 99, 100, 101, 102, 103, 104, 105, 106, 107, 108, 109, 110, 111, 112, 113, 114, 115, 116, 117, 118, 119] (by decide +kernel) (by decide +kernel)) (goodIn_sub (fun _ h => List.mem_cons_of_mem _ (List.mem_append_right _ h)) (by decide +kernel))
set_option maxRecDepth 20000 in
theorem gL_guessesNeeded_X3_guessesNeeded : GoodIn wsL_guessesNeeded (wsV RL 59 RX3 yX3_guessesNeeded wsX3_guessesNeeded) := goodIn_app (goodIn_of _ (by decide +kernel)) ggL_guessesNeeded_X3_guessesNeeded
theorem dL_guessesNeeded_0 : decode cL_guessesNeeded 0 = .ok (.aload_n 0, 1) := by decide +kernel
theorem dL_guessesNeeded_1 : decode cL_guessesNeeded 1 = .ok (.invokevirtual 59, 3) := by decide +kernel
theorem dL_guessesNeeded_4 : decode cL_guessesNeeded 4 = .ok (.istore_n 1, 1) := by decide +kernel
theorem dL_guessesNeeded_5 : decode cL_guessesNeeded 5 = .ok (.goto 7, 3) := by decide +kernel
theorem dL_guessesNeeded_8 : decode cL_guessesNeeded 8 = .ok (.astore_n 2, 1) := by decide +kernel
theorem dL_guessesNeeded_9 : decode cL_guessesNeeded 9 = .ok (.bipush (-73), 2) := by decide +kernel
theorem dL_guessesNeeded_11 : decode cL_guessesNeeded 11 = .ok (.ireturn, 1) := by decide +kernel
theorem dL_guessesNeeded_12 : decode cL_guessesNeeded 12 = .ok (.iload_n 1, 1) := by decide +kernel
theorem dL_guessesNeeded_13 : decode cL_guessesNeeded 13 = .ok (.ireturn, 1) := by decide +kernel
set_option maxRecDepth 20000 in
theorem ggL_isInProof_X3_isInProof : GoodIn wsL_isInProof wsX3_isInProof := goodIn_ca (goodIn_ca (goodIn_r _ [7, 8, 9, 10, 11, 12, 13, 14, 6, 15, 16, 17, 18, 19, 20, 21, 22, 23, 24, 25, 26, 27, 28, 29, 30, 31, 32, 33, 34, 35, 36, 37, 38, 39, 40, 41, 42, 43, 44, 45, 46, 47, 48, 49, 50, 51, 52, 53, 54, 55, 56, 57, 58, 59, 60, 61, 62, 63, 64, 65, 66, 67, 68, 69, 70, 71, 72, 73, 74, 75, 76, 77, 78, 79, 80, 81] (by decide +kernel) (by decide +kernel)) (goodIn_sub (fun _ h => List.mem_cons_of_mem _ (List.mem_append_left _ (List.mem_append_right _ h))) (by decide +kernel))) (goodIn_sub (fun _ h => List.mem_cons_of_mem _ (List.mem_append_right _ h)) (by decide +kernel))
set_option maxRecDepth 20000 in
theorem gL_isInProof_X3_isInProof : GoodIn wsL_isInProof (wsV RL 62 RX3 yX3_isInProof wsX3_isInProof) := goodIn_app (goodIn_of _ (by decide +kernel)) ggL_isInProof_X3_isInProof
theorem dL_isInProof_0 : decode cL_isInProof 0 = .ok (.aload_n 0, 1) := by decide +kernel
theorem dL_isInProof_1 : decode cL_isInProof 1 = .ok (.iload_n 1, 1) := by decide +kernel
theorem dL_isInProof_2 : decode cL_isInProof 2 = .ok (.invokevirtual 62, 3) := by decide +kernel
theorem dL_isInProof_5 : decode cL_isInProof 5 = .ok (.istore_n 2, 1) := by decide +kernel
theorem dL_isInProof_6 : decode cL_isInProof 6 = .ok (.goto 11, 3) := by decide +kernel
theorem dL_isInProof_9 : decode cL_isInProof 9 = .ok (.astore_n 3, 1) := by decide +kernel
theorem dL_isInProof_10 : decode cL_isInProof 10 = .ok (.bipush (-71), 2) := by decide +kernel
theorem dL_isInProof_12 : decode cL_isInProof 12 = .ok (.ireturn, 1) := by decide +kernel
theorem dL_isInProof_13 : decode cL_isInProof 13 = .ok (.astore_n 3, 1) := by decide +kernel
theorem dL_isInProof_14 : decode cL_isInProof 14 = .ok (.bipush (-73), 2) := by decide +kernel
theorem dL_isInProof_16 : decode cL_isInProof 16 = .ok (.ireturn, 1) := by decide +kernel
theorem dL_isInProof_17 : decode cL_isInProof 17 = .ok (.iload_n 2, 1) := by decide +kernel
theorem dL_isInProof_18 : decode cL_isInProof 18 = .ok (.ifCond .eq 7, 3) := by decide +kernel
theorem dL_isInProof_21 : decode cL_isInProof 21 = .ok (.iconst 1, 1) := by decide +kernel
theorem dL_isInProof_22 : decode cL_isInProof 22 = .ok (.goto 4, 3) := by decide +kernel
theorem dL_isInProof_25 : decode cL_isInProof 25 = .ok (.iconst 0, 1) := by decide +kernel
theorem dL_isInProof_26 : decode cL_isInProof 26 = .ok (.ireturn, 1) := by decide +kernel
theorem dL_digit_0 : decode cL_digit 0 = .ok (.iload_n 1, 1) := by decide +kernel
theorem dL_digit_1 : decode cL_digit 1 = .ok (.istore_n 3, 1) := by decide +kernel
theorem dL_digit_2 : decode cL_digit 2 = .ok (.aload_n 0, 1) := by decide +kernel
theorem dL_digit_3 : decode cL_digit 3 = .ok (.iconst 0, 1) := by decide +kernel
theorem dL_digit_4 : decode cL_digit 4 = .ok (.iaload, 1) := by decide +kernel
theorem dL_digit_5 : decode cL_digit 5 = .ok (.iconst 1, 1) := by decide +kernel
theorem dL_digit_6 : decode cL_digit 6 = .ok (.isub, 1) := by decide +kernel
theorem dL_digit_7 : decode cL_digit 7 = .ok (.istore 4, 2) := by decide +kernel
theorem dL_digit_9 : decode cL_digit 9 = .ok (.iload 4, 2) := by decide +kernel
theorem dL_digit_11 : decode cL_digit 11 = .ok (.iload_n 2, 1) := by decide +kernel
theorem dL_digit_12 : decode cL_digit 12 = .ok (.if_icmp .le 15, 3) := by decide +kernel
theorem dL_digit_15 : decode cL_digit 15 = .ok (.iload_n 3, 1) := by decide +kernel
theorem dL_digit_16 : decode cL_digit 16 = .ok (.aload_n 0, 1) := by decide +kernel
theorem dL_digit_17 : decode cL_digit 17 = .ok (.iconst 1, 1) := by decide +kernel
theorem dL_digit_18 : decode cL_digit 18 = .ok (.iaload, 1) := by decide +kernel
theorem dL_digit_19 : decode cL_digit 19 = .ok (.idiv, 1) := by decide +kernel
theorem dL_digit_20 : decode cL_digit 20 = .ok (.istore_n 3, 1) := by decide +kernel
theorem dL_digit_21 : decode cL_digit 21 = .ok (.iinc 4 (-1), 3) := by decide +kernel
theorem dL_digit_24 : decode cL_digit 24 = .ok (.goto (-15), 3) := by decide +kernel
theorem dL_digit_27 : decode cL_digit 27 = .ok (.iload_n 3, 1) := by decide +kernel
theorem dL_digit_28 : decode cL_digit 28 = .ok (.aload_n 0, 1) := by decide +kernel
theorem dL_digit_29 : decode cL_digit 29 = .ok (.iconst 1, 1) := by decide +kernel
theorem dL_digit_30 : decode cL_digit 30 = .ok (.iaload, 1) := by decide +kernel
theorem dL_digit_31 : decode cL_digit 31 = .ok (.irem, 1) := by decide +kernel
theorem dL_digit_32 : decode cL_digit 32 = .ok (.ireturn, 1) := by decide +kernel
set_option maxRecDepth 20000 in
theorem ggL_lay_L_digit : GoodIn wsL_lay wsL_digit := goodIn_r _ [4] (by decide +kernel) (by decide +kernel)
set_option maxRecDepth 20000 in
theorem gL_lay_L_digit : GoodIn wsL_lay (va_wsS RL 65 yL_digit wsL_digit) := goodIn_app (goodIn_of _ (by decide +kernel)) ggL_lay_L_digit
theorem dL_lay_0 : decode cL_lay 0 = .ok (.iconst 0, 1) := by decide +kernel
theorem dL_lay_1 : decode cL_lay 1 = .ok (.istore_n 2, 1) := by decide +kernel
theorem dL_lay_2 : decode cL_lay 2 = .ok (.iload_n 2, 1) := by decide +kernel
theorem dL_lay_3 : decode cL_lay 3 = .ok (.aload_n 0, 1) := by decide +kernel
theorem dL_lay_4 : decode cL_lay 4 = .ok (.iconst 2, 1) := by decide +kernel
theorem dL_lay_5 : decode cL_lay 5 = .ok (.iaload, 1) := by decide +kernel
theorem dL_lay_6 : decode cL_lay 6 = .ok (.if_icmp .ge 59, 3) := by decide +kernel
theorem dL_lay_9 : decode cL_lay 9 = .ok (.aload_n 1, 1) := by decide +kernel
theorem dL_lay_10 : decode cL_lay 10 = .ok (.iload_n 2, 1) := by decide +kernel
theorem dL_lay_11 : decode cL_lay 11 = .ok (.lconst 0, 1) := by decide +kernel
theorem dL_lay_12 : decode cL_lay 12 = .ok (.lastore, 1) := by decide +kernel
theorem dL_lay_13 : decode cL_lay 13 = .ok (.iconst 0, 1) := by decide +kernel
theorem dL_lay_14 : decode cL_lay 14 = .ok (.istore_n 3, 1) := by decide +kernel
theorem dL_lay_15 : decode cL_lay 15 = .ok (.iload_n 3, 1) := by decide +kernel
theorem dL_lay_16 : decode cL_lay 16 = .ok (.aload_n 0, 1) := by decide +kernel
theorem dL_lay_17 : decode cL_lay 17 = .ok (.iconst 0, 1) := by decide +kernel
theorem dL_lay_18 : decode cL_lay 18 = .ok (.iaload, 1) := by decide +kernel
theorem dL_lay_19 : decode cL_lay 19 = .ok (.if_icmp .ge 40, 3) := by decide +kernel
theorem dL_lay_22 : decode cL_lay 22 = .ok (.aload_n 1, 1) := by decide +kernel
theorem dL_lay_23 : decode cL_lay 23 = .ok (.iload_n 2, 1) := by decide +kernel
theorem dL_lay_24 : decode cL_lay 24 = .ok (.dup2, 1) := by decide +kernel
theorem dL_lay_25 : decode cL_lay 25 = .ok (.laload, 1) := by decide +kernel
theorem dL_lay_26 : decode cL_lay 26 = .ok (.aload_n 0, 1) := by decide +kernel
theorem dL_lay_27 : decode cL_lay 27 = .ok (.iload_n 2, 1) := by decide +kernel
theorem dL_lay_28 : decode cL_lay 28 = .ok (.iload_n 3, 1) := by decide +kernel
theorem dL_lay_29 : decode cL_lay 29 = .ok (.invokestatic 65, 3) := by decide +kernel
theorem dL_lay_32 : decode cL_lay 32 = .ok (.i2l, 1) := by decide +kernel
theorem dL_lay_33 : decode cL_lay 33 = .ok (.iconst 3, 1) := by decide +kernel
theorem dL_lay_34 : decode cL_lay 34 = .ok (.iload_n 3, 1) := by decide +kernel
theorem dL_lay_35 : decode cL_lay 35 = .ok (.imul, 1) := by decide +kernel
theorem dL_lay_36 : decode cL_lay 36 = .ok (.lshl, 1) := by decide +kernel
theorem dL_lay_37 : decode cL_lay 37 = .ok (.lconst 1, 1) := by decide +kernel
theorem dL_lay_38 : decode cL_lay 38 = .ok (.bipush 24, 2) := by decide +kernel
theorem dL_lay_40 : decode cL_lay 40 = .ok (.iconst 4, 1) := by decide +kernel
theorem dL_lay_41 : decode cL_lay 41 = .ok (.aload_n 0, 1) := by decide +kernel
theorem dL_lay_42 : decode cL_lay 42 = .ok (.iload_n 2, 1) := by decide +kernel
theorem dL_lay_43 : decode cL_lay 43 = .ok (.iload_n 3, 1) := by decide +kernel
theorem dL_lay_44 : decode cL_lay 44 = .ok (.invokestatic 65, 3) := by decide +kernel
theorem dL_lay_47 : decode cL_lay 47 = .ok (.imul, 1) := by decide +kernel
theorem dL_lay_48 : decode cL_lay 48 = .ok (.iadd, 1) := by decide +kernel
theorem dL_lay_49 : decode cL_lay 49 = .ok (.lshl, 1) := by decide +kernel
theorem dL_lay_50 : decode cL_lay 50 = .ok (.ladd, 1) := by decide +kernel
theorem dL_lay_51 : decode cL_lay 51 = .ok (.ladd, 1) := by decide +kernel
theorem dL_lay_52 : decode cL_lay 52 = .ok (.lastore, 1) := by decide +kernel
theorem dL_lay_53 : decode cL_lay 53 = .ok (.iinc 3 1, 3) := by decide +kernel
theorem dL_lay_56 : decode cL_lay 56 = .ok (.goto (-41), 3) := by decide +kernel
theorem dL_lay_59 : decode cL_lay 59 = .ok (.iinc 2 1, 3) := by decide +kernel
theorem dL_lay_62 : decode cL_lay 62 = .ok (.goto (-60), 3) := by decide +kernel
theorem dL_lay_65 : decode cL_lay 65 = .ok (.return_, 1) := by decide +kernel
theorem dL_pins_0 : decode cL_pins 0 = .ok (.iconst 0, 1) := by decide +kernel
theorem dL_pins_1 : decode cL_pins 1 = .ok (.istore 4, 2) := by decide +kernel
theorem dL_pins_3 : decode cL_pins 3 = .ok (.iconst 0, 1) := by decide +kernel
theorem dL_pins_4 : decode cL_pins 4 = .ok (.istore 5, 2) := by decide +kernel
theorem dL_pins_6 : decode cL_pins 6 = .ok (.iconst 0, 1) := by decide +kernel
theorem dL_pins_7 : decode cL_pins 7 = .ok (.istore 6, 2) := by decide +kernel
theorem dL_pins_9 : decode cL_pins 9 = .ok (.iload 6, 2) := by decide +kernel
theorem dL_pins_11 : decode cL_pins 11 = .ok (.iconst 3, 1) := by decide +kernel
theorem dL_pins_12 : decode cL_pins 12 = .ok (.aload_n 0, 1) := by decide +kernel
theorem dL_pins_13 : decode cL_pins 13 = .ok (.iconst 0, 1) := by decide +kernel
theorem dL_pins_14 : decode cL_pins 14 = .ok (.iaload, 1) := by decide +kernel
theorem dL_pins_15 : decode cL_pins 15 = .ok (.imul, 1) := by decide +kernel
theorem dL_pins_16 : decode cL_pins 16 = .ok (.if_icmp .ge 38, 3) := by decide +kernel
theorem dL_pins_19 : decode cL_pins 19 = .ok (.iload 4, 2) := by decide +kernel
theorem dL_pins_21 : decode cL_pins 21 = .ok (.aload_n 1, 1) := by decide +kernel
theorem dL_pins_22 : decode cL_pins 22 = .ok (.iload_n 2, 1) := by decide +kernel
theorem dL_pins_23 : decode cL_pins 23 = .ok (.laload, 1) := by decide +kernel
theorem dL_pins_24 : decode cL_pins 24 = .ok (.aload_n 1, 1) := by decide +kernel
theorem dL_pins_25 : decode cL_pins 25 = .ok (.iload_n 3, 1) := by decide +kernel
theorem dL_pins_26 : decode cL_pins 26 = .ok (.laload, 1) := by decide +kernel
theorem dL_pins_27 : decode cL_pins 27 = .ok (.lxor, 1) := by decide +kernel
theorem dL_pins_28 : decode cL_pins 28 = .ok (.iload 6, 2) := by decide +kernel
theorem dL_pins_30 : decode cL_pins 30 = .ok (.lshr, 1) := by decide +kernel
theorem dL_pins_31 : decode cL_pins 31 = .ok (.ldc2_w 71, 3) := by decide +kernel
theorem dL_pins_34 : decode cL_pins 34 = .ok (.land, 1) := by decide +kernel
theorem dL_pins_35 : decode cL_pins 35 = .ok (.lconst 0, 1) := by decide +kernel
theorem dL_pins_36 : decode cL_pins 36 = .ok (.lcmp, 1) := by decide +kernel
theorem dL_pins_37 : decode cL_pins 37 = .ok (.ifCond .ne 7, 3) := by decide +kernel
theorem dL_pins_40 : decode cL_pins 40 = .ok (.iconst 1, 1) := by decide +kernel
theorem dL_pins_41 : decode cL_pins 41 = .ok (.goto 4, 3) := by decide +kernel
theorem dL_pins_44 : decode cL_pins 44 = .ok (.iconst 0, 1) := by decide +kernel
theorem dL_pins_45 : decode cL_pins 45 = .ok (.iadd, 1) := by decide +kernel
theorem dL_pins_46 : decode cL_pins 46 = .ok (.istore 4, 2) := by decide +kernel
theorem dL_pins_48 : decode cL_pins 48 = .ok (.iinc 6 3, 3) := by decide +kernel
theorem dL_pins_51 : decode cL_pins 51 = .ok (.goto (-42), 3) := by decide +kernel
theorem dL_pins_54 : decode cL_pins 54 = .ok (.bipush 24, 2) := by decide +kernel
theorem dL_pins_56 : decode cL_pins 56 = .ok (.istore 6, 2) := by decide +kernel
theorem dL_pins_58 : decode cL_pins 58 = .ok (.iload 6, 2) := by decide +kernel
theorem dL_pins_60 : decode cL_pins 60 = .ok (.bipush 24, 2) := by decide +kernel
theorem dL_pins_62 : decode cL_pins 62 = .ok (.iconst 4, 1) := by decide +kernel
theorem dL_pins_63 : decode cL_pins 63 = .ok (.aload_n 0, 1) := by decide +kernel
theorem dL_pins_64 : decode cL_pins 64 = .ok (.iconst 1, 1) := by decide +kernel
theorem dL_pins_65 : decode cL_pins 65 = .ok (.iaload, 1) := by decide +kernel
theorem dL_pins_66 : decode cL_pins 66 = .ok (.imul, 1) := by decide +kernel
theorem dL_pins_67 : decode cL_pins 67 = .ok (.iadd, 1) := by decide +kernel
theorem dL_pins_68 : decode cL_pins 68 = .ok (.if_icmp .ge 54, 3) := by decide +kernel
theorem dL_pins_71 : decode cL_pins 71 = .ok (.aload_n 1, 1) := by decide +kernel
theorem dL_pins_72 : decode cL_pins 72 = .ok (.iload_n 2, 1) := by decide +kernel
theorem dL_pins_73 : decode cL_pins 73 = .ok (.laload, 1) := by decide +kernel
theorem dL_pins_74 : decode cL_pins 74 = .ok (.iload 6, 2) := by decide +kernel
theorem dL_pins_76 : decode cL_pins 76 = .ok (.lshr, 1) := by decide +kernel
theorem dL_pins_77 : decode cL_pins 77 = .ok (.ldc2_w 73, 3) := by decide +kernel
theorem dL_pins_80 : decode cL_pins 80 = .ok (.land, 1) := by decide +kernel
theorem dL_pins_81 : decode cL_pins 81 = .ok (.l2i, 1) := by decide +kernel
theorem dL_pins_82 : decode cL_pins 82 = .ok (.istore 7, 2) := by decide +kernel
theorem dL_pins_84 : decode cL_pins 84 = .ok (.aload_n 1, 1) := by decide +kernel
theorem dL_pins_85 : decode cL_pins 85 = .ok (.iload_n 3, 1) := by decide +kernel
theorem dL_pins_86 : decode cL_pins 86 = .ok (.laload, 1) := by decide +kernel
theorem dL_pins_87 : decode cL_pins 87 = .ok (.iload 6, 2) := by decide +kernel
theorem dL_pins_89 : decode cL_pins 89 = .ok (.lshr, 1) := by decide +kernel
theorem dL_pins_90 : decode cL_pins 90 = .ok (.ldc2_w 73, 3) := by decide +kernel
theorem dL_pins_93 : decode cL_pins 93 = .ok (.land, 1) := by decide +kernel
theorem dL_pins_94 : decode cL_pins 94 = .ok (.l2i, 1) := by decide +kernel
theorem dL_pins_95 : decode cL_pins 95 = .ok (.istore 8, 2) := by decide +kernel
theorem dL_pins_97 : decode cL_pins 97 = .ok (.iload 5, 2) := by decide +kernel
theorem dL_pins_99 : decode cL_pins 99 = .ok (.iload 7, 2) := by decide +kernel
theorem dL_pins_101 : decode cL_pins 101 = .ok (.iload 8, 2) := by decide +kernel
theorem dL_pins_103 : decode cL_pins 103 = .ok (.if_icmp .ge 8, 3) := by decide +kernel
theorem dL_pins_106 : decode cL_pins 106 = .ok (.iload 7, 2) := by decide +kernel
theorem dL_pins_108 : decode cL_pins 108 = .ok (.goto 5, 3) := by decide +kernel
theorem dL_pins_111 : decode cL_pins 111 = .ok (.iload 8, 2) := by decide +kernel
theorem dL_pins_113 : decode cL_pins 113 = .ok (.iadd, 1) := by decide +kernel
theorem dL_pins_114 : decode cL_pins 114 = .ok (.istore 5, 2) := by decide +kernel
theorem dL_pins_116 : decode cL_pins 116 = .ok (.iinc 6 4, 3) := by decide +kernel
theorem dL_pins_119 : decode cL_pins 119 = .ok (.goto (-61), 3) := by decide +kernel
theorem dL_pins_122 : decode cL_pins 122 = .ok (.bipush 9, 2) := by decide +kernel
theorem dL_pins_124 : decode cL_pins 124 = .ok (.iload 4, 2) := by decide +kernel
theorem dL_pins_126 : decode cL_pins 126 = .ok (.imul, 1) := by decide +kernel
theorem dL_pins_127 : decode cL_pins 127 = .ok (.iload 5, 2) := by decide +kernel
theorem dL_pins_129 : decode cL_pins 129 = .ok (.iadd, 1) := by decide +kernel
theorem dL_pins_130 : decode cL_pins 130 = .ok (.ireturn, 1) := by decide +kernel
theorem dL_isPossible_0 : decode cL_isPossible 0 = .ok (.iconst 0, 1) := by decide +kernel
theorem dL_isPossible_1 : decode cL_isPossible 1 = .ok (.istore_n 2, 1) := by decide +kernel
theorem dL_isPossible_2 : decode cL_isPossible 2 = .ok (.iload_n 2, 1) := by decide +kernel
theorem dL_isPossible_3 : decode cL_isPossible 3 = .ok (.aload_n 0, 1) := by decide +kernel
theorem dL_isPossible_4 : decode cL_isPossible 4 = .ok (.iconst 0, 1) := by decide +kernel
theorem dL_isPossible_5 : decode cL_isPossible 5 = .ok (.iaload, 1) := by decide +kernel
theorem dL_isPossible_6 : decode cL_isPossible 6 = .ok (.if_icmp .gt 56, 3) := by decide +kernel
theorem dL_isPossible_9 : decode cL_isPossible 9 = .ok (.iconst 0, 1) := by decide +kernel
theorem dL_isPossible_10 : decode cL_isPossible 10 = .ok (.istore_n 3, 1) := by decide +kernel
theorem dL_isPossible_11 : decode cL_isPossible 11 = .ok (.iload_n 3, 1) := by decide +kernel
theorem dL_isPossible_12 : decode cL_isPossible 12 = .ok (.aload_n 0, 1) := by decide +kernel
theorem dL_isPossible_13 : decode cL_isPossible 13 = .ok (.iconst 0, 1) := by decide +kernel
theorem dL_isPossible_14 : decode cL_isPossible 14 = .ok (.iaload, 1) := by decide +kernel
theorem dL_isPossible_15 : decode cL_isPossible 15 = .ok (.iload_n 2, 1) := by decide +kernel
theorem dL_isPossible_16 : decode cL_isPossible 16 = .ok (.isub, 1) := by decide +kernel
theorem dL_isPossible_17 : decode cL_isPossible 17 = .ok (.if_icmp .gt 39, 3) := by decide +kernel
theorem dL_isPossible_20 : decode cL_isPossible 20 = .ok (.iload_n 1, 1) := by decide +kernel
theorem dL_isPossible_21 : decode cL_isPossible 21 = .ok (.bipush 10, 2) := by decide +kernel
theorem dL_isPossible_23 : decode cL_isPossible 23 = .ok (.iload_n 2, 1) := by decide +kernel
theorem dL_isPossible_24 : decode cL_isPossible 24 = .ok (.imul, 1) := by decide +kernel
theorem dL_isPossible_25 : decode cL_isPossible 25 = .ok (.iload_n 3, 1) := by decide +kernel
theorem dL_isPossible_26 : decode cL_isPossible 26 = .ok (.iadd, 1) := by decide +kernel
theorem dL_isPossible_27 : decode cL_isPossible 27 = .ok (.if_icmp .ne 23, 3) := by decide +kernel
theorem dL_isPossible_30 : decode cL_isPossible 30 = .ok (.iload_n 3, 1) := by decide +kernel
theorem dL_isPossible_31 : decode cL_isPossible 31 = .ok (.iconst 1, 1) := by decide +kernel
theorem dL_isPossible_32 : decode cL_isPossible 32 = .ok (.if_icmp .ne 12, 3) := by decide +kernel
theorem dL_isPossible_35 : decode cL_isPossible 35 = .ok (.iload_n 2, 1) := by decide +kernel
theorem dL_isPossible_36 : decode cL_isPossible 36 = .ok (.aload_n 0, 1) := by decide +kernel
theorem dL_isPossible_37 : decode cL_isPossible 37 = .ok (.iconst 0, 1) := by decide +kernel
theorem dL_isPossible_38 : decode cL_isPossible 38 = .ok (.iaload, 1) := by decide +kernel
theorem dL_isPossible_39 : decode cL_isPossible 39 = .ok (.iconst 1, 1) := by decide +kernel
theorem dL_isPossible_40 : decode cL_isPossible 40 = .ok (.isub, 1) := by decide +kernel
theorem dL_isPossible_41 : decode cL_isPossible 41 = .ok (.if_icmp .eq 7, 3) := by decide +kernel
theorem dL_isPossible_44 : decode cL_isPossible 44 = .ok (.iconst 1, 1) := by decide +kernel
theorem dL_isPossible_45 : decode cL_isPossible 45 = .ok (.goto 4, 3) := by decide +kernel
theorem dL_isPossible_48 : decode cL_isPossible 48 = .ok (.iconst 0, 1) := by decide +kernel
theorem dL_isPossible_49 : decode cL_isPossible 49 = .ok (.ireturn, 1) := by decide +kernel
theorem dL_isPossible_50 : decode cL_isPossible 50 = .ok (.iinc 3 1, 3) := by decide +kernel
theorem dL_isPossible_53 : decode cL_isPossible 53 = .ok (.goto (-42), 3) := by decide +kernel
theorem dL_isPossible_56 : decode cL_isPossible 56 = .ok (.iinc 2 1, 3) := by decide +kernel
theorem dL_isPossible_59 : decode cL_isPossible 59 = .ok (.goto (-57), 3) := by decide +kernel
theorem dL_isPossible_62 : decode cL_isPossible 62 = .ok (.iconst 0, 1) := by decide +kernel
theorem dL_isPossible_63 : decode cL_isPossible 63 = .ok (.ireturn, 1) := by decide +kernel
set_option maxRecDepth 20000 in
theorem ggL_lies_L_pins : GoodIn wsL_lies wsL_pins := goodIn_r _ [4, 5, 6] (by decide +kernel) (by decide +kernel)
set_option maxRecDepth 20000 in
theorem gL_lies_L_pins : GoodIn wsL_lies (va_wsS RL 75 yL_pins wsL_pins) := goodIn_app (goodIn_of _ (by decide +kernel)) ggL_lies_L_pins
theorem dL_lies_0 : decode cL_lies 0 = .ok (.iconst 0, 1) := by decide +kernel
theorem dL_lies_1 : decode cL_lies 1 = .ok (.istore 5, 2) := by decide +kernel
theorem dL_lies_3 : decode cL_lies 3 = .ok (.iconst 0, 1) := by decide +kernel
theorem dL_lies_4 : decode cL_lies 4 = .ok (.istore 6, 2) := by decide +kernel
theorem dL_lies_6 : decode cL_lies 6 = .ok (.iload 6, 2) := by decide +kernel
theorem dL_lies_8 : decode cL_lies 8 = .ok (.aload_n 0, 1) := by decide +kernel
theorem dL_lies_9 : decode cL_lies 9 = .ok (.iconst 5, 1) := by decide +kernel
theorem dL_lies_10 : decode cL_lies 10 = .ok (.iaload, 1) := by decide +kernel
theorem dL_lies_11 : decode cL_lies 11 = .ok (.if_icmp .ge 37, 3) := by decide +kernel
theorem dL_lies_14 : decode cL_lies 14 = .ok (.iload 5, 2) := by decide +kernel
theorem dL_lies_16 : decode cL_lies 16 = .ok (.aload_n 0, 1) := by decide +kernel
theorem dL_lies_17 : decode cL_lies 17 = .ok (.aload_n 1, 1) := by decide +kernel
theorem dL_lies_18 : decode cL_lies 18 = .ok (.aload_n 2, 1) := by decide +kernel
theorem dL_lies_19 : decode cL_lies 19 = .ok (.iload 6, 2) := by decide +kernel
theorem dL_lies_21 : decode cL_lies 21 = .ok (.iaload, 1) := by decide +kernel
theorem dL_lies_22 : decode cL_lies 22 = .ok (.iload 4, 2) := by decide +kernel
theorem dL_lies_24 : decode cL_lies 24 = .ok (.invokestatic 75, 3) := by decide +kernel
theorem dL_lies_27 : decode cL_lies 27 = .ok (.aload_n 3, 1) := by decide +kernel
theorem dL_lies_28 : decode cL_lies 28 = .ok (.iload 6, 2) := by decide +kernel
theorem dL_lies_30 : decode cL_lies 30 = .ok (.iaload, 1) := by decide +kernel
theorem dL_lies_31 : decode cL_lies 31 = .ok (.if_icmp .eq 7, 3) := by decide +kernel
theorem dL_lies_34 : decode cL_lies 34 = .ok (.iconst 1, 1) := by decide +kernel
theorem dL_lies_35 : decode cL_lies 35 = .ok (.goto 4, 3) := by decide +kernel
theorem dL_lies_38 : decode cL_lies 38 = .ok (.iconst 0, 1) := by decide +kernel
theorem dL_lies_39 : decode cL_lies 39 = .ok (.iadd, 1) := by decide +kernel
theorem dL_lies_40 : decode cL_lies 40 = .ok (.istore 5, 2) := by decide +kernel
theorem dL_lies_42 : decode cL_lies 42 = .ok (.iinc 6 1, 3) := by decide +kernel
theorem dL_lies_45 : decode cL_lies 45 = .ok (.goto (-39), 3) := by decide +kernel
theorem dL_lies_48 : decode cL_lies 48 = .ok (.iload 5, 2) := by decide +kernel
theorem dL_lies_50 : decode cL_lies 50 = .ok (.ireturn, 1) := by decide +kernel
set_option maxRecDepth 20000 in
theorem ggL_left_L_lies : GoodIn wsL_left wsL_lies := goodIn_r _ [4, 5, 6, 3, 7, 8, 9] (by decide +kernel) (by decide +kernel)
set_option maxRecDepth 20000 in
theorem gL_left_L_lies : GoodIn wsL_left (va_wsS RL 79 yL_lies wsL_lies) := goodIn_app (goodIn_of _ (by decide +kernel)) ggL_left_L_lies
theorem dL_left_0 : decode cL_left 0 = .ok (.lconst 0, 1) := by decide +kernel
theorem dL_left_1 : decode cL_left 1 = .ok (.lstore 4, 2) := by decide +kernel
theorem dL_left_3 : decode cL_left 3 = .ok (.iconst 0, 1) := by decide +kernel
theorem dL_left_4 : decode cL_left 4 = .ok (.istore 6, 2) := by decide +kernel
theorem dL_left_6 : decode cL_left 6 = .ok (.iload 6, 2) := by decide +kernel
theorem dL_left_8 : decode cL_left 8 = .ok (.aload_n 0, 1) := by decide +kernel
theorem dL_left_9 : decode cL_left 9 = .ok (.iconst 2, 1) := by decide +kernel
theorem dL_left_10 : decode cL_left 10 = .ok (.iaload, 1) := by decide +kernel
theorem dL_left_11 : decode cL_left 11 = .ok (.if_icmp .ge 37, 3) := by decide +kernel
theorem dL_left_14 : decode cL_left 14 = .ok (.lload 4, 2) := by decide +kernel
theorem dL_left_16 : decode cL_left 16 = .ok (.aload_n 0, 1) := by decide +kernel
theorem dL_left_17 : decode cL_left 17 = .ok (.aload_n 1, 1) := by decide +kernel
theorem dL_left_18 : decode cL_left 18 = .ok (.aload_n 2, 1) := by decide +kernel
theorem dL_left_19 : decode cL_left 19 = .ok (.aload_n 3, 1) := by decide +kernel
theorem dL_left_20 : decode cL_left 20 = .ok (.iload 6, 2) := by decide +kernel
theorem dL_left_22 : decode cL_left 22 = .ok (.invokestatic 79, 3) := by decide +kernel
theorem dL_left_25 : decode cL_left 25 = .ok (.aload_n 0, 1) := by decide +kernel
theorem dL_left_26 : decode cL_left 26 = .ok (.iconst 3, 1) := by decide +kernel
theorem dL_left_27 : decode cL_left 27 = .ok (.iaload, 1) := by decide +kernel
theorem dL_left_28 : decode cL_left 28 = .ok (.if_icmp .le 7, 3) := by decide +kernel
theorem dL_left_31 : decode cL_left 31 = .ok (.lconst 0, 1) := by decide +kernel
theorem dL_left_32 : decode cL_left 32 = .ok (.goto 7, 3) := by decide +kernel
theorem dL_left_35 : decode cL_left 35 = .ok (.lconst 1, 1) := by decide +kernel
theorem dL_left_36 : decode cL_left 36 = .ok (.iload 6, 2) := by decide +kernel
theorem dL_left_38 : decode cL_left 38 = .ok (.lshl, 1) := by decide +kernel
theorem dL_left_39 : decode cL_left 39 = .ok (.lor, 1) := by decide +kernel
theorem dL_left_40 : decode cL_left 40 = .ok (.lstore 4, 2) := by decide +kernel
theorem dL_left_42 : decode cL_left 42 = .ok (.iinc 6 1, 3) := by decide +kernel
theorem dL_left_45 : decode cL_left 45 = .ok (.goto (-39), 3) := by decide +kernel
theorem dL_left_48 : decode cL_left 48 = .ok (.lload 4, 2) := by decide +kernel
theorem dL_left_50 : decode cL_left 50 = .ok (.lreturn, 1) := by decide +kernel
theorem dL_many_0 : decode cL_many 0 = .ok (.iconst 0, 1) := by decide +kernel
theorem dL_many_1 : decode cL_many 1 = .ok (.istore_n 2, 1) := by decide +kernel
theorem dL_many_2 : decode cL_many 2 = .ok (.lload_n 0, 1) := by decide +kernel
theorem dL_many_3 : decode cL_many 3 = .ok (.lstore_n 3, 1) := by decide +kernel
theorem dL_many_4 : decode cL_many 4 = .ok (.lload_n 3, 1) := by decide +kernel
theorem dL_many_5 : decode cL_many 5 = .ok (.lconst 0, 1) := by decide +kernel
theorem dL_many_6 : decode cL_many 6 = .ok (.lcmp, 1) := by decide +kernel
theorem dL_many_7 : decode cL_many 7 = .ok (.ifCond .eq 15, 3) := by decide +kernel
theorem dL_many_10 : decode cL_many 10 = .ok (.iinc 2 1, 3) := by decide +kernel
theorem dL_many_13 : decode cL_many 13 = .ok (.lload_n 3, 1) := by decide +kernel
theorem dL_many_14 : decode cL_many 14 = .ok (.lload_n 3, 1) := by decide +kernel
theorem dL_many_15 : decode cL_many 15 = .ok (.lconst 1, 1) := by decide +kernel
theorem dL_many_16 : decode cL_many 16 = .ok (.lsub, 1) := by decide +kernel
theorem dL_many_17 : decode cL_many 17 = .ok (.land, 1) := by decide +kernel
theorem dL_many_18 : decode cL_many 18 = .ok (.lstore_n 3, 1) := by decide +kernel
theorem dL_many_19 : decode cL_many 19 = .ok (.goto (-15), 3) := by decide +kernel
theorem dL_many_22 : decode cL_many 22 = .ok (.iload_n 2, 1) := by decide +kernel
theorem dL_many_23 : decode cL_many 23 = .ok (.ireturn, 1) := by decide +kernel
theorem dL_has_0 : decode cL_has 0 = .ok (.lload_n 0, 1) := by decide +kernel
theorem dL_has_1 : decode cL_has 1 = .ok (.iload_n 2, 1) := by decide +kernel
theorem dL_has_2 : decode cL_has 2 = .ok (.lshr, 1) := by decide +kernel
theorem dL_has_3 : decode cL_has 3 = .ok (.lconst 1, 1) := by decide +kernel
theorem dL_has_4 : decode cL_has 4 = .ok (.land, 1) := by decide +kernel
theorem dL_has_5 : decode cL_has 5 = .ok (.lconst 1, 1) := by decide +kernel
theorem dL_has_6 : decode cL_has 6 = .ok (.lcmp, 1) := by decide +kernel
theorem dL_has_7 : decode cL_has 7 = .ok (.ifCond .ne 7, 3) := by decide +kernel
theorem dL_has_10 : decode cL_has 10 = .ok (.iconst 1, 1) := by decide +kernel
theorem dL_has_11 : decode cL_has 11 = .ok (.goto 4, 3) := by decide +kernel
theorem dL_has_14 : decode cL_has 14 = .ok (.iconst 0, 1) := by decide +kernel
theorem dL_has_15 : decode cL_has 15 = .ok (.ireturn, 1) := by decide +kernel
set_option maxRecDepth 20000 in
theorem ggL_part_L_has : GoodIn wsL_part wsL_has := goodIn_r _ [4] (by decide +kernel) (by decide +kernel)
set_option maxRecDepth 20000 in
theorem gL_part_L_has : GoodIn wsL_part (va_wsS RL 83 yL_has wsL_has) := goodIn_app (goodIn_of _ (by decide +kernel)) ggL_part_L_has
set_option maxRecDepth 20000 in
theorem ggL_part_L_pins : GoodIn wsL_part wsL_pins := goodIn_r _ [7, 8, 9] (by decide +kernel) (by decide +kernel)
set_option maxRecDepth 20000 in
theorem gL_part_L_pins : GoodIn wsL_part (va_wsS RL 75 yL_pins wsL_pins) := goodIn_app (goodIn_of _ (by decide +kernel)) ggL_part_L_pins
theorem dL_part_0 : decode cL_part 0 = .ok (.lconst 0, 1) := by decide +kernel
theorem dL_part_1 : decode cL_part 1 = .ok (.lstore 6, 2) := by decide +kernel
theorem dL_part_3 : decode cL_part 3 = .ok (.iconst 0, 1) := by decide +kernel
theorem dL_part_4 : decode cL_part 4 = .ok (.istore 8, 2) := by decide +kernel
theorem dL_part_6 : decode cL_part 6 = .ok (.iload 8, 2) := by decide +kernel
theorem dL_part_8 : decode cL_part 8 = .ok (.aload_n 0, 1) := by decide +kernel
theorem dL_part_9 : decode cL_part 9 = .ok (.iconst 2, 1) := by decide +kernel
theorem dL_part_10 : decode cL_part 10 = .ok (.iaload, 1) := by decide +kernel
theorem dL_part_11 : decode cL_part 11 = .ok (.if_icmp .ge 41, 3) := by decide +kernel
theorem dL_part_14 : decode cL_part 14 = .ok (.lload_n 2, 1) := by decide +kernel
theorem dL_part_15 : decode cL_part 15 = .ok (.iload 8, 2) := by decide +kernel
theorem dL_part_17 : decode cL_part 17 = .ok (.invokestatic 83, 3) := by decide +kernel
theorem dL_part_20 : decode cL_part 20 = .ok (.ifCond .eq 26, 3) := by decide +kernel
theorem dL_part_23 : decode cL_part 23 = .ok (.aload_n 0, 1) := by decide +kernel
theorem dL_part_24 : decode cL_part 24 = .ok (.aload_n 1, 1) := by decide +kernel
theorem dL_part_25 : decode cL_part 25 = .ok (.iload 4, 2) := by decide +kernel
theorem dL_part_27 : decode cL_part 27 = .ok (.iload 8, 2) := by decide +kernel
theorem dL_part_29 : decode cL_part 29 = .ok (.invokestatic 75, 3) := by decide +kernel
theorem dL_part_32 : decode cL_part 32 = .ok (.iload 5, 2) := by decide +kernel
theorem dL_part_34 : decode cL_part 34 = .ok (.if_icmp .ne 12, 3) := by decide +kernel
theorem dL_part_37 : decode cL_part 37 = .ok (.lload 6, 2) := by decide +kernel
theorem dL_part_39 : decode cL_part 39 = .ok (.lconst 1, 1) := by decide +kernel
theorem dL_part_40 : decode cL_part 40 = .ok (.iload 8, 2) := by decide +kernel
theorem dL_part_42 : decode cL_part 42 = .ok (.lshl, 1) := by decide +kernel
theorem dL_part_43 : decode cL_part 43 = .ok (.lor, 1) := by decide +kernel
theorem dL_part_44 : decode cL_part 44 = .ok (.lstore 6, 2) := by decide +kernel
theorem dL_part_46 : decode cL_part 46 = .ok (.iinc 8 1, 3) := by decide +kernel
theorem dL_part_49 : decode cL_part 49 = .ok (.goto (-43), 3) := by decide +kernel
theorem dL_part_52 : decode cL_part 52 = .ok (.lload 6, 2) := by decide +kernel
theorem dL_part_54 : decode cL_part 54 = .ok (.lreturn, 1) := by decide +kernel
set_option maxRecDepth 20000 in
theorem ggL_worth_L_has : GoodIn wsL_worth wsL_has := goodIn_r _ [5] (by decide +kernel) (by decide +kernel)
set_option maxRecDepth 20000 in
theorem gL_worth_L_has : GoodIn wsL_worth (va_wsS RL 83 yL_has wsL_has) := goodIn_app (goodIn_of _ (by decide +kernel)) ggL_worth_L_has
set_option maxRecDepth 20000 in
theorem ggL_worth_L_pins : GoodIn wsL_worth wsL_pins := goodIn_r _ [8, 9, 10] (by decide +kernel) (by decide +kernel)
set_option maxRecDepth 20000 in
theorem gL_worth_L_pins : GoodIn wsL_worth (va_wsS RL 75 yL_pins wsL_pins) := goodIn_app (goodIn_of _ (by decide +kernel)) ggL_worth_L_pins
set_option maxRecDepth 20000 in
theorem ggL_worth_L_part : GoodIn wsL_worth wsL_part := goodIn_r _ [13, 2, 3, 4, 5, 6, 7, 8, 9, 10] (by decide +kernel) (by decide +kernel)
set_option maxRecDepth 20000 in
theorem gL_worth_L_part : GoodIn wsL_worth (va_wsS RL 87 yL_part wsL_part) := goodIn_app (goodIn_of _ (by decide +kernel)) ggL_worth_L_part
set_option maxRecDepth 20000 in
theorem ggL_worth_L_many : GoodIn wsL_worth wsL_many := goodIn_r _ [16] (by decide +kernel) (by decide +kernel)
set_option maxRecDepth 20000 in
theorem gL_worth_L_many : GoodIn wsL_worth (va_wsS RL 91 yL_many wsL_many) := goodIn_app (goodIn_of _ (by decide +kernel)) ggL_worth_L_many
theorem dL_worth_0 : decode cL_worth 0 = .ok (.iconst 0, 1) := by decide +kernel
theorem dL_worth_1 : decode cL_worth 1 = .ok (.istore 6, 2) := by decide +kernel
theorem dL_worth_3 : decode cL_worth 3 = .ok (.iconst 0, 1) := by decide +kernel
theorem dL_worth_4 : decode cL_worth 4 = .ok (.istore 7, 2) := by decide +kernel
theorem dL_worth_6 : decode cL_worth 6 = .ok (.iconst 0, 1) := by decide +kernel
theorem dL_worth_7 : decode cL_worth 7 = .ok (.istore 8, 2) := by decide +kernel
theorem dL_worth_9 : decode cL_worth 9 = .ok (.lload_n 2, 1) := by decide +kernel
theorem dL_worth_10 : decode cL_worth 10 = .ok (.lstore 9, 2) := by decide +kernel
theorem dL_worth_12 : decode cL_worth 12 = .ok (.lload 9, 2) := by decide +kernel
theorem dL_worth_14 : decode cL_worth 14 = .ok (.lconst 0, 1) := by decide +kernel
theorem dL_worth_15 : decode cL_worth 15 = .ok (.lcmp, 1) := by decide +kernel
theorem dL_worth_16 : decode cL_worth 16 = .ok (.ifCond .eq 92, 3) := by decide +kernel
theorem dL_worth_19 : decode cL_worth 19 = .ok (.iconst 0, 1) := by decide +kernel
theorem dL_worth_20 : decode cL_worth 20 = .ok (.istore 11, 2) := by decide +kernel
theorem dL_worth_22 : decode cL_worth 22 = .ok (.lload 9, 2) := by decide +kernel
theorem dL_worth_24 : decode cL_worth 24 = .ok (.iload 11, 2) := by decide +kernel
theorem dL_worth_26 : decode cL_worth 26 = .ok (.invokestatic 83, 3) := by decide +kernel
theorem dL_worth_29 : decode cL_worth 29 = .ok (.ifCond .ne 9, 3) := by decide +kernel
theorem dL_worth_32 : decode cL_worth 32 = .ok (.iinc 11 1, 3) := by decide +kernel
theorem dL_worth_35 : decode cL_worth 35 = .ok (.goto (-13), 3) := by decide +kernel
theorem dL_worth_38 : decode cL_worth 38 = .ok (.aload_n 0, 1) := by decide +kernel
theorem dL_worth_39 : decode cL_worth 39 = .ok (.aload_n 1, 1) := by decide +kernel
theorem dL_worth_40 : decode cL_worth 40 = .ok (.lload 9, 2) := by decide +kernel
theorem dL_worth_42 : decode cL_worth 42 = .ok (.iload 4, 2) := by decide +kernel
theorem dL_worth_44 : decode cL_worth 44 = .ok (.aload_n 0, 1) := by decide +kernel
theorem dL_worth_45 : decode cL_worth 45 = .ok (.aload_n 1, 1) := by decide +kernel
theorem dL_worth_46 : decode cL_worth 46 = .ok (.iload 4, 2) := by decide +kernel
theorem dL_worth_48 : decode cL_worth 48 = .ok (.iload 11, 2) := by decide +kernel
theorem dL_worth_50 : decode cL_worth 50 = .ok (.invokestatic 75, 3) := by decide +kernel
theorem dL_worth_53 : decode cL_worth 53 = .ok (.invokestatic 87, 3) := by decide +kernel
theorem dL_worth_56 : decode cL_worth 56 = .ok (.lstore 12, 2) := by decide +kernel
theorem dL_worth_58 : decode cL_worth 58 = .ok (.lload 12, 2) := by decide +kernel
theorem dL_worth_60 : decode cL_worth 60 = .ok (.invokestatic 91, 3) := by decide +kernel
theorem dL_worth_63 : decode cL_worth 63 = .ok (.istore 14, 2) := by decide +kernel
theorem dL_worth_65 : decode cL_worth 65 = .ok (.iload 14, 2) := by decide +kernel
theorem dL_worth_67 : decode cL_worth 67 = .ok (.iload 6, 2) := by decide +kernel
theorem dL_worth_69 : decode cL_worth 69 = .ok (.if_icmp .le 8, 3) := by decide +kernel
theorem dL_worth_72 : decode cL_worth 72 = .ok (.iload 14, 2) := by decide +kernel
theorem dL_worth_74 : decode cL_worth 74 = .ok (.goto 5, 3) := by decide +kernel
theorem dL_worth_77 : decode cL_worth 77 = .ok (.iload 6, 2) := by decide +kernel
theorem dL_worth_79 : decode cL_worth 79 = .ok (.istore 6, 2) := by decide +kernel
theorem dL_worth_81 : decode cL_worth 81 = .ok (.iload 7, 2) := by decide +kernel
theorem dL_worth_83 : decode cL_worth 83 = .ok (.iload 14, 2) := by decide +kernel
theorem dL_worth_85 : decode cL_worth 85 = .ok (.iload 14, 2) := by decide +kernel
theorem dL_worth_87 : decode cL_worth 87 = .ok (.imul, 1) := by decide +kernel
theorem dL_worth_88 : decode cL_worth 88 = .ok (.iadd, 1) := by decide +kernel
theorem dL_worth_89 : decode cL_worth 89 = .ok (.istore 7, 2) := by decide +kernel
theorem dL_worth_91 : decode cL_worth 91 = .ok (.iinc 8 1, 3) := by decide +kernel
theorem dL_worth_94 : decode cL_worth 94 = .ok (.lload 9, 2) := by decide +kernel
theorem dL_worth_96 : decode cL_worth 96 = .ok (.lload 12, 2) := by decide +kernel
theorem dL_worth_98 : decode cL_worth 98 = .ok (.ldc2_w 95, 3) := by decide +kernel
theorem dL_worth_101 : decode cL_worth 101 = .ok (.lxor, 1) := by decide +kernel
theorem dL_worth_102 : decode cL_worth 102 = .ok (.land, 1) := by decide +kernel
theorem dL_worth_103 : decode cL_worth 103 = .ok (.lstore 9, 2) := by decide +kernel
theorem dL_worth_105 : decode cL_worth 105 = .ok (.goto (-93), 3) := by decide +kernel
theorem dL_worth_108 : decode cL_worth 108 = .ok (.iload 5, 2) := by decide +kernel
theorem dL_worth_110 : decode cL_worth 110 = .ok (.ifCond .ne 8, 3) := by decide +kernel
theorem dL_worth_113 : decode cL_worth 113 = .ok (.iload 6, 2) := by decide +kernel
theorem dL_worth_115 : decode cL_worth 115 = .ok (.goto 17, 3) := by decide +kernel
theorem dL_worth_118 : decode cL_worth 118 = .ok (.iload 5, 2) := by decide +kernel
theorem dL_worth_120 : decode cL_worth 120 = .ok (.iconst 1, 1) := by decide +kernel
theorem dL_worth_121 : decode cL_worth 121 = .ok (.if_icmp .ne 8, 3) := by decide +kernel
theorem dL_worth_124 : decode cL_worth 124 = .ok (.iload 7, 2) := by decide +kernel
theorem dL_worth_126 : decode cL_worth 126 = .ok (.goto 6, 3) := by decide +kernel
theorem dL_worth_129 : decode cL_worth 129 = .ok (.iload 8, 2) := by decide +kernel
theorem dL_worth_131 : decode cL_worth 131 = .ok (.ineg, 1) := by decide +kernel
theorem dL_worth_132 : decode cL_worth 132 = .ok (.ireturn, 1) := by decide +kernel
set_option maxRecDepth 20000 in
theorem ggL_best_L_has : GoodIn wsL_best wsL_has := goodIn_r _ [4] (by decide +kernel) (by decide +kernel)
set_option maxRecDepth 20000 in
theorem gL_best_L_has : GoodIn wsL_best (va_wsS RL 83 yL_has wsL_has) := goodIn_app (goodIn_of _ (by decide +kernel)) ggL_best_L_has
set_option maxRecDepth 20000 in
theorem ggL_best_L_worth : GoodIn wsL_best wsL_worth := goodIn_r _ [7, 8, 1, 2, 3, 4, 9, 10, 11, 12, 13, 14, 15, 16, 17, 18, 19] (by decide +kernel) (by decide +kernel)
set_option maxRecDepth 20000 in
theorem gL_best_L_worth : GoodIn wsL_best (va_wsS RL 97 yL_worth wsL_worth) := goodIn_app (goodIn_of _ (by decide +kernel)) ggL_best_L_worth
theorem dL_best_0 : decode cL_best 0 = .ok (.iconst (-1), 1) := by decide +kernel
theorem dL_best_1 : decode cL_best 1 = .ok (.istore 5, 2) := by decide +kernel
theorem dL_best_3 : decode cL_best 3 = .ok (.iconst 0, 1) := by decide +kernel
theorem dL_best_4 : decode cL_best 4 = .ok (.istore 6, 2) := by decide +kernel
theorem dL_best_6 : decode cL_best 6 = .ok (.iconst 0, 1) := by decide +kernel
theorem dL_best_7 : decode cL_best 7 = .ok (.istore 7, 2) := by decide +kernel
theorem dL_best_9 : decode cL_best 9 = .ok (.iload 7, 2) := by decide +kernel
theorem dL_best_11 : decode cL_best 11 = .ok (.iconst 2, 1) := by decide +kernel
theorem dL_best_12 : decode cL_best 12 = .ok (.if_icmp .ge 83, 3) := by decide +kernel
theorem dL_best_15 : decode cL_best 15 = .ok (.iconst 0, 1) := by decide +kernel
theorem dL_best_16 : decode cL_best 16 = .ok (.istore 8, 2) := by decide +kernel
theorem dL_best_18 : decode cL_best 18 = .ok (.iload 8, 2) := by decide +kernel
theorem dL_best_20 : decode cL_best 20 = .ok (.aload_n 0, 1) := by decide +kernel
theorem dL_best_21 : decode cL_best 21 = .ok (.iconst 2, 1) := by decide +kernel
theorem dL_best_22 : decode cL_best 22 = .ok (.iaload, 1) := by decide +kernel
theorem dL_best_23 : decode cL_best 23 = .ok (.if_icmp .ge 66, 3) := by decide +kernel
theorem dL_best_26 : decode cL_best 26 = .ok (.lload_n 2, 1) := by decide +kernel
theorem dL_best_27 : decode cL_best 27 = .ok (.iload 8, 2) := by decide +kernel
theorem dL_best_29 : decode cL_best 29 = .ok (.invokestatic 83, 3) := by decide +kernel
theorem dL_best_32 : decode cL_best 32 = .ok (.iload 7, 2) := by decide +kernel
theorem dL_best_34 : decode cL_best 34 = .ok (.ifCond .ne 7, 3) := by decide +kernel
theorem dL_best_37 : decode cL_best 37 = .ok (.iconst 1, 1) := by decide +kernel
theorem dL_best_38 : decode cL_best 38 = .ok (.goto 4, 3) := by decide +kernel
theorem dL_best_41 : decode cL_best 41 = .ok (.iconst 0, 1) := by decide +kernel
theorem dL_best_42 : decode cL_best 42 = .ok (.if_icmp .eq 6, 3) := by decide +kernel
theorem dL_best_45 : decode cL_best 45 = .ok (.goto 38, 3) := by decide +kernel
theorem dL_best_48 : decode cL_best 48 = .ok (.aload_n 0, 1) := by decide +kernel
theorem dL_best_49 : decode cL_best 49 = .ok (.aload_n 1, 1) := by decide +kernel
theorem dL_best_50 : decode cL_best 50 = .ok (.lload_n 2, 1) := by decide +kernel
theorem dL_best_51 : decode cL_best 51 = .ok (.iload 8, 2) := by decide +kernel
theorem dL_best_53 : decode cL_best 53 = .ok (.iload 4, 2) := by decide +kernel
theorem dL_best_55 : decode cL_best 55 = .ok (.invokestatic 97, 3) := by decide +kernel
theorem dL_best_58 : decode cL_best 58 = .ok (.istore 9, 2) := by decide +kernel
theorem dL_best_60 : decode cL_best 60 = .ok (.iload 5, 2) := by decide +kernel
theorem dL_best_62 : decode cL_best 62 = .ok (.ifCond .lt 13, 3) := by decide +kernel
theorem dL_best_65 : decode cL_best 65 = .ok (.iload 9, 2) := by decide +kernel
theorem dL_best_67 : decode cL_best 67 = .ok (.iload 6, 2) := by decide +kernel
theorem dL_best_69 : decode cL_best 69 = .ok (.if_icmp .lt 6, 3) := by decide +kernel
theorem dL_best_72 : decode cL_best 72 = .ok (.goto 11, 3) := by decide +kernel
theorem dL_best_75 : decode cL_best 75 = .ok (.iload 8, 2) := by decide +kernel
theorem dL_best_77 : decode cL_best 77 = .ok (.istore 5, 2) := by decide +kernel
theorem dL_best_79 : decode cL_best 79 = .ok (.iload 9, 2) := by decide +kernel
theorem dL_best_81 : decode cL_best 81 = .ok (.istore 6, 2) := by decide +kernel
theorem dL_best_83 : decode cL_best 83 = .ok (.iinc 8 1, 3) := by decide +kernel
theorem dL_best_86 : decode cL_best 86 = .ok (.goto (-68), 3) := by decide +kernel
theorem dL_best_89 : decode cL_best 89 = .ok (.iinc 7 1, 3) := by decide +kernel
theorem dL_best_92 : decode cL_best 92 = .ok (.goto (-83), 3) := by decide +kernel
theorem dL_best_95 : decode cL_best 95 = .ok (.iload 5, 2) := by decide +kernel
theorem dL_best_97 : decode cL_best 97 = .ok (.ireturn, 1) := by decide +kernel
set_option maxRecDepth 20000 in
theorem ggL_needed_L_best : GoodIn wsL_needed wsL_best := goodIn_r _ [5, 6, 7, 4, 8, 9, 10, 11, 1, 12, 13, 14, 15, 16, 17, 18, 19, 20, 21, 22] (by decide +kernel) (by decide +kernel)
set_option maxRecDepth 20000 in
theorem gL_needed_L_best : GoodIn wsL_needed (va_wsS RL 101 yL_best wsL_best) := goodIn_app (goodIn_of _ (by decide +kernel)) ggL_needed_L_best
set_option maxRecDepth 20000 in
theorem ggL_needed_L_has : GoodIn wsL_needed wsL_has := goodIn_r _ [8] (by decide +kernel) (by decide +kernel)
set_option maxRecDepth 20000 in
theorem gL_needed_L_has : GoodIn wsL_needed (va_wsS RL 83 yL_has wsL_has) := goodIn_app (goodIn_of _ (by decide +kernel)) ggL_needed_L_has
set_option maxRecDepth 20000 in
theorem ggL_needed_L_pins : GoodIn wsL_needed wsL_pins := goodIn_r _ [14, 15, 16] (by decide +kernel) (by decide +kernel)
set_option maxRecDepth 20000 in
theorem gL_needed_L_pins : GoodIn wsL_needed (va_wsS RL 75 yL_pins wsL_pins) := goodIn_app (goodIn_of _ (by decide +kernel)) ggL_needed_L_pins
set_option maxRecDepth 20000 in
theorem ggL_needed_L_part : GoodIn wsL_needed wsL_part := goodIn_r _ [19, 6, 7, 4, 8, 12, 13, 14, 15, 16] (by decide +kernel) (by decide +kernel)
set_option maxRecDepth 20000 in
theorem gL_needed_L_part : GoodIn wsL_needed (va_wsS RL 87 yL_part wsL_part) := goodIn_app (goodIn_of _ (by decide +kernel)) ggL_needed_L_part
theorem dL_needed_0 : decode cL_needed 0 = .ok (.aload 4, 2) := by decide +kernel
theorem dL_needed_2 : decode cL_needed 2 = .ok (.iconst 0, 1) := by decide +kernel
theorem dL_needed_3 : decode cL_needed 3 = .ok (.lload_n 2, 1) := by decide +kernel
theorem dL_needed_4 : decode cL_needed 4 = .ok (.lastore, 1) := by decide +kernel
theorem dL_needed_5 : decode cL_needed 5 = .ok (.aload 5, 2) := by decide +kernel
theorem dL_needed_7 : decode cL_needed 7 = .ok (.iconst 0, 1) := by decide +kernel
theorem dL_needed_8 : decode cL_needed 8 = .ok (.iconst 1, 1) := by decide +kernel
theorem dL_needed_9 : decode cL_needed 9 = .ok (.iastore, 1) := by decide +kernel
theorem dL_needed_10 : decode cL_needed 10 = .ok (.iconst 1, 1) := by decide +kernel
theorem dL_needed_11 : decode cL_needed 11 = .ok (.istore 6, 2) := by decide +kernel
theorem dL_needed_13 : decode cL_needed 13 = .ok (.iconst 0, 1) := by decide +kernel
theorem dL_needed_14 : decode cL_needed 14 = .ok (.istore 7, 2) := by decide +kernel
theorem dL_needed_16 : decode cL_needed 16 = .ok (.iconst 0, 1) := by decide +kernel
theorem dL_needed_17 : decode cL_needed 17 = .ok (.istore 8, 2) := by decide +kernel
theorem dL_needed_19 : decode cL_needed 19 = .ok (.iload 8, 2) := by decide +kernel
theorem dL_needed_21 : decode cL_needed 21 = .ok (.iload 6, 2) := by decide +kernel
theorem dL_needed_23 : decode cL_needed 23 = .ok (.if_icmp .ge 141, 3) := by decide +kernel
theorem dL_needed_26 : decode cL_needed 26 = .ok (.aload_n 0, 1) := by decide +kernel
theorem dL_needed_27 : decode cL_needed 27 = .ok (.aload_n 1, 1) := by decide +kernel
theorem dL_needed_28 : decode cL_needed 28 = .ok (.aload 4, 2) := by decide +kernel
theorem dL_needed_30 : decode cL_needed 30 = .ok (.iload 8, 2) := by decide +kernel
theorem dL_needed_32 : decode cL_needed 32 = .ok (.laload, 1) := by decide +kernel
theorem dL_needed_33 : decode cL_needed 33 = .ok (.iconst 0, 1) := by decide +kernel
theorem dL_needed_34 : decode cL_needed 34 = .ok (.invokestatic 101, 3) := by decide +kernel
theorem dL_needed_37 : decode cL_needed 37 = .ok (.istore 9, 2) := by decide +kernel
theorem dL_needed_39 : decode cL_needed 39 = .ok (.aload 5, 2) := by decide +kernel
theorem dL_needed_41 : decode cL_needed 41 = .ok (.iload 8, 2) := by decide +kernel
theorem dL_needed_43 : decode cL_needed 43 = .ok (.iaload, 1) := by decide +kernel
theorem dL_needed_44 : decode cL_needed 44 = .ok (.iload 7, 2) := by decide +kernel
theorem dL_needed_46 : decode cL_needed 46 = .ok (.if_icmp .le 11, 3) := by decide +kernel
theorem dL_needed_49 : decode cL_needed 49 = .ok (.aload 5, 2) := by decide +kernel
theorem dL_needed_51 : decode cL_needed 51 = .ok (.iload 8, 2) := by decide +kernel
theorem dL_needed_53 : decode cL_needed 53 = .ok (.iaload, 1) := by decide +kernel
theorem dL_needed_54 : decode cL_needed 54 = .ok (.goto 5, 3) := by decide +kernel
theorem dL_needed_57 : decode cL_needed 57 = .ok (.iload 7, 2) := by decide +kernel
theorem dL_needed_59 : decode cL_needed 59 = .ok (.istore 7, 2) := by decide +kernel
theorem dL_needed_61 : decode cL_needed 61 = .ok (.aload 4, 2) := by decide +kernel
theorem dL_needed_63 : decode cL_needed 63 = .ok (.iload 8, 2) := by decide +kernel
theorem dL_needed_65 : decode cL_needed 65 = .ok (.laload, 1) := by decide +kernel
theorem dL_needed_66 : decode cL_needed 66 = .ok (.lconst 1, 1) := by decide +kernel
theorem dL_needed_67 : decode cL_needed 67 = .ok (.iload 9, 2) := by decide +kernel
theorem dL_needed_69 : decode cL_needed 69 = .ok (.lshl, 1) := by decide +kernel
theorem dL_needed_70 : decode cL_needed 70 = .ok (.ldc2_w 95, 3) := by decide +kernel
theorem dL_needed_73 : decode cL_needed 73 = .ok (.lxor, 1) := by decide +kernel
theorem dL_needed_74 : decode cL_needed 74 = .ok (.land, 1) := by decide +kernel
theorem dL_needed_75 : decode cL_needed 75 = .ok (.lstore 10, 2) := by decide +kernel
theorem dL_needed_77 : decode cL_needed 77 = .ok (.lload 10, 2) := by decide +kernel
theorem dL_needed_79 : decode cL_needed 79 = .ok (.lconst 0, 1) := by decide +kernel
theorem dL_needed_80 : decode cL_needed 80 = .ok (.lcmp, 1) := by decide +kernel
theorem dL_needed_81 : decode cL_needed 81 = .ok (.ifCond .eq 77, 3) := by decide +kernel
theorem dL_needed_84 : decode cL_needed 84 = .ok (.iconst 0, 1) := by decide +kernel
theorem dL_needed_85 : decode cL_needed 85 = .ok (.istore 12, 2) := by decide +kernel
theorem dL_needed_87 : decode cL_needed 87 = .ok (.lload 10, 2) := by decide +kernel
theorem dL_needed_89 : decode cL_needed 89 = .ok (.iload 12, 2) := by decide +kernel
theorem dL_needed_91 : decode cL_needed 91 = .ok (.invokestatic 83, 3) := by decide +kernel
theorem dL_needed_94 : decode cL_needed 94 = .ok (.ifCond .ne 9, 3) := by decide +kernel
theorem dL_needed_97 : decode cL_needed 97 = .ok (.iinc 12 1, 3) := by decide +kernel
theorem dL_needed_100 : decode cL_needed 100 = .ok (.goto (-13), 3) := by decide +kernel
theorem dL_needed_103 : decode cL_needed 103 = .ok (.aload 4, 2) := by decide +kernel
theorem dL_needed_105 : decode cL_needed 105 = .ok (.iload 6, 2) := by decide +kernel
theorem dL_needed_107 : decode cL_needed 107 = .ok (.aload_n 0, 1) := by decide +kernel
theorem dL_needed_108 : decode cL_needed 108 = .ok (.aload_n 1, 1) := by decide +kernel
theorem dL_needed_109 : decode cL_needed 109 = .ok (.lload 10, 2) := by decide +kernel
theorem dL_needed_111 : decode cL_needed 111 = .ok (.iload 9, 2) := by decide +kernel
theorem dL_needed_113 : decode cL_needed 113 = .ok (.aload_n 0, 1) := by decide +kernel
theorem dL_needed_114 : decode cL_needed 114 = .ok (.aload_n 1, 1) := by decide +kernel
theorem dL_needed_115 : decode cL_needed 115 = .ok (.iload 9, 2) := by decide +kernel
theorem dL_needed_117 : decode cL_needed 117 = .ok (.iload 12, 2) := by decide +kernel
theorem dL_needed_119 : decode cL_needed 119 = .ok (.invokestatic 75, 3) := by decide +kernel
theorem dL_needed_122 : decode cL_needed 122 = .ok (.invokestatic 87, 3) := by decide +kernel
theorem dL_needed_125 : decode cL_needed 125 = .ok (.lastore, 1) := by decide +kernel
theorem dL_needed_126 : decode cL_needed 126 = .ok (.aload 5, 2) := by decide +kernel
theorem dL_needed_128 : decode cL_needed 128 = .ok (.iload 6, 2) := by decide +kernel
theorem dL_needed_130 : decode cL_needed 130 = .ok (.aload 5, 2) := by decide +kernel
theorem dL_needed_132 : decode cL_needed 132 = .ok (.iload 8, 2) := by decide +kernel
theorem dL_needed_134 : decode cL_needed 134 = .ok (.iaload, 1) := by decide +kernel
theorem dL_needed_135 : decode cL_needed 135 = .ok (.iconst 1, 1) := by decide +kernel
theorem dL_needed_136 : decode cL_needed 136 = .ok (.iadd, 1) := by decide +kernel
theorem dL_needed_137 : decode cL_needed 137 = .ok (.iastore, 1) := by decide +kernel
theorem dL_needed_138 : decode cL_needed 138 = .ok (.lload 10, 2) := by decide +kernel
theorem dL_needed_140 : decode cL_needed 140 = .ok (.aload 4, 2) := by decide +kernel
theorem dL_needed_142 : decode cL_needed 142 = .ok (.iload 6, 2) := by decide +kernel
theorem dL_needed_144 : decode cL_needed 144 = .ok (.laload, 1) := by decide +kernel
theorem dL_needed_145 : decode cL_needed 145 = .ok (.ldc2_w 95, 3) := by decide +kernel
theorem dL_needed_148 : decode cL_needed 148 = .ok (.lxor, 1) := by decide +kernel
theorem dL_needed_149 : decode cL_needed 149 = .ok (.land, 1) := by decide +kernel
theorem dL_needed_150 : decode cL_needed 150 = .ok (.lstore 10, 2) := by decide +kernel
theorem dL_needed_152 : decode cL_needed 152 = .ok (.iinc 6 1, 3) := by decide +kernel
theorem dL_needed_155 : decode cL_needed 155 = .ok (.goto (-78), 3) := by decide +kernel
theorem dL_needed_158 : decode cL_needed 158 = .ok (.iinc 8 1, 3) := by decide +kernel
theorem dL_needed_161 : decode cL_needed 161 = .ok (.goto (-142), 3) := by decide +kernel
theorem dL_needed_164 : decode cL_needed 164 = .ok (.iload 7, 2) := by decide +kernel
theorem dL_needed_166 : decode cL_needed 166 = .ok (.ireturn, 1) := by decide +kernel
set_option maxRecDepth 20000 in
theorem ggL_proof_L_many : GoodIn wsL_proof wsL_many := goodIn_r _ [4] (by decide +kernel) (by decide +kernel)
set_option maxRecDepth 20000 in
theorem gL_proof_L_many : GoodIn wsL_proof (va_wsS RL 91 yL_many wsL_many) := goodIn_app (goodIn_of _ (by decide +kernel)) ggL_proof_L_many
set_option maxRecDepth 20000 in
theorem ggL_proof_L_pins : GoodIn wsL_proof wsL_pins := goodIn_r _ [7, 8, 9] (by decide +kernel) (by decide +kernel)
set_option maxRecDepth 20000 in
theorem gL_proof_L_pins : GoodIn wsL_proof (va_wsS RL 75 yL_pins wsL_pins) := goodIn_app (goodIn_of _ (by decide +kernel)) ggL_proof_L_pins
theorem dL_proof_0 : decode cL_proof 0 = .ok (.lload 4, 2) := by decide +kernel
theorem dL_proof_2 : decode cL_proof 2 = .ok (.invokestatic 91, 3) := by decide +kernel
theorem dL_proof_5 : decode cL_proof 5 = .ok (.iconst 1, 1) := by decide +kernel
theorem dL_proof_6 : decode cL_proof 6 = .ok (.if_icmp .eq 5, 3) := by decide +kernel
theorem dL_proof_9 : decode cL_proof 9 = .ok (.iconst 0, 1) := by decide +kernel
theorem dL_proof_10 : decode cL_proof 10 = .ok (.ireturn, 1) := by decide +kernel
theorem dL_proof_11 : decode cL_proof 11 = .ok (.iconst 1, 1) := by decide +kernel
theorem dL_proof_12 : decode cL_proof 12 = .ok (.istore 6, 2) := by decide +kernel
theorem dL_proof_14 : decode cL_proof 14 = .ok (.iload 6, 2) := by decide +kernel
theorem dL_proof_16 : decode cL_proof 16 = .ok (.aload_n 0, 1) := by decide +kernel
theorem dL_proof_17 : decode cL_proof 17 = .ok (.iconst 5, 1) := by decide +kernel
theorem dL_proof_18 : decode cL_proof 18 = .ok (.iaload, 1) := by decide +kernel
theorem dL_proof_19 : decode cL_proof 19 = .ok (.if_icmp .gt 161, 3) := by decide +kernel
theorem dL_proof_22 : decode cL_proof 22 = .ok (.iconst 1, 1) := by decide +kernel
theorem dL_proof_23 : decode cL_proof 23 = .ok (.aload_n 0, 1) := by decide +kernel
theorem dL_proof_24 : decode cL_proof 24 = .ok (.iconst 5, 1) := by decide +kernel
theorem dL_proof_25 : decode cL_proof 25 = .ok (.iaload, 1) := by decide +kernel
theorem dL_proof_26 : decode cL_proof 26 = .ok (.ishl, 1) := by decide +kernel
theorem dL_proof_27 : decode cL_proof 27 = .ok (.iconst 1, 1) := by decide +kernel
theorem dL_proof_28 : decode cL_proof 28 = .ok (.isub, 1) := by decide +kernel
theorem dL_proof_29 : decode cL_proof 29 = .ok (.istore 7, 2) := by decide +kernel
theorem dL_proof_31 : decode cL_proof 31 = .ok (.iload 7, 2) := by decide +kernel
theorem dL_proof_33 : decode cL_proof 33 = .ok (.ifCond .le 141, 3) := by decide +kernel
theorem dL_proof_36 : decode cL_proof 36 = .ok (.iload 7, 2) := by decide +kernel
theorem dL_proof_38 : decode cL_proof 38 = .ok (.i2l, 1) := by decide +kernel
theorem dL_proof_39 : decode cL_proof 39 = .ok (.invokestatic 91, 3) := by decide +kernel
theorem dL_proof_42 : decode cL_proof 42 = .ok (.iload 6, 2) := by decide +kernel
theorem dL_proof_44 : decode cL_proof 44 = .ok (.if_icmp .eq 6, 3) := by decide +kernel
theorem dL_proof_47 : decode cL_proof 47 = .ok (.goto 121, 3) := by decide +kernel
theorem dL_proof_50 : decode cL_proof 50 = .ok (.iconst 0, 1) := by decide +kernel
theorem dL_proof_51 : decode cL_proof 51 = .ok (.istore 8, 2) := by decide +kernel
theorem dL_proof_53 : decode cL_proof 53 = .ok (.iconst 0, 1) := by decide +kernel
theorem dL_proof_54 : decode cL_proof 54 = .ok (.istore 9, 2) := by decide +kernel
theorem dL_proof_56 : decode cL_proof 56 = .ok (.iload 9, 2) := by decide +kernel
theorem dL_proof_58 : decode cL_proof 58 = .ok (.aload_n 0, 1) := by decide +kernel
theorem dL_proof_59 : decode cL_proof 59 = .ok (.iconst 2, 1) := by decide +kernel
theorem dL_proof_60 : decode cL_proof 60 = .ok (.iaload, 1) := by decide +kernel
theorem dL_proof_61 : decode cL_proof 61 = .ok (.if_icmp .ge 98, 3) := by decide +kernel
theorem dL_proof_64 : decode cL_proof 64 = .ok (.iload 8, 2) := by decide +kernel
theorem dL_proof_66 : decode cL_proof 66 = .ok (.iconst 2, 1) := by decide +kernel
theorem dL_proof_67 : decode cL_proof 67 = .ok (.if_icmp .ge 92, 3) := by decide +kernel
theorem dL_proof_70 : decode cL_proof 70 = .ok (.iconst 0, 1) := by decide +kernel
theorem dL_proof_71 : decode cL_proof 71 = .ok (.istore 10, 2) := by decide +kernel
theorem dL_proof_73 : decode cL_proof 73 = .ok (.iconst 0, 1) := by decide +kernel
theorem dL_proof_74 : decode cL_proof 74 = .ok (.istore 11, 2) := by decide +kernel
theorem dL_proof_76 : decode cL_proof 76 = .ok (.iload 11, 2) := by decide +kernel
theorem dL_proof_78 : decode cL_proof 78 = .ok (.aload_n 0, 1) := by decide +kernel
theorem dL_proof_79 : decode cL_proof 79 = .ok (.iconst 5, 1) := by decide +kernel
theorem dL_proof_80 : decode cL_proof 80 = .ok (.iaload, 1) := by decide +kernel
theorem dL_proof_81 : decode cL_proof 81 = .ok (.if_icmp .ge 54, 3) := by decide +kernel
theorem dL_proof_84 : decode cL_proof 84 = .ok (.iload 10, 2) := by decide +kernel
theorem dL_proof_86 : decode cL_proof 86 = .ok (.iload 7, 2) := by decide +kernel
theorem dL_proof_88 : decode cL_proof 88 = .ok (.aload_n 0, 1) := by decide +kernel
theorem dL_proof_89 : decode cL_proof 89 = .ok (.iconst 5, 1) := by decide +kernel
theorem dL_proof_90 : decode cL_proof 90 = .ok (.iaload, 1) := by decide +kernel
theorem dL_proof_91 : decode cL_proof 91 = .ok (.iconst 1, 1) := by decide +kernel
theorem dL_proof_92 : decode cL_proof 92 = .ok (.isub, 1) := by decide +kernel
theorem dL_proof_93 : decode cL_proof 93 = .ok (.iload 11, 2) := by decide +kernel
theorem dL_proof_95 : decode cL_proof 95 = .ok (.isub, 1) := by decide +kernel
theorem dL_proof_96 : decode cL_proof 96 = .ok (.ishr, 1) := by decide +kernel
theorem dL_proof_97 : decode cL_proof 97 = .ok (.iconst 1, 1) := by decide +kernel
theorem dL_proof_98 : decode cL_proof 98 = .ok (.iand, 1) := by decide +kernel
theorem dL_proof_99 : decode cL_proof 99 = .ok (.iconst 1, 1) := by decide +kernel
theorem dL_proof_100 : decode cL_proof 100 = .ok (.if_icmp .ne 25, 3) := by decide +kernel
theorem dL_proof_103 : decode cL_proof 103 = .ok (.aload_n 0, 1) := by decide +kernel
theorem dL_proof_104 : decode cL_proof 104 = .ok (.aload_n 1, 1) := by decide +kernel
theorem dL_proof_105 : decode cL_proof 105 = .ok (.aload_n 2, 1) := by decide +kernel
theorem dL_proof_106 : decode cL_proof 106 = .ok (.iload 11, 2) := by decide +kernel
theorem dL_proof_108 : decode cL_proof 108 = .ok (.iaload, 1) := by decide +kernel
theorem dL_proof_109 : decode cL_proof 109 = .ok (.iload 9, 2) := by decide +kernel
theorem dL_proof_111 : decode cL_proof 111 = .ok (.invokestatic 75, 3) := by decide +kernel
theorem dL_proof_114 : decode cL_proof 114 = .ok (.aload_n 3, 1) := by decide +kernel
theorem dL_proof_115 : decode cL_proof 115 = .ok (.iload 11, 2) := by decide +kernel
theorem dL_proof_117 : decode cL_proof 117 = .ok (.iaload, 1) := by decide +kernel
theorem dL_proof_118 : decode cL_proof 118 = .ok (.if_icmp .eq 7, 3) := by decide +kernel
theorem dL_proof_121 : decode cL_proof 121 = .ok (.iconst 1, 1) := by decide +kernel
theorem dL_proof_122 : decode cL_proof 122 = .ok (.goto 4, 3) := by decide +kernel
theorem dL_proof_125 : decode cL_proof 125 = .ok (.iconst 0, 1) := by decide +kernel
theorem dL_proof_126 : decode cL_proof 126 = .ok (.iadd, 1) := by decide +kernel
theorem dL_proof_127 : decode cL_proof 127 = .ok (.istore 10, 2) := by decide +kernel
theorem dL_proof_129 : decode cL_proof 129 = .ok (.iinc 11 1, 3) := by decide +kernel
theorem dL_proof_132 : decode cL_proof 132 = .ok (.goto (-56), 3) := by decide +kernel
theorem dL_proof_135 : decode cL_proof 135 = .ok (.iload 8, 2) := by decide +kernel
theorem dL_proof_137 : decode cL_proof 137 = .ok (.iload 10, 2) := by decide +kernel
theorem dL_proof_139 : decode cL_proof 139 = .ok (.aload_n 0, 1) := by decide +kernel
theorem dL_proof_140 : decode cL_proof 140 = .ok (.iconst 3, 1) := by decide +kernel
theorem dL_proof_141 : decode cL_proof 141 = .ok (.iaload, 1) := by decide +kernel
theorem dL_proof_142 : decode cL_proof 142 = .ok (.if_icmp .le 7, 3) := by decide +kernel
theorem dL_proof_145 : decode cL_proof 145 = .ok (.iconst 0, 1) := by decide +kernel
theorem dL_proof_146 : decode cL_proof 146 = .ok (.goto 4, 3) := by decide +kernel
theorem dL_proof_149 : decode cL_proof 149 = .ok (.iconst 1, 1) := by decide +kernel
theorem dL_proof_150 : decode cL_proof 150 = .ok (.iadd, 1) := by decide +kernel
theorem dL_proof_151 : decode cL_proof 151 = .ok (.istore 8, 2) := by decide +kernel
theorem dL_proof_153 : decode cL_proof 153 = .ok (.iinc 9 1, 3) := by decide +kernel
theorem dL_proof_156 : decode cL_proof 156 = .ok (.goto (-100), 3) := by decide +kernel
theorem dL_proof_159 : decode cL_proof 159 = .ok (.iload 8, 2) := by decide +kernel
theorem dL_proof_161 : decode cL_proof 161 = .ok (.iconst 1, 1) := by decide +kernel
theorem dL_proof_162 : decode cL_proof 162 = .ok (.if_icmp .ne 6, 3) := by decide +kernel
theorem dL_proof_165 : decode cL_proof 165 = .ok (.iload 7, 2) := by decide +kernel
theorem dL_proof_167 : decode cL_proof 167 = .ok (.ireturn, 1) := by decide +kernel
theorem dL_proof_168 : decode cL_proof 168 = .ok (.iinc 7 (-1), 3) := by decide +kernel
theorem dL_proof_171 : decode cL_proof 171 = .ok (.goto (-140), 3) := by decide +kernel
theorem dL_proof_174 : decode cL_proof 174 = .ok (.iinc 6 1, 3) := by decide +kernel
theorem dL_proof_177 : decode cL_proof 177 = .ok (.goto (-163), 3) := by decide +kernel
theorem dL_proof_180 : decode cL_proof 180 = .ok (.iconst 0, 1) := by decide +kernel
theorem dL_proof_181 : decode cL_proof 181 = .ok (.ireturn, 1) := by decide +kernel
