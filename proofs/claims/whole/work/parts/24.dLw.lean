set_option maxRecDepth 20000 in
theorem ggL_begin_X3_begin : GoodIn wsL_begin wsX3_begin := goodIn_ca (goodIn_r _ [6, 7, 8, 9, 10, 11, 12, 13, 14, 15, 16, 17, 18, 19, 20, 21, 22, 23, 24, 25, 26, 27, 28, 29, 30, 31, 32, 33, 34, 35, 5, 36, 37, 38, 39, 40, 41, 42, 43, 44, 45, 46, 47, 48, 49, 50, 51, 52, 53, 54, 55, 56, 57, 58, 59, 60, 61, 62, 63, 64, 65, 66, 67, 68, 69, 70, 71, 72, 73, 74, 75, 76, 77, 78, 79, 80, 81, 82, 83, 84, 85, 86, 87, 88, 89, 90, 91, 92, 93, 94, 95, 96, 97, 98, 99] (by decide +kernel) (by decide +kernel)) (goodIn_sub (fun _ h => List.mem_cons_of_mem _ (List.mem_append_right _ h)) (by decide +kernel))
set_option maxRecDepth 20000 in
theorem gL_begin_X3_begin : GoodIn wsL_begin (wsV RL 7 RX3 yX3_begin wsX3_begin) := goodIn_app (goodIn_of _ (by decide +kernel)) ggL_begin_X3_begin
theorem dL_begin_0 : decode cL_begin 0 = .ok (.aload_n 3, 1) := by decide +kernel
theorem dL_begin_1 : decode cL_begin 1 = .ok (.iconst 0, 1) := by decide +kernel
theorem dL_begin_2 : decode cL_begin 2 = .ok (.aload_n 0, 1) := by decide +kernel
theorem dL_begin_3 : decode cL_begin 3 = .ok (.iload_n 1, 1) := by decide +kernel
theorem dL_begin_4 : decode cL_begin 4 = .ok (.iload_n 2, 1) := by decide +kernel
theorem dL_begin_5 : decode cL_begin 5 = .ok (.invokevirtual 7, 3) := by decide +kernel
theorem dL_begin_8 : decode cL_begin 8 = .ok (.i2l, 1) := by decide +kernel
theorem dL_begin_9 : decode cL_begin 9 = .ok (.lastore, 1) := by decide +kernel
theorem dL_begin_10 : decode cL_begin 10 = .ok (.goto 7, 3) := by decide +kernel
theorem dL_begin_13 : decode cL_begin 13 = .ok (.astore 4, 2) := by decide +kernel
theorem dL_begin_15 : decode cL_begin 15 = .ok (.iconst 1, 1) := by decide +kernel
theorem dL_begin_16 : decode cL_begin 16 = .ok (.ireturn, 1) := by decide +kernel
theorem dL_begin_17 : decode cL_begin 17 = .ok (.iconst 0, 1) := by decide +kernel
theorem dL_begin_18 : decode cL_begin 18 = .ok (.ireturn, 1) := by decide +kernel
set_option maxRecDepth 20000 in
theorem ggL_colourAt_X3_colourAt : GoodIn wsL_colourAt wsX3_colourAt := goodIn_ca (goodIn_r _ [6, 7, 8, 9, 10, 11, 12, 13, 14, 15, 16, 17, 18, 19, 20, 21, 22, 23, 24, 25, 26, 27, 28, 29, 30, 31, 32, 33, 34, 35, 36] (by decide +kernel) (by decide +kernel)) (goodIn_sub (fun _ h => List.mem_cons_of_mem _ (List.mem_append_right _ h)) (by decide +kernel))
set_option maxRecDepth 20000 in
theorem gL_colourAt_X3_colourAt : GoodIn wsL_colourAt (wsV RL 15 RX3 yX3_colourAt wsX3_colourAt) := goodIn_app (goodIn_of _ (by decide +kernel)) ggL_colourAt_X3_colourAt
theorem dL_colourAt_0 : decode cL_colourAt 0 = .ok (.aload_n 3, 1) := by decide +kernel
theorem dL_colourAt_1 : decode cL_colourAt 1 = .ok (.iconst 0, 1) := by decide +kernel
theorem dL_colourAt_2 : decode cL_colourAt 2 = .ok (.aload_n 0, 1) := by decide +kernel
theorem dL_colourAt_3 : decode cL_colourAt 3 = .ok (.iload_n 1, 1) := by decide +kernel
theorem dL_colourAt_4 : decode cL_colourAt 4 = .ok (.iload_n 2, 1) := by decide +kernel
theorem dL_colourAt_5 : decode cL_colourAt 5 = .ok (.invokevirtual 15, 3) := by decide +kernel
theorem dL_colourAt_8 : decode cL_colourAt 8 = .ok (.i2l, 1) := by decide +kernel
theorem dL_colourAt_9 : decode cL_colourAt 9 = .ok (.lastore, 1) := by decide +kernel
theorem dL_colourAt_10 : decode cL_colourAt 10 = .ok (.goto 7, 3) := by decide +kernel
theorem dL_colourAt_13 : decode cL_colourAt 13 = .ok (.astore 4, 2) := by decide +kernel
theorem dL_colourAt_15 : decode cL_colourAt 15 = .ok (.iconst 1, 1) := by decide +kernel
theorem dL_colourAt_16 : decode cL_colourAt 16 = .ok (.ireturn, 1) := by decide +kernel
theorem dL_colourAt_17 : decode cL_colourAt 17 = .ok (.iconst 0, 1) := by decide +kernel
theorem dL_colourAt_18 : decode cL_colourAt 18 = .ok (.ireturn, 1) := by decide +kernel
set_option maxRecDepth 20000 in
theorem ggL_mark_X3_mark : GoodIn wsL_mark wsX3_mark := goodIn_ca (goodIn_r _ [6, 7, 8, 9, 10, 11, 12, 13, 14, 15, 16, 17, 18, 19, 20, 21, 22, 23, 24, 25, 26, 27, 28, 29, 30, 31, 32, 33, 34, 35, 36, 37, 38, 39, 40, 41, 42, 43, 44, 45, 46, 47, 48, 49, 50, 51] (by decide +kernel) (by decide +kernel)) (goodIn_sub (fun _ h => List.mem_cons_of_mem _ (List.mem_append_right _ h)) (by decide +kernel))
set_option maxRecDepth 20000 in
theorem gL_mark_X3_mark : GoodIn wsL_mark (wsV RL 20 RX3 yX3_mark wsX3_mark) := goodIn_app (goodIn_of _ (by decide +kernel)) ggL_mark_X3_mark
theorem dL_mark_0 : decode cL_mark 0 = .ok (.aload_n 3, 1) := by decide +kernel
theorem dL_mark_1 : decode cL_mark 1 = .ok (.iconst 0, 1) := by decide +kernel
theorem dL_mark_2 : decode cL_mark 2 = .ok (.aload_n 0, 1) := by decide +kernel
theorem dL_mark_3 : decode cL_mark 3 = .ok (.iload_n 1, 1) := by decide +kernel
theorem dL_mark_4 : decode cL_mark 4 = .ok (.iload_n 2, 1) := by decide +kernel
theorem dL_mark_5 : decode cL_mark 5 = .ok (.invokevirtual 20, 3) := by decide +kernel
theorem dL_mark_8 : decode cL_mark 8 = .ok (.i2l, 1) := by decide +kernel
theorem dL_mark_9 : decode cL_mark 9 = .ok (.lastore, 1) := by decide +kernel
theorem dL_mark_10 : decode cL_mark 10 = .ok (.goto 7, 3) := by decide +kernel
theorem dL_mark_13 : decode cL_mark 13 = .ok (.astore 4, 2) := by decide +kernel
theorem dL_mark_15 : decode cL_mark 15 = .ok (.iconst 1, 1) := by decide +kernel
theorem dL_mark_16 : decode cL_mark 16 = .ok (.ireturn, 1) := by decide +kernel
theorem dL_mark_17 : decode cL_mark 17 = .ok (.iconst 0, 1) := by decide +kernel
theorem dL_mark_18 : decode cL_mark 18 = .ok (.ireturn, 1) := by decide +kernel
set_option maxRecDepth 20000 in
theorem ggL_allowLies_X3_allowLies : GoodIn wsL_allowLies wsX3_allowLies := goodIn_ca (goodIn_ca (goodIn_r _ [7, 8, 9, 10, 11, 12, 13, 14, 15, 16, 17, 18, 19, 20, 21, 22, 23, 24, 25, 26, 27, 28, 29, 30, 31, 32, 33, 34, 35, 36, 37, 38, 39, 40, 41, 42, 43, 44, 45, 46, 6, 47, 48, 49, 50, 51, 52, 53, 54, 55, 56, 57, 58, 59, 60, 61, 62, 63, 64, 65, 66, 67, 68, 69, 70, 71, 72, 73] (by decide +kernel) (by decide +kernel)) (goodIn_sub (fun _ h => List.mem_cons_of_mem _ (List.mem_append_left _ (List.mem_append_right _ h))) (by decide +kernel))) (goodIn_sub (fun _ h => List.mem_cons_of_mem _ (List.mem_append_right _ h)) (by decide +kernel))
set_option maxRecDepth 20000 in
theorem gL_allowLies_X3_allowLies : GoodIn wsL_allowLies (wsV RL 23 RX3 yX3_allowLies wsX3_allowLies) := goodIn_app (goodIn_of _ (by decide +kernel)) ggL_allowLies_X3_allowLies
theorem dL_allowLies_0 : decode cL_allowLies 0 = .ok (.aload_n 2, 1) := by decide +kernel
theorem dL_allowLies_1 : decode cL_allowLies 1 = .ok (.iconst 0, 1) := by decide +kernel
theorem dL_allowLies_2 : decode cL_allowLies 2 = .ok (.aload_n 0, 1) := by decide +kernel
theorem dL_allowLies_3 : decode cL_allowLies 3 = .ok (.iload_n 1, 1) := by decide +kernel
theorem dL_allowLies_4 : decode cL_allowLies 4 = .ok (.invokevirtual 23, 3) := by decide +kernel
theorem dL_allowLies_7 : decode cL_allowLies 7 = .ok (.i2l, 1) := by decide +kernel
theorem dL_allowLies_8 : decode cL_allowLies 8 = .ok (.lastore, 1) := by decide +kernel
theorem dL_allowLies_9 : decode cL_allowLies 9 = .ok (.goto 9, 3) := by decide +kernel
theorem dL_allowLies_12 : decode cL_allowLies 12 = .ok (.astore_n 3, 1) := by decide +kernel
theorem dL_allowLies_13 : decode cL_allowLies 13 = .ok (.iconst 1, 1) := by decide +kernel
theorem dL_allowLies_14 : decode cL_allowLies 14 = .ok (.ireturn, 1) := by decide +kernel
theorem dL_allowLies_15 : decode cL_allowLies 15 = .ok (.astore_n 3, 1) := by decide +kernel
theorem dL_allowLies_16 : decode cL_allowLies 16 = .ok (.iconst 2, 1) := by decide +kernel
theorem dL_allowLies_17 : decode cL_allowLies 17 = .ok (.ireturn, 1) := by decide +kernel
theorem dL_allowLies_18 : decode cL_allowLies 18 = .ok (.iconst 0, 1) := by decide +kernel
theorem dL_allowLies_19 : decode cL_allowLies 19 = .ok (.ireturn, 1) := by decide +kernel
set_option maxRecDepth 20000 in
theorem ggL_hide_X3_hide : GoodIn wsL_hide wsX3_hide := goodIn_ca (goodIn_ca (goodIn_r _ [7, 8, 9, 10, 11, 12, 13, 6, 14, 15, 16, 17, 18, 19, 20, 21, 22, 23, 24, 25, 26, 27, 28, 29, 30, 31, 32, 33, 34, 35, 36, 37, 38, 39, 40, 41, 42, 43, 44, 45, 46, 47, 48, 49, 50, 51, 52, 53, 54, 55, 56, 57, 58, 59, 60, 61, 62, 63, 64, 65, 66, 67, 68, 69, 70, 71] (by decide +kernel) (by decide +kernel)) (goodIn_sub (fun _ h => List.mem_cons_of_mem _ (List.mem_append_left _ (List.mem_append_right _ h))) (by decide +kernel))) (goodIn_sub (fun _ h => List.mem_cons_of_mem _ (List.mem_append_right _ h)) (by decide +kernel))
set_option maxRecDepth 20000 in
theorem gL_hide_X3_hide : GoodIn wsL_hide (wsV RL 29 RX3 yX3_hide wsX3_hide) := goodIn_app (goodIn_of _ (by decide +kernel)) ggL_hide_X3_hide
theorem dL_hide_0 : decode cL_hide 0 = .ok (.aload_n 2, 1) := by decide +kernel
theorem dL_hide_1 : decode cL_hide 1 = .ok (.iconst 0, 1) := by decide +kernel
theorem dL_hide_2 : decode cL_hide 2 = .ok (.aload_n 0, 1) := by decide +kernel
theorem dL_hide_3 : decode cL_hide 3 = .ok (.iload_n 1, 1) := by decide +kernel
theorem dL_hide_4 : decode cL_hide 4 = .ok (.invokevirtual 29, 3) := by decide +kernel
theorem dL_hide_7 : decode cL_hide 7 = .ok (.ifCond .eq 7, 3) := by decide +kernel
theorem dL_hide_10 : decode cL_hide 10 = .ok (.lconst 1, 1) := by decide +kernel
theorem dL_hide_11 : decode cL_hide 11 = .ok (.goto 4, 3) := by decide +kernel
theorem dL_hide_14 : decode cL_hide 14 = .ok (.lconst 0, 1) := by decide +kernel
theorem dL_hide_15 : decode cL_hide 15 = .ok (.lastore, 1) := by decide +kernel
theorem dL_hide_16 : decode cL_hide 16 = .ok (.goto 9, 3) := by decide +kernel
theorem dL_hide_19 : decode cL_hide 19 = .ok (.astore_n 3, 1) := by decide +kernel
theorem dL_hide_20 : decode cL_hide 20 = .ok (.iconst 1, 1) := by decide +kernel
theorem dL_hide_21 : decode cL_hide 21 = .ok (.ireturn, 1) := by decide +kernel
theorem dL_hide_22 : decode cL_hide 22 = .ok (.astore_n 3, 1) := by decide +kernel
theorem dL_hide_23 : decode cL_hide 23 = .ok (.iconst 2, 1) := by decide +kernel
theorem dL_hide_24 : decode cL_hide 24 = .ok (.ireturn, 1) := by decide +kernel
theorem dL_hide_25 : decode cL_hide 25 = .ok (.iconst 0, 1) := by decide +kernel
theorem dL_hide_26 : decode cL_hide 26 = .ok (.ireturn, 1) := by decide +kernel
set_option maxRecDepth 20000 in
theorem ggL_guess_X3_guess : GoodIn wsL_guess wsX3_guess := goodIn_ca (goodIn_ca (goodIn_r _ [7, 8, 9, 10, 11, 12, 13, 14, 15, 6, 16, 17, 18, 19, 20, 21, 22, 23, 24, 25, 26, 27, 28, 29, 30, 31, 32, 33, 34, 35, 36, 37, 38, 39, 40, 41, 42, 43, 44, 45, 46, 47, 48, 49, 50, 51, 52, 53, 54, 55, 56, 57, 58, 59, 60, 61, 62, 63, 64, 65, 66, 67, 68, 69, 70, 71, 72, 73, 74, 75, 76, 77, 78, 79, 80, 81, 82, 83, 84, 85, 86, 87, 88, 89, 90, 91, 92, 93, 94, 95, 96, 97, 98, 99, 100, 101, 102, 103, 104, 105, 106, 107, 108, 109, 110, 111, 112] (by decide +kernel) (by decide +kernel)) (goodIn_sub (fun _ h => List.mem_cons_of_mem _ (List.mem_append_left _ (List.mem_append_right _ h))) (by decide +kernel))) (goodIn_sub (fun _ h => List.mem_cons_of_mem _ (List.mem_append_right _ h)) (by decide +kernel))
set_option maxRecDepth 20000 in
theorem gL_guess_X3_guess : GoodIn wsL_guess (wsV RL 33 RX3 yX3_guess wsX3_guess) := goodIn_app (goodIn_of _ (by decide +kernel)) ggL_guess_X3_guess
theorem dL_guess_0 : decode cL_guess 0 = .ok (.aload_n 2, 1) := by decide +kernel
theorem dL_guess_1 : decode cL_guess 1 = .ok (.iconst 0, 1) := by decide +kernel
theorem dL_guess_2 : decode cL_guess 2 = .ok (.aload_n 0, 1) := by decide +kernel
theorem dL_guess_3 : decode cL_guess 3 = .ok (.iload_n 1, 1) := by decide +kernel
theorem dL_guess_4 : decode cL_guess 4 = .ok (.invokevirtual 33, 3) := by decide +kernel
theorem dL_guess_7 : decode cL_guess 7 = .ok (.i2l, 1) := by decide +kernel
theorem dL_guess_8 : decode cL_guess 8 = .ok (.lastore, 1) := by decide +kernel
theorem dL_guess_9 : decode cL_guess 9 = .ok (.goto 9, 3) := by decide +kernel
theorem dL_guess_12 : decode cL_guess 12 = .ok (.astore_n 3, 1) := by decide +kernel
theorem dL_guess_13 : decode cL_guess 13 = .ok (.iconst 1, 1) := by decide +kernel
theorem dL_guess_14 : decode cL_guess 14 = .ok (.ireturn, 1) := by decide +kernel
theorem dL_guess_15 : decode cL_guess 15 = .ok (.astore_n 3, 1) := by decide +kernel
theorem dL_guess_16 : decode cL_guess 16 = .ok (.iconst 2, 1) := by decide +kernel
theorem dL_guess_17 : decode cL_guess 17 = .ok (.ireturn, 1) := by decide +kernel
theorem dL_guess_18 : decode cL_guess 18 = .ok (.iconst 0, 1) := by decide +kernel
theorem dL_guess_19 : decode cL_guess 19 = .ok (.ireturn, 1) := by decide +kernel
set_option maxRecDepth 20000 in
theorem ggL_tell_X3_tell : GoodIn wsL_tell wsX3_tell := goodIn_ca (goodIn_ca (goodIn_ca (goodIn_r _ [8, 9, 10, 11, 12, 13, 14, 15, 7, 16, 17, 18, 19, 20, 21, 22, 23, 24, 25, 26, 27, 28, 29, 30, 31, 32, 33, 34, 35, 36, 37, 38, 39, 40, 41, 42, 43, 44, 45, 46, 47, 48, 49, 50, 51, 52, 53, 54, 55, 56, 57, 58, 59, 60, 61, 62, 63, 64, 65, 66, 67, 68, 69, 70, 71, 72, 73, 74, 75, 76, 77, 78, 79, 80, 81, 82, 83, 84, 85, 86, 87, 88, 89, 90, 91, 92, 93, 94, 95, 96, 97, 98, 99, 100, 101, 102, 103, 104, 105, 106, 107, 108, 109, 110, 111, 112, 113, 114, 115, 116, 117, 118, 119, 120, 121, 122, 123, 124, 125, 126, 127] (by decide +kernel) (by decide +kernel)) (goodIn_sub (fun _ h => List.mem_cons_of_mem _ (List.mem_append_left _ (List.mem_append_left _ (List.mem_append_right _ h)))) (by decide +kernel))) (goodIn_sub (fun _ h => List.mem_cons_of_mem _ (List.mem_append_left _ (List.mem_append_right _ h))) (by decide +kernel))) (goodIn_sub (fun _ h => List.mem_cons_of_mem _ (List.mem_append_right _ h)) (by decide +kernel))
set_option maxRecDepth 20000 in
theorem gL_tell_X3_tell : GoodIn wsL_tell (wsV RL 36 RX3 yX3_tell wsX3_tell) := goodIn_app (goodIn_of _ (by decide +kernel)) ggL_tell_X3_tell
theorem dL_tell_0 : decode cL_tell 0 = .ok (.aload_n 3, 1) := by decide +kernel
theorem dL_tell_1 : decode cL_tell 1 = .ok (.iconst 0, 1) := by decide +kernel
theorem dL_tell_2 : decode cL_tell 2 = .ok (.aload_n 0, 1) := by decide +kernel
theorem dL_tell_3 : decode cL_tell 3 = .ok (.iload_n 1, 1) := by decide +kernel
theorem dL_tell_4 : decode cL_tell 4 = .ok (.iload_n 2, 1) := by decide +kernel
theorem dL_tell_5 : decode cL_tell 5 = .ok (.invokevirtual 36, 3) := by decide +kernel
theorem dL_tell_8 : decode cL_tell 8 = .ok (.i2l, 1) := by decide +kernel
theorem dL_tell_9 : decode cL_tell 9 = .ok (.lastore, 1) := by decide +kernel
theorem dL_tell_10 : decode cL_tell 10 = .ok (.goto 15, 3) := by decide +kernel
theorem dL_tell_13 : decode cL_tell 13 = .ok (.astore 4, 2) := by decide +kernel
theorem dL_tell_15 : decode cL_tell 15 = .ok (.iconst 1, 1) := by decide +kernel
theorem dL_tell_16 : decode cL_tell 16 = .ok (.ireturn, 1) := by decide +kernel
theorem dL_tell_17 : decode cL_tell 17 = .ok (.astore 4, 2) := by decide +kernel
theorem dL_tell_19 : decode cL_tell 19 = .ok (.iconst 2, 1) := by decide +kernel
theorem dL_tell_20 : decode cL_tell 20 = .ok (.ireturn, 1) := by decide +kernel
theorem dL_tell_21 : decode cL_tell 21 = .ok (.astore 4, 2) := by decide +kernel
theorem dL_tell_23 : decode cL_tell 23 = .ok (.iconst 3, 1) := by decide +kernel
theorem dL_tell_24 : decode cL_tell 24 = .ok (.ireturn, 1) := by decide +kernel
theorem dL_tell_25 : decode cL_tell 25 = .ok (.iconst 0, 1) := by decide +kernel
theorem dL_tell_26 : decode cL_tell 26 = .ok (.ireturn, 1) := by decide +kernel
set_option maxRecDepth 20000 in
theorem ggL_takeBack_X3_takeBack : GoodIn wsL_takeBack wsX3_takeBack := goodIn_ca (goodIn_r _ [6, 7, 8, 9, 10, 11, 12, 13, 14, 15, 16, 17, 18, 19, 20, 21, 22, 23, 5, 24, 25, 26, 27, 28, 29, 30, 31, 32, 33, 34, 35, 36, 37, 38, 39, 40, 41, 42, 43, 44, 45, 46, 47, 48, 49, 50, 51, 52, 53, 54, 55, 56, 57, 58, 59, 60, 61, 62, 63, 64, 65, 66, 67, 68, 69, 70, 71, 72, 73, 74, 75] (by decide +kernel) (by decide +kernel)) (goodIn_sub (fun _ h => List.mem_cons_of_mem _ (List.mem_append_right _ h)) (by decide +kernel))
set_option maxRecDepth 20000 in
theorem gL_takeBack_X3_takeBack : GoodIn wsL_takeBack (wsV RL 39 RX3 yX3_takeBack wsX3_takeBack) := goodIn_app (goodIn_of _ (by decide +kernel)) ggL_takeBack_X3_takeBack
theorem dL_takeBack_0 : decode cL_takeBack 0 = .ok (.aload_n 1, 1) := by decide +kernel
theorem dL_takeBack_1 : decode cL_takeBack 1 = .ok (.iconst 0, 1) := by decide +kernel
theorem dL_takeBack_2 : decode cL_takeBack 2 = .ok (.aload_n 0, 1) := by decide +kernel
theorem dL_takeBack_3 : decode cL_takeBack 3 = .ok (.invokevirtual 39, 3) := by decide +kernel
theorem dL_takeBack_6 : decode cL_takeBack 6 = .ok (.i2l, 1) := by decide +kernel
theorem dL_takeBack_7 : decode cL_takeBack 7 = .ok (.lastore, 1) := by decide +kernel
theorem dL_takeBack_8 : decode cL_takeBack 8 = .ok (.goto 6, 3) := by decide +kernel
theorem dL_takeBack_11 : decode cL_takeBack 11 = .ok (.astore_n 2, 1) := by decide +kernel
theorem dL_takeBack_12 : decode cL_takeBack 12 = .ok (.iconst 1, 1) := by decide +kernel
theorem dL_takeBack_13 : decode cL_takeBack 13 = .ok (.ireturn, 1) := by decide +kernel
theorem dL_takeBack_14 : decode cL_takeBack 14 = .ok (.iconst 0, 1) := by decide +kernel
theorem dL_takeBack_15 : decode cL_takeBack 15 = .ok (.ireturn, 1) := by decide +kernel
set_option maxRecDepth 20000 in
theorem ggL_guessOf_X3_guessOf : GoodIn wsL_guessOf wsX3_guessOf := goodIn_ca (goodIn_r _ [6, 7, 8, 9, 10, 5, 11, 12, 13, 14, 15, 16, 17, 18, 19, 20, 21, 22, 23, 24, 25, 26, 27, 28, 29, 30, 31, 32, 33, 34, 35, 36, 37, 38] (by decide +kernel) (by decide +kernel)) (goodIn_sub (fun _ h => List.mem_cons_of_mem _ (List.mem_append_right _ h)) (by decide +kernel))
set_option maxRecDepth 20000 in
theorem gL_guessOf_X3_guessOf : GoodIn wsL_guessOf (wsV RL 43 RX3 yX3_guessOf wsX3_guessOf) := goodIn_app (goodIn_of _ (by decide +kernel)) ggL_guessOf_X3_guessOf
theorem dL_guessOf_0 : decode cL_guessOf 0 = .ok (.aload_n 2, 1) := by decide +kernel
theorem dL_guessOf_1 : decode cL_guessOf 1 = .ok (.iconst 0, 1) := by decide +kernel
theorem dL_guessOf_2 : decode cL_guessOf 2 = .ok (.aload_n 0, 1) := by decide +kernel
theorem dL_guessOf_3 : decode cL_guessOf 3 = .ok (.iload_n 1, 1) := by decide +kernel
theorem dL_guessOf_4 : decode cL_guessOf 4 = .ok (.invokevirtual 43, 3) := by decide +kernel
theorem dL_guessOf_7 : decode cL_guessOf 7 = .ok (.i2l, 1) := by decide +kernel
theorem dL_guessOf_8 : decode cL_guessOf 8 = .ok (.lastore, 1) := by decide +kernel
theorem dL_guessOf_9 : decode cL_guessOf 9 = .ok (.goto 6, 3) := by decide +kernel
theorem dL_guessOf_12 : decode cL_guessOf 12 = .ok (.astore_n 3, 1) := by decide +kernel
theorem dL_guessOf_13 : decode cL_guessOf 13 = .ok (.iconst 1, 1) := by decide +kernel
theorem dL_guessOf_14 : decode cL_guessOf 14 = .ok (.ireturn, 1) := by decide +kernel
theorem dL_guessOf_15 : decode cL_guessOf 15 = .ok (.iconst 0, 1) := by decide +kernel
theorem dL_guessOf_16 : decode cL_guessOf 16 = .ok (.ireturn, 1) := by decide +kernel
set_option maxRecDepth 20000 in
theorem ggL_markOf_X3_markOf : GoodIn wsL_markOf wsX3_markOf := goodIn_ca (goodIn_r _ [6, 7, 8, 9, 10, 5, 11, 12, 13, 14, 15, 16, 17, 18, 19, 20, 21, 22, 23, 24, 25, 26, 27, 28, 29, 30, 31, 32, 33, 34, 35, 36, 37, 38] (by decide +kernel) (by decide +kernel)) (goodIn_sub (fun _ h => List.mem_cons_of_mem _ (List.mem_append_right _ h)) (by decide +kernel))
set_option maxRecDepth 20000 in
theorem gL_markOf_X3_markOf : GoodIn wsL_markOf (wsV RL 46 RX3 yX3_markOf wsX3_markOf) := goodIn_app (goodIn_of _ (by decide +kernel)) ggL_markOf_X3_markOf
theorem dL_markOf_0 : decode cL_markOf 0 = .ok (.aload_n 2, 1) := by decide +kernel
theorem dL_markOf_1 : decode cL_markOf 1 = .ok (.iconst 0, 1) := by decide +kernel
theorem dL_markOf_2 : decode cL_markOf 2 = .ok (.aload_n 0, 1) := by decide +kernel
theorem dL_markOf_3 : decode cL_markOf 3 = .ok (.iload_n 1, 1) := by decide +kernel
theorem dL_markOf_4 : decode cL_markOf 4 = .ok (.invokevirtual 46, 3) := by decide +kernel
theorem dL_markOf_7 : decode cL_markOf 7 = .ok (.i2l, 1) := by decide +kernel
theorem dL_markOf_8 : decode cL_markOf 8 = .ok (.lastore, 1) := by decide +kernel
theorem dL_markOf_9 : decode cL_markOf 9 = .ok (.goto 6, 3) := by decide +kernel
theorem dL_markOf_12 : decode cL_markOf 12 = .ok (.astore_n 3, 1) := by decide +kernel
theorem dL_markOf_13 : decode cL_markOf 13 = .ok (.iconst 1, 1) := by decide +kernel
theorem dL_markOf_14 : decode cL_markOf 14 = .ok (.ireturn, 1) := by decide +kernel
theorem dL_markOf_15 : decode cL_markOf 15 = .ok (.iconst 0, 1) := by decide +kernel
theorem dL_markOf_16 : decode cL_markOf 16 = .ok (.ireturn, 1) := by decide +kernel
set_option maxRecDepth 20000 in
theorem ggL_liesAbout_X3_liesAbout : GoodIn wsL_liesAbout wsX3_liesAbout := goodIn_ca (goodIn_r _ [6, 7, 8, 9, 10, 5, 11, 12, 13, 14, 15, 16, 17, 18, 19, 20, 21, 22, 23, 24, 25, 26, 27, 28, 29, 30, 31, 32, 33, 34, 35, 36, 37, 38, 39, 40, 41, 42, 43, 44, 45, 46, 47, 48, 49, 50, 51, 52, 53, 54, 55, 56, 57, 58, 59, 60, 61, 62] (by decide +kernel) (by decide +kernel)) (goodIn_sub (fun _ h => List.mem_cons_of_mem _ (List.mem_append_right _ h)) (by decide +kernel))
set_option maxRecDepth 20000 in
theorem gL_liesAbout_X3_liesAbout : GoodIn wsL_liesAbout (wsV RL 49 RX3 yX3_liesAbout wsX3_liesAbout) := goodIn_app (goodIn_of _ (by decide +kernel)) ggL_liesAbout_X3_liesAbout
theorem dL_liesAbout_0 : decode cL_liesAbout 0 = .ok (.aload_n 2, 1) := by decide +kernel
theorem dL_liesAbout_1 : decode cL_liesAbout 1 = .ok (.iconst 0, 1) := by decide +kernel
theorem dL_liesAbout_2 : decode cL_liesAbout 2 = .ok (.aload_n 0, 1) := by decide +kernel
theorem dL_liesAbout_3 : decode cL_liesAbout 3 = .ok (.iload_n 1, 1) := by decide +kernel
theorem dL_liesAbout_4 : decode cL_liesAbout 4 = .ok (.invokevirtual 49, 3) := by decide +kernel
theorem dL_liesAbout_7 : decode cL_liesAbout 7 = .ok (.i2l, 1) := by decide +kernel
theorem dL_liesAbout_8 : decode cL_liesAbout 8 = .ok (.lastore, 1) := by decide +kernel
theorem dL_liesAbout_9 : decode cL_liesAbout 9 = .ok (.goto 6, 3) := by decide +kernel
theorem dL_liesAbout_12 : decode cL_liesAbout 12 = .ok (.astore_n 3, 1) := by decide +kernel
theorem dL_liesAbout_13 : decode cL_liesAbout 13 = .ok (.iconst 1, 1) := by decide +kernel
theorem dL_liesAbout_14 : decode cL_liesAbout 14 = .ok (.ireturn, 1) := by decide +kernel
theorem dL_liesAbout_15 : decode cL_liesAbout 15 = .ok (.iconst 0, 1) := by decide +kernel
theorem dL_liesAbout_16 : decode cL_liesAbout 16 = .ok (.ireturn, 1) := by decide +kernel
set_option maxRecDepth 20000 in
theorem ggL_isLeft_X3_isLeft : GoodIn wsL_isLeft wsX3_isLeft := goodIn_ca (goodIn_r _ [6, 7, 8, 9, 5, 10, 11, 12, 13, 14, 15, 16, 17, 18, 19, 20, 21, 22, 23, 24, 25, 26, 27, 28, 29, 30, 31, 32, 33, 34, 35, 36, 37, 38, 39, 40, 41, 42, 43, 44, 45, 46, 47, 48, 49, 50, 51, 52, 53, 54, 55, 56, 57, 58, 59, 60, 61, 62, 63, 64, 65, 66, 67] (by decide +kernel) (by decide +kernel)) (goodIn_sub (fun _ h => List.mem_cons_of_mem _ (List.mem_append_right _ h)) (by decide +kernel))
set_option maxRecDepth 20000 in
theorem gL_isLeft_X3_isLeft : GoodIn wsL_isLeft (wsV RL 52 RX3 yX3_isLeft wsX3_isLeft) := goodIn_app (goodIn_of _ (by decide +kernel)) ggL_isLeft_X3_isLeft
theorem dL_isLeft_0 : decode cL_isLeft 0 = .ok (.aload_n 2, 1) := by decide +kernel
theorem dL_isLeft_1 : decode cL_isLeft 1 = .ok (.iconst 0, 1) := by decide +kernel
theorem dL_isLeft_2 : decode cL_isLeft 2 = .ok (.aload_n 0, 1) := by decide +kernel
theorem dL_isLeft_3 : decode cL_isLeft 3 = .ok (.iload_n 1, 1) := by decide +kernel
theorem dL_isLeft_4 : decode cL_isLeft 4 = .ok (.invokevirtual 52, 3) := by decide +kernel
theorem dL_isLeft_7 : decode cL_isLeft 7 = .ok (.ifCond .eq 7, 3) := by decide +kernel
theorem dL_isLeft_10 : decode cL_isLeft 10 = .ok (.lconst 1, 1) := by decide +kernel
theorem dL_isLeft_11 : decode cL_isLeft 11 = .ok (.goto 4, 3) := by decide +kernel
theorem dL_isLeft_14 : decode cL_isLeft 14 = .ok (.lconst 0, 1) := by decide +kernel
theorem dL_isLeft_15 : decode cL_isLeft 15 = .ok (.lastore, 1) := by decide +kernel
theorem dL_isLeft_16 : decode cL_isLeft 16 = .ok (.goto 6, 3) := by decide +kernel
theorem dL_isLeft_19 : decode cL_isLeft 19 = .ok (.astore_n 3, 1) := by decide +kernel
theorem dL_isLeft_20 : decode cL_isLeft 20 = .ok (.iconst 1, 1) := by decide +kernel
theorem dL_isLeft_21 : decode cL_isLeft 21 = .ok (.ireturn, 1) := by decide +kernel
theorem dL_isLeft_22 : decode cL_isLeft 22 = .ok (.iconst 0, 1) := by decide +kernel
theorem dL_isLeft_23 : decode cL_isLeft 23 = .ok (.ireturn, 1) := by decide +kernel
set_option maxRecDepth 20000 in
theorem ggL_leftAt_X3_leftAt : GoodIn wsL_leftAt wsX3_leftAt := goodIn_ca (goodIn_r _ [6, 7, 8, 9, 10, 11, 12, 13, 14, 15, 16, 17, 18] (by decide +kernel) (by decide +kernel)) (goodIn_sub (fun _ h => List.mem_cons_of_mem _ (List.mem_append_right _ h)) (by decide +kernel))
set_option maxRecDepth 20000 in
theorem gL_leftAt_X3_leftAt : GoodIn wsL_leftAt (wsV RL 55 RX3 yX3_leftAt wsX3_leftAt) := goodIn_app (goodIn_of _ (by decide +kernel)) ggL_leftAt_X3_leftAt
theorem dL_leftAt_0 : decode cL_leftAt 0 = .ok (.aload_n 2, 1) := by decide +kernel
theorem dL_leftAt_1 : decode cL_leftAt 1 = .ok (.iconst 0, 1) := by decide +kernel
theorem dL_leftAt_2 : decode cL_leftAt 2 = .ok (.aload_n 0, 1) := by decide +kernel
theorem dL_leftAt_3 : decode cL_leftAt 3 = .ok (.iload_n 1, 1) := by decide +kernel
theorem dL_leftAt_4 : decode cL_leftAt 4 = .ok (.invokevirtual 55, 3) := by decide +kernel
theorem dL_leftAt_7 : decode cL_leftAt 7 = .ok (.i2l, 1) := by decide +kernel
theorem dL_leftAt_8 : decode cL_leftAt 8 = .ok (.lastore, 1) := by decide +kernel
theorem dL_leftAt_9 : decode cL_leftAt 9 = .ok (.goto 6, 3) := by decide +kernel
theorem dL_leftAt_12 : decode cL_leftAt 12 = .ok (.astore_n 3, 1) := by decide +kernel
theorem dL_leftAt_13 : decode cL_leftAt 13 = .ok (.iconst 1, 1) := by decide +kernel
theorem dL_leftAt_14 : decode cL_leftAt 14 = .ok (.ireturn, 1) := by decide +kernel
theorem dL_leftAt_15 : decode cL_leftAt 15 = .ok (.iconst 0, 1) := by decide +kernel
theorem dL_leftAt_16 : decode cL_leftAt 16 = .ok (.ireturn, 1) := by decide +kernel
set_option maxRecDepth 20000 in
theorem ggL_parts_X3_parts : GoodIn wsL_parts wsX3_parts := goodIn_ca (goodIn_r _ [6, 7, 8, 9, 10, 11, 5, 12, 13, 14, 15, 16, 17, 18, 19, 20, 21, 22, 23, 24, 25, 26, 27, 28, 29, 30, 31, 32, 33, 34, 35, 36, 37, 38, 39, 40, 41, 42, 43, 44, 45, 46, 47, 48, 49, 50, 51, 52, 53, 54, 55, 56, 57, 58, 59, 60, 61, 62, 63, 64, 65, 66, 67, 68, 69, 70, 71, 72, 73, 74, 75, 76, 77, 78, 79, 80, 81, 82, 83, 84, 85, 86, 87, 88, 89, 90, 91, 92, 93, 94] (by decide +kernel) (by decide +kernel)) (goodIn_sub (fun _ h => List.mem_cons_of_mem _ (List.mem_append_right _ h)) (by decide +kernel))
set_option maxRecDepth 20000 in
theorem gL_parts_X3_parts : GoodIn wsL_parts (wsV RL 58 RX3 yX3_parts wsX3_parts) := goodIn_app (goodIn_of _ (by decide +kernel)) ggL_parts_X3_parts
theorem dL_parts_0 : decode cL_parts 0 = .ok (.aload_n 2, 1) := by decide +kernel
theorem dL_parts_1 : decode cL_parts 1 = .ok (.iconst 0, 1) := by decide +kernel
theorem dL_parts_2 : decode cL_parts 2 = .ok (.aload_n 0, 1) := by decide +kernel
theorem dL_parts_3 : decode cL_parts 3 = .ok (.iload_n 1, 1) := by decide +kernel
theorem dL_parts_4 : decode cL_parts 4 = .ok (.invokevirtual 58, 3) := by decide +kernel
theorem dL_parts_7 : decode cL_parts 7 = .ok (.i2l, 1) := by decide +kernel
theorem dL_parts_8 : decode cL_parts 8 = .ok (.lastore, 1) := by decide +kernel
theorem dL_parts_9 : decode cL_parts 9 = .ok (.goto 6, 3) := by decide +kernel
theorem dL_parts_12 : decode cL_parts 12 = .ok (.astore_n 3, 1) := by decide +kernel
theorem dL_parts_13 : decode cL_parts 13 = .ok (.iconst 1, 1) := by decide +kernel
theorem dL_parts_14 : decode cL_parts 14 = .ok (.ireturn, 1) := by decide +kernel
theorem dL_parts_15 : decode cL_parts 15 = .ok (.iconst 0, 1) := by decide +kernel
theorem dL_parts_16 : decode cL_parts 16 = .ok (.ireturn, 1) := by decide +kernel
set_option maxRecDepth 20000 in
theorem ggL_partMark_X3_partMark : GoodIn wsL_partMark wsX3_partMark := goodIn_ca (goodIn_r _ [6, 7, 8, 9, 10, 11, 12, 5, 13, 14, 15, 16, 17, 18, 19, 20, 21, 22, 23, 24, 25, 26, 27, 28, 29, 30, 31, 32, 33, 34, 35, 36, 37, 38, 39, 40, 41, 42, 43, 44, 45, 46, 47, 48, 49, 50, 51, 52, 53, 54, 55, 56, 57, 58, 59, 60, 61, 62, 63, 64, 65, 66, 67, 68, 69, 70, 71, 72, 73, 74, 75, 76, 77, 78, 79, 80, 81, 82, 83, 84, 85, 86, 87, 88, 89, 90, 91, 92, 93, 94, 95, 96, 97, 98, 99, 100, 101, 102] (by decide +kernel) (by decide +kernel)) (goodIn_sub (fun _ h => List.mem_cons_of_mem _ (List.mem_append_right _ h)) (by decide +kernel))
set_option maxRecDepth 20000 in
theorem gL_partMark_X3_partMark : GoodIn wsL_partMark (wsV RL 61 RX3 yX3_partMark wsX3_partMark) := goodIn_app (goodIn_of _ (by decide +kernel)) ggL_partMark_X3_partMark
theorem dL_partMark_0 : decode cL_partMark 0 = .ok (.aload_n 3, 1) := by decide +kernel
theorem dL_partMark_1 : decode cL_partMark 1 = .ok (.iconst 0, 1) := by decide +kernel
theorem dL_partMark_2 : decode cL_partMark 2 = .ok (.aload_n 0, 1) := by decide +kernel
theorem dL_partMark_3 : decode cL_partMark 3 = .ok (.iload_n 1, 1) := by decide +kernel
theorem dL_partMark_4 : decode cL_partMark 4 = .ok (.iload_n 2, 1) := by decide +kernel
theorem dL_partMark_5 : decode cL_partMark 5 = .ok (.invokevirtual 61, 3) := by decide +kernel
theorem dL_partMark_8 : decode cL_partMark 8 = .ok (.i2l, 1) := by decide +kernel
theorem dL_partMark_9 : decode cL_partMark 9 = .ok (.lastore, 1) := by decide +kernel
theorem dL_partMark_10 : decode cL_partMark 10 = .ok (.goto 7, 3) := by decide +kernel
theorem dL_partMark_13 : decode cL_partMark 13 = .ok (.astore 4, 2) := by decide +kernel
theorem dL_partMark_15 : decode cL_partMark 15 = .ok (.iconst 1, 1) := by decide +kernel
theorem dL_partMark_16 : decode cL_partMark 16 = .ok (.ireturn, 1) := by decide +kernel
theorem dL_partMark_17 : decode cL_partMark 17 = .ok (.iconst 0, 1) := by decide +kernel
theorem dL_partMark_18 : decode cL_partMark 18 = .ok (.ireturn, 1) := by decide +kernel
set_option maxRecDepth 20000 in
theorem ggL_partSize_X3_partSize : GoodIn wsL_partSize wsX3_partSize := goodIn_ca (goodIn_ca (goodIn_r _ [7, 8, 9, 10, 11, 6, 12, 13, 14, 15, 16, 17, 18, 19, 20, 21, 22, 23, 24, 25, 26, 27, 28, 29, 30, 31, 32, 33, 34, 35, 36, 37, 38, 39, 40, 41, 42, 43, 44, 45, 46, 47, 48, 49, 50, 51, 52, 53, 54, 55, 56, 57, 58, 59, 60, 61, 62, 63, 64, 65, 66, 67, 68, 69, 70, 71, 72, 73, 74, 75, 76, 77, 78, 79, 80, 81, 82, 83, 84, 85, 86, 87, 88, 89, 90, 91, 92, 93, 94, 95, 96, 97, 98, 99, 100, 101, 102, 103, 104, 105, 106, 107, 108] (by decide +kernel) (by decide +kernel)) (goodIn_sub (fun _ h => List.mem_cons_of_mem _ (List.mem_append_left _ (List.mem_append_right _ h))) (by decide +kernel))) (goodIn_sub (fun _ h => List.mem_cons_of_mem _ (List.mem_append_right _ h)) (by decide +kernel))
set_option maxRecDepth 20000 in
theorem gL_partSize_X3_partSize : GoodIn wsL_partSize (wsV RL 64 RX3 yX3_partSize wsX3_partSize) := goodIn_app (goodIn_of _ (by decide +kernel)) ggL_partSize_X3_partSize
theorem dL_partSize_0 : decode cL_partSize 0 = .ok (.aload_n 3, 1) := by decide +kernel
theorem dL_partSize_1 : decode cL_partSize 1 = .ok (.iconst 0, 1) := by decide +kernel
theorem dL_partSize_2 : decode cL_partSize 2 = .ok (.aload_n 0, 1) := by decide +kernel
theorem dL_partSize_3 : decode cL_partSize 3 = .ok (.iload_n 1, 1) := by decide +kernel
theorem dL_partSize_4 : decode cL_partSize 4 = .ok (.iload_n 2, 1) := by decide +kernel
theorem dL_partSize_5 : decode cL_partSize 5 = .ok (.invokevirtual 64, 3) := by decide +kernel
theorem dL_partSize_8 : decode cL_partSize 8 = .ok (.i2l, 1) := by decide +kernel
theorem dL_partSize_9 : decode cL_partSize 9 = .ok (.lastore, 1) := by decide +kernel
theorem dL_partSize_10 : decode cL_partSize 10 = .ok (.goto 11, 3) := by decide +kernel
theorem dL_partSize_13 : decode cL_partSize 13 = .ok (.astore 4, 2) := by decide +kernel
theorem dL_partSize_15 : decode cL_partSize 15 = .ok (.iconst 1, 1) := by decide +kernel
theorem dL_partSize_16 : decode cL_partSize 16 = .ok (.ireturn, 1) := by decide +kernel
theorem dL_partSize_17 : decode cL_partSize 17 = .ok (.astore 4, 2) := by decide +kernel
theorem dL_partSize_19 : decode cL_partSize 19 = .ok (.iconst 2, 1) := by decide +kernel
theorem dL_partSize_20 : decode cL_partSize 20 = .ok (.ireturn, 1) := by decide +kernel
theorem dL_partSize_21 : decode cL_partSize 21 = .ok (.iconst 0, 1) := by decide +kernel
theorem dL_partSize_22 : decode cL_partSize 22 = .ok (.ireturn, 1) := by decide +kernel
set_option maxRecDepth 20000 in
theorem ggL_worstCase_X3_worstCase : GoodIn wsL_worstCase wsX3_worstCase := goodIn_ca (goodIn_r _ [6, 7, 8, 9, 10, 11, 5, 12, 13, 14, 15, 16, 17, 18, 19, 20, 21, 22, 23, 24, 25, 26, 27, 28, 29, 30, 31, 32, 33, 34, 35, 36, 37, 38, 39, 40, 41, 42, 43, 44, 45, 46, 47, 48, 49, 50, 51, 52, 53, 54, 55, 56, 57, 58, 59, 60, 61, 62, 63, 64, 65, 66, 67, 68, 69, 70, 71, 72, 73, 74, 75, 76, 77, 78, 79, 80, 81, 82, 83, 84, 85, 86, 87, 88, 89, 90, 91, 92, 93, 94] (by decide +kernel) (by decide +kernel)) (goodIn_sub (fun _ h => List.mem_cons_of_mem _ (List.mem_append_right _ h)) (by decide +kernel))
set_option maxRecDepth 20000 in
theorem gL_worstCase_X3_worstCase : GoodIn wsL_worstCase (wsV RL 67 RX3 yX3_worstCase wsX3_worstCase) := goodIn_app (goodIn_of _ (by decide +kernel)) ggL_worstCase_X3_worstCase
theorem dL_worstCase_0 : decode cL_worstCase 0 = .ok (.aload_n 2, 1) := by decide +kernel
theorem dL_worstCase_1 : decode cL_worstCase 1 = .ok (.iconst 0, 1) := by decide +kernel
theorem dL_worstCase_2 : decode cL_worstCase 2 = .ok (.aload_n 0, 1) := by decide +kernel
theorem dL_worstCase_3 : decode cL_worstCase 3 = .ok (.iload_n 1, 1) := by decide +kernel
theorem dL_worstCase_4 : decode cL_worstCase 4 = .ok (.invokevirtual 67, 3) := by decide +kernel
theorem dL_worstCase_7 : decode cL_worstCase 7 = .ok (.i2l, 1) := by decide +kernel
theorem dL_worstCase_8 : decode cL_worstCase 8 = .ok (.lastore, 1) := by decide +kernel
theorem dL_worstCase_9 : decode cL_worstCase 9 = .ok (.goto 6, 3) := by decide +kernel
theorem dL_worstCase_12 : decode cL_worstCase 12 = .ok (.astore_n 3, 1) := by decide +kernel
theorem dL_worstCase_13 : decode cL_worstCase 13 = .ok (.iconst 1, 1) := by decide +kernel
theorem dL_worstCase_14 : decode cL_worstCase 14 = .ok (.ireturn, 1) := by decide +kernel
theorem dL_worstCase_15 : decode cL_worstCase 15 = .ok (.iconst 0, 1) := by decide +kernel
theorem dL_worstCase_16 : decode cL_worstCase 16 = .ok (.ireturn, 1) := by decide +kernel
set_option maxRecDepth 20000 in
theorem ggL_weight_X3_weight : GoodIn wsL_weight wsX3_weight := goodIn_ca (goodIn_r _ [6, 7, 8, 9, 10, 11, 5, 12, 13, 14, 15, 16, 17, 18, 19, 20, 21, 22, 23, 24, 25, 26, 27, 28, 29, 30, 31, 32, 33, 34, 35, 36, 37, 38, 39, 40, 41, 42, 43, 44, 45, 46, 47, 48, 49, 50, 51, 52, 53, 54, 55, 56, 57, 58, 59, 60, 61, 62, 63, 64, 65, 66, 67, 68, 69, 70, 71, 72, 73, 74, 75, 76, 77, 78, 79, 80, 81, 82, 83, 84, 85, 86, 87, 88, 89, 90, 91, 92, 93, 94] (by decide +kernel) (by decide +kernel)) (goodIn_sub (fun _ h => List.mem_cons_of_mem _ (List.mem_append_right _ h)) (by decide +kernel))
set_option maxRecDepth 20000 in
theorem gL_weight_X3_weight : GoodIn wsL_weight (wsV RL 70 RX3 yX3_weight wsX3_weight) := goodIn_app (goodIn_of _ (by decide +kernel)) ggL_weight_X3_weight
theorem dL_weight_0 : decode cL_weight 0 = .ok (.aload_n 2, 1) := by decide +kernel
theorem dL_weight_1 : decode cL_weight 1 = .ok (.iconst 0, 1) := by decide +kernel
theorem dL_weight_2 : decode cL_weight 2 = .ok (.aload_n 0, 1) := by decide +kernel
theorem dL_weight_3 : decode cL_weight 3 = .ok (.iload_n 1, 1) := by decide +kernel
theorem dL_weight_4 : decode cL_weight 4 = .ok (.invokevirtual 70, 3) := by decide +kernel
theorem dL_weight_7 : decode cL_weight 7 = .ok (.i2l, 1) := by decide +kernel
theorem dL_weight_8 : decode cL_weight 8 = .ok (.lastore, 1) := by decide +kernel
theorem dL_weight_9 : decode cL_weight 9 = .ok (.goto 6, 3) := by decide +kernel
theorem dL_weight_12 : decode cL_weight 12 = .ok (.astore_n 3, 1) := by decide +kernel
theorem dL_weight_13 : decode cL_weight 13 = .ok (.iconst 1, 1) := by decide +kernel
theorem dL_weight_14 : decode cL_weight 14 = .ok (.ireturn, 1) := by decide +kernel
theorem dL_weight_15 : decode cL_weight 15 = .ok (.iconst 0, 1) := by decide +kernel
theorem dL_weight_16 : decode cL_weight 16 = .ok (.ireturn, 1) := by decide +kernel
set_option maxRecDepth 20000 in
theorem ggL_bestGuess_X3_bestGuess : GoodIn wsL_bestGuess wsX3_bestGuess := goodIn_ca (goodIn_ca (goodIn_r _ [7, 8, 9, 10, 11, 12, 13, 14, 15, 16, 6, 17, 18, 19, 20, 21, 22, 23, 24, 25, 26, 27, 28, 29, 30, 31, 32, 33, 34, 35, 36, 37, 38, 39, 40, 41, 42, 43, 44, 45, 46, 47, 48, 49, 50, 51, 52, 53, 54, 55, 56, 57, 58, 59, 60, 61, 62, 63, 64, 65, 66, 67, 68, 69, 70, 71, 72, 73, 74, 75, 76, 77, 78, 79, 80, 81, 82, 83, 84, 85, 86, 87, 88, 89, 90, 91, 92, 93, 94, 95, 96, 97, 98, 99, 100, 101, 102, 103, 104] (by decide +kernel) (by decide +kernel)) (goodIn_sub (fun _ h => List.mem_cons_of_mem _ (List.mem_append_left _ (List.mem_append_right _ h))) (by decide +kernel))) (goodIn_sub (fun _ h => List.mem_cons_of_mem _ (List.mem_append_right _ h)) (by decide +kernel))
set_option maxRecDepth 20000 in
theorem gL_bestGuess_X3_bestGuess : GoodIn wsL_bestGuess (wsV RL 73 RX3 yX3_bestGuess wsX3_bestGuess) := goodIn_app (goodIn_of _ (by decide +kernel)) ggL_bestGuess_X3_bestGuess
theorem dL_bestGuess_0 : decode cL_bestGuess 0 = .ok (.aload_n 2, 1) := by decide +kernel
theorem dL_bestGuess_1 : decode cL_bestGuess 1 = .ok (.iconst 0, 1) := by decide +kernel
theorem dL_bestGuess_2 : decode cL_bestGuess 2 = .ok (.aload_n 0, 1) := by decide +kernel
theorem dL_bestGuess_3 : decode cL_bestGuess 3 = .ok (.iload_n 1, 1) := by decide +kernel
theorem dL_bestGuess_4 : decode cL_bestGuess 4 = .ok (.invokevirtual 73, 3) := by decide +kernel
theorem dL_bestGuess_7 : decode cL_bestGuess 7 = .ok (.i2l, 1) := by decide +kernel
theorem dL_bestGuess_8 : decode cL_bestGuess 8 = .ok (.lastore, 1) := by decide +kernel
theorem dL_bestGuess_9 : decode cL_bestGuess 9 = .ok (.goto 9, 3) := by decide +kernel
theorem dL_bestGuess_12 : decode cL_bestGuess 12 = .ok (.astore_n 3, 1) := by decide +kernel
theorem dL_bestGuess_13 : decode cL_bestGuess 13 = .ok (.iconst 1, 1) := by decide +kernel
theorem dL_bestGuess_14 : decode cL_bestGuess 14 = .ok (.ireturn, 1) := by decide +kernel
theorem dL_bestGuess_15 : decode cL_bestGuess 15 = .ok (.astore_n 3, 1) := by decide +kernel
theorem dL_bestGuess_16 : decode cL_bestGuess 16 = .ok (.iconst 2, 1) := by decide +kernel
theorem dL_bestGuess_17 : decode cL_bestGuess 17 = .ok (.ireturn, 1) := by decide +kernel
theorem dL_bestGuess_18 : decode cL_bestGuess 18 = .ok (.iconst 0, 1) := by decide +kernel
theorem dL_bestGuess_19 : decode cL_bestGuess 19 = .ok (.ireturn, 1) := by decide +kernel
set_option maxRecDepth 20000 in
theorem ggL_guessesNeeded_X3_guessesNeeded : GoodIn wsL_guessesNeeded wsX3_guessesNeeded := goodIn_ca (goodIn_r _ [6, 7, 8, 9, 10, 11, 12, 13, 14, 15, 16, 17, 18, 5, 19, 20, 21, 22, 23, 24, 25, 26, 27, 28, 29, 30, 31, 32, 33, 34, 35, 36, 37, 38, 39, 40, 41, 42, 43, 44, 45, 46, 47, 48, 49, 50, 51, 52, 53, 54, 55, 56, 57, 58, 59, 60, 61, 62, 63, 64, 65, 66, 67, 68, 69, 70, 71, 72, 73, 74, 75, 76, 77, 78, 79, 80, 81, 82, 83, 84, 85, 86, 87, 88, 89, 90, 91, 92, 93, 94, 95, 96, 97, 98, 99, 100, 101, 102, 103, 104, 105, 106, 107, 108, 109, 110, 111, 112, 113, 114, 115, 116, 117, 118, 119] (by decide +kernel) (by decide +kernel)) (goodIn_sub (fun _ h => List.mem_cons_of_mem _ (List.mem_append_right _ h)) (by decide +kernel))
set_option maxRecDepth 20000 in
theorem gL_guessesNeeded_X3_guessesNeeded : GoodIn wsL_guessesNeeded (wsV RL 76 RX3 yX3_guessesNeeded wsX3_guessesNeeded) := goodIn_app (goodIn_of _ (by decide +kernel)) ggL_guessesNeeded_X3_guessesNeeded
theorem dL_guessesNeeded_0 : decode cL_guessesNeeded 0 = .ok (.aload_n 1, 1) := by decide +kernel
theorem dL_guessesNeeded_1 : decode cL_guessesNeeded 1 = .ok (.iconst 0, 1) := by decide +kernel
theorem dL_guessesNeeded_2 : decode cL_guessesNeeded 2 = .ok (.aload_n 0, 1) := by decide +kernel
theorem dL_guessesNeeded_3 : decode cL_guessesNeeded 3 = .ok (.invokevirtual 76, 3) := by decide +kernel
theorem dL_guessesNeeded_6 : decode cL_guessesNeeded 6 = .ok (.i2l, 1) := by decide +kernel
theorem dL_guessesNeeded_7 : decode cL_guessesNeeded 7 = .ok (.lastore, 1) := by decide +kernel
theorem dL_guessesNeeded_8 : decode cL_guessesNeeded 8 = .ok (.goto 6, 3) := by decide +kernel
theorem dL_guessesNeeded_11 : decode cL_guessesNeeded 11 = .ok (.astore_n 2, 1) := by decide +kernel
theorem dL_guessesNeeded_12 : decode cL_guessesNeeded 12 = .ok (.iconst 1, 1) := by decide +kernel
theorem dL_guessesNeeded_13 : decode cL_guessesNeeded 13 = .ok (.ireturn, 1) := by decide +kernel
theorem dL_guessesNeeded_14 : decode cL_guessesNeeded 14 = .ok (.iconst 0, 1) := by decide +kernel
theorem dL_guessesNeeded_15 : decode cL_guessesNeeded 15 = .ok (.ireturn, 1) := by decide +kernel
set_option maxRecDepth 20000 in
theorem ggL_isInProof_X3_isInProof : GoodIn wsL_isInProof wsX3_isInProof := goodIn_ca (goodIn_ca (goodIn_r _ [7, 8, 9, 10, 11, 12, 13, 14, 6, 15, 16, 17, 18, 19, 20, 21, 22, 23, 24, 25, 26, 27, 28, 29, 30, 31, 32, 33, 34, 35, 36, 37, 38, 39, 40, 41, 42, 43, 44, 45, 46, 47, 48, 49, 50, 51, 52, 53, 54, 55, 56, 57, 58, 59, 60, 61, 62, 63, 64, 65, 66, 67, 68, 69, 70, 71, 72, 73, 74, 75, 76, 77, 78, 79, 80, 81] (by decide +kernel) (by decide +kernel)) (goodIn_sub (fun _ h => List.mem_cons_of_mem _ (List.mem_append_left _ (List.mem_append_right _ h))) (by decide +kernel))) (goodIn_sub (fun _ h => List.mem_cons_of_mem _ (List.mem_append_right _ h)) (by decide +kernel))
set_option maxRecDepth 20000 in
theorem gL_isInProof_X3_isInProof : GoodIn wsL_isInProof (wsV RL 79 RX3 yX3_isInProof wsX3_isInProof) := goodIn_app (goodIn_of _ (by decide +kernel)) ggL_isInProof_X3_isInProof
theorem dL_isInProof_0 : decode cL_isInProof 0 = .ok (.aload_n 2, 1) := by decide +kernel
theorem dL_isInProof_1 : decode cL_isInProof 1 = .ok (.iconst 0, 1) := by decide +kernel
theorem dL_isInProof_2 : decode cL_isInProof 2 = .ok (.aload_n 0, 1) := by decide +kernel
theorem dL_isInProof_3 : decode cL_isInProof 3 = .ok (.iload_n 1, 1) := by decide +kernel
theorem dL_isInProof_4 : decode cL_isInProof 4 = .ok (.invokevirtual 79, 3) := by decide +kernel
theorem dL_isInProof_7 : decode cL_isInProof 7 = .ok (.ifCond .eq 7, 3) := by decide +kernel
theorem dL_isInProof_10 : decode cL_isInProof 10 = .ok (.lconst 1, 1) := by decide +kernel
theorem dL_isInProof_11 : decode cL_isInProof 11 = .ok (.goto 4, 3) := by decide +kernel
theorem dL_isInProof_14 : decode cL_isInProof 14 = .ok (.lconst 0, 1) := by decide +kernel
theorem dL_isInProof_15 : decode cL_isInProof 15 = .ok (.lastore, 1) := by decide +kernel
theorem dL_isInProof_16 : decode cL_isInProof 16 = .ok (.goto 9, 3) := by decide +kernel
theorem dL_isInProof_19 : decode cL_isInProof 19 = .ok (.astore_n 3, 1) := by decide +kernel
theorem dL_isInProof_20 : decode cL_isInProof 20 = .ok (.iconst 1, 1) := by decide +kernel
theorem dL_isInProof_21 : decode cL_isInProof 21 = .ok (.ireturn, 1) := by decide +kernel
theorem dL_isInProof_22 : decode cL_isInProof 22 = .ok (.astore_n 3, 1) := by decide +kernel
theorem dL_isInProof_23 : decode cL_isInProof 23 = .ok (.iconst 2, 1) := by decide +kernel
theorem dL_isInProof_24 : decode cL_isInProof 24 = .ok (.ireturn, 1) := by decide +kernel
theorem dL_isInProof_25 : decode cL_isInProof 25 = .ok (.iconst 0, 1) := by decide +kernel
theorem dL_isInProof_26 : decode cL_isInProof 26 = .ok (.ireturn, 1) := by decide +kernel
