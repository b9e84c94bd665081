set_option maxRecDepth 20000 in
theorem ggL_keeps_L_low : GoodIn wsL_keeps wsL_low := goodIn_r _ [7] (by decide +kernel) (by decide +kernel)
set_option maxRecDepth 20000 in
theorem gL_keeps_L_low : GoodIn wsL_keeps (va_wsS RL 105 yL_low wsL_low) := goodIn_app (goodIn_of _ (by decide +kernel)) ggL_keeps_L_low
set_option maxRecDepth 20000 in
theorem ggL_keeps_L_left : GoodIn wsL_keeps wsL_left := goodIn_r _ [10, 11, 12, 6, 13, 14, 15, 16, 17, 18] (by decide +kernel) (by decide +kernel)
set_option maxRecDepth 20000 in
theorem gL_keeps_L_left : GoodIn wsL_keeps (va_wsS RL 108 yL_left wsL_left) := goodIn_app (goodIn_of _ (by decide +kernel)) ggL_keeps_L_left
set_option maxRecDepth 20000 in
theorem ggL_keeps_L_begin : GoodIn wsL_keeps wsL_begin := goodIn_ca (goodIn_r _ [21, 22, 23, 24, 25, 26, 27, 28, 29, 30, 31, 32, 33, 34, 35, 36, 37, 38, 39, 40, 41, 42, 43, 44, 45, 46, 47, 48, 49, 50, 51, 52, 53, 54, 55, 56, 57, 58, 59, 60, 61, 62, 63, 64, 65, 66, 67, 68, 69, 70, 71, 72, 73, 74, 75, 76, 77, 78, 79, 80, 81, 82, 83, 84, 85, 86, 87, 88, 89, 90, 91, 92, 93, 94, 95, 96, 97, 98, 99, 100, 101, 102, 254, 255, 256, 257, 258, 259, 260, 261, 262, 263, 264, 265, 266, 267, 268, 269, 270, 271] (by decide +kernel) (by decide +kernel)) (goodIn_sub (fun _ h => List.mem_cons_of_mem _ (List.mem_append_left _ (List.mem_append_left _ (List.mem_append_right _ h)))) (by decide +kernel))
set_option maxRecDepth 20000 in
theorem gL_keeps_L_begin : GoodIn wsL_keeps (va_wsS RL 112 yL_begin wsL_begin) := goodIn_app (goodIn_of _ (by decide +kernel)) ggL_keeps_L_begin
set_option maxRecDepth 20000 in
theorem ggL_keeps_X3_rows : GoodIn wsL_keeps wsX3_rows := goodIn_r _ [106, 30, 31, 254, 255, 256, 257, 258, 259, 260, 261, 262, 263, 264, 265, 266] (by decide +kernel) (by decide +kernel)
set_option maxRecDepth 20000 in
theorem gL_keeps_X3_rows : GoodIn wsL_keeps (wsV RL 115 RX3 yX3_rows wsX3_rows) := goodIn_app (goodIn_of _ (by decide +kernel)) ggL_keeps_X3_rows
set_option maxRecDepth 20000 in
theorem ggL_keeps_L_lay : GoodIn wsL_keeps wsL_lay := goodIn_r _ [109, 110, 111, 6, 112] (by decide +kernel) (by decide +kernel)
set_option maxRecDepth 20000 in
theorem gL_keeps_L_lay : GoodIn wsL_keeps (va_wsS RL 118 yL_lay wsL_lay) := goodIn_app (goodIn_of _ (by decide +kernel)) ggL_keeps_L_lay
set_option maxRecDepth 20000 in
theorem ggL_keeps_L_lies : GoodIn wsL_keeps wsL_lies := goodIn_r _ [13, 14, 15, 6, 16, 17, 18] (by decide +kernel) (by decide +kernel)
set_option maxRecDepth 20000 in
theorem gL_keeps_L_lies : GoodIn wsL_keeps (va_wsS RL 79 yL_lies wsL_lies) := goodIn_app (goodIn_of _ (by decide +kernel)) ggL_keeps_L_lies
set_option maxRecDepth 20000 in
theorem ggL_keeps_L_allowLies : GoodIn wsL_keeps wsL_allowLies := goodIn_ca (goodIn_ca (goodIn_r _ [115, 22, 116, 117, 118, 119, 26, 120, 28, 29, 121, 122, 60, 58, 59, 82, 83, 84, 64, 85, 86, 87, 88, 89, 66, 90, 91, 92, 93, 94, 67, 95, 51, 52, 35, 53, 39, 96, 97, 98, 99, 100, 101, 102, 72, 73, 74, 75, 76, 30, 31, 77, 78, 79, 80, 81, 254, 255, 256, 257, 258, 259, 260, 261, 267, 268, 269, 270, 271, 262, 263, 264, 265, 266] (by decide +kernel) (by decide +kernel)) (goodIn_sub (fun _ h => List.mem_cons_of_mem _ (List.mem_append_left _ (List.mem_append_left _ (List.mem_append_right _ h)))) (by decide +kernel))) (goodIn_sub (fun _ h => List.mem_cons_of_mem _ (List.mem_append_left _ (List.mem_append_right _ h))) (by decide +kernel))
set_option maxRecDepth 20000 in
theorem gL_keeps_L_allowLies : GoodIn wsL_keeps (va_wsS RL 122 yL_allowLies wsL_allowLies) := goodIn_app (goodIn_of _ (by decide +kernel)) ggL_keeps_L_allowLies
set_option maxRecDepth 20000 in
theorem ggL_keeps_L_has : GoodIn wsL_keeps wsL_has := goodIn_r _ [125] (by decide +kernel) (by decide +kernel)
set_option maxRecDepth 20000 in
theorem gL_keeps_L_has : GoodIn wsL_keeps (va_wsS RL 83 yL_has wsL_has) := goodIn_app (goodIn_of _ (by decide +kernel)) ggL_keeps_L_has
set_option maxRecDepth 20000 in
theorem ggL_keeps_L_hide : GoodIn wsL_keeps wsL_hide := goodIn_ca (goodIn_ca (goodIn_r _ [128, 129, 116, 130, 131, 132, 26, 133, 121, 122, 60, 134, 135, 136, 137, 138, 139, 30, 140, 51, 52, 35, 53, 39, 78, 79, 80, 81, 58, 59, 82, 83, 84, 64, 85, 86, 87, 88, 89, 66, 90, 91, 92, 93, 94, 67, 95, 96, 97, 98, 99, 100, 101, 102, 254, 255, 256, 257, 258, 259, 260, 261, 262, 263, 264, 265, 266, 267, 268, 269, 270, 271] (by decide +kernel) (by decide +kernel)) (goodIn_sub (fun _ h => List.mem_cons_of_mem _ (List.mem_append_left _ (List.mem_append_right _ h))) (by decide +kernel))) (goodIn_sub (fun _ h => List.mem_cons_of_mem _ (List.mem_append_right _ h)) (by decide +kernel))
set_option maxRecDepth 20000 in
theorem gL_keeps_L_hide : GoodIn wsL_keeps (va_wsS RL 126 yL_hide wsL_hide) := goodIn_app (goodIn_of _ (by decide +kernel)) ggL_keeps_L_hide
set_option maxRecDepth 20000 in
theorem ggL_keeps_L_guess : GoodIn wsL_keeps wsL_guess := goodIn_ca (goodIn_ca (goodIn_r _ [143, 129, 116, 144, 145, 146, 26, 147, 121, 122, 60, 58, 30, 134, 135, 136, 137, 138, 139, 140, 51, 52, 35, 53, 39, 148, 149, 150, 64, 151, 66, 152, 153, 154, 155, 44, 156, 37, 45, 50, 157, 97, 98, 99, 100, 101, 102, 158, 159, 160, 161, 162, 163, 164, 165, 166, 167, 168, 169, 170, 171, 172, 173, 174, 94, 175, 67, 176, 177, 72, 73, 74, 75, 76, 31, 77, 78, 79, 80, 81, 59, 82, 83, 84, 85, 86, 87, 88, 89, 90, 91, 92, 93, 95, 96, 254, 255, 256, 257, 258, 259, 260, 261, 262, 263, 264, 265, 266, 267, 268, 269, 270, 271] (by decide +kernel) (by decide +kernel)) (goodIn_sub (fun _ h => List.mem_cons_of_mem _ (List.mem_append_left _ (List.mem_append_right _ h))) (by decide +kernel))) (goodIn_sub (fun _ h => List.mem_cons_of_mem _ (List.mem_append_right _ h)) (by decide +kernel))
set_option maxRecDepth 20000 in
theorem gL_keeps_L_guess : GoodIn wsL_keeps (va_wsS RL 128 yL_guess wsL_guess) := goodIn_app (goodIn_of _ (by decide +kernel)) ggL_keeps_L_guess
set_option maxRecDepth 20000 in
theorem ggL_keeps_L_pins : GoodIn wsL_keeps wsL_pins := goodIn_r _ [16, 17, 18] (by decide +kernel) (by decide +kernel)
set_option maxRecDepth 20000 in
theorem gL_keeps_L_pins : GoodIn wsL_keeps (va_wsS RL 75 yL_pins wsL_pins) := goodIn_app (goodIn_of _ (by decide +kernel)) ggL_keeps_L_pins
set_option maxRecDepth 20000 in
theorem ggL_keeps_L_isPossible : GoodIn wsL_keeps wsL_isPossible := goodIn_r _ [180] (by decide +kernel) (by decide +kernel)
set_option maxRecDepth 20000 in
theorem gL_keeps_L_isPossible : GoodIn wsL_keeps (va_wsS RL 132 yL_isPossible wsL_isPossible) := goodIn_app (goodIn_of _ (by decide +kernel)) ggL_keeps_L_isPossible
set_option maxRecDepth 20000 in
theorem ggL_keeps_L_tell : GoodIn wsL_keeps wsL_tell := goodIn_ca (goodIn_ca (goodIn_ca (goodIn_r _ [183, 129, 22, 116, 184, 185, 186, 26, 187, 121, 122, 58, 76, 134, 135, 136, 137, 138, 139, 30, 140, 51, 52, 35, 53, 39, 188, 189, 190, 191, 28, 29, 192, 193, 194, 195, 37, 148, 149, 150, 64, 151, 66, 196, 197, 198, 199, 60, 59, 152, 153, 154, 155, 44, 156, 45, 50, 157, 97, 98, 99, 100, 101, 102, 158, 159, 160, 161, 162, 163, 164, 82, 83, 84, 85, 86, 87, 88, 89, 90, 91, 92, 93, 94, 67, 95, 96, 165, 166, 167, 168, 169, 170, 171, 172, 173, 174, 175, 176, 177, 72, 73, 74, 75, 31, 77, 78, 79, 80, 81, 254, 255, 256, 257, 258, 259, 260, 261, 262, 263, 264, 265, 266, 267, 268, 269, 270, 271] (by decide +kernel) (by decide +kernel)) (goodIn_sub (fun _ h => List.mem_cons_of_mem _ (List.mem_append_left _ (List.mem_append_right _ h))) (by decide +kernel))) (goodIn_sub (fun _ h => List.mem_cons_of_mem _ (List.mem_append_right _ h)) (by decide +kernel))) (goodIn_sub (fun _ h => List.mem_cons_of_mem _ (List.mem_append_left _ (List.mem_append_left _ (List.mem_append_right _ h)))) (by decide +kernel))
set_option maxRecDepth 20000 in
theorem gL_keeps_L_tell : GoodIn wsL_keeps (va_wsS RL 136 yL_tell wsL_tell) := goodIn_app (goodIn_of _ (by decide +kernel)) ggL_keeps_L_tell
set_option maxRecDepth 20000 in
theorem ggL_keeps_L_partSize : GoodIn wsL_keeps wsL_partSize := goodIn_ca (goodIn_ca (goodIn_r _ [202, 129, 22, 203, 204, 205, 26, 206, 207, 134, 135, 136, 137, 138, 139, 30, 140, 51, 52, 35, 53, 39, 188, 189, 190, 191, 28, 29, 192, 193, 194, 195, 37, 208, 209, 210, 211, 77, 76, 212, 213, 214, 215, 216, 217, 218, 219, 220, 221, 222, 223, 224, 225, 69, 70, 71, 152, 153, 154, 155, 44, 156, 45, 50, 157, 97, 98, 99, 100, 101, 102, 158, 159, 160, 161, 162, 163, 164, 226, 227, 228, 229, 230, 231, 232, 233, 234, 235, 236, 237, 238, 254, 255, 256, 257, 258, 259, 260, 261, 262, 263, 264, 265, 266, 272, 273, 274, 275, 276] (by decide +kernel) (by decide +kernel)) (goodIn_sub (fun _ h => List.mem_cons_of_mem _ (List.mem_append_right _ h)) (by decide +kernel))) (goodIn_sub (fun _ h => List.mem_cons_of_mem _ (List.mem_append_left _ (List.mem_append_left _ (List.mem_append_right _ h)))) (by decide +kernel))
set_option maxRecDepth 20000 in
theorem gL_keeps_L_partSize : GoodIn wsL_keeps (va_wsS RL 138 yL_partSize wsL_partSize) := goodIn_app (goodIn_of _ (by decide +kernel)) ggL_keeps_L_partSize
set_option maxRecDepth 20000 in
theorem ggL_keeps_L_many : GoodIn wsL_keeps wsL_many := goodIn_r _ [241] (by decide +kernel) (by decide +kernel)
set_option maxRecDepth 20000 in
theorem gL_keeps_L_many : GoodIn wsL_keeps (va_wsS RL 91 yL_many wsL_many) := goodIn_app (goodIn_of _ (by decide +kernel)) ggL_keeps_L_many
set_option maxRecDepth 20000 in
theorem ggL_keeps_L_takeBack : GoodIn wsL_keeps wsL_takeBack := goodIn_ca (goodIn_r _ [244, 116, 245, 246, 247, 26, 248, 121, 122, 58, 249, 76, 250, 251, 252, 64, 253, 66, 94, 175, 67, 72, 73, 74, 75, 30, 31, 77, 78, 79, 80, 81, 59, 82, 83, 84, 85, 86, 87, 88, 89, 90, 91, 92, 93, 95, 51, 52, 35, 53, 39, 96, 97, 98, 99, 100, 101, 102, 254, 255, 256, 257, 258, 259, 260, 261, 267, 268, 269, 270, 271, 262, 263, 264, 265, 266] (by decide +kernel) (by decide +kernel)) (goodIn_sub (fun _ h => List.mem_cons_of_mem _ (List.mem_append_left _ (List.mem_append_right _ h))) (by decide +kernel))
set_option maxRecDepth 20000 in
theorem gL_keeps_L_takeBack : GoodIn wsL_keeps (va_wsS RL 140 yL_takeBack wsL_takeBack) := goodIn_app (goodIn_of _ (by decide +kernel)) ggL_keeps_L_takeBack
theorem dL_keeps_0 : decode cL_keeps 0 = .ok (.iload_n 2, 1) := by decide +kernel
theorem dL_keeps_1 : decode cL_keeps 1 = .ok (.aload_n 3, 1) := by decide +kernel
theorem dL_keeps_2 : decode cL_keeps 2 = .ok (.iconst 2, 1) := by decide +kernel
theorem dL_keeps_3 : decode cL_keeps 3 = .ok (.iaload, 1) := by decide +kernel
theorem dL_keeps_4 : decode cL_keeps 4 = .ok (.invokestatic 105, 3) := by decide +kernel
theorem dL_keeps_7 : decode cL_keeps 7 = .ok (.istore 7, 2) := by decide +kernel
theorem dL_keeps_9 : decode cL_keeps 9 = .ok (.aload_n 3, 1) := by decide +kernel
theorem dL_keeps_10 : decode cL_keeps 10 = .ok (.aload 4, 2) := by decide +kernel
theorem dL_keeps_12 : decode cL_keeps 12 = .ok (.aload 5, 2) := by decide +kernel
theorem dL_keeps_14 : decode cL_keeps 14 = .ok (.aload 6, 2) := by decide +kernel
theorem dL_keeps_16 : decode cL_keeps 16 = .ok (.invokestatic 108, 3) := by decide +kernel
theorem dL_keeps_19 : decode cL_keeps 19 = .ok (.lstore 8, 2) := by decide +kernel
theorem dL_keeps_21 : decode cL_keeps 21 = .ok (.iload_n 1, 1) := by decide +kernel
theorem dL_keeps_22 : decode cL_keeps 22 = .ok (.ifCond .ne 246, 3) := by decide +kernel
theorem dL_keeps_25 : decode cL_keeps 25 = .ok (.iload_n 2, 1) := by decide +kernel
theorem dL_keeps_26 : decode cL_keeps 26 = .ok (.bipush 6, 2) := by decide +kernel
theorem dL_keeps_28 : decode cL_keeps 28 = .ok (.iand, 1) := by decide +kernel
theorem dL_keeps_29 : decode cL_keeps 29 = .ok (.ifCond .le 77, 3) := by decide +kernel
theorem dL_keeps_32 : decode cL_keeps 32 = .ok (.aload_n 0, 1) := by decide +kernel
theorem dL_keeps_33 : decode cL_keeps 33 = .ok (.bipush 9, 2) := by decide +kernel
theorem dL_keeps_35 : decode cL_keeps 35 = .ok (.iconst 2, 1) := by decide +kernel
theorem dL_keeps_36 : decode cL_keeps 36 = .ok (.invokestatic 112, 3) := by decide +kernel
theorem dL_keeps_39 : decode cL_keeps 39 = .ok (.bipush (-72), 2) := by decide +kernel
theorem dL_keeps_41 : decode cL_keeps 41 = .ok (.if_icmp .ne 63, 3) := by decide +kernel
theorem dL_keeps_44 : decode cL_keeps 44 = .ok (.aload_n 0, 1) := by decide +kernel
theorem dL_keeps_45 : decode cL_keeps 45 = .ok (.iconst 3, 1) := by decide +kernel
theorem dL_keeps_46 : decode cL_keeps 46 = .ok (.bipush 7, 2) := by decide +kernel
theorem dL_keeps_48 : decode cL_keeps 48 = .ok (.invokestatic 112, 3) := by decide +kernel
theorem dL_keeps_51 : decode cL_keeps 51 = .ok (.bipush (-72), 2) := by decide +kernel
theorem dL_keeps_53 : decode cL_keeps 53 = .ok (.if_icmp .ne 51, 3) := by decide +kernel
theorem dL_keeps_56 : decode cL_keeps 56 = .ok (.aload_n 0, 1) := by decide +kernel
theorem dL_keeps_57 : decode cL_keeps 57 = .ok (.bipush 8, 2) := by decide +kernel
theorem dL_keeps_59 : decode cL_keeps 59 = .ok (.iconst 3, 1) := by decide +kernel
theorem dL_keeps_60 : decode cL_keeps 60 = .ok (.invokestatic 112, 3) := by decide +kernel
theorem dL_keeps_63 : decode cL_keeps 63 = .ok (.bipush (-72), 2) := by decide +kernel
theorem dL_keeps_65 : decode cL_keeps 65 = .ok (.if_icmp .ne 39, 3) := by decide +kernel
theorem dL_keeps_68 : decode cL_keeps 68 = .ok (.aload_n 0, 1) := by decide +kernel
theorem dL_keeps_69 : decode cL_keeps 69 = .ok (.iconst 5, 1) := by decide +kernel
theorem dL_keeps_70 : decode cL_keeps 70 = .ok (.iconst 4, 1) := by decide +kernel
theorem dL_keeps_71 : decode cL_keeps 71 = .ok (.invokestatic 112, 3) := by decide +kernel
theorem dL_keeps_74 : decode cL_keeps 74 = .ok (.bipush (-72), 2) := by decide +kernel
theorem dL_keeps_76 : decode cL_keeps 76 = .ok (.if_icmp .ne 28, 3) := by decide +kernel
theorem dL_keeps_79 : decode cL_keeps 79 = .ok (.aload_n 0, 1) := by decide +kernel
theorem dL_keeps_80 : decode cL_keeps 80 = .ok (.iconst 0, 1) := by decide +kernel
theorem dL_keeps_81 : decode cL_keeps 81 = .ok (.iconst 2, 1) := by decide +kernel
theorem dL_keeps_82 : decode cL_keeps 82 = .ok (.invokestatic 112, 3) := by decide +kernel
theorem dL_keeps_85 : decode cL_keeps 85 = .ok (.bipush (-72), 2) := by decide +kernel
theorem dL_keeps_87 : decode cL_keeps 87 = .ok (.if_icmp .ne 17, 3) := by decide +kernel
theorem dL_keeps_90 : decode cL_keeps 90 = .ok (.aload_n 0, 1) := by decide +kernel
theorem dL_keeps_91 : decode cL_keeps 91 = .ok (.invokevirtual 115, 3) := by decide +kernel
theorem dL_keeps_94 : decode cL_keeps 94 = .ok (.aload_n 3, 1) := by decide +kernel
theorem dL_keeps_95 : decode cL_keeps 95 = .ok (.iconst 2, 1) := by decide +kernel
theorem dL_keeps_96 : decode cL_keeps 96 = .ok (.iaload, 1) := by decide +kernel
theorem dL_keeps_97 : decode cL_keeps 97 = .ok (.if_icmp .ne 7, 3) := by decide +kernel
theorem dL_keeps_100 : decode cL_keeps 100 = .ok (.iconst 1, 1) := by decide +kernel
theorem dL_keeps_101 : decode cL_keeps 101 = .ok (.goto 4, 3) := by decide +kernel
theorem dL_keeps_104 : decode cL_keeps 104 = .ok (.iconst 0, 1) := by decide +kernel
theorem dL_keeps_105 : decode cL_keeps 105 = .ok (.ireturn, 1) := by decide +kernel
theorem dL_keeps_106 : decode cL_keeps 106 = .ok (.iload_n 2, 1) := by decide +kernel
theorem dL_keeps_107 : decode cL_keeps 107 = .ok (.iconst 3, 1) := by decide +kernel
theorem dL_keeps_108 : decode cL_keeps 108 = .ok (.ishr, 1) := by decide +kernel
theorem dL_keeps_109 : decode cL_keeps 109 = .ok (.bipush 9, 2) := by decide +kernel
theorem dL_keeps_111 : decode cL_keeps 111 = .ok (.invokestatic 105, 3) := by decide +kernel
theorem dL_keeps_114 : decode cL_keeps 114 = .ok (.istore 10, 2) := by decide +kernel
theorem dL_keeps_116 : decode cL_keeps 116 = .ok (.aload_n 3, 1) := by decide +kernel
theorem dL_keeps_117 : decode cL_keeps 117 = .ok (.iconst 0, 1) := by decide +kernel
theorem dL_keeps_118 : decode cL_keeps 118 = .ok (.iload 10, 2) := by decide +kernel
theorem dL_keeps_120 : decode cL_keeps 120 = .ok (.iconst 3, 1) := by decide +kernel
theorem dL_keeps_121 : decode cL_keeps 121 = .ok (.if_icmp .ge 7, 3) := by decide +kernel
theorem dL_keeps_124 : decode cL_keeps 124 = .ok (.iconst 3, 1) := by decide +kernel
theorem dL_keeps_125 : decode cL_keeps 125 = .ok (.goto 28, 3) := by decide +kernel
theorem dL_keeps_128 : decode cL_keeps 128 = .ok (.iload 10, 2) := by decide +kernel
theorem dL_keeps_130 : decode cL_keeps 130 = .ok (.iconst 5, 1) := by decide +kernel
theorem dL_keeps_131 : decode cL_keeps 131 = .ok (.if_icmp .ge 7, 3) := by decide +kernel
theorem dL_keeps_134 : decode cL_keeps 134 = .ok (.iconst 2, 1) := by decide +kernel
theorem dL_keeps_135 : decode cL_keeps 135 = .ok (.goto 18, 3) := by decide +kernel
theorem dL_keeps_138 : decode cL_keeps 138 = .ok (.iload 10, 2) := by decide +kernel
theorem dL_keeps_140 : decode cL_keeps 140 = .ok (.bipush 8, 2) := by decide +kernel
theorem dL_keeps_142 : decode cL_keeps 142 = .ok (.if_icmp .ge 10, 3) := by decide +kernel
theorem dL_keeps_145 : decode cL_keeps 145 = .ok (.iload 10, 2) := by decide +kernel
theorem dL_keeps_147 : decode cL_keeps 147 = .ok (.iconst 1, 1) := by decide +kernel
theorem dL_keeps_148 : decode cL_keeps 148 = .ok (.isub, 1) := by decide +kernel
theorem dL_keeps_149 : decode cL_keeps 149 = .ok (.goto 4, 3) := by decide +kernel
theorem dL_keeps_152 : decode cL_keeps 152 = .ok (.iconst 1, 1) := by decide +kernel
theorem dL_keeps_153 : decode cL_keeps 153 = .ok (.iastore, 1) := by decide +kernel
theorem dL_keeps_154 : decode cL_keeps 154 = .ok (.aload_n 3, 1) := by decide +kernel
theorem dL_keeps_155 : decode cL_keeps 155 = .ok (.iconst 1, 1) := by decide +kernel
theorem dL_keeps_156 : decode cL_keeps 156 = .ok (.iload 10, 2) := by decide +kernel
theorem dL_keeps_158 : decode cL_keeps 158 = .ok (.iconst 3, 1) := by decide +kernel
theorem dL_keeps_159 : decode cL_keeps 159 = .ok (.if_icmp .ge 10, 3) := by decide +kernel
theorem dL_keeps_162 : decode cL_keeps 162 = .ok (.iconst 2, 1) := by decide +kernel
theorem dL_keeps_163 : decode cL_keeps 163 = .ok (.iload 10, 2) := by decide +kernel
theorem dL_keeps_165 : decode cL_keeps 165 = .ok (.iadd, 1) := by decide +kernel
theorem dL_keeps_166 : decode cL_keeps 166 = .ok (.goto 31, 3) := by decide +kernel
theorem dL_keeps_169 : decode cL_keeps 169 = .ok (.iload 10, 2) := by decide +kernel
theorem dL_keeps_171 : decode cL_keeps 171 = .ok (.iconst 5, 1) := by decide +kernel
theorem dL_keeps_172 : decode cL_keeps 172 = .ok (.if_icmp .ge 12, 3) := by decide +kernel
theorem dL_keeps_175 : decode cL_keeps 175 = .ok (.iconst 2, 1) := by decide +kernel
theorem dL_keeps_176 : decode cL_keeps 176 = .ok (.iload 10, 2) := by decide +kernel
theorem dL_keeps_178 : decode cL_keeps 178 = .ok (.imul, 1) := by decide +kernel
theorem dL_keeps_179 : decode cL_keeps 179 = .ok (.iconst 2, 1) := by decide +kernel
theorem dL_keeps_180 : decode cL_keeps 180 = .ok (.isub, 1) := by decide +kernel
theorem dL_keeps_181 : decode cL_keeps 181 = .ok (.goto 16, 3) := by decide +kernel
theorem dL_keeps_184 : decode cL_keeps 184 = .ok (.iload 10, 2) := by decide +kernel
theorem dL_keeps_186 : decode cL_keeps 186 = .ok (.bipush 8, 2) := by decide +kernel
theorem dL_keeps_188 : decode cL_keeps 188 = .ok (.if_icmp .ge 7, 3) := by decide +kernel
theorem dL_keeps_191 : decode cL_keeps 191 = .ok (.iconst 2, 1) := by decide +kernel
theorem dL_keeps_192 : decode cL_keeps 192 = .ok (.goto 5, 3) := by decide +kernel
theorem dL_keeps_195 : decode cL_keeps 195 = .ok (.bipush 6, 2) := by decide +kernel
theorem dL_keeps_197 : decode cL_keeps 197 = .ok (.iastore, 1) := by decide +kernel
theorem dL_keeps_198 : decode cL_keeps 198 = .ok (.aload_n 3, 1) := by decide +kernel
theorem dL_keeps_199 : decode cL_keeps 199 = .ok (.iconst 2, 1) := by decide +kernel
theorem dL_keeps_200 : decode cL_keeps 200 = .ok (.iconst 1, 1) := by decide +kernel
theorem dL_keeps_201 : decode cL_keeps 201 = .ok (.iastore, 1) := by decide +kernel
theorem dL_keeps_202 : decode cL_keeps 202 = .ok (.iconst 0, 1) := by decide +kernel
theorem dL_keeps_203 : decode cL_keeps 203 = .ok (.istore 11, 2) := by decide +kernel
theorem dL_keeps_205 : decode cL_keeps 205 = .ok (.iload 11, 2) := by decide +kernel
theorem dL_keeps_207 : decode cL_keeps 207 = .ok (.aload_n 3, 1) := by decide +kernel
theorem dL_keeps_208 : decode cL_keeps 208 = .ok (.iconst 0, 1) := by decide +kernel
theorem dL_keeps_209 : decode cL_keeps 209 = .ok (.iaload, 1) := by decide +kernel
theorem dL_keeps_210 : decode cL_keeps 210 = .ok (.if_icmp .ge 18, 3) := by decide +kernel
theorem dL_keeps_213 : decode cL_keeps 213 = .ok (.aload_n 3, 1) := by decide +kernel
theorem dL_keeps_214 : decode cL_keeps 214 = .ok (.iconst 2, 1) := by decide +kernel
theorem dL_keeps_215 : decode cL_keeps 215 = .ok (.dup2, 1) := by decide +kernel
theorem dL_keeps_216 : decode cL_keeps 216 = .ok (.iaload, 1) := by decide +kernel
theorem dL_keeps_217 : decode cL_keeps 217 = .ok (.aload_n 3, 1) := by decide +kernel
theorem dL_keeps_218 : decode cL_keeps 218 = .ok (.iconst 1, 1) := by decide +kernel
theorem dL_keeps_219 : decode cL_keeps 219 = .ok (.iaload, 1) := by decide +kernel
theorem dL_keeps_220 : decode cL_keeps 220 = .ok (.imul, 1) := by decide +kernel
theorem dL_keeps_221 : decode cL_keeps 221 = .ok (.iastore, 1) := by decide +kernel
theorem dL_keeps_222 : decode cL_keeps 222 = .ok (.iinc 11 1, 3) := by decide +kernel
theorem dL_keeps_225 : decode cL_keeps 225 = .ok (.goto (-20), 3) := by decide +kernel
theorem dL_keeps_228 : decode cL_keeps 228 = .ok (.aload_n 3, 1) := by decide +kernel
theorem dL_keeps_229 : decode cL_keeps 229 = .ok (.iconst 3, 1) := by decide +kernel
theorem dL_keeps_230 : decode cL_keeps 230 = .ok (.iconst 0, 1) := by decide +kernel
theorem dL_keeps_231 : decode cL_keeps 231 = .ok (.iastore, 1) := by decide +kernel
theorem dL_keeps_232 : decode cL_keeps 232 = .ok (.aload_n 3, 1) := by decide +kernel
theorem dL_keeps_233 : decode cL_keeps 233 = .ok (.iconst 4, 1) := by decide +kernel
theorem dL_keeps_234 : decode cL_keeps 234 = .ok (.iconst (-1), 1) := by decide +kernel
theorem dL_keeps_235 : decode cL_keeps 235 = .ok (.iastore, 1) := by decide +kernel
theorem dL_keeps_236 : decode cL_keeps 236 = .ok (.aload_n 3, 1) := by decide +kernel
theorem dL_keeps_237 : decode cL_keeps 237 = .ok (.iconst 5, 1) := by decide +kernel
theorem dL_keeps_238 : decode cL_keeps 238 = .ok (.iconst 0, 1) := by decide +kernel
theorem dL_keeps_239 : decode cL_keeps 239 = .ok (.iastore, 1) := by decide +kernel
theorem dL_keeps_240 : decode cL_keeps 240 = .ok (.aload_n 3, 1) := by decide +kernel
theorem dL_keeps_241 : decode cL_keeps 241 = .ok (.aload 4, 2) := by decide +kernel
theorem dL_keeps_243 : decode cL_keeps 243 = .ok (.invokestatic 118, 3) := by decide +kernel
theorem dL_keeps_246 : decode cL_keeps 246 = .ok (.aload_n 0, 1) := by decide +kernel
theorem dL_keeps_247 : decode cL_keeps 247 = .ok (.aload_n 3, 1) := by decide +kernel
theorem dL_keeps_248 : decode cL_keeps 248 = .ok (.iconst 0, 1) := by decide +kernel
theorem dL_keeps_249 : decode cL_keeps 249 = .ok (.iaload, 1) := by decide +kernel
theorem dL_keeps_250 : decode cL_keeps 250 = .ok (.aload_n 3, 1) := by decide +kernel
theorem dL_keeps_251 : decode cL_keeps 251 = .ok (.iconst 1, 1) := by decide +kernel
theorem dL_keeps_252 : decode cL_keeps 252 = .ok (.iaload, 1) := by decide +kernel
theorem dL_keeps_253 : decode cL_keeps 253 = .ok (.invokestatic 112, 3) := by decide +kernel
theorem dL_keeps_256 : decode cL_keeps 256 = .ok (.aload_n 3, 1) := by decide +kernel
theorem dL_keeps_257 : decode cL_keeps 257 = .ok (.iconst 2, 1) := by decide +kernel
theorem dL_keeps_258 : decode cL_keeps 258 = .ok (.iaload, 1) := by decide +kernel
theorem dL_keeps_259 : decode cL_keeps 259 = .ok (.if_icmp .ne 7, 3) := by decide +kernel
theorem dL_keeps_262 : decode cL_keeps 262 = .ok (.iconst 1, 1) := by decide +kernel
theorem dL_keeps_263 : decode cL_keeps 263 = .ok (.goto 4, 3) := by decide +kernel
theorem dL_keeps_266 : decode cL_keeps 266 = .ok (.iconst 0, 1) := by decide +kernel
theorem dL_keeps_267 : decode cL_keeps 267 = .ok (.ireturn, 1) := by decide +kernel
theorem dL_keeps_268 : decode cL_keeps 268 = .ok (.iload_n 1, 1) := by decide +kernel
theorem dL_keeps_269 : decode cL_keeps 269 = .ok (.iconst 1, 1) := by decide +kernel
theorem dL_keeps_270 : decode cL_keeps 270 = .ok (.if_icmp .ne 110, 3) := by decide +kernel
theorem dL_keeps_273 : decode cL_keeps 273 = .ok (.iload_n 2, 1) := by decide +kernel
theorem dL_keeps_274 : decode cL_keeps 274 = .ok (.iconst 3, 1) := by decide +kernel
theorem dL_keeps_275 : decode cL_keeps 275 = .ok (.ishr, 1) := by decide +kernel
theorem dL_keeps_276 : decode cL_keeps 276 = .ok (.iload_n 2, 1) := by decide +kernel
theorem dL_keeps_277 : decode cL_keeps 277 = .ok (.iconst 2, 1) := by decide +kernel
theorem dL_keeps_278 : decode cL_keeps 278 = .ok (.iand, 1) := by decide +kernel
theorem dL_keeps_279 : decode cL_keeps 279 = .ok (.ifCond .ne 7, 3) := by decide +kernel
theorem dL_keeps_282 : decode cL_keeps 282 = .ok (.iconst 4, 1) := by decide +kernel
theorem dL_keeps_283 : decode cL_keeps 283 = .ok (.goto 4, 3) := by decide +kernel
theorem dL_keeps_286 : decode cL_keeps 286 = .ok (.iconst 2, 1) := by decide +kernel
theorem dL_keeps_287 : decode cL_keeps 287 = .ok (.invokestatic 105, 3) := by decide +kernel
theorem dL_keeps_290 : decode cL_keeps 290 = .ok (.istore 10, 2) := by decide +kernel
theorem dL_keeps_292 : decode cL_keeps 292 = .ok (.aload_n 3, 1) := by decide +kernel
theorem dL_keeps_293 : decode cL_keeps 293 = .ok (.iconst 3, 1) := by decide +kernel
theorem dL_keeps_294 : decode cL_keeps 294 = .ok (.iaload, 1) := by decide +kernel
theorem dL_keeps_295 : decode cL_keeps 295 = .ok (.istore 11, 2) := by decide +kernel
theorem dL_keeps_297 : decode cL_keeps 297 = .ok (.aload_n 3, 1) := by decide +kernel
theorem dL_keeps_298 : decode cL_keeps 298 = .ok (.iconst 4, 1) := by decide +kernel
theorem dL_keeps_299 : decode cL_keeps 299 = .ok (.iaload, 1) := by decide +kernel
theorem dL_keeps_300 : decode cL_keeps 300 = .ok (.ifCond .lt 58, 3) := by decide +kernel
theorem dL_keeps_303 : decode cL_keeps 303 = .ok (.aload_n 3, 1) := by decide +kernel
theorem dL_keeps_304 : decode cL_keeps 304 = .ok (.aload 4, 2) := by decide +kernel
theorem dL_keeps_306 : decode cL_keeps 306 = .ok (.aload 5, 2) := by decide +kernel
theorem dL_keeps_308 : decode cL_keeps 308 = .ok (.aload 6, 2) := by decide +kernel
theorem dL_keeps_310 : decode cL_keeps 310 = .ok (.aload_n 3, 1) := by decide +kernel
theorem dL_keeps_311 : decode cL_keeps 311 = .ok (.iconst 4, 1) := by decide +kernel
theorem dL_keeps_312 : decode cL_keeps 312 = .ok (.iaload, 1) := by decide +kernel
theorem dL_keeps_313 : decode cL_keeps 313 = .ok (.invokestatic 79, 3) := by decide +kernel
theorem dL_keeps_316 : decode cL_keeps 316 = .ok (.iload 10, 2) := by decide +kernel
theorem dL_keeps_318 : decode cL_keeps 318 = .ok (.if_icmp .le 40, 3) := by decide +kernel
theorem dL_keeps_321 : decode cL_keeps 321 = .ok (.aload_n 0, 1) := by decide +kernel
theorem dL_keeps_322 : decode cL_keeps 322 = .ok (.iload 10, 2) := by decide +kernel
theorem dL_keeps_324 : decode cL_keeps 324 = .ok (.invokestatic 122, 3) := by decide +kernel
theorem dL_keeps_327 : decode cL_keeps 327 = .ok (.bipush (-73), 2) := by decide +kernel
theorem dL_keeps_329 : decode cL_keeps 329 = .ok (.if_icmp .ne 27, 3) := by decide +kernel
theorem dL_keeps_332 : decode cL_keeps 332 = .ok (.aload_n 0, 1) := by decide +kernel
theorem dL_keeps_333 : decode cL_keeps 333 = .ok (.iconst 4, 1) := by decide +kernel
theorem dL_keeps_334 : decode cL_keeps 334 = .ok (.invokestatic 122, 3) := by decide +kernel
theorem dL_keeps_337 : decode cL_keeps 337 = .ok (.bipush (-72), 2) := by decide +kernel
theorem dL_keeps_339 : decode cL_keeps 339 = .ok (.if_icmp .ne 17, 3) := by decide +kernel
theorem dL_keeps_342 : decode cL_keeps 342 = .ok (.aload_n 0, 1) := by decide +kernel
theorem dL_keeps_343 : decode cL_keeps 343 = .ok (.iconst (-1), 1) := by decide +kernel
theorem dL_keeps_344 : decode cL_keeps 344 = .ok (.invokestatic 122, 3) := by decide +kernel
theorem dL_keeps_347 : decode cL_keeps 347 = .ok (.bipush (-72), 2) := by decide +kernel
theorem dL_keeps_349 : decode cL_keeps 349 = .ok (.if_icmp .ne 7, 3) := by decide +kernel
theorem dL_keeps_352 : decode cL_keeps 352 = .ok (.iconst 1, 1) := by decide +kernel
theorem dL_keeps_353 : decode cL_keeps 353 = .ok (.goto 4, 3) := by decide +kernel
theorem dL_keeps_356 : decode cL_keeps 356 = .ok (.iconst 0, 1) := by decide +kernel
theorem dL_keeps_357 : decode cL_keeps 357 = .ok (.ireturn, 1) := by decide +kernel
theorem dL_keeps_358 : decode cL_keeps 358 = .ok (.aload_n 3, 1) := by decide +kernel
theorem dL_keeps_359 : decode cL_keeps 359 = .ok (.iconst 3, 1) := by decide +kernel
theorem dL_keeps_360 : decode cL_keeps 360 = .ok (.iload 10, 2) := by decide +kernel
theorem dL_keeps_362 : decode cL_keeps 362 = .ok (.iastore, 1) := by decide +kernel
theorem dL_keeps_363 : decode cL_keeps 363 = .ok (.aload_n 0, 1) := by decide +kernel
theorem dL_keeps_364 : decode cL_keeps 364 = .ok (.iload 10, 2) := by decide +kernel
theorem dL_keeps_366 : decode cL_keeps 366 = .ok (.invokestatic 122, 3) := by decide +kernel
theorem dL_keeps_369 : decode cL_keeps 369 = .ok (.iload 11, 2) := by decide +kernel
theorem dL_keeps_371 : decode cL_keeps 371 = .ok (.if_icmp .ne 7, 3) := by decide +kernel
theorem dL_keeps_374 : decode cL_keeps 374 = .ok (.iconst 1, 1) := by decide +kernel
theorem dL_keeps_375 : decode cL_keeps 375 = .ok (.goto 4, 3) := by decide +kernel
theorem dL_keeps_378 : decode cL_keeps 378 = .ok (.iconst 0, 1) := by decide +kernel
theorem dL_keeps_379 : decode cL_keeps 379 = .ok (.ireturn, 1) := by decide +kernel
theorem dL_keeps_380 : decode cL_keeps 380 = .ok (.iload_n 1, 1) := by decide +kernel
theorem dL_keeps_381 : decode cL_keeps 381 = .ok (.iconst 2, 1) := by decide +kernel
theorem dL_keeps_382 : decode cL_keeps 382 = .ok (.if_icmp .ne 129, 3) := by decide +kernel
theorem dL_keeps_385 : decode cL_keeps 385 = .ok (.iconst 0, 1) := by decide +kernel
theorem dL_keeps_386 : decode cL_keeps 386 = .ok (.istore 10, 2) := by decide +kernel
theorem dL_keeps_388 : decode cL_keeps 388 = .ok (.iload 10, 2) := by decide +kernel
theorem dL_keeps_390 : decode cL_keeps 390 = .ok (.aload_n 3, 1) := by decide +kernel
theorem dL_keeps_391 : decode cL_keeps 391 = .ok (.iconst 2, 1) := by decide +kernel
theorem dL_keeps_392 : decode cL_keeps 392 = .ok (.iaload, 1) := by decide +kernel
theorem dL_keeps_393 : decode cL_keeps 393 = .ok (.if_icmp .ge 36, 3) := by decide +kernel
theorem dL_keeps_396 : decode cL_keeps 396 = .ok (.lload 8, 2) := by decide +kernel
theorem dL_keeps_398 : decode cL_keeps 398 = .ok (.iload 7, 2) := by decide +kernel
theorem dL_keeps_400 : decode cL_keeps 400 = .ok (.invokestatic 83, 3) := by decide +kernel
theorem dL_keeps_403 : decode cL_keeps 403 = .ok (.ifCond .ne 26, 3) := by decide +kernel
theorem dL_keeps_406 : decode cL_keeps 406 = .ok (.iload_n 2, 1) := by decide +kernel
theorem dL_keeps_407 : decode cL_keeps 407 = .ok (.ldc 125, 2) := by decide +kernel
theorem dL_keeps_409 : decode cL_keeps 409 = .ok (.iand, 1) := by decide +kernel
theorem dL_keeps_410 : decode cL_keeps 410 = .ok (.ifCond .le 19, 3) := by decide +kernel
theorem dL_keeps_413 : decode cL_keeps 413 = .ok (.iload 7, 2) := by decide +kernel
theorem dL_keeps_415 : decode cL_keeps 415 = .ok (.iconst 1, 1) := by decide +kernel
theorem dL_keeps_416 : decode cL_keeps 416 = .ok (.iadd, 1) := by decide +kernel
theorem dL_keeps_417 : decode cL_keeps 417 = .ok (.aload_n 3, 1) := by decide +kernel
theorem dL_keeps_418 : decode cL_keeps 418 = .ok (.iconst 2, 1) := by decide +kernel
theorem dL_keeps_419 : decode cL_keeps 419 = .ok (.iaload, 1) := by decide +kernel
theorem dL_keeps_420 : decode cL_keeps 420 = .ok (.irem, 1) := by decide +kernel
theorem dL_keeps_421 : decode cL_keeps 421 = .ok (.istore 7, 2) := by decide +kernel
theorem dL_keeps_423 : decode cL_keeps 423 = .ok (.iinc 10 1, 3) := by decide +kernel
theorem dL_keeps_426 : decode cL_keeps 426 = .ok (.goto (-38), 3) := by decide +kernel
theorem dL_keeps_429 : decode cL_keeps 429 = .ok (.lload 8, 2) := by decide +kernel
theorem dL_keeps_431 : decode cL_keeps 431 = .ok (.iload 7, 2) := by decide +kernel
theorem dL_keeps_433 : decode cL_keeps 433 = .ok (.invokestatic 83, 3) := by decide +kernel
theorem dL_keeps_436 : decode cL_keeps 436 = .ok (.ifCond .ne 32, 3) := by decide +kernel
theorem dL_keeps_439 : decode cL_keeps 439 = .ok (.aload_n 0, 1) := by decide +kernel
theorem dL_keeps_440 : decode cL_keeps 440 = .ok (.iload 7, 2) := by decide +kernel
theorem dL_keeps_442 : decode cL_keeps 442 = .ok (.invokestatic 126, 3) := by decide +kernel
theorem dL_keeps_445 : decode cL_keeps 445 = .ok (.bipush (-73), 2) := by decide +kernel
theorem dL_keeps_447 : decode cL_keeps 447 = .ok (.if_icmp .ne 19, 3) := by decide +kernel
theorem dL_keeps_450 : decode cL_keeps 450 = .ok (.aload_n 0, 1) := by decide +kernel
theorem dL_keeps_451 : decode cL_keeps 451 = .ok (.aload_n 3, 1) := by decide +kernel
theorem dL_keeps_452 : decode cL_keeps 452 = .ok (.iconst 2, 1) := by decide +kernel
theorem dL_keeps_453 : decode cL_keeps 453 = .ok (.iaload, 1) := by decide +kernel
theorem dL_keeps_454 : decode cL_keeps 454 = .ok (.invokestatic 126, 3) := by decide +kernel
theorem dL_keeps_457 : decode cL_keeps 457 = .ok (.bipush (-71), 2) := by decide +kernel
theorem dL_keeps_459 : decode cL_keeps 459 = .ok (.if_icmp .ne 7, 3) := by decide +kernel
theorem dL_keeps_462 : decode cL_keeps 462 = .ok (.iconst 1, 1) := by decide +kernel
theorem dL_keeps_463 : decode cL_keeps 463 = .ok (.goto 4, 3) := by decide +kernel
theorem dL_keeps_466 : decode cL_keeps 466 = .ok (.iconst 0, 1) := by decide +kernel
theorem dL_keeps_467 : decode cL_keeps 467 = .ok (.ireturn, 1) := by decide +kernel
theorem dL_keeps_468 : decode cL_keeps 468 = .ok (.aload_n 3, 1) := by decide +kernel
theorem dL_keeps_469 : decode cL_keeps 469 = .ok (.iconst 4, 1) := by decide +kernel
theorem dL_keeps_470 : decode cL_keeps 470 = .ok (.iaload, 1) := by decide +kernel
theorem dL_keeps_471 : decode cL_keeps 471 = .ok (.ifCond .lt 7, 3) := by decide +kernel
theorem dL_keeps_474 : decode cL_keeps 474 = .ok (.iconst 1, 1) := by decide +kernel
theorem dL_keeps_475 : decode cL_keeps 475 = .ok (.goto 4, 3) := by decide +kernel
theorem dL_keeps_478 : decode cL_keeps 478 = .ok (.iconst 0, 1) := by decide +kernel
theorem dL_keeps_479 : decode cL_keeps 479 = .ok (.istore 10, 2) := by decide +kernel
theorem dL_keeps_481 : decode cL_keeps 481 = .ok (.aload_n 3, 1) := by decide +kernel
theorem dL_keeps_482 : decode cL_keeps 482 = .ok (.iconst 4, 1) := by decide +kernel
theorem dL_keeps_483 : decode cL_keeps 483 = .ok (.iload 7, 2) := by decide +kernel
theorem dL_keeps_485 : decode cL_keeps 485 = .ok (.iastore, 1) := by decide +kernel
theorem dL_keeps_486 : decode cL_keeps 486 = .ok (.aload_n 0, 1) := by decide +kernel
theorem dL_keeps_487 : decode cL_keeps 487 = .ok (.iload 7, 2) := by decide +kernel
theorem dL_keeps_489 : decode cL_keeps 489 = .ok (.invokestatic 126, 3) := by decide +kernel
theorem dL_keeps_492 : decode cL_keeps 492 = .ok (.iload 10, 2) := by decide +kernel
theorem dL_keeps_494 : decode cL_keeps 494 = .ok (.ifCond .eq 7, 3) := by decide +kernel
theorem dL_keeps_497 : decode cL_keeps 497 = .ok (.iconst 1, 1) := by decide +kernel
theorem dL_keeps_498 : decode cL_keeps 498 = .ok (.goto 4, 3) := by decide +kernel
theorem dL_keeps_501 : decode cL_keeps 501 = .ok (.iconst 0, 1) := by decide +kernel
theorem dL_keeps_502 : decode cL_keeps 502 = .ok (.if_icmp .ne 7, 3) := by decide +kernel
theorem dL_keeps_505 : decode cL_keeps 505 = .ok (.iconst 1, 1) := by decide +kernel
theorem dL_keeps_506 : decode cL_keeps 506 = .ok (.goto 4, 3) := by decide +kernel
theorem dL_keeps_509 : decode cL_keeps 509 = .ok (.iconst 0, 1) := by decide +kernel
theorem dL_keeps_510 : decode cL_keeps 510 = .ok (.ireturn, 1) := by decide +kernel
theorem dL_keeps_511 : decode cL_keeps 511 = .ok (.iload_n 1, 1) := by decide +kernel
theorem dL_keeps_512 : decode cL_keeps 512 = .ok (.iconst 5, 1) := by decide +kernel
theorem dL_keeps_513 : decode cL_keeps 513 = .ok (.if_icmp .ge 101, 3) := by decide +kernel
theorem dL_keeps_516 : decode cL_keeps 516 = .ok (.aload_n 3, 1) := by decide +kernel
theorem dL_keeps_517 : decode cL_keeps 517 = .ok (.iconst 4, 1) := by decide +kernel
theorem dL_keeps_518 : decode cL_keeps 518 = .ok (.iaload, 1) := by decide +kernel
theorem dL_keeps_519 : decode cL_keeps 519 = .ok (.ifCond .lt 11, 3) := by decide +kernel
theorem dL_keeps_522 : decode cL_keeps 522 = .ok (.aload_n 3, 1) := by decide +kernel
theorem dL_keeps_523 : decode cL_keeps 523 = .ok (.iconst 5, 1) := by decide +kernel
theorem dL_keeps_524 : decode cL_keeps 524 = .ok (.iaload, 1) := by decide +kernel
theorem dL_keeps_525 : decode cL_keeps 525 = .ok (.bipush 10, 2) := by decide +kernel
theorem dL_keeps_527 : decode cL_keeps 527 = .ok (.if_icmp .ne 32, 3) := by decide +kernel
theorem dL_keeps_530 : decode cL_keeps 530 = .ok (.aload_n 0, 1) := by decide +kernel
theorem dL_keeps_531 : decode cL_keeps 531 = .ok (.iload 7, 2) := by decide +kernel
theorem dL_keeps_533 : decode cL_keeps 533 = .ok (.invokestatic 128, 3) := by decide +kernel
theorem dL_keeps_536 : decode cL_keeps 536 = .ok (.bipush (-73), 2) := by decide +kernel
theorem dL_keeps_538 : decode cL_keeps 538 = .ok (.if_icmp .ne 19, 3) := by decide +kernel
theorem dL_keeps_541 : decode cL_keeps 541 = .ok (.aload_n 0, 1) := by decide +kernel
theorem dL_keeps_542 : decode cL_keeps 542 = .ok (.aload_n 3, 1) := by decide +kernel
theorem dL_keeps_543 : decode cL_keeps 543 = .ok (.iconst 2, 1) := by decide +kernel
theorem dL_keeps_544 : decode cL_keeps 544 = .ok (.iaload, 1) := by decide +kernel
theorem dL_keeps_545 : decode cL_keeps 545 = .ok (.invokestatic 128, 3) := by decide +kernel
theorem dL_keeps_548 : decode cL_keeps 548 = .ok (.bipush (-71), 2) := by decide +kernel
theorem dL_keeps_550 : decode cL_keeps 550 = .ok (.if_icmp .ne 7, 3) := by decide +kernel
theorem dL_keeps_553 : decode cL_keeps 553 = .ok (.iconst 1, 1) := by decide +kernel
theorem dL_keeps_554 : decode cL_keeps 554 = .ok (.goto 4, 3) := by decide +kernel
theorem dL_keeps_557 : decode cL_keeps 557 = .ok (.iconst 0, 1) := by decide +kernel
theorem dL_keeps_558 : decode cL_keeps 558 = .ok (.ireturn, 1) := by decide +kernel
theorem dL_keeps_559 : decode cL_keeps 559 = .ok (.aload 5, 2) := by decide +kernel
theorem dL_keeps_561 : decode cL_keeps 561 = .ok (.aload_n 3, 1) := by decide +kernel
theorem dL_keeps_562 : decode cL_keeps 562 = .ok (.iconst 5, 1) := by decide +kernel
theorem dL_keeps_563 : decode cL_keeps 563 = .ok (.iaload, 1) := by decide +kernel
theorem dL_keeps_564 : decode cL_keeps 564 = .ok (.iload 7, 2) := by decide +kernel
theorem dL_keeps_566 : decode cL_keeps 566 = .ok (.iastore, 1) := by decide +kernel
theorem dL_keeps_567 : decode cL_keeps 567 = .ok (.aload 6, 2) := by decide +kernel
theorem dL_keeps_569 : decode cL_keeps 569 = .ok (.aload_n 3, 1) := by decide +kernel
theorem dL_keeps_570 : decode cL_keeps 570 = .ok (.iconst 5, 1) := by decide +kernel
theorem dL_keeps_571 : decode cL_keeps 571 = .ok (.iaload, 1) := by decide +kernel
theorem dL_keeps_572 : decode cL_keeps 572 = .ok (.aload_n 3, 1) := by decide +kernel
theorem dL_keeps_573 : decode cL_keeps 573 = .ok (.aload 4, 2) := by decide +kernel
theorem dL_keeps_575 : decode cL_keeps 575 = .ok (.iload 7, 2) := by decide +kernel
theorem dL_keeps_577 : decode cL_keeps 577 = .ok (.aload_n 3, 1) := by decide +kernel
theorem dL_keeps_578 : decode cL_keeps 578 = .ok (.iconst 4, 1) := by decide +kernel
theorem dL_keeps_579 : decode cL_keeps 579 = .ok (.iaload, 1) := by decide +kernel
theorem dL_keeps_580 : decode cL_keeps 580 = .ok (.invokestatic 75, 3) := by decide +kernel
theorem dL_keeps_583 : decode cL_keeps 583 = .ok (.iastore, 1) := by decide +kernel
theorem dL_keeps_584 : decode cL_keeps 584 = .ok (.aload_n 3, 1) := by decide +kernel
theorem dL_keeps_585 : decode cL_keeps 585 = .ok (.iconst 5, 1) := by decide +kernel
theorem dL_keeps_586 : decode cL_keeps 586 = .ok (.dup2, 1) := by decide +kernel
theorem dL_keeps_587 : decode cL_keeps 587 = .ok (.iaload, 1) := by decide +kernel
theorem dL_keeps_588 : decode cL_keeps 588 = .ok (.iconst 1, 1) := by decide +kernel
theorem dL_keeps_589 : decode cL_keeps 589 = .ok (.iadd, 1) := by decide +kernel
theorem dL_keeps_590 : decode cL_keeps 590 = .ok (.iastore, 1) := by decide +kernel
theorem dL_keeps_591 : decode cL_keeps 591 = .ok (.aload_n 0, 1) := by decide +kernel
theorem dL_keeps_592 : decode cL_keeps 592 = .ok (.iload 7, 2) := by decide +kernel
theorem dL_keeps_594 : decode cL_keeps 594 = .ok (.invokestatic 128, 3) := by decide +kernel
theorem dL_keeps_597 : decode cL_keeps 597 = .ok (.aload 6, 2) := by decide +kernel
theorem dL_keeps_599 : decode cL_keeps 599 = .ok (.aload_n 3, 1) := by decide +kernel
theorem dL_keeps_600 : decode cL_keeps 600 = .ok (.iconst 5, 1) := by decide +kernel
theorem dL_keeps_601 : decode cL_keeps 601 = .ok (.iaload, 1) := by decide +kernel
theorem dL_keeps_602 : decode cL_keeps 602 = .ok (.iconst 1, 1) := by decide +kernel
theorem dL_keeps_603 : decode cL_keeps 603 = .ok (.isub, 1) := by decide +kernel
theorem dL_keeps_604 : decode cL_keeps 604 = .ok (.iaload, 1) := by decide +kernel
theorem dL_keeps_605 : decode cL_keeps 605 = .ok (.if_icmp .ne 7, 3) := by decide +kernel
theorem dL_keeps_608 : decode cL_keeps 608 = .ok (.iconst 1, 1) := by decide +kernel
theorem dL_keeps_609 : decode cL_keeps 609 = .ok (.goto 4, 3) := by decide +kernel
theorem dL_keeps_612 : decode cL_keeps 612 = .ok (.iconst 0, 1) := by decide +kernel
theorem dL_keeps_613 : decode cL_keeps 613 = .ok (.ireturn, 1) := by decide +kernel
theorem dL_keeps_614 : decode cL_keeps 614 = .ok (.iload_n 1, 1) := by decide +kernel
theorem dL_keeps_615 : decode cL_keeps 615 = .ok (.bipush 9, 2) := by decide +kernel
theorem dL_keeps_617 : decode cL_keeps 617 = .ok (.if_icmp .ge 344, 3) := by decide +kernel
theorem dL_keeps_620 : decode cL_keeps 620 = .ok (.iload_n 2, 1) := by decide +kernel
theorem dL_keeps_621 : decode cL_keeps 621 = .ok (.bipush 7, 2) := by decide +kernel
theorem dL_keeps_623 : decode cL_keeps 623 = .ok (.ishr, 1) := by decide +kernel
theorem dL_keeps_624 : decode cL_keeps 624 = .ok (.aload_n 3, 1) := by decide +kernel
theorem dL_keeps_625 : decode cL_keeps 625 = .ok (.iconst 2, 1) := by decide +kernel
theorem dL_keeps_626 : decode cL_keeps 626 = .ok (.iaload, 1) := by decide +kernel
theorem dL_keeps_627 : decode cL_keeps 627 = .ok (.invokestatic 105, 3) := by decide +kernel
theorem dL_keeps_630 : decode cL_keeps 630 = .ok (.istore 10, 2) := by decide +kernel
theorem dL_keeps_632 : decode cL_keeps 632 = .ok (.iconst 0, 1) := by decide +kernel
theorem dL_keeps_633 : decode cL_keeps 633 = .ok (.istore 11, 2) := by decide +kernel
theorem dL_keeps_635 : decode cL_keeps 635 = .ok (.iload 11, 2) := by decide +kernel
theorem dL_keeps_637 : decode cL_keeps 637 = .ok (.aload_n 3, 1) := by decide +kernel
theorem dL_keeps_638 : decode cL_keeps 638 = .ok (.iconst 2, 1) := by decide +kernel
theorem dL_keeps_639 : decode cL_keeps 639 = .ok (.iaload, 1) := by decide +kernel
theorem dL_keeps_640 : decode cL_keeps 640 = .ok (.if_icmp .ge 36, 3) := by decide +kernel
theorem dL_keeps_643 : decode cL_keeps 643 = .ok (.lload 8, 2) := by decide +kernel
theorem dL_keeps_645 : decode cL_keeps 645 = .ok (.iload 10, 2) := by decide +kernel
theorem dL_keeps_647 : decode cL_keeps 647 = .ok (.invokestatic 83, 3) := by decide +kernel
theorem dL_keeps_650 : decode cL_keeps 650 = .ok (.ifCond .ne 26, 3) := by decide +kernel
theorem dL_keeps_653 : decode cL_keeps 653 = .ok (.iload_n 2, 1) := by decide +kernel
theorem dL_keeps_654 : decode cL_keeps 654 = .ok (.ldc 125, 2) := by decide +kernel
theorem dL_keeps_656 : decode cL_keeps 656 = .ok (.iand, 1) := by decide +kernel
theorem dL_keeps_657 : decode cL_keeps 657 = .ok (.ifCond .le 19, 3) := by decide +kernel
theorem dL_keeps_660 : decode cL_keeps 660 = .ok (.iload 10, 2) := by decide +kernel
theorem dL_keeps_662 : decode cL_keeps 662 = .ok (.iconst 1, 1) := by decide +kernel
theorem dL_keeps_663 : decode cL_keeps 663 = .ok (.iadd, 1) := by decide +kernel
theorem dL_keeps_664 : decode cL_keeps 664 = .ok (.aload_n 3, 1) := by decide +kernel
theorem dL_keeps_665 : decode cL_keeps 665 = .ok (.iconst 2, 1) := by decide +kernel
theorem dL_keeps_666 : decode cL_keeps 666 = .ok (.iaload, 1) := by decide +kernel
theorem dL_keeps_667 : decode cL_keeps 667 = .ok (.irem, 1) := by decide +kernel
theorem dL_keeps_668 : decode cL_keeps 668 = .ok (.istore 10, 2) := by decide +kernel
theorem dL_keeps_670 : decode cL_keeps 670 = .ok (.iinc 11 1, 3) := by decide +kernel
theorem dL_keeps_673 : decode cL_keeps 673 = .ok (.goto (-38), 3) := by decide +kernel
theorem dL_keeps_676 : decode cL_keeps 676 = .ok (.iload_n 2, 1) := by decide +kernel
theorem dL_keeps_677 : decode cL_keeps 677 = .ok (.ldc 130, 2) := by decide +kernel
theorem dL_keeps_679 : decode cL_keeps 679 = .ok (.iand, 1) := by decide +kernel
theorem dL_keeps_680 : decode cL_keeps 680 = .ok (.ifCond .ne 32, 3) := by decide +kernel
theorem dL_keeps_683 : decode cL_keeps 683 = .ok (.bipush 10, 2) := by decide +kernel
theorem dL_keeps_685 : decode cL_keeps 685 = .ok (.iload_n 2, 1) := by decide +kernel
theorem dL_keeps_686 : decode cL_keeps 686 = .ok (.bipush 20, 2) := by decide +kernel
theorem dL_keeps_688 : decode cL_keeps 688 = .ok (.ishr, 1) := by decide +kernel
theorem dL_keeps_689 : decode cL_keeps 689 = .ok (.aload_n 3, 1) := by decide +kernel
theorem dL_keeps_690 : decode cL_keeps 690 = .ok (.iconst 0, 1) := by decide +kernel
theorem dL_keeps_691 : decode cL_keeps 691 = .ok (.iaload, 1) := by decide +kernel
theorem dL_keeps_692 : decode cL_keeps 692 = .ok (.iconst 1, 1) := by decide +kernel
theorem dL_keeps_693 : decode cL_keeps 693 = .ok (.iadd, 1) := by decide +kernel
theorem dL_keeps_694 : decode cL_keeps 694 = .ok (.invokestatic 105, 3) := by decide +kernel
theorem dL_keeps_697 : decode cL_keeps 697 = .ok (.imul, 1) := by decide +kernel
theorem dL_keeps_698 : decode cL_keeps 698 = .ok (.iload_n 2, 1) := by decide +kernel
theorem dL_keeps_699 : decode cL_keeps 699 = .ok (.bipush 24, 2) := by decide +kernel
theorem dL_keeps_701 : decode cL_keeps 701 = .ok (.ishr, 1) := by decide +kernel
theorem dL_keeps_702 : decode cL_keeps 702 = .ok (.iconst 4, 1) := by decide +kernel
theorem dL_keeps_703 : decode cL_keeps 703 = .ok (.invokestatic 105, 3) := by decide +kernel
theorem dL_keeps_706 : decode cL_keeps 706 = .ok (.iadd, 1) := by decide +kernel
theorem dL_keeps_707 : decode cL_keeps 707 = .ok (.iconst 1, 1) := by decide +kernel
theorem dL_keeps_708 : decode cL_keeps 708 = .ok (.isub, 1) := by decide +kernel
theorem dL_keeps_709 : decode cL_keeps 709 = .ok (.goto 32, 3) := by decide +kernel
theorem dL_keeps_712 : decode cL_keeps 712 = .ok (.aload_n 3, 1) := by decide +kernel
theorem dL_keeps_713 : decode cL_keeps 713 = .ok (.aload 4, 2) := by decide +kernel
theorem dL_keeps_715 : decode cL_keeps 715 = .ok (.iload 7, 2) := by decide +kernel
theorem dL_keeps_717 : decode cL_keeps 717 = .ok (.aload_n 3, 1) := by decide +kernel
theorem dL_keeps_718 : decode cL_keeps 718 = .ok (.iconst 4, 1) := by decide +kernel
theorem dL_keeps_719 : decode cL_keeps 719 = .ok (.iaload, 1) := by decide +kernel
theorem dL_keeps_720 : decode cL_keeps 720 = .ok (.ifCond .lt 16, 3) := by decide +kernel
theorem dL_keeps_723 : decode cL_keeps 723 = .ok (.iload_n 2, 1) := by decide +kernel
theorem dL_keeps_724 : decode cL_keeps 724 = .ok (.ldc 131, 2) := by decide +kernel
theorem dL_keeps_726 : decode cL_keeps 726 = .ok (.iand, 1) := by decide +kernel
theorem dL_keeps_727 : decode cL_keeps 727 = .ok (.ifCond .le 9, 3) := by decide +kernel
theorem dL_keeps_730 : decode cL_keeps 730 = .ok (.aload_n 3, 1) := by decide +kernel
theorem dL_keeps_731 : decode cL_keeps 731 = .ok (.iconst 4, 1) := by decide +kernel
theorem dL_keeps_732 : decode cL_keeps 732 = .ok (.iaload, 1) := by decide +kernel
theorem dL_keeps_733 : decode cL_keeps 733 = .ok (.goto 5, 3) := by decide +kernel
theorem dL_keeps_736 : decode cL_keeps 736 = .ok (.iload 10, 2) := by decide +kernel
theorem dL_keeps_738 : decode cL_keeps 738 = .ok (.invokestatic 75, 3) := by decide +kernel
theorem dL_keeps_741 : decode cL_keeps 741 = .ok (.istore 11, 2) := by decide +kernel
theorem dL_keeps_743 : decode cL_keeps 743 = .ok (.aload_n 3, 1) := by decide +kernel
theorem dL_keeps_744 : decode cL_keeps 744 = .ok (.iload 11, 2) := by decide +kernel
theorem dL_keeps_746 : decode cL_keeps 746 = .ok (.invokestatic 132, 3) := by decide +kernel
theorem dL_keeps_749 : decode cL_keeps 749 = .ok (.ifCond .ne 47, 3) := by decide +kernel
theorem dL_keeps_752 : decode cL_keeps 752 = .ok (.aload_n 0, 1) := by decide +kernel
theorem dL_keeps_753 : decode cL_keeps 753 = .ok (.iload 7, 2) := by decide +kernel
theorem dL_keeps_755 : decode cL_keeps 755 = .ok (.iload 11, 2) := by decide +kernel
theorem dL_keeps_757 : decode cL_keeps 757 = .ok (.invokestatic 136, 3) := by decide +kernel
theorem dL_keeps_760 : decode cL_keeps 760 = .ok (.bipush (-72), 2) := by decide +kernel
theorem dL_keeps_762 : decode cL_keeps 762 = .ok (.if_icmp .ne 32, 3) := by decide +kernel
theorem dL_keeps_765 : decode cL_keeps 765 = .ok (.aload_n 0, 1) := by decide +kernel
theorem dL_keeps_766 : decode cL_keeps 766 = .ok (.iconst (-1), 1) := by decide +kernel
theorem dL_keeps_767 : decode cL_keeps 767 = .ok (.iload 11, 2) := by decide +kernel
theorem dL_keeps_769 : decode cL_keeps 769 = .ok (.invokestatic 136, 3) := by decide +kernel
theorem dL_keeps_772 : decode cL_keeps 772 = .ok (.bipush (-71), 2) := by decide +kernel
theorem dL_keeps_774 : decode cL_keeps 774 = .ok (.if_icmp .ne 20, 3) := by decide +kernel
theorem dL_keeps_777 : decode cL_keeps 777 = .ok (.aload_n 0, 1) := by decide +kernel
theorem dL_keeps_778 : decode cL_keeps 778 = .ok (.iload 7, 2) := by decide +kernel
theorem dL_keeps_780 : decode cL_keeps 780 = .ok (.iload 11, 2) := by decide +kernel
theorem dL_keeps_782 : decode cL_keeps 782 = .ok (.invokestatic 138, 3) := by decide +kernel
theorem dL_keeps_785 : decode cL_keeps 785 = .ok (.bipush (-72), 2) := by decide +kernel
theorem dL_keeps_787 : decode cL_keeps 787 = .ok (.if_icmp .ne 7, 3) := by decide +kernel
theorem dL_keeps_790 : decode cL_keeps 790 = .ok (.iconst 1, 1) := by decide +kernel
theorem dL_keeps_791 : decode cL_keeps 791 = .ok (.goto 4, 3) := by decide +kernel
theorem dL_keeps_794 : decode cL_keeps 794 = .ok (.iconst 0, 1) := by decide +kernel
theorem dL_keeps_795 : decode cL_keeps 795 = .ok (.ireturn, 1) := by decide +kernel
theorem dL_keeps_796 : decode cL_keeps 796 = .ok (.aload_n 3, 1) := by decide +kernel
theorem dL_keeps_797 : decode cL_keeps 797 = .ok (.iconst 5, 1) := by decide +kernel
theorem dL_keeps_798 : decode cL_keeps 798 = .ok (.iaload, 1) := by decide +kernel
theorem dL_keeps_799 : decode cL_keeps 799 = .ok (.bipush 10, 2) := by decide +kernel
theorem dL_keeps_801 : decode cL_keeps 801 = .ok (.if_icmp .ge 54, 3) := by decide +kernel
theorem dL_keeps_804 : decode cL_keeps 804 = .ok (.aload_n 3, 1) := by decide +kernel
theorem dL_keeps_805 : decode cL_keeps 805 = .ok (.iconst 4, 1) := by decide +kernel
theorem dL_keeps_806 : decode cL_keeps 806 = .ok (.iaload, 1) := by decide +kernel
theorem dL_keeps_807 : decode cL_keeps 807 = .ok (.ifCond .lt 44, 3) := by decide +kernel
theorem dL_keeps_810 : decode cL_keeps 810 = .ok (.aload_n 3, 1) := by decide +kernel
theorem dL_keeps_811 : decode cL_keeps 811 = .ok (.aload 4, 2) := by decide +kernel
theorem dL_keeps_813 : decode cL_keeps 813 = .ok (.aload 5, 2) := by decide +kernel
theorem dL_keeps_815 : decode cL_keeps 815 = .ok (.aload 6, 2) := by decide +kernel
theorem dL_keeps_817 : decode cL_keeps 817 = .ok (.aload_n 3, 1) := by decide +kernel
theorem dL_keeps_818 : decode cL_keeps 818 = .ok (.iconst 4, 1) := by decide +kernel
theorem dL_keeps_819 : decode cL_keeps 819 = .ok (.iaload, 1) := by decide +kernel
theorem dL_keeps_820 : decode cL_keeps 820 = .ok (.invokestatic 79, 3) := by decide +kernel
theorem dL_keeps_823 : decode cL_keeps 823 = .ok (.aload_n 3, 1) := by decide +kernel
theorem dL_keeps_824 : decode cL_keeps 824 = .ok (.aload 4, 2) := by decide +kernel
theorem dL_keeps_826 : decode cL_keeps 826 = .ok (.iload 7, 2) := by decide +kernel
theorem dL_keeps_828 : decode cL_keeps 828 = .ok (.aload_n 3, 1) := by decide +kernel
theorem dL_keeps_829 : decode cL_keeps 829 = .ok (.iconst 4, 1) := by decide +kernel
theorem dL_keeps_830 : decode cL_keeps 830 = .ok (.iaload, 1) := by decide +kernel
theorem dL_keeps_831 : decode cL_keeps 831 = .ok (.invokestatic 75, 3) := by decide +kernel
theorem dL_keeps_834 : decode cL_keeps 834 = .ok (.iload 11, 2) := by decide +kernel
theorem dL_keeps_836 : decode cL_keeps 836 = .ok (.if_icmp .ne 7, 3) := by decide +kernel
theorem dL_keeps_839 : decode cL_keeps 839 = .ok (.iconst 0, 1) := by decide +kernel
theorem dL_keeps_840 : decode cL_keeps 840 = .ok (.goto 4, 3) := by decide +kernel
theorem dL_keeps_843 : decode cL_keeps 843 = .ok (.iconst 1, 1) := by decide +kernel
theorem dL_keeps_844 : decode cL_keeps 844 = .ok (.iadd, 1) := by decide +kernel
theorem dL_keeps_845 : decode cL_keeps 845 = .ok (.aload_n 3, 1) := by decide +kernel
theorem dL_keeps_846 : decode cL_keeps 846 = .ok (.iconst 3, 1) := by decide +kernel
theorem dL_keeps_847 : decode cL_keeps 847 = .ok (.iaload, 1) := by decide +kernel
theorem dL_keeps_848 : decode cL_keeps 848 = .ok (.if_icmp .gt 7, 3) := by decide +kernel
theorem dL_keeps_851 : decode cL_keeps 851 = .ok (.iconst 1, 1) := by decide +kernel
theorem dL_keeps_852 : decode cL_keeps 852 = .ok (.goto 4, 3) := by decide +kernel
theorem dL_keeps_855 : decode cL_keeps 855 = .ok (.iconst 0, 1) := by decide +kernel
theorem dL_keeps_856 : decode cL_keeps 856 = .ok (.istore 12, 2) := by decide +kernel
theorem dL_keeps_858 : decode cL_keeps 858 = .ok (.iload 12, 2) := by decide +kernel
theorem dL_keeps_860 : decode cL_keeps 860 = .ok (.ifCond .ne 48, 3) := by decide +kernel
theorem dL_keeps_863 : decode cL_keeps 863 = .ok (.aload_n 0, 1) := by decide +kernel
theorem dL_keeps_864 : decode cL_keeps 864 = .ok (.iload 7, 2) := by decide +kernel
theorem dL_keeps_866 : decode cL_keeps 866 = .ok (.iload 11, 2) := by decide +kernel
theorem dL_keeps_868 : decode cL_keeps 868 = .ok (.invokestatic 136, 3) := by decide +kernel
theorem dL_keeps_871 : decode cL_keeps 871 = .ok (.bipush (-73), 2) := by decide +kernel
theorem dL_keeps_873 : decode cL_keeps 873 = .ok (.if_icmp .ne 33, 3) := by decide +kernel
theorem dL_keeps_876 : decode cL_keeps 876 = .ok (.aload_n 0, 1) := by decide +kernel
theorem dL_keeps_877 : decode cL_keeps 877 = .ok (.aload_n 3, 1) := by decide +kernel
theorem dL_keeps_878 : decode cL_keeps 878 = .ok (.iconst 2, 1) := by decide +kernel
theorem dL_keeps_879 : decode cL_keeps 879 = .ok (.iaload, 1) := by decide +kernel
theorem dL_keeps_880 : decode cL_keeps 880 = .ok (.iload 11, 2) := by decide +kernel
theorem dL_keeps_882 : decode cL_keeps 882 = .ok (.invokestatic 136, 3) := by decide +kernel
theorem dL_keeps_885 : decode cL_keeps 885 = .ok (.bipush (-71), 2) := by decide +kernel
theorem dL_keeps_887 : decode cL_keeps 887 = .ok (.if_icmp .ne 19, 3) := by decide +kernel
theorem dL_keeps_890 : decode cL_keeps 890 = .ok (.aload_n 0, 1) := by decide +kernel
theorem dL_keeps_891 : decode cL_keeps 891 = .ok (.iload 7, 2) := by decide +kernel
theorem dL_keeps_893 : decode cL_keeps 893 = .ok (.iconst (-1), 1) := by decide +kernel
theorem dL_keeps_894 : decode cL_keeps 894 = .ok (.invokestatic 136, 3) := by decide +kernel
theorem dL_keeps_897 : decode cL_keeps 897 = .ok (.bipush (-72), 2) := by decide +kernel
theorem dL_keeps_899 : decode cL_keeps 899 = .ok (.if_icmp .ne 7, 3) := by decide +kernel
theorem dL_keeps_902 : decode cL_keeps 902 = .ok (.iconst 1, 1) := by decide +kernel
theorem dL_keeps_903 : decode cL_keeps 903 = .ok (.goto 4, 3) := by decide +kernel
theorem dL_keeps_906 : decode cL_keeps 906 = .ok (.iconst 0, 1) := by decide +kernel
theorem dL_keeps_907 : decode cL_keeps 907 = .ok (.ireturn, 1) := by decide +kernel
theorem dL_keeps_908 : decode cL_keeps 908 = .ok (.aload 5, 2) := by decide +kernel
theorem dL_keeps_910 : decode cL_keeps 910 = .ok (.aload_n 3, 1) := by decide +kernel
theorem dL_keeps_911 : decode cL_keeps 911 = .ok (.iconst 5, 1) := by decide +kernel
theorem dL_keeps_912 : decode cL_keeps 912 = .ok (.iaload, 1) := by decide +kernel
theorem dL_keeps_913 : decode cL_keeps 913 = .ok (.iload 7, 2) := by decide +kernel
theorem dL_keeps_915 : decode cL_keeps 915 = .ok (.iastore, 1) := by decide +kernel
theorem dL_keeps_916 : decode cL_keeps 916 = .ok (.aload 6, 2) := by decide +kernel
theorem dL_keeps_918 : decode cL_keeps 918 = .ok (.aload_n 3, 1) := by decide +kernel
theorem dL_keeps_919 : decode cL_keeps 919 = .ok (.iconst 5, 1) := by decide +kernel
theorem dL_keeps_920 : decode cL_keeps 920 = .ok (.iaload, 1) := by decide +kernel
theorem dL_keeps_921 : decode cL_keeps 921 = .ok (.iload 11, 2) := by decide +kernel
theorem dL_keeps_923 : decode cL_keeps 923 = .ok (.iastore, 1) := by decide +kernel
theorem dL_keeps_924 : decode cL_keeps 924 = .ok (.aload_n 3, 1) := by decide +kernel
theorem dL_keeps_925 : decode cL_keeps 925 = .ok (.iconst 5, 1) := by decide +kernel
theorem dL_keeps_926 : decode cL_keeps 926 = .ok (.dup2, 1) := by decide +kernel
theorem dL_keeps_927 : decode cL_keeps 927 = .ok (.iaload, 1) := by decide +kernel
theorem dL_keeps_928 : decode cL_keeps 928 = .ok (.iconst 1, 1) := by decide +kernel
theorem dL_keeps_929 : decode cL_keeps 929 = .ok (.iadd, 1) := by decide +kernel
theorem dL_keeps_930 : decode cL_keeps 930 = .ok (.iastore, 1) := by decide +kernel
theorem dL_keeps_931 : decode cL_keeps 931 = .ok (.aload_n 0, 1) := by decide +kernel
theorem dL_keeps_932 : decode cL_keeps 932 = .ok (.iload 7, 2) := by decide +kernel
theorem dL_keeps_934 : decode cL_keeps 934 = .ok (.iload 11, 2) := by decide +kernel
theorem dL_keeps_936 : decode cL_keeps 936 = .ok (.invokestatic 136, 3) := by decide +kernel
theorem dL_keeps_939 : decode cL_keeps 939 = .ok (.aload_n 3, 1) := by decide +kernel
theorem dL_keeps_940 : decode cL_keeps 940 = .ok (.aload 4, 2) := by decide +kernel
theorem dL_keeps_942 : decode cL_keeps 942 = .ok (.aload 5, 2) := by decide +kernel
theorem dL_keeps_944 : decode cL_keeps 944 = .ok (.aload 6, 2) := by decide +kernel
theorem dL_keeps_946 : decode cL_keeps 946 = .ok (.invokestatic 108, 3) := by decide +kernel
theorem dL_keeps_949 : decode cL_keeps 949 = .ok (.invokestatic 91, 3) := by decide +kernel
theorem dL_keeps_952 : decode cL_keeps 952 = .ok (.if_icmp .ne 7, 3) := by decide +kernel
theorem dL_keeps_955 : decode cL_keeps 955 = .ok (.iconst 1, 1) := by decide +kernel
theorem dL_keeps_956 : decode cL_keeps 956 = .ok (.goto 4, 3) := by decide +kernel
theorem dL_keeps_959 : decode cL_keeps 959 = .ok (.iconst 0, 1) := by decide +kernel
theorem dL_keeps_960 : decode cL_keeps 960 = .ok (.ireturn, 1) := by decide +kernel
theorem dL_keeps_961 : decode cL_keeps 961 = .ok (.aload_n 3, 1) := by decide +kernel
theorem dL_keeps_962 : decode cL_keeps 962 = .ok (.iconst 5, 1) := by decide +kernel
theorem dL_keeps_963 : decode cL_keeps 963 = .ok (.iaload, 1) := by decide +kernel
theorem dL_keeps_964 : decode cL_keeps 964 = .ok (.ifCond .ne 18, 3) := by decide +kernel
theorem dL_keeps_967 : decode cL_keeps 967 = .ok (.aload_n 0, 1) := by decide +kernel
theorem dL_keeps_968 : decode cL_keeps 968 = .ok (.invokestatic 140, 3) := by decide +kernel
theorem dL_keeps_971 : decode cL_keeps 971 = .ok (.bipush (-73), 2) := by decide +kernel
theorem dL_keeps_973 : decode cL_keeps 973 = .ok (.if_icmp .ne 7, 3) := by decide +kernel
theorem dL_keeps_976 : decode cL_keeps 976 = .ok (.iconst 1, 1) := by decide +kernel
theorem dL_keeps_977 : decode cL_keeps 977 = .ok (.goto 4, 3) := by decide +kernel
theorem dL_keeps_980 : decode cL_keeps 980 = .ok (.iconst 0, 1) := by decide +kernel
theorem dL_keeps_981 : decode cL_keeps 981 = .ok (.ireturn, 1) := by decide +kernel
theorem dL_keeps_982 : decode cL_keeps 982 = .ok (.aload_n 3, 1) := by decide +kernel
theorem dL_keeps_983 : decode cL_keeps 983 = .ok (.iconst 5, 1) := by decide +kernel
theorem dL_keeps_984 : decode cL_keeps 984 = .ok (.dup2, 1) := by decide +kernel
theorem dL_keeps_985 : decode cL_keeps 985 = .ok (.iaload, 1) := by decide +kernel
theorem dL_keeps_986 : decode cL_keeps 986 = .ok (.iconst 1, 1) := by decide +kernel
theorem dL_keeps_987 : decode cL_keeps 987 = .ok (.isub, 1) := by decide +kernel
theorem dL_keeps_988 : decode cL_keeps 988 = .ok (.iastore, 1) := by decide +kernel
theorem dL_keeps_989 : decode cL_keeps 989 = .ok (.aload_n 0, 1) := by decide +kernel
theorem dL_keeps_990 : decode cL_keeps 990 = .ok (.invokestatic 140, 3) := by decide +kernel
theorem dL_keeps_993 : decode cL_keeps 993 = .ok (.aload_n 3, 1) := by decide +kernel
theorem dL_keeps_994 : decode cL_keeps 994 = .ok (.aload 4, 2) := by decide +kernel
theorem dL_keeps_996 : decode cL_keeps 996 = .ok (.aload 5, 2) := by decide +kernel
theorem dL_keeps_998 : decode cL_keeps 998 = .ok (.aload 6, 2) := by decide +kernel
theorem dL_keeps_1000 : decode cL_keeps 1000 = .ok (.invokestatic 108, 3) := by decide +kernel
theorem dL_keeps_1003 : decode cL_keeps 1003 = .ok (.invokestatic 91, 3) := by decide +kernel
theorem dL_keeps_1006 : decode cL_keeps 1006 = .ok (.if_icmp .ne 7, 3) := by decide +kernel
theorem dL_keeps_1009 : decode cL_keeps 1009 = .ok (.iconst 1, 1) := by decide +kernel
theorem dL_keeps_1010 : decode cL_keeps 1010 = .ok (.goto 4, 3) := by decide +kernel
theorem dL_keeps_1013 : decode cL_keeps 1013 = .ok (.iconst 0, 1) := by decide +kernel
theorem dL_keeps_1014 : decode cL_keeps 1014 = .ok (.ireturn, 1) := by decide +kernel
