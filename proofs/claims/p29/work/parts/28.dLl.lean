set_option maxRecDepth 20000 in
theorem ggL_law_X3_init : GoodIn wsL_law wsX3_init := goodIn_r _ [7, 8, 9, 10, 11, 12, 13, 14, 15, 16, 17, 18, 19, 20, 21, 22, 3, 23, 24, 25, 26, 27, 28, 4, 29, 30, 31, 32, 33, 34, 35, 36, 37, 38, 39, 40, 41, 42, 43, 44, 45, 46, 47, 48, 49, 50, 51, 52, 53, 54, 55, 56, 57, 58, 59, 60, 61, 62, 63, 64, 2, 65, 66, 67, 68, 69, 70, 71, 72, 73, 74, 75, 76, 77, 78, 79, 80, 81, 82, 83, 84, 85, 86, 87, 88, 89, 90, 91, 92, 93, 94, 95, 96, 97, 98, 99, 100, 101, 102, 103, 104, 105, 106, 492, 493, 494, 495, 496, 484, 485, 486, 487, 488, 489, 490, 491, 497, 498, 499, 500, 501, 502, 503, 504, 505, 506] (by decide +kernel) (by decide +kernel)
set_option maxRecDepth 20000 in
theorem gL_law_X3_init : GoodIn wsL_law (wsX3_init) := ggL_law_X3_init
set_option maxRecDepth 20000 in
theorem ggL_law_L_lay : GoodIn wsL_law wsL_lay := goodIn_r _ [110, 111, 112, 109, 113] (by decide +kernel) (by decide +kernel)
set_option maxRecDepth 20000 in
theorem gL_law_L_lay : GoodIn wsL_law (va_wsS RL 118 yL_lay wsL_lay) := goodIn_app (goodIn_of _ (by decide +kernel)) ggL_law_L_lay
set_option maxRecDepth 20000 in
theorem ggL_law_L_cell : GoodIn wsL_law wsL_cell := goodIn_r _ [116, 117] (by decide +kernel) (by decide +kernel)
set_option maxRecDepth 20000 in
theorem gL_law_L_cell : GoodIn wsL_law (va_wsS RL 197 yL_cell wsL_cell) := goodIn_app (goodIn_of _ (by decide +kernel)) ggL_law_L_cell
set_option maxRecDepth 20000 in
theorem ggL_law_L_low : GoodIn wsL_law wsL_low := goodIn_r _ [120] (by decide +kernel) (by decide +kernel)
set_option maxRecDepth 20000 in
theorem gL_law_L_low : GoodIn wsL_law (va_wsS RL 105 yL_low wsL_low) := goodIn_app (goodIn_of _ (by decide +kernel)) ggL_law_L_low
set_option maxRecDepth 20000 in
theorem ggL_law_L_keeps : GoodIn wsL_law wsL_keeps := goodIn_ca (goodIn_ca (goodIn_ca (goodIn_r _ [123, 124, 125, 126, 118, 119, 109, 120, 127, 128, 129, 130, 131, 132, 133, 134, 135, 136, 137, 138, 139, 140, 141, 142, 143, 144, 2, 145, 146, 147, 14, 82, 43, 44, 45, 13, 46, 47, 48, 49, 50, 51, 52, 53, 28, 29, 54, 55, 56, 57, 58, 59, 60, 61, 62, 63, 64, 65, 18, 66, 67, 68, 69, 70, 17, 71, 72, 36, 73, 74, 75, 76, 77, 78, 79, 80, 81, 23, 83, 84, 85, 86, 87, 88, 89, 90, 91, 92, 93, 94, 95, 96, 97, 98, 37, 99, 100, 101, 102, 103, 104, 105, 106, 148, 149, 150, 151, 107, 108, 110, 111, 112, 113, 152, 153, 154, 155, 156, 157, 158, 159, 160, 161, 162, 163, 164, 165, 166, 167, 168, 169, 170, 171, 172, 173, 174, 175, 176, 177, 178, 179, 180, 181, 182, 183, 184, 185, 186, 187, 188, 189, 190, 191, 192, 193, 194, 195, 196, 197, 198, 199, 200, 201, 202, 203, 204, 205, 206, 207, 208, 209, 210, 211, 34, 35, 212, 213, 214, 215, 216, 217, 218, 219, 220, 221, 222, 223, 224, 225, 226, 227, 228, 229, 230, 231, 232, 233, 234, 235, 236, 237, 238, 239, 240, 241, 242, 243, 22, 244, 245, 246, 247, 248, 249, 250, 251, 252, 253, 254, 21, 255, 256, 257, 258, 42, 259, 260, 261, 262, 263, 41, 264, 265, 266, 267, 268, 269, 270, 271, 272, 273, 274, 275, 276, 277, 278, 279, 280, 281, 282, 283, 284, 285, 286, 484, 485, 486, 487, 488, 489, 490, 491, 492, 493, 494, 495, 496, 497, 498, 499, 500, 501, 502, 503, 504, 505, 506] (by decide +kernel) (by decide +kernel)) (goodIn_sub (fun _ h => List.mem_append_left _ (List.mem_append_left _ (List.mem_append_right _ h))) (by decide +kernel))) (goodIn_sub (fun _ h => List.mem_append_left _ (List.mem_append_right _ h)) (by decide +kernel))) (goodIn_sub (fun _ h => List.mem_append_right _ h) (by decide +kernel))
set_option maxRecDepth 20000 in
theorem gL_law_L_keeps : GoodIn wsL_law (va_wsS RL 201 yL_keeps wsL_keeps) := goodIn_app (goodIn_of _ (by decide +kernel)) ggL_law_L_keeps
set_option maxRecDepth 20000 in
theorem ggL_law_L_isTold : GoodIn wsL_law wsL_isTold := goodIn_ca (goodIn_ca (goodIn_ca (goodIn_r _ [289, 290, 127, 128, 109, 129, 130, 131, 132, 133, 134, 135, 136, 137, 291, 292, 293, 2, 294, 173, 174, 175, 176, 177, 178, 14, 179, 59, 60, 13, 61, 49, 83, 84, 85, 86, 18, 66, 87, 88, 89, 17, 90, 91, 92, 93, 94, 72, 95, 96, 97, 98, 37, 36, 99, 100, 101, 102, 103, 104, 105, 106, 162, 163, 164, 295, 296, 297, 298, 299, 300, 301, 168, 302, 303, 304, 305, 81, 23, 306, 307, 308, 309, 310, 311, 312, 313, 314, 315, 316, 317, 318, 319, 320, 321, 34, 322, 323, 324, 325, 326, 327, 328, 329, 330, 331, 332, 333, 35, 118, 119, 120, 148, 149, 150, 151, 82, 334, 335, 336, 337, 282, 338, 339, 340, 341, 342, 343, 344, 345, 346, 347, 348, 349, 214, 192, 193, 194, 28, 195, 47, 29, 58, 196, 197, 198, 199, 200, 201, 202, 203, 350, 351, 352, 353, 354, 355, 356, 357, 358, 359, 360, 361, 111, 112, 113, 362, 363, 364, 365, 366, 367, 368, 191, 369, 370, 371, 372, 373, 374, 375, 376, 377, 378, 22, 244, 245, 246, 247, 248, 249, 250, 251, 252, 253, 254, 21, 255, 256, 257, 258, 42, 259, 74, 75, 76, 260, 261, 262, 263, 41, 264, 265, 266, 267, 379, 380, 381, 382, 383, 384, 385, 386, 387, 237, 238, 239, 141, 240, 241, 242, 243, 225, 226, 227, 228, 146, 147, 229, 230, 231, 232, 268, 269, 270, 271, 272, 273, 274, 388, 389, 390, 391, 392, 393, 394, 395, 396, 397, 398, 399, 400, 401, 402, 403, 404, 405, 406, 407, 408, 155, 409, 410, 411, 412, 160, 161, 413, 414, 415, 416, 417, 418, 419, 420, 421, 422, 423, 424, 425, 426, 427, 428, 429, 430, 431, 432, 433, 434, 24, 435, 436, 437, 438, 439, 440, 441, 442, 443, 444, 445, 446, 447, 448, 449, 450, 451, 452, 453, 454, 455, 456, 457, 458, 459, 460, 461, 462, 463, 464, 465, 466, 467, 468, 469, 470, 471, 472, 473, 474, 475, 476, 477, 478, 479, 480, 481, 482, 483, 484, 485, 486, 487, 488, 489, 490, 491, 492, 493, 494, 495, 496, 497, 498, 499, 500, 501, 502, 503, 504, 505, 506] (by decide +kernel) (by decide +kernel)) (goodIn_sub (fun _ h => List.mem_append_right _ h) (by decide +kernel))) (goodIn_sub (fun _ h => List.mem_append_left _ (List.mem_append_left _ (List.mem_append_right _ h))) (by decide +kernel))) (goodIn_sub (fun _ h => List.mem_append_left _ (List.mem_append_right _ h)) (by decide +kernel))
set_option maxRecDepth 20000 in
theorem gL_law_L_isTold : GoodIn wsL_law (va_wsS RL 205 yL_isTold wsL_isTold) := goodIn_app (goodIn_of _ (by decide +kernel)) ggL_law_L_isTold
theorem dL_law_0 : decode cL_law 0 = .ok (.new 9, 3) := by decide +kernel
theorem dL_law_3 : decode cL_law 3 = .ok (.dup, 1) := by decide +kernel
theorem dL_law_4 : decode cL_law 4 = .ok (.invokespecial 196, 3) := by decide +kernel
theorem dL_law_7 : decode cL_law 7 = .ok (.astore_n 1, 1) := by decide +kernel
theorem dL_law_8 : decode cL_law 8 = .ok (.bipush 6, 2) := by decide +kernel
theorem dL_law_10 : decode cL_law 10 = .ok (.newarray .int, 2) := by decide +kernel
theorem dL_law_12 : decode cL_law 12 = .ok (.astore_n 2, 1) := by decide +kernel
theorem dL_law_13 : decode cL_law 13 = .ok (.bipush 10, 2) := by decide +kernel
theorem dL_law_15 : decode cL_law 15 = .ok (.newarray .int, 2) := by decide +kernel
theorem dL_law_17 : decode cL_law 17 = .ok (.astore_n 3, 1) := by decide +kernel
theorem dL_law_18 : decode cL_law 18 = .ok (.bipush 10, 2) := by decide +kernel
theorem dL_law_20 : decode cL_law 20 = .ok (.newarray .int, 2) := by decide +kernel
theorem dL_law_22 : decode cL_law 22 = .ok (.astore 4, 2) := by decide +kernel
theorem dL_law_24 : decode cL_law 24 = .ok (.bipush 64, 2) := by decide +kernel
theorem dL_law_26 : decode cL_law 26 = .ok (.newarray .long, 2) := by decide +kernel
theorem dL_law_28 : decode cL_law 28 = .ok (.astore 5, 2) := by decide +kernel
theorem dL_law_30 : decode cL_law 30 = .ok (.bipush 64, 2) := by decide +kernel
theorem dL_law_32 : decode cL_law 32 = .ok (.newarray .int, 2) := by decide +kernel
theorem dL_law_34 : decode cL_law 34 = .ok (.astore 6, 2) := by decide +kernel
theorem dL_law_36 : decode cL_law 36 = .ok (.bipush 64, 2) := by decide +kernel
theorem dL_law_38 : decode cL_law 38 = .ok (.newarray .long, 2) := by decide +kernel
theorem dL_law_40 : decode cL_law 40 = .ok (.astore 7, 2) := by decide +kernel
theorem dL_law_42 : decode cL_law 42 = .ok (.aload_n 2, 1) := by decide +kernel
theorem dL_law_43 : decode cL_law 43 = .ok (.iconst 0, 1) := by decide +kernel
theorem dL_law_44 : decode cL_law 44 = .ok (.iconst 3, 1) := by decide +kernel
theorem dL_law_45 : decode cL_law 45 = .ok (.iastore, 1) := by decide +kernel
theorem dL_law_46 : decode cL_law 46 = .ok (.aload_n 2, 1) := by decide +kernel
theorem dL_law_47 : decode cL_law 47 = .ok (.iconst 1, 1) := by decide +kernel
theorem dL_law_48 : decode cL_law 48 = .ok (.iconst 4, 1) := by decide +kernel
theorem dL_law_49 : decode cL_law 49 = .ok (.iastore, 1) := by decide +kernel
theorem dL_law_50 : decode cL_law 50 = .ok (.aload_n 2, 1) := by decide +kernel
theorem dL_law_51 : decode cL_law 51 = .ok (.iconst 2, 1) := by decide +kernel
theorem dL_law_52 : decode cL_law 52 = .ok (.bipush 64, 2) := by decide +kernel
theorem dL_law_54 : decode cL_law 54 = .ok (.iastore, 1) := by decide +kernel
theorem dL_law_55 : decode cL_law 55 = .ok (.aload_n 2, 1) := by decide +kernel
theorem dL_law_56 : decode cL_law 56 = .ok (.iconst 4, 1) := by decide +kernel
theorem dL_law_57 : decode cL_law 57 = .ok (.iconst (-1), 1) := by decide +kernel
theorem dL_law_58 : decode cL_law 58 = .ok (.iastore, 1) := by decide +kernel
theorem dL_law_59 : decode cL_law 59 = .ok (.aload_n 2, 1) := by decide +kernel
theorem dL_law_60 : decode cL_law 60 = .ok (.aload 7, 2) := by decide +kernel
theorem dL_law_62 : decode cL_law 62 = .ok (.invokestatic 118, 3) := by decide +kernel
theorem dL_law_65 : decode cL_law 65 = .ok (.iconst 0, 1) := by decide +kernel
theorem dL_law_66 : decode cL_law 66 = .ok (.istore 8, 2) := by decide +kernel
theorem dL_law_68 : decode cL_law 68 = .ok (.iload 8, 2) := by decide +kernel
theorem dL_law_70 : decode cL_law 70 = .ok (.bipush 28, 2) := by decide +kernel
theorem dL_law_72 : decode cL_law 72 = .ok (.if_icmp .ge 88, 3) := by decide +kernel
theorem dL_law_75 : decode cL_law 75 = .ok (.aload_n 0, 1) := by decide +kernel
theorem dL_law_76 : decode cL_law 76 = .ok (.iconst 2, 1) := by decide +kernel
theorem dL_law_77 : decode cL_law 77 = .ok (.iload 8, 2) := by decide +kernel
theorem dL_law_79 : decode cL_law 79 = .ok (.imul, 1) := by decide +kernel
theorem dL_law_80 : decode cL_law 80 = .ok (.invokestatic 197, 3) := by decide +kernel
theorem dL_law_83 : decode cL_law 83 = .ok (.istore 9, 2) := by decide +kernel
theorem dL_law_85 : decode cL_law 85 = .ok (.aload_n 0, 1) := by decide +kernel
theorem dL_law_86 : decode cL_law 86 = .ok (.iconst 2, 1) := by decide +kernel
theorem dL_law_87 : decode cL_law 87 = .ok (.iload 8, 2) := by decide +kernel
theorem dL_law_89 : decode cL_law 89 = .ok (.imul, 1) := by decide +kernel
theorem dL_law_90 : decode cL_law 90 = .ok (.iconst 1, 1) := by decide +kernel
theorem dL_law_91 : decode cL_law 91 = .ok (.iadd, 1) := by decide +kernel
theorem dL_law_92 : decode cL_law 92 = .ok (.invokestatic 197, 3) := by decide +kernel
theorem dL_law_95 : decode cL_law 95 = .ok (.istore 10, 2) := by decide +kernel
theorem dL_law_97 : decode cL_law 97 = .ok (.aload_n 1, 1) := by decide +kernel
theorem dL_law_98 : decode cL_law 98 = .ok (.iload 8, 2) := by decide +kernel
theorem dL_law_100 : decode cL_law 100 = .ok (.ifCond .ne 7, 3) := by decide +kernel
theorem dL_law_103 : decode cL_law 103 = .ok (.iconst 2, 1) := by decide +kernel
theorem dL_law_104 : decode cL_law 104 = .ok (.goto 10, 3) := by decide +kernel
theorem dL_law_107 : decode cL_law 107 = .ok (.iload 9, 2) := by decide +kernel
theorem dL_law_109 : decode cL_law 109 = .ok (.bipush 10, 2) := by decide +kernel
theorem dL_law_111 : decode cL_law 111 = .ok (.invokestatic 105, 3) := by decide +kernel
theorem dL_law_114 : decode cL_law 114 = .ok (.iload 10, 2) := by decide +kernel
theorem dL_law_116 : decode cL_law 116 = .ok (.aload_n 2, 1) := by decide +kernel
theorem dL_law_117 : decode cL_law 117 = .ok (.aload 7, 2) := by decide +kernel
theorem dL_law_119 : decode cL_law 119 = .ok (.aload_n 3, 1) := by decide +kernel
theorem dL_law_120 : decode cL_law 120 = .ok (.aload 4, 2) := by decide +kernel
theorem dL_law_122 : decode cL_law 122 = .ok (.invokestatic 201, 3) := by decide +kernel
theorem dL_law_125 : decode cL_law 125 = .ok (.ifCond .eq 27, 3) := by decide +kernel
theorem dL_law_128 : decode cL_law 128 = .ok (.aload_n 1, 1) := by decide +kernel
theorem dL_law_129 : decode cL_law 129 = .ok (.iload 9, 2) := by decide +kernel
theorem dL_law_131 : decode cL_law 131 = .ok (.iconst 5, 1) := by decide +kernel
theorem dL_law_132 : decode cL_law 132 = .ok (.ishr, 1) := by decide +kernel
theorem dL_law_133 : decode cL_law 133 = .ok (.iload 10, 2) := by decide +kernel
theorem dL_law_135 : decode cL_law 135 = .ok (.ixor, 1) := by decide +kernel
theorem dL_law_136 : decode cL_law 136 = .ok (.aload_n 2, 1) := by decide +kernel
theorem dL_law_137 : decode cL_law 137 = .ok (.aload 7, 2) := by decide +kernel
theorem dL_law_139 : decode cL_law 139 = .ok (.aload_n 3, 1) := by decide +kernel
theorem dL_law_140 : decode cL_law 140 = .ok (.aload 4, 2) := by decide +kernel
theorem dL_law_142 : decode cL_law 142 = .ok (.aload 5, 2) := by decide +kernel
theorem dL_law_144 : decode cL_law 144 = .ok (.aload 6, 2) := by decide +kernel
theorem dL_law_146 : decode cL_law 146 = .ok (.invokestatic 205, 3) := by decide +kernel
theorem dL_law_149 : decode cL_law 149 = .ok (.ifCond .ne 5, 3) := by decide +kernel
theorem dL_law_152 : decode cL_law 152 = .ok (.iconst 0, 1) := by decide +kernel
theorem dL_law_153 : decode cL_law 153 = .ok (.ireturn, 1) := by decide +kernel
theorem dL_law_154 : decode cL_law 154 = .ok (.iinc 8 1, 3) := by decide +kernel
theorem dL_law_157 : decode cL_law 157 = .ok (.goto (-89), 3) := by decide +kernel
theorem dL_law_160 : decode cL_law 160 = .ok (.iconst 1, 1) := by decide +kernel
theorem dL_law_161 : decode cL_law 161 = .ok (.ireturn, 1) := by decide +kernel
