set_option maxRecDepth 20000 in
theorem ggL_isTold_L_left : GoodIn wsL_isTold wsL_left := goodIn_r _ [5, 6, 7, 4, 8, 9, 10, 11, 12, 13] (by decide +kernel) (by decide +kernel)
set_option maxRecDepth 20000 in
theorem gL_isTold_L_left : GoodIn wsL_isTold (va_wsS RL 108 yL_left wsL_left) := goodIn_app (goodIn_of _ (by decide +kernel)) ggL_isTold_L_left
set_option maxRecDepth 20000 in
theorem ggL_isTold_X3_isLeft : GoodIn wsL_isTold wsX3_isLeft := goodIn_ca (goodIn_r _ [18, 19, 20, 21, 17, 22, 23, 24, 25, 26, 27, 28, 29, 30, 31, 32, 33, 34, 35, 36, 37, 38, 39, 40, 41, 42, 43, 44, 45, 46, 47, 48, 49, 50, 51, 52, 53, 54, 55, 56, 57, 58, 59, 60, 61, 349, 350, 351, 352, 353, 354, 355, 356, 357, 358, 359, 360, 361, 362, 363, 364, 365, 366] (by decide +kernel) (by decide +kernel)) (goodIn_sub (fun _ h => List.mem_cons_of_mem _ (List.mem_append_left _ (List.mem_append_left _ (List.mem_append_right _ h)))) (by decide +kernel))
set_option maxRecDepth 20000 in
theorem gL_isTold_X3_isLeft : GoodIn wsL_isTold (wsV RL 143 RX3 yX3_isLeft wsX3_isLeft) := goodIn_app (goodIn_of _ (by decide +kernel)) ggL_isTold_X3_isLeft
set_option maxRecDepth 20000 in
theorem ggL_isTold_L_has : GoodIn wsL_isTold wsL_has := goodIn_r _ [64] (by decide +kernel) (by decide +kernel)
set_option maxRecDepth 20000 in
theorem gL_isTold_L_has : GoodIn wsL_isTold (va_wsS RL 83 yL_has wsL_has) := goodIn_app (goodIn_of _ (by decide +kernel)) ggL_isTold_L_has
set_option maxRecDepth 20000 in
theorem ggL_isTold_X3_liesAbout : GoodIn wsL_isTold wsX3_liesAbout := goodIn_ca (goodIn_r _ [68, 36, 19, 20, 21, 17, 22, 23, 24, 25, 26, 27, 28, 29, 30, 31, 38, 39, 40, 41, 42, 43, 44, 45, 46, 47, 48, 49, 50, 51, 52, 53, 54, 55, 56, 57, 58, 59, 60, 61, 349, 350, 351, 352, 353, 354, 355, 356, 357, 358, 359, 360, 361, 362, 363, 364, 365, 366] (by decide +kernel) (by decide +kernel)) (goodIn_sub (fun _ h => List.mem_cons_of_mem _ (List.mem_append_left _ (List.mem_append_left _ (List.mem_append_right _ h)))) (by decide +kernel))
set_option maxRecDepth 20000 in
theorem gL_isTold_X3_liesAbout : GoodIn wsL_isTold (wsV RL 146 RX3 yX3_liesAbout wsX3_liesAbout) := goodIn_app (goodIn_of _ (by decide +kernel)) ggL_isTold_X3_liesAbout
set_option maxRecDepth 20000 in
theorem ggL_isTold_L_lies : GoodIn wsL_isTold wsL_lies := goodIn_r _ [8, 9, 10, 4, 11, 12, 13] (by decide +kernel) (by decide +kernel)
set_option maxRecDepth 20000 in
theorem gL_isTold_L_lies : GoodIn wsL_isTold (va_wsS RL 79 yL_lies wsL_lies) := goodIn_app (goodIn_of _ (by decide +kernel)) ggL_isTold_L_lies
set_option maxRecDepth 20000 in
theorem ggL_isTold_L_leftAt : GoodIn wsL_isTold wsL_leftAt := goodIn_ca (goodIn_r _ [71, 72, 73, 74, 75, 17, 76, 23, 24, 77, 78, 349, 350, 351, 352, 353, 354, 355, 356] (by decide +kernel) (by decide +kernel)) (goodIn_sub (fun _ h => List.mem_cons_of_mem _ (List.mem_append_left _ (List.mem_append_left _ (List.mem_append_right _ h)))) (by decide +kernel))
set_option maxRecDepth 20000 in
theorem gL_isTold_L_leftAt : GoodIn wsL_isTold (va_wsS RL 149 yL_leftAt wsL_leftAt) := goodIn_app (goodIn_of _ (by decide +kernel)) ggL_isTold_L_leftAt
set_option maxRecDepth 20000 in
theorem ggL_isTold_X3_guessOf : GoodIn wsL_isTold wsX3_guessOf := goodIn_ca (goodIn_r _ [82, 36, 83, 84, 85, 17, 86, 23, 24, 87, 88, 89, 41, 90, 47, 91, 92, 93, 94, 95, 96, 349, 350, 351, 352, 353, 354, 355, 356, 362, 363, 364, 365, 366] (by decide +kernel) (by decide +kernel)) (goodIn_sub (fun _ h => List.mem_cons_of_mem _ (List.mem_append_left _ (List.mem_append_left _ (List.mem_append_right _ h)))) (by decide +kernel))
set_option maxRecDepth 20000 in
theorem gL_isTold_X3_guessOf : GoodIn wsL_isTold (wsV RL 151 RX3 yX3_guessOf wsX3_guessOf) := goodIn_app (goodIn_of _ (by decide +kernel)) ggL_isTold_X3_guessOf
set_option maxRecDepth 20000 in
theorem ggL_isTold_L_markOf : GoodIn wsL_isTold wsL_markOf := goodIn_ca (goodIn_r _ [99, 72, 100, 101, 102, 17, 103, 36, 83, 84, 85, 86, 23, 24, 87, 88, 89, 41, 90, 47, 104, 105, 106, 107, 108, 96, 349, 350, 351, 352, 353, 354, 355, 356, 362, 363, 364, 365, 366] (by decide +kernel) (by decide +kernel)) (goodIn_sub (fun _ h => List.mem_cons_of_mem _ (List.mem_append_left _ (List.mem_append_left _ (List.mem_append_right _ h)))) (by decide +kernel))
set_option maxRecDepth 20000 in
theorem gL_isTold_L_markOf : GoodIn wsL_isTold (va_wsS RL 154 yL_markOf wsL_markOf) := goodIn_app (goodIn_of _ (by decide +kernel)) ggL_isTold_L_markOf
set_option maxRecDepth 20000 in
theorem ggL_isTold_L_low : GoodIn wsL_isTold wsL_low := goodIn_r _ [111] (by decide +kernel) (by decide +kernel)
set_option maxRecDepth 20000 in
theorem gL_isTold_L_low : GoodIn wsL_isTold (va_wsS RL 105 yL_low wsL_low) := goodIn_app (goodIn_of _ (by decide +kernel)) ggL_isTold_L_low
set_option maxRecDepth 20000 in
theorem ggL_isTold_X3_rows : GoodIn wsL_isTold wsX3_rows := goodIn_r _ [115, 25, 116, 349, 350, 351, 352, 353, 354, 355, 356, 357, 358, 359, 360, 361] (by decide +kernel) (by decide +kernel)
set_option maxRecDepth 20000 in
theorem gL_isTold_X3_rows : GoodIn wsL_isTold (wsV RL 115 RX3 yX3_rows wsX3_rows) := goodIn_app (goodIn_of _ (by decide +kernel)) ggL_isTold_X3_rows
set_option maxRecDepth 20000 in
theorem ggL_isTold_X3_entries : GoodIn wsL_isTold wsX3_entries := goodIn_r _ [120, 36, 121, 349, 350, 351, 352, 353, 354, 355, 356, 362, 363, 364, 365, 366] (by decide +kernel) (by decide +kernel)
set_option maxRecDepth 20000 in
theorem gL_isTold_X3_entries : GoodIn wsL_isTold (wsV RL 156 RX3 yX3_entries wsX3_entries) := goodIn_app (goodIn_of _ (by decide +kernel)) ggL_isTold_X3_entries
set_option maxRecDepth 20000 in
theorem ggL_isTold_X3_left : GoodIn wsL_isTold wsX3_left := goodIn_r _ [125, 77, 349, 350, 351, 352, 353, 354, 355, 356] (by decide +kernel) (by decide +kernel)
set_option maxRecDepth 20000 in
theorem gL_isTold_X3_left : GoodIn wsL_isTold (wsV RL 159 RX3 yX3_left wsX3_left) := goodIn_app (goodIn_of _ (by decide +kernel)) ggL_isTold_X3_left
set_option maxRecDepth 20000 in
theorem ggL_isTold_X3_leftByAll : GoodIn wsL_isTold wsX3_leftByAll := goodIn_r _ [129, 25, 116, 36, 37, 130, 131, 132, 41, 133, 47, 52, 95, 108, 134, 135, 136, 29, 137, 138, 139, 140, 141, 142, 27, 28, 30, 31, 143, 56, 57, 58, 59, 60, 61, 144, 145, 146, 147, 148, 149, 150, 349, 350, 351, 352, 353, 354, 355, 356, 357, 358, 359, 360, 361, 362, 363, 364, 365, 366] (by decide +kernel) (by decide +kernel)
set_option maxRecDepth 20000 in
theorem gL_isTold_X3_leftByAll : GoodIn wsL_isTold (wsV RL 161 RX3 yX3_leftByAll wsX3_leftByAll) := goodIn_app (goodIn_of _ (by decide +kernel)) ggL_isTold_X3_leftByAll
set_option maxRecDepth 20000 in
theorem ggL_isTold_L_colourAt : GoodIn wsL_isTold wsL_colourAt := goodIn_ca (goodIn_r _ [153, 72, 154, 155, 156, 17, 157, 23, 24, 25, 158, 26, 27, 28, 29, 30, 31, 159, 160, 161, 162, 138, 140, 142, 349, 350, 351, 352, 353, 354, 355, 356, 357, 358, 359, 360, 361] (by decide +kernel) (by decide +kernel)) (goodIn_sub (fun _ h => List.mem_cons_of_mem _ (List.mem_append_left _ (List.mem_append_left _ (List.mem_append_right _ h)))) (by decide +kernel))
set_option maxRecDepth 20000 in
theorem gL_isTold_L_colourAt : GoodIn wsL_isTold (va_wsS RL 164 yL_colourAt wsL_colourAt) := goodIn_app (goodIn_of _ (by decide +kernel)) ggL_isTold_L_colourAt
set_option maxRecDepth 20000 in
theorem ggL_isTold_L_digit : GoodIn wsL_isTold wsL_digit := goodIn_r _ [165] (by decide +kernel) (by decide +kernel)
set_option maxRecDepth 20000 in
theorem gL_isTold_L_digit : GoodIn wsL_isTold (va_wsS RL 65 yL_digit wsL_digit) := goodIn_app (goodIn_of _ (by decide +kernel)) ggL_isTold_L_digit
set_option maxRecDepth 20000 in
theorem ggL_isTold_L_mark : GoodIn wsL_isTold wsL_mark := goodIn_ca (goodIn_r _ [168, 72, 169, 170, 171, 17, 172, 23, 24, 25, 26, 27, 28, 29, 30, 31, 173, 135, 136, 137, 138, 139, 140, 141, 142, 143, 56, 57, 58, 59, 60, 61, 144, 145, 146, 147, 148, 149, 150, 349, 350, 351, 352, 353, 354, 355, 356, 357, 358, 359, 360, 361] (by decide +kernel) (by decide +kernel)) (goodIn_sub (fun _ h => List.mem_cons_of_mem _ (List.mem_append_left _ (List.mem_append_left _ (List.mem_append_right _ h)))) (by decide +kernel))
set_option maxRecDepth 20000 in
theorem gL_isTold_L_mark : GoodIn wsL_isTold (va_wsS RL 166 yL_mark wsL_mark) := goodIn_app (goodIn_of _ (by decide +kernel)) ggL_isTold_L_mark
set_option maxRecDepth 20000 in
theorem ggL_isTold_L_pins : GoodIn wsL_isTold wsL_pins := goodIn_r _ [11, 12, 13] (by decide +kernel) (by decide +kernel)
set_option maxRecDepth 20000 in
theorem gL_isTold_L_pins : GoodIn wsL_isTold (va_wsS RL 75 yL_pins wsL_pins) := goodIn_app (goodIn_of _ (by decide +kernel)) ggL_isTold_L_pins
set_option maxRecDepth 20000 in
theorem ggL_isTold_L_part : GoodIn wsL_isTold wsL_part := goodIn_r _ [176, 62, 63, 4, 64, 9, 10, 11, 12, 13] (by decide +kernel) (by decide +kernel)
set_option maxRecDepth 20000 in
theorem gL_isTold_L_part : GoodIn wsL_isTold (va_wsS RL 87 yL_part wsL_part) := goodIn_app (goodIn_of _ (by decide +kernel)) ggL_isTold_L_part
set_option maxRecDepth 20000 in
theorem ggL_isTold_L_partMark : GoodIn wsL_isTold wsL_partMark := goodIn_ca (goodIn_r _ [179, 72, 180, 181, 182, 17, 183, 23, 24, 184, 19, 20, 21, 22, 25, 26, 27, 28, 29, 30, 31, 185, 186, 187, 188, 78, 77, 189, 190, 191, 192, 193, 194, 195, 196, 197, 198, 199, 200, 201, 202, 203, 204, 205, 173, 135, 136, 137, 138, 139, 140, 141, 142, 143, 56, 57, 58, 59, 60, 61, 144, 145, 146, 147, 148, 149, 150, 206, 207, 208, 209, 210, 211, 212, 213, 214, 215, 216, 217, 218, 219, 220, 221, 222, 223, 349, 350, 351, 352, 353, 354, 355, 356, 357, 358, 359, 360, 361, 367, 368, 369, 370, 371] (by decide +kernel) (by decide +kernel)) (goodIn_sub (fun _ h => List.mem_cons_of_mem _ (List.mem_append_left _ (List.mem_append_left _ (List.mem_append_right _ h)))) (by decide +kernel))
set_option maxRecDepth 20000 in
theorem gL_isTold_L_partMark : GoodIn wsL_isTold (va_wsS RL 168 yL_partMark wsL_partMark) := goodIn_app (goodIn_of _ (by decide +kernel)) ggL_isTold_L_partMark
set_option maxRecDepth 20000 in
theorem ggL_isTold_L_partSize : GoodIn wsL_isTold wsL_partSize := goodIn_ca (goodIn_ca (goodIn_r _ [226, 72, 227, 228, 229, 230, 17, 231, 184, 19, 20, 21, 22, 23, 24, 25, 26, 27, 28, 29, 30, 31, 232, 233, 234, 235, 236, 237, 238, 239, 240, 241, 140, 185, 186, 187, 188, 78, 77, 189, 190, 191, 192, 193, 194, 195, 196, 197, 198, 199, 200, 201, 202, 203, 204, 205, 173, 135, 136, 137, 138, 139, 141, 142, 143, 56, 57, 58, 59, 60, 61, 144, 145, 146, 147, 148, 149, 150, 206, 207, 208, 209, 210, 211, 212, 213, 214, 242, 243, 244, 245, 349, 350, 351, 352, 353, 354, 355, 356, 357, 358, 359, 360, 361, 367, 368, 369, 370, 371] (by decide +kernel) (by decide +kernel)) (goodIn_sub (fun _ h => List.mem_cons_of_mem _ (List.mem_append_left _ (List.mem_append_left _ (List.mem_append_right _ h)))) (by decide +kernel))) (goodIn_sub (fun _ h => List.mem_cons_of_mem _ (List.mem_append_left _ (List.mem_append_right _ h))) (by decide +kernel))
set_option maxRecDepth 20000 in
theorem gL_isTold_L_partSize : GoodIn wsL_isTold (va_wsS RL 138 yL_partSize wsL_partSize) := goodIn_app (goodIn_of _ (by decide +kernel)) ggL_isTold_L_partSize
set_option maxRecDepth 20000 in
theorem ggL_isTold_L_many : GoodIn wsL_isTold wsL_many := goodIn_r _ [248] (by decide +kernel) (by decide +kernel)
set_option maxRecDepth 20000 in
theorem gL_isTold_L_many : GoodIn wsL_isTold (va_wsS RL 91 yL_many wsL_many) := goodIn_app (goodIn_of _ (by decide +kernel)) ggL_isTold_L_many
set_option maxRecDepth 20000 in
theorem ggL_isTold_X3_parts : GoodIn wsL_isTold wsX3_parts := goodIn_ca (goodIn_r _ [252, 184, 253, 19, 20, 21, 17, 22, 23, 24, 25, 26, 27, 28, 29, 30, 31, 185, 186, 187, 188, 78, 77, 189, 190, 191, 192, 193, 194, 195, 196, 197, 198, 199, 200, 201, 202, 203, 204, 205, 173, 135, 136, 137, 138, 139, 140, 141, 142, 143, 56, 57, 58, 59, 60, 61, 144, 145, 146, 147, 148, 149, 150, 206, 207, 208, 209, 210, 211, 212, 213, 214, 349, 350, 351, 352, 353, 354, 355, 356, 367, 368, 369, 370, 371, 357, 358, 359, 360, 361] (by decide +kernel) (by decide +kernel)) (goodIn_sub (fun _ h => List.mem_cons_of_mem _ (List.mem_append_left _ (List.mem_append_left _ (List.mem_append_right _ h)))) (by decide +kernel))
set_option maxRecDepth 20000 in
theorem gL_isTold_X3_parts : GoodIn wsL_isTold (wsV RL 170 RX3 yX3_parts wsX3_parts) := goodIn_app (goodIn_of _ (by decide +kernel)) ggL_isTold_X3_parts
set_option maxRecDepth 20000 in
theorem ggL_isTold_X3_worstCase : GoodIn wsL_isTold wsX3_worstCase := goodIn_ca (goodIn_r _ [257, 184, 258, 19, 20, 21, 17, 22, 23, 24, 25, 26, 27, 28, 29, 30, 31, 185, 186, 187, 188, 78, 77, 189, 190, 191, 192, 193, 194, 195, 196, 197, 198, 199, 200, 201, 202, 203, 204, 205, 173, 135, 136, 137, 138, 139, 140, 141, 142, 143, 56, 57, 58, 59, 60, 61, 144, 145, 146, 147, 148, 149, 150, 206, 207, 208, 209, 210, 211, 212, 213, 214, 349, 350, 351, 352, 353, 354, 355, 356, 367, 368, 369, 370, 371, 357, 358, 359, 360, 361] (by decide +kernel) (by decide +kernel)) (goodIn_sub (fun _ h => List.mem_cons_of_mem _ (List.mem_append_left _ (List.mem_append_left _ (List.mem_append_right _ h)))) (by decide +kernel))
set_option maxRecDepth 20000 in
theorem gL_isTold_X3_worstCase : GoodIn wsL_isTold (wsV RL 173 RX3 yX3_worstCase wsX3_worstCase) := goodIn_app (goodIn_of _ (by decide +kernel)) ggL_isTold_X3_worstCase
set_option maxRecDepth 20000 in
theorem ggL_isTold_L_worth : GoodIn wsL_isTold wsL_worth := goodIn_r _ [261, 1, 62, 63, 4, 64, 9, 10, 11, 12, 13, 174, 175, 176, 246, 247, 248] (by decide +kernel) (by decide +kernel)
set_option maxRecDepth 20000 in
theorem gL_isTold_L_worth : GoodIn wsL_isTold (va_wsS RL 97 yL_worth wsL_worth) := goodIn_app (goodIn_of _ (by decide +kernel)) ggL_isTold_L_worth
set_option maxRecDepth 20000 in
theorem ggL_isTold_X3_weight : GoodIn wsL_isTold wsX3_weight := goodIn_ca (goodIn_r _ [265, 184, 266, 19, 20, 21, 17, 22, 23, 24, 25, 26, 27, 28, 29, 30, 31, 185, 186, 187, 188, 78, 77, 189, 190, 191, 192, 193, 194, 195, 196, 197, 198, 199, 200, 201, 202, 203, 204, 205, 173, 135, 136, 137, 138, 139, 140, 141, 142, 143, 56, 57, 58, 59, 60, 61, 144, 145, 146, 147, 148, 149, 150, 206, 207, 208, 209, 210, 211, 212, 213, 214, 349, 350, 351, 352, 353, 354, 355, 356, 367, 368, 369, 370, 371, 357, 358, 359, 360, 361] (by decide +kernel) (by decide +kernel)) (goodIn_sub (fun _ h => List.mem_cons_of_mem _ (List.mem_append_left _ (List.mem_append_left _ (List.mem_append_right _ h)))) (by decide +kernel))
set_option maxRecDepth 20000 in
theorem gL_isTold_X3_weight : GoodIn wsL_isTold (wsV RL 176 RX3 yX3_weight wsX3_weight) := goodIn_app (goodIn_of _ (by decide +kernel)) ggL_isTold_X3_weight
set_option maxRecDepth 20000 in
theorem ggL_isTold_L_bestGuess : GoodIn wsL_isTold wsL_bestGuess := goodIn_ca (goodIn_ca (goodIn_r _ [269, 227, 270, 271, 272, 273, 17, 274, 236, 237, 275, 276, 77, 78, 277, 278, 279, 280, 25, 116, 184, 189, 190, 191, 192, 193, 194, 195, 196, 197, 198, 199, 200, 201, 202, 203, 204, 205, 173, 135, 136, 29, 137, 138, 139, 140, 141, 142, 27, 28, 30, 31, 143, 56, 57, 58, 59, 60, 61, 144, 145, 146, 147, 148, 149, 150, 206, 207, 208, 209, 210, 211, 212, 213, 214, 281, 282, 283, 284, 285, 286, 287, 288, 242, 243, 244, 245, 349, 350, 351, 352, 353, 354, 355, 356, 357, 358, 359, 360, 361, 367, 368, 369, 370, 371] (by decide +kernel) (by decide +kernel)) (goodIn_sub (fun _ h => List.mem_cons_of_mem _ (List.mem_append_left _ (List.mem_append_right _ h))) (by decide +kernel))) (goodIn_sub (fun _ h => List.mem_cons_of_mem _ (List.mem_append_right _ h)) (by decide +kernel))
set_option maxRecDepth 20000 in
theorem gL_isTold_L_bestGuess : GoodIn wsL_isTold (va_wsS RL 179 yL_bestGuess wsL_bestGuess) := goodIn_app (goodIn_of _ (by decide +kernel)) ggL_isTold_L_bestGuess
set_option maxRecDepth 20000 in
theorem ggL_isTold_L_best : GoodIn wsL_isTold wsL_best := goodIn_r _ [291, 62, 63, 4, 64, 259, 260, 261, 1, 9, 10, 11, 12, 13, 174, 175, 176, 246, 247, 248] (by decide +kernel) (by decide +kernel)
set_option maxRecDepth 20000 in
theorem gL_isTold_L_best : GoodIn wsL_isTold (va_wsS RL 101 yL_best wsL_best) := goodIn_app (goodIn_of _ (by decide +kernel)) ggL_isTold_L_best
set_option maxRecDepth 20000 in
theorem ggL_isTold_L_guessesNeeded : GoodIn wsL_isTold wsL_guessesNeeded := goodIn_ca (goodIn_r _ [294, 270, 295, 296, 297, 17, 298, 275, 276, 77, 78, 299, 300, 301, 302, 303, 304, 305, 306, 307, 25, 308, 212, 213, 214, 277, 278, 279, 280, 116, 184, 189, 190, 191, 192, 193, 194, 195, 196, 197, 198, 199, 200, 201, 202, 203, 204, 205, 173, 135, 136, 29, 137, 138, 139, 140, 141, 142, 27, 28, 30, 31, 143, 56, 57, 58, 59, 60, 61, 144, 145, 146, 147, 148, 149, 150, 206, 207, 208, 209, 210, 211, 281, 282, 283, 284, 285, 286, 287, 288, 242, 243, 244, 245, 309, 310, 311, 312, 313, 314, 315, 316, 349, 350, 351, 352, 353, 354, 355, 356, 357, 358, 359, 360, 361, 367, 368, 369, 370, 371] (by decide +kernel) (by decide +kernel)) (goodIn_sub (fun _ h => List.mem_cons_of_mem _ (List.mem_append_right _ h)) (by decide +kernel))
set_option maxRecDepth 20000 in
theorem gL_isTold_L_guessesNeeded : GoodIn wsL_isTold (va_wsS RL 181 yL_guessesNeeded wsL_guessesNeeded) := goodIn_app (goodIn_of _ (by decide +kernel)) ggL_isTold_L_guessesNeeded
set_option maxRecDepth 20000 in
theorem ggL_isTold_L_needed : GoodIn wsL_isTold wsL_needed := goodIn_r _ [319, 1, 289, 290, 4, 291, 62, 63, 64, 259, 260, 261, 9, 10, 11, 12, 13, 174, 175, 176, 246, 247, 248] (by decide +kernel) (by decide +kernel)
set_option maxRecDepth 20000 in
theorem gL_isTold_L_needed : GoodIn wsL_isTold (va_wsS RL 183 yL_needed wsL_needed) := goodIn_app (goodIn_of _ (by decide +kernel)) ggL_isTold_L_needed
set_option maxRecDepth 20000 in
theorem ggL_isTold_L_proof : GoodIn wsL_isTold wsL_proof := goodIn_r _ [322, 246, 247, 4, 248, 9, 10, 11, 12, 13] (by decide +kernel) (by decide +kernel)
set_option maxRecDepth 20000 in
theorem gL_isTold_L_proof : GoodIn wsL_isTold (va_wsS RL 187 yL_proof wsL_proof) := goodIn_app (goodIn_of _ (by decide +kernel)) ggL_isTold_L_proof
set_option maxRecDepth 20000 in
theorem ggL_isTold_X3_proofSize : GoodIn wsL_isTold wsX3_proofSize := goodIn_r _ [326, 77, 327, 328, 329, 17, 330, 36, 331, 44, 45, 41, 46, 47, 332, 56, 57, 58, 59, 60, 61, 333, 334, 335, 336, 25, 116, 37, 337, 49, 50, 51, 52, 53, 54, 27, 28, 29, 30, 31, 55, 349, 350, 351, 352, 353, 354, 355, 356, 362, 363, 364, 365, 366, 357, 358, 359, 360, 361] (by decide +kernel) (by decide +kernel)
set_option maxRecDepth 20000 in
theorem gL_isTold_X3_proofSize : GoodIn wsL_isTold (wsV RL 191 RX3 yX3_proofSize wsX3_proofSize) := goodIn_app (goodIn_of _ (by decide +kernel)) ggL_isTold_X3_proofSize
set_option maxRecDepth 20000 in
theorem ggL_isTold_L_isInProof : GoodIn wsL_isTold wsL_isInProof := goodIn_ca (goodIn_ca (goodIn_r _ [340, 72, 270, 341, 342, 343, 17, 344, 275, 276, 77, 36, 83, 84, 85, 86, 23, 24, 87, 88, 89, 41, 90, 47, 327, 328, 329, 330, 331, 44, 45, 46, 332, 56, 57, 58, 59, 60, 61, 333, 334, 335, 336, 25, 116, 37, 337, 49, 50, 51, 52, 53, 54, 27, 28, 29, 30, 31, 55, 345, 346, 347, 348, 96, 349, 350, 351, 352, 353, 354, 355, 356, 362, 363, 364, 365, 366, 357, 358, 359, 360, 361] (by decide +kernel) (by decide +kernel)) (goodIn_sub (fun _ h => List.mem_cons_of_mem _ (List.mem_append_right _ h)) (by decide +kernel))) (goodIn_sub (fun _ h => List.mem_cons_of_mem _ (List.mem_append_left _ (List.mem_append_left _ (List.mem_append_right _ h)))) (by decide +kernel))
set_option maxRecDepth 20000 in
theorem gL_isTold_L_isInProof : GoodIn wsL_isTold (va_wsS RL 194 yL_isInProof wsL_isInProof) := goodIn_app (goodIn_of _ (by decide +kernel)) ggL_isTold_L_isInProof
theorem dL_isTold_0 : decode cL_isTold 0 = .ok (.aload_n 2, 1) := by decide +kernel
theorem dL_isTold_1 : decode cL_isTold 1 = .ok (.aload_n 3, 1) := by decide +kernel
theorem dL_isTold_2 : decode cL_isTold 2 = .ok (.aload 4, 2) := by decide +kernel
theorem dL_isTold_4 : decode cL_isTold 4 = .ok (.aload 5, 2) := by decide +kernel
theorem dL_isTold_6 : decode cL_isTold 6 = .ok (.invokestatic 108, 3) := by decide +kernel
theorem dL_isTold_9 : decode cL_isTold 9 = .ok (.lstore 8, 2) := by decide +kernel
theorem dL_isTold_11 : decode cL_isTold 11 = .ok (.iconst 0, 1) := by decide +kernel
theorem dL_isTold_12 : decode cL_isTold 12 = .ok (.istore 10, 2) := by decide +kernel
theorem dL_isTold_14 : decode cL_isTold 14 = .ok (.iconst 0, 1) := by decide +kernel
theorem dL_isTold_15 : decode cL_isTold 15 = .ok (.istore 11, 2) := by decide +kernel
theorem dL_isTold_17 : decode cL_isTold 17 = .ok (.iload 11, 2) := by decide +kernel
theorem dL_isTold_19 : decode cL_isTold 19 = .ok (.aload_n 2, 1) := by decide +kernel
theorem dL_isTold_20 : decode cL_isTold 20 = .ok (.iconst 2, 1) := by decide +kernel
theorem dL_isTold_21 : decode cL_isTold 21 = .ok (.iaload, 1) := by decide +kernel
theorem dL_isTold_22 : decode cL_isTold 22 = .ok (.if_icmp .ge 90, 3) := by decide +kernel
theorem dL_isTold_25 : decode cL_isTold 25 = .ok (.aload_n 0, 1) := by decide +kernel
theorem dL_isTold_26 : decode cL_isTold 26 = .ok (.iload 11, 2) := by decide +kernel
theorem dL_isTold_28 : decode cL_isTold 28 = .ok (.invokevirtual 143, 3) := by decide +kernel
theorem dL_isTold_31 : decode cL_isTold 31 = .ok (.lload 8, 2) := by decide +kernel
theorem dL_isTold_33 : decode cL_isTold 33 = .ok (.iload 11, 2) := by decide +kernel
theorem dL_isTold_35 : decode cL_isTold 35 = .ok (.invokestatic 83, 3) := by decide +kernel
theorem dL_isTold_38 : decode cL_isTold 38 = .ok (.if_icmp .ne 23, 3) := by decide +kernel
theorem dL_isTold_41 : decode cL_isTold 41 = .ok (.aload_n 0, 1) := by decide +kernel
theorem dL_isTold_42 : decode cL_isTold 42 = .ok (.iload 11, 2) := by decide +kernel
theorem dL_isTold_44 : decode cL_isTold 44 = .ok (.invokevirtual 146, 3) := by decide +kernel
theorem dL_isTold_47 : decode cL_isTold 47 = .ok (.aload_n 2, 1) := by decide +kernel
theorem dL_isTold_48 : decode cL_isTold 48 = .ok (.aload_n 3, 1) := by decide +kernel
theorem dL_isTold_49 : decode cL_isTold 49 = .ok (.aload 4, 2) := by decide +kernel
theorem dL_isTold_51 : decode cL_isTold 51 = .ok (.aload 5, 2) := by decide +kernel
theorem dL_isTold_53 : decode cL_isTold 53 = .ok (.iload 11, 2) := by decide +kernel
theorem dL_isTold_55 : decode cL_isTold 55 = .ok (.invokestatic 79, 3) := by decide +kernel
theorem dL_isTold_58 : decode cL_isTold 58 = .ok (.if_icmp .eq 5, 3) := by decide +kernel
theorem dL_isTold_61 : decode cL_isTold 61 = .ok (.iconst 0, 1) := by decide +kernel
theorem dL_isTold_62 : decode cL_isTold 62 = .ok (.ireturn, 1) := by decide +kernel
theorem dL_isTold_63 : decode cL_isTold 63 = .ok (.lload 8, 2) := by decide +kernel
theorem dL_isTold_65 : decode cL_isTold 65 = .ok (.iload 11, 2) := by decide +kernel
theorem dL_isTold_67 : decode cL_isTold 67 = .ok (.invokestatic 83, 3) := by decide +kernel
theorem dL_isTold_70 : decode cL_isTold 70 = .ok (.ifCond .eq 16, 3) := by decide +kernel
theorem dL_isTold_73 : decode cL_isTold 73 = .ok (.aload_n 0, 1) := by decide +kernel
theorem dL_isTold_74 : decode cL_isTold 74 = .ok (.iload 10, 2) := by decide +kernel
theorem dL_isTold_76 : decode cL_isTold 76 = .ok (.invokestatic 149, 3) := by decide +kernel
theorem dL_isTold_79 : decode cL_isTold 79 = .ok (.iload 11, 2) := by decide +kernel
theorem dL_isTold_81 : decode cL_isTold 81 = .ok (.if_icmp .eq 5, 3) := by decide +kernel
theorem dL_isTold_84 : decode cL_isTold 84 = .ok (.iconst 0, 1) := by decide +kernel
theorem dL_isTold_85 : decode cL_isTold 85 = .ok (.ireturn, 1) := by decide +kernel
theorem dL_isTold_86 : decode cL_isTold 86 = .ok (.iload 10, 2) := by decide +kernel
theorem dL_isTold_88 : decode cL_isTold 88 = .ok (.lload 8, 2) := by decide +kernel
theorem dL_isTold_90 : decode cL_isTold 90 = .ok (.iload 11, 2) := by decide +kernel
theorem dL_isTold_92 : decode cL_isTold 92 = .ok (.invokestatic 83, 3) := by decide +kernel
theorem dL_isTold_95 : decode cL_isTold 95 = .ok (.ifCond .eq 7, 3) := by decide +kernel
theorem dL_isTold_98 : decode cL_isTold 98 = .ok (.iconst 1, 1) := by decide +kernel
theorem dL_isTold_99 : decode cL_isTold 99 = .ok (.goto 4, 3) := by decide +kernel
theorem dL_isTold_102 : decode cL_isTold 102 = .ok (.iconst 0, 1) := by decide +kernel
theorem dL_isTold_103 : decode cL_isTold 103 = .ok (.iadd, 1) := by decide +kernel
theorem dL_isTold_104 : decode cL_isTold 104 = .ok (.istore 10, 2) := by decide +kernel
theorem dL_isTold_106 : decode cL_isTold 106 = .ok (.iinc 11 1, 3) := by decide +kernel
theorem dL_isTold_109 : decode cL_isTold 109 = .ok (.goto (-92), 3) := by decide +kernel
theorem dL_isTold_112 : decode cL_isTold 112 = .ok (.iconst 0, 1) := by decide +kernel
theorem dL_isTold_113 : decode cL_isTold 113 = .ok (.istore 11, 2) := by decide +kernel
theorem dL_isTold_115 : decode cL_isTold 115 = .ok (.iload 11, 2) := by decide +kernel
theorem dL_isTold_117 : decode cL_isTold 117 = .ok (.aload_n 2, 1) := by decide +kernel
theorem dL_isTold_118 : decode cL_isTold 118 = .ok (.iconst 5, 1) := by decide +kernel
theorem dL_isTold_119 : decode cL_isTold 119 = .ok (.iaload, 1) := by decide +kernel
theorem dL_isTold_120 : decode cL_isTold 120 = .ok (.if_icmp .ge 39, 3) := by decide +kernel
theorem dL_isTold_123 : decode cL_isTold 123 = .ok (.aload_n 0, 1) := by decide +kernel
theorem dL_isTold_124 : decode cL_isTold 124 = .ok (.iload 11, 2) := by decide +kernel
theorem dL_isTold_126 : decode cL_isTold 126 = .ok (.invokevirtual 151, 3) := by decide +kernel
theorem dL_isTold_129 : decode cL_isTold 129 = .ok (.aload 4, 2) := by decide +kernel
theorem dL_isTold_131 : decode cL_isTold 131 = .ok (.iload 11, 2) := by decide +kernel
theorem dL_isTold_133 : decode cL_isTold 133 = .ok (.iaload, 1) := by decide +kernel
theorem dL_isTold_134 : decode cL_isTold 134 = .ok (.if_icmp .ne 17, 3) := by decide +kernel
theorem dL_isTold_137 : decode cL_isTold 137 = .ok (.aload_n 0, 1) := by decide +kernel
theorem dL_isTold_138 : decode cL_isTold 138 = .ok (.iload 11, 2) := by decide +kernel
theorem dL_isTold_140 : decode cL_isTold 140 = .ok (.invokestatic 154, 3) := by decide +kernel
theorem dL_isTold_143 : decode cL_isTold 143 = .ok (.aload 5, 2) := by decide +kernel
theorem dL_isTold_145 : decode cL_isTold 145 = .ok (.iload 11, 2) := by decide +kernel
theorem dL_isTold_147 : decode cL_isTold 147 = .ok (.iaload, 1) := by decide +kernel
theorem dL_isTold_148 : decode cL_isTold 148 = .ok (.if_icmp .eq 5, 3) := by decide +kernel
theorem dL_isTold_151 : decode cL_isTold 151 = .ok (.iconst 0, 1) := by decide +kernel
theorem dL_isTold_152 : decode cL_isTold 152 = .ok (.ireturn, 1) := by decide +kernel
theorem dL_isTold_153 : decode cL_isTold 153 = .ok (.iinc 11 1, 3) := by decide +kernel
theorem dL_isTold_156 : decode cL_isTold 156 = .ok (.goto (-41), 3) := by decide +kernel
theorem dL_isTold_159 : decode cL_isTold 159 = .ok (.iload_n 1, 1) := by decide +kernel
theorem dL_isTold_160 : decode cL_isTold 160 = .ok (.aload_n 2, 1) := by decide +kernel
theorem dL_isTold_161 : decode cL_isTold 161 = .ok (.iconst 2, 1) := by decide +kernel
theorem dL_isTold_162 : decode cL_isTold 162 = .ok (.iaload, 1) := by decide +kernel
theorem dL_isTold_163 : decode cL_isTold 163 = .ok (.invokestatic 105, 3) := by decide +kernel
theorem dL_isTold_166 : decode cL_isTold 166 = .ok (.istore 11, 2) := by decide +kernel
theorem dL_isTold_168 : decode cL_isTold 168 = .ok (.iload_n 1, 1) := by decide +kernel
theorem dL_isTold_169 : decode cL_isTold 169 = .ok (.bipush 7, 2) := by decide +kernel
theorem dL_isTold_171 : decode cL_isTold 171 = .ok (.ishr, 1) := by decide +kernel
theorem dL_isTold_172 : decode cL_isTold 172 = .ok (.aload_n 2, 1) := by decide +kernel
theorem dL_isTold_173 : decode cL_isTold 173 = .ok (.iconst 2, 1) := by decide +kernel
theorem dL_isTold_174 : decode cL_isTold 174 = .ok (.iaload, 1) := by decide +kernel
theorem dL_isTold_175 : decode cL_isTold 175 = .ok (.invokestatic 105, 3) := by decide +kernel
theorem dL_isTold_178 : decode cL_isTold 178 = .ok (.istore 12, 2) := by decide +kernel
theorem dL_isTold_180 : decode cL_isTold 180 = .ok (.iload_n 1, 1) := by decide +kernel
theorem dL_isTold_181 : decode cL_isTold 181 = .ok (.bipush 13, 2) := by decide +kernel
theorem dL_isTold_183 : decode cL_isTold 183 = .ok (.ishr, 1) := by decide +kernel
theorem dL_isTold_184 : decode cL_isTold 184 = .ok (.aload_n 2, 1) := by decide +kernel
theorem dL_isTold_185 : decode cL_isTold 185 = .ok (.iconst 0, 1) := by decide +kernel
theorem dL_isTold_186 : decode cL_isTold 186 = .ok (.iaload, 1) := by decide +kernel
theorem dL_isTold_187 : decode cL_isTold 187 = .ok (.invokestatic 105, 3) := by decide +kernel
theorem dL_isTold_190 : decode cL_isTold 190 = .ok (.istore 13, 2) := by decide +kernel
theorem dL_isTold_192 : decode cL_isTold 192 = .ok (.aload_n 0, 1) := by decide +kernel
theorem dL_isTold_193 : decode cL_isTold 193 = .ok (.invokevirtual 115, 3) := by decide +kernel
theorem dL_isTold_196 : decode cL_isTold 196 = .ok (.aload_n 2, 1) := by decide +kernel
theorem dL_isTold_197 : decode cL_isTold 197 = .ok (.iconst 2, 1) := by decide +kernel
theorem dL_isTold_198 : decode cL_isTold 198 = .ok (.iaload, 1) := by decide +kernel
theorem dL_isTold_199 : decode cL_isTold 199 = .ok (.if_icmp .ne 155, 3) := by decide +kernel
theorem dL_isTold_202 : decode cL_isTold 202 = .ok (.aload_n 0, 1) := by decide +kernel
theorem dL_isTold_203 : decode cL_isTold 203 = .ok (.invokevirtual 156, 3) := by decide +kernel
theorem dL_isTold_206 : decode cL_isTold 206 = .ok (.aload_n 2, 1) := by decide +kernel
theorem dL_isTold_207 : decode cL_isTold 207 = .ok (.iconst 5, 1) := by decide +kernel
theorem dL_isTold_208 : decode cL_isTold 208 = .ok (.iaload, 1) := by decide +kernel
theorem dL_isTold_209 : decode cL_isTold 209 = .ok (.if_icmp .ne 145, 3) := by decide +kernel
theorem dL_isTold_212 : decode cL_isTold 212 = .ok (.aload_n 0, 1) := by decide +kernel
theorem dL_isTold_213 : decode cL_isTold 213 = .ok (.aload_n 2, 1) := by decide +kernel
theorem dL_isTold_214 : decode cL_isTold 214 = .ok (.iconst 5, 1) := by decide +kernel
theorem dL_isTold_215 : decode cL_isTold 215 = .ok (.iaload, 1) := by decide +kernel
theorem dL_isTold_216 : decode cL_isTold 216 = .ok (.invokestatic 154, 3) := by decide +kernel
theorem dL_isTold_219 : decode cL_isTold 219 = .ok (.bipush (-71), 2) := by decide +kernel
theorem dL_isTold_221 : decode cL_isTold 221 = .ok (.if_icmp .ne 133, 3) := by decide +kernel
theorem dL_isTold_224 : decode cL_isTold 224 = .ok (.aload_n 0, 1) := by decide +kernel
theorem dL_isTold_225 : decode cL_isTold 225 = .ok (.iload 10, 2) := by decide +kernel
theorem dL_isTold_227 : decode cL_isTold 227 = .ok (.invokestatic 149, 3) := by decide +kernel
theorem dL_isTold_230 : decode cL_isTold 230 = .ok (.bipush (-71), 2) := by decide +kernel
theorem dL_isTold_232 : decode cL_isTold 232 = .ok (.if_icmp .ne 122, 3) := by decide +kernel
theorem dL_isTold_235 : decode cL_isTold 235 = .ok (.aload_n 0, 1) := by decide +kernel
theorem dL_isTold_236 : decode cL_isTold 236 = .ok (.iconst (-1), 1) := by decide +kernel
theorem dL_isTold_237 : decode cL_isTold 237 = .ok (.invokestatic 149, 3) := by decide +kernel
theorem dL_isTold_240 : decode cL_isTold 240 = .ok (.bipush (-71), 2) := by decide +kernel
theorem dL_isTold_242 : decode cL_isTold 242 = .ok (.if_icmp .ne 112, 3) := by decide +kernel
theorem dL_isTold_245 : decode cL_isTold 245 = .ok (.aload_n 0, 1) := by decide +kernel
theorem dL_isTold_246 : decode cL_isTold 246 = .ok (.invokevirtual 159, 3) := by decide +kernel
theorem dL_isTold_249 : decode cL_isTold 249 = .ok (.iload 10, 2) := by decide +kernel
theorem dL_isTold_251 : decode cL_isTold 251 = .ok (.if_icmp .ne 103, 3) := by decide +kernel
theorem dL_isTold_254 : decode cL_isTold 254 = .ok (.aload_n 0, 1) := by decide +kernel
theorem dL_isTold_255 : decode cL_isTold 255 = .ok (.invokevirtual 161, 3) := by decide +kernel
theorem dL_isTold_258 : decode cL_isTold 258 = .ok (.iload 10, 2) := by decide +kernel
theorem dL_isTold_260 : decode cL_isTold 260 = .ok (.if_icmp .ne 94, 3) := by decide +kernel
theorem dL_isTold_263 : decode cL_isTold 263 = .ok (.aload_n 0, 1) := by decide +kernel
theorem dL_isTold_264 : decode cL_isTold 264 = .ok (.iload 11, 2) := by decide +kernel
theorem dL_isTold_266 : decode cL_isTold 266 = .ok (.iload 13, 2) := by decide +kernel
theorem dL_isTold_268 : decode cL_isTold 268 = .ok (.invokestatic 164, 3) := by decide +kernel
theorem dL_isTold_271 : decode cL_isTold 271 = .ok (.aload_n 2, 1) := by decide +kernel
theorem dL_isTold_272 : decode cL_isTold 272 = .ok (.iload 11, 2) := by decide +kernel
theorem dL_isTold_274 : decode cL_isTold 274 = .ok (.iload 13, 2) := by decide +kernel
theorem dL_isTold_276 : decode cL_isTold 276 = .ok (.invokestatic 65, 3) := by decide +kernel
theorem dL_isTold_279 : decode cL_isTold 279 = .ok (.if_icmp .ne 75, 3) := by decide +kernel
theorem dL_isTold_282 : decode cL_isTold 282 = .ok (.aload_n 0, 1) := by decide +kernel
theorem dL_isTold_283 : decode cL_isTold 283 = .ok (.aload_n 2, 1) := by decide +kernel
theorem dL_isTold_284 : decode cL_isTold 284 = .ok (.iconst 2, 1) := by decide +kernel
theorem dL_isTold_285 : decode cL_isTold 285 = .ok (.iaload, 1) := by decide +kernel
theorem dL_isTold_286 : decode cL_isTold 286 = .ok (.iconst 0, 1) := by decide +kernel
theorem dL_isTold_287 : decode cL_isTold 287 = .ok (.invokestatic 164, 3) := by decide +kernel
theorem dL_isTold_290 : decode cL_isTold 290 = .ok (.bipush (-71), 2) := by decide +kernel
theorem dL_isTold_292 : decode cL_isTold 292 = .ok (.if_icmp .ne 62, 3) := by decide +kernel
theorem dL_isTold_295 : decode cL_isTold 295 = .ok (.aload_n 0, 1) := by decide +kernel
theorem dL_isTold_296 : decode cL_isTold 296 = .ok (.iconst 0, 1) := by decide +kernel
theorem dL_isTold_297 : decode cL_isTold 297 = .ok (.aload_n 2, 1) := by decide +kernel
theorem dL_isTold_298 : decode cL_isTold 298 = .ok (.iconst 0, 1) := by decide +kernel
theorem dL_isTold_299 : decode cL_isTold 299 = .ok (.iaload, 1) := by decide +kernel
theorem dL_isTold_300 : decode cL_isTold 300 = .ok (.invokestatic 164, 3) := by decide +kernel
theorem dL_isTold_303 : decode cL_isTold 303 = .ok (.bipush (-71), 2) := by decide +kernel
theorem dL_isTold_305 : decode cL_isTold 305 = .ok (.if_icmp .ne 49, 3) := by decide +kernel
theorem dL_isTold_308 : decode cL_isTold 308 = .ok (.aload_n 0, 1) := by decide +kernel
theorem dL_isTold_309 : decode cL_isTold 309 = .ok (.iload 11, 2) := by decide +kernel
theorem dL_isTold_311 : decode cL_isTold 311 = .ok (.iload 12, 2) := by decide +kernel
theorem dL_isTold_313 : decode cL_isTold 313 = .ok (.invokestatic 166, 3) := by decide +kernel
theorem dL_isTold_316 : decode cL_isTold 316 = .ok (.aload_n 2, 1) := by decide +kernel
theorem dL_isTold_317 : decode cL_isTold 317 = .ok (.aload_n 3, 1) := by decide +kernel
theorem dL_isTold_318 : decode cL_isTold 318 = .ok (.iload 11, 2) := by decide +kernel
theorem dL_isTold_320 : decode cL_isTold 320 = .ok (.iload 12, 2) := by decide +kernel
theorem dL_isTold_322 : decode cL_isTold 322 = .ok (.invokestatic 75, 3) := by decide +kernel
theorem dL_isTold_325 : decode cL_isTold 325 = .ok (.if_icmp .ne 29, 3) := by decide +kernel
theorem dL_isTold_328 : decode cL_isTold 328 = .ok (.aload_n 0, 1) := by decide +kernel
theorem dL_isTold_329 : decode cL_isTold 329 = .ok (.iload 11, 2) := by decide +kernel
theorem dL_isTold_331 : decode cL_isTold 331 = .ok (.aload_n 2, 1) := by decide +kernel
theorem dL_isTold_332 : decode cL_isTold 332 = .ok (.iconst 2, 1) := by decide +kernel
theorem dL_isTold_333 : decode cL_isTold 333 = .ok (.iaload, 1) := by decide +kernel
theorem dL_isTold_334 : decode cL_isTold 334 = .ok (.invokestatic 166, 3) := by decide +kernel
theorem dL_isTold_337 : decode cL_isTold 337 = .ok (.bipush (-71), 2) := by decide +kernel
theorem dL_isTold_339 : decode cL_isTold 339 = .ok (.if_icmp .ne 15, 3) := by decide +kernel
theorem dL_isTold_342 : decode cL_isTold 342 = .ok (.aload_n 0, 1) := by decide +kernel
theorem dL_isTold_343 : decode cL_isTold 343 = .ok (.iconst (-1), 1) := by decide +kernel
theorem dL_isTold_344 : decode cL_isTold 344 = .ok (.iload 11, 2) := by decide +kernel
theorem dL_isTold_346 : decode cL_isTold 346 = .ok (.invokestatic 166, 3) := by decide +kernel
theorem dL_isTold_349 : decode cL_isTold 349 = .ok (.bipush (-71), 2) := by decide +kernel
theorem dL_isTold_351 : decode cL_isTold 351 = .ok (.if_icmp .eq 5, 3) := by decide +kernel
theorem dL_isTold_354 : decode cL_isTold 354 = .ok (.iconst 0, 1) := by decide +kernel
theorem dL_isTold_355 : decode cL_isTold 355 = .ok (.ireturn, 1) := by decide +kernel
theorem dL_isTold_356 : decode cL_isTold 356 = .ok (.lload 8, 2) := by decide +kernel
theorem dL_isTold_358 : decode cL_isTold 358 = .ok (.lstore 14, 2) := by decide +kernel
theorem dL_isTold_360 : decode cL_isTold 360 = .ok (.iconst 0, 1) := by decide +kernel
theorem dL_isTold_361 : decode cL_isTold 361 = .ok (.istore 16, 2) := by decide +kernel
theorem dL_isTold_363 : decode cL_isTold 363 = .ok (.lload 14, 2) := by decide +kernel
theorem dL_isTold_365 : decode cL_isTold 365 = .ok (.lconst 0, 1) := by decide +kernel
theorem dL_isTold_366 : decode cL_isTold 366 = .ok (.lcmp, 1) := by decide +kernel
theorem dL_isTold_367 : decode cL_isTold 367 = .ok (.ifCond .eq 94, 3) := by decide +kernel
theorem dL_isTold_370 : decode cL_isTold 370 = .ok (.iconst 0, 1) := by decide +kernel
theorem dL_isTold_371 : decode cL_isTold 371 = .ok (.istore 17, 2) := by decide +kernel
theorem dL_isTold_373 : decode cL_isTold 373 = .ok (.lload 14, 2) := by decide +kernel
theorem dL_isTold_375 : decode cL_isTold 375 = .ok (.iload 17, 2) := by decide +kernel
theorem dL_isTold_377 : decode cL_isTold 377 = .ok (.invokestatic 83, 3) := by decide +kernel
theorem dL_isTold_380 : decode cL_isTold 380 = .ok (.ifCond .ne 9, 3) := by decide +kernel
theorem dL_isTold_383 : decode cL_isTold 383 = .ok (.iinc 17 1, 3) := by decide +kernel
theorem dL_isTold_386 : decode cL_isTold 386 = .ok (.goto (-13), 3) := by decide +kernel
theorem dL_isTold_389 : decode cL_isTold 389 = .ok (.aload_n 2, 1) := by decide +kernel
theorem dL_isTold_390 : decode cL_isTold 390 = .ok (.aload_n 3, 1) := by decide +kernel
theorem dL_isTold_391 : decode cL_isTold 391 = .ok (.iload 11, 2) := by decide +kernel
theorem dL_isTold_393 : decode cL_isTold 393 = .ok (.iload 17, 2) := by decide +kernel
theorem dL_isTold_395 : decode cL_isTold 395 = .ok (.invokestatic 75, 3) := by decide +kernel
theorem dL_isTold_398 : decode cL_isTold 398 = .ok (.istore 18, 2) := by decide +kernel
theorem dL_isTold_400 : decode cL_isTold 400 = .ok (.aload_n 2, 1) := by decide +kernel
theorem dL_isTold_401 : decode cL_isTold 401 = .ok (.aload_n 3, 1) := by decide +kernel
theorem dL_isTold_402 : decode cL_isTold 402 = .ok (.lload 14, 2) := by decide +kernel
theorem dL_isTold_404 : decode cL_isTold 404 = .ok (.iload 11, 2) := by decide +kernel
theorem dL_isTold_406 : decode cL_isTold 406 = .ok (.iload 18, 2) := by decide +kernel
theorem dL_isTold_408 : decode cL_isTold 408 = .ok (.invokestatic 87, 3) := by decide +kernel
theorem dL_isTold_411 : decode cL_isTold 411 = .ok (.lstore 19, 2) := by decide +kernel
theorem dL_isTold_413 : decode cL_isTold 413 = .ok (.aload_n 0, 1) := by decide +kernel
theorem dL_isTold_414 : decode cL_isTold 414 = .ok (.iload 11, 2) := by decide +kernel
theorem dL_isTold_416 : decode cL_isTold 416 = .ok (.iload 16, 2) := by decide +kernel
theorem dL_isTold_418 : decode cL_isTold 418 = .ok (.invokestatic 168, 3) := by decide +kernel
theorem dL_isTold_421 : decode cL_isTold 421 = .ok (.iload 18, 2) := by decide +kernel
theorem dL_isTold_423 : decode cL_isTold 423 = .ok (.if_icmp .ne 19, 3) := by decide +kernel
theorem dL_isTold_426 : decode cL_isTold 426 = .ok (.aload_n 0, 1) := by decide +kernel
theorem dL_isTold_427 : decode cL_isTold 427 = .ok (.iload 11, 2) := by decide +kernel
theorem dL_isTold_429 : decode cL_isTold 429 = .ok (.iload 18, 2) := by decide +kernel
theorem dL_isTold_431 : decode cL_isTold 431 = .ok (.invokestatic 138, 3) := by decide +kernel
theorem dL_isTold_434 : decode cL_isTold 434 = .ok (.lload 19, 2) := by decide +kernel
theorem dL_isTold_436 : decode cL_isTold 436 = .ok (.invokestatic 91, 3) := by decide +kernel
theorem dL_isTold_439 : decode cL_isTold 439 = .ok (.if_icmp .eq 5, 3) := by decide +kernel
theorem dL_isTold_442 : decode cL_isTold 442 = .ok (.iconst 0, 1) := by decide +kernel
theorem dL_isTold_443 : decode cL_isTold 443 = .ok (.ireturn, 1) := by decide +kernel
theorem dL_isTold_444 : decode cL_isTold 444 = .ok (.lload 14, 2) := by decide +kernel
theorem dL_isTold_446 : decode cL_isTold 446 = .ok (.lload 19, 2) := by decide +kernel
theorem dL_isTold_448 : decode cL_isTold 448 = .ok (.ldc2_w 95, 3) := by decide +kernel
theorem dL_isTold_451 : decode cL_isTold 451 = .ok (.lxor, 1) := by decide +kernel
theorem dL_isTold_452 : decode cL_isTold 452 = .ok (.land, 1) := by decide +kernel
theorem dL_isTold_453 : decode cL_isTold 453 = .ok (.lstore 14, 2) := by decide +kernel
theorem dL_isTold_455 : decode cL_isTold 455 = .ok (.iinc 16 1, 3) := by decide +kernel
theorem dL_isTold_458 : decode cL_isTold 458 = .ok (.goto (-95), 3) := by decide +kernel
theorem dL_isTold_461 : decode cL_isTold 461 = .ok (.iload_n 1, 1) := by decide +kernel
theorem dL_isTold_462 : decode cL_isTold 462 = .ok (.bipush 16, 2) := by decide +kernel
theorem dL_isTold_464 : decode cL_isTold 464 = .ok (.ishr, 1) := by decide +kernel
theorem dL_isTold_465 : decode cL_isTold 465 = .ok (.iconst 3, 1) := by decide +kernel
theorem dL_isTold_466 : decode cL_isTold 466 = .ok (.invokestatic 105, 3) := by decide +kernel
theorem dL_isTold_469 : decode cL_isTold 469 = .ok (.istore 17, 2) := by decide +kernel
theorem dL_isTold_471 : decode cL_isTold 471 = .ok (.aload_n 0, 1) := by decide +kernel
theorem dL_isTold_472 : decode cL_isTold 472 = .ok (.iload 11, 2) := by decide +kernel
theorem dL_isTold_474 : decode cL_isTold 474 = .ok (.invokevirtual 170, 3) := by decide +kernel
theorem dL_isTold_477 : decode cL_isTold 477 = .ok (.iload 16, 2) := by decide +kernel
theorem dL_isTold_479 : decode cL_isTold 479 = .ok (.if_icmp .ne 139, 3) := by decide +kernel
theorem dL_isTold_482 : decode cL_isTold 482 = .ok (.aload_n 0, 1) := by decide +kernel
theorem dL_isTold_483 : decode cL_isTold 483 = .ok (.iload 11, 2) := by decide +kernel
theorem dL_isTold_485 : decode cL_isTold 485 = .ok (.iload 16, 2) := by decide +kernel
theorem dL_isTold_487 : decode cL_isTold 487 = .ok (.invokestatic 168, 3) := by decide +kernel
theorem dL_isTold_490 : decode cL_isTold 490 = .ok (.bipush (-71), 2) := by decide +kernel
theorem dL_isTold_492 : decode cL_isTold 492 = .ok (.if_icmp .ne 126, 3) := by decide +kernel
theorem dL_isTold_495 : decode cL_isTold 495 = .ok (.aload_n 0, 1) := by decide +kernel
theorem dL_isTold_496 : decode cL_isTold 496 = .ok (.iload 11, 2) := by decide +kernel
theorem dL_isTold_498 : decode cL_isTold 498 = .ok (.iconst (-1), 1) := by decide +kernel
theorem dL_isTold_499 : decode cL_isTold 499 = .ok (.invokestatic 168, 3) := by decide +kernel
theorem dL_isTold_502 : decode cL_isTold 502 = .ok (.bipush (-71), 2) := by decide +kernel
theorem dL_isTold_504 : decode cL_isTold 504 = .ok (.if_icmp .ne 114, 3) := by decide +kernel
theorem dL_isTold_507 : decode cL_isTold 507 = .ok (.aload_n 0, 1) := by decide +kernel
theorem dL_isTold_508 : decode cL_isTold 508 = .ok (.iload 11, 2) := by decide +kernel
theorem dL_isTold_510 : decode cL_isTold 510 = .ok (.invokevirtual 173, 3) := by decide +kernel
theorem dL_isTold_513 : decode cL_isTold 513 = .ok (.aload_n 2, 1) := by decide +kernel
theorem dL_isTold_514 : decode cL_isTold 514 = .ok (.aload_n 3, 1) := by decide +kernel
theorem dL_isTold_515 : decode cL_isTold 515 = .ok (.lload 8, 2) := by decide +kernel
theorem dL_isTold_517 : decode cL_isTold 517 = .ok (.iload 11, 2) := by decide +kernel
theorem dL_isTold_519 : decode cL_isTold 519 = .ok (.iconst 0, 1) := by decide +kernel
theorem dL_isTold_520 : decode cL_isTold 520 = .ok (.invokestatic 97, 3) := by decide +kernel
theorem dL_isTold_523 : decode cL_isTold 523 = .ok (.if_icmp .ne 95, 3) := by decide +kernel
theorem dL_isTold_526 : decode cL_isTold 526 = .ok (.aload_n 0, 1) := by decide +kernel
theorem dL_isTold_527 : decode cL_isTold 527 = .ok (.iload 11, 2) := by decide +kernel
theorem dL_isTold_529 : decode cL_isTold 529 = .ok (.invokevirtual 176, 3) := by decide +kernel
theorem dL_isTold_532 : decode cL_isTold 532 = .ok (.aload_n 2, 1) := by decide +kernel
theorem dL_isTold_533 : decode cL_isTold 533 = .ok (.aload_n 3, 1) := by decide +kernel
theorem dL_isTold_534 : decode cL_isTold 534 = .ok (.lload 8, 2) := by decide +kernel
theorem dL_isTold_536 : decode cL_isTold 536 = .ok (.iload 11, 2) := by decide +kernel
theorem dL_isTold_538 : decode cL_isTold 538 = .ok (.iconst 1, 1) := by decide +kernel
theorem dL_isTold_539 : decode cL_isTold 539 = .ok (.invokestatic 97, 3) := by decide +kernel
theorem dL_isTold_542 : decode cL_isTold 542 = .ok (.if_icmp .ne 76, 3) := by decide +kernel
theorem dL_isTold_545 : decode cL_isTold 545 = .ok (.aload_n 0, 1) := by decide +kernel
theorem dL_isTold_546 : decode cL_isTold 546 = .ok (.iload 17, 2) := by decide +kernel
theorem dL_isTold_548 : decode cL_isTold 548 = .ok (.invokestatic 179, 3) := by decide +kernel
theorem dL_isTold_551 : decode cL_isTold 551 = .ok (.lload 8, 2) := by decide +kernel
theorem dL_isTold_553 : decode cL_isTold 553 = .ok (.lconst 0, 1) := by decide +kernel
theorem dL_isTold_554 : decode cL_isTold 554 = .ok (.lcmp, 1) := by decide +kernel
theorem dL_isTold_555 : decode cL_isTold 555 = .ok (.ifCond .ne 8, 3) := by decide +kernel
theorem dL_isTold_558 : decode cL_isTold 558 = .ok (.bipush (-73), 2) := by decide +kernel
theorem dL_isTold_560 : decode cL_isTold 560 = .ok (.goto 12, 3) := by decide +kernel
theorem dL_isTold_563 : decode cL_isTold 563 = .ok (.aload_n 2, 1) := by decide +kernel
theorem dL_isTold_564 : decode cL_isTold 564 = .ok (.aload_n 3, 1) := by decide +kernel
theorem dL_isTold_565 : decode cL_isTold 565 = .ok (.lload 8, 2) := by decide +kernel
theorem dL_isTold_567 : decode cL_isTold 567 = .ok (.iload 17, 2) := by decide +kernel
theorem dL_isTold_569 : decode cL_isTold 569 = .ok (.invokestatic 101, 3) := by decide +kernel
theorem dL_isTold_572 : decode cL_isTold 572 = .ok (.if_icmp .ne 46, 3) := by decide +kernel
theorem dL_isTold_575 : decode cL_isTold 575 = .ok (.aload_n 0, 1) := by decide +kernel
theorem dL_isTold_576 : decode cL_isTold 576 = .ok (.iconst 3, 1) := by decide +kernel
theorem dL_isTold_577 : decode cL_isTold 577 = .ok (.invokestatic 179, 3) := by decide +kernel
theorem dL_isTold_580 : decode cL_isTold 580 = .ok (.bipush (-72), 2) := by decide +kernel
theorem dL_isTold_582 : decode cL_isTold 582 = .ok (.if_icmp .ne 36, 3) := by decide +kernel
theorem dL_isTold_585 : decode cL_isTold 585 = .ok (.aload_n 0, 1) := by decide +kernel
theorem dL_isTold_586 : decode cL_isTold 586 = .ok (.aload_n 2, 1) := by decide +kernel
theorem dL_isTold_587 : decode cL_isTold 587 = .ok (.iconst 2, 1) := by decide +kernel
theorem dL_isTold_588 : decode cL_isTold 588 = .ok (.iaload, 1) := by decide +kernel
theorem dL_isTold_589 : decode cL_isTold 589 = .ok (.iconst 0, 1) := by decide +kernel
theorem dL_isTold_590 : decode cL_isTold 590 = .ok (.invokestatic 138, 3) := by decide +kernel
theorem dL_isTold_593 : decode cL_isTold 593 = .ok (.bipush (-71), 2) := by decide +kernel
theorem dL_isTold_595 : decode cL_isTold 595 = .ok (.if_icmp .ne 23, 3) := by decide +kernel
theorem dL_isTold_598 : decode cL_isTold 598 = .ok (.aload_n 0, 1) := by decide +kernel
theorem dL_isTold_599 : decode cL_isTold 599 = .ok (.iload 11, 2) := by decide +kernel
theorem dL_isTold_601 : decode cL_isTold 601 = .ok (.bipush 10, 2) := by decide +kernel
theorem dL_isTold_603 : decode cL_isTold 603 = .ok (.aload_n 2, 1) := by decide +kernel
theorem dL_isTold_604 : decode cL_isTold 604 = .ok (.iconst 0, 1) := by decide +kernel
theorem dL_isTold_605 : decode cL_isTold 605 = .ok (.iaload, 1) := by decide +kernel
theorem dL_isTold_606 : decode cL_isTold 606 = .ok (.imul, 1) := by decide +kernel
theorem dL_isTold_607 : decode cL_isTold 607 = .ok (.bipush 9, 2) := by decide +kernel
theorem dL_isTold_609 : decode cL_isTold 609 = .ok (.isub, 1) := by decide +kernel
theorem dL_isTold_610 : decode cL_isTold 610 = .ok (.invokestatic 138, 3) := by decide +kernel
theorem dL_isTold_613 : decode cL_isTold 613 = .ok (.bipush (-72), 2) := by decide +kernel
theorem dL_isTold_615 : decode cL_isTold 615 = .ok (.if_icmp .eq 5, 3) := by decide +kernel
theorem dL_isTold_618 : decode cL_isTold 618 = .ok (.iconst 0, 1) := by decide +kernel
theorem dL_isTold_619 : decode cL_isTold 619 = .ok (.ireturn, 1) := by decide +kernel
theorem dL_isTold_620 : decode cL_isTold 620 = .ok (.aload_n 0, 1) := by decide +kernel
theorem dL_isTold_621 : decode cL_isTold 621 = .ok (.invokestatic 181, 3) := by decide +kernel
theorem dL_isTold_624 : decode cL_isTold 624 = .ok (.iload 10, 2) := by decide +kernel
theorem dL_isTold_626 : decode cL_isTold 626 = .ok (.ifCond .eq 10, 3) := by decide +kernel
theorem dL_isTold_629 : decode cL_isTold 629 = .ok (.iload 10, 2) := by decide +kernel
theorem dL_isTold_631 : decode cL_isTold 631 = .ok (.bipush 24, 2) := by decide +kernel
theorem dL_isTold_633 : decode cL_isTold 633 = .ok (.if_icmp .le 8, 3) := by decide +kernel
theorem dL_isTold_636 : decode cL_isTold 636 = .ok (.bipush (-73), 2) := by decide +kernel
theorem dL_isTold_638 : decode cL_isTold 638 = .ok (.goto 14, 3) := by decide +kernel
theorem dL_isTold_641 : decode cL_isTold 641 = .ok (.aload_n 2, 1) := by decide +kernel
theorem dL_isTold_642 : decode cL_isTold 642 = .ok (.aload_n 3, 1) := by decide +kernel
theorem dL_isTold_643 : decode cL_isTold 643 = .ok (.lload 8, 2) := by decide +kernel
theorem dL_isTold_645 : decode cL_isTold 645 = .ok (.aload 6, 2) := by decide +kernel
theorem dL_isTold_647 : decode cL_isTold 647 = .ok (.aload 7, 2) := by decide +kernel
theorem dL_isTold_649 : decode cL_isTold 649 = .ok (.invokestatic 183, 3) := by decide +kernel
theorem dL_isTold_652 : decode cL_isTold 652 = .ok (.if_icmp .eq 5, 3) := by decide +kernel
theorem dL_isTold_655 : decode cL_isTold 655 = .ok (.iconst 0, 1) := by decide +kernel
theorem dL_isTold_656 : decode cL_isTold 656 = .ok (.ireturn, 1) := by decide +kernel
theorem dL_isTold_657 : decode cL_isTold 657 = .ok (.aload_n 2, 1) := by decide +kernel
theorem dL_isTold_658 : decode cL_isTold 658 = .ok (.aload_n 3, 1) := by decide +kernel
theorem dL_isTold_659 : decode cL_isTold 659 = .ok (.aload 4, 2) := by decide +kernel
theorem dL_isTold_661 : decode cL_isTold 661 = .ok (.aload 5, 2) := by decide +kernel
theorem dL_isTold_663 : decode cL_isTold 663 = .ok (.lload 8, 2) := by decide +kernel
theorem dL_isTold_665 : decode cL_isTold 665 = .ok (.invokestatic 187, 3) := by decide +kernel
theorem dL_isTold_668 : decode cL_isTold 668 = .ok (.istore 18, 2) := by decide +kernel
theorem dL_isTold_670 : decode cL_isTold 670 = .ok (.aload_n 0, 1) := by decide +kernel
theorem dL_isTold_671 : decode cL_isTold 671 = .ok (.invokevirtual 191, 3) := by decide +kernel
theorem dL_isTold_674 : decode cL_isTold 674 = .ok (.iload 10, 2) := by decide +kernel
theorem dL_isTold_676 : decode cL_isTold 676 = .ok (.iconst 1, 1) := by decide +kernel
theorem dL_isTold_677 : decode cL_isTold 677 = .ok (.if_icmp .ne 12, 3) := by decide +kernel
theorem dL_isTold_680 : decode cL_isTold 680 = .ok (.iload 18, 2) := by decide +kernel
theorem dL_isTold_682 : decode cL_isTold 682 = .ok (.i2l, 1) := by decide +kernel
theorem dL_isTold_683 : decode cL_isTold 683 = .ok (.invokestatic 91, 3) := by decide +kernel
theorem dL_isTold_686 : decode cL_isTold 686 = .ok (.goto 4, 3) := by decide +kernel
theorem dL_isTold_689 : decode cL_isTold 689 = .ok (.iconst (-1), 1) := by decide +kernel
theorem dL_isTold_690 : decode cL_isTold 690 = .ok (.if_icmp .ne 25, 3) := by decide +kernel
theorem dL_isTold_693 : decode cL_isTold 693 = .ok (.aload_n 0, 1) := by decide +kernel
theorem dL_isTold_694 : decode cL_isTold 694 = .ok (.aload_n 2, 1) := by decide +kernel
theorem dL_isTold_695 : decode cL_isTold 695 = .ok (.iconst 5, 1) := by decide +kernel
theorem dL_isTold_696 : decode cL_isTold 696 = .ok (.iaload, 1) := by decide +kernel
theorem dL_isTold_697 : decode cL_isTold 697 = .ok (.invokestatic 194, 3) := by decide +kernel
theorem dL_isTold_700 : decode cL_isTold 700 = .ok (.bipush (-71), 2) := by decide +kernel
theorem dL_isTold_702 : decode cL_isTold 702 = .ok (.if_icmp .ne 13, 3) := by decide +kernel
theorem dL_isTold_705 : decode cL_isTold 705 = .ok (.aload_n 0, 1) := by decide +kernel
theorem dL_isTold_706 : decode cL_isTold 706 = .ok (.iconst (-1), 1) := by decide +kernel
theorem dL_isTold_707 : decode cL_isTold 707 = .ok (.invokestatic 194, 3) := by decide +kernel
theorem dL_isTold_710 : decode cL_isTold 710 = .ok (.bipush (-71), 2) := by decide +kernel
theorem dL_isTold_712 : decode cL_isTold 712 = .ok (.if_icmp .eq 5, 3) := by decide +kernel
theorem dL_isTold_715 : decode cL_isTold 715 = .ok (.iconst 0, 1) := by decide +kernel
theorem dL_isTold_716 : decode cL_isTold 716 = .ok (.ireturn, 1) := by decide +kernel
theorem dL_isTold_717 : decode cL_isTold 717 = .ok (.iconst 0, 1) := by decide +kernel
theorem dL_isTold_718 : decode cL_isTold 718 = .ok (.istore 19, 2) := by decide +kernel
theorem dL_isTold_720 : decode cL_isTold 720 = .ok (.iload 19, 2) := by decide +kernel
theorem dL_isTold_722 : decode cL_isTold 722 = .ok (.aload_n 2, 1) := by decide +kernel
theorem dL_isTold_723 : decode cL_isTold 723 = .ok (.iconst 5, 1) := by decide +kernel
theorem dL_isTold_724 : decode cL_isTold 724 = .ok (.iaload, 1) := by decide +kernel
theorem dL_isTold_725 : decode cL_isTold 725 = .ok (.if_icmp .ge 44, 3) := by decide +kernel
theorem dL_isTold_728 : decode cL_isTold 728 = .ok (.aload_n 0, 1) := by decide +kernel
theorem dL_isTold_729 : decode cL_isTold 729 = .ok (.iload 19, 2) := by decide +kernel
theorem dL_isTold_731 : decode cL_isTold 731 = .ok (.invokestatic 194, 3) := by decide +kernel
theorem dL_isTold_734 : decode cL_isTold 734 = .ok (.iload 10, 2) := by decide +kernel
theorem dL_isTold_736 : decode cL_isTold 736 = .ok (.iconst 1, 1) := by decide +kernel
theorem dL_isTold_737 : decode cL_isTold 737 = .ok (.if_icmp .eq 8, 3) := by decide +kernel
theorem dL_isTold_740 : decode cL_isTold 740 = .ok (.bipush (-73), 2) := by decide +kernel
theorem dL_isTold_742 : decode cL_isTold 742 = .ok (.goto 16, 3) := by decide +kernel
theorem dL_isTold_745 : decode cL_isTold 745 = .ok (.iload 18, 2) := by decide +kernel
theorem dL_isTold_747 : decode cL_isTold 747 = .ok (.aload_n 2, 1) := by decide +kernel
theorem dL_isTold_748 : decode cL_isTold 748 = .ok (.iconst 5, 1) := by decide +kernel
theorem dL_isTold_749 : decode cL_isTold 749 = .ok (.iaload, 1) := by decide +kernel
theorem dL_isTold_750 : decode cL_isTold 750 = .ok (.iconst 1, 1) := by decide +kernel
theorem dL_isTold_751 : decode cL_isTold 751 = .ok (.isub, 1) := by decide +kernel
theorem dL_isTold_752 : decode cL_isTold 752 = .ok (.iload 19, 2) := by decide +kernel
theorem dL_isTold_754 : decode cL_isTold 754 = .ok (.isub, 1) := by decide +kernel
theorem dL_isTold_755 : decode cL_isTold 755 = .ok (.ishr, 1) := by decide +kernel
theorem dL_isTold_756 : decode cL_isTold 756 = .ok (.iconst 1, 1) := by decide +kernel
theorem dL_isTold_757 : decode cL_isTold 757 = .ok (.iand, 1) := by decide +kernel
theorem dL_isTold_758 : decode cL_isTold 758 = .ok (.if_icmp .eq 5, 3) := by decide +kernel
theorem dL_isTold_761 : decode cL_isTold 761 = .ok (.iconst 0, 1) := by decide +kernel
theorem dL_isTold_762 : decode cL_isTold 762 = .ok (.ireturn, 1) := by decide +kernel
theorem dL_isTold_763 : decode cL_isTold 763 = .ok (.iinc 19 1, 3) := by decide +kernel
theorem dL_isTold_766 : decode cL_isTold 766 = .ok (.goto (-46), 3) := by decide +kernel
theorem dL_isTold_769 : decode cL_isTold 769 = .ok (.iconst 1, 1) := by decide +kernel
theorem dL_isTold_770 : decode cL_isTold 770 = .ok (.ireturn, 1) := by decide +kernel
