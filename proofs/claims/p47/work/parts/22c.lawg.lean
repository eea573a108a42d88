set_option maxRecDepth 20000 in
theorem ggL_isFinished_X9_cornerInFirst : GoodIn wsL_isFinished wsX9_cornerInFirst := goodIn_ca (goodIn_ca (goodIn_r _ [172, 6, 24, 25, 26, 4, 27, 28, 29, 30, 31, 32, 33, 34, 35, 36, 37, 38, 39, 40, 41, 42, 43, 44, 45, 46, 47, 48, 49, 50, 51, 52, 53, 54, 55, 56, 57, 10, 58, 16, 59, 60, 61, 62, 63, 64, 65, 66, 67, 68, 69, 70, 71, 72, 73, 74, 75, 76, 77, 78, 79, 18, 19, 80, 81, 82, 83, 84, 85, 86, 87, 88, 89, 90, 91, 92, 93, 17, 94, 95, 96, 97, 98, 99, 100, 101, 102, 103, 104, 105, 106, 107, 108, 109, 110, 111, 112, 113, 114, 115, 116, 117, 118, 119, 120, 121, 122, 123, 124, 125, 126, 127, 128, 129, 130, 131, 132, 133, 134, 135, 136, 137, 138, 139, 140, 141, 142, 143, 144, 145, 146, 147, 148, 149, 150, 151, 152, 153, 154, 155, 156, 173, 174, 175, 176, 235, 236, 237, 238, 239, 240, 241, 242, 243, 248, 249, 250, 251, 252, 253, 254, 255, 256, 257, 258, 259, 260, 244, 245, 246, 247] (by decide +kernel) (by decide +kernel)) (goodIn_sub (fun _ h => List.mem_cons_of_mem _ (List.mem_append_left _ (List.mem_append_right _ h))) (by decide +kernel))) (goodIn_sub (fun _ h => List.mem_cons_of_mem _ (List.mem_append_right _ h)) (by decide +kernel))
set_option maxRecDepth 20000 in
theorem gL_isFinished_X9_cornerInFirst : GoodIn wsL_isFinished (wsV RL 88 RX9 yX9_cornerInFirst wsX9_cornerInFirst) := goodIn_app (goodIn_of _ (by decide +kernel)) ggL_isFinished_X9_cornerInFirst
set_option maxRecDepth 20000 in
theorem ggL_isFinished_X9_finish : GoodIn wsL_isFinished wsX9_finish := goodIn_ca (goodIn_r _ [180, 6, 181, 24, 33, 34, 35, 4, 36, 37, 38, 39, 40, 41, 42, 43, 44, 45, 46, 47, 48, 49, 50, 51, 52, 53, 54, 55, 56, 57, 10, 58, 16, 59, 60, 61, 62, 63, 64, 65, 66, 67, 68, 69, 70, 71, 72, 73, 74, 75, 76, 77, 78, 79, 18, 19, 80, 81, 82, 83, 84, 85, 86, 87, 88, 89, 90, 91, 92, 93, 17, 94, 95, 96, 97, 98, 99, 100, 101, 102, 103, 104, 105, 106, 107, 108, 109, 110, 111, 112, 113, 114, 115, 116, 117, 118, 119, 120, 121, 122, 123, 124, 125, 126, 127, 128, 129, 130, 131, 132, 133, 134, 135, 136, 137, 138, 139, 140, 141, 142, 143, 144, 145, 146, 147, 148, 149, 150, 151, 152, 182, 183, 184, 185, 186, 187, 188, 189, 190, 191, 192, 193, 7, 8, 9, 11, 12, 13, 14, 15, 153, 154, 155, 156, 194, 235, 236, 237, 238, 239, 240, 241, 242, 243, 248, 249, 250, 251, 252, 253, 254, 255, 256, 257, 258, 259, 260, 244, 245, 246, 247, 261, 262, 263, 264] (by decide +kernel) (by decide +kernel)) (goodIn_sub (fun _ h => List.mem_cons_of_mem _ (List.mem_append_right _ h)) (by decide +kernel))
set_option maxRecDepth 20000 in
theorem gL_isFinished_X9_finish : GoodIn wsL_isFinished (wsV RL 91 RX9 yX9_finish wsX9_finish) := goodIn_app (goodIn_of _ (by decide +kernel)) ggL_isFinished_X9_finish
set_option maxRecDepth 20000 in
theorem ggL_isFinished_X9_isFull : GoodIn wsL_isFinished wsX9_isFull := goodIn_r _ [198, 6, 199, 200, 56, 57, 10, 58, 16, 59, 4, 60, 235, 236, 237, 238, 239, 240, 241, 242, 243, 244, 245, 246, 247] (by decide +kernel) (by decide +kernel)
set_option maxRecDepth 20000 in
theorem gL_isFinished_X9_isFull : GoodIn wsL_isFinished (wsV RL 94 RX9 yX9_isFull wsX9_isFull) := goodIn_app (goodIn_of _ (by decide +kernel)) ggL_isFinished_X9_isFull
set_option maxRecDepth 20000 in
theorem ggL_isFinished_X9_openCells : GoodIn wsL_isFinished wsX9_openCells := goodIn_r _ [204, 205, 206, 207, 4, 208, 6, 200, 56, 57, 10, 58, 16, 59, 60, 75, 67, 68, 69, 70, 71, 72, 235, 236, 237, 238, 239, 240, 241, 242, 243, 244, 245, 246, 247] (by decide +kernel) (by decide +kernel)
set_option maxRecDepth 20000 in
theorem gL_isFinished_X9_openCells : GoodIn wsL_isFinished (wsV RL 38 RX9 yX9_openCells wsX9_openCells) := goodIn_app (goodIn_of _ (by decide +kernel)) ggL_isFinished_X9_openCells
set_option maxRecDepth 20000 in
theorem ggL_isFinished_X9_fieldSize : GoodIn wsL_isFinished wsX9_fieldSize := goodIn_ca (goodIn_ca (goodIn_r _ [212, 6, 213, 214, 215, 4, 216, 37, 38, 25, 26, 27, 28, 29, 30, 31, 32, 217, 218, 219, 10, 220, 16, 18, 19, 157, 158, 159, 160, 17, 94, 161, 162, 163, 164, 165, 166, 167, 168, 235, 236, 237, 238, 239, 240, 241, 242, 243, 244, 245, 246, 247] (by decide +kernel) (by decide +kernel)) (goodIn_sub (fun _ h => List.mem_cons_of_mem _ (List.mem_append_right _ h)) (by decide +kernel))) (goodIn_sub (fun _ h => List.mem_cons_of_mem _ (List.mem_append_left _ (List.mem_append_right _ h))) (by decide +kernel))
set_option maxRecDepth 20000 in
theorem gL_isFinished_X9_fieldSize : GoodIn wsL_isFinished (wsV RL 97 RX9 yX9_fieldSize wsX9_fieldSize) := goodIn_app (goodIn_of _ (by decide +kernel)) ggL_isFinished_X9_fieldSize
set_option maxRecDepth 20000 in
theorem ggL_isFinished_X9_cornerOf : GoodIn wsL_isFinished wsX9_cornerOf := goodIn_ca (goodIn_ca (goodIn_r _ [224, 6, 213, 214, 215, 4, 216, 37, 38, 25, 26, 27, 28, 29, 30, 31, 32, 217, 218, 219, 10, 220, 16, 18, 19, 173, 174, 175, 176, 17, 235, 236, 237, 238, 239, 240, 241, 242, 243, 244, 245, 246, 247] (by decide +kernel) (by decide +kernel)) (goodIn_sub (fun _ h => List.mem_cons_of_mem _ (List.mem_append_right _ h)) (by decide +kernel))) (goodIn_sub (fun _ h => List.mem_cons_of_mem _ (List.mem_append_left _ (List.mem_append_right _ h))) (by decide +kernel))
set_option maxRecDepth 20000 in
theorem gL_isFinished_X9_cornerOf : GoodIn wsL_isFinished (wsV RL 100 RX9 yX9_cornerOf wsX9_cornerOf) := goodIn_app (goodIn_of _ (by decide +kernel)) ggL_isFinished_X9_cornerOf
set_option maxRecDepth 20000 in
theorem ggL_isFinished_X9_numbers : GoodIn wsL_isFinished wsX9_numbers := goodIn_r _ [228, 6, 229, 62, 63, 10, 64, 65, 59, 4, 60, 75, 67, 68, 69, 70, 71, 72, 235, 236, 237, 238, 239, 240, 241, 242, 243, 244, 245, 246, 247] (by decide +kernel) (by decide +kernel)
set_option maxRecDepth 20000 in
theorem gL_isFinished_X9_numbers : GoodIn wsL_isFinished (wsV RL 67 RX9 yX9_numbers wsX9_numbers) := goodIn_app (goodIn_of _ (by decide +kernel)) ggL_isFinished_X9_numbers
set_option maxRecDepth 20000 in
theorem ggL_isFinished_X9_sum : GoodIn wsL_isFinished wsX9_sum := goodIn_r _ [233, 6, 199, 234, 103, 104, 10, 105, 65, 106, 4, 107, 108, 59, 60, 235, 236, 237, 238, 239, 240, 241, 242, 243, 244, 245, 246, 247] (by decide +kernel) (by decide +kernel)
set_option maxRecDepth 20000 in
theorem gL_isFinished_X9_sum : GoodIn wsL_isFinished (wsV RL 70 RX9 yX9_sum wsX9_sum) := goodIn_app (goodIn_of _ (by decide +kernel)) ggL_isFinished_X9_sum
set_option maxRecDepth 20000 in
theorem ggL_isErased_X9_openCells : GoodIn wsL_isErased wsX9_openCells := goodIn_r _ [5, 6, 7, 8, 4, 9, 10, 11, 12, 13, 14, 15, 16, 17, 18, 19, 20, 21, 22, 23, 24, 25, 102, 103, 104, 105, 106, 107, 108, 109, 110, 111, 112, 113, 114] (by decide +kernel) (by decide +kernel)
set_option maxRecDepth 20000 in
theorem gL_isErased_X9_openCells : GoodIn wsL_isErased (wsV RL 38 RX9 yX9_openCells wsX9_openCells) := goodIn_app (goodIn_of _ (by decide +kernel)) ggL_isErased_X9_openCells
set_option maxRecDepth 20000 in
theorem ggL_isErased_X9_fieldSize : GoodIn wsL_isErased wsX9_fieldSize := goodIn_ca (goodIn_ca (goodIn_r _ [29, 10, 30, 31, 32, 4, 33, 34, 35, 36, 37, 38, 39, 40, 41, 42, 43, 44, 45, 46, 14, 47, 16, 48, 49, 50, 51, 52, 53, 54, 55, 56, 57, 58, 59, 60, 61, 62, 63, 102, 103, 104, 105, 106, 107, 108, 109, 110, 111, 112, 113, 114] (by decide +kernel) (by decide +kernel)) (goodIn_sub (fun _ h => List.mem_cons_of_mem _ (List.mem_append_left _ (List.mem_append_right _ h))) (by decide +kernel))) (goodIn_sub (fun _ h => List.mem_cons_of_mem _ (List.mem_append_right _ h)) (by decide +kernel))
set_option maxRecDepth 20000 in
theorem gL_isErased_X9_fieldSize : GoodIn wsL_isErased (wsV RL 97 RX9 yX9_fieldSize wsX9_fieldSize) := goodIn_app (goodIn_of _ (by decide +kernel)) ggL_isErased_X9_fieldSize
set_option maxRecDepth 20000 in
theorem ggL_isErased_X9_cornerOf : GoodIn wsL_isErased wsX9_cornerOf := goodIn_ca (goodIn_ca (goodIn_r _ [67, 10, 30, 31, 32, 4, 33, 34, 35, 36, 37, 38, 39, 40, 41, 42, 43, 44, 45, 46, 14, 47, 16, 48, 49, 68, 69, 70, 71, 54, 102, 103, 104, 105, 106, 107, 108, 109, 110, 111, 112, 113, 114] (by decide +kernel) (by decide +kernel)) (goodIn_sub (fun _ h => List.mem_cons_of_mem _ (List.mem_append_left _ (List.mem_append_right _ h))) (by decide +kernel))) (goodIn_sub (fun _ h => List.mem_cons_of_mem _ (List.mem_append_right _ h)) (by decide +kernel))
set_option maxRecDepth 20000 in
theorem gL_isErased_X9_cornerOf : GoodIn wsL_isErased (wsV RL 100 RX9 yX9_cornerOf wsX9_cornerOf) := goodIn_app (goodIn_of _ (by decide +kernel)) ggL_isErased_X9_cornerOf
set_option maxRecDepth 20000 in
theorem ggL_isErased_X9_erase : GoodIn wsL_isErased wsX9_erase := goodIn_ca (goodIn_ca (goodIn_r _ [75, 76, 10, 30, 31, 32, 4, 33, 34, 35, 36, 37, 38, 39, 40, 41, 42, 43, 44, 45, 46, 14, 47, 16, 48, 49, 77, 78, 79, 80, 81, 82, 83, 84, 85, 86, 87, 88, 89, 90, 91, 92, 54, 55, 50, 51, 52, 53, 56, 57, 58, 59, 60, 61, 62, 63, 93, 94, 95, 96, 97, 69, 70, 71, 102, 103, 104, 105, 106, 107, 108, 109, 110, 111, 112, 113, 114, 115, 116, 117, 118] (by decide +kernel) (by decide +kernel)) (goodIn_sub (fun _ h => List.mem_cons_of_mem _ (List.mem_append_left _ (List.mem_append_right _ h))) (by decide +kernel))) (goodIn_sub (fun _ h => List.mem_cons_of_mem _ (List.mem_append_right _ h)) (by decide +kernel))
set_option maxRecDepth 20000 in
theorem gL_isErased_X9_erase : GoodIn wsL_isErased (wsV RL 103 RX9 yX9_erase wsX9_erase) := goodIn_app (goodIn_of _ (by decide +kernel)) ggL_isErased_X9_erase
set_option maxRecDepth 20000 in
theorem ggL_isErased_X9_isInField : GoodIn wsL_isErased wsX9_isInField := goodIn_ca (goodIn_r _ [101, 10, 36, 37, 4, 38, 39, 40, 41, 42, 43, 44, 45, 46, 14, 47, 16, 48, 49, 102, 103, 104, 105, 106, 107, 108, 109, 110, 111, 112, 113, 114] (by decide +kernel) (by decide +kernel)) (goodIn_sub (fun _ h => List.mem_cons_of_mem _ (List.mem_append_right _ h)) (by decide +kernel))
set_option maxRecDepth 20000 in
theorem gL_isErased_X9_isInField : GoodIn wsL_isErased (wsV RL 19 RX9 yX9_isInField wsX9_isInField) := goodIn_app (goodIn_of _ (by decide +kernel)) ggL_isErased_X9_isInField
set_option maxRecDepth 20000 in
theorem ggL_isDrawn_X9_possibleFor : GoodIn wsL_isDrawn wsX9_possibleFor := goodIn_ca (goodIn_r _ [5, 6, 7, 8, 9, 4, 10, 11, 12, 13, 14, 15, 16, 17, 18, 19, 20, 21, 22, 23, 24, 25, 26, 27, 28, 29, 30, 31, 32, 33, 34, 35, 36, 37, 38, 39, 40, 41, 42, 43, 44, 45, 46, 47, 48, 49, 50, 51, 52, 53, 54, 55, 56, 57, 58, 59, 60, 61, 62, 63, 64, 65, 66, 67, 68, 69, 199, 200, 201, 202, 203, 204, 205, 206, 207, 208, 209, 210, 211, 212, 213, 214, 215, 216, 217, 218, 219] (by decide +kernel) (by decide +kernel)) (goodIn_sub (fun _ h => List.mem_cons_of_mem _ (List.mem_append_left _ (List.mem_append_right _ h))) (by decide +kernel))
set_option maxRecDepth 20000 in
theorem gL_isDrawn_X9_possibleFor : GoodIn wsL_isDrawn (wsV RL 106 RX9 yX9_possibleFor wsX9_possibleFor) := goodIn_app (goodIn_of _ (by decide +kernel)) ggL_isDrawn_X9_possibleFor
set_option maxRecDepth 20000 in
theorem ggL_isDrawn_L_low : GoodIn wsL_isDrawn wsL_low := goodIn_r _ [73, 74] (by decide +kernel) (by decide +kernel)
set_option maxRecDepth 20000 in
theorem gL_isDrawn_L_low : GoodIn wsL_isDrawn (va_wsS RL 8 yL_low wsL_low) := goodIn_app (goodIn_of _ (by decide +kernel)) ggL_isDrawn_L_low
set_option maxRecDepth 20000 in
theorem ggL_isDrawn_X9_possibleAt : GoodIn wsL_isDrawn wsX9_possibleAt := goodIn_ca (goodIn_r _ [78, 11, 12, 6, 7, 8, 9, 4, 10, 13, 14, 15, 16, 17, 18, 19, 20, 21, 22, 23, 24, 25, 26, 27, 28, 29, 30, 31, 32, 33, 34, 35, 36, 37, 38, 39, 40, 41, 42, 43, 44, 45, 46, 47, 48, 49, 50, 51, 52, 53, 54, 55, 56, 57, 58, 59, 60, 61, 62, 63, 64, 65, 66, 67, 68, 69, 79, 80, 81, 82, 83, 84, 85, 86, 87, 88, 89, 90, 91, 92, 93, 94, 199, 200, 201, 202, 203, 204, 205, 206, 207, 208, 209, 210, 211, 212, 213, 214, 215, 216, 217, 218, 219] (by decide +kernel) (by decide +kernel)) (goodIn_sub (fun _ h => List.mem_cons_of_mem _ (List.mem_append_left _ (List.mem_append_right _ h))) (by decide +kernel))
set_option maxRecDepth 20000 in
theorem gL_isDrawn_X9_possibleAt : GoodIn wsL_isDrawn (wsV RL 109 RX9 yX9_possibleAt wsX9_possibleAt) := goodIn_app (goodIn_of _ (by decide +kernel)) ggL_isDrawn_X9_possibleAt
set_option maxRecDepth 20000 in
theorem ggL_isDrawn_X9_openCells : GoodIn wsL_isDrawn wsX9_openCells := goodIn_r _ [98, 99, 100, 101, 4, 102, 7, 103, 24, 25, 26, 27, 28, 29, 30, 45, 37, 38, 39, 40, 41, 42, 199, 200, 201, 202, 203, 204, 205, 206, 207, 216, 217, 218, 219] (by decide +kernel) (by decide +kernel)
set_option maxRecDepth 20000 in
theorem gL_isDrawn_X9_openCells : GoodIn wsL_isDrawn (wsV RL 38 RX9 yX9_openCells wsX9_openCells) := goodIn_app (goodIn_of _ (by decide +kernel)) ggL_isDrawn_X9_openCells
set_option maxRecDepth 20000 in
theorem ggL_isDrawn_X9_numberAt : GoodIn wsL_isDrawn wsX9_numberAt := goodIn_ca (goodIn_r _ [107, 7, 8, 9, 4, 10, 11, 12, 13, 14, 15, 108, 47, 48, 26, 49, 35, 50, 51, 199, 200, 201, 202, 203, 204, 205, 206, 207, 216, 217, 218, 219] (by decide +kernel) (by decide +kernel)) (goodIn_sub (fun _ h => List.mem_cons_of_mem _ (List.mem_append_left _ (List.mem_append_right _ h))) (by decide +kernel))
set_option maxRecDepth 20000 in
theorem gL_isDrawn_X9_numberAt : GoodIn wsL_isDrawn (wsV RL 14 RX9 yX9_numberAt wsX9_numberAt) := goodIn_app (goodIn_of _ (by decide +kernel)) ggL_isDrawn_X9_numberAt
set_option maxRecDepth 20000 in
theorem ggL_isDrawn_X9_reasonAgainst : GoodIn wsL_isDrawn wsX9_reasonAgainst := goodIn_ca (goodIn_r _ [112, 7, 113, 114, 4, 115, 11, 12, 13, 14, 15, 116, 117, 118, 26, 119, 120, 121, 122, 123, 124, 125, 29, 30, 126, 32, 33, 34, 35, 127, 37, 38, 39, 40, 41, 42, 128, 24, 25, 27, 28, 129, 130, 131, 132, 133, 134, 135, 136, 137, 138, 139, 140, 141, 142, 199, 200, 201, 202, 203, 204, 205, 206, 207, 216, 217, 218, 219] (by decide +kernel) (by decide +kernel)) (goodIn_sub (fun _ h => List.mem_cons_of_mem _ (List.mem_append_left _ (List.mem_append_right _ h))) (by decide +kernel))
set_option maxRecDepth 20000 in
theorem gL_isDrawn_X9_reasonAgainst : GoodIn wsL_isDrawn (wsV RL 112 RX9 yX9_reasonAgainst wsX9_reasonAgainst) := goodIn_app (goodIn_of _ (by decide +kernel)) ggL_isDrawn_X9_reasonAgainst
set_option maxRecDepth 20000 in
theorem ggL_isDrawn_X9_draw : GoodIn wsL_isDrawn wsX9_draw := goodIn_ca (goodIn_ca (goodIn_r _ [146, 147, 148, 7, 149, 113, 114, 4, 115, 11, 12, 13, 14, 15, 116, 117, 118, 26, 119, 120, 121, 122, 123, 124, 125, 29, 30, 126, 32, 33, 34, 35, 127, 37, 38, 39, 40, 41, 42, 128, 24, 25, 27, 28, 129, 130, 131, 132, 133, 134, 135, 136, 137, 138, 139, 140, 141, 142, 150, 151, 152, 153, 154, 155, 156, 157, 158, 159, 160, 161, 162, 163, 164, 165, 166, 167, 168, 169, 170, 103, 45, 199, 200, 201, 202, 203, 204, 205, 206, 207, 216, 217, 218, 219, 220, 221, 222, 223] (by decide +kernel) (by decide +kernel)) (goodIn_sub (fun _ h => List.mem_cons_of_mem _ (List.mem_append_right _ h)) (by decide +kernel))) (goodIn_sub (fun _ h => List.mem_cons_of_mem _ (List.mem_append_left _ (List.mem_append_right _ h))) (by decide +kernel))
set_option maxRecDepth 20000 in
theorem gL_isDrawn_X9_draw : GoodIn wsL_isDrawn (wsV RL 116 RX9 yX9_draw wsX9_draw) := goodIn_app (goodIn_of _ (by decide +kernel)) ggL_isDrawn_X9_draw
set_option maxRecDepth 20000 in
theorem ggL_isDrawn_X9_fieldSize : GoodIn wsL_isDrawn wsX9_fieldSize := goodIn_ca (goodIn_ca (goodIn_r _ [174, 7, 175, 176, 177, 4, 178, 147, 148, 8, 9, 10, 11, 12, 13, 14, 15, 179, 180, 181, 26, 182, 28, 50, 51, 183, 184, 185, 186, 165, 166, 135, 136, 137, 138, 139, 140, 141, 142, 199, 200, 201, 202, 203, 204, 205, 206, 207, 216, 217, 218, 219] (by decide +kernel) (by decide +kernel)) (goodIn_sub (fun _ h => List.mem_cons_of_mem _ (List.mem_append_right _ h)) (by decide +kernel))) (goodIn_sub (fun _ h => List.mem_cons_of_mem _ (List.mem_append_left _ (List.mem_append_right _ h))) (by decide +kernel))
set_option maxRecDepth 20000 in
theorem gL_isDrawn_X9_fieldSize : GoodIn wsL_isDrawn (wsV RL 97 RX9 yX9_fieldSize wsX9_fieldSize) := goodIn_app (goodIn_of _ (by decide +kernel)) ggL_isDrawn_X9_fieldSize
set_option maxRecDepth 20000 in
theorem ggL_isDrawn_X9_cornerOf : GoodIn wsL_isDrawn wsX9_cornerOf := goodIn_ca (goodIn_ca (goodIn_r _ [190, 7, 175, 176, 177, 4, 178, 147, 148, 8, 9, 10, 11, 12, 13, 14, 15, 179, 180, 181, 26, 182, 28, 50, 51, 191, 192, 193, 194, 165, 199, 200, 201, 202, 203, 204, 205, 206, 207, 216, 217, 218, 219] (by decide +kernel) (by decide +kernel)) (goodIn_sub (fun _ h => List.mem_cons_of_mem _ (List.mem_append_right _ h)) (by decide +kernel))) (goodIn_sub (fun _ h => List.mem_cons_of_mem _ (List.mem_append_left _ (List.mem_append_right _ h))) (by decide +kernel))
set_option maxRecDepth 20000 in
theorem gL_isDrawn_X9_cornerOf : GoodIn wsL_isDrawn (wsV RL 100 RX9 yX9_cornerOf wsX9_cornerOf) := goodIn_app (goodIn_of _ (by decide +kernel)) ggL_isDrawn_X9_cornerOf
set_option maxRecDepth 20000 in
theorem ggL_isDrawn_X9_isInField : GoodIn wsL_isDrawn wsX9_isInField := goodIn_ca (goodIn_r _ [198, 7, 8, 9, 4, 10, 11, 12, 13, 14, 15, 179, 180, 181, 26, 182, 28, 50, 51, 199, 200, 201, 202, 203, 204, 205, 206, 207, 216, 217, 218, 219] (by decide +kernel) (by decide +kernel)) (goodIn_sub (fun _ h => List.mem_cons_of_mem _ (List.mem_append_left _ (List.mem_append_right _ h))) (by decide +kernel))
set_option maxRecDepth 20000 in
theorem gL_isDrawn_X9_isInField : GoodIn wsL_isDrawn (wsV RL 19 RX9 yX9_isInField wsX9_isInField) := goodIn_app (goodIn_of _ (by decide +kernel)) ggL_isDrawn_X9_isInField
set_option maxRecDepth 20000 in
theorem ggL_areFieldsSo_X9_numberAt : GoodIn wsL_areFieldsSo wsX9_numberAt := goodIn_ca (goodIn_r _ [5, 6, 7, 8, 4, 9, 10, 11, 12, 13, 14, 15, 16, 17, 18, 19, 20, 21, 22, 157, 158, 159, 160, 161, 162, 163, 164, 165, 166, 167, 168, 169] (by decide +kernel) (by decide +kernel)) (goodIn_sub (fun _ h => List.mem_cons_of_mem _ (List.mem_append_left _ (List.mem_append_right _ h))) (by decide +kernel))
set_option maxRecDepth 20000 in
theorem gL_areFieldsSo_X9_numberAt : GoodIn wsL_areFieldsSo (wsV RL 14 RX9 yX9_numberAt wsX9_numberAt) := goodIn_app (goodIn_of _ (by decide +kernel)) ggL_areFieldsSo_X9_numberAt
set_option maxRecDepth 20000 in
theorem ggL_areFieldsSo_X9_isInField : GoodIn wsL_areFieldsSo wsX9_isInField := goodIn_ca (goodIn_r _ [26, 6, 7, 8, 4, 9, 10, 11, 12, 13, 14, 27, 28, 29, 18, 30, 31, 21, 22, 157, 158, 159, 160, 161, 162, 163, 164, 165, 166, 167, 168, 169] (by decide +kernel) (by decide +kernel)) (goodIn_sub (fun _ h => List.mem_cons_of_mem _ (List.mem_append_left _ (List.mem_append_right _ h))) (by decide +kernel))
set_option maxRecDepth 20000 in
theorem gL_areFieldsSo_X9_isInField : GoodIn wsL_areFieldsSo (wsV RL 19 RX9 yX9_isInField wsX9_isInField) := goodIn_app (goodIn_of _ (by decide +kernel)) ggL_areFieldsSo_X9_isInField
set_option maxRecDepth 20000 in
theorem ggL_areFieldsSo_X9_cornerOf : GoodIn wsL_areFieldsSo wsX9_cornerOf := goodIn_ca (goodIn_ca (goodIn_r _ [35, 6, 36, 37, 38, 4, 39, 40, 41, 7, 8, 9, 10, 11, 12, 13, 14, 27, 28, 29, 18, 30, 31, 21, 22, 42, 43, 44, 45, 46, 157, 158, 159, 160, 161, 162, 163, 164, 165, 166, 167, 168, 169] (by decide +kernel) (by decide +kernel)) (goodIn_sub (fun _ h => List.mem_cons_of_mem _ (List.mem_append_right _ h)) (by decide +kernel))) (goodIn_sub (fun _ h => List.mem_cons_of_mem _ (List.mem_append_left _ (List.mem_append_right _ h))) (by decide +kernel))
set_option maxRecDepth 20000 in
theorem gL_areFieldsSo_X9_cornerOf : GoodIn wsL_areFieldsSo (wsV RL 100 RX9 yX9_cornerOf wsX9_cornerOf) := goodIn_app (goodIn_of _ (by decide +kernel)) ggL_areFieldsSo_X9_cornerOf
set_option maxRecDepth 20000 in
theorem ggL_areFieldsSo_X9_fieldSize : GoodIn wsL_areFieldsSo wsX9_fieldSize := goodIn_ca (goodIn_ca (goodIn_r _ [50, 6, 36, 37, 38, 4, 39, 40, 41, 7, 8, 9, 10, 11, 12, 13, 14, 27, 28, 29, 18, 30, 31, 21, 22, 51, 52, 53, 54, 46, 55, 56, 57, 58, 59, 60, 61, 62, 63, 157, 158, 159, 160, 161, 162, 163, 164, 165, 166, 167, 168, 169] (by decide +kernel) (by decide +kernel)) (goodIn_sub (fun _ h => List.mem_cons_of_mem _ (List.mem_append_right _ h)) (by decide +kernel))) (goodIn_sub (fun _ h => List.mem_cons_of_mem _ (List.mem_append_left _ (List.mem_append_right _ h))) (by decide +kernel))
set_option maxRecDepth 20000 in
theorem gL_areFieldsSo_X9_fieldSize : GoodIn wsL_areFieldsSo (wsV RL 97 RX9 yX9_fieldSize wsX9_fieldSize) := goodIn_app (goodIn_of _ (by decide +kernel)) ggL_areFieldsSo_X9_fieldSize
set_option maxRecDepth 20000 in
theorem ggL_areFieldsSo_X9_possibleFor : GoodIn wsL_areFieldsSo wsX9_possibleFor := goodIn_ca (goodIn_r _ [67, 68, 6, 7, 8, 4, 9, 10, 11, 12, 13, 14, 69, 70, 71, 72, 73, 74, 75, 76, 77, 78, 18, 79, 31, 80, 81, 82, 83, 84, 85, 20, 86, 87, 88, 89, 90, 91, 92, 93, 94, 95, 96, 16, 17, 19, 21, 22, 97, 98, 99, 100, 101, 102, 103, 104, 105, 106, 107, 108, 109, 110, 111, 112, 113, 114, 157, 158, 159, 160, 161, 162, 163, 164, 165, 170, 171, 172, 173, 174, 175, 176, 177, 166, 167, 168, 169] (by decide +kernel) (by decide +kernel)) (goodIn_sub (fun _ h => List.mem_cons_of_mem _ (List.mem_append_left _ (List.mem_append_right _ h))) (by decide +kernel))
set_option maxRecDepth 20000 in
theorem gL_areFieldsSo_X9_possibleFor : GoodIn wsL_areFieldsSo (wsV RL 106 RX9 yX9_possibleFor wsX9_possibleFor) := goodIn_app (goodIn_of _ (by decide +kernel)) ggL_areFieldsSo_X9_possibleFor
set_option maxRecDepth 20000 in
theorem ggL_areFieldsSo_X9_openCells : GoodIn wsL_areFieldsSo wsX9_openCells := goodIn_r _ [118, 119, 120, 121, 4, 122, 6, 123, 77, 78, 18, 79, 31, 80, 81, 95, 87, 88, 89, 90, 91, 92, 157, 158, 159, 160, 161, 162, 163, 164, 165, 166, 167, 168, 169] (by decide +kernel) (by decide +kernel)
set_option maxRecDepth 20000 in
theorem gL_areFieldsSo_X9_openCells : GoodIn wsL_areFieldsSo (wsV RL 38 RX9 yX9_openCells wsX9_openCells) := goodIn_app (goodIn_of _ (by decide +kernel)) ggL_areFieldsSo_X9_openCells
set_option maxRecDepth 20000 in
theorem ggL_areFieldsSo_X9_fields : GoodIn wsL_areFieldsSo wsX9_fields := goodIn_r _ [127, 6, 128, 129, 130, 18, 131, 132, 133, 134, 135, 31, 46, 21, 4, 22, 157, 158, 159, 160, 161, 162, 163, 164, 165, 166, 167, 168, 169] (by decide +kernel) (by decide +kernel)
set_option maxRecDepth 20000 in
theorem gL_areFieldsSo_X9_fields : GoodIn wsL_areFieldsSo (wsV RL 31 RX9 yX9_fields wsX9_fields) := goodIn_app (goodIn_of _ (by decide +kernel)) ggL_areFieldsSo_X9_fields
set_option maxRecDepth 20000 in
theorem ggL_areFieldsSo_X9_numbers : GoodIn wsL_areFieldsSo wsX9_numbers := goodIn_r _ [139, 6, 140, 83, 84, 18, 85, 20, 80, 4, 81, 95, 87, 88, 89, 90, 91, 92, 157, 158, 159, 160, 161, 162, 163, 164, 165, 166, 167, 168, 169] (by decide +kernel) (by decide +kernel)
set_option maxRecDepth 20000 in
theorem gL_areFieldsSo_X9_numbers : GoodIn wsL_areFieldsSo (wsV RL 67 RX9 yX9_numbers wsX9_numbers) := goodIn_app (goodIn_of _ (by decide +kernel)) ggL_areFieldsSo_X9_numbers
set_option maxRecDepth 20000 in
theorem ggL_areFieldsSo_X9_sum : GoodIn wsL_areFieldsSo wsX9_sum := goodIn_r _ [144, 6, 145, 146, 147, 148, 18, 149, 20, 150, 4, 151, 152, 80, 81, 157, 158, 159, 160, 161, 162, 163, 164, 165, 166, 167, 168, 169] (by decide +kernel) (by decide +kernel)
set_option maxRecDepth 20000 in
theorem gL_areFieldsSo_X9_sum : GoodIn wsL_areFieldsSo (wsV RL 70 RX9 yX9_sum wsX9_sum) := goodIn_app (goodIn_of _ (by decide +kernel)) ggL_areFieldsSo_X9_sum
set_option maxRecDepth 20000 in
theorem ggL_areFieldsSo_X9_isFull : GoodIn wsL_areFieldsSo wsX9_isFull := goodIn_r _ [156, 6, 145, 123, 77, 78, 18, 79, 31, 80, 4, 81, 157, 158, 159, 160, 161, 162, 163, 164, 165, 166, 167, 168, 169] (by decide +kernel) (by decide +kernel)
set_option maxRecDepth 20000 in
theorem gL_areFieldsSo_X9_isFull : GoodIn wsL_areFieldsSo (wsV RL 94 RX9 yX9_isFull wsX9_isFull) := goodIn_app (goodIn_of _ (by decide +kernel)) ggL_areFieldsSo_X9_isFull
set_option maxRecDepth 20000 in
theorem ggL_arePossibleSo_X9_possibleFor : GoodIn wsL_arePossibleSo wsX9_possibleFor := goodIn_ca (goodIn_r _ [5, 6, 7, 8, 9, 4, 10, 11, 12, 13, 14, 15, 16, 17, 18, 19, 20, 21, 22, 23, 24, 25, 26, 27, 28, 29, 30, 31, 32, 33, 34, 35, 36, 37, 38, 39, 40, 41, 42, 43, 44, 45, 46, 47, 48, 49, 50, 51, 52, 53, 54, 55, 56, 57, 58, 59, 60, 61, 62, 63, 64, 65, 66, 67, 68, 69, 184, 185, 186, 187, 188, 189, 190, 191, 192, 193, 194, 195, 196, 197, 198, 199, 200, 201, 202, 203, 204] (by decide +kernel) (by decide +kernel)) (goodIn_sub (fun _ h => List.mem_cons_of_mem _ (List.mem_append_right _ h)) (by decide +kernel))
set_option maxRecDepth 20000 in
theorem gL_arePossibleSo_X9_possibleFor : GoodIn wsL_arePossibleSo (wsV RL 106 RX9 yX9_possibleFor wsX9_possibleFor) := goodIn_app (goodIn_of _ (by decide +kernel)) ggL_arePossibleSo_X9_possibleFor
set_option maxRecDepth 20000 in
theorem ggL_arePossibleSo_X9_leftFor : GoodIn wsL_arePossibleSo wsX9_leftFor := goodIn_ca (goodIn_r _ [73, 74, 7, 8, 9, 4, 10, 11, 12, 13, 14, 15, 75, 76, 77, 78, 79, 80, 81, 82, 83, 84, 85, 86, 87, 17, 18, 19, 20, 21, 22, 23, 24, 25, 26, 27, 28, 29, 30, 31, 32, 33, 34, 35, 36, 37, 38, 39, 40, 41, 42, 43, 44, 45, 46, 47, 48, 49, 50, 51, 52, 53, 54, 55, 56, 57, 58, 59, 60, 61, 88, 89, 90, 91, 92, 93, 94, 95, 96, 97, 98, 99, 100, 101, 102, 103, 104, 105, 106, 107, 108, 109, 110, 67, 68, 69, 111, 112, 113, 114, 115, 116, 117, 118, 119, 120, 121, 122, 123, 124, 184, 185, 186, 187, 188, 189, 190, 191, 192, 205, 206, 207, 208, 209, 210, 211, 193, 194, 195, 196, 197, 198, 199, 200, 201, 202, 203, 204] (by decide +kernel) (by decide +kernel)) (goodIn_sub (fun _ h => List.mem_cons_of_mem _ (List.mem_append_right _ h)) (by decide +kernel))
set_option maxRecDepth 20000 in
theorem gL_arePossibleSo_X9_leftFor : GoodIn wsL_arePossibleSo (wsV RL 79 RX9 yX9_leftFor wsX9_leftFor) := goodIn_app (goodIn_of _ (by decide +kernel)) ggL_arePossibleSo_X9_leftFor
set_option maxRecDepth 20000 in
theorem ggL_arePossibleSo_X9_coveredBy : GoodIn wsL_arePossibleSo wsX9_coveredBy := goodIn_ca (goodIn_r _ [128, 6, 7, 8, 9, 4, 10, 11, 12, 13, 14, 15, 16, 17, 18, 19, 20, 21, 22, 23, 24, 25, 26, 27, 28, 29, 30, 31, 32, 33, 34, 35, 36, 37, 38, 39, 40, 41, 42, 43, 44, 45, 46, 47, 48, 49, 50, 51, 52, 53, 54, 55, 56, 57, 58, 59, 60, 61, 129, 130, 131, 132, 133, 112, 113, 114, 134, 135, 136, 184, 185, 186, 187, 188, 189, 190, 191, 192, 193, 194, 195, 196, 197, 198, 199, 200, 201, 202, 203, 204] (by decide +kernel) (by decide +kernel)) (goodIn_sub (fun _ h => List.mem_cons_of_mem _ (List.mem_append_right _ h)) (by decide +kernel))
set_option maxRecDepth 20000 in
theorem gL_arePossibleSo_X9_coveredBy : GoodIn wsL_arePossibleSo (wsV RL 119 RX9 yX9_coveredBy wsX9_coveredBy) := goodIn_app (goodIn_of _ (by decide +kernel)) ggL_arePossibleSo_X9_coveredBy
