set_option maxRecDepth 20000 in
theorem inlw_wsX90 : GoodIn wsL_law wsX90 := goodIn_sub (fun _ h => List.mem_append_left _ (List.mem_append_left _ (List.mem_append_left _ (List.mem_append_left _ (List.mem_append_left _ (List.mem_append_left _ (List.mem_append_left _ (List.mem_append_left _ (List.mem_append_left _ (List.mem_append_left _ (List.mem_append_left _ (List.mem_append_left _ (List.mem_append_right _ h))))))))))))) (by decide +kernel)
set_option maxRecDepth 20000 in
theorem inlw_wsX00 : GoodIn wsL_law wsX00 := goodIn_sub (fun _ h => List.mem_append_left _ (List.mem_append_left _ (List.mem_append_left _ (List.mem_append_left _ (List.mem_append_left _ (List.mem_append_left _ (List.mem_append_left _ (List.mem_append_left _ (List.mem_append_left _ (List.mem_append_left _ (List.mem_append_left _ (List.mem_append_right _ h)))))))))))) (by decide +kernel)
set_option maxRecDepth 20000 in
theorem inlw_wsX30 : GoodIn wsL_law wsX30 := goodIn_sub (fun _ h => List.mem_append_left _ (List.mem_append_left _ (List.mem_append_left _ (List.mem_append_left _ (List.mem_append_left _ (List.mem_append_left _ (List.mem_append_left _ (List.mem_append_left _ (List.mem_append_left _ (List.mem_append_left _ (List.mem_append_right _ h))))))))))) (by decide +kernel)
set_option maxRecDepth 20000 in
theorem inlw_wsX50 : GoodIn wsL_law wsX50 := goodIn_sub (fun _ h => List.mem_append_left _ (List.mem_append_left _ (List.mem_append_left _ (List.mem_append_left _ (List.mem_append_left _ (List.mem_append_left _ (List.mem_append_left _ (List.mem_append_left _ (List.mem_append_right _ h))))))))) (by decide +kernel)
set_option maxRecDepth 20000 in
theorem inlw_wsX10 : GoodIn wsL_law wsX10 := goodIn_sub (fun _ h => List.mem_append_left _ (List.mem_append_left _ (List.mem_append_left _ (List.mem_append_left _ (List.mem_append_right _ h))))) (by decide +kernel)
set_option maxRecDepth 20000 in
theorem inlw_wsX70 : GoodIn wsL_law wsX70 := goodIn_sub (fun _ h => List.mem_append_left _ (List.mem_append_left _ (List.mem_append_left _ (List.mem_append_left _ (List.mem_append_left _ (List.mem_append_left _ (List.mem_append_left _ (List.mem_append_right _ h)))))))) (by decide +kernel)
set_option maxRecDepth 20000 in
theorem inlw_wsX80 : GoodIn wsL_law wsX80 := goodIn_sub (fun _ h => List.mem_append_left _ (List.mem_append_left _ (List.mem_append_left _ (List.mem_append_left _ (List.mem_append_left _ (List.mem_append_left _ (List.mem_append_right _ h))))))) (by decide +kernel)
set_option maxRecDepth 20000 in
theorem inlw_wsX60 : GoodIn wsL_law wsX60 := goodIn_sub (fun _ h => List.mem_append_left _ (List.mem_append_left _ (List.mem_append_left _ (List.mem_append_left _ (List.mem_append_left _ (List.mem_append_right _ h)))))) (by decide +kernel)
set_option maxRecDepth 20000 in
theorem ggL_law_L_does_r1 : GoodIn wsL_law (.code yL_does cL_does 8 (some .boolean) :: wsL_does_r1) := goodIn_r _ [331, 132, 133, 130, 134, 135, 332, 333, 334, 2, 335, 13, 336, 337, 338, 339, 340, 341, 202, 203, 342, 272, 273, 12, 274] (by decide +kernel) (by decide +kernel)
set_option maxRecDepth 20000 in
theorem ggL_law_L_does_r2 : GoodIn wsL_law wsL_does_r2 := goodIn_r _ [48, 211, 212, 343, 344, 345, 346, 347, 348, 349, 350, 50, 351, 352, 353, 354, 143, 144, 355, 356, 18, 146, 147, 148] (by decide +kernel) (by decide +kernel)
set_option maxRecDepth 20000 in
theorem ggL_law_L_does_r3 : GoodIn wsL_law wsL_does_r3 := goodIn_r _ [17, 149, 61, 58, 150, 151, 152, 153, 154, 155, 156, 157, 51, 52, 357, 208, 209, 210, 136, 137, 138, 139, 140, 141] (by decide +kernel) (by decide +kernel)
set_option maxRecDepth 20000 in
theorem ggL_law_L_does_r4 : GoodIn wsL_law wsL_does_r4 := goodIn_r _ [142, 145, 26, 158, 159, 160, 25, 161, 76, 75, 73, 74, 162, 163, 164, 165, 166, 167, 168, 169, 170, 171, 172, 173] (by decide +kernel) (by decide +kernel)
set_option maxRecDepth 20000 in
theorem ggL_law_L_does_r5 : GoodIn wsL_law wsL_does_r5 := goodIn_r _ [174, 175, 176, 177, 178, 179, 180, 181, 182, 183, 184, 185, 186, 187, 188, 189, 190, 191, 192, 193, 194, 195, 196, 197] (by decide +kernel) (by decide +kernel)
set_option maxRecDepth 20000 in
theorem ggL_law_L_does_r6 : GoodIn wsL_law wsL_does_r6 := goodIn_r _ [198, 199, 200, 201, 204, 205, 206, 207, 213, 214, 215, 216, 96, 97, 217, 218, 219, 220, 221, 222, 223, 224, 225, 226] (by decide +kernel) (by decide +kernel)
set_option maxRecDepth 20000 in
theorem ggL_law_L_does_r7 : GoodIn wsL_law wsL_does_r7 := goodIn_r _ [227, 228, 229, 230, 231, 232, 233, 234, 235, 236, 237, 238, 95, 239, 240, 241, 242, 243, 244, 245, 246, 247, 248, 249] (by decide +kernel) (by decide +kernel)
set_option maxRecDepth 20000 in
theorem ggL_law_L_does_r8 : GoodIn wsL_law wsL_does_r8 := goodIn_r _ [250, 251, 252, 253, 254, 42, 255, 256, 257, 41, 258, 121, 124, 125, 126, 259, 260, 261, 29, 262, 89, 84, 263, 264] (by decide +kernel) (by decide +kernel)
set_option maxRecDepth 20000 in
theorem ggL_law_L_does_r9 : GoodIn wsL_law wsL_does_r9 := goodIn_r _ [265, 266, 267, 268, 269, 270, 271, 275, 276, 277, 278, 85, 81, 86, 82, 87, 88, 279, 280, 281, 282, 283, 284, 285] (by decide +kernel) (by decide +kernel)
set_option maxRecDepth 20000 in
theorem ggL_law_L_does_r10 : GoodIn wsL_law wsL_does_r10 := goodIn_r _ [286, 287, 288, 289, 290, 291, 292, 293, 294, 295, 296, 297, 298, 299, 122, 300, 301, 302, 303, 304, 305, 306, 307, 308] (by decide +kernel) (by decide +kernel)
