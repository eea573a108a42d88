set_option maxRecDepth 20000 in
theorem ggL_law_L_areWaysSo_r1 : GoodIn wsL_law (.code yL_areWaysSo cL_areWaysSo 6 (some .boolean) :: wsL_areWaysSo_r1) := goodIn_r _ [609, 251, 252, 253, 2, 254, 42, 13, 255, 256, 257, 41, 258, 121, 124, 125, 126, 259, 260, 261, 29, 262, 89, 84, 263] (by decide +kernel) (by decide +kernel)
set_option maxRecDepth 20000 in
theorem ggL_law_L_areWaysSo_r2 : GoodIn wsL_law wsL_areWaysSo_r2 := goodIn_r _ [264, 265, 12, 266, 50, 96, 97, 267, 214, 215, 216, 48, 268, 218, 219, 220, 221, 222, 223, 269, 270, 217, 271, 272] (by decide +kernel) (by decide +kernel)
set_option maxRecDepth 20000 in
theorem ggL_law_L_areWaysSo_r3 : GoodIn wsL_law wsL_areWaysSo_r3 := goodIn_r _ [273, 274, 211, 212, 275, 276, 277, 278, 85, 81, 86, 82, 87, 88, 279, 155, 156, 157, 51, 52, 280, 281, 282, 283] (by decide +kernel) (by decide +kernel)
set_option maxRecDepth 20000 in
theorem ggL_law_L_areWaysSo_r4 : GoodIn wsL_law wsL_areWaysSo_r4 := goodIn_r _ [284, 285, 286, 287, 234, 235, 236, 237, 238, 95, 288, 289, 290, 291, 292, 293, 294, 295, 296, 297, 298, 299, 122, 300] (by decide +kernel) (by decide +kernel)
set_option maxRecDepth 20000 in
theorem ggL_law_L_areWaysSo_r5 : GoodIn wsL_law wsL_areWaysSo_r5 := goodIn_r _ [301, 302, 303, 304, 305, 306, 307, 308, 309, 310, 311, 93, 94, 312, 313, 314, 315, 316, 317, 318, 319, 320, 321, 322] (by decide +kernel) (by decide +kernel)
set_option maxRecDepth 20000 in
theorem ggL_law_L_areWaysSo_r6 : GoodIn wsL_law wsL_areWaysSo_r6 := goodIn_r _ [323, 324, 325, 326, 327, 328, 610, 611, 612, 613, 38, 614, 615, 616, 37, 617, 113, 115, 116, 618, 619, 385, 386, 387] (by decide +kernel) (by decide +kernel)
set_option maxRecDepth 20000 in
theorem ggL_law_L_areWaysSo_r7 : GoodIn wsL_law wsL_areWaysSo_r7 := goodIn_r _ [388, 620, 621, 622, 623, 624, 625, 626, 627, 628, 629, 630, 631, 632, 114, 633, 634, 635, 636, 637, 638, 399, 400, 401] (by decide +kernel) (by decide +kernel)
set_option maxRecDepth 20000 in
theorem ggL_law_L_areWaysSo_r8 : GoodIn wsL_law wsL_areWaysSo_r8 := goodIn_r _ [639, 640, 641, 642, 643, 644, 645, 646, 647, 372, 373, 374, 375, 34, 376, 377, 378, 33, 379, 102, 380, 381, 107, 106] (by decide +kernel) (by decide +kernel)
set_option maxRecDepth 20000 in
theorem ggL_law_L_areWaysSo_r9 : GoodIn wsL_law wsL_areWaysSo_r9 := goodIn_r _ [103, 108, 382, 383, 384, 389, 390, 391, 392, 393, 104, 105, 394, 395, 396, 397, 398, 402, 403, 404, 405, 406, 407, 408] (by decide +kernel) (by decide +kernel)
set_option maxRecDepth 20000 in
theorem ggL_law_L_areWaysSo_r10 : GoodIn wsL_law wsL_areWaysSo_r10 := goodIn_r _ [409, 410, 411, 412, 228, 229, 230, 231, 232, 233, 488, 489, 490, 491, 371, 475, 476, 477, 478, 336, 337, 338, 339, 340] (by decide +kernel) (by decide +kernel)
set_option maxRecDepth 20000 in
theorem ggL_law_L_areWaysSo_r11 : GoodIn wsL_law wsL_areWaysSo_r11 := goodIn_r _ [341, 202, 203, 463, 464, 465, 466, 355, 356, 467, 468, 469, 470, 479, 480, 481, 482, 459, 460, 461, 462, 471, 472, 473] (by decide +kernel) (by decide +kernel)
set_option maxRecDepth 20000 in
theorem ggL_law_L_areWaysSo_r12 : GoodIn wsL_law wsL_areWaysSo_r12 := goodIn_r _ [474, 182, 183, 184, 185, 186, 187, 188, 189, 332, 333, 334, 335, 342, 343, 344, 345, 346, 347, 348, 349, 350, 500, 501] (by decide +kernel) (by decide +kernel)
set_option maxRecDepth 20000 in
theorem ggL_law_L_areWaysSo_r13 : GoodIn wsL_law wsL_areWaysSo_r13 := goodIn_r _ [502, 503, 496, 497, 498, 499, 492, 493, 494, 495, 239, 240, 241, 242, 243, 244, 245, 246, 247, 248, 249, 250, 648, 649] (by decide +kernel) (by decide +kernel)
set_option maxRecDepth 20000 in
theorem ggL_law_L_areWaysSo_r14 : GoodIn wsL_law wsL_areWaysSo_r14 := goodIn_r _ [650, 651, 14, 487, 362, 163, 164, 165, 652, 653, 654, 655] (by decide +kernel) (by decide +kernel)
theorem ggL_law_L_areWaysSo : GoodIn wsL_law wsL_areWaysSo := goodIn_ca (goodIn_ca (goodIn_ca (goodIn_ca (goodIn_ca (goodIn_ca (goodIn_ca (goodIn_ca (goodIn_ca ggL_law_L_areWaysSo_r1 (goodIn_app ggL_law_L_areWaysSo_r2 (goodIn_app ggL_law_L_areWaysSo_r3 (goodIn_app ggL_law_L_areWaysSo_r4 (goodIn_app ggL_law_L_areWaysSo_r5 (goodIn_app ggL_law_L_areWaysSo_r6 (goodIn_app ggL_law_L_areWaysSo_r7 (goodIn_app ggL_law_L_areWaysSo_r8 (goodIn_app ggL_law_L_areWaysSo_r9 (goodIn_app ggL_law_L_areWaysSo_r10 (goodIn_app ggL_law_L_areWaysSo_r11 (goodIn_app ggL_law_L_areWaysSo_r12 (goodIn_app ggL_law_L_areWaysSo_r13 (ggL_law_L_areWaysSo_r14)))))))))))))) inlw_wsX90) inlw_wsX10) inlw_wsX70) inlw_wsX00) inlw_wsX60) inlw_wsX80) (goodIn_sub (fun _ h => List.mem_append_left _ (List.mem_append_right _ h)) (by decide +kernel))) (goodIn_sub (fun _ h => List.mem_append_right _ h) (by decide +kernel))
set_option maxRecDepth 20000 in
theorem gL_law_L_areWaysSo : GoodIn wsL_law (va_wsS RL 162 yL_areWaysSo wsL_areWaysSo) := goodIn_app (goodIn_of _ (by decide +kernel)) ggL_law_L_areWaysSo
