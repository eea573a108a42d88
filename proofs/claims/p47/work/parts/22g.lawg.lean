set_option maxRecDepth 20000 in
theorem ggL_law_L_arePossibleSo_r1 : GoodIn wsL_law (.code yL_arePossibleSo cL_arePossibleSo 11 (some .boolean) :: wsL_arePossibleSo_r1) := goodIn_r _ [564, 519, 520, 521, 2, 522, 30, 13, 336, 337, 338, 339, 340, 341, 202, 203, 523, 260, 261, 29, 262, 89, 84, 263, 264] (by decide +kernel) (by decide +kernel)
set_option maxRecDepth 20000 in
theorem ggL_law_L_arePossibleSo_r2 : GoodIn wsL_law wsL_arePossibleSo_r2 := goodIn_r _ [265, 12, 266, 50, 96, 97, 267, 214, 215, 216, 48, 268, 218, 219, 220, 221, 222, 223, 269, 270, 217, 271, 272, 273] (by decide +kernel) (by decide +kernel)
set_option maxRecDepth 20000 in
theorem ggL_law_L_arePossibleSo_r3 : GoodIn wsL_law wsL_arePossibleSo_r3 := goodIn_r _ [274, 211, 212, 275, 276, 277, 278, 85, 81, 86, 82, 87, 88, 524, 525, 526, 527, 528, 399, 400, 401, 440, 441, 442] (by decide +kernel) (by decide +kernel)
set_option maxRecDepth 20000 in
theorem ggL_law_L_arePossibleSo_r4 : GoodIn wsL_law wsL_arePossibleSo_r4 := goodIn_r _ [443, 34, 376, 377, 378, 33, 379, 102, 380, 381, 107, 106, 103, 108, 382, 383, 384, 385, 386, 387, 285, 388, 286, 389] (by decide +kernel) (by decide +kernel)
set_option maxRecDepth 20000 in
theorem ggL_law_L_arePossibleSo_r5 : GoodIn wsL_law wsL_arePossibleSo_r5 := goodIn_r _ [325, 326, 327, 390, 391, 392, 393, 104, 105, 394, 395, 396, 397, 398, 402, 317, 318, 319, 403, 404, 405, 406, 407, 408] (by decide +kernel) (by decide +kernel)
set_option maxRecDepth 20000 in
theorem ggL_law_L_arePossibleSo_r6 : GoodIn wsL_law wsL_arePossibleSo_r6 := goodIn_r _ [444, 429, 430, 431, 565, 566, 567, 568, 569, 570, 571, 572, 316, 237, 238, 95, 573, 574, 575, 576, 577, 578, 579, 580] (by decide +kernel) (by decide +kernel)
set_option maxRecDepth 20000 in
theorem ggL_law_L_arePossibleSo_r7 : GoodIn wsL_law wsL_arePossibleSo_r7 := goodIn_r _ [332, 333, 334, 335, 342, 581, 582, 583, 584, 585, 586, 587, 588, 589, 590, 591, 592, 593, 594, 595, 596, 597, 598, 599] (by decide +kernel) (by decide +kernel)
set_option maxRecDepth 20000 in
theorem ggL_law_L_arePossibleSo_r8 : GoodIn wsL_law wsL_arePossibleSo_r8 := goodIn_r _ [600, 601, 343, 344, 345, 346, 347, 348, 349, 350, 602, 603, 604, 605, 606] (by decide +kernel) (by decide +kernel)
theorem ggL_law_L_arePossibleSo : GoodIn wsL_law wsL_arePossibleSo := goodIn_ca (goodIn_ca (goodIn_ca (goodIn_ca (goodIn_ca (goodIn_ca ggL_law_L_arePossibleSo_r1 (goodIn_app ggL_law_L_arePossibleSo_r2 (goodIn_app ggL_law_L_arePossibleSo_r3 (goodIn_app ggL_law_L_arePossibleSo_r4 (goodIn_app ggL_law_L_arePossibleSo_r5 (goodIn_app ggL_law_L_arePossibleSo_r6 (goodIn_app ggL_law_L_arePossibleSo_r7 (ggL_law_L_arePossibleSo_r8)))))))) inlw_wsX90) inlw_wsX70) inlw_wsX00) inlw_wsX80) (goodIn_sub (fun _ h => List.mem_append_left _ (List.mem_append_right _ h)) (by decide +kernel))
set_option maxRecDepth 20000 in
theorem gL_law_L_arePossibleSo : GoodIn wsL_law (va_wsS RL 159 yL_arePossibleSo wsL_arePossibleSo) := goodIn_app (goodIn_of _ (by decide +kernel)) ggL_law_L_arePossibleSo
