set_option maxRecDepth 20000 in
theorem ggL_law_L_does_r11 : GoodIn wsL_law wsL_does_r11 := goodIn_r _ [309, 310, 311, 93, 94, 312, 313, 314, 315, 316, 317, 318, 319, 320, 321, 322, 323, 324, 325, 326, 327, 328, 358, 359] (by decide +kernel) (by decide +kernel)
set_option maxRecDepth 20000 in
theorem ggL_law_L_does_r12 : GoodIn wsL_law wsL_does_r12 := goodIn_r _ [360, 361, 362, 363, 364, 365, 366, 367, 368, 369, 370, 371, 372, 373, 374, 375, 34, 376, 377, 378, 33, 379, 102, 380] (by decide +kernel) (by decide +kernel)
set_option maxRecDepth 20000 in
theorem ggL_law_L_does_r13 : GoodIn wsL_law wsL_does_r13 := goodIn_r _ [381, 107, 106, 103, 108, 382, 383, 384, 385, 386, 387, 388, 389, 390, 391, 392, 393, 104, 105, 394, 395, 396, 397, 398] (by decide +kernel) (by decide +kernel)
set_option maxRecDepth 20000 in
theorem ggL_law_L_does_r14 : GoodIn wsL_law wsL_does_r14 := goodIn_r _ [399, 400, 401, 402, 403, 404, 405, 406, 407, 408, 409, 410, 411, 412, 413, 414, 415, 416, 417, 418, 419, 420, 421, 422] (by decide +kernel) (by decide +kernel)
set_option maxRecDepth 20000 in
theorem ggL_law_L_does_r15 : GoodIn wsL_law wsL_does_r15 := goodIn_r _ [423, 424, 425, 426, 427, 428, 429, 430, 431, 432, 433, 434, 435, 436, 437, 438, 439, 440, 441, 442, 443, 444, 445, 446] (by decide +kernel) (by decide +kernel)
set_option maxRecDepth 20000 in
theorem ggL_law_L_does_r16 : GoodIn wsL_law wsL_does_r16 := goodIn_r _ [447, 448, 449, 450, 451, 452, 453, 454, 455, 456, 457, 458, 459, 460, 461, 462, 463, 464, 465, 466, 467, 468, 469, 470] (by decide +kernel) (by decide +kernel)
set_option maxRecDepth 20000 in
theorem ggL_law_L_does_r17 : GoodIn wsL_law wsL_does_r17 := goodIn_r _ [471, 472, 473, 474, 475, 476, 477, 478, 479, 480, 481, 482, 483, 484, 485, 486, 487, 488, 489, 490, 491, 492, 493, 494] (by decide +kernel) (by decide +kernel)
set_option maxRecDepth 20000 in
theorem ggL_law_L_does_r18 : GoodIn wsL_law wsL_does_r18 := goodIn_r _ [495, 496, 497, 498, 499, 500, 501, 502, 503, 504, 505, 506, 507, 508, 509, 510, 511, 512, 513, 514, 515, 516, 517, 518] (by decide +kernel) (by decide +kernel)
set_option maxRecDepth 20000 in
theorem ggL_law_L_does_r19 : GoodIn wsL_law wsL_does_r19 := goodIn_r _ [519, 520, 521, 522, 30, 523, 524, 525, 526, 527, 528, 529, 530, 531, 532, 533, 534, 535, 536, 537, 538, 539, 540, 541] (by decide +kernel) (by decide +kernel)
set_option maxRecDepth 20000 in
theorem ggL_law_L_does_r20 : GoodIn wsL_law wsL_does_r20 := goodIn_r _ [542, 543, 544, 545, 546, 547, 548, 549, 550, 551, 552, 553, 90, 91, 92, 554, 555, 556, 557, 558] (by decide +kernel) (by decide +kernel)
theorem ggL_law_L_does : GoodIn wsL_law wsL_does := goodIn_ca (goodIn_ca (goodIn_ca (goodIn_ca (goodIn_ca (goodIn_ca (goodIn_ca (goodIn_ca (goodIn_ca (goodIn_ca (goodIn_ca ggL_law_L_does_r1 (goodIn_app ggL_law_L_does_r2 (goodIn_app ggL_law_L_does_r3 (goodIn_app ggL_law_L_does_r4 (goodIn_app ggL_law_L_does_r5 (goodIn_app ggL_law_L_does_r6 (goodIn_app ggL_law_L_does_r7 (goodIn_app ggL_law_L_does_r8 (goodIn_app ggL_law_L_does_r9 (goodIn_app ggL_law_L_does_r10 (goodIn_app ggL_law_L_does_r11 (goodIn_app ggL_law_L_does_r12 (goodIn_app ggL_law_L_does_r13 (goodIn_app ggL_law_L_does_r14 (goodIn_app ggL_law_L_does_r15 (goodIn_app ggL_law_L_does_r16 (goodIn_app ggL_law_L_does_r17 (goodIn_app ggL_law_L_does_r18 (goodIn_app ggL_law_L_does_r19 (ggL_law_L_does_r20)))))))))))))))))))) inlw_wsX90) inlw_wsX00) inlw_wsX30) inlw_wsX50) inlw_wsX10) inlw_wsX70) inlw_wsX80) (goodIn_sub (fun _ h => List.mem_append_left _ (List.mem_append_right _ h)) (by decide +kernel))) (goodIn_sub (fun _ h => List.mem_append_left _ (List.mem_append_left _ (List.mem_append_right _ h))) (by decide +kernel))) (goodIn_sub (fun _ h => List.mem_append_right _ h) (by decide +kernel))
set_option maxRecDepth 20000 in
theorem gL_law_L_does : GoodIn wsL_law (va_wsS RL 153 yL_does wsL_does) := goodIn_app (goodIn_of _ (by decide +kernel)) ggL_law_L_does
set_option maxRecDepth 20000 in
theorem ggL_law_L_areFieldsSo : GoodIn wsL_law wsL_areFieldsSo := goodIn_ca (goodIn_ca (goodIn_r _ [561, 332, 333, 334, 2, 335, 13, 336, 337, 338, 339, 340, 341, 202, 203, 342, 272, 273, 12, 274, 48, 211, 212, 343, 344, 345, 346, 347, 348, 349, 350, 50, 500, 501, 502, 503, 496, 497, 498, 499, 355, 356, 479, 480, 481, 482, 51, 492, 493, 494, 495, 471, 472, 473, 474, 52, 182, 183, 184, 185, 186, 187, 188, 189, 519, 520, 521, 522, 30, 523, 260, 261, 29, 262, 89, 84, 263, 264, 265, 266, 96, 97, 267, 214, 215, 216, 268, 218, 219, 220, 221, 222, 223, 269, 270, 217, 271, 275, 276, 277, 278, 85, 81, 86, 82, 87, 88, 524, 525, 526, 527, 528, 399, 400, 401, 363, 364, 365, 366, 367, 368, 369, 370, 371, 239, 240, 241, 242, 243, 244, 245, 246, 247, 248, 249, 250, 224, 225, 226, 227, 213, 228, 229, 230, 231, 232, 233, 234, 235, 236, 237, 238, 95, 488, 489, 490, 491, 656, 657, 658, 659, 660, 661, 662, 663, 664, 665, 666, 667, 668, 679, 680, 681, 682, 683, 684, 685, 686] (by decide +kernel) (by decide +kernel)) (goodIn_sub (fun _ h => List.mem_append_left _ (List.mem_append_right _ h)) (by decide +kernel))) (goodIn_sub (fun _ h => List.mem_append_right _ h) (by decide +kernel))
set_option maxRecDepth 20000 in
theorem gL_law_L_areFieldsSo : GoodIn wsL_law (va_wsS RL 156 yL_areFieldsSo wsL_areFieldsSo) := goodIn_app (goodIn_of _ (by decide +kernel)) ggL_law_L_areFieldsSo
