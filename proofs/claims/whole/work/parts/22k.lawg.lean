set_option maxRecDepth 20000 in
theorem ggL_law_X9_digest_r1 : GoodIn wsL_law (.code yX9_digest cX9_digest 3 (some .long) :: wsX9_digest_r1) := goodIn_r _ [1166, 1167, 1168, 1169, 37, 16, 21, 25, 1170, 1171, 1172, 1173, 11, 12, 1174, 1175, 448, 449, 450, 36, 451, 104, 452, 453, 109] (by decide +kernel) (by decide +kernel)
set_option maxRecDepth 20000 in
theorem ggL_law_X9_digest_r2 : GoodIn wsL_law wsX9_digest_r2 := goodIn_r _ [108, 105, 110, 454, 455, 456, 32, 457, 91, 86, 458, 332, 333, 15, 334, 53, 98, 2, 99, 459, 279, 280, 281, 51] (by decide +kernel) (by decide +kernel)
set_option maxRecDepth 20000 in
theorem ggL_law_X9_digest_r3 : GoodIn wsL_law wsX9_digest_r3 := goodIn_r _ [460, 283, 284, 285, 286, 287, 288, 461, 462, 282, 463, 195, 196, 197, 180, 181, 464, 465, 466, 467, 87, 84, 88, 85] (by decide +kernel) (by decide +kernel)
set_option maxRecDepth 20000 in
theorem ggL_law_X9_digest_r4 : GoodIn wsL_law wsX9_digest_r4 := goodIn_r _ [89, 90, 468, 469, 470, 471, 472, 473, 329, 331, 474, 475, 476, 477, 478, 479, 480, 481, 106, 107, 482, 483, 484, 485] (by decide +kernel) (by decide +kernel)
set_option maxRecDepth 20000 in
theorem ggL_law_X9_digest_r5 : GoodIn wsL_law wsX9_digest_r5 := goodIn_r _ [486, 487, 488, 489, 490, 491, 492, 493, 494, 495, 496, 497, 498, 499, 1176, 1177, 1178, 1179, 33, 176, 177, 178, 179, 194] (by decide +kernel) (by decide +kernel)
set_option maxRecDepth 20000 in
theorem ggL_law_X9_digest_r6 : GoodIn wsL_law wsX9_digest_r6 := goodIn_r _ [1180, 1181, 1182, 1183, 1184, 392, 393, 394, 395, 54, 55, 254, 255, 256, 257, 258, 259, 260, 261, 836, 401, 402, 403, 888] (by decide +kernel) (by decide +kernel)
