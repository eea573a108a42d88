set_option maxRecDepth 20000 in
theorem ggL_law_X9_digest_r7 : GoodIn wsL_law wsX9_digest_r7 := goodIn_r _ [889, 890, 891, 892, 964, 1185, 912, 913, 914, 915, 916, 513, 514, 515, 917, 517, 518, 519, 929, 930, 931, 932, 605, 339] (by decide +kernel) (by decide +kernel)
set_option maxRecDepth 20000 in
theorem ggL_law_X9_digest_r8 : GoodIn wsL_law wsX9_digest_r8 := goodIn_r _ [340, 97, 948, 949, 950, 951, 1004, 509, 510, 511, 1186, 1187, 1188, 1189, 797, 278, 798, 336, 337, 338, 420, 421, 422, 423] (by decide +kernel) (by decide +kernel)
set_option maxRecDepth 20000 in
theorem ggL_law_X9_digest_r9 : GoodIn wsL_law wsX9_digest_r9 := goodIn_r _ [424, 425, 426, 427, 853, 854, 855, 856, 345, 973, 974, 975, 976, 985, 986, 987, 988, 500, 501, 502, 503, 1039, 1040, 1041] (by decide +kernel) (by decide +kernel)
set_option maxRecDepth 20000 in
theorem ggL_law_X9_digest_r10 : GoodIn wsL_law wsX9_digest_r10 := goodIn_r _ [1042, 508, 1024, 1025, 1026, 1027, 1190, 1191, 1192, 1193, 41, 45, 1055, 1056, 1057, 40, 1058, 115, 117, 118, 1059, 1060, 1061, 583] (by decide +kernel) (by decide +kernel)
set_option maxRecDepth 20000 in
theorem ggL_law_X9_digest_r11 : GoodIn wsL_law wsX9_digest_r11 := goodIn_r _ [584, 585, 586, 335, 330, 1062, 1063, 1064, 1065, 1066, 1067, 1068, 1069, 602, 603, 604, 1070, 1071, 1072, 1073, 116, 1074, 1075, 1076] (by decide +kernel) (by decide +kernel)
set_option maxRecDepth 20000 in
theorem ggL_law_X9_digest_r12 : GoodIn wsL_law wsX9_digest_r12 := goodIn_r _ [1077, 1078, 1079, 1080, 1081, 1082, 1083, 1084, 576, 577, 578, 44, 579, 123, 126, 127, 128, 580, 581, 191, 192, 193, 582, 587] (by decide +kernel) (by decide +kernel)
