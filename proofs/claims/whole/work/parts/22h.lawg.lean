set_option maxRecDepth 20000 in
theorem ggL_law_X9_isFull : GoodIn wsL_law wsX9_isFull := goodIn_r _ [864, 16, 797, 345, 332, 333, 15, 334, 53, 98, 2, 99, 1227, 1228, 1229, 1230, 1231, 1232, 1233, 1234, 1235, 1262, 1263, 1264, 1265] (by decide +kernel) (by decide +kernel)
set_option maxRecDepth 20000 in
theorem gL_law_X9_isFull : GoodIn wsL_law (wsV RL 193 RX9 yX9_isFull wsX9_isFull) := goodIn_app (goodIn_of _ (by decide +kernel)) ggL_law_X9_isFull
set_option maxRecDepth 20000 in
theorem ggL_law_X10_isFull : GoodIn wsL_law wsX10_isFull := goodIn_r _ [868, 206, 543, 364, 365, 366, 5, 367, 134, 1236, 1237, 1238, 1239, 1240, 1241, 1242, 1243, 1244, 1245, 1246, 1247, 1248, 1249, 1250, 1251, 1252, 1253, 1254, 1255, 1256, 1257, 1258, 1259, 1260, 1261] (by decide +kernel) (by decide +kernel)
set_option maxRecDepth 20000 in
theorem gL_law_X10_isFull : GoodIn wsL_law (wsV RL 197 RX10 yX10_isFull wsX10_isFull) := goodIn_app (goodIn_of _ (by decide +kernel)) ggL_law_X10_isFull
set_option maxRecDepth 20000 in
theorem ggL_law_L_reasonAgainst : GoodIn wsL_law wsL_reasonAgainst := goodIn_ca (goodIn_r _ [871, 157, 872, 873, 874, 2, 875, 16, 322, 323, 324, 171, 172, 173, 174, 175, 325, 326, 327, 15, 328, 92, 93, 94, 95, 96, 97, 98, 99, 329, 279, 280, 281, 51, 330, 283, 284, 285, 286, 287, 288, 331, 332, 333, 334, 53, 335, 336, 337, 338, 339, 340, 254, 255, 256, 257, 258, 259, 260, 261, 1227, 1228, 1229, 1230, 1231, 1232, 1233, 1234, 1235, 1262, 1263, 1264, 1265] (by decide +kernel) (by decide +kernel)) (goodIn_sub (fun _ h => List.mem_append_right _ h) (by decide +kernel))
set_option maxRecDepth 20000 in
theorem gL_law_L_reasonAgainst : GoodIn wsL_law (va_wsS RL 198 yL_reasonAgainst wsL_reasonAgainst) := goodIn_app (goodIn_of _ (by decide +kernel)) ggL_law_L_reasonAgainst
set_option maxRecDepth 20000 in
theorem ggL_law_X10_reasonAgainst : GoodIn wsL_law wsX10_reasonAgainst := goodIn_r _ [879, 206, 350, 351, 5, 352, 207, 208, 209, 210, 211, 212, 353, 354, 355, 356, 357, 358, 359, 134, 360, 361, 362, 363, 364, 365, 366, 367, 368, 369, 370, 371, 372, 373, 374, 375, 376, 294, 295, 296, 297, 1236, 1237, 1238, 1239, 1240, 1241, 1242, 1243, 1244, 1245, 1246, 1247, 1248, 1249, 1250, 1251, 1252, 1253, 1254, 1255, 1256, 1257, 1258, 1259, 1260, 1261] (by decide +kernel) (by decide +kernel)
set_option maxRecDepth 20000 in
theorem gL_law_X10_reasonAgainst : GoodIn wsL_law (wsV RL 200 RX10 yX10_reasonAgainst wsX10_reasonAgainst) := goodIn_app (goodIn_of _ (by decide +kernel)) ggL_law_X10_reasonAgainst
set_option maxRecDepth 20000 in
theorem ggL_law_L_possibleFor : GoodIn wsL_law wsL_possibleFor := goodIn_ca (goodIn_r _ [882, 157, 883, 884, 885, 2, 886, 33, 16, 168, 169, 170, 171, 172, 173, 174, 175, 887, 455, 456, 32, 457, 91, 86, 458, 332, 333, 15, 334, 53, 98, 99, 459, 279, 280, 281, 51, 460, 283, 284, 285, 286, 287, 288, 461, 462, 282, 463, 195, 196, 197, 180, 181, 464, 465, 466, 467, 87, 84, 88, 85, 89, 90, 888, 889, 890, 891, 892, 487, 488, 489, 1227, 1228, 1229, 1230, 1231, 1232, 1233, 1234, 1235, 1276, 1277, 1278, 1279, 1280, 1281, 1282, 1283, 1262, 1263, 1264, 1265] (by decide +kernel) (by decide +kernel)) (goodIn_sub (fun _ h => List.mem_append_right _ h) (by decide +kernel))
set_option maxRecDepth 20000 in
theorem gL_law_L_possibleFor : GoodIn wsL_law (va_wsS RL 201 yL_possibleFor wsL_possibleFor) := goodIn_app (goodIn_of _ (by decide +kernel)) ggL_law_L_possibleFor
set_option maxRecDepth 20000 in
theorem ggL_law_X10_possibleFor : GoodIn wsL_law wsX10_possibleFor := goodIn_r _ [896, 408, 409, 410, 5, 411, 134, 206, 207, 208, 209, 210, 211, 212, 531, 532, 533, 534, 525, 142, 360, 361, 362, 363, 364, 365, 366, 367, 535, 536, 537, 538, 139, 140, 141, 353, 354, 355, 897, 898, 899, 900, 1236, 1237, 1238, 1239, 1240, 1241, 1242, 1243, 1244, 1245, 1246, 1247, 1248, 1249, 1250, 1251, 1252, 1253, 1254, 1255, 1256, 1257, 1258, 1259, 1260, 1261] (by decide +kernel) (by decide +kernel)
set_option maxRecDepth 20000 in
theorem gL_law_X10_possibleFor : GoodIn wsL_law (wsV RL 203 RX10 yX10_possibleFor wsX10_possibleFor) := goodIn_app (goodIn_of _ (by decide +kernel)) ggL_law_X10_possibleFor
set_option maxRecDepth 20000 in
theorem ggL_law_L_possibleAt : GoodIn wsL_law wsL_possibleAt := goodIn_ca (goodIn_r _ [903, 157, 904, 905, 906, 2, 907, 171, 172, 33, 16, 168, 169, 170, 173, 174, 175, 887, 455, 456, 32, 457, 91, 86, 458, 332, 333, 15, 334, 53, 98, 99, 459, 279, 280, 281, 51, 460, 283, 284, 285, 286, 287, 288, 461, 462, 282, 463, 195, 196, 197, 180, 181, 464, 465, 466, 467, 87, 84, 88, 85, 89, 90, 888, 889, 890, 891, 892, 487, 488, 489, 908, 909, 910, 911, 912, 913, 914, 915, 916, 513, 514, 515, 917, 517, 518, 519, 1227, 1228, 1229, 1230, 1231, 1232, 1233, 1234, 1235, 1276, 1277, 1278, 1279, 1280, 1281, 1282, 1283, 1262, 1263, 1264, 1265] (by decide +kernel) (by decide +kernel)) (goodIn_sub (fun _ h => List.mem_append_right _ h) (by decide +kernel))
set_option maxRecDepth 20000 in
theorem gL_law_L_possibleAt : GoodIn wsL_law (va_wsS RL 204 yL_possibleAt wsL_possibleAt) := goodIn_app (goodIn_of _ (by decide +kernel)) ggL_law_L_possibleAt
set_option maxRecDepth 20000 in
theorem ggL_law_X10_possibleAt : GoodIn wsL_law wsX10_possibleAt := goodIn_r _ [921, 525, 140, 141, 408, 409, 410, 5, 411, 134, 206, 207, 208, 209, 210, 211, 212, 531, 532, 533, 534, 142, 360, 361, 362, 363, 364, 365, 366, 367, 535, 536, 537, 538, 139, 353, 354, 355, 294, 295, 296, 297, 1236, 1237, 1238, 1239, 1240, 1241, 1242, 1243, 1244, 1245, 1246, 1247, 1248, 1249, 1250, 1251, 1252, 1253, 1254, 1255, 1256, 1257, 1258, 1259, 1260, 1261] (by decide +kernel) (by decide +kernel)
set_option maxRecDepth 20000 in
theorem gL_law_X10_possibleAt : GoodIn wsL_law (wsV RL 206 RX10 yX10_possibleAt wsX10_possibleAt) := goodIn_app (goodIn_of _ (by decide +kernel)) ggL_law_X10_possibleAt
set_option maxRecDepth 20000 in
theorem ggL_law_L_coveredBy : GoodIn wsL_law wsL_coveredBy := goodIn_ca (goodIn_r _ [924, 157, 925, 926, 927, 2, 928, 33, 16, 168, 169, 170, 171, 172, 173, 174, 175, 887, 455, 456, 32, 457, 91, 86, 458, 332, 333, 15, 334, 53, 98, 99, 459, 279, 280, 281, 51, 460, 283, 284, 285, 286, 287, 288, 461, 462, 282, 463, 195, 196, 197, 180, 181, 464, 465, 466, 467, 87, 84, 88, 85, 89, 90, 929, 930, 931, 932, 605, 491, 492, 493, 339, 340, 97, 1227, 1228, 1229, 1230, 1231, 1232, 1233, 1234, 1235, 1276, 1277, 1278, 1279, 1280, 1281, 1282, 1283, 1262, 1263, 1264, 1265] (by decide +kernel) (by decide +kernel)) (goodIn_sub (fun _ h => List.mem_append_right _ h) (by decide +kernel))
set_option maxRecDepth 20000 in
theorem gL_law_L_coveredBy : GoodIn wsL_law (va_wsS RL 207 yL_coveredBy wsL_coveredBy) := goodIn_app (goodIn_of _ (by decide +kernel)) ggL_law_L_coveredBy
set_option maxRecDepth 20000 in
theorem ggL_law_X10_coveredBy : GoodIn wsL_law wsX10_coveredBy := goodIn_r _ [936, 408, 409, 410, 5, 411, 134, 206, 207, 208, 209, 210, 211, 212, 531, 532, 533, 534, 525, 142, 360, 361, 362, 363, 364, 365, 366, 367, 535, 536, 537, 538, 139, 140, 141, 353, 354, 355, 937, 938, 939, 940, 371, 372, 373, 1236, 1237, 1238, 1239, 1240, 1241, 1242, 1243, 1244, 1245, 1246, 1247, 1248, 1249, 1250, 1251, 1252, 1253, 1254, 1255, 1256, 1257, 1258, 1259, 1260, 1261] (by decide +kernel) (by decide +kernel)
set_option maxRecDepth 20000 in
theorem gL_law_X10_coveredBy : GoodIn wsL_law (wsV RL 209 RX10 yX10_coveredBy wsX10_coveredBy) := goodIn_app (goodIn_of _ (by decide +kernel)) ggL_law_X10_coveredBy
set_option maxRecDepth 20000 in
theorem ggL_law_L_claimedBy : GoodIn wsL_law wsL_claimedBy := goodIn_ca (goodIn_r _ [943, 157, 944, 945, 946, 2, 947, 33, 16, 168, 169, 170, 171, 172, 173, 174, 175, 887, 455, 456, 32, 457, 91, 86, 458, 332, 333, 15, 334, 53, 98, 99, 459, 279, 280, 281, 51, 460, 283, 284, 285, 286, 287, 288, 461, 462, 282, 463, 195, 196, 197, 180, 181, 464, 465, 466, 467, 87, 84, 88, 85, 89, 90, 948, 949, 950, 951, 605, 491, 492, 493, 339, 340, 97, 892, 487, 488, 489, 1227, 1228, 1229, 1230, 1231, 1232, 1233, 1234, 1235, 1276, 1277, 1278, 1279, 1280, 1281, 1282, 1283, 1262, 1263, 1264, 1265] (by decide +kernel) (by decide +kernel)) (goodIn_sub (fun _ h => List.mem_append_right _ h) (by decide +kernel))
set_option maxRecDepth 20000 in
theorem gL_law_L_claimedBy : GoodIn wsL_law (va_wsS RL 210 yL_claimedBy wsL_claimedBy) := goodIn_app (goodIn_of _ (by decide +kernel)) ggL_law_L_claimedBy
set_option maxRecDepth 20000 in
theorem ggL_law_X10_claimedBy : GoodIn wsL_law wsX10_claimedBy := goodIn_r _ [955, 408, 409, 410, 5, 411, 134, 206, 207, 208, 209, 210, 211, 212, 531, 532, 533, 534, 525, 142, 360, 361, 362, 363, 364, 365, 366, 367, 535, 536, 537, 538, 139, 140, 141, 353, 354, 355, 956, 957, 958, 959, 371, 372, 373, 368, 369, 370, 1236, 1237, 1238, 1239, 1240, 1241, 1242, 1243, 1244, 1245, 1246, 1247, 1248, 1249, 1250, 1251, 1252, 1253, 1254, 1255, 1256, 1257, 1258, 1259, 1260, 1261] (by decide +kernel) (by decide +kernel)
set_option maxRecDepth 20000 in
theorem gL_law_X10_claimedBy : GoodIn wsL_law (wsV RL 212 RX10 yX10_claimedBy wsX10_claimedBy) := goodIn_app (goodIn_of _ (by decide +kernel)) ggL_law_X10_claimedBy
set_option maxRecDepth 20000 in
theorem ggL_law_X9_possible : GoodIn wsL_law wsX9_possible := goodIn_r _ [963, 33, 16, 887, 455, 456, 32, 457, 91, 86, 458, 332, 333, 15, 334, 53, 98, 2, 99, 459, 279, 280, 281, 51, 460, 283, 284, 285, 286, 287, 288, 461, 462, 282, 463, 195, 196, 197, 180, 181, 464, 465, 466, 467, 87, 84, 88, 85, 89, 90, 964, 475, 476, 477, 1227, 1228, 1229, 1230, 1231, 1232, 1233, 1234, 1235, 1276, 1277, 1278, 1279, 1280, 1281, 1282, 1283, 1262, 1263, 1264, 1265] (by decide +kernel) (by decide +kernel)
set_option maxRecDepth 20000 in
theorem gL_law_X9_possible : GoodIn wsL_law (wsV RL 213 RX9 yX9_possible wsX9_possible) := goodIn_app (goodIn_of _ (by decide +kernel)) ggL_law_X9_possible
set_option maxRecDepth 20000 in
theorem ggL_law_X10_possible : GoodIn wsL_law wsX10_possible := goodIn_r _ [968, 206, 525, 531, 532, 533, 5, 534, 142, 134, 360, 361, 362, 363, 364, 365, 366, 367, 535, 536, 537, 538, 139, 140, 141, 353, 354, 355, 1236, 1237, 1238, 1239, 1240, 1241, 1242, 1243, 1244, 1245, 1246, 1247, 1248, 1249, 1250, 1251, 1252, 1253, 1254, 1255, 1256, 1257, 1258, 1259, 1260, 1261] (by decide +kernel) (by decide +kernel)
set_option maxRecDepth 20000 in
theorem gL_law_X10_possible : GoodIn wsL_law (wsV RL 216 RX10 yX10_possible wsX10_possible) := goodIn_app (goodIn_of _ (by decide +kernel)) ggL_law_X10_possible
set_option maxRecDepth 20000 in
theorem ggL_law_X9_rounds : GoodIn wsL_law wsX9_rounds := goodIn_r _ [972, 37, 16, 448, 449, 450, 36, 451, 104, 452, 453, 109, 108, 105, 110, 454, 455, 456, 32, 457, 91, 86, 458, 332, 333, 15, 334, 53, 98, 2, 99, 459, 279, 280, 281, 51, 460, 283, 284, 285, 286, 287, 288, 461, 462, 282, 463, 195, 196, 197, 180, 181, 464, 465, 466, 467, 87, 84, 88, 85, 89, 90, 468, 469, 470, 471, 472, 473, 329, 331, 474, 475, 476, 477, 478, 479, 480, 481, 106, 107, 482, 483, 484, 485, 486, 487, 488, 489, 490, 491, 492, 493, 494, 495, 496, 497, 498, 499, 973, 974, 975, 976, 1227, 1228, 1229, 1230, 1231, 1232, 1233, 1234, 1235, 1284, 1285, 1286, 1287, 1288, 1289, 1290, 1276, 1277, 1278, 1279, 1280, 1281, 1282, 1283, 1262, 1263, 1264, 1265] (by decide +kernel) (by decide +kernel)
set_option maxRecDepth 20000 in
theorem gL_law_X9_rounds : GoodIn wsL_law (wsV RL 217 RX9 yX9_rounds wsX9_rounds) := goodIn_app (goodIn_of _ (by decide +kernel)) ggL_law_X9_rounds
