set_option maxRecDepth 20000 in
theorem ggL_law_X10_numberAt : GoodIn wsL_law wsX10_numberAt := goodIn_r _ [784, 134, 408, 409, 410, 5, 411, 206, 207, 208, 209, 210, 211, 212, 1236, 1237, 1238, 1239, 1240, 1241, 1242, 1243, 1244, 1245, 1246, 1247, 1248, 1249, 1250, 1251, 1252, 1253, 1254, 1255, 1256, 1257, 1258, 1259, 1260, 1261] (by decide +kernel) (by decide +kernel)
set_option maxRecDepth 20000 in
theorem gL_law_X10_numberAt : GoodIn wsL_law (wsV RL 167 RX10 yX10_numberAt wsX10_numberAt) := goodIn_app (goodIn_of _ (by decide +kernel)) ggL_law_X10_numberAt
set_option maxRecDepth 20000 in
theorem ggL_law_X9_numbers : GoodIn wsL_law wsX9_numbers := goodIn_r _ [788, 16, 278, 279, 280, 15, 281, 51, 98, 2, 99, 282, 283, 284, 285, 286, 287, 288, 1227, 1228, 1229, 1230, 1231, 1232, 1233, 1234, 1235, 1262, 1263, 1264, 1265] (by decide +kernel) (by decide +kernel)
set_option maxRecDepth 20000 in
theorem gL_law_X9_numbers : GoodIn wsL_law (wsV RL 168 RX9 yX9_numbers wsX9_numbers) := goodIn_app (goodIn_of _ (by decide +kernel)) ggL_law_X9_numbers
set_option maxRecDepth 20000 in
theorem ggL_law_X10_numbers : GoodIn wsL_law wsX10_numbers := goodIn_r _ [792, 206, 360, 361, 362, 5, 363, 134, 368, 369, 370, 371, 372, 373, 1236, 1237, 1238, 1239, 1240, 1241, 1242, 1243, 1244, 1245, 1246, 1247, 1248, 1249, 1250, 1251, 1252, 1253, 1254, 1255, 1256, 1257, 1258, 1259, 1260, 1261] (by decide +kernel) (by decide +kernel)
set_option maxRecDepth 20000 in
theorem gL_law_X10_numbers : GoodIn wsL_law (wsV RL 171 RX10 yX10_numbers wsX10_numbers) := goodIn_app (goodIn_of _ (by decide +kernel)) ggL_law_X10_numbers
set_option maxRecDepth 20000 in
theorem ggL_law_X9_sum : GoodIn wsL_law wsX9_sum := goodIn_r _ [796, 16, 797, 798, 336, 337, 15, 338, 51, 339, 2, 340, 97, 98, 99, 1227, 1228, 1229, 1230, 1231, 1232, 1233, 1234, 1235, 1262, 1263, 1264, 1265] (by decide +kernel) (by decide +kernel)
set_option maxRecDepth 20000 in
theorem gL_law_X9_sum : GoodIn wsL_law (wsV RL 172 RX9 yX9_sum wsX9_sum) := goodIn_app (goodIn_of _ (by decide +kernel)) ggL_law_X9_sum
set_option maxRecDepth 20000 in
theorem ggL_law_X10_sum : GoodIn wsL_law wsX10_sum := goodIn_r _ [802, 206, 803, 804, 805, 5, 806, 134, 1236, 1237, 1238, 1239, 1240, 1241, 1242, 1243, 1244, 1245, 1246, 1247, 1248, 1249, 1250, 1251, 1252, 1253, 1254, 1255, 1256, 1257, 1258, 1259, 1260, 1261] (by decide +kernel) (by decide +kernel)
set_option maxRecDepth 20000 in
theorem gL_law_X10_sum : GoodIn wsL_law (wsV RL 175 RX10 yX10_sum wsX10_sum) := goodIn_app (goodIn_of _ (by decide +kernel)) ggL_law_X10_sum
set_option maxRecDepth 20000 in
theorem ggL_law_L_isInField : GoodIn wsL_law wsL_isInField := goodIn_ca (goodIn_r _ [809, 157, 810, 811, 812, 2, 813, 16, 168, 169, 170, 171, 172, 173, 174, 175, 176, 177, 178, 15, 179, 53, 180, 181, 1227, 1228, 1229, 1230, 1231, 1232, 1233, 1234, 1235, 1262, 1263, 1264, 1265] (by decide +kernel) (by decide +kernel)) (goodIn_sub (fun _ h => List.mem_append_right _ h) (by decide +kernel))
set_option maxRecDepth 20000 in
theorem gL_law_L_isInField : GoodIn wsL_law (va_wsS RL 176 yL_isInField wsL_isInField) := goodIn_app (goodIn_of _ (by decide +kernel)) ggL_law_L_isInField
set_option maxRecDepth 20000 in
theorem ggL_law_X10_isInField : GoodIn wsL_law wsX10_isInField := goodIn_r _ [817, 134, 408, 409, 410, 5, 411, 206, 207, 208, 209, 210, 211, 212, 1236, 1237, 1238, 1239, 1240, 1241, 1242, 1243, 1244, 1245, 1246, 1247, 1248, 1249, 1250, 1251, 1252, 1253, 1254, 1255, 1256, 1257, 1258, 1259, 1260, 1261] (by decide +kernel) (by decide +kernel)
set_option maxRecDepth 20000 in
theorem gL_law_X10_isInField : GoodIn wsL_law (wsV RL 178 RX10 yX10_isInField wsX10_isInField) := goodIn_app (goodIn_of _ (by decide +kernel)) ggL_law_X10_isInField
set_option maxRecDepth 20000 in
theorem ggL_law_L_fieldSize : GoodIn wsL_law wsL_fieldSize := goodIn_ca (goodIn_ca (goodIn_r _ [820, 157, 159, 821, 822, 823, 2, 824, 16, 388, 389, 390, 391, 166, 167, 168, 169, 170, 171, 172, 173, 174, 175, 176, 177, 178, 15, 179, 53, 180, 181, 392, 393, 394, 395, 54, 55, 254, 255, 256, 257, 258, 259, 260, 261, 1227, 1228, 1229, 1230, 1231, 1232, 1233, 1234, 1235, 1262, 1263, 1264, 1265] (by decide +kernel) (by decide +kernel)) (goodIn_sub (fun _ h => List.mem_append_left _ (List.mem_append_right _ h)) (by decide +kernel))) (goodIn_sub (fun _ h => List.mem_append_right _ h) (by decide +kernel))
set_option maxRecDepth 20000 in
theorem gL_law_L_fieldSize : GoodIn wsL_law (va_wsS RL 179 yL_fieldSize wsL_fieldSize) := goodIn_app (goodIn_of _ (by decide +kernel)) ggL_law_L_fieldSize
set_option maxRecDepth 20000 in
theorem ggL_law_X10_fieldSize : GoodIn wsL_law wsX10_fieldSize := goodIn_r _ [828, 408, 409, 410, 5, 411, 134, 206, 207, 208, 209, 210, 211, 212, 412, 413, 414, 415, 368, 369, 370, 371, 372, 373, 1236, 1237, 1238, 1239, 1240, 1241, 1242, 1243, 1244, 1245, 1246, 1247, 1248, 1249, 1250, 1251, 1252, 1253, 1254, 1255, 1256, 1257, 1258, 1259, 1260, 1261] (by decide +kernel) (by decide +kernel)
set_option maxRecDepth 20000 in
theorem gL_law_X10_fieldSize : GoodIn wsL_law (wsV RL 181 RX10 yX10_fieldSize wsX10_fieldSize) := goodIn_app (goodIn_of _ (by decide +kernel)) ggL_law_X10_fieldSize
set_option maxRecDepth 20000 in
theorem ggL_law_L_cornerOf : GoodIn wsL_law wsL_cornerOf := goodIn_ca (goodIn_ca (goodIn_r _ [831, 157, 159, 832, 833, 834, 2, 835, 16, 388, 389, 390, 391, 166, 167, 168, 169, 170, 171, 172, 173, 174, 175, 176, 177, 178, 15, 179, 53, 180, 181, 836, 401, 402, 403, 54, 1227, 1228, 1229, 1230, 1231, 1232, 1233, 1234, 1235, 1262, 1263, 1264, 1265] (by decide +kernel) (by decide +kernel)) (goodIn_sub (fun _ h => List.mem_append_left _ (List.mem_append_right _ h)) (by decide +kernel))) (goodIn_sub (fun _ h => List.mem_append_right _ h) (by decide +kernel))
set_option maxRecDepth 20000 in
theorem gL_law_L_cornerOf : GoodIn wsL_law (va_wsS RL 182 yL_cornerOf wsL_cornerOf) := goodIn_app (goodIn_of _ (by decide +kernel)) ggL_law_L_cornerOf
set_option maxRecDepth 20000 in
theorem ggL_law_X10_cornerOf : GoodIn wsL_law wsX10_cornerOf := goodIn_r _ [840, 134, 408, 409, 410, 5, 411, 206, 207, 208, 209, 210, 211, 212, 1236, 1237, 1238, 1239, 1240, 1241, 1242, 1243, 1244, 1245, 1246, 1247, 1248, 1249, 1250, 1251, 1252, 1253, 1254, 1255, 1256, 1257, 1258, 1259, 1260, 1261] (by decide +kernel) (by decide +kernel)
set_option maxRecDepth 20000 in
theorem gL_law_X10_cornerOf : GoodIn wsL_law (wsV RL 184 RX10 yX10_cornerOf wsX10_cornerOf) := goodIn_app (goodIn_of _ (by decide +kernel)) ggL_law_X10_cornerOf
set_option maxRecDepth 20000 in
theorem ggL_law_X9_fields : GoodIn wsL_law wsX9_fields := goodIn_r _ [844, 16, 420, 421, 422, 15, 423, 424, 425, 426, 427, 53, 54, 180, 2, 181, 1227, 1228, 1229, 1230, 1231, 1232, 1233, 1234, 1235, 1262, 1263, 1264, 1265] (by decide +kernel) (by decide +kernel)
set_option maxRecDepth 20000 in
theorem gL_law_X9_fields : GoodIn wsL_law (wsV RL 185 RX9 yX9_fields wsX9_fields) := goodIn_app (goodIn_of _ (by decide +kernel)) ggL_law_X9_fields
set_option maxRecDepth 20000 in
theorem ggL_law_X10_fields : GoodIn wsL_law wsX10_fields := goodIn_r _ [848, 206, 433, 434, 435, 5, 436, 134, 1236, 1237, 1238, 1239, 1240, 1241, 1242, 1243, 1244, 1245, 1246, 1247, 1248, 1249, 1250, 1251, 1252, 1253, 1254, 1255, 1256, 1257, 1258, 1259, 1260, 1261] (by decide +kernel) (by decide +kernel)
set_option maxRecDepth 20000 in
theorem gL_law_X10_fields : GoodIn wsL_law (wsV RL 188 RX10 yX10_fields wsX10_fields) := goodIn_app (goodIn_of _ (by decide +kernel)) ggL_law_X10_fields
set_option maxRecDepth 20000 in
theorem ggL_law_X9_openCells : GoodIn wsL_law wsX9_openCells := goodIn_r _ [852, 853, 854, 855, 2, 856, 16, 345, 332, 333, 15, 334, 53, 98, 99, 282, 283, 284, 285, 286, 287, 288, 1227, 1228, 1229, 1230, 1231, 1232, 1233, 1234, 1235, 1262, 1263, 1264, 1265] (by decide +kernel) (by decide +kernel)
set_option maxRecDepth 20000 in
theorem gL_law_X9_openCells : GoodIn wsL_law (wsV RL 189 RX9 yX9_openCells wsX9_openCells) := goodIn_app (goodIn_of _ (by decide +kernel)) ggL_law_X9_openCells
set_option maxRecDepth 20000 in
theorem ggL_law_X10_openCells : GoodIn wsL_law wsX10_openCells := goodIn_r _ [860, 206, 364, 365, 366, 5, 367, 134, 368, 369, 370, 371, 372, 373, 1236, 1237, 1238, 1239, 1240, 1241, 1242, 1243, 1244, 1245, 1246, 1247, 1248, 1249, 1250, 1251, 1252, 1253, 1254, 1255, 1256, 1257, 1258, 1259, 1260, 1261] (by decide +kernel) (by decide +kernel)
set_option maxRecDepth 20000 in
theorem gL_law_X10_openCells : GoodIn wsL_law (wsV RL 192 RX10 yX10_openCells wsX10_openCells) := goodIn_app (goodIn_of _ (by decide +kernel)) ggL_law_X10_openCells
