set_option maxRecDepth 20000 in
theorem ggL_law_X9_clearBuffer : GoodIn wsL_law wsX9_clearBuffer := goodIn_r _ [652, 25, 636, 637, 638, 24, 639, 71, 653, 654, 655, 656, 1227, 1228, 1229, 1230, 1231, 1232, 1233, 1234, 1235, 1270, 1271] (by decide +kernel) (by decide +kernel)
set_option maxRecDepth 20000 in
theorem gL_law_X9_clearBuffer : GoodIn wsL_law (wsV RL 139 RX9 yX9_clearBuffer wsX9_clearBuffer) := goodIn_app (goodIn_of _ (by decide +kernel)) ggL_law_X9_clearBuffer
set_option maxRecDepth 20000 in
theorem ggL_law_X10_clearBuffer : GoodIn wsL_law wsX10_clearBuffer := goodIn_r _ [660, 206, 648, 1236, 1237, 1238, 1239, 1240, 1241, 1242, 1243, 1244, 1245, 1246, 1247, 1248, 1249, 1250, 1251, 1252, 1253, 1254, 1255, 1256, 1257, 1258, 1259, 1260, 1261] (by decide +kernel) (by decide +kernel)
set_option maxRecDepth 20000 in
theorem gL_law_X10_clearBuffer : GoodIn wsL_law (wsV RL 142 RX10 yX10_clearBuffer wsX10_clearBuffer) := goodIn_app (goodIn_of _ (by decide +kernel)) ggL_law_X10_clearBuffer
set_option maxRecDepth 20000 in
theorem ggL_law_X9_firstError : GoodIn wsL_law wsX9_firstError := goodIn_r _ [664, 25, 665, 666, 667, 24, 668, 71, 669, 670, 671, 672, 673, 674, 675, 676, 70, 677, 678, 679, 1227, 1228, 1229, 1230, 1231, 1232, 1233, 1234, 1235, 1270, 1271] (by decide +kernel) (by decide +kernel)
set_option maxRecDepth 20000 in
theorem gL_law_X9_firstError : GoodIn wsL_law (wsV RL 143 RX9 yX9_firstError wsX9_firstError) := goodIn_app (goodIn_of _ (by decide +kernel)) ggL_law_X9_firstError
set_option maxRecDepth 20000 in
theorem ggL_law_X10_firstError : GoodIn wsL_law wsX10_firstError := goodIn_r _ [683, 206, 684, 685, 686, 5, 687, 648, 138, 210, 211, 212, 1236, 1237, 1238, 1239, 1240, 1241, 1242, 1243, 1244, 1245, 1246, 1247, 1248, 1249, 1250, 1251, 1252, 1253, 1254, 1255, 1256, 1257, 1258, 1259, 1260, 1261] (by decide +kernel) (by decide +kernel)
set_option maxRecDepth 20000 in
theorem gL_law_X10_firstError : GoodIn wsL_law (wsV RL 146 RX10 yX10_firstError wsX10_firstError) := goodIn_app (goodIn_of _ (by decide +kernel)) ggL_law_X10_firstError
set_option maxRecDepth 20000 in
theorem ggL_law_L_writeRow : GoodIn wsL_law wsL_writeRow := goodIn_ca (goodIn_ca (goodIn_ca (goodIn_r _ [690, 157, 158, 159, 691, 692, 693, 2, 694, 171, 172, 164, 165, 166, 167, 25, 21, 16, 695, 696, 697, 24, 698, 71, 699, 666, 667, 668, 669, 670, 671, 672, 673, 674, 675, 676, 70, 677, 678, 679, 700, 701, 702, 703, 173, 174, 175, 176, 177, 178, 15, 179, 53, 180, 181, 182, 183, 184, 20, 185, 64, 61, 186, 187, 188, 189, 190, 191, 192, 193, 51, 54, 55, 704, 198, 199, 200, 201, 653, 654, 655, 656, 1227, 1228, 1229, 1230, 1231, 1232, 1233, 1234, 1235, 1270, 1271, 1262, 1263, 1264, 1265, 1266, 1267, 1268, 1269] (by decide +kernel) (by decide +kernel)) (goodIn_sub (fun _ h => List.mem_append_right _ h) (by decide +kernel))) (goodIn_sub (fun _ h => List.mem_append_left _ (List.mem_append_left _ (List.mem_append_right _ h))) (by decide +kernel))) (goodIn_sub (fun _ h => List.mem_append_left _ (List.mem_append_right _ h)) (by decide +kernel))
set_option maxRecDepth 20000 in
theorem gL_law_L_writeRow : GoodIn wsL_law (va_wsS RL 147 yL_writeRow wsL_writeRow) := goodIn_app (goodIn_of _ (by decide +kernel)) ggL_law_L_writeRow
set_option maxRecDepth 20000 in
theorem ggL_law_X10_writeRow : GoodIn wsL_law wsX10_writeRow := goodIn_r _ [708, 206, 648, 134, 138, 210, 211, 5, 212, 294, 295, 296, 297, 684, 685, 686, 687, 213, 214, 215, 216, 217, 135, 1236, 1237, 1238, 1239, 1240, 1241, 1242, 1243, 1244, 1245, 1246, 1247, 1248, 1249, 1250, 1251, 1252, 1253, 1254, 1255, 1256, 1257, 1258, 1259, 1260, 1261] (by decide +kernel) (by decide +kernel)
set_option maxRecDepth 20000 in
theorem gL_law_X10_writeRow : GoodIn wsL_law (wsV RL 149 RX10 yX10_writeRow wsX10_writeRow) := goodIn_app (goodIn_of _ (by decide +kernel)) ggL_law_X10_writeRow
set_option maxRecDepth 20000 in
theorem ggL_law_L_keep : GoodIn wsL_law wsL_keep := goodIn_ca (goodIn_r _ [711, 158, 712, 713, 714, 2, 715, 21, 16, 716, 717, 718, 164, 165, 719, 720, 721, 20, 722, 62, 63, 190, 191, 192, 15, 193, 51, 53, 54, 55, 1227, 1228, 1229, 1230, 1231, 1232, 1233, 1234, 1235, 1266, 1267, 1268, 1269, 1262, 1263, 1264, 1265] (by decide +kernel) (by decide +kernel)) (goodIn_sub (fun _ h => List.mem_append_left _ (List.mem_append_left _ (List.mem_append_right _ h))) (by decide +kernel))
set_option maxRecDepth 20000 in
theorem gL_law_L_keep : GoodIn wsL_law (va_wsS RL 150 yL_keep wsL_keep) := goodIn_app (goodIn_of _ (by decide +kernel)) ggL_law_L_keep
set_option maxRecDepth 20000 in
theorem ggL_law_X10_keep : GoodIn wsL_law wsX10_keep := goodIn_r _ [726, 206, 136, 134, 137, 210, 211, 5, 212, 1236, 1237, 1238, 1239, 1240, 1241, 1242, 1243, 1244, 1245, 1246, 1247, 1248, 1249, 1250, 1251, 1252, 1253, 1254, 1255, 1256, 1257, 1258, 1259, 1260, 1261] (by decide +kernel) (by decide +kernel)
set_option maxRecDepth 20000 in
theorem gL_law_X10_keep : GoodIn wsL_law (wsV RL 153 RX10 yX10_keep wsX10_keep) := goodIn_app (goodIn_of _ (by decide +kernel)) ggL_law_X10_keep
set_option maxRecDepth 20000 in
theorem ggL_law_L_goBack : GoodIn wsL_law wsL_goBack := goodIn_ca (goodIn_ca (goodIn_r _ [729, 158, 159, 730, 731, 732, 2, 733, 166, 167, 21, 16, 716, 717, 718, 164, 165, 734, 735, 736, 20, 737, 63, 182, 183, 184, 185, 64, 61, 186, 187, 188, 189, 190, 191, 192, 15, 193, 51, 53, 54, 55, 738, 739, 740, 741, 62, 742, 1227, 1228, 1229, 1230, 1231, 1232, 1233, 1234, 1235, 1266, 1267, 1268, 1269, 1262, 1263, 1264, 1265] (by decide +kernel) (by decide +kernel)) (goodIn_sub (fun _ h => List.mem_append_left _ (List.mem_append_right _ h)) (by decide +kernel))) (goodIn_sub (fun _ h => List.mem_append_left _ (List.mem_append_left _ (List.mem_append_right _ h))) (by decide +kernel))
set_option maxRecDepth 20000 in
theorem gL_law_L_goBack : GoodIn wsL_law (va_wsS RL 154 yL_goBack wsL_goBack) := goodIn_app (goodIn_of _ (by decide +kernel)) ggL_law_L_goBack
set_option maxRecDepth 20000 in
theorem ggL_law_X10_goBack : GoodIn wsL_law wsX10_goBack := goodIn_r _ [746, 137, 206, 134, 136, 210, 211, 5, 212, 213, 214, 215, 216, 217, 135, 1236, 1237, 1238, 1239, 1240, 1241, 1242, 1243, 1244, 1245, 1246, 1247, 1248, 1249, 1250, 1251, 1252, 1253, 1254, 1255, 1256, 1257, 1258, 1259, 1260, 1261] (by decide +kernel) (by decide +kernel)
set_option maxRecDepth 20000 in
theorem gL_law_X10_goBack : GoodIn wsL_law (wsV RL 156 RX10 yX10_goBack wsX10_goBack) := goodIn_app (goodIn_of _ (by decide +kernel)) ggL_law_X10_goBack
set_option maxRecDepth 20000 in
theorem ggL_law_L_undo : GoodIn wsL_law wsL_undo := goodIn_ca (goodIn_r _ [749, 159, 750, 751, 752, 2, 753, 166, 167, 21, 16, 754, 755, 756, 20, 757, 64, 758, 759, 760, 761, 61, 190, 191, 192, 15, 193, 51, 53, 54, 55, 1227, 1228, 1229, 1230, 1231, 1232, 1233, 1234, 1235, 1266, 1267, 1268, 1269, 1262, 1263, 1264, 1265] (by decide +kernel) (by decide +kernel)) (goodIn_sub (fun _ h => List.mem_append_left _ (List.mem_append_right _ h)) (by decide +kernel))
set_option maxRecDepth 20000 in
theorem gL_law_L_undo : GoodIn wsL_law (va_wsS RL 157 yL_undo wsL_undo) := goodIn_app (goodIn_of _ (by decide +kernel)) ggL_law_L_undo
set_option maxRecDepth 20000 in
theorem ggL_law_X10_undo : GoodIn wsL_law wsX10_undo := goodIn_r _ [765, 217, 206, 134, 135, 1236, 1237, 1238, 1239, 1240, 1241, 1242, 1243, 1244, 1245, 1246, 1247, 1248, 1249, 1250, 1251, 1252, 1253, 1254, 1255, 1256, 1257, 1258, 1259, 1260, 1261] (by decide +kernel) (by decide +kernel)
set_option maxRecDepth 20000 in
theorem gL_law_X10_undo : GoodIn wsL_law (wsV RL 160 RX10 yX10_undo wsX10_undo) := goodIn_app (goodIn_of _ (by decide +kernel)) ggL_law_X10_undo
set_option maxRecDepth 20000 in
theorem ggL_law_X9_savedStates : GoodIn wsL_law wsX9_savedStates := goodIn_r _ [769, 21, 754, 755, 756, 20, 757, 64, 1227, 1228, 1229, 1230, 1231, 1232, 1233, 1234, 1235, 1266, 1267, 1268, 1269] (by decide +kernel) (by decide +kernel)
set_option maxRecDepth 20000 in
theorem gL_law_X9_savedStates : GoodIn wsL_law (wsV RL 161 RX9 yX9_savedStates wsX9_savedStates) := goodIn_app (goodIn_of _ (by decide +kernel)) ggL_law_X9_savedStates
set_option maxRecDepth 20000 in
theorem ggL_law_X10_savedStates : GoodIn wsL_law wsX10_savedStates := goodIn_r _ [773, 206, 217, 1236, 1237, 1238, 1239, 1240, 1241, 1242, 1243, 1244, 1245, 1246, 1247, 1248, 1249, 1250, 1251, 1252, 1253, 1254, 1255, 1256, 1257, 1258, 1259, 1260, 1261] (by decide +kernel) (by decide +kernel)
set_option maxRecDepth 20000 in
theorem gL_law_X10_savedStates : GoodIn wsL_law (wsV RL 164 RX10 yX10_savedStates wsX10_savedStates) := goodIn_app (goodIn_of _ (by decide +kernel)) ggL_law_X10_savedStates
set_option maxRecDepth 20000 in
theorem ggL_law_L_numberAt : GoodIn wsL_law wsL_numberAt := goodIn_ca (goodIn_r _ [776, 157, 777, 778, 779, 2, 780, 16, 168, 169, 170, 171, 172, 173, 174, 175, 194, 195, 196, 15, 197, 51, 180, 181, 1227, 1228, 1229, 1230, 1231, 1232, 1233, 1234, 1235, 1262, 1263, 1264, 1265] (by decide +kernel) (by decide +kernel)) (goodIn_sub (fun _ h => List.mem_append_right _ h) (by decide +kernel))
set_option maxRecDepth 20000 in
theorem gL_law_L_numberAt : GoodIn wsL_law (va_wsS RL 165 yL_numberAt wsL_numberAt) := goodIn_app (goodIn_of _ (by decide +kernel)) ggL_law_L_numberAt
