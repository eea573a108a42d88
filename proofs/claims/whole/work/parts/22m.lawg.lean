set_option maxRecDepth 20000 in
theorem ggL_law_X9_digest_r13 : GoodIn wsL_law wsX9_digest_r13 := goodIn_r _ [588, 589, 590, 591, 592, 593, 594, 595, 596, 597, 124, 598, 599, 600, 342, 343, 344, 95, 96, 601, 606, 607, 608, 609] (by decide +kernel) (by decide +kernel)
set_option maxRecDepth 20000 in
theorem ggL_law_X9_digest_r14 : GoodIn wsL_law wsX9_digest_r14 := goodIn_r _ [610, 611, 612, 613, 614, 615, 754, 755, 756, 20, 757, 64, 1194, 1151, 1152, 1153, 887, 1154, 1195, 1196, 1197, 1198, 1199, 1200] (by decide +kernel) (by decide +kernel)
set_option maxRecDepth 20000 in
theorem ggL_law_X9_digest_r15 : GoodIn wsL_law wsX9_digest_r15 := goodIn_r _ [1201, 1202, 1203, 1204, 1205, 734, 735, 736, 737, 63, 636, 637, 638, 24, 639, 71, 1206, 674, 675, 676, 70, 1207, 1208, 1209] (by decide +kernel) (by decide +kernel)
set_option maxRecDepth 20000 in
theorem ggL_law_X9_digest_r16 : GoodIn wsL_law wsX9_digest_r16 := goodIn_r _ [1210] (by decide +kernel) (by decide +kernel)
set_option maxRecDepth 20000 in
theorem ggL_law_X9_digest_wsX20 : GoodIn wsL_law wsX20 := goodIn_r _ [1300] (by decide +kernel) (by decide +kernel)
set_option maxRecDepth 20000 in
theorem ggL_law_X9_digest_wsX90 : GoodIn wsL_law wsX90 := goodIn_r _ [1227, 1228, 1229, 1230, 1231, 1232, 1233, 1234, 1235] (by decide +kernel) (by decide +kernel)
set_option maxRecDepth 20000 in
theorem ggL_law_X9_digest_wsX80 : GoodIn wsL_law wsX80 := goodIn_r _ [1284, 1285, 1286, 1287, 1288, 1289, 1290] (by decide +kernel) (by decide +kernel)
set_option maxRecDepth 20000 in
theorem ggL_law_X9_digest_wsX70 : GoodIn wsL_law wsX70 := goodIn_r _ [1276, 1277, 1278, 1279, 1280, 1281, 1282, 1283] (by decide +kernel) (by decide +kernel)
set_option maxRecDepth 20000 in
theorem ggL_law_X9_digest_wsX00 : GoodIn wsL_law wsX00 := goodIn_r _ [1262, 1263, 1264, 1265] (by decide +kernel) (by decide +kernel)
set_option maxRecDepth 20000 in
theorem ggL_law_X9_digest_wsX60 : GoodIn wsL_law wsX60 := goodIn_r _ [1291, 1292, 1293, 1294] (by decide +kernel) (by decide +kernel)
set_option maxRecDepth 20000 in
theorem ggL_law_X9_digest_wsX10 : GoodIn wsL_law wsX10 := goodIn_r _ [1295, 1296, 1297, 1298, 1299] (by decide +kernel) (by decide +kernel)
set_option maxRecDepth 20000 in
theorem ggL_law_X9_digest_wsX30 : GoodIn wsL_law wsX30 := goodIn_r _ [1266, 1267, 1268, 1269] (by decide +kernel) (by decide +kernel)
set_option maxRecDepth 20000 in
theorem ggL_law_X9_digest_wsX40 : GoodIn wsL_law wsX40 := goodIn_r _ [1270, 1271] (by decide +kernel) (by decide +kernel)
theorem ggL_law_X9_digest : GoodIn wsL_law wsX9_digest := goodIn_ca (goodIn_ca (goodIn_ca (goodIn_ca (goodIn_ca (goodIn_ca (goodIn_ca (goodIn_ca (goodIn_ca (goodIn_ca ggL_law_X9_digest_r1 (goodIn_app ggL_law_X9_digest_r2 (goodIn_app ggL_law_X9_digest_r3 (goodIn_app ggL_law_X9_digest_r4 (goodIn_app ggL_law_X9_digest_r5 (goodIn_app ggL_law_X9_digest_r6 (goodIn_app ggL_law_X9_digest_r7 (goodIn_app ggL_law_X9_digest_r8 (goodIn_app ggL_law_X9_digest_r9 (goodIn_app ggL_law_X9_digest_r10 (goodIn_app ggL_law_X9_digest_r11 (goodIn_app ggL_law_X9_digest_r12 (goodIn_app ggL_law_X9_digest_r13 (goodIn_app ggL_law_X9_digest_r14 (goodIn_app ggL_law_X9_digest_r15 (ggL_law_X9_digest_r16)))))))))))))))) ggL_law_X9_digest_wsX20) ggL_law_X9_digest_wsX90) ggL_law_X9_digest_wsX80) ggL_law_X9_digest_wsX70) ggL_law_X9_digest_wsX00) ggL_law_X9_digest_wsX60) ggL_law_X9_digest_wsX10) ggL_law_X9_digest_wsX30) ggL_law_X9_digest_wsX40
set_option maxRecDepth 20000 in
theorem gL_law_X9_digest : GoodIn wsL_law (wsV RL 264 RX9 yX9_digest wsX9_digest) := goodIn_app (goodIn_of _ (by decide +kernel)) ggL_law_X9_digest
