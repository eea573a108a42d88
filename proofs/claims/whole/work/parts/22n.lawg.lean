set_option maxRecDepth 20000 in
theorem ggL_law_X10_digest_r1 : GoodIn wsL_law (.code yX10_digest cX10_digest 4 (some .long) :: wsX10_digest_r1) := goodIn_r _ [1214, 206, 1215, 1216, 134, 525, 140, 141, 530, 150, 149, 217, 137, 648, 138, 526, 527, 528, 5, 529, 143, 144, 531, 532, 533] (by decide +kernel) (by decide +kernel)
set_option maxRecDepth 20000 in
theorem ggL_law_X10_digest_r2 : GoodIn wsL_law wsX10_digest_r2 := goodIn_r _ [534, 142, 360, 361, 362, 363, 364, 365, 366, 367, 535, 536, 537, 538, 139, 353, 354, 355, 539, 540, 541, 542, 145, 543] (by decide +kernel) (by decide +kernel)
set_option maxRecDepth 20000 in
theorem ggL_law_X10_digest_r3 : GoodIn wsL_law wsX10_digest_r3 := goodIn_r _ [146, 544, 545, 546, 547, 548, 1217, 1218, 1219, 1220, 1221, 412, 413, 414, 415, 368, 369, 370, 371, 372, 373, 897, 898, 899] (by decide +kernel) (by decide +kernel)
set_option maxRecDepth 20000 in
theorem ggL_law_X10_digest_r4 : GoodIn wsL_law wsX10_digest_r4 := goodIn_r _ [900, 937, 938, 939, 940, 956, 957, 958, 959, 561, 562, 563, 564, 803, 804, 805, 806, 433, 434, 435, 436, 993, 994, 995] (by decide +kernel) (by decide +kernel)
set_option maxRecDepth 20000 in
theorem ggL_law_X10_digest_r5 : GoodIn wsL_law wsX10_digest_r5 := goodIn_r _ [996, 549, 550, 551, 552, 553, 554, 555, 556, 557, 558, 559, 560, 1047, 1048, 1049, 1050, 621, 622, 623, 624, 148, 147, 625] (by decide +kernel) (by decide +kernel)
set_option maxRecDepth 20000 in
theorem ggL_law_X10_digest_r6 : GoodIn wsL_law wsX10_digest_r6 := goodIn_r _ [626, 627, 628, 374, 375, 376, 1159, 1160, 1161, 1162, 1222, 1223, 1224, 1225, 1226] (by decide +kernel) (by decide +kernel)
set_option maxRecDepth 20000 in
theorem ggL_law_X10_digest_r0 : GoodIn wsL_law wsX100 := goodIn_r _ [1236, 1237, 1238, 1239, 1240, 1241, 1242, 1243, 1244, 1245, 1246, 1247, 1248, 1249, 1250, 1251, 1252, 1253, 1254, 1255, 1256, 1257, 1258, 1259, 1260, 1261] (by decide +kernel) (by decide +kernel)
theorem ggL_law_X10_digest : GoodIn wsL_law wsX10_digest := goodIn_ca (goodIn_ca ggL_law_X10_digest_r1 (goodIn_app ggL_law_X10_digest_r2 (goodIn_app ggL_law_X10_digest_r3 (goodIn_app ggL_law_X10_digest_r4 (goodIn_app ggL_law_X10_digest_r5 (ggL_law_X10_digest_r6)))))) ggL_law_X10_digest_r0
set_option maxRecDepth 20000 in
theorem gL_law_X10_digest : GoodIn wsL_law (wsV RL 268 RX10 yX10_digest wsX10_digest) := goodIn_app (goodIn_of _ (by decide +kernel)) ggL_law_X10_digest
